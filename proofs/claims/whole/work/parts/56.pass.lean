theorem tenth_n {m : St} {q h w t e s : Nat} (hh : h < 8) (hq : q < 3) (ew : m.1 503 h = nI w) (w9 : w ≤ 999) (et : m.1 502 0 = nI t) (t9 : t ≤ 100) (ee : m.1 511 q = nI e) (es : m.1 510 q = nI s) (h1 : e ≤ s) (h2 : s ≤ 200) : ∃ k, k ≤ w ∧ k ≤ s - e ∧ fX10_tenthOf m (nI q) (nI h) = some (nI k) := by
  have hm : w * t ≤ w * 100 := Nat.mul_le_mul_left w t9
  refine ⟨min (w * t / 100) (s - e), by omega, by omega, ?_⟩
  unfold fX10_tenthOf
  simp (disch := omega) only [lit_nI, gd_ix, cl_nI, nm_eq, ew, et, ee, es, pk_mul, pk_div, pk_sub, le_nI, lt_nI]
  by_cases hc : s - e ≤ w * t / 100
  · rw [if_pos hc, Nat.min_eq_right hc]
  · rw [if_neg hc, Nat.min_eq_left (by omega)]
theorem calls_m {m : St} {q h : Nat} {x : Int32} (hh : h < 8) (hq : q < 3) (hx : fX10_tenthOf m (nI q) (nI h) = some x) : fX10_calls (nI q) (nI h) m = some (x, ui (ui (ui (ui m 509 q (nI h)) 508 h (m.1 502 6)) 503 h (m.1 503 h - x)) 511 q (m.1 511 q + x)) := by
  unfold fX10_calls
  rw [hx]
  simp (disch := omega) only [lit_nI, gd_ix, cl_nI, nm_eq, br_some, ui_rd, Nat.reduceEqDiff, if_false]
/-- all that a night needs of a row and a duchy -/
def NR (H O N a : Nat) (c m : St) : Prop := LandR H O c 134 m ∧ SnowR c 134 m ∧ RowR H O (c.1 a) m ∧ Way H O m ∧ Wm H m ∧ Bd H O m ∧ m.1 502 6 = nI N
theorem NR.ls {H O N a : Nat} {c m c1 m1 : St} (h : NR H O N a c m) (h1 : LSx c c1) (h2 : LSx m m1) : NR H O N a c1 m1 := by
  unfold NR LandR SnowR Way Wm Bd RowR at h ⊢
  rw [h1.1, h2.1]
  exact h
theorem LSx.cf {a : Nat} {c c1 : St} (h : LSx c c1) : CF a c c1 := ⟨fun k _ => by rw [h.1], h.2⟩
theorem LSx.mf {m m1 : St} (h : LSx m m1) : MF m m1 := ⟨fun k i _ _ _ _ _ _ => by rw [h.1], h.2⟩
theorem SnowR.keep {c c1 m m1 : St} {a : Nat} (ha : RS a) (hs : SnowR c 134 m) (hc : CF a c c1) (hm : MF m m1) : SnowR c1 134 m1 := by
  unfold RS at ha
  obtain ⟨S, s6, e, hk⟩ := hs
  refine ⟨S, s6, ?_, ?_⟩
  · rw [hc.1 134 (by omega)]
    exact e
  · intro k hk9
    rw [hc.1 (134 + 12) (by omega), hm.1 512 k (by omega) (by omega) (by omega) (by omega) (by omega) (by omega)]
    exact hk k hk9
theorem callAt_w {H O N : Nat} {c m : St} {a q h : Nat} (ha : RS a) (hn : NR H O N a c m) (hN : N < 100000) (ht : c.1 50 3 = m.1 502 0) (hq : q < O) (hh : h < H) : ∃ x c1 m1, fX8_callAt a 41 (nI q) (nI h) c = some (x, c1) ∧ fX10_calls (nI q) (nI h) m = some (x, m1) ∧ NR H O N a c1 m1 ∧ CF a c c1 ∧ MF m m1 ∧ m1.1 502 7 = m.1 502 7 ∧ ∃ k, k ≤ 200 ∧ x = nI k := by
  obtain ⟨hl, hs, hr, hw, hm, hb, hN6⟩ := hn
  obtain ⟨x, c1, m1, a1, a2, a3, a4, a5, a6⟩ := callAt_v hl hr hw ht hq hh
  have hH := hl.1
  have hO := hl.2.1
  obtain ⟨⟨w, w9, ew⟩, -⟩ := hm h hh
  obtain ⟨b1, b2, b3, ⟨t, t9, et⟩, b5⟩ := hb
  obtain ⟨e, s, es1, s2, ee, es⟩ := b2 q hq
  obtain ⟨k, k1, k2, kx⟩ := tenth_n (by omega) (by omega) ew w9 et t9 ee es es1 s2
  have a2' := calls_m (by omega) (by omega) kx
  rw [a2] at a2'
  have ex : x = nI k := congrArg Prod.fst (Option.some.inj a2')
  have em := congrArg Prod.snd (Option.some.inj a2')
  simp only at em
  subst ex
  rw [ew, ee, hN6, pk_sub k1, nI_add] at em
  refine ⟨nI k, c1, m1, a1, a2, ⟨hl.keep ha a5 a6, hs.keep ha a5 a6, a3, a4, ?_, ?_, ?_⟩, a5, a6, ?_, k, by omega, rfl⟩
  · intro h' hh'
    obtain ⟨⟨w', w9', ew'⟩, ht'⟩ := hm h' hh'
    rw [em]
    simp only [ui_rd, Nat.reduceEqDiff, if_false, if_true]
    refine ⟨?_, ht'⟩
    by_cases e' : h' = h
    · rw [if_pos e']
      exact ⟨w - k, by omega, rfl⟩
    · rw [if_neg e']
      exact ⟨w', w9', ew'⟩
  · rw [em]
    simp only [Bd, ui_rd, Nat.reduceEqDiff, if_false, if_true]
    refine ⟨fun h' hh' => ?_, fun q' hq' => ?_, b3, ⟨t, t9, et⟩, b5⟩
    · obtain ⟨c1', c2', c3'⟩ := b1 h' hh'
      refine ⟨c1', c2', ?_⟩
      by_cases e' : h' = h
      · rw [if_pos e']
        exact Or.inr ⟨N, hN, rfl⟩
      · rw [if_neg e']
        exact c3'
    · by_cases e' : q' = q
      · rw [if_pos e']
        subst e'
        exact ⟨e + k, s, by omega, s2, rfl, es⟩
      · rw [if_neg e']
        exact b2 q' hq'
  · rw [em]
    simp only [ui_rd, Nat.reduceEqDiff, if_false, if_true]
    exact hN6
  · rw [em]
    simp only [ui_rd, Nat.reduceEqDiff, if_false]
theorem RuleR.cg {r : Nat} {c m c1 m1 : St} (h : RuleR r c m) (hc : ∀ k, 400 + 10 * r ≤ k → k < 400 + 10 * r + 10 → c1.1 k = c.1 k) (h1 : m1.1 543 r = m.1 543 r) (h2 : ∀ i, i < 12 → m1.1 544 (12 * r + i) = m.1 544 (12 * r + i) ∧ m1.1 545 (12 * r + i) = m.1 545 (12 * r + i) ∧ m1.1 546 (12 * r + i) = m.1 546 (12 * r + i)) (h3 : ∀ j, j < 300 → m1.1 541 (300 * r + j) = m.1 541 (300 * r + j) ∧ m1.1 542 (300 * r + j) = m.1 542 (300 * r + j)) : RuleR r c1 m1 := by
  obtain ⟨nc, n12, f1, f2, hcl⟩ := h
  refine ⟨nc, n12, by rw [hc _ (by omega) (by omega)]; exact f1, by rw [h1]; exact f2, fun i hi => ?_⟩
  obtain ⟨s, t, e, st, te, e3, a1, a2, a3, b1, b2, b3, sg1, sg2, hcd⟩ := hcl i hi
  obtain ⟨g1, g2, g3⟩ := h2 i (by omega)
  refine ⟨s, t, e, st, te, e3, ?_, ?_, ?_, ?_, ?_, ?_, ?_, ?_, ?_⟩
  · rw [hc _ (by omega) (by omega)]
    exact a1
  · rw [hc _ (by omega) (by omega)]
    exact a2
  · rw [hc _ (by omega) (by omega)]
    exact a3
  · rw [g1]
    exact b1
  · rw [g2]
    exact b2
  · rw [g3]
    exact b3
  · exact sg1.congr (fun j q1 q2 => h3 j (by omega))
  · rcases sg2 with q | q
    · exact Or.inl q
    · exact Or.inr (q.congr (fun j q1 q2 => h3 j (by omega)))
  · intro j q1 q2
    rw [hc _ (by omega) (by omega), (h3 j (by omega)).1, (h3 j (by omega)).2]
    exact hcd j q1 q2
theorem RuleR.keep {r : Nat} {c m c1 m1 : St} {a : Nat} (ha : RS a) (h : RuleR r c m) (hc : CF a c c1) (hm : MF m m1) : RuleR r c1 m1 := by
  unfold RS at ha
  refine h.cg (fun k k1 k2 => hc.1 k (by omega)) ?_ (fun i hi => ⟨?_, ?_, ?_⟩) (fun j hj => ⟨?_, ?_⟩) <;> exact hm.1 _ _ (by omega) (by omega) (by omega) (by omega) (by omega) (by omega)
/-- the rule that is followed -/
def Law (L : List Nat) (c m : St) : Prop := (c.2.2 50 2 = none ∧ m.1 502 11 = -nI 1) ∨ ∃ r, r < 6 ∧ c.2.2 50 2 = some (400 + 10 * r) ∧ m.1 502 11 = nI r ∧ RuleR r c m ∧ okRb L (400 + 10 * r) = true
theorem Law.keep {L : List Nat} {c m c1 m1 : St} {a : Nat} (ha : RS a) (h : Law L c m) (hc : CF a c c1) (hm : MF m m1) : Law L c1 m1 := by
  have e : m1.1 502 11 = m.1 502 11 := hm.1 _ _ (by omega) (by omega) (by omega) (by omega) (by omega) (by omega)
  unfold Law
  rw [hc.2, e]
  rcases h with h | ⟨r, r6, h1, h2, h3, h4⟩
  · exact Or.inl h
  · exact Or.inr ⟨r, r6, h1, h2, h3.keep ha hc hm, h4⟩
theorem choose_L {L : List Nat} {H O N a q r : Nat} (hr6 : r < 6) (hok : okRb L (400 + 10 * r) = true) (hq : q < O) (hN : N < 100000) : ∀ (d h n1 n2 : Nat) (c m : St) (y : Int32) (z : Int64), h + d = H → d < n1 → d < n2 → NR H O N a c m → c.1 50 3 = m.1 502 0 → c.2.2 50 2 = some (400 + 10 * r) → m.1 502 11 = nI r → RuleR r c m → (y = -nI 1 ∨ ∃ k, k < H ∧ y = nI k) → ∃ x c1 m1, fX8_choose_L17 L a 41 (nI q) n1 y z (nI h) c = some (x, c1) ∧ fX10_callsBy_L7 (nI q) n2 y z (nI h) m = (if x = -nI 1 then some (nI 0, m1) else fX10_calls (nI q) x m1) ∧ (x = -nI 1 ∨ ∃ k, k < H ∧ x = nI k) ∧ LSx c c1 ∧ LSx m m1 := by
  intro d
  induction d with
  | zero =>
    intro h n1 n2 c m y z hd h1 h2 hn ht hl hf hR hy
    obtain ⟨n1, rfl⟩ : ∃ k, n1 = k + 1 := ⟨n1 - 1, by omega⟩
    obtain ⟨n2, rfl⟩ : ∃ k, n2 = k + 1 := ⟨n2 - 1, by omega⟩
    obtain ⟨⟨h8, h3, -, l3, l4, l5, -⟩, -⟩ := hn
    refine ⟨y, c, m, ?_, ?_, hy, LSx.rf, LSx.rf⟩
    · rw [fX8_choose_L17, l4, if_pos (by rw [le_nI (by omega) (by omega)]; omega)]
    · rw [fX10_callsBy_L7, l5, if_pos (by rw [le_nI (by omega) (by omega)]; omega)]
      simp only [lit_nI, bw_id]
  | succ d ih =>
    intro h n1 n2 c m y z hd h1 h2 hn ht hl hf hR hy
    obtain ⟨n1, rfl⟩ : ∃ k, n1 = k + 1 := ⟨n1 - 1, by omega⟩
    obtain ⟨n2, rfl⟩ : ∃ k, n2 = k + 1 := ⟨n2 - 1, by omega⟩
    have hn0 := hn
    obtain ⟨hl0, hs, hr, hw, hm, hb, hN6⟩ := hn
    have hl1 := hl0
    obtain ⟨h8, h3, -, l3, l4, l5, -⟩ := hl1
    obtain ⟨x, x1, x2⟩ := canCall_v hl0 hr hw hq (show h < H by omega)
    have go : ∀ (c' m' : St) (y' : Int32) (z' : Int64), LSx c c' → LSx m m' → (y' = -nI 1 ∨ ∃ k, k < H ∧ y' = nI k) → ∃ x c1 m1, fX8_choose_L17 L a 41 (nI q) n1 y' z' (nI (h + 1)) c' = some (x, c1) ∧ fX10_callsBy_L7 (nI q) n2 y' z' (nI (h + 1)) m' = (if x = -nI 1 then some (nI 0, m1) else fX10_calls (nI q) x m1) ∧ (x = -nI 1 ∨ ∃ k, k < H ∧ x = nI k) ∧ LSx c c1 ∧ LSx m m1 := by
      intro c' m' y' z' lc lm hy'
      obtain ⟨x, c1, m1, g1, g2, g3, g4, g5⟩ := ih (h + 1) n1 n2 c' m' y' z' (by omega) (by omega) (by omega) (hn0.ls lc lm) (by rw [lc.1, lm.1]; exact ht) (by rw [lc.2]; exact hl) (by rw [lm.1]; exact hf) (hR.ls lc lm) hy'
      exact ⟨x, c1, m1, g1, g2, g3, lc.tr g4, lm.tr g5⟩
    rw [fX8_choose_L17, fX10_callsBy_L7, l4, l5, if_neg (by rw [le_nI (by omega) (by omega)]; omega), if_neg (by rw [le_nI (by omega) (by omega)]; omega), x1, x2, br_some, br_some]
    by_cases e0 : x = 0
    · rw [if_pos e0, if_pos e0]
      simp only [nm_eq, lit_nI, nI_add]
      exact go c m y z LSx.rf LSx.rf hy
    · rw [if_neg e0, if_neg e0]
      obtain ⟨c1, m1, t1, t2, t3, t4, t5⟩ := tell_v hl0 hr hb hN6 hN ht hq (show h < H by omega)
      obtain ⟨v, c2, m2, w1, w2, w3, w4⟩ := worth_v hr6 (hR.ls t3 t4) (by rw [t4.1]; exact hf) t5
      rw [t1, br_some, t3.2, hl, br_some, hok, gd_tt, w1, bw_some, t2, w2, bw_some]
      by_cases e1 : lg_cmp v z ≤ 0
      · rw [if_pos e1, if_pos e1]
        simp only [nm_eq, lit_nI, nI_add]
        exact go c2 m2 y z (t3.tr w3) (t4.tr w4) hy
      · rw [if_neg e1, if_neg e1]
        simp only [nm_eq, lit_nI, nI_add]
        exact go c2 m2 (nI h) v (t3.tr w3) (t4.tr w4) (Or.inr ⟨h, by omega, rfl⟩)
/-- frozen houses stay so -/
def Gr (f f1 : Int32) : Prop := ∃ g : Int32, f1 = f ||| g
theorem Gr.rf {f : Int32} : Gr f f := ⟨nI 0, (or0_nI f).symm⟩
theorem Gr.tr {f f1 f2 : Int32} (h1 : Gr f f1) (h2 : Gr f1 f2) : Gr f f2 := by
  obtain ⟨g1, e1⟩ := h1
  obtain ⟨g2, e2⟩ := h2
  exact ⟨g1 ||| g2, by rw [e2, e1, Int32.or_assoc]⟩
theorem burn_w {H O N a : Nat} {p2 : Int32} {c m : St} (ha : RS a) (hn : NR H O N a c m) (hb : N < 99999) (hp : m.1 500 49 = p2) : ∃ c1 m1, fX8_burn a 41 p2 c = some c1 ∧ fX10_burns m = some m1 ∧ NR H O (N + 1) a c1 m1 ∧ CF a c c1 ∧ MF m m1 ∧ Gr (m.1 502 7) (m1.1 502 7) := by
  obtain ⟨hl, hs, hr, hw, hm, ⟨b1, b2, b3, b4, lo, lo9, elo⟩, hN6⟩ := hn
  obtain ⟨c1, m1, t1, t2, t3, t4, t5, t6, t7, t8, t9⟩ := burn_v ha (by omega) elo hl hr hw hm hs hN6 (by omega) hp
  obtain ⟨u1, u2, u3⟩ := t9
  have hm1 := t7.1
  refine ⟨c1, m1, t1, t2, ⟨hl.keep ha t6 t7, hs.keep ha t6 t7, t3, t4, t5, ?_, t8⟩, t6, t7, u2⟩
  refine ⟨fun h hh => ?_, fun q hq => ?_, u3 b3, ?_, lo, lo9, ?_⟩
  · rw [hm1 506 h (by omega) (by omega) (by omega) (by omega) (by omega) (by omega), hm1 507 h (by omega) (by omega) (by omega) (by omega) (by omega) (by omega), (u1 h).1]
    exact b1 h hh
  · rw [hm1 510 q (by omega) (by omega) (by omega) (by omega) (by omega) (by omega), (u1 q).2]
    exact b2 q hq
  · rw [hm1 502 0 (by omega) (by omega) (by omega) (by omega) (by omega) (by omega)]
    exact b4
  · rw [hm1 502 1 (by omega) (by omega) (by omega) (by omega) (by omega) (by omega)]
    exact elo
theorem m1_lt : (-nI 1 < nI 0) = True := by decide
theorem pass_none {L : List Nat} {O a : Nat} {p2 : Int32} {c : St} (hO : O ≤ 3) (l6 : c.1 134 6 = nI O) (hl : c.2.2 50 2 = none) : ∀ (d q n1 : Nat) (y : Int32), q + d = O → d < n1 → fX8_pass_L5 L a 41 p2 n1 y (nI q) c = br (fX8_burn a 41 p2 c) (fun s => some (y, s)) := by
  intro d
  induction d with
  | zero =>
    intro q n1 y hd h1
    obtain ⟨n1, rfl⟩ : ∃ k, n1 = k + 1 := ⟨n1 - 1, by omega⟩
    rw [fX8_pass_L5, l6, if_pos (by rw [le_nI (by omega) (by omega)]; omega)]
  | succ d ih =>
    intro q n1 y hd h1
    obtain ⟨n1, rfl⟩ : ∃ k, n1 = k + 1 := ⟨n1 - 1, by omega⟩
    rw [fX8_pass_L5, l6, if_neg (by rw [le_nI (by omega) (by omega)]; omega)]
    unfold fX8_choose
    rw [if_pos hl, bw_some]
    simp only [lit_nI, m1_lt, if_true, nm_eq, nI_add]
    exact ih (q + 1) n1 y (by omega) (by omega)
theorem nI_lt0 {k : Nat} (h : k < 2147483648) : (nI k < nI 0) = False := by
  rw [lt_nI h (by omega)]
  simp
theorem pass_L {L : List Nat} {H O N a : Nat} {p2 : Int32} (ha : RS a) (hN : N < 99999) : ∀ (d q n1 n2 : Nat) (c m : St) (y : Int32), q + d = O → d < n1 → d < n2 → NR H O N a c m → c.1 50 3 = m.1 502 0 → Law L c m → m.1 500 49 = p2 → ∃ x c1 m1, fX8_pass_L5 L a 41 p2 n1 y (nI q) c = some (x, c1) ∧ fX10_goes_L4 n2 y (nI q) m = some (x, m1) ∧ NR H O (N + 1) a c1 m1 ∧ CF a c c1 ∧ MF m m1 ∧ Gr (m.1 502 7) (m1.1 502 7) := by
  intro d
  induction d with
  | zero =>
    intro q n1 n2 c m y hd h1 h2 hn ht hl hp
    obtain ⟨n1, rfl⟩ : ∃ k, n1 = k + 1 := ⟨n1 - 1, by omega⟩
    obtain ⟨n2, rfl⟩ : ∃ k, n2 = k + 1 := ⟨n2 - 1, by omega⟩
    have hn0 := hn
    obtain ⟨⟨h8, h3, -, -, -, -, -, l6, l7, -⟩, -⟩ := hn
    obtain ⟨c1, m1, t1, t2, t3⟩ := burn_w ha hn0 hN hp
    refine ⟨y, c1, m1, ?_, ?_, t3⟩
    · rw [fX8_pass_L5, l6, if_pos (by rw [le_nI (by omega) (by omega)]; omega), t1, br_some]
    · rw [fX10_goes_L4, l7, if_pos (by rw [le_nI (by omega) (by omega)]; omega), t2, br_some]
  | succ d ih =>
    intro q n1 n2 c m y hd h1 h2 hn ht hl hp
    have hn0 := hn
    obtain ⟨⟨h8, h3, -, -, -, -, -, l6, l7, -⟩, -⟩ := hn
    rcases hl with ⟨g1, g2⟩ | ⟨r, r6, g1, g2, g3, g4⟩
    · obtain ⟨c1, m1, t1, t2, t3⟩ := burn_w ha hn0 hN hp
      refine ⟨y, c1, m1, ?_, ?_, t3⟩
      · rw [pass_none h3 l6 g1 (d + 1) q n1 y hd h1, t1, br_some]
      · obtain ⟨n2, rfl⟩ : ∃ k, n2 = k + 1 := ⟨n2 - 1, by omega⟩
        rw [fX10_goes_L4, l7, if_neg (by rw [le_nI (by omega) (by omega)]; omega), g2]
        rw [if_pos (by rfl), t2, br_some]
    · obtain ⟨n1, rfl⟩ : ∃ k, n1 = k + 1 := ⟨n1 - 1, by omega⟩
      obtain ⟨n2, rfl⟩ : ∃ k, n2 = k + 1 := ⟨n2 - 1, by omega⟩
      obtain ⟨x, c1, m1, k1, k2, k3, k4, k5⟩ := choose_L (L := L) r6 g4 (show q < O by omega) (show N < 100000 by omega) H 0 10000 10000 c m (-nI 1) 0 (by omega) (by omega) (by omega) hn0 ht g1 g2 g3 (Or.inl rfl)
      have go : ∀ (c' m' : St) (y' : Int32), NR H O N a c' m' → CF a c c' → MF m m' → Gr (m.1 502 7) (m'.1 502 7) → ∃ x c1 m1, fX8_pass_L5 L a 41 p2 n1 y' (nI (q + 1)) c' = some (x, c1) ∧ fX10_goes_L4 n2 y' (nI (q + 1)) m' = some (x, m1) ∧ NR H O (N + 1) a c1 m1 ∧ CF a c c1 ∧ MF m m1 ∧ Gr (m.1 502 7) (m1.1 502 7) := by
        intro c' m' y' hn' lc lm lg
        have ha' := ha
        unfold RS at ha'
        obtain ⟨x, c1, m1, j1, j2, j3, j4, j5, j6⟩ := ih (q + 1) n1 n2 c' m' y' (by omega) (by omega) (by omega) hn' (by rw [lc.1 50 (by omega), lm.1 502 0 (by omega) (by omega) (by omega) (by omega) (by omega) (by omega)]; exact ht) (Law.keep ha (Or.inr ⟨r, r6, g1, g2, g3, g4⟩) lc lm) (by rw [lm.1 500 49 (by omega) (by omega) (by omega) (by omega) (by omega) (by omega)]; exact hp)
        exact ⟨x, c1, m1, j1, j2, j3, lc.tr j4, lm.tr j5, lg.tr j6⟩
      have k1' : fX8_choose L a 41 (nI q) c = some (x, c1) := by
        unfold fX8_choose
        rw [if_neg (by rw [g1]; exact fun q => nomatch q)]
        exact k1
      have k2' : fX10_callsBy (nI q) m = (if x = -nI 1 then some (nI 0, m1) else fX10_calls (nI q) x m1) := k2
      have gg : Gr (m.1 502 7) (m1.1 502 7) := by
        rw [k5.1]
        exact Gr.rf
      rw [fX8_pass_L5, fX10_goes_L4, l6, l7, if_neg (by rw [le_nI (by omega) (by omega)]; omega), if_neg (by rw [le_nI (by omega) (by omega)]; omega), k1', k2', bw_some, g2]
      rw [if_neg (show ¬ nI r = (-1 : Int32) by have := ne_m1 (show r < 2147483648 by omega); exact fun q => by rw [← this]; exact q)]
      rcases k3 with k3 | ⟨h, hh, k3⟩
      · subst k3
        simp only [lit_nI, m1_lt, if_true, nm_eq, nI_add, bw_some, add0_nI]
        exact go c1 m1 y (hn0.ls k4 k5) k4.cf k5.mf gg
      · subst k3
        obtain ⟨v, c2, m2, v1, v2, v3, v4, v5, v6, -⟩ := callAt_w ha (hn0.ls k4 k5) (show N < 100000 by omega) (by rw [k4.1, k5.1]; exact ht) (show q < O by omega) hh
        simp (disch := omega) only [lit_nI, ne_m1, if_false, nI_lt0, v1, v2, bw_some, nm_eq, nI_add]
        exact go c2 m2 (y + v) v3 (k4.cf.tr v4) (k5.mf.tr v5) (by rw [v6]; exact gg)
/-- a night -/
theorem pass_v {L : List Nat} {H O N a : Nat} {p2 : Int32} {c m : St} (ha : RS a) (hN : N < 99999) (hn : NR H O N a c m) (ht : c.1 50 3 = m.1 502 0) (hl : Law L c m) (hp : m.1 500 49 = p2) : ∃ x c1 m1, fX8_pass L a 41 p2 c = some (x, c1) ∧ fX10_goes m = some (x, m1) ∧ NR H O (N + 1) a c1 m1 ∧ CF a c c1 ∧ MF m m1 ∧ Gr (m.1 502 7) (m1.1 502 7) :=
  pass_L ha hN O 0 10000 10000 c m (nI 0) (by omega) (by have := hn.1.2.1; omega) (by have := hn.1.2.1; omega) hn ht hl hp
