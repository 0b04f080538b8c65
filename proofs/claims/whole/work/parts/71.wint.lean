/-! winters -/
theorem litL (n : Nat) : (OfNat.ofNat n : Int64) = lN n := Eq.trans (b := lN n) rfl rfl
theorem i64_nI {n : Nat} (h : n < 2147483648) : Int32.toInt64 (nI n) = lN n := by
  refine Int64.toInt_inj.mp ?_
  rw [t64, nI_toInt (by omega), lN_toInt (by omega)]
/-- the next draw -/
def drw (x : Nat) : Nat := (x * 1103515245 + 12345) % 2147483648
theorem drw_lt (x : Nat) : drw x < 2147483648 := Nat.mod_lt _ (by omega)
theorem draw_l {x : Nat} (hx : x < 2147483648) : lrm (Int32.toInt64 (nI x) * (1103515245 : Int64) + (12345 : Int64)) (2147483648 : Int64) = lN (drw x) := by
  unfold lrm
  rw [i64_nI hx]
  simp only [litL, lN_mul, lN_add]
  exact pk_lRem (by omega) (by omega) (by omega)
theorem draw_c {x : Nat} (hx : x < 2147483648) : fX9_nextDraw (Int32.toInt64 (nI x)) = some (Int32.toInt64 (nI (drw x))) := by
  unfold fX9_nextDraw
  rw [draw_l hx, i64_nI (drw_lt x)]
theorem draw_m {x : Nat} {m : St} (hx : x < 2147483648) (e : m.1 502 10 = nI x) : fX10_draws (nI 100) m = some (nI (drw x / 65536 % 100), ui m 502 10 (nI (drw x))) := by
  have hd := drw_lt x
  unfold fX10_draws
  simp only [e, draw_l hx, lN_i, ↓nm_eq, ui_rd, if_true, lit_nI]
  unfold irm
  simp (disch := omega) only [pk_div]
  have h2 : nI (drw x / 65536) - nI (drw x / 65536 / 100) * nI 100 = nI (drw x / 65536 % 100) := by
    rw [← pk_div (d := 100) (by omega) (by omega) (by omega)]
    exact pk_rem (by omega) (by omega) (by omega)
  rw [h2]
  rfl
theorem draw_t {y p : Nat} (hy : y < 2147483648) (hp : p ≤ 100) : (0 ≤ lg_cmp (lrm (Int32.toInt64 (nI y) / (65536 : Int64)) (100 : Int64)) (Int32.toInt64 (nI p))) = (p ≤ y / 65536 % 100) := by
  rw [lgge, i64_nI hy, i64_nI (by omega)]
  unfold lrm
  simp only [litL]
  rw [pk_lDiv (by omega) (by omega) (by omega), pk_lRem (by omega) (by omega) (by omega)]
  exact propext (pk_lLE (by omega) (by omega))
theorem NR.cgm {H O N a : Nat} {c m m1 : St} (h : NR H O N a c m) (hs : ∀ s, 503 ≤ s → s ≤ 512 → m1.1 s = m.1 s) (h2 : ∀ i, i < 9 → m1.1 502 i = m.1 502 i) : NR H O N a c m1 := by
  obtain ⟨a1, a2, a3⟩ := h
  have hH := a1.1
  have hO := a1.2.1
  have a3' : RowOK H O N (c.1 a) m := a3
  refine ⟨?_, ?_, a3'.eqv hH hO (fun _ _ => rfl) (fun s s1 s2 => hs s s1 (by omega)) h2⟩
  · unfold LandR
    rw [h2 1 (by omega), h2 2 (by omega), h2 3 (by omega), h2 4 (by omega), h2 5 (by omega), hs 505 (by omega) (by omega), hs 507 (by omega) (by omega), hs 510 (by omega) (by omega)]
    exact a1
  · unfold SnowR
    rw [hs 512 (by omega) (by omega)]
    exact a2
theorem Law.cgm {L : List Nat} {c m m1 : St} (h : Law L c m) (h1 : m1.1 502 11 = m.1 502 11) (hs : ∀ s, 541 ≤ s → s ≤ 546 → m1.1 s = m.1 s) : Law L c m1 := by
  unfold Law
  rw [h1]
  rcases h with h | ⟨r, r6, q1, q2, q3, q4⟩
  · exact Or.inl h
  · refine Or.inr ⟨r, r6, q1, q2, ?_, q4⟩
    refine q3.cg (fun k k1 k2 => rfl) ?_ (fun i _ => ⟨?_, ?_, ?_⟩) (fun j _ => ⟨?_, ?_⟩) <;> rw [hs _ (by omega) (by omega)]
/-- a winter's night, with snow drawn or not -/
theorem TR.snow {H O N x z : Nat} {L : List Nat} {c0 m0 c m : St} (hN : N < 99999) (h : TR H O L c0 m0 N 13 c (ui m 500 49 (nI 0))) : ∃ y c1 m1, fX8_pass L 13 41 (nI z) c = some (y, c1) ∧ fX10_goes (ui (ui m 502 10 (nI x)) 500 49 (nI z)) = some (y, m1) ∧ TR H O L c0 m0 (N + 1) 13 c1 (ui m1 500 49 (nI 0)) ∧ m1.1 502 10 = nI x := by
  obtain ⟨h1, h2, h3, h4, h5, h6⟩ := h
  have hs : ∀ s i, s ≠ 500 → ¬ (s = 502 ∧ i = 10) → (ui (ui m 502 10 (nI x)) 500 49 (nI z)).1 s i = (ui m 500 49 (nI 0)).1 s i := by
    intro s i s5 s2
    rw [ui_rd, if_neg s5, ui_rd, ui_rd, if_neg s5]
    by_cases e : s = 502
    · rw [if_pos e, if_neg (by omega)]
    · rw [if_neg e]
  have n1 := h1.cgm (m1 := ui (ui m 502 10 (nI x)) 500 49 (nI z)) (fun s s1 s2 => funext (fun i => hs s i (by omega) (by omega))) (fun i hi => hs 502 i (by omega) (by omega))
  have l1 := h3.cgm (m1 := ui (ui m 502 10 (nI x)) 500 49 (nI z)) (hs 502 11 (by omega) (by omega)) (fun s s1 s2 => funext (fun i => hs s i (by omega) (by omega)))
  obtain ⟨y, c1, m1, f1, f2, f3, f4, f5, f6⟩ := pass_v (L := L) (p2 := nI z) (Or.inr (Or.inl rfl)) hN n1 (by rw [hs 502 0 (by omega) (by omega)]; exact h2) l1 (by rw [ui_rd, if_pos rfl, if_pos rfl])
  have g : ∀ s i, s ≠ 500 → (ui m1 500 49 (nI 0)).1 s i = m1.1 s i := fun s i s5 => by rw [ui_rd, if_neg s5]
  refine ⟨y, c1, m1, f1, f2, ⟨f3.cgm (fun s s1 s2 => funext (fun i => g s i (by omega))) (fun i _ => g 502 i (by omega)), ?_, (l1.keep (Or.inr (Or.inl rfl)) f4 f5).cgm (g 502 11 (by omega)) (fun s s1 s2 => funext (fun i => g s i (by omega))), by rw [ui_rd, if_pos rfl, if_pos rfl], h5.tr (f4.ce (by omega)), ?_⟩, ?_⟩
  · rw [f4.1 50 (by omega), g 502 0 (by omega), f5.1 502 0 (by omega) (by omega) (by omega) (by omega) (by omega) (by omega), hs 502 0 (by omega) (by omega)]
    exact h2
  · obtain ⟨v1, v2⟩ := h6
    refine ⟨fun t ht j hj => ?_, fun s i ht => ?_⟩
    · rw [g 559 _ (by omega), f5.1 559 _ (by omega) (by omega) (by omega) (by omega) (by omega) (by omega), hs 559 _ (by omega) (by omega)]
      exact v1 t ht j hj
    · rw [← v2 s i ht]
      unfold tS at ht
      by_cases s5 : s = 500
      · subst s5
        rw [ui_rd, ui_rd, if_pos rfl, if_pos rfl]
        by_cases i9 : i = 49
        · rw [if_pos i9, if_pos i9]
        · rw [if_neg i9, if_neg i9, f5.1 500 i (by omega) (by omega) (by omega) (by omega) (by omega) (by omega), ui_rd, if_pos rfl, if_neg i9, ui_rd, if_neg (by omega)]
      · rw [g s i s5, f5.1 s i (by omega) (by omega) (by omega) (by omega) (by omega) (by omega), hs s i s5 (by omega)]
  · rw [f5.1 502 10 (by omega) (by omega) (by omega) (by omega) (by omega) (by omega)]
    simp only [ui_rd, Nat.reduceEqDiff, if_true, if_false]
theorem eaten_sum {O : Nat} {c m : St} {p1 p2 p3 p4 y5 y7 y8 y9 : Int32} {J : Int32 → Int32 → Int32 → Int32 → Int32 → St → Option (Int32 × St)} (hO : O ≤ 3) (h5 : m.1 502 5 = nI O) (hq : ∀ q, q < O → c.1 13 (35 + q) = m.1 511 q) (hz : ∀ q, O ≤ q → q < 3 → c.1 13 (35 + q) = nI 0) (k : Nat) : fX10_winters_L159 p1 p2 p3 p4 J (k + 4) y5 y7 y8 y9 (nI 0) m = br (fX10_laysBack m) (fun s => J y5 (m.1 502 10) y7 (y8 + ((c.1 13 35 + c.1 13 36) + c.1 13 37)) (y9 + nI 1) s) := by
  have stop : ∀ k y8', fX10_winters_L159 p1 p2 p3 p4 J (k + 1) y5 y7 y8' y9 (nI O) m = br (fX10_laysBack m) (fun s => J y5 (m.1 502 10) y7 y8' (y9 + nI 1) s) := by
    intro k y8'
    rw [fX10_winters_L159, h5, if_pos (by rw [le_nI (by omega) (by omega)]; omega)]
    simp only [nm_eq, lit_nI]
  have step : ∀ k q y8', q < O → fX10_winters_L159 p1 p2 p3 p4 J (k + 1) y5 y7 y8' y9 (nI q) m = fX10_winters_L159 p1 p2 p3 p4 J k y5 y7 (y8' + m.1 511 q) y9 (nI (q + 1)) m := by
    intro k q y8' hq'
    rw [fX10_winters_L159, h5, if_neg (by rw [le_nI (by omega) (by omega)]; omega)]
    simp (disch := omega) only [nm_eq, lit_nI, gd_ix, cl_nI, nI_add]
  have z0 : ∀ x : Int32, x + nI 0 = x := add0_nI
  rcases (show O = 0 ∨ O = 1 ∨ O = 2 ∨ O = 3 by omega) with rfl | rfl | rfl | rfl
  · rw [show k + 4 = k + 3 + 1 by omega, stop, hz 0 (by omega) (by omega), hz 1 (by omega) (by omega), hz 2 (by omega) (by omega)]
    simp only [z0]
  · rw [show k + 4 = k + 2 + 1 + 1 by omega, step _ 0 _ (by omega), stop, ← hq 0 (by omega), hz 1 (by omega) (by omega), hz 2 (by omega) (by omega)]
    simp only [z0]
  · rw [show k + 4 = k + 1 + 1 + 1 + 1 by omega, step _ 0 _ (by omega), step _ 1 _ (by omega), stop, ← hq 0 (by omega), ← hq 1 (by omega), hz 2 (by omega) (by omega)]
    simp only [z0, Int32.add_assoc]
  · rw [show k + 4 = k + 1 + 1 + 1 + 1 by omega, step _ 0 _ (by omega), step _ 1 _ (by omega), step _ 2 _ (by omega), stop, ← hq 0 (by omega), ← hq 1 (by omega), ← hq 2 (by omega)]
    simp only [Int32.add_assoc]
theorem winter_L {R H O n p : Nat} {L : List Nat} {c0 m0 : St} {p1 p4 y5 y7 y8 y9 : Int32} {K : Int64 → Int32 → Int32 → Int32 → St → Option (Int32 × St)} {J : Int32 → Int32 → Int32 → Int32 → Int32 → St → Option (Int32 × St)} (hR : RelP R H O L c0 m0) (hn : n ≤ 60) (hp : p ≤ 100) : ∀ (d i k1 k2 N x : Nat) (c m : St), i + d = n → d < k1 → d < k2 → N + d < 99999 → x < 2147483648 → m.1 502 10 = nI x → TR H O L c0 m0 N 13 c (ui m 500 49 (nI 0)) → ∃ x' B E c1 m1, x' < 2147483648 ∧ fX9_winters_L86 L p1 (nI n) (nI p) p4 K k1 (Int32.toInt64 (nI x)) y7 y8 y9 (nI i) c = K (Int32.toInt64 (nI x')) (y7 + B) (y8 + E) (y9 + nI 1) c1 ∧ fX10_winters_L100 p1 (nI n) (nI p) p4 J k2 y5 y7 y8 y9 (nI i) m = J y5 (nI x') (y7 + B) (y8 + E) (y9 + nI 1) m1 ∧ CE c0 c1 ∧ SV m0 m1 ∧ ME m0 m1 ∧ RelP R H O L c1 m1 := by
  intro d
  induction d with
  | zero =>
    intro i k1 k2 N x c m hi h1 h2 hN hx ex h
    obtain ⟨k1, rfl⟩ : ∃ j, k1 = j + 1 := ⟨k1 - 1, by omega⟩
    obtain ⟨k2, rfl⟩ : ∃ j, k2 = j + 1 := ⟨k2 - 1, by omega⟩
    have hrow := h.1.2.2
    have hO := h.1.1.2.1
    obtain ⟨f, f9, ef⟩ := hrow.2.2.2.1.2.2.1
    have ef2 : c.1 13 38 = nI f := by rw [hrow.1.2.2.1]; exact ef
    obtain ⟨g1, g2⟩ := bits_v f f9
    obtain ⟨m1, a1, a2, a3, a4⟩ := hR.back h.2.2.2.2.1 h.2.2.2.2.2
    have es := eaten_sum (p1 := p1) (p2 := nI n) (p3 := nI p) (p4 := p4) (y5 := y5) (y7 := y7 + nI (popc f)) (y8 := y8) (y9 := y9) (J := J) hO h.1.1.2.2.2.2.2.2.2.2.1 (fun q hq => (hrow.1.2.1 q hq).2) hrow.1.2.2.2.2.2 9996
    rw [a1, br_some] at es
    have e10 : (ui m 500 49 (nI 0)).1 502 10 = nI x := by
      rw [ui_ne (by omega)]
      exact ex
    rw [e10] at es
    refine ⟨x, nI (popc f), (c.1 13 35 + c.1 13 36) + c.1 13 37, c, m1, hx, ?_, ?_, h.2.2.2.2.1, a3, a4, a2⟩
    · rw [fX9_winters_L86, if_pos (by rw [le_nI (by omega) (by omega)]; omega), ef2, g2, br_some]
      simp only [nm_eq, lit_nI]
    · rw [fX10_winters_L100, if_pos (by rw [le_nI (by omega) (by omega)]; omega)]
      simp only [nm_eq, lit_nI, ef, g1, br_some]
      exact es
  | succ d ih =>
    intro i k1 k2 N x c m hi h1 h2 hN hx ex h
    obtain ⟨k1, rfl⟩ : ∃ j, k1 = j + 1 := ⟨k1 - 1, by omega⟩
    obtain ⟨k2, rfl⟩ : ∃ j, k2 = j + 1 := ⟨k2 - 1, by omega⟩
    have hd := drw_lt x
    rw [fX9_winters_L86, fX10_winters_L100, if_neg (by rw [le_nI (by omega) (by omega)]; omega), if_neg (by rw [le_nI (by omega) (by omega)]; omega), draw_c hx, br_some]
    unfold fX9_winters_B128 fX10_winters_B122
    simp only [draw_t hd hp]
    simp (disch := omega) only [lit_nI, draw_m hx ex, bw_some, le_nI, nm_eq, nI_add]
    by_cases hs : p ≤ drw x / 65536 % 100
    · obtain ⟨y, c1, m1, f1, f2, f3, f4⟩ := h.snow (x := drw x) (z := 0) (by omega)
      simp only [if_pos hs, f1, f2, bw_some]
      exact ih (i + 1) k1 k2 (N + 1) (drw x) c1 m1 (by omega) (by omega) (by omega) (by omega) hd f4 f3
    · obtain ⟨y, c1, m1, f1, f2, f3, f4⟩ := h.snow (x := drw x) (z := 1) (by omega)
      simp only [if_neg hs, f1, f2, bw_some]
      exact ih (i + 1) k1 k2 (N + 1) (drw x) c1 m1 (by omega) (by omega) (by omega) (by omega) hd f4 f3
theorem ui_id {m : St} {k i : Nat} {v : Int32} (h : m.1 k i = v) : (ui m k i v).1 = m.1 := by
  funext s x
  rw [ui_rd]
  by_cases e : s = k
  · rw [if_pos e]
    by_cases e2 : x = i
    · rw [if_pos e2, e, e2]
      exact h.symm
    · rw [if_neg e2]
  · rw [if_neg e]
theorem ME.of {m m1 : St} (e : m1.1 = m.1) : ME m m1 := by
  refine ⟨⟨?_, ?_, fun s i _ => ?_⟩, ⟨?_, ?_, ?_, ?_⟩, fun s _ _ => ?_, fun i _ => ?_, ?_, ?_⟩ <;> rw [e]
theorem winters_L {R H O M n p : Nat} {L : List Nat} {c0 m0 : St} {p4 : Int32} (hR : RelP R H O L c0 m0) (hM : M ≤ 10) (hn : n ≤ 60) (hp : p ≤ 100) : ∀ (d i k1 k2 x : Nat) (y7 y8 : Int32) (c m : St), i + d = M → d < k1 → d < k2 → x < 2147483648 → CE c0 c → SV m0 m → ME m0 m → RelP R H O L c m → ∃ r c1 m1, fX9_winters_L73 L (nI M) (nI n) (nI p) p4 k1 (Int32.toInt64 (nI x)) y7 y8 (nI i) c = some (r, c1) ∧ fX10_winters_L82 (nI M) (nI n) (nI p) p4 k2 (m0.1 502 10) (nI x) y7 y8 (nI i) m = some (r, m1) ∧ RelP R H O L c1 m1 := by
  intro d
  induction d with
  | zero =>
    intro i k1 k2 x y7 y8 c m hi h1 h2 hx hc hm hme h
    obtain ⟨k1, rfl⟩ : ∃ j, k1 = j + 1 := ⟨k1 - 1, by omega⟩
    obtain ⟨k2, rfl⟩ : ∃ j, k2 = j + 1 := ⟨k2 - 1, by omega⟩
    have hr : RelP R H O L c (ui m 502 10 (m0.1 502 10)) := h.sc CE.rf (ME.of (ui_id (hme.1.2.2 502 10 (show 10 < 12 by omega))))
    have hMi : nI M ≤ nI i := by
      rw [le_nI (by omega) (by omega)]
      omega
    rw [fX9_winters_L73, fX10_winters_L82, if_pos hMi, if_pos hMi]
    simp only [nm_eq]
    by_cases q : p4 = 0
    · rw [if_pos q, if_pos q]
      exact ⟨_, _, _, rfl, rfl, hr⟩
    · rw [if_neg q, if_neg q]
      exact ⟨_, _, _, rfl, rfl, hr⟩
  | succ d ih =>
    intro i k1 k2 x y7 y8 c m hi h1 h2 hx hc hm hme h
    obtain ⟨k1, rfl⟩ : ∃ j, k1 = j + 1 := ⟨k1 - 1, by omega⟩
    obtain ⟨k2, rfl⟩ : ∃ j, k2 = j + 1 := ⟨k2 - 1, by omega⟩
    obtain ⟨N, c1, N9, b1, b2, -⟩ := start_v h hc hm
    have e49 := h.2.1.1
    have b3 : TR H O L c0 m0 N 13 c1 (ui (ui m 502 10 (nI x)) 500 49 (nI 0)) := by
      have hs : ∀ s i, ¬ (s = 502 ∧ i = 10) → (ui (ui m 502 10 (nI x)) 500 49 (nI 0)).1 s i = m.1 s i := by
        intro s i s2
        rw [ui_id (by rw [ui_ne (by omega)]; exact e49), ui_rd]
        by_cases e : s = 502
        · rw [if_pos e, if_neg (by omega)]
        · rw [if_neg e]
      obtain ⟨g1, g2, g3, g4, g5, g6⟩ := b2
      refine ⟨g1.cgm (fun s s1 s2 => funext (fun i => hs s i (by omega))) (fun i hi => hs 502 i (by omega)), ?_, g3.cgm (hs 502 11 (by omega)) (fun s s1 s2 => funext (fun i => hs s i (by omega))), ?_, g5, ?_⟩
      · rw [hs 502 0 (by omega)]
        exact g2
      · rw [hs 500 49 (by omega)]
        exact g4
      · refine ⟨fun t ht j hj => ?_, fun s i ht => ?_⟩
        · rw [hs 559 _ (by omega)]
          exact g6.1 t ht j hj
        · rw [hs s i (by unfold tS at ht; omega)]
          exact g6.2 s i ht
    obtain ⟨x', B, E, c2, m2, x9, w1, w2, w3, w4, w5, w6⟩ := winter_L (p1 := nI M) (p4 := p4) (y5 := m0.1 502 10) (y7 := y7) (y8 := y8) (y9 := nI i) (K := fX9_winters_L73 L (nI M) (nI n) (nI p) p4 k1) (J := fX10_winters_L82 (nI M) (nI n) (nI p) p4 k2) hR hn hp n 0 10000 10000 N x c1 (ui m 502 10 (nI x)) (by omega) (by omega) (by omega) (by omega) hx (by rw [ui_rd, if_pos rfl, if_pos rfl]) b3
    rw [fX9_winters_L73, fX10_winters_L82, if_neg (by rw [le_nI (by omega) (by omega)]; omega), if_neg (by rw [le_nI (by omega) (by omega)]; omega), b1, br_some]
    simp only [nm_eq, lit_nI]
    rw [w1, w2, nI_add]
    exact ih (i + 1) k1 k2 x' _ _ c2 m2 (by omega) (by omega) (by omega) x9 w3 w4 w5 w6
theorem sk_28 : Sk_28 Rel := by
  rintro L c m ⟨R, H, O, h⟩ p1 p2 p3 p4
  have hR : Rel L c m := ⟨R, H, O, h⟩
  obtain ⟨t1, t2⟩ := told_v h
  obtain ⟨-, -, -, -, -, -, -, -, a15, x, x9, ex⟩ := h.2.2.2.1
  unfold fX9_winters fX10_winters
  simp only [lit_nI, t1]
  by_cases ht : m.1 500 28 = nI 0
  · rw [if_pos ht, if_pos ht]
    exact ⟨_, c, m, rfl, rfl, hR⟩
  · rw [if_neg ht, if_neg ht]
    rcases in_v p1 1 10 (A := 1) (B := 10) rfl rfl (by omega) (by omega) with ⟨M, M1, M2, eM, M3, M4, M5, -⟩ | ⟨M1, M2⟩
    · rcases trialLen_v p2 with ⟨n, n1, n6, en, e3, e4⟩ | ⟨e3, e4⟩
      · rcases in_v p3 0 100 (A := 0) (B := 100) rfl rfl (by omega) (by omega) with ⟨p, P1, P2, eP, P3, P4, P5, -⟩ | ⟨P1, P2⟩
        · rcases in_v p4 0 1 (A := 0) (B := 1) rfl rfl (by omega) (by omega) with ⟨w, W1, W2, eW, W3, W4, W5, W6⟩ | ⟨W1, W2⟩
          · obtain ⟨m1, a1, a2, a3, a4, -⟩ := keep_v h
            obtain ⟨r, c2, m2, d1, d2, d3⟩ := winters_L (p4 := p4) (p := p) h M2 n6 P2 M 0 10000 10000 x (nI 0) (nI 0) c m1 (by omega) (by omega) (by omega) x9 CE.rf a2 a3 a4
            simp only [M3, M4, M5, e3, e4, P3, P4, P5, W3, W4, W6, br_some, n10, if_false, if_true, nm_eq, a1]
            rw [a15, ex]
            rw [ex] at d2
            rw [eM, en, eP]
            exact ⟨r, c2, m2, d1, d2, R, H, O, d3⟩
          · simp only [M3, M4, M5, e3, e4, P3, P4, P5, W1, br_some, n10, if_false, if_true]
            rcases W2 with q | ⟨q1, q2, q3⟩
            · rw [if_pos q]
              exact ⟨_, c, m, rfl, rfl, hR⟩
            · rw [if_neg q1, if_neg q3]
              exact ⟨_, c, m, rfl, rfl, hR⟩
        · simp only [M3, M4, M5, e3, e4, P1, br_some, n10, if_false, if_true]
          rcases P2 with q | ⟨q1, q2, q3⟩
          · rw [if_pos q]
            exact ⟨_, c, m, rfl, rfl, hR⟩
          · rw [if_neg q1, if_pos q2]
            exact ⟨_, c, m, rfl, rfl, hR⟩
      · simp only [M3, M4, M5, e3, e4, br_some, n10, if_false, if_true]
        exact ⟨_, c, m, rfl, rfl, hR⟩
    · simp only [M1, br_some, if_true]
      rcases M2 with q | ⟨q1, q2, q3⟩
      · rw [if_pos q]
        exact ⟨_, c, m, rfl, rfl, hR⟩
      · rw [if_neg q1, if_pos q2]
        exact ⟨_, c, m, rfl, rfl, hR⟩
