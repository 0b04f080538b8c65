/-- how many bits below 256 -/
def popc (f : Nat) : Nat := f % 2 + f / 2 % 2 + f / 4 % 2 + f / 8 % 2 + f / 16 % 2 + f / 32 % 2 + f / 64 % 2 + f / 128 % 2
theorem bits_v : ∀ f, f < 256 → fX10_bits (nI f) = some (nI (popc f)) ∧ fJ6_bitCount_0f7a4 (nI f) = some (nI (popc f)) := by
  decide +kernel
/-- rule r of both sides -/
def RuleR (r : Nat) (c m : St) : Prop := ∃ nc, nc ≤ 12 ∧ c.1 (400 + 10 * r) 5 = nI nc ∧ m.1 543 r = nI nc ∧ ∀ i, i < nc → ∃ s t e, s ≤ t ∧ t ≤ e ∧ e ≤ 300 ∧ c.1 (400 + 10 * r + 3) i = nI s ∧ c.1 (400 + 10 * r + 4) i = nI t ∧ c.1 (400 + 10 * r + 5) i = nI e ∧ m.1 544 (12 * r + i) = nI s ∧ m.1 545 (12 * r + i) = nI t ∧ m.1 546 (12 * r + i) = nI e ∧ Seg (fun j => m.1 541 (300 * r + j)) (fun j => m.1 542 (300 * r + j)) (t - s) s [] [true] ∧ (t = e ∨ Seg (fun j => m.1 541 (300 * r + j)) (fun j => m.1 542 (300 * r + j)) (e - t) t [] [false]) ∧ ∀ j, s ≤ j → j < e → c.1 (400 + 10 * r + 1) j = enc (m.1 541 (300 * r + j)) (m.1 542 (300 * r + j))
/-- only longs differ -/
def LSx (c c1 : St) : Prop := c1.1 = c.1 ∧ c1.2.2 = c.2.2
theorem LSx.rf {c : St} : LSx c c := ⟨rfl, rfl⟩
theorem LSx.tr {c c1 c2 : St} (h1 : LSx c c1) (h2 : LSx c1 c2) : LSx c c2 := ⟨h2.1.trans h1.1, h2.2.trans h1.2⟩
theorem LC.ls {b : Nat} {c c1 : St} (h : LC b c c1) : LSx c c1 := ⟨h.1, h.2.1⟩
theorem LM.ls {c c1 : St} (h : LM c c1) : LSx c c1 := ⟨h.1, h.2.1⟩
theorem RuleR.ls {r : Nat} {c m c1 m1 : St} (h : RuleR r c m) (h1 : LSx c c1) (h2 : LSx m m1) : RuleR r c1 m1 := by
  unfold RuleR
  rw [h1.1, h2.1]
  exact h
theorem bw_id {α σ : Type} {x : Option (α × σ)} : bw x (fun a s => some (a, s)) = x := by
  cases x with
  | none => rfl
  | some y => rfl
theorem answer_v {r s t : Nat} {w : Bool} {c m : St} (hr : r < 6) (h1 : s ≤ t) (h2 : t ≤ 300) (hS : Seg (fun j => m.1 541 (300 * r + j)) (fun j => m.1 542 (300 * r + j)) (t - s) s [] [w]) (hc : ∀ j, s ≤ j → j < t → c.1 (400 + 10 * r + 1) j = enc (m.1 541 (300 * r + j)) (m.1 542 (300 * r + j))) (hw : ∀ j, j < 12 → c.2.1 52 j = m.2.1 548 j) : ∃ x c1 m1, fX4_run (400 + 10 * r) 52 12 (nI s) (nI t) c = some (x, c1) ∧ fX10_answer (nI r) (nI s) (nI t) m = some (x, m1) ∧ (w = false → b01 x) ∧ LC (400 + 10 * r) c c1 ∧ LM m m1 :=
  run_v hr h2 (by omega) (t - s) s 10000 10000 [] w c m (by omega) (by omega) (by omega) hS hc hw trivial (by simp)
theorem worth_L {r nc : Nat} (hr : r < 6) (hn : nc ≤ 12) : ∀ (d i n1 n2 : Nat) (c m : St), i + d = nc → d < n1 → d < n2 → c.1 (400 + 10 * r) 5 = nI nc → m.1 543 r = nI nc → RuleR r c m → (∀ j, j < 12 → c.2.1 52 j = m.2.1 548 j) → ∃ x c1 m1, fX4_worth_L2 (400 + 10 * r) 52 12 n1 (nI i) c = some (x, c1) ∧ fX10_wanted_L13 n2 (nI r) (nI (12 * r + i)) m = some (x, m1) ∧ LC (400 + 10 * r) c c1 ∧ LM m m1 := by
  intro d
  induction d with
  | zero =>
    intro i n1 n2 c m hi h1 h2 e1 e2 hR hw
    obtain ⟨n1, rfl⟩ : ∃ k, n1 = k + 1 := ⟨n1 - 1, by omega⟩
    obtain ⟨n2, rfl⟩ : ∃ k, n2 = k + 1 := ⟨n2 - 1, by omega⟩
    refine ⟨0, c, m, ?_, ?_, LC.rf, LM.rf⟩
    · rw [fX4_worth_L2, e1, if_pos (by rw [le_nI (by omega) (by omega)]; omega)]
    · rw [fX10_wanted_L13]
      simp (disch := omega) only [lit_nI, gd_ix, cl_nI, e2, pk_mul, nI_add, le_nI]
      rw [if_pos (by omega)]
  | succ d ih =>
    intro i n1 n2 c m hi h1 h2 e1 e2 hR hw
    obtain ⟨n1, rfl⟩ : ∃ k, n1 = k + 1 := ⟨n1 - 1, by omega⟩
    obtain ⟨n2, rfl⟩ : ∃ k, n2 = k + 1 := ⟨n2 - 1, by omega⟩
    have hR0 := hR
    obtain ⟨nc', n12, f1, f2, hcl⟩ := hR
    have en : nc' = nc := by
      rw [f1] at e1
      rw [eq_nI (by omega) (by omega)] at e1
      exact e1
    subst en
    obtain ⟨s, t, e, st, te, e3, a1, a2, a3, b1, b2, b3, sg1, sg2, hc⟩ := hcl i (by omega)
    have fin : ∀ (c' m' : St), LC (400 + 10 * r) c c' → LM m m' → ∃ x c1 m1, fX4_worth_B47 (400 + 10 * r) 52 12 (fX4_worth_L2 (400 + 10 * r) 52 12 n1) (nI i) c' = some (x, c1) ∧ fX10_wanted_B65 (nI r) (nI (12 * r + i)) m' = some (x, m1) ∧ LC (400 + 10 * r) c c1 ∧ LM m m1 := by
      intro c' m' lc lm
      obtain ⟨x, c1, m1, g1, g2, -, g4, g5⟩ := answer_v (c := c') (m := m') (w := true) hr st (by omega) (by rw [lm.1]; exact sg1) (by rw [lm.1, lc.1]; exact fun j q1 q2 => hc j q1 (by omega)) (by rw [lc.2.2 52 (by omega), lm.2.2 548 (by omega)]; exact hw)
      refine ⟨x, c1, m1, ?_, ?_, lc.tr g4, lm.tr g5⟩
      · unfold fX4_worth_B47 fX4_worth_B52
        simp (disch := omega) only [lit_nI, gd_ix, cl_nI, lc.1, a1, a2, g1, bw_some, n10, if_false]
      · unfold fX10_wanted_B65
        simp (disch := omega) only [lit_nI, gd_ix, cl_nI, lm.1, b1, b2, g2, bw_some]
    rw [fX4_worth_L2, fX10_wanted_L13]
    simp (disch := omega) only [lit_nI, gd_ix, cl_nI, nm_eq, e1, e2, f1, f2, pk_mul, nI_add, le_nI, a2, a3, b2, b3, eq_nI]
    rw [if_neg (show ¬ nc' ≤ i by omega), if_neg (show ¬ 12 * r + nc' ≤ 12 * r + i by omega)]
    by_cases ht : t = e
    · rw [if_pos ht, if_pos ht]
      exact fin c m LC.rf LM.rf
    · rw [if_neg ht, if_neg ht]
      obtain ⟨x, c1, m1, g1, g2, g3, g4, g5⟩ := answer_v (c := c) (m := m) (w := false) hr te e3 (sg2.resolve_left ht) (fun j q1 q2 => hc j (by omega) q2) hw
      rw [g1, g2, bw_some, bw_some]
      rcases g3 rfl with q | q
      · subst q
        rw [if_pos (by decide), if_neg (by decide)]
        unfold fX4_worth_B52
        simp only [lit_nI, if_true, nm_eq, nI_add]
        obtain ⟨y, c2, m2, k1, k2, k3, k4⟩ := ih (i + 1) n1 n2 c1 m1 (by omega) (by omega) (by omega) (by rw [g4.1]; exact f1) (by rw [g5.1]; exact f2) (hR0.ls g4.ls g5.ls) (by rw [g4.2.2 52 (by omega), g5.2.2 548 (by omega)]; exact hw)
        exact ⟨y, c2, m2, k1, k2, g4.tr k3, g5.tr k4⟩
      · subst q
        rw [if_neg (by decide), if_pos (by decide)]
        exact fin c1 m1 g4 g5
theorem worth_v {r : Nat} {c m : St} (hr : r < 6) (hR : RuleR r c m) (hf : m.1 502 11 = nI r) (hw : ∀ j, j < 12 → c.2.1 52 j = m.2.1 548 j) : ∃ x c1 m1, fX4_worth (400 + 10 * r) 52 12 c = some (x, c1) ∧ fX10_wanted m = some (x, m1) ∧ LSx c c1 ∧ LSx m m1 := by
  have hR0 := hR
  obtain ⟨nc, n12, f1, f2, -⟩ := hR
  obtain ⟨x, c1, m1, a1, a2, a3, a4⟩ := worth_L hr n12 nc 0 10000 10000 c m (by omega) (by omega) (by omega) f1 f2 hR0 hw
  refine ⟨x, c1, m1, a1, ?_, a3.ls, a4.ls⟩
  unfold fX10_wanted
  simp only [nm_eq, hf, lit_nI, pk_mul]
  exact a2
theorem ul_1 {c : St} {k i : Nat} {v : Int64} : (ul c k i v).1 = c.1 := Eq.trans (b := c.1) rfl rfl
theorem ul_22 {c : St} {k i : Nat} {v : Int64} : (ul c k i v).2.2 = c.2.2 := Eq.trans (b := c.2.2) rfl rfl
theorem share_ul {a n k i : Nat} {c : St} {v : Int64} {p q : Int32} : fX8_share a n (ul c k i v) p q = fX8_share a n c p q := Eq.trans (b := fX8_share a n c p q) rfl rfl
theorem room_ul {a n k i : Nat} {c : St} {v : Int64} {p : Int32} : fX8_room a n (ul c k i v) p = fX8_room a n c p := Eq.trans (b := fX8_room a n c p) rfl rfl
theorem tenth_ul {k i : Nat} {c : St} {v : Int64} {p q : Int32} : fX10_tenthOf (ul c k i v) p q = fX10_tenthOf c p q := Eq.trans (b := fX10_tenthOf c p q) rfl rfl
/-- small numbers that nights keep -/
def Bd (H O : Nat) (m : St) : Prop := (∀ h, h < H → (∃ v, v ≤ 99 ∧ m.1 506 h = nI v) ∧ (∃ v, v < 256 ∧ m.1 507 h = nI v) ∧ (m.1 508 h = -nI 1 ∨ ∃ v, v < 100000 ∧ m.1 508 h = nI v)) ∧ (∀ q, q < O → ∃ e s, e ≤ s ∧ s ≤ 200 ∧ m.1 511 q = nI e ∧ m.1 510 q = nI s) ∧ (∃ f, f < 256 ∧ m.1 502 7 = nI f) ∧ (∃ t, t ≤ 100 ∧ m.1 502 0 = nI t) ∧ ∃ lo, lo ≤ 20 ∧ m.1 502 1 = nI lo
theorem i99 : Int32.toInt64 (nI 99) = (99 : Int64) := by decide
theorem ne_m1 {k : Nat} (h : k < 2147483648) : (nI k = -nI 1) = False := by
  refine eq_false (fun q => ?_)
  have h1 : (nI k).toInt = (k : Int) := nI_toInt (by omega)
  rw [q, show (-nI 1).toInt = -1 by decide] at h1
  omega
/-- twelve words told -/
def W12 (c : St) (s : Nat) (w0 w1 w2 w3 w4 w5 w6 w7 w8 w9 w10 w11 : Int64) : St := ul (ul (ul (ul (ul (ul (ul (ul (ul (ul (ul (ul c s 0 w0) s 1 w1) s 2 w2) s 3 w3) s 4 w4) s 5 w5) s 6 w6) s 7 w7) s 8 w8) s 9 w9) s 10 w10) s 11 w11
theorem W12_rd {c m : St} {s t : Nat} {w0 w1 w2 w3 w4 w5 w6 w7 w8 w9 w10 w11 : Int64} : ∀ j, j < 12 → (W12 c s w0 w1 w2 w3 w4 w5 w6 w7 w8 w9 w10 w11).2.1 s j = (W12 m t w0 w1 w2 w3 w4 w5 w6 w7 w8 w9 w10 w11).2.1 t j := by
  intro j hj
  unfold W12
  rcases (show j = 0 ∨ j = 1 ∨ j = 2 ∨ j = 3 ∨ j = 4 ∨ j = 5 ∨ j = 6 ∨ j = 7 ∨ j = 8 ∨ j = 9 ∨ j = 10 ∨ j = 11 by omega) with rfl | rfl | rfl | rfl | rfl | rfl | rfl | rfl | rfl | rfl | rfl | rfl <;> simp only [ul_rd, if_true, Nat.reduceEqDiff, if_false]
/-- how long since the last call -/
def w9 (x : Int32) (N : Nat) : Int64 := if x = -nI 1 then 99 else Int32.toInt64 (if nI N - x ≤ nI 99 then nI N - x else nI 99)
theorem tell_165 {a N f : Nat} {p q : Int32} {z : Int64} {s : St} (h1 : s.1 a 39 = nI N) (h2 : s.1 a 38 = nI f) (hf : f < 256) : fX8_tellWords_B165 a 41 p q z (nI 9) s = some (ul (ul (ul s 52 9 z) 52 10 (Int32.toInt64 (nI N))) 52 11 (Int32.toInt64 (nI (popc f)))) := by
  unfold fX8_tellWords_B165
  simp (disch := omega) only [lit_nI, cl_nI, gd_ix, ↓nm_eq, ul_1, h1, h2, (bits_v f hf).2, br_some]
theorem tell_106 {a N f h bs : Nat} {p x : Int32} {z : Int64} {s : St} (h1 : s.1 a 39 = nI N) (h2 : s.1 a 38 = nI f) (hf : f < 256) (h3 : s.1 144 h = nI bs) (hb : bs < 256) (hh : h < 8) (h4 : s.1 a (24 + h) = x) (hx : x = -nI 1 ∨ ∃ k, k < 100000 ∧ x = nI k) : fX8_tellWords_B106 a 41 p (nI h) z (nI 7) s = some (ul (ul (ul (ul (ul s 52 7 z) 52 8 (Int32.toInt64 (nI (popc bs)))) 52 9 (w9 x N)) 52 10 (Int32.toInt64 (nI N))) 52 11 (Int32.toInt64 (nI (popc f)))) := by
  have nz : ¬ nI 0 ≤ -nI 1 := by decide
  unfold fX8_tellWords_B106 w9
  simp (disch := omega) only [lit_nI, cl_nI, gd_ix, ↓nm_eq, nI_add, ul_1, h1, h3, h4, (bits_v bs hb).2, br_some]
  rcases hx with e | ⟨k, k9, e⟩
  · subst e
    rw [if_neg nz, tell_165 (s := ul (ul s 52 7 z) 52 8 _) (N := N) (f := f) h1 h2 hf, if_pos rfl]
  · subst e
    rw [if_pos (by rw [le_nI (by omega) (by omega)]; omega), tell_165 (s := ul (ul s 52 7 z) 52 8 _) (N := N) (f := f) h1 h2 hf, if_neg (show ¬ nI k = -nI 1 from fun q => by rw [ne_m1 (by omega)] at q; exact q), min_le]
theorem sum_178 {N f : Nat} {p q : Int32} {z : Int64} {s : St} (h1 : s.1 502 6 = nI N) (h2 : s.1 502 7 = nI f) (hf : f < 256) : fX10_sumOf_B178 p q z (nI 9) s = fX10_wanted (ul (ul (ul s 548 9 z) 548 10 (Int32.toInt64 (nI N))) 548 11 (Int32.toInt64 (nI (popc f)))) := by
  unfold fX10_sumOf_B178
  simp (disch := omega) only [lit_nI, cl_nI, gd_ix, ↓nm_eq, ul_1, h1, h2, (bits_v f hf).1, br_some, bw_id]
theorem sum_140 {N f h bs : Nat} {p y : Int32} {z : Int64} {s : St} (h1 : s.1 502 6 = nI N) (h2 : s.1 502 7 = nI f) (hf : f < 256) (h3 : s.1 507 h = nI bs) (hb : bs < 256) (hh : h < 8) : fX10_sumOf_B140 p (nI h) y z (nI 7) s = fX10_wanted (ul (ul (ul (ul (ul s 548 7 z) 548 8 (Int32.toInt64 (nI (popc bs)))) 548 9 (Int32.toInt64 (if y ≤ nI 99 then y else nI 99))) 548 10 (Int32.toInt64 (nI N))) 548 11 (Int32.toInt64 (nI (popc f)))) := by
  unfold fX10_sumOf_B140
  simp (disch := omega) only [lit_nI, cl_nI, gd_ix, ↓nm_eq, ul_1, h3, (bits_v bs hb).1, br_some]
  have g1 : ∀ z', _ := fun z' : Int64 => sum_178 (p := p) (q := nI h) (z := z') (s := ul (ul s 548 7 z) 548 8 (Int32.toInt64 (nI (popc bs)))) (N := N) (f := f) h1 h2 hf
  rw [g1, g1]
  by_cases g : y ≤ nI 99
  · rw [if_pos g, if_pos g]
  · rw [if_neg g, if_neg g, i99]
theorem tell_v {H O N : Nat} {c m : St} {a q h : Nat} (hl : LandR H O c 134 m) (hr : RowR H O (c.1 a) m) (hb : Bd H O m) (hN : m.1 502 6 = nI N) (hN9 : N < 100000) (ht : c.1 50 3 = m.1 502 0) (hq : q < O) (hh : h < H) : ∃ c1 m1, fX8_tellWords a 41 (nI q) (nI h) c = some c1 ∧ fX10_sumOf (nI q) (nI h) m = fX10_wanted m1 ∧ LSx c c1 ∧ LSx m m1 ∧ ∀ j, j < 12 → c1.2.1 52 j = m1.2.1 548 j := by
  obtain ⟨x, s1, s2⟩ := share_v hl hr ht hq hh
  obtain ⟨h8, h3, -, -, -, -, -, -, -, hs, hst⟩ := hl
  obtain ⟨r1, r2, r3, r4, -⟩ := hr
  obtain ⟨b1, b2, ⟨f, f9, ef⟩, -⟩ := hb
  obtain ⟨e1, e2, e3, e4⟩ := r1 h hh
  obtain ⟨e5, e6⟩ := r2 q hq
  obtain ⟨e7, e8⟩ := hs h hh
  have e9 := hst q hq
  obtain ⟨-, ⟨bs, bs9, ebs⟩, ecl⟩ := b1 h hh
  rw [hN] at r4
  rw [ef] at r3
  rw [ebs] at e8
  have e7' : c.1 143 h = m.1 505 h := e7
  have e8' : c.1 144 h = nI bs := e8
  have e9' : c.1 145 q = m.1 510 q := e9
  clear r1 r2 b1 b2 hs hst ht e7 e8 e9
  have hroom : fX8_room a 41 c (nI q) = some (m.1 510 q - m.1 511 q) := by
    unfold fX8_room
    simp (disch := omega) only [lit_nI, nI_add, cl_nI, gd_ix, e9', e6]
  obtain ⟨z7, ez⟩ : ∃ z7 : Int64, z7 = if m.1 509 q = nI h then 1 else 0 := ⟨_, rfl⟩
  suffices hS : ∃ w0 w1 w2 w3 w4 w5 w6 w7 w8 w9 w10 w11, fX8_tellWords a 41 (nI q) (nI h) c = some (W12 c 52 w0 w1 w2 w3 w4 w5 w6 w7 w8 w9 w10 w11) ∧ fX10_sumOf (nI q) (nI h) m = fX10_wanted (W12 m 548 w0 w1 w2 w3 w4 w5 w6 w7 w8 w9 w10 w11) by
    obtain ⟨w0, w1, w2, w3, w4, w5, w6, w7, w8, w9, w10, w11, a1, a2⟩ := hS
    exact ⟨_, _, a1, a2, ⟨rfl, rfl⟩, ⟨rfl, rfl⟩, W12_rd⟩
  refine ⟨Int32.toInt64 (nI q), Int32.toInt64 (nI h), Int32.toInt64 (m.1 503 h), Int32.toInt64 (m.1 504 h), Int32.toInt64 (m.1 505 h), Int32.toInt64 x, Int32.toInt64 (m.1 510 q - m.1 511 q), z7, Int32.toInt64 (nI (popc bs)), w9 (m.1 508 h) N, Int32.toInt64 (nI N), Int32.toInt64 (nI (popc f)), ?_, ?_⟩
  · unfold fX8_tellWords W12
    simp (disch := omega) only [lit_nI, nI_add, cl_nI, gd_ix, ↓nm_eq, Nat.zero_add, ul_1, share_ul, room_ul, s1, hroom, br_some, e1, e2, e5, e7']
    by_cases g : m.1 509 q = nI h
    · rw [if_pos g] at ez ⊢
      rw [tell_106 (s := ul (ul (ul (ul (ul (ul (ul c 52 0 _) 52 1 _) 52 2 _) 52 3 _) 52 4 _) 52 5 _) 52 6 _) (N := N) (f := f) (bs := bs) (x := m.1 508 h) r4 r3 f9 e8' bs9 (by omega) e4 ecl, ez]
    · rw [if_neg g] at ez ⊢
      rw [tell_106 (s := ul (ul (ul (ul (ul (ul (ul c 52 0 _) 52 1 _) 52 2 _) 52 3 _) 52 4 _) 52 5 _) 52 6 _) (N := N) (f := f) (bs := bs) (x := m.1 508 h) r4 r3 f9 e8' bs9 (by omega) e4 ecl, ez]
  · have key : ∀ y, fX10_sumOf_B29 (nI q) (nI h) y m = fX10_wanted (ul (ul (ul (ul (ul (ul (ul (ul (ul (ul (ul (ul m 548 0 (Int32.toInt64 (nI q))) 548 1 (Int32.toInt64 (nI h))) 548 2 (Int32.toInt64 (m.1 503 h))) 548 3 (Int32.toInt64 (m.1 504 h))) 548 4 (Int32.toInt64 (m.1 505 h))) 548 5 (Int32.toInt64 x)) 548 6 (Int32.toInt64 (m.1 510 q - m.1 511 q))) 548 7 z7) 548 8 (Int32.toInt64 (nI (popc bs)))) 548 9 (Int32.toInt64 (if y ≤ nI 99 then y else nI 99))) 548 10 (Int32.toInt64 (nI N))) 548 11 (Int32.toInt64 (nI (popc f)))) := by
      intro y
      unfold fX10_sumOf_B29
      simp (disch := omega) only [lit_nI, nI_add, cl_nI, gd_ix, ↓nm_eq, ul_1, tenth_ul, s2, br_some]
      by_cases g : m.1 509 q = nI h
      · rw [if_pos g] at ez ⊢
        rw [sum_140 (s := ul (ul (ul (ul (ul (ul (ul m 548 0 _) 548 1 _) 548 2 _) 548 3 _) 548 4 _) 548 5 _) 548 6 _) (N := N) (f := f) (bs := bs) hN ef f9 ebs bs9 (by omega), ez]
      · rw [if_neg g] at ez ⊢
        rw [sum_140 (s := ul (ul (ul (ul (ul (ul (ul m 548 0 _) 548 1 _) 548 2 _) 548 3 _) 548 4 _) 548 5 _) 548 6 _) (N := N) (f := f) (bs := bs) hN ef f9 ebs bs9 (by omega), ez]
    unfold fX10_sumOf W12
    simp (disch := omega) only [lit_nI, cl_nI, gd_ix, key, hN]
    unfold w9
    by_cases g : m.1 508 h = -nI 1
    · rw [if_pos g, if_pos g, if_pos (show nI 99 ≤ nI 99 by decide), i99]
    · rw [if_neg g, if_neg g]
