theorem laysBack_f {m m1 : St} (h : fX10_laysBack m = some m1) : ∀ s x, s = 557 ∨ s = 558 → m1.1 s x = m.1 s x := by
  obtain ⟨m2, a1, a2, a3, a4, a5⟩ := carK_l tR 4400 (ui (ui m 500 61 (nI 4400)) 500 62 (nI 1)) (by decide) (by decide) (by decide) (by simp only [ui_rd, if_true]) (by simp only [ui_rd, if_true, Nat.reduceEqDiff, if_false])
  have e : fX10_laysBack m = some m2 := by
    unfold fX10_laysBack
    simp only [lit_nI, carries_eq]
    rw [a1]
    rfl
  rw [h] at e
  have e2 : m1 = m2 := Option.some.inj e
  subst e2
  intro s x hs
  rw [a3 s x (fun t hm e => by
    have : t.1 = 502 ∨ t.1 = 503 ∨ t.1 = 504 ∨ t.1 = 506 ∨ t.1 = 508 ∨ t.1 = 509 ∨ t.1 = 511 := by
      revert hm
      simp only [tR, List.mem_cons, List.not_mem_nil, or_false]
      rintro (rfl | rfl | rfl | rfl | rfl | rfl | rfl) <;> simp
    omega) (by omega), ui_ne (by omega), ui_ne (by omega)]
theorem Mq_558 {H O : Nat} {s : Int32} {L : List Nat} {c0 m0 M c : St} (h : TR H O L c0 m0 0 83 c M) (y : Nat) : ∀ n, n ≤ 61 → (Mq s M n).1 558 y = M.1 558 y := by
  intro n
  induction n with
  | zero => exact fun _ => rfl
  | succ n ih =>
    intro hn
    obtain ⟨c1, h1⟩ := Mq_runs (s := s) h n (by omega)
    obtain ⟨x, c2, t, f1, f2, f3, f4, f5, f6, f7⟩ := Mq_step (by omega) h1
    rw [f5 558 y (by omega), f7.1 558 y (by omega) (by omega) (by omega) (by omega) (by omega) (by omega)]
    exact ih (by omega)
theorem ri_r {R i : Nat} (hi : i ≤ R) : ri i = -nI 1 ∨ ∃ k, k < R ∧ ri i = nI k := by
  cases i with
  | zero => exact Or.inl rfl
  | succ i => exact Or.inr ⟨i, by omega, rfl⟩
theorem fit_v {R H O i : Nat} {L : List Nat} {c0 m0 c m : St} {s : Int32} (hR : RelP R H O L c0 m0) (h : RelP R H O L c m) (hc : CE c0 c) (hm : SV m0 m) (hme : ME m0 m) (hi : i ≤ R) : ∃ o x c1 m1, fX9_ruleAt c (ri i) = some o ∧ fX6_fits L o c = some (x, c1) ∧ fX10_couldRule (ri i) s m = some (x, m1) ∧ (x = nI 0 ∨ x = nI 1) ∧ CE c0 c1 ∧ SV m0 m1 ∧ ME m0 m1 ∧ RelP R H O L c1 m1 ∧ c1.1 80 = c.1 80 ∧ c1.1 84 = c.1 84 ∧ (∀ y, m1.1 558 y = m.1 558 y) ∧ (∀ k0, s = nI k0 → k0 ≤ 60 → ∀ z c2, z ≤ 6 → CE c0 c2 → RelP R H O L c2 m → c2.1 80 4 = nI z → ∃ o' c3, fX9_ruleAt c2 (ri i) = some o' ∧ fX6_add L o' (nI k0) c2 = some c3 ∧ CE c0 c3 ∧ c3.1 80 4 = nI (z + 1) ∧ (∀ j, j < H → c3.1 84 (8 * z + j) = m1.1 557 j) ∧ ∀ j, j < 8 * z → c3.1 84 j = c2.1 84 j) := by
  have hH := hR.land.1
  obtain ⟨-, -, -, -, -, -, ⟨B, B9, b1, b2, b3⟩, -⟩ := hR.2.2.2.1
  obtain ⟨o, ca, M, d1, d2, d3, d4, d5, d6⟩ := begin_v h hc hm (ri i) (ri_r hi)
  have eB : M.1 502 9 = nI B := by
    rw [d6 502 9 (by omega) (by omega) (by omega) (by omega) (by omega) (by omega) (by omega), hme.1.2.2 502 9 (show 9 < 12 by omega)]
    exact b2
  have bks : ∀ n c', n ≤ 61 → TR H O L c0 m0 n 83 c' (Mq s M n) → BK H B c' (Mq s M n) := by
    intro n c' hn ht
    have hce := ht.2.2.2.2.1
    have hsv := ht.2.2.2.2.2
    refine ⟨B9, ?_, ?_, fun j hj => ?_⟩
    · rw [hce.1 120 (by omega)]
      exact b1
    · rw [Mq_books d4 n hn]
      exact eB
    · rw [hce.1 125 (by omega), hce.1 126 (by omega), hce.1 127 (by omega), hsv.2 513 j (by unfold tS; omega), hsv.2 514 j (by unfold tS; omega), hsv.2 515 j (by unfold tS; omega)]
      exact b3 j hj
  have bk0 := bks 0 ca (by omega) d4
  obtain ⟨W, W1, W2, W3, W4⟩ := last_L (W0 := 0) (c := ca) B9 bk0.2.1 (fun j hj => by
    obtain ⟨⟨q1, -, -⟩, q4, -⟩ := bk0.2.2.2 j hj
    rw [q1]
    exact q4) B 0 10000 0 (by omega) (by omega) (by omega)
  obtain ⟨x, c1, x1, x2, x3, x4, x5⟩ := fits_L (o := o) (W := W) hH W2 bks W 0 10000 ca (by omega) (by omega) d4
  obtain ⟨y, y1, y2, y3⟩ := could_L (s := s) (p1 := ri i) (B := B) d4 hH B9 eB (fun j hj => (b3 j hj).2.2) 61 0 10000 (nI 1) (by omega) (by omega) (Or.inr rfl)
  obtain ⟨ce, he⟩ := Mq_runs (s := s) d4 61 (by omega)
  obtain ⟨m1, l1, l2, l3⟩ := laysBack_v he.2.2.2.2.2
  have l4 := laysBack_f l1
  have exy : x = y := by
    rcases x5 with ⟨q1, q2⟩ | ⟨q1, j, j1, j2, j3⟩
    · rw [q1]
      refine (y3.mpr ⟨rfl, fun j j1 j2 => ?_⟩).symm
      by_cases hj : j < W
      · exact q2 j j1 hj
      · intro b _ hb hn
        exfalso
        obtain ⟨c', ht⟩ := Mq_runs (s := s) d4 (j + 1) (by omega)
        obtain ⟨⟨q4, -, -⟩, ⟨n, n9, en⟩, -⟩ := (bks (j + 1) c' (by omega) ht).2.2.2 b hb
        rw [en, eq_nI (by omega) (by omega)] at hn
        have hca : ca.1 125 b = nI n := by
          rw [d4.2.2.2.2.1.1 125 (by omega), ← ht.2.2.2.2.1.1 125 (by omega), q4]
          exact en
        have := W4 b n (by omega) hb n9 hca
        omega
    · rw [q1]
      rcases y1 with z | z
      · exact z.symm
      · exact absurd ((y3.mp z).2 j j1 (by omega)) j3
  subst exy
  refine ⟨o, x, c1, m1, d1, ?_, ?_, y1, x2, l2, l3, hR.sc x2 l3, ?_, ?_, fun y => ?_, fun k0 es hk0 z c2 hz hc2 hr2 e4 => ?_⟩
  · unfold fX6_fits
    have W3' : fX6_lastBookNight ca = some (ri W) := W3
    rw [d2, br_some, W3', br_some]
    exact x1
  · unfold fX10_couldRule
    rw [nm_eq, d3, br_some]
    simp only [lit_nI]
    rw [show fX10_couldRule_L17 (ri i) s 10000 (nI 1) (nI 0) M = _ from y2, l1, br_some, gd_b01 y1]
  · rw [x3, d5 80 (by omega) (by omega)]
  · rw [x4, d5 84 (by omega) (by omega)]
  · rw [l4 558 y (by omega), Mq_558 d4 y 61 (by omega), d6 558 y (by omega) (by omega) (by omega) (by omega) (by omega) (by omega) (by omega)]
  · subst es
    obtain ⟨o', cb, M', g1, g2, g3, g4, g5, -⟩ := begin_v hr2 hc2 hm (ri i) (ri_r hi)
    have eM : M' = M := by
      rw [d3] at g3
      exact (Option.some.inj g3).symm
    subst eM
    obtain ⟨c3, k1, k2, k3, k4, k5⟩ := add_L (o := o') (s := nI k0) (z := z) hk0 hz (k0 + 1) 0 10000 cb (by omega) (by omega) g4 (by rw [g5 80 (by omega) (by omega)]; exact e4)
    refine ⟨o', c3, g1, ?_, k2, k3, fun j hj => ?_, fun j hj => by rw [k5 j hj, g5 84 (by omega) (by omega)]⟩
    · unfold fX6_add
      simp only [lit_nI, e4]
      rw [if_pos (by rw [le_nI (by omega) (by omega)]; exact hz), g2, br_some]
      exact k1
    · have := Mq_shown hk0 d4 (j := j) (by omega) (61 - (k0 + 1)) (by omega)
      rw [show k0 + 1 + (61 - (k0 + 1)) = 61 by omega] at this
      rw [k4 j hj, l4 557 j (by omega), this]
theorem ri_le {R i : Nat} (hR : R ≤ 6) (hi : i < 100) : (nI R ≤ ri i) = (R + 1 ≤ i) := by
  rw [Int32.le_iff_toInt_le, ri_toInt (by omega), nI_toInt (by omega)]
  exact propext (by omega)
theorem ri_m2 {i : Nat} (hi : i < 100) : (ri i = -nI 2) = False := by
  refine eq_false (fun q => ?_)
  have := ri_toInt (show i < 1000 by omega)
  rw [q, show (-nI 2).toInt = -2 by decide] at this
  omega
theorem ruled_L {R H O : Nat} {L : List Nat} {c0 m0 : St} {p1 : Int32} (hR : RelP R H O L c0 m0) : ∀ (d i k1 k2 z : Nat) (y3 : Int32) (c m : St), i + d = R + 1 → d < k1 → d < k2 → z ≤ i → ((z = 0 ∧ y3 = -nI 2) ∨ (1 ≤ z ∧ ∃ j, j < 100 ∧ y3 = ri j)) → CE c0 c → SV m0 m → ME m0 m → RelP R H O L c m → ∃ r c1 m1, fX9_ruled_L33 L p1 k1 (nI z) y3 (ri i) c = some (r, c1) ∧ fX10_ruled_L32 p1 k2 (nI z) y3 (ri i) m = some (r, m1) ∧ RelP R H O L c1 m1 := by
  intro d
  induction d with
  | zero =>
    intro i k1 k2 z y3 c m hi h1 h2 hz hy hc hm hme h
    obtain ⟨k1, rfl⟩ : ∃ j, k1 = j + 1 := ⟨k1 - 1, by omega⟩
    obtain ⟨k2, rfl⟩ : ∃ j, k2 = j + 1 := ⟨k2 - 1, by omega⟩
    obtain ⟨R6, e1, e2, -⟩ := h.2.2.1
    have hle : nI R ≤ ri i := by
      rw [ri_le R6 (by omega)]
      omega
    rw [fX9_ruled_L33, fX10_ruled_L32, e1, e2, if_pos hle, if_pos hle]
    by_cases q : p1 = 0
    · rw [if_pos q, if_pos q]
      exact ⟨_, c, m, rfl, rfl, h⟩
    · rw [if_neg q, if_neg q]
      exact ⟨_, c, m, rfl, rfl, h⟩
  | succ d ih =>
    intro i k1 k2 z y3 c m hi h1 h2 hz hy hc hm hme h
    obtain ⟨k1, rfl⟩ : ∃ j, k1 = j + 1 := ⟨k1 - 1, by omega⟩
    obtain ⟨k2, rfl⟩ : ∃ j, k2 = j + 1 := ⟨k2 - 1, by omega⟩
    obtain ⟨R6, e1, e2, -⟩ := h.2.2.1
    have hle : ¬ nI R ≤ ri i := by
      rw [ri_le R6 (by omega)]
      omega
    obtain ⟨o, x, c1, m1, f1, f2, f3, f4, f5, f6, f7, f8, -⟩ := fit_v (s := -nI 1) hR h hc hm hme (show i ≤ R by omega)
    rw [fX9_ruled_L33, fX10_ruled_L32, e1, e2, if_neg hle, if_neg hle]
    unfold fX10_ruled_B61
    simp only [lit_nI, f1, f2, f3, br_some, bw_some, nm_eq, nI_add, ri_add]
    rcases f4 with rfl | rfl
    · simp only [if_true]
      exact ih (i + 1) k1 k2 z y3 c1 m1 (by omega) (by omega) (by omega) (by omega) hy f5 f6 f7 f8
    · simp only [n10, if_false]
      rcases hy with ⟨rfl, rfl⟩ | ⟨z1, j, j9, rfl⟩
      · simp only [if_true]
        exact ih (i + 1) k1 k2 (0 + 1) (ri i) c1 m1 (by omega) (by omega) (by omega) (by omega) (Or.inr ⟨by omega, i, by omega, rfl⟩) f5 f6 f7 f8
      · simp only [ri_m2 j9, if_false]
        rw [if_neg (show ¬ nI z = nI 0 by rw [eq_nI (by omega) (by omega)]; omega)]
        exact ih (i + 1) k1 k2 (z + 1) (ri j) c1 m1 (by omega) (by omega) (by omega) (by omega) (Or.inr ⟨by omega, j, j9, rfl⟩) f5 f6 f7 f8
theorem sk_25 : Sk_25 Rel := by
  rintro L c m ⟨R, H, O, h⟩ p1
  have hR : Rel L c m := ⟨R, H, O, h⟩
  obtain ⟨t1, t2⟩ := told_v h
  have R6 := h.2.2.1.1
  unfold fX9_ruled fX10_ruled
  simp only [lit_nI, t1]
  by_cases ht : m.1 500 28 = nI 0
  · rw [if_pos ht, if_pos ht]
    exact ⟨_, c, m, rfl, rfl, hR⟩
  · rw [if_neg ht, if_neg ht]
    rcases in_v p1 0 1 (A := 0) (B := 1) rfl rfl (by omega) (by omega) with ⟨w, W1, W2, eW, W3, W4, W5, W6⟩ | ⟨W1, W2⟩
    · obtain ⟨m1, a1, a2, a3, a4, -⟩ := keep_v h
      obtain ⟨r, c2, m2, d1, d2, d3⟩ := ruled_L (p1 := p1) h (R + 1) 0 10000 10000 0 (-nI 2) c m1 (by omega) (by omega) (by omega) (by omega) (Or.inl ⟨rfl, rfl⟩) CE.rf a2 a3 a4
      simp only [W3, W4, W6, br_some, n10, if_false, if_true, a1]
      exact ⟨r, c2, m2, d1, d2, R, H, O, d3⟩
    · simp only [W1, br_some, if_true]
      rcases W2 with q | ⟨q1, q2, q3⟩
      · rw [if_pos q]
        exact ⟨_, c, m, rfl, rfl, hR⟩
      · rw [if_neg q1, if_neg q3]
        exact ⟨_, c, m, rfl, rfl, hR⟩
/-- what suspects show, on both sides -/
def ShR (H z : Nat) (c m : St) : Prop := c.1 80 4 = nI z ∧ ∀ k, k < z → ∀ j, j < H → c.1 84 (8 * k + j) = m.1 558 (8 * k + j)
theorem alike_in {H z h i : Nat} {c m : St} {K J : Int32 → Int32 → Option Int32} {mo : Int32} (hH : H ≤ 8) (hz : z ≤ 7) (hs : ShR H z c m) (hh : h < H) (hi : i < z) : ∀ (d j k1 k2 : Nat) (cn : Int32), j + d = z → d < k1 → d < k2 → ∃ mo', fX6_mostAlike_L18 (nI h) c K k1 mo (nI i) cn (nI j) = K mo' (nI (i + 1)) ∧ fX10_mostAlike_L17 (nI h) (nI z) m J k2 mo (nI i) cn (nI j) = J mo' (nI (i + 1)) := by
  obtain ⟨s1, s2⟩ := hs
  intro d
  induction d with
  | zero =>
    intro j k1 k2 cn hj h1 h2
    obtain ⟨k1, rfl⟩ : ∃ j, k1 = j + 1 := ⟨k1 - 1, by omega⟩
    obtain ⟨k2, rfl⟩ : ∃ j, k2 = j + 1 := ⟨k2 - 1, by omega⟩
    have hle : nI z ≤ nI j := by
      rw [le_nI (by omega) (by omega)]
      omega
    rw [fX6_mostAlike_L18, fX10_mostAlike_L17, s1, if_pos hle, if_pos hle]
    simp only [nm_eq, lit_nI, nI_add]
    by_cases q : mo < cn
    · refine ⟨cn, by rw [if_pos q], ?_⟩
      rw [if_neg (by rw [Int32.lt_iff_toInt_lt] at q; rw [Int32.le_iff_toInt_le]; omega)]
    · refine ⟨mo, by rw [if_neg q], ?_⟩
      rw [if_pos (by rw [Int32.lt_iff_toInt_lt] at q; rw [Int32.le_iff_toInt_le]; omega)]
  | succ d ih =>
    intro j k1 k2 cn hj h1 h2
    obtain ⟨k1, rfl⟩ : ∃ j, k1 = j + 1 := ⟨k1 - 1, by omega⟩
    obtain ⟨k2, rfl⟩ : ∃ j, k2 = j + 1 := ⟨k2 - 1, by omega⟩
    have hle : ¬ nI z ≤ nI j := by
      rw [le_nI (by omega) (by omega)]
      omega
    have e1 := s2 i hi h hh
    have e2 := s2 j (by omega) h hh
    rw [fX6_mostAlike_L18, fX10_mostAlike_L17, s1, if_neg hle, if_neg hle]
    unfold fX10_mostAlike_B57
    simp (disch := omega) only [lit_nI, pk_mul, nI_add, gd_ix, cl_nI, nm_eq, Nat.mul_comm i 8, Nat.mul_comm j 8, e1, e2, add0_nI]
    by_cases q : m.1 558 (8 * i + h) = m.1 558 (8 * j + h)
    · rw [if_pos q, if_pos q.symm]
      exact ih (j + 1) k1 k2 _ (by omega) (by omega) (by omega)
    · rw [if_neg q, if_neg (fun e => q e.symm)]
      exact ih (j + 1) k1 k2 _ (by omega) (by omega) (by omega)
theorem alike_L {H z h : Nat} {c m : St} (hH : H ≤ 8) (hz : z ≤ 7) (hs : ShR H z c m) (hh : h < H) : ∀ (d i k1 k2 : Nat) (mo : Int32), i + d = z → d < k1 → d < k2 → ∃ x, fX6_mostAlike_L4 (nI h) c k1 mo (nI i) = some x ∧ fX10_mostAlike_L5 (nI h) (nI z) m k2 mo (nI i) = some x := by
  intro d
  induction d with
  | zero =>
    intro i k1 k2 mo hi h1 h2
    obtain ⟨k1, rfl⟩ : ∃ j, k1 = j + 1 := ⟨k1 - 1, by omega⟩
    obtain ⟨k2, rfl⟩ : ∃ j, k2 = j + 1 := ⟨k2 - 1, by omega⟩
    have hle : nI z ≤ nI i := by
      rw [le_nI (by omega) (by omega)]
      omega
    rw [fX6_mostAlike_L4, fX10_mostAlike_L5, hs.1, if_pos hle, if_pos hle]
    exact ⟨mo, rfl, rfl⟩
  | succ d ih =>
    intro i k1 k2 mo hi h1 h2
    obtain ⟨k1, rfl⟩ : ∃ j, k1 = j + 1 := ⟨k1 - 1, by omega⟩
    obtain ⟨k2, rfl⟩ : ∃ j, k2 = j + 1 := ⟨k2 - 1, by omega⟩
    have hle : ¬ nI z ≤ nI i := by
      rw [le_nI (by omega) (by omega)]
      omega
    obtain ⟨mo', a1, a2⟩ := alike_in (K := fX6_mostAlike_L4 (nI h) c k1) (J := fX10_mostAlike_L5 (nI h) (nI z) m k2) (mo := mo) hH hz hs hh (show i < z by omega) z 0 10000 10000 (nI 0) (by omega) (by omega) (by omega)
    rw [fX6_mostAlike_L4, fX10_mostAlike_L5, hs.1, if_neg hle, if_neg hle]
    simp only [lit_nI]
    rw [a1, a2]
    exact ih (i + 1) k1 k2 mo' (by omega) (by omega) (by omega)
theorem alike_v {H z h : Nat} {c m : St} (hH : H ≤ 8) (hz : z ≤ 7) (hs : ShR H z c m) (hh : h < H) : ∃ x, fX6_mostAlike c (nI h) = some x ∧ fX10_mostAlike m (nI h) (nI z) = some x :=
  alike_L hH hz hs hh z 0 10000 10000 (nI 0) (by omega) (by omega) (by omega)
theorem best_L {R H O z : Nat} {L : List Nat} {c m : St} {p1 p2 : Int32} (h : RelP R H O L c m) (hz : z ≤ 7) (hs : ShR H z c m) : ∀ (d i k1 k2 b : Nat), i + d = H → b < H → d < k1 → d < k2 → ∃ r c1 m1, fX9_look_L113 L p1 p2 k1 (nI b) (nI i) c = some (r, c1) ∧ fX10_look_L125 p1 p2 k2 (nI z) (nI b) (nI i) m = some (r, m1) ∧ RelP R H O L c1 m1 := by
  obtain ⟨h8, -, l1, l2, -⟩ := h.land
  intro d
  induction d with
  | zero =>
    intro i k1 k2 b hi hb h1 h2
    obtain ⟨k1, rfl⟩ : ∃ j, k1 = j + 1 := ⟨k1 - 1, by omega⟩
    obtain ⟨k2, rfl⟩ : ∃ j, k2 = j + 1 := ⟨k2 - 1, by omega⟩
    have hle : nI H ≤ nI i := by
      rw [le_nI (by omega) (by omega)]
      omega
    obtain ⟨x, x1, x2⟩ := alike_v h8 hz hs hb
    rw [fX9_look_L113, fX10_look_L125, l1, l2, if_pos hle, if_pos hle, x1, x2, br_some, br_some]
    by_cases q : p2 = 0
    · rw [if_pos q, if_pos q]
      exact ⟨_, c, m, rfl, rfl, h⟩
    · rw [if_neg q, if_neg q]
      exact ⟨_, c, m, rfl, rfl, h⟩
  | succ d ih =>
    intro i k1 k2 b hi hb h1 h2
    obtain ⟨k1, rfl⟩ : ∃ j, k1 = j + 1 := ⟨k1 - 1, by omega⟩
    obtain ⟨k2, rfl⟩ : ∃ j, k2 = j + 1 := ⟨k2 - 1, by omega⟩
    have hle : ¬ nI H ≤ nI i := by
      rw [le_nI (by omega) (by omega)]
      omega
    obtain ⟨x, x1, x2⟩ := alike_v h8 hz hs hb
    obtain ⟨y, y1, y2⟩ := alike_v h8 hz hs (show i < H by omega)
    rw [fX9_look_L113, fX10_look_L125, l1, l2, if_neg hle, if_neg hle]
    simp only [x1, x2, y1, y2, br_some, nm_eq, lit_nI, nI_add]
    by_cases q : x ≤ y
    · rw [if_pos q, if_pos q]
      exact ih (i + 1) k1 k2 b (by omega) hb (by omega) (by omega)
    · rw [if_neg q, if_neg q]
      exact ih (i + 1) k1 k2 i (by omega) (by omega) (by omega) (by omega)
theorem show_L {z : Nat} {p1 p2 y4 : Int32} {K : Int32 → Int32 → St → Option (Int32 × St)} (hz : z ≤ 6) : ∀ (d j k : Nat) (m : St), j + d = 8 → d < k → ∃ m1, fX10_look_L62 p1 p2 K k (nI z) y4 (nI j) m = K (nI (z + 1)) (y4 + nI 1) m1 ∧ (∀ x, j ≤ x → x < 8 → m1.1 558 (8 * z + x) = m.1 557 x) ∧ (∀ s x, ¬ (s = 558 ∧ 8 * z + j ≤ x) → m1.1 s x = m.1 s x) := by
  intro d
  induction d with
  | zero =>
    intro j k m hj hk
    obtain ⟨k, rfl⟩ : ∃ j, k = j + 1 := ⟨k - 1, by omega⟩
    refine ⟨m, ?_, fun x x1 x2 => by omega, fun _ _ _ => rfl⟩
    rw [fX10_look_L62]
    simp only [lit_nI]
    rw [if_pos (by rw [le_nI (by omega) (by omega)]; omega)]
    simp only [nm_eq, nI_add]
  | succ d ih =>
    intro j k m hj hk
    obtain ⟨k, rfl⟩ : ∃ j, k = j + 1 := ⟨k - 1, by omega⟩
    obtain ⟨m1, a1, a2, a3⟩ := ih (j + 1) k (ui m 558 (8 * z + j) (m.1 557 j)) (by omega) (by omega)
    refine ⟨m1, ?_, fun x x1 x2 => ?_, fun s x hs => ?_⟩
    · rw [fX10_look_L62]
      simp (disch := omega) only [lit_nI, le_nI, pk_mul, nI_add, gd_ix, cl_nI, nm_eq]
      rw [if_neg (by omega)]
      exact a1
    · by_cases e : x = j
      · subst e
        rw [a3 558 _ (by omega), ui_rd, if_pos rfl, if_pos rfl]
      · rw [a2 x (by omega) x2, ui_ne (by omega)]
    · rw [a3 s x (by omega), ui_rd]
      by_cases e : s = 558
      · rw [if_pos e, if_neg (by omega)]
      · rw [if_neg e]
theorem look_L {R H O n : Nat} {L : List Nat} {c0 m0 : St} {p2 : Int32} (hR : RelP R H O L c0 m0) (hn : n ≤ 60) : ∀ (d i k1 k2 z : Nat) (c m : St), i + d = R + 1 → d < k1 → d < k2 → z ≤ i → ShR H z c m → CE c0 c → SV m0 m → ME m0 m → RelP R H O L c m → ∃ r c1 m1, fX9_look_L40 L (nI n) p2 k1 (ri i) c = some (r, c1) ∧ fX10_look_L40 (nI n) p2 k2 (nI z) (ri i) m = some (r, m1) ∧ RelP R H O L c1 m1 := by
  intro d
  induction d with
  | zero =>
    intro i k1 k2 z c m hi h1 h2 hz hs hc hm hme h
    obtain ⟨k1, rfl⟩ : ∃ j, k1 = j + 1 := ⟨k1 - 1, by omega⟩
    obtain ⟨k2, rfl⟩ : ∃ j, k2 = j + 1 := ⟨k2 - 1, by omega⟩
    obtain ⟨R6, e1, e2, -⟩ := h.2.2.1
    obtain ⟨h8, -, l1, l2, -⟩ := h.land
    have hle : nI R ≤ ri i := by
      rw [ri_le R6 (by omega)]
      omega
    rw [fX9_look_L40, fX10_look_L40, e1, e2, if_pos hle, if_pos hle, hs.1, l1, l2]
    simp (disch := omega) only [lit_nI, eq_nI]
    by_cases q : z = 0
    · rw [if_pos q, if_pos q]
      exact ⟨_, c, m, rfl, rfl, h⟩
    · rw [if_neg q, if_neg q]
      by_cases q2 : H = 0
      · rw [if_pos q2, if_pos q2]
        exact ⟨_, c, m, rfl, rfl, h⟩
      · rw [if_neg q2, if_neg q2]
        exact best_L h (by omega) hs (H - 1) 1 10000 10000 0 (by omega) (by omega) (by omega) (by omega)
  | succ d ih =>
    intro i k1 k2 z c m hi h1 h2 hz hs hc hm hme h
    obtain ⟨k1, rfl⟩ : ∃ j, k1 = j + 1 := ⟨k1 - 1, by omega⟩
    obtain ⟨k2, rfl⟩ : ∃ j, k2 = j + 1 := ⟨k2 - 1, by omega⟩
    obtain ⟨R6, e1, e2, -⟩ := h.2.2.1
    obtain ⟨h8, -, l1, l2, -⟩ := h.land
    have hle : ¬ nI R ≤ ri i := by
      rw [ri_le R6 (by omega)]
      omega
    obtain ⟨o, x, c1, m1, f1, f2, f3, f4, f5, f6, f7, f8, f9, f10, f11, f12⟩ := fit_v (s := nI n) hR h hc hm hme (show i ≤ R by omega)
    rw [fX9_look_L40, fX10_look_L40, e1, e2, if_neg hle, if_neg hle]
    simp only [lit_nI, f1, f2, f3, br_some, bw_some, nm_eq, ri_add]
    rcases f4 with rfl | rfl
    · simp only [if_true]
      refine ih (i + 1) k1 k2 z c1 m1 (by omega) (by omega) (by omega) (by omega) ⟨by rw [f9]; exact hs.1, fun k hk j hj => ?_⟩ f5 f6 f7 f8
      rw [f10, f11]
      exact hs.2 k hk j hj
    · simp only [n10, if_false]
      have hcm : RelP R H O L c1 m := hR.sc f5 hme
      obtain ⟨o', c3, g1, g2, g3, g4, g5, g6⟩ := f12 n rfl hn z c1 (by omega) f5 hcm (by rw [f9]; exact hs.1)
      obtain ⟨m2, k1', k2', k3'⟩ := show_L (z := z) (p1 := nI n) (p2 := p2) (y4 := ri i) (K := fX10_look_L40 (nI n) p2 k2) (by omega) 8 0 10000 m1 (by omega) (by omega)
      have sv2 : SV m0 m2 := by
        refine ⟨fun t ht j hj => ?_, fun s x ht => ?_⟩
        · rw [k3' 559 _ (by omega)]
          exact f6.1 t ht j hj
        · rw [← f6.2 s x ht]
          unfold tS at ht
          exact k3' s x (by omega)
      have me2 : ME m0 m2 := sv2.me (fun s x hx => by
        have hl := lenM_s hx
        rw [k3' s x (by omega)]
        exact f7.1.2.2 s x hx)
      rw [g1, br_some, g2, br_some, k1', ri_add]
      refine ih (i + 1) k1 k2 (z + 1) c3 m2 (by omega) (by omega) (by omega) (by omega) ⟨g4, fun k hk j hj => ?_⟩ g3 sv2 me2 (hR.sc g3 me2)
      by_cases e : k = z
      · subst e
        rw [g5 j hj, k2' j (by omega) (by omega)]
      · rw [g6 _ (by omega), f10, k3' 558 _ (by omega), f11]
        exact hs.2 k (by omega) j hj
theorem sk_26 : Sk_26 Rel := by
  rintro L c m ⟨R, H, O, h⟩ p1 p2
  have hR : Rel L c m := ⟨R, H, O, h⟩
  obtain ⟨t1, t2⟩ := told_v h
  have R6 := h.2.2.1.1
  unfold fX9_look fX10_look fX6_clear
  simp only [lit_nI, t1]
  by_cases ht : m.1 500 28 = nI 0
  · rw [if_pos ht, if_pos ht]
    exact ⟨_, c, m, rfl, rfl, hR⟩
  · rw [if_neg ht, if_neg ht]
    rcases bookNight_v p1 with ⟨n, n9, rfl, n1, n2⟩ | ⟨n1, n2⟩
    · rcases in_v p2 0 1 (A := 0) (B := 1) rfl rfl (by omega) (by omega) with ⟨w, W1, W2, eW, W3, W4, W5, W6⟩ | ⟨W1, W2⟩
      · obtain ⟨m1, a1, a2, a3, a4, -⟩ := keep_v h
        have hce : CE c (ui c 80 4 (nI 0)) := ⟨fun k hk => ui_ne (by omega), fun _ _ => rfl, fun i r e => ⟨50, i, e⟩⟩
        obtain ⟨r, c2, m2, d1, d2, d3⟩ := look_L (p2 := p2) h n9 (R + 1) 0 10000 10000 0 (ui c 80 4 (nI 0)) m1 (by omega) (by omega) (by omega) (by omega) ⟨by rw [ui_rd, if_pos rfl, if_pos rfl], fun k hk => by omega⟩ hce a2 a3 (h.sc hce a3)
        simp only [n1, n2, W3, W4, W6, br_some, n10, if_false, if_true, a1, nm_eq]
        exact ⟨r, c2, m2, d1, d2, R, H, O, d3⟩
      · simp only [n1, n2, W1, br_some, n10, if_true, if_false]
        rcases W2 with q | ⟨q1, q2, q3⟩
        · rw [if_pos q]
          exact ⟨_, c, m, rfl, rfl, hR⟩
        · rw [if_neg q1, if_neg q3]
          exact ⟨_, c, m, rfl, rfl, hR⟩
    · simp only [n1, n2, br_some, if_true]
      exact ⟨_, c, m, rfl, rfl, hR⟩
