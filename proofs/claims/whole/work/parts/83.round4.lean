theorem sk_17 : Sk_17 Rel := by
  rintro L c m ⟨R, H, O, h⟩ p1 p2 p3
  have hR : Rel L c m := ⟨R, H, O, h⟩
  obtain ⟨h8, h3, l1, l2, l3, l4⟩ := h.land
  unfold fX9_span fX10_span
  rcases isOfficer_v h3 l3 l4 p1 with ⟨q, hq, rfl, e1, e2⟩ | ⟨e1, e2⟩
  · rcases in_v p2 1 4 (A := 1) (B := 4) rfl rfl (by omega) (by omega) with ⟨n, n1, n4, rfl, N3, N4, N5, N6⟩ | ⟨N1, N2⟩
    · rcases in_v p3 0 1 (A := 0) (B := 1) rfl rfl (by omega) (by omega) with ⟨w, W1, W2, eW, W3, W4, W5, W6⟩ | ⟨W1, W2⟩
      · obtain ⟨mK, a1, a2, a3, a4, -⟩ := keep_v h
        obtain ⟨c1, b1, b2, -, b4⟩ := explore_v h n1 n4 hq a2 a3
        have hb := pow_b (n := n) h8 n4
        obtain ⟨y4, y5, m1, z1, z2, z3, z4⟩ := b4 p3 (10000 - H ^ n - 1 + 1)
        have hr : RelP R H O L c1 m1 := h.sc b2 z4
        have fin : fX10_span_L47 (nI q) (nI n) p3 (10000 - H ^ n - 1 + 1) y4 y5 (nI (H ^ n)) m1 = (if p3 = 0 then (some (y4, m1)) else (some (y5, m1))) := by
          rw [fX10_span_L47, rowsOf_v n4 (ME.h h z4), br_some, if_pos (by rw [le_nI (by omega) (by omega)]; omega)]
        rw [fin, show 10000 - H ^ n - 1 + 1 + H ^ n = 10000 by omega] at z1
        simp only [lit_nI] at z1
        simp only [e1, e2, N3, N4, N5, W3, W4, W6, br_some, lit_nI, n10, if_false, if_true, a1, b1]
        rw [z1]
        rcases z2 with ⟨w1, w2, rfl, rfl⟩ | ⟨a, b, a9, b9, w1, w2, rfl, rfl⟩
        · rw [w2, if_neg (by decide)]
          refine ⟨_, c1, m1, rfl, ?_, R, H, O, hr⟩
          split <;> rfl
        · rw [w1, w2, if_pos (by rw [le_nI (by omega) (by omega)]; omega)]
          by_cases hz : p3 = nI 0
          · rw [if_pos hz]
            exact ⟨_, c1, m1, rfl, by rw [if_pos hz], R, H, O, hr⟩
          · rw [if_neg hz]
            exact ⟨_, c1, m1, rfl, by rw [if_neg hz], R, H, O, hr⟩
      · simp only [e1, e2, N3, N4, N5, W1, br_some, lit_nI, n10, if_false, if_true]
        rcases W2 with q | ⟨q1, q2, q3⟩
        · rw [if_pos q]
          exact ⟨_, c, m, rfl, rfl, hR⟩
        · rw [if_neg q1, if_neg q3]
          exact ⟨_, c, m, rfl, rfl, hR⟩
    · simp only [e1, e2, N1, br_some, lit_nI, n10, if_false, if_true]
      rcases N2 with q | ⟨q1, q2, q3⟩
      · rw [if_pos q]
        exact ⟨_, c, m, rfl, rfl, hR⟩
      · rw [if_neg q1, if_pos q2]
        exact ⟨_, c, m, rfl, rfl, hR⟩
  · simp only [e1, e2, br_some, lit_nI, if_true]
    exact ⟨_, c, m, rfl, rfl, hR⟩
theorem place_L {H n w : Nat} {p1 : Int32} {m : St} (hH : 1 ≤ H) (hH8 : H ≤ 8) (hn : n ≤ 4) (hw : w < n) (l2 : m.1 502 3 = nI H) : ∀ (d k b : Nat), w + d ≤ 10 → d < k → b < 10000 → fX10_round_L130 p1 (nI n) (nI w) k (nI b) (nI (w + d)) m = some (nI (b / H ^ d % H), m) := by
  intro d
  induction d with
  | zero =>
    intro k b hd hk hb
    obtain ⟨k, rfl⟩ : ∃ j, k = j + 1 := ⟨k - 1, by omega⟩
    rw [fX10_round_L130, if_pos (by rw [le_nI (by omega) (by omega)]; omega), if_neg (by rw [le_nI (by omega) (by omega)]; omega), l2, gd_nz hH (by omega), irm_n (by omega) (by omega) (by omega), Nat.pow_zero, Nat.div_one]
  | succ d ih =>
    intro k b hd hk hb
    obtain ⟨k, rfl⟩ : ∃ j, k = j + 1 := ⟨k - 1, by omega⟩
    have hle : b / H ≤ b := Nat.div_le_self _ _
    rw [fX10_round_L130, if_neg (by rw [le_nI (by omega) (by omega)]; omega), l2, gd_nz hH (by omega)]
    simp (disch := omega) only [nm_eq, lit_nI, pk_div]
    rw [show w + (d + 1) = w + d + 1 by omega, dec_nI (by omega), ih k (b / H) (by omega) (by omega) (by omega), Nat.div_div_eq_div_mul, Nat.mul_comm H (H ^ d), ← Nat.pow_succ]
theorem sk_16 : Sk_16 Rel := by
  rintro L c m ⟨R, H, O, h⟩ p1 p2 p3
  have hR : Rel L c m := ⟨R, H, O, h⟩
  obtain ⟨h8, h3, l1, l2, l3, l4⟩ := h.land
  have e0 : (-1 : Int64).toInt = -1 := rfl
  have e3 : (3 : Int64).toInt = 3 := rfl
  have hm1 : (-nI 1).toInt = -1 := by decide
  unfold fX9_round fX10_round
  rcases isOfficer_v h3 l3 l4 p1 with ⟨q, hq, rfl, e1, e2⟩ | ⟨e1, e2⟩
  · rcases in_v p2 1 4 (A := 1) (B := 4) rfl rfl (by omega) (by omega) with ⟨n, n1, n4, rfl, N3, N4, N5, N6⟩ | ⟨N1, N2⟩
    · rw [in_t (p := p3) e0 e3]
      by_cases hw : (-1 : Int) ≤ p3.toInt ∧ p3.toInt ≤ 3
      · obtain ⟨w, w5, ew⟩ : ∃ w, w < 5 ∧ p3 = ri w := by
          rcases pk_ix p3 (n := 4) (by omega) with z | z | ⟨j, j1, j2⟩
          · refine ⟨0, by omega, ?_⟩
            rw [Int32.lt_iff_toInt_lt, show (0 : Int32).toInt = 0 from rfl] at z
            refine Int32.toInt_inj.mp ?_
            show p3.toInt = (-nI 1).toInt
            rw [hm1]
            omega
          · rw [Int32.le_iff_toInt_le, nI_toInt (by omega)] at z
            omega
          · exact ⟨j + 1, by omega, j2⟩
        have hi := ri_toInt (show w < 1000 by omega)
        rw [← ew] at hi
        have k1 : ¬ p3 < -nI 1 := by
          rw [Int32.lt_iff_toInt_lt, hm1]
          omega
        have k2 : p3 < nI 4 := by
          rw [Int32.lt_iff_toInt_lt, nI_toInt (by omega)]
          omega
        obtain ⟨mK, a1, a2, a3, a4, -⟩ := keep_v h
        obtain ⟨c1, b1, b2, b4, -⟩ := explore_v h n1 n4 hq a2 a3
        have hb := pow_b (n := n) h8 n4
        obtain ⟨y4, y5, m1, z1, z2, z3, z4⟩ := b4 p3 (10000 - H ^ n - 1 + 1)
        have hr : RelP R H O L c1 m1 := h.sc b2 z4
        have hH1 : 1 ≤ H := by
          obtain ⟨N, N9, -, -, hrow⟩ := h.nr
          obtain ⟨k, hk, -⟩ := hrow.2.1.2 q hq
          omega
        have fin : fX10_round_L52 (nI q) (nI n) p3 (10000 - H ^ n - 1 + 1) y4 y5 (nI (H ^ n)) m1 = (if y4 = (-2 : Int32) then (some (y5, m1)) else (if p3 = (-1 : Int32) then (some (y5, m1)) else (nm (nI n - (1 : Int32)) (fun x6 => fX10_round_L130 (nI q) (nI n) p3 10000 y4 x6 m1)))) := by
          rw [fX10_round_L52, rowsOf_v n4 (ME.h h z4), br_some, if_pos (by rw [le_nI (by omega) (by omega)]; omega)]
        rw [fin, show 10000 - H ^ n - 1 + 1 + H ^ n = 10000 by omega] at z1
        simp only [lit_nI, nm_eq] at z1
        simp only [e1, e2, N3, N4, N5, br_some, lit_nI, n10, if_false, if_true, a1, b1, k1, k2, if_pos hw]
        rw [z1]
        rcases z2 with ⟨w1, rfl, rfl⟩ | ⟨b, s, bb, s9, w1, rfl, rfl, w4⟩
        · rw [w1, if_pos (by decide), if_pos rfl]
          exact ⟨_, c1, m1, rfl, rfl, R, H, O, hr⟩
        · rw [w1, if_neg (by rw [nI_lt0 (by omega)]; exact id)]
          simp (disch := omega) only [ne_m2, if_false]
          cases w with
          | zero =>
            have ep : p3 = -nI 1 := ew
            subst ep
            rw [if_pos (by rw [Int32.lt_iff_toInt_lt, hm1, nI_toInt (by omega)]; omega), if_neg (by decide), if_pos rfl]
            exact ⟨_, c1, m1, rfl, rfl, R, H, O, hr⟩
          | succ w =>
            have ep : p3 = nI w := ew
            subst ep
            simp (disch := omega) only [ne_m1, if_false, lt_nI, le_nI, Nat.zero_le, if_true, gd_ix, cl_nI]
            by_cases hwn : w < n
            · rw [if_pos hwn]
              have pl := place_L (p1 := nI q) (b := b) hH1 h8 n4 hwn (ME.h h z4) (n - 1 - w) 10000 (by omega) (by omega) (by omega)
              rw [show w + (n - 1 - w) = n - 1 by omega] at pl
              rw [pk_sub (by omega), pl, w4 w hwn]
              exact ⟨_, c1, m1, rfl, rfl, R, H, O, hr⟩
            · rw [if_neg hwn, pk_sub (by omega), show (10000 : Nat) = 9999 + 1 from rfl, fX10_round_L130, if_pos (by rw [le_nI (by omega) (by omega)]; omega), if_pos (by rw [le_nI (by omega) (by omega)]; omega)]
              exact ⟨_, c1, m1, rfl, rfl, R, H, O, hr⟩
      · simp only [e1, e2, N3, N4, N5, br_some, lit_nI, n10, if_false, if_true, if_neg hw]
        by_cases k1 : p3 < -nI 1
        · rw [if_pos k1]
          exact ⟨_, c, m, rfl, rfl, hR⟩
        · rw [if_neg k1, if_neg (by
            rw [Int32.lt_iff_toInt_lt, hm1] at k1
            rw [Int32.lt_iff_toInt_lt, nI_toInt (by omega)]
            omega)]
          exact ⟨_, c, m, rfl, rfl, hR⟩
    · simp only [e1, e2, N1, br_some, lit_nI, n10, if_false, if_true]
      rcases N2 with q | ⟨q1, q2, q3⟩
      · rw [if_pos q]
        exact ⟨_, c, m, rfl, rfl, hR⟩
      · rw [if_neg q1, if_pos q2]
        exact ⟨_, c, m, rfl, rfl, hR⟩
  · simp only [e1, e2, br_some, lit_nI, if_true]
    exact ⟨_, c, m, rfl, rfl, hR⟩
