theorem ne_m2 {k : Nat} (h : k < 2147483648) : (nI k = -nI 2) = False := by
  refine eq_false (fun q => ?_)
  have h1 : (nI k).toInt = (k : Int) := nI_toInt (by omega)
  rw [q, show (-nI 2).toInt = -2 by decide] at h1
  omega
theorem freezes_L {R H O h0 : Nat} {L : List Nat} {c0 m0 : St} (hR : RelP R H O L c0 m0) (hh : h0 < H) : ∀ (d i k1 k2 N : Nat) (c m : St), i + d = 200 → d < k1 → d + 1 < k2 → N + d < 99999 → TR H O L c0 m0 N 13 c m → ∃ r c1 m1, fX9_freezes_L24 L (nI h0) k1 (nI i) c = some (r, c1) ∧ fX10_freezes_L27 (nI h0) k2 (-nI 2) (nI i) m = some (r, m1) ∧ RelP R H O L c1 m1 := by
  intro d
  induction d with
  | zero =>
    intro i k1 k2 N c m hi h1 h2 hN h
    obtain ⟨k1, rfl⟩ : ∃ j, k1 = j + 1 := ⟨k1 - 1, by omega⟩
    obtain ⟨k2, rfl⟩ : ∃ j, k2 = j + 1 := ⟨k2 - 1, by omega⟩
    obtain ⟨m1, a1, a2, -⟩ := hR.back h.2.2.2.2.1 h.2.2.2.2.2
    refine ⟨-nI 2, c, m1, ?_, ?_, a2⟩
    · rw [fX9_freezes_L24]
      simp only [lit_nI]
      rw [if_pos (by rw [le_nI (by omega) (by omega)]; omega)]
    · rw [fX10_freezes_L27]
      simp only [lit_nI]
      rw [if_pos (by rw [le_nI (by omega) (by omega)]; omega), a1, br_some]
  | succ d ih =>
    intro i k1 k2 N c m hi h1 h2 hN h
    obtain ⟨k1, rfl⟩ : ∃ j, k1 = j + 1 := ⟨k1 - 1, by omega⟩
    obtain ⟨k2, rfl⟩ : ∃ j, k2 = j + 1 := ⟨k2 - 1, by omega⟩
    have e39 : c.1 13 39 = nI N := by rw [h.1.2.2.1.2.2.2.1]; exact h.1.2.2.2.2.2.2
    have hH := h.1.1.1
    obtain ⟨x, c1, m1, f1, f2, f3, f4⟩ := h.step (Or.inl rfl) (by omega)
    have hrow := f3.1.2.2
    obtain ⟨f, f9, ef⟩ := hrow.2.2.2.1.2.2.1
    have ef2 : c1.1 13 38 = nI f := by rw [hrow.1.2.2.1]; exact ef
    have eN : m1.1 502 6 = nI (N + 1) := hrow.2.2.2.2
    have hb := bit_v f f9 h0 (by omega)
    have hba := bit_and f f9 h0 (by omega)
    rw [fX9_freezes_L24, fX10_freezes_L27]
    simp (disch := omega) only [lit_nI, le_nI, if_true, nm_eq, f1, f2, bw_some, isFrozen_v, br_some, ef, ef2, hb, hba, e39, eN, sub1_nI, nI_add]
    rw [if_neg (show ¬ 200 ≤ i by omega), if_neg (show ¬ 200 ≤ i by omega)]
    rcases (show f / 2 ^ h0 % 2 = 0 ∨ f / 2 ^ h0 % 2 = 1 by omega) with z | z
    · simp only [z, if_true, n01, if_false]
      exact ih (i + 1) k1 k2 (N + 1) c1 m1 (by omega) (by omega) (by omega) (by omega) f3
    · obtain ⟨m2, a1, a2, -⟩ := hR.back f3.2.2.2.2.1 f3.2.2.2.2.2
      obtain ⟨k2, rfl⟩ : ∃ j, k2 = j + 1 := ⟨k2 - 1, by omega⟩
      simp only [z, if_true, n10, if_false]
      rw [if_neg (by omega), fX10_freezes_L27, a1, br_some]
      simp (disch := omega) only [lit_nI, ne_m2, if_false]
      refine ⟨nI N, c1, m2, rfl, ?_, a2⟩
      split <;> rfl
theorem sk_15 : Sk_15 Rel := by
  rintro L c m ⟨R, H, O, h⟩ p1
  have hR : Rel L c m := ⟨R, H, O, h⟩
  obtain ⟨h8, h3, l1, l2, l3, l4⟩ := h.land
  obtain ⟨N0, N9, -, -, hrow⟩ := h.nr
  unfold fX9_freezes fX10_freezes
  rcases isHouse_v h8 l1 l2 p1 with ⟨k, hk, rfl, e1, e2⟩ | ⟨e1, e2⟩
  · obtain ⟨x, x1, x2, x3⟩ := frozen_v hrow.1.2.2.1 (nI k)
    rcases x3 with ⟨rfl, -⟩ | ⟨rfl, -⟩
    · obtain ⟨m1, a1, a2, a3, a4, -⟩ := keep_v h
      obtain ⟨N, c1, N9, b1, b2, -⟩ := start_v a4 CE.rf a2
      obtain ⟨r, c2, m2, d1, d2, d3⟩ := freezes_L h hk 200 0 10000 10000 N c1 m1 (by omega) (by omega) (by omega) (by omega) b2
      simp only [e1, e2, br_some, lit_nI, n10, if_false, if_true, x1, x2, a1, b1]
      exact ⟨r, c2, m2, d1, d2, R, H, O, d3⟩
    · simp only [e1, e2, br_some, lit_nI, n10, if_false, x1, x2]
      exact ⟨_, c, m, rfl, rfl, hR⟩
  · simp only [e1, e2, br_some, lit_nI, if_true]
    exact ⟨_, c, m, rfl, rfl, hR⟩
theorem stays_v {H O n : Nat} {L : List Nat} {c0 m0 : St} {p : Int32} (hn : n < 10000) : ∀ (d i k1 k2 N : Nat) (c m : St), i + d = n → d < k1 → d < k2 → N + d < 99999 → TR H O L c0 m0 N 13 c m → (d = 0 → m.1 502 7 &&& p = nI 0) → ∃ x c1 m1, fX9_staysWarm_L2 L (nI n) p k1 (nI i) c = some (x, c1) ∧ fX10_goFor_L2 (nI n) k2 (nI i) m = some m1 ∧ ((x = nI 1 ∧ m1.1 502 7 &&& p = nI 0) ∨ (x = nI 0 ∧ ¬ m1.1 502 7 &&& p = nI 0)) ∧ CE c0 c1 ∧ SV m0 m1 ∧ ∃ f, f < 256 ∧ m1.1 502 7 = nI f := by
  intro d
  induction d with
  | zero =>
    intro i k1 k2 N c m hi h1 h2 hN h hz
    obtain ⟨k1, rfl⟩ : ∃ j, k1 = j + 1 := ⟨k1 - 1, by omega⟩
    obtain ⟨k2, rfl⟩ : ∃ j, k2 = j + 1 := ⟨k2 - 1, by omega⟩
    refine ⟨nI 1, c, m, ?_, ?_, Or.inl ⟨rfl, hz rfl⟩, h.2.2.2.2.1, h.2.2.2.2.2, h.1.2.2.2.2.2.1.2.2.1⟩
    · rw [fX9_staysWarm_L2, if_pos (by rw [le_nI (by omega) (by omega)]; omega)]
      rfl
    · rw [fX10_goFor_L2, if_pos (by rw [le_nI (by omega) (by omega)]; omega)]
  | succ d ih =>
    intro i k1 k2 N c m hi h1 h2 hN h hz
    obtain ⟨k1, rfl⟩ : ∃ j, k1 = j + 1 := ⟨k1 - 1, by omega⟩
    obtain ⟨k2, rfl⟩ : ∃ j, k2 = j + 1 := ⟨k2 - 1, by omega⟩
    obtain ⟨x, c1, m1, f1, f2, f3, f4⟩ := h.step (Or.inl rfl) (by omega)
    have e38 : c1.1 13 38 = m1.1 502 7 := f3.1.2.2.1.2.2.1
    rw [fX9_staysWarm_L2, fX10_goFor_L2]
    simp (disch := omega) only [lit_nI, le_nI, f1, f2, bw_some, nm_eq, nI_add, e38]
    rw [if_neg (show ¬ n ≤ i by omega), if_neg (show ¬ n ≤ i by omega)]
    by_cases hp : m1.1 502 7 &&& p = nI 0
    · rw [if_pos hp]
      exact ih (i + 1) k1 k2 (N + 1) c1 m1 (by omega) (by omega) (by omega) (by omega) f3 (fun _ => hp)
    · rw [if_neg hp]
      obtain ⟨c2, m2, g1, g2, g3⟩ := goFor_v (n := n) (Or.inl rfl) hn d (i + 1) k2 (N + 1) c1 m1 (by omega) (by omega) (by omega) f3
      exact ⟨nI 0, c1, m2, rfl, g1, Or.inr ⟨rfl, g3.ne hp⟩, f3.2.2.2.2.1, g2.2.2.2.2.2, g2.1.2.2.2.2.2.1.2.2.1⟩
theorem TR.wood {H O N h0 : Nat} {L : List Nat} {c0 m0 c m : St} {v : Int32} (h : TR H O L c0 m0 N 13 c m) (hh : h0 < H) : TR H O L c0 m0 N 13 (ui c 13 (8 + h0) v) (ui m 504 h0 v) := by
  obtain ⟨⟨a1, a2, a3⟩, a4, a5, a6, a7, a8⟩ := h
  have hH := a1.1
  have hO := a1.2.1
  have hcf : CF 13 c (ui c 13 (8 + h0) v) := ⟨fun k hk => ui_ne hk, rfl⟩
  have hmf : MF m (ui m 504 h0 v) := ⟨fun k i _ h2 _ _ _ _ => by rw [ui_ne h2], rfl⟩
  refine ⟨⟨a1.keep (Or.inr (Or.inl rfl)) hcf hmf, a2.keep (Or.inr (Or.inl rfl)) hcf hmf, RowOK.wood hh hH hO a3 row1⟩, ?_, a5.keep (Or.inr (Or.inl rfl)) hcf hmf, ?_, a7.tr (hcf.ce (by omega)), a8.mf hmf⟩
  · rw [ui_ne (by omega), ui_ne (by omega)]
    exact a4
  · rw [ui_ne (by omega)]
    exact a6
theorem logs_L {R H O h0 n : Nat} {L : List Nat} {c0 m0 : St} (hR : RelP R H O L c0 m0) (hh : h0 < H) (n1 : 1 ≤ n) (n6 : n ≤ 60) : ∀ (d k k1 k2 : Nat) (c m : St), k + d = 100 → d < k1 → d + 1 < k2 → CE c0 c → SV m0 m → RelP R H O L c m → ∃ r c1 m1, fX9_logs_L27 L (nI h0) (nI n) k1 (nI k) c = some (r, c1) ∧ fX10_logs_L40 (nI h0) (nI n) k2 (-nI 2) (nI k) m = some (r, m1) ∧ RelP R H O L c1 m1 := by
  intro d
  induction d with
  | zero =>
    intro k k1 k2 c m hk h1 h2 hc hm h
    obtain ⟨k1, rfl⟩ : ∃ j, k1 = j + 1 := ⟨k1 - 1, by omega⟩
    obtain ⟨k2, rfl⟩ : ∃ j, k2 = j + 1 := ⟨k2 - 1, by omega⟩
    refine ⟨-nI 2, c, m, ?_, ?_, h⟩
    · rw [fX9_logs_L27]
      simp only [lit_nI]
      rw [if_pos (by rw [lt_nI (by omega) (by omega)]; omega)]
    · rw [fX10_logs_L40]
      simp only [lit_nI]
      rw [if_pos (by rw [lt_nI (by omega) (by omega)]; omega)]
  | succ d ih =>
    intro k k1 k2 c m hk h1 h2 hc hm h
    obtain ⟨k1, rfl⟩ : ∃ j, k1 = j + 1 := ⟨k1 - 1, by omega⟩
    obtain ⟨k2, rfl⟩ : ∃ j, k2 = j + 1 := ⟨k2 - 1, by omega⟩
    obtain ⟨h8, -⟩ := h.land
    obtain ⟨N, c1, N9, b1, b2, -⟩ := start_v h hc hm
    have b3 := b2.wood (v := nI k) hh
    obtain ⟨x, c2, m2, s1, s2, s3, s4, s5, f, f9, ef⟩ := stays_v (n := n) (p := nI 1 <<< (nI h0 &&& nI 31)) (by omega) n 0 10000 10000 N _ _ (by omega) (by omega) (by omega) (by omega) b3 (fun q => by omega)
    obtain ⟨m3, a1, a2, a3, a4⟩ := hR.back s4 s5
    have s1' : fX9_staysWarm L (nI n) (nI 1 <<< (nI h0 &&& nI 31)) (ui c1 13 (8 + h0) (nI k)) = some (x, c2) := s1
    have s2' : fX10_goFor (nI n) (ui m 504 h0 (nI k)) = some m2 := s2
    rw [fX9_logs_L27, fX10_logs_L40]
    unfold fX10_logs_B81
    simp (disch := omega) only [lit_nI, lt_nI, if_true, b1, br_some, nI_add, gd_ix, cl_nI, nm_eq, s1', s2', bw_some, isFrozen_v, a1]
    rw [if_neg (show ¬ 99 < k by omega), if_neg (show ¬ 99 < k by omega)]
    rw [ef, bit_and f f9 h0 (by omega)] at s3
    rw [ef, bit_v f f9 h0 (by omega)]
    rcases s3 with ⟨rfl, z⟩ | ⟨rfl, z⟩
    · simp only [z, n10, n01, if_true, if_false]
      obtain ⟨k2, rfl⟩ : ∃ j, k2 = j + 1 := ⟨k2 - 1, by omega⟩
      rw [fX10_logs_L40]
      simp (disch := omega) only [lit_nI, ne_m2, if_false]
      refine ⟨nI k, c2, m3, rfl, ?_, a2⟩
      split <;> rfl
    · have z1 : f / 2 ^ h0 % 2 = 1 := by omega
      simp only [z1, n10, if_true, if_false]
      exact ih (k + 1) k1 k2 c2 m3 (by omega) (by omega) (by omega) s4 a3 a2
theorem sk_18 : Sk_18 Rel := by
  rintro L c m ⟨R, H, O, h⟩ p1 p2
  have hR : Rel L c m := ⟨R, H, O, h⟩
  obtain ⟨h8, h3, l1, l2, l3, l4⟩ := h.land
  obtain ⟨N0, N9, -, -, hrow⟩ := h.nr
  unfold fX9_logs fX10_logs
  rcases isHouse_v h8 l1 l2 p1 with ⟨k, hk, rfl, e1, e2⟩ | ⟨e1, e2⟩
  · obtain ⟨x, x1, x2, x3⟩ := frozen_v hrow.1.2.2.1 (nI k)
    rcases x3 with ⟨rfl, -⟩ | ⟨rfl, -⟩
    · rcases trialLen_v p2 with ⟨n, n1, n6, rfl, e3, e4⟩ | ⟨e3, e4⟩
      · obtain ⟨m1, a1, a2, a3, a4, -⟩ := keep_v h
        obtain ⟨r, c2, m2, d1, d2, d3⟩ := logs_L h hk n1 n6 100 0 10000 10000 c m1 (by omega) (by omega) (by omega) CE.rf a2 a4
        simp only [e1, e2, br_some, lit_nI, n10, if_false, if_true, x1, x2, a1, e3, e4]
        exact ⟨r, c2, m2, d1, d2, R, H, O, d3⟩
      · simp only [e1, e2, br_some, lit_nI, n10, if_false, if_true, x1, x2, e3, e4]
        exact ⟨_, c, m, rfl, rfl, hR⟩
    · simp only [e1, e2, br_some, lit_nI, n10, if_false, x1, x2]
      exact ⟨_, c, m, rfl, rfl, hR⟩
  · simp only [e1, e2, br_some, lit_nI, if_true]
    exact ⟨_, c, m, rfl, rfl, hR⟩
theorem TR.tenth {H O N t : Nat} {L : List Nat} {c0 m0 c m : St} (h : TR H O L c0 m0 N 13 c m) (ht : t ≤ 100) : TR H O L c0 m0 N 13 (ui c 50 3 (nI t)) (ui m 502 0 (nI t)) := by
  obtain ⟨⟨a1, ⟨S, S6, s1, s2⟩, ⟨r1, r2, r3, r4, r5⟩, ⟨w1, w2⟩, a3, ⟨b1, b2, b3, b4, b5⟩, aN⟩, a4, a5, a6, a7, a8⟩ := h
  refine ⟨⟨?_, ⟨S, S6, ?_, ?_⟩, ⟨r1, r2, r3, r4, r5⟩, ⟨w1, w2⟩, a3, ⟨b1, b2, ?_, ?_, ?_⟩, ?_⟩, ?_, ?_, ?_, ?_, a8.ui (by omega)⟩
  · unfold LandR
    rw [ui_ne (show 134 ≠ 50 by omega), ui_ne (show 134 + 9 ≠ 50 by omega), ui_ne (show 134 + 10 ≠ 50 by omega), ui_ne (show 134 + 11 ≠ 50 by omega), ui_ne (show 505 ≠ 502 by omega), ui_ne (show 507 ≠ 502 by omega), ui_ne (show 510 ≠ 502 by omega)]
    simp only [ui_rd, Nat.reduceEqDiff, if_true, if_false]
    exact a1
  · rw [ui_ne (by omega)]
    exact s1
  · rw [ui_ne (by omega), ui_ne (by omega)]
    exact s2
  · simp only [ui_rd, Nat.reduceEqDiff, if_true, if_false]
    exact b3
  · simp only [ui_rd, if_true]
    exact ⟨t, ht, rfl⟩
  · simp only [ui_rd, Nat.reduceEqDiff, if_true, if_false]
    exact b5
  · simp only [ui_rd, Nat.reduceEqDiff, if_true, if_false]
    exact aN
  · simp only [ui_rd, if_true]
  · rcases a5 with ⟨q1, q2⟩ | ⟨r, r6, q1, q2, q3, q4⟩
    · refine Or.inl ⟨q1, ?_⟩
      simp only [ui_rd, Nat.reduceEqDiff, if_true, if_false]
      exact q2
    · refine Or.inr ⟨r, r6, q1, ?_, ?_, q4⟩
      · simp only [ui_rd, Nat.reduceEqDiff, if_true, if_false]
        exact q2
      · refine q3.cg (fun k k1 k2 => ui_ne (by omega)) ?_ (fun i _ => ⟨?_, ?_, ?_⟩) (fun j _ => ⟨?_, ?_⟩) <;> rw [ui_ne (by omega)]
  · rw [ui_ne (by omega)]
    exact a6
  · exact a7.tr ⟨fun k hk => ui_ne (by omega), fun _ _ => rfl, fun i r e => ⟨50, i, e⟩⟩
theorem rate_L {R H O n : Nat} {L : List Nat} {c0 m0 : St} {p : Int32} (hR : RelP R H O L c0 m0) (n1 : 1 ≤ n) (n6 : n ≤ 60) : ∀ (k k1 k2 : Nat) (c m : St), k ≤ 100 → k + 1 < k1 → k + 2 < k2 → CE c0 c → SV m0 m → RelP R H O L c m → ∃ r c1 m1, fX9_rate_L38 L (nI n) k1 (p ^^^ -nI 1) (nI k) c = some (r, c1) ∧ fX10_rate_L40 (nI n) k2 (-nI 2) p (nI k) m = some (r, m1) ∧ RelP R H O L c1 m1 := by
  intro k
  induction k with
  | zero =>
    intro k1 k2 c m hk h1 h2 hc hm h
    obtain ⟨k1, rfl⟩ : ∃ j, k1 = j + 1 := ⟨k1 - 1, by omega⟩
    obtain ⟨k2, rfl⟩ : ∃ j, k2 = j + 1 := ⟨k2 - 1, by omega⟩
    obtain ⟨N, c1, N9, b1, b2, -⟩ := start_v h hc hm
    have b3 := b2.tenth (t := 0) (by omega)
    obtain ⟨x, c2, m2, s1, s2, s3, s4, s5, -⟩ := stays_v (n := n) (p := p ^^^ -nI 1) (by omega) n 0 10000 10000 N _ _ (by omega) (by omega) (by omega) (by omega) b3 (fun q => by omega)
    obtain ⟨m3, a1, a2, a3, a4⟩ := hR.back s4 s5
    have s1' : fX9_staysWarm L (nI n) (p ^^^ -nI 1) (ui c1 50 3 (nI 0)) = some (x, c2) := s1
    have s2' : fX10_goFor (nI n) (ui m 502 0 (nI 0)) = some m2 := s2
    rw [fX9_rate_L38, fX10_rate_L40]
    unfold fX10_rate_B85
    simp (disch := omega) only [lit_nI, nI_lt0, if_true, if_false, b1, br_some, nm_eq, s1', s2', bw_some, a1]
    obtain ⟨k1, rfl⟩ : ∃ j, k1 = j + 1 := ⟨k1 - 1, by omega⟩
    obtain ⟨k2, rfl⟩ : ∃ j, k2 = j + 1 := ⟨k2 - 1, by omega⟩
    have e1 : nI 0 + -nI 1 = -nI 1 := by decide
    rcases s3 with ⟨rfl, z⟩ | ⟨rfl, z⟩
    · simp only [z, n10, if_true, if_false]
      rw [fX10_rate_L40]
      simp (disch := omega) only [lit_nI, ne_m2, if_false]
      refine ⟨nI 0, c2, m3, rfl, ?_, a2⟩
      split <;> rfl
    · simp only [z, if_true, if_false, e1]
      rw [fX9_rate_L38, fX10_rate_L40]
      simp only [lit_nI, m1_lt, if_true]
      exact ⟨_, c2, m3, rfl, rfl, a2⟩
  | succ k ih =>
    intro k1 k2 c m hk h1 h2 hc hm h
    obtain ⟨k1, rfl⟩ : ∃ j, k1 = j + 1 := ⟨k1 - 1, by omega⟩
    obtain ⟨k2, rfl⟩ : ∃ j, k2 = j + 1 := ⟨k2 - 1, by omega⟩
    obtain ⟨N, c1, N9, b1, b2, -⟩ := start_v h hc hm
    have b3 := b2.tenth (t := k + 1) (by omega)
    obtain ⟨x, c2, m2, s1, s2, s3, s4, s5, -⟩ := stays_v (n := n) (p := p ^^^ -nI 1) (by omega) n 0 10000 10000 N _ _ (by omega) (by omega) (by omega) (by omega) b3 (fun q => by omega)
    obtain ⟨m3, a1, a2, a3, a4⟩ := hR.back s4 s5
    have s1' : fX9_staysWarm L (nI n) (p ^^^ -nI 1) (ui c1 50 3 (nI (k + 1))) = some (x, c2) := s1
    have s2' : fX10_goFor (nI n) (ui m 502 0 (nI (k + 1))) = some m2 := s2
    rw [fX9_rate_L38, fX10_rate_L40]
    unfold fX10_rate_B85
    simp (disch := omega) only [lit_nI, nI_lt0, if_true, if_false, b1, br_some, nm_eq, s1', s2', bw_some, a1, dec_nI]
    rcases s3 with ⟨rfl, z⟩ | ⟨rfl, z⟩
    · obtain ⟨k2, rfl⟩ : ∃ j, k2 = j + 1 := ⟨k2 - 1, by omega⟩
      simp only [z, n10, if_true, if_false]
      rw [fX10_rate_L40]
      simp (disch := omega) only [lit_nI, ne_m2, if_false]
      refine ⟨nI (k + 1), c2, m3, rfl, ?_, a2⟩
      split <;> rfl
    · simp only [z, if_true, if_false]
      exact ih k1 k2 c2 m3 (by omega) (by omega) (by omega) s4 a3 a2
theorem sk_19 : Sk_19 Rel := by
  rintro L c m ⟨R, H, O, h⟩ p1
  have hR : Rel L c m := ⟨R, H, O, h⟩
  obtain ⟨t1, t2⟩ := told_v h
  obtain ⟨N0, N9, -, -, hrow⟩ := h.nr
  have e38 : c.1 122 38 = m.1 502 7 := hrow.1.2.2.1
  unfold fX9_rate fX10_rate
  simp only [lit_nI, t1]
  by_cases ht : m.1 500 28 = nI 0
  · rw [if_pos ht, if_pos ht]
    exact ⟨_, c, m, rfl, rfl, hR⟩
  · rw [if_neg ht, if_neg ht]
    rcases trialLen_v p1 with ⟨n, n1, n6, rfl, e3, e4⟩ | ⟨e3, e4⟩
    · obtain ⟨m1, a1, a2, a3, a4, -⟩ := keep_v h
      obtain ⟨r, c2, m2, d1, d2, d3⟩ := rate_L (p := m.1 502 7) h n1 n6 100 10000 10000 c m1 (by omega) (by omega) (by omega) CE.rf a2 a4
      simp only [e3, e4, br_some, n10, if_false, nm_eq, a1, e38]
      exact ⟨r, c2, m2, d1, d2, R, H, O, d3⟩
    · simp only [e3, e4, br_some, if_true]
      exact ⟨_, c, m, rfl, rfl, hR⟩
