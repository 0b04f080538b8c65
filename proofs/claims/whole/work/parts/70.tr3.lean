theorem TR.row {H O N a : Nat} {L : List Nat} {c0 m0 c m c1 m1 : St} (ha : RT a) (h : TR H O L c0 m0 N a c m) (hc : CF a c c1) (hm : MF m m1) (hr : RowOK H O N (c1.1 a) m1) : TR H O L c0 m0 N a c1 m1 := by
  obtain ⟨⟨a1, a2, a3⟩, a4, a5, a6, a7, a8⟩ := h
  have ha' := ha
  unfold RT at ha'
  refine ⟨⟨a1.keep ha.rs hc hm, a2.keep ha.rs hc hm, hr⟩, ?_, a5.keep ha.rs hc hm, ?_, a7.tr (hc.ce (by omega)), a8.mf hm⟩
  · rw [hc.1 50 (by omega), hm.1 502 0 (by omega) (by omega) (by omega) (by omega) (by omega) (by omega)]
    exact a4
  · rw [hm.1 500 49 (by omega) (by omega) (by omega) (by omega) (by omega) (by omega)]
    exact a6
theorem loan_L {R H O h0 t0 n w : Nat} {L : List Nat} {c0 m0 : St} (hR : RelP R H O L c0 m0) (hh : h0 < H) (ht : t0 < H) (n1 : 1 ≤ n) (n6 : n ≤ 60) (w9 : w ≤ 999) (ew : m0.1 503 h0 = nI w) (hz : (m0.1 502 7 >>> (nI t0 &&& nI 31)) &&& nI 1 = nI 0) : ∀ (d k k1 k2 : Nat) (c m : St), k + d = w + 1 → d < k1 → d + 1 < k2 → CE c0 c → SV m0 m → ME m0 m → RelP R H O L c m → ∃ r c1 m1, fX9_loan_L37 L (nI h0) (nI t0) (nI n) k1 (nI k) c = some (r, c1) ∧ fX10_loan_L78 (nI h0) (nI t0) (nI n) k2 (-nI 2) (nI w) (nI k) m = some (r, m1) ∧ RelP R H O L c1 m1 := by
  intro d
  induction d with
  | zero =>
    intro k k1 k2 c m hk h1 h2 hc hm hme h
    obtain ⟨k1, rfl⟩ : ∃ j, k1 = j + 1 := ⟨k1 - 1, by omega⟩
    obtain ⟨k2, rfl⟩ : ∃ j, k2 = j + 1 := ⟨k2 - 1, by omega⟩
    obtain ⟨h8, -⟩ := h.land
    obtain ⟨N, N9, -, -, hrow⟩ := h.nr
    have ec : c.1 122 h0 = nI w := by
      rw [(hrow.1.1 h0 hh).1, hme.1.2.2 503 h0 (show h0 < 8 by omega)]
      exact ew
    refine ⟨-nI 2, c, m, ?_, ?_, h⟩
    · rw [fX9_loan_L37]
      simp (disch := omega) only [lit_nI, nI_add, Nat.zero_add, gd_ix, cl_nI, ec, lt_nI]
      rw [if_pos (by omega)]
    · rw [fX10_loan_L78]
      simp (disch := omega) only [lit_nI, lt_nI]
      rw [if_pos (by omega)]
  | succ d ih =>
    intro k k1 k2 c m hk h1 h2 hc hm hme h
    obtain ⟨k1, rfl⟩ : ∃ j, k1 = j + 1 := ⟨k1 - 1, by omega⟩
    obtain ⟨k2, rfl⟩ : ∃ j, k2 = j + 1 := ⟨k2 - 1, by omega⟩
    obtain ⟨h8, h3, -⟩ := h.land
    obtain ⟨N0, N90, -, -, hrow⟩ := h.nr
    have em : m.1 503 h0 = nI w := by
      rw [hme.1.2.2 503 h0 (show h0 < 8 by omega)]
      exact ew
    have ec : c.1 122 h0 = nI w := by
      rw [(hrow.1.1 h0 hh).1]
      exact em
    obtain ⟨N, c1, N9, b1, b2, -⟩ := start_v h hc hm
    obtain ⟨c2, m2, w', f1, f2, f3, f4, f5, f6, f7, f8, f9, f10⟩ := lend_v (k := k) h8 h3 b2.1.2.2 hh ht em w9 (by omega)
    have hcf : CF 13 c1 c2 := ⟨f6, by rw [f7]⟩
    have hmf : MF m m2 := ⟨fun s i h1 _ _ _ _ _ => by rw [f8 s h1], by rw [f9]⟩
    have b3 := b2.row (Or.inl rfl) hcf hmf f5
    have ez : (m2.1 502 7 >>> (nI t0 &&& nI 31)) &&& nI 1 = nI 0 := by
      rw [f8 502 (by omega), hme.1.2.2 502 7 (show 7 < 12 by omega)]
      exact hz
    have f10' : fX10_lends (nI h0) (nI t0) (nI k) m = some m2 := by
      rw [f10, isFrozen_v]
      simp only [lit_nI, ez, n01, if_false, br_some, if_true]
    obtain ⟨x, c3, m3, s1, s2, s3, s4, s5, f, f9, ef⟩ := stays_v (n := n) (p := (nI 1 <<< (nI h0 &&& nI 31)) ||| (nI 1 <<< (nI t0 &&& nI 31))) (by omega) n 0 10000 10000 N c2 m2 (by omega) (by omega) (by omega) (by omega) b3 (fun q => by omega)
    obtain ⟨m4, a1, a2, a3, a4⟩ := hR.back s4 s5
    have s1' : fX9_staysWarm L (nI n) ((nI 1 <<< (nI h0 &&& nI 31)) ||| (nI 1 <<< (nI t0 &&& nI 31))) c2 = some (x, c3) := s1
    have s2' : fX10_goFor (nI n) m2 = some m3 := s2
    rw [fX9_loan_L37, fX10_loan_L78]
    unfold fX10_loan_B121 fX10_loan_B128
    simp (disch := omega) only [lit_nI, lt_nI, if_true, b1, br_some, nI_add, Nat.zero_add, gd_ix, cl_nI, nm_eq, ec, f1, f10', s1', s2', bw_some, isFrozen_v, a1]
    rw [if_neg (show ¬ w < k by omega), if_neg (show ¬ w < k by omega)]
    rw [ef, and_or_l, or_z, bit_and f f9 h0 (by omega), bit_and f f9 t0 (by omega)] at s3
    rw [ef, bit_v f f9 h0 (by omega), bit_v f f9 t0 (by omega)]
    rcases s3 with ⟨rfl, z1, z2⟩ | ⟨rfl, z⟩
    · simp only [z1, z2, n10, n01, if_true, if_false]
      obtain ⟨k2, rfl⟩ : ∃ j, k2 = j + 1 := ⟨k2 - 1, by omega⟩
      rw [fX10_loan_L78]
      simp (disch := omega) only [lit_nI, ne_m2, if_false]
      refine ⟨nI k, c3, m4, rfl, ?_, a2⟩
      split <;> rfl
    · have go := ih (k + 1) k1 k2 c3 m4 (by omega) (by omega) (by omega) s4 a3 a4 a2
      rcases (show f / 2 ^ h0 % 2 = 0 ∨ f / 2 ^ h0 % 2 = 1 by omega) with z1 | z1
      · have z2 : f / 2 ^ t0 % 2 = 1 := by omega
        simp only [z1, z2, n10, n01, if_true, if_false]
        exact go
      · simp only [z1, n10, if_true, if_false]
        exact go
theorem sk_23 : Sk_23 Rel := by
  rintro L c m ⟨R, H, O, h⟩ p1 p2 p3
  have hR : Rel L c m := ⟨R, H, O, h⟩
  obtain ⟨h8, h3, l1, l2, l3, l4⟩ := h.land
  obtain ⟨N, N9, hland, -, hrow⟩ := h.nr
  unfold fX9_loan fX10_loan
  rcases beside_v h p1 p2 with ⟨a, b, ha, hb, rfl, rfl, e1, e2, e3, e4⟩ | ⟨e1, e2⟩
  · obtain ⟨x, x1, x2, x3⟩ := frozen_v hrow.1.2.2.1 (nI a)
    obtain ⟨y, y1, y2, y3⟩ := frozen_v hrow.1.2.2.1 (nI b)
    rcases x3 with ⟨rfl, -⟩ | ⟨rfl, -⟩
    · rcases y3 with ⟨rfl, yz⟩ | ⟨rfl, -⟩
      · rcases trialLen_v p3 with ⟨n, n1, n6, rfl, e5, e6⟩ | ⟨e5, e6⟩
        · obtain ⟨⟨w, w9, ew⟩, -⟩ := hrow.2.2.1 a ha
          obtain ⟨m1, a1, a2, a3, a4, -⟩ := keep_v h
          obtain ⟨r, c2, m2, d1, d2, d3⟩ := loan_L h ha hb n1 n6 w9 ew yz (w + 1) 0 10000 10000 c m1 (by omega) (by omega) (by omega) CE.rf a2 a3 a4
          simp (disch := omega) only [e1, e2, e3, e4, br_some, lit_nI, n10, if_false, if_true, x1, x2, y1, y2, e5, e6, gd_ix, cl_nI, ew, nm_eq, a1]
          exact ⟨r, c2, m2, d1, d2, R, H, O, d3⟩
        · simp (disch := omega) only [e1, e2, e3, e4, br_some, lit_nI, n10, if_false, if_true, x1, x2, y1, y2, e5, e6, gd_ix, cl_nI]
          exact ⟨_, c, m, rfl, rfl, hR⟩
      · simp only [e1, e2, e3, br_some, lit_nI, n10, if_false, if_true, x1, x2, y1, y2]
        exact ⟨_, c, m, rfl, rfl, hR⟩
    · simp only [e1, e2, e3, br_some, lit_nI, n10, if_false, x1, x2]
      exact ⟨_, c, m, rfl, rfl, hR⟩
  · rcases e2 with e2 | ⟨e2, e3⟩ | ⟨a, b, ha, hb, rfl, rfl, e2, e3, e4⟩
    · simp only [e1, e2, br_some, lit_nI, if_true]
      exact ⟨_, c, m, rfl, rfl, hR⟩
    · simp only [e1, e2, e3, br_some, lit_nI, n10, if_true, if_false]
      exact ⟨_, c, m, rfl, rfl, hR⟩
    · obtain ⟨x, x1, x2, x3⟩ := frozen_v hrow.1.2.2.1 (nI a)
      obtain ⟨y, y1, y2, y3⟩ := frozen_v hrow.1.2.2.1 (nI b)
      rcases x3 with ⟨rfl, -⟩ | ⟨rfl, -⟩
      · rcases y3 with ⟨rfl, yz⟩ | ⟨rfl, -⟩
        · simp (disch := omega) only [e1, e2, e3, e4, br_some, lit_nI, n10, if_true, if_false, x2, y2, gd_ix, cl_nI]
          exact ⟨_, c, m, rfl, rfl, hR⟩
        · simp only [e1, e2, e3, br_some, lit_nI, n10, if_true, if_false, x2, y2]
          exact ⟨_, c, m, rfl, rfl, hR⟩
      · simp only [e1, e2, e3, br_some, lit_nI, n10, if_true, if_false, x2]
        exact ⟨_, c, m, rfl, rfl, hR⟩
