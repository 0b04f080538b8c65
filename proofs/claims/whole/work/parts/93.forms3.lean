theorem toldH {c : St} {H : Nat} {k : Nat} (hk : mostT.getD k (nI 0) = -nI 1) (h : c.1 100 4 = nI H) : (if mostT.getD k (nI 0) = -nI 1 then c.1 100 4 - nI 1 else mostT.getD k (nI 0)) = nI H - nI 1 := by
  rw [if_pos hk, h]
theorem H1_toInt {H : Nat} (h : H ≤ 8) : (nI H - nI 1).toInt = (H : Int) - 1 := pk_sub_toInt (by omega) (by omega)
theorem form3 {t : Nat → Nat} {T S j p n H O N Z : Nat} {pos : Nat → Nat} {c m : St} {pc : Int32} (h : LK t T S pos j p c m) (h0 : m.1 500 31 = nI 0) (hd : DR H O N Z c m) : CO t T S pos c m (fX0_readClause_L83 pc (n + 4) (nI 3) (nI 0) c) (fX10_duchyPart (nI 3) m) := by
  have mH : m.1 520 3 = nI H := hd.2.2.1.2.1
  have cH : c.1 100 4 = nI H := hd.2.2.1.1
  have H8 : H ≤ 8 := hd.1.1
  unfold fX10_duchyPart
  simp (disch := omega) only [lit_nI, eq_nI, Nat.reduceEqDiff, if_true, if_false, mH]
  rw [L83_go (N := 2) (by omega) rfl (by omega) (by omega)]
  rcases num_v (f := 3) (i := 0) (lo := 0) (hi := nI H - nI 1) h h0 (by omega) (by omega) (by omega) rfl (toldH (by decide) cH) with ⟨F, x, m1, a1, a2, a3, a4, a5⟩ | ⟨v0, e0, c1, v09, -, v01, a1, a2, a3, a4⟩
  · rw [a1, a2]
    simp only [bw_some, f0_ite]
    obtain ⟨m2, b1, b2, b3, b4⟩ := a3.amt (nI 0) (nI 50)
    rw [b1]
    simp only [bw_some]
    rw [if_neg b2.nz]
    exact CO.no rfl rfl b2 CD.rf (a4.tr b3)
  · rw [a1, a2]
    simp only [bw_some, f1_ite]
    rw [L83_go (N := 2) (by omega) rfl (by omega) (by omega)]
    have z1 : (ui m 500 30 (nI e0)).1 500 31 = nI 0 := e31 h0 (by omega)
    rcases num_v (f := 3) (i := 1) (lo := 0) (hi := nI 50) a3 z1 (by omega) (by omega) (by omega) rfl ((if_neg (by decide)).trans rfl) with ⟨F, x, m2, b1, b2, b3, b4, b5⟩ | ⟨v1, e1, c2, v19, -, v11, b1, b2, b3, b4⟩
    · rw [b1, b2]
      simp only [bw_some, f0_ite]
      rw [if_neg b3.nz]
      exact CO.no rfl rfl b3 a4.cd (u30.tr b4)
    · rw [b1, b2]
      simp only [bw_some, f1_ite]
      rw [L83_end (N := 2) (by omega) rfl rfl (by omega), if_pos (e31 z1 (by omega))]
      rw [H1_toInt H8] at v01
      rw [nI_toInt (by omega)] at v11
      have s1 : c2.1 32 1 = nI v1 := b4.2.1
      have s0 : c2.1 32 0 = nI v0 := by rw [b4.2.2.1 0 (by omega), a4.2.1]
      have hc : ∀ k, k ≠ 20 → k ≠ 32 → c2.1 k = c.1 k := fun k k1 k2 => by rw [b4.1 k k1 k2, a4.1 k k1 k2]
      unfold fX0_put
      simp (disch := omega) only [lit_nI, eq_nI, Nat.reduceEqDiff, if_true, if_false, s0, s1, nI_add, gd_ix, cl_nI, nm_eq, br_some]
      refine Or.inr ⟨_, _, j + 1 + 1, e1, H, O, N, Z, rfl, rfl, ?_, ?_, ?_, ?_, ?_⟩
      · refine b3.of (fun k k1 k2 => ?_) (by simp only [ui_rd, Nat.reduceEqDiff, if_false, if_true]) (by simp only [ui_rd, Nat.reduceEqDiff, if_false, if_true]) ?_
        · rw [ui_ne (by omega)]
        · rw [ui_ne (by omega)]
      · exact e31 (e31 z1 (by omega)) (by omega)
      · exact (a4.cd.tr b4.cd).tr (CD.ui (by omega))
      · exact (u30.tr u30).tr (MD.ui (by omega))
      · obtain ⟨⟨q1, q1b, q1c, q1d⟩, q2, q3, q7, q8, q9, q10, q11, q12, q13⟩ := hd
        unfold DR
        simp only [ui_rd, Nat.reduceEqDiff, if_true, if_false, hc 100 (by omega) (by omega), hc 109 (by omega) (by omega), hc 110 (by omega) (by omega), hc 111 (by omega) (by omega), hc 112 (by omega) (by omega), hc 113 (by omega) (by omega)]
        refine ⟨⟨by omega, q1b, q1c, q1d⟩, q2, q3, q7, fun x hx => ?_, fun x x1 x2 => ?_, fun q hq => ?_, fun i i1 i2 => ?_, q12, q13⟩
        · unfold HR
          simp only [ui_rd, Nat.reduceEqDiff, if_true, if_false, hc 109 (by omega) (by omega), hc 110 (by omega) (by omega), hc 113 (by omega) (by omega)]
          obtain ⟨r1, r2, r3, r4, r5, r6, r7, r8, r9, r10⟩ := q8 x hx
          by_cases e : x = v0
          · subst e
            simp (disch := omega) only [if_pos, if_neg, if_true]
            exact ⟨r1, r2, r3, trivial, r5, r6, r7, r8, ⟨v1, by omega, rfl⟩, r10⟩
          · simp (disch := omega) only [if_pos, if_neg, if_true]
            exact ⟨r1, r2, r3, r4, r5, r6, r7, r8, r9, r10⟩
        · simp (disch := omega) only [if_pos, if_neg, if_true]
          exact q9 x x1 x2
        · simp (disch := omega) only [if_pos, if_neg, if_true]
          exact q10 q hq
        · simp (disch := omega) only [if_pos, if_neg, if_true]
          exact q11 i i1 i2
theorem addOfficer_v {c : St} {O v0 v1 : Nat} (h : c.1 100 6 = nI O) (hO : O < 3) : fX1_addOfficer 100 (nI v0) (nI v1) c = some (ui (ui (ui c 113 (32 + O) (nI v0)) 111 O (nI v1)) 100 6 (nI (O + 1))) := by
  unfold fX1_addOfficer
  simp (disch := omega) only [lit_nI, h, le_nI, nI_add, Nat.zero_add, Nat.reduceAdd, gd_ix, cl_nI, ↓nm_eq, ui_rd, Nat.reduceEqDiff, if_false]
  rw [if_neg (by omega)]
theorem form4 {t : Nat → Nat} {T S j p n H O N Z : Nat} {pos : Nat → Nat} {c m : St} {pc : Int32} (h : LK t T S pos j p c m) (h0 : m.1 500 31 = nI 0) (hd : DR H O N Z c m) (hO : O < 3) : CO t T S pos c m (fX0_readClause_L83 pc (n + 4) (nI 4) (nI 0) c) (fX10_duchyPart (nI 4) m) := by
  have mH : m.1 520 3 = nI H := hd.2.2.1.2.1
  have cH : c.1 100 4 = nI H := hd.2.2.1.1
  have mO : m.1 520 5 = nI O := hd.2.2.1.2.2.2.2.2.1
  have cO : c.1 100 6 = nI O := hd.2.2.1.2.2.2.2.1
  have H8 : H ≤ 8 := hd.1.1
  unfold fX10_duchyPart
  simp (disch := omega) only [lit_nI, eq_nI, Nat.reduceEqDiff, if_true, if_false, mH, mO, ↓nm_eq, gd_ix, cl_nI]
  rw [L83_go (N := 2) (by omega) rfl (by omega) (by omega)]
  rcases num_v (f := 4) (i := 0) (lo := 0) (hi := nI H - nI 1) h h0 (by omega) (by omega) (by omega) rfl (toldH (by decide) cH) with ⟨F, x, m1, a1, a2, a3, a4, a5⟩ | ⟨v0, e0, c1, v09, -, v01, a1, a2, a3, a4⟩
  · rw [a1, a2]
    simp only [bw_some, f0_ite]
    obtain ⟨m2, b1, b2, b3, b4⟩ := (a3.ui (k := 526) (i := O) (v := x) (by omega) (by omega)).amt (nI 1) (nI 200)
    rw [b1]
    simp only [bw_some]
    exact CO.no rfl rfl ((b2.ui (by omega) (by omega)).ui (by omega) (by omega)) CD.rf ((((a4.tr (MD.ui (by omega))).tr b3).tr (MD.ui (by omega))).tr (MD.ui (by omega)))
  · rw [a1, a2]
    simp only [bw_some, f1_ite]
    rw [L83_go (N := 2) (by omega) rfl (by omega) (by omega)]
    have g1 : LK t T S pos (j + 1) e0 c1 (ui (ui m 500 30 (nI e0)) 526 O (nI v0)) := a3.of (fun _ _ _ => rfl) (by rw [ui_ne (by omega)]) (by rw [ui_ne (by omega)]) (by rw [ui_ne (by omega)])
    have z1 : (ui (ui m 500 30 (nI e0)) 526 O (nI v0)).1 500 31 = nI 0 := e31 (e31 h0 (by omega)) (by omega)
    have w1 : MD m (ui (ui m 500 30 (nI e0)) 526 O (nI v0)) := u30.tr (MD.ui (by omega))
    rcases num_v (f := 4) (i := 1) (lo := 1) (hi := nI 200) g1 z1 (by omega) (by omega) (by omega) rfl ((if_neg (by decide)).trans rfl) with ⟨F, x, m2, b1, b2, b3, b4, b5⟩ | ⟨v1, e1, c2, v19, -, v11, b1, b2, b3, b4⟩
    · rw [b1, b2]
      simp only [bw_some, f0_ite]
      exact CO.no rfl rfl ((b3.ui (by omega) (by omega)).ui (by omega) (by omega)) a4.cd (((w1.tr b4).tr (MD.ui (by omega))).tr (MD.ui (by omega)))
    · rw [b1, b2]
      simp only [bw_some, f1_ite]
      rw [L83_end (N := 2) (by omega) rfl rfl (by omega)]
      rw [H1_toInt H8] at v01
      rw [nI_toInt (by omega)] at v11
      have s1 : c2.1 32 1 = nI v1 := b4.2.1
      have s0 : c2.1 32 0 = nI v0 := by rw [b4.2.2.1 0 (by omega), a4.2.1]
      have hc : ∀ k, k ≠ 20 → k ≠ 32 → c2.1 k = c.1 k := fun k k1 k2 => by rw [b4.1 k k1 k2, a4.1 k k1 k2]
      unfold fX0_put
      simp (disch := omega) only [lit_nI, eq_nI, Nat.reduceEqDiff, if_true, if_false, s0, s1]
      rw [addOfficer_v (O := O) (by rw [hc 100 (by omega) (by omega)]; exact cO) hO]
      simp only [br_some]
      refine Or.inr ⟨_, _, j + 1 + 1, e1, H, O + 1, N, Z, rfl, rfl, ?_, ?_, ?_, ?_, ?_⟩
      · refine b3.of (fun k k1 k2 => ?_) (by simp only [ui_rd, Nat.reduceEqDiff, if_false, if_true]) (by simp only [ui_rd, Nat.reduceEqDiff, if_false, if_true]) ?_
        · rw [ui_ne (by omega), ui_ne (by omega), ui_ne (by omega)]
        · rw [ui_ne (by omega), ui_ne (by omega)]
      · exact e31 (e31 (e31 z1 (by omega)) (by omega)) (by omega)
      · exact ((a4.cd.tr b4.cd).tr (CD.ui (by omega))).tr ((CD.ui (by omega)).tr (CD.ui (by omega)))
      · exact ((w1.tr u30).tr (MD.ui (by omega))).tr (MD.ui (by omega))
      · obtain ⟨⟨q1, q1b, q1c, q1d⟩, q2, ⟨q3, q4, q5, q6, q6a, q6b, q6c, q6d⟩, q7, q8, q9, q10, q11, q12, q13⟩ := hd
        unfold DR
        simp only [ui_rd, Nat.reduceEqDiff, if_true, if_false, hc 100 (by omega) (by omega), hc 109 (by omega) (by omega), hc 110 (by omega) (by omega), hc 111 (by omega) (by omega), hc 112 (by omega) (by omega), hc 113 (by omega) (by omega), mO, nI_add]
        refine ⟨⟨by omega, by omega, q1c, q1d⟩, q2, ⟨q3, q4, q5, q6, trivial, trivial, q6c, q6d⟩, q7, fun x hx => ?_, fun x x1 x2 => ?_, fun q hq => ?_, fun i i1 i2 => ?_, q12, q13⟩
        · unfold HR
          simp only [ui_rd, Nat.reduceEqDiff, if_true, if_false, hc 109 (by omega) (by omega), hc 110 (by omega) (by omega), hc 113 (by omega) (by omega)]
          obtain ⟨r1, r2, r3, r4, r5, r6, r7, r8, r9, r10⟩ := q8 x hx
          simp (disch := omega) only [if_pos, if_neg, if_true]
          exact ⟨r1, r2, r3, r4, r5, r6, r7, r8, r9, r10⟩
        · simp (disch := omega) only [if_pos, if_neg, if_true]
          exact q9 x x1 x2
        · by_cases e : q = O
          · subst e
            simp (disch := omega) only [if_pos, if_neg, if_true]
            exact ⟨trivial, trivial, ⟨v0, by omega, rfl⟩, v1, by omega, rfl⟩
          · simp (disch := omega) only [if_pos, if_neg, if_true]
            exact q10 q (by omega)
        · simp (disch := omega) only [if_pos, if_neg, if_true]
          exact q11 i i1 i2
theorem addSnow_v {c : St} {N v0 : Nat} (h : c.1 100 7 = nI N) (hN : N < 6) : fX1_addSnow 100 (nI v0) c = some (ui (ui c 112 N (nI v0)) 100 7 (nI (N + 1))) := by
  unfold fX1_addSnow
  simp (disch := omega) only [lit_nI, h, le_nI, nI_add, Nat.zero_add, Nat.reduceAdd, gd_ix, cl_nI, ↓nm_eq, ui_rd, Nat.reduceEqDiff, if_false]
  rw [if_neg (by omega)]
theorem form5 {t : Nat → Nat} {T S j p n H O N Z : Nat} {pos : Nat → Nat} {c m : St} {pc : Int32} (h : LK t T S pos j p c m) (h0 : m.1 500 31 = nI 0) (hd : DR H O N Z c m) (hN : N < 6) : CO t T S pos c m (fX0_readClause_L83 pc (n + 4) (nI 5) (nI 0) c) (fX10_duchyPart (nI 5) m) := by
  have mN : m.1 520 6 = nI N := hd.2.2.1.2.2.2.2.2.2.2
  have cN : c.1 100 7 = nI N := hd.2.2.1.2.2.2.2.2.2.1
  unfold fX10_duchyPart fX10_duchyPart_B206
  simp (disch := omega) only [lit_nI, eq_nI, Nat.reduceEqDiff, if_true, if_false]
  rw [L83_go (N := 1) (by omega) rfl (by omega) (by omega)]
  rcases num_v (f := 5) (i := 0) (lo := 0) (hi := nI 99) h h0 (by omega) (by omega) (by omega) rfl ((if_neg (by decide)).trans rfl) with ⟨F, x, m1, a1, a2, a3, a4, a5⟩ | ⟨v0, e0, c1, v09, -, v01, a1, a2, a3, a4⟩
  · rw [a1, a2]
    simp only [bw_some, f0_ite, nm_eq]
    rw [if_neg a3.nz]
    exact CO.no rfl rfl (a3.ui (by omega) (by omega)) CD.rf (a4.tr (MD.ui (by omega)))
  · rw [a1, a2]
    rw [nI_toInt (by omega)] at v01
    simp (disch := omega) only [bw_some, f1_ite, gd_ix, cl_nI, ↓nm_eq]
    rw [L83_end (N := 1) (by omega) rfl rfl (by omega), if_pos (e31 h0 (by omega))]
    have s0 : c1.1 32 0 = nI v0 := a4.2.1
    have hc : ∀ k, k ≠ 20 → k ≠ 32 → c1.1 k = c.1 k := fun k k1 k2 => a4.1 k k1 k2
    unfold fX0_put
    simp (disch := omega) only [lit_nI, eq_nI, Nat.reduceEqDiff, if_true, if_false, s0]
    rw [addSnow_v (N := N) (by rw [hc 100 (by omega) (by omega)]; exact cN) hN]
    simp only [br_some]
    refine Or.inr ⟨_, _, j + 1, e0, H, O, N + 1, Z, rfl, rfl, ?_, ?_, ?_, ?_, ?_⟩
    · refine a3.of (fun k k1 k2 => ?_) (by simp only [ui_rd, Nat.reduceEqDiff, if_false, if_true]) (by simp only [ui_rd, Nat.reduceEqDiff, if_false, if_true]) ?_
      · rw [ui_ne (by omega), ui_ne (by omega)]
      · rw [ui_ne (by omega), ui_ne (by omega)]
    · exact e31 (e31 (e31 h0 (by omega)) (by omega)) (by omega)
    · exact (a4.cd.tr (CD.ui (by omega))).tr (CD.ui (by omega))
    · exact (u30.tr (MD.ui (by omega))).tr (MD.ui (by omega))
    · obtain ⟨⟨q1, q1b, q1c, q1d⟩, q2, ⟨q3, q4, q5, q6, q6a, q6b, q6c, q6d⟩, q7, q8, q9, q10, q11, q12, q13⟩ := hd
      unfold DR HR
      simp only [ui_rd, Nat.reduceEqDiff, if_true, if_false, hc 100 (by omega) (by omega), hc 109 (by omega) (by omega), hc 110 (by omega) (by omega), hc 111 (by omega) (by omega), hc 112 (by omega) (by omega), hc 113 (by omega) (by omega), mN, nI_add]
      refine ⟨⟨by omega, by omega, by omega, q1d⟩, q2, ⟨q3, q4, q5, q6, q6a, q6b, trivial, trivial⟩, q7, q8, q9, q10, q11, fun k hk => ?_, q13⟩
      by_cases e : k = v0
      · subst e
        rw [if_pos rfl]
        exact ⟨fun _ => ⟨by omega, rfl⟩, fun _ => ⟨N, by omega, by rw [if_pos rfl]⟩⟩
      · rw [if_neg e]
        refine Iff.trans ⟨?_, ?_⟩ (q12 k hk)
        · rintro ⟨i, i1, i2⟩
          by_cases ei : i = N
          · rw [if_pos ei, eq_nI (by omega) (by omega)] at i2
            exact absurd i2.symm e
          · rw [if_neg ei] at i2
            exact ⟨i, by omega, i2⟩
        · rintro ⟨i, i1, i2⟩
          exact ⟨i, by omega, by rw [if_neg (by omega)]; exact i2⟩
