theorem tb_bit : ∀ f, f < 256 → ∀ k, k < 8 → ((((nI f >>> (nI k &&& nI 31)) &&& nI 1) = nI 1) ↔ f.testBit k = true) := by decide +kernel
theorem tb_nI {f k : Nat} (hf : f < 256) (hk : k < 8) : tb (nI f) k ↔ f.testBit k = true := tb_bit f hf k hk
theorem p2_8 {H : Nat} (h : H ≤ 8) : 2 ^ H ≤ 256 := by
  have := Nat.pow_le_pow_right (n := 2) (by omega) h
  exact this
theorem addHouse_v {c : St} {H v0 v1 v2 : Nat} (h : c.1 100 4 = nI H) (hH : H < 8) : fX1_addHouse 100 (nI v0) (nI v1) (nI v2) c = some (ui (ui (ui (ui (ui c 113 H (nI v0)) 113 (8 + H) (nI v1)) 113 (24 + H) (-nI 1)) 109 H (nI v2)) 100 4 (nI (H + 1))) := by
  unfold fX1_addHouse
  simp (disch := omega) only [lit_nI, h, le_nI, nI_add, Nat.zero_add, Nat.reduceAdd, gd_ix, cl_nI, ↓nm_eq, ui_rd, Nat.reduceEqDiff, if_false]
  rw [if_neg (by omega)]
theorem form1 {t : Nat → Nat} {T S j p n H O N Z : Nat} {pos : Nat → Nat} {c m : St} {pc : Int32} (h : LK t T S pos j p c m) (h0 : m.1 500 31 = nI 0) (hd : DR H O N Z c m) (hH : H < 8) : CO t T S pos c m (fX0_readClause_L83 pc (n + 4) (nI 1) (nI 0) c) (fX10_duchyPart (nI 1) m) := by
  have mH : m.1 520 3 = nI H := hd.2.2.1.2.1
  have cH : c.1 100 4 = nI H := hd.2.2.1.1
  unfold fX10_duchyPart fX10_readsHouse
  simp (disch := omega) only [lit_nI, eq_nI, Nat.reduceEqDiff, if_true, if_false, mH, ↓nm_eq, gd_ix, cl_nI]
  rw [L83_go (N := 3) (by omega) rfl (by omega) (by omega)]
  rcases num_v (f := 1) (i := 0) (lo := 0) (hi := nI 99) h h0 (by omega) (by omega) (by omega) rfl ((if_neg (by decide)).trans rfl) with ⟨F, x, m1, a1, a2, a3, a4, a5⟩ | ⟨v0, e0, c1, v09, -, v01, a1, a2, a3, a4⟩
  · rw [a1, a2]
    simp only [bw_some, br_some, f0_ite]
    obtain ⟨m2, b1, b2, b3, b4⟩ := (a3.ui (k := 521) (i := H) (v := x) (by omega) (by omega)).amt (nI 0) (nI 99)
    rw [b1]
    simp only [bw_some, br_some]
    obtain ⟨m3, d1, d2, d3, d4⟩ := (b2.ui (k := 522) (i := H) (v := nI 0) (by omega) (by omega)).amt (nI 0) (nI 20)
    rw [d1]
    simp only [bw_some, br_some]
    exact CO.no rfl rfl ((((d2.ui (by omega) (by omega)).ui (by omega) (by omega)).ui (by omega) (by omega)).ui (by omega) (by omega)) CD.rf ((((((((a4.tr (MD.ui (by omega))).tr b3).tr (MD.ui (by omega))).tr d3).tr (MD.ui (by omega))).tr (MD.ui (by omega))).tr (MD.ui (by omega))).tr (MD.ui (by omega)))
  · rw [a1, a2]
    simp only [bw_some, br_some, f1_ite]
    rw [L83_go (N := 3) (by omega) rfl (by omega) (by omega)]
    have g1 : LK t T S pos (j + 1) e0 c1 (ui (ui m 500 30 (nI e0)) 521 H (nI v0)) := a3.of (fun _ _ _ => rfl) (by rw [ui_ne (by omega)]) (by rw [ui_ne (by omega)]) (by rw [ui_ne (by omega)])
    have z1 : (ui (ui m 500 30 (nI e0)) 521 H (nI v0)).1 500 31 = nI 0 := e31 (e31 h0 (by omega)) (by omega)
    have w1 : MD m (ui (ui m 500 30 (nI e0)) 521 H (nI v0)) := u30.tr (MD.ui (by omega))
    rcases num_v (f := 1) (i := 1) (lo := 0) (hi := nI 99) g1 z1 (by omega) (by omega) (by omega) rfl ((if_neg (by decide)).trans rfl) with ⟨F, x, m2, b1, b2, b3, b4, b5⟩ | ⟨v1, e1, c2, v19, -, v11, b1, b2, b3, b4⟩
    · rw [b1, b2]
      simp only [bw_some, br_some, f0_ite]
      obtain ⟨m3, d1, d2, d3, d4⟩ := (b3.ui (k := 522) (i := H) (v := x) (by omega) (by omega)).amt (nI 0) (nI 20)
      rw [d1]
      simp only [bw_some, br_some]
      exact CO.no rfl rfl ((((d2.ui (by omega) (by omega)).ui (by omega) (by omega)).ui (by omega) (by omega)).ui (by omega) (by omega)) a4.cd (((((((w1.tr b4).tr (MD.ui (by omega))).tr d3).tr (MD.ui (by omega))).tr (MD.ui (by omega))).tr (MD.ui (by omega))).tr (MD.ui (by omega)))
    · rw [b1, b2]
      simp only [bw_some, br_some, f1_ite]
      rw [L83_go (N := 3) (by omega) rfl (by omega) (by omega)]
      have g2 : LK t T S pos (j + 1 + 1) e1 c2 (ui (ui (ui (ui m 500 30 (nI e0)) 521 H (nI v0)) 500 30 (nI e1)) 522 H (nI v1)) := b3.of (fun _ _ _ => rfl) (by rw [ui_ne (by omega)]) (by rw [ui_ne (by omega)]) (by rw [ui_ne (by omega)])
      have z2 : (ui (ui (ui (ui m 500 30 (nI e0)) 521 H (nI v0)) 500 30 (nI e1)) 522 H (nI v1)).1 500 31 = nI 0 := e31 (e31 z1 (by omega)) (by omega)
      have w2 : MD m (ui (ui (ui (ui m 500 30 (nI e0)) 521 H (nI v0)) 500 30 (nI e1)) 522 H (nI v1)) := (w1.tr u30).tr (MD.ui (by omega))
      rcases num_v (f := 1) (i := 2) (lo := 0) (hi := nI 20) g2 z2 (by omega) (by omega) (by omega) rfl ((if_neg (by decide)).trans rfl) with ⟨F, x, m3, d1, d2, d3, d4, d5⟩ | ⟨v2, e2, c3, v29, -, v21, d1, d2, d3, d4⟩
      · rw [d1, d2]
        simp only [bw_some, br_some, f0_ite]
        exact CO.no rfl rfl ((((d3.ui (by omega) (by omega)).ui (by omega) (by omega)).ui (by omega) (by omega)).ui (by omega) (by omega)) (a4.cd.tr b4.cd) (((((w2.tr d4).tr (MD.ui (by omega))).tr (MD.ui (by omega))).tr (MD.ui (by omega))).tr (MD.ui (by omega)))
      · rw [d1, d2]
        simp only [bw_some, br_some, f1_ite]
        rw [L83_end (N := 3) (by omega) rfl rfl (by omega)]
        have s2 : c3.1 32 2 = nI v2 := d4.2.1
        have s1 : c3.1 32 1 = nI v1 := by rw [d4.2.2.1 1 (by omega), b4.2.1]
        have s0 : c3.1 32 0 = nI v0 := by rw [d4.2.2.1 0 (by omega), b4.2.2.1 0 (by omega), a4.2.1]
        have hc : ∀ k, k ≠ 20 → k ≠ 32 → c3.1 k = c.1 k := fun k k1 k2 => by rw [d4.1 k k1 k2, b4.1 k k1 k2, a4.1 k k1 k2]
        unfold fX0_put
        simp (disch := omega) only [lit_nI, eq_nI, Nat.reduceEqDiff, if_true, if_false, s0, s1, s2]
        rw [addHouse_v (H := H) (by rw [hc 100 (by omega) (by omega)]; exact cH) hH]
        simp only [br_some]
        refine Or.inr ⟨_, _, j + 1 + 1 + 1, e2, H + 1, O, N, Z, rfl, rfl, ?_, ?_, ?_, ?_, ?_⟩
        · refine d3.of (fun k k1 k2 => ?_) (by simp only [ui_rd, Nat.reduceEqDiff, if_false, if_true]) (by simp only [ui_rd, Nat.reduceEqDiff, if_false, if_true]) ?_
          · rw [ui_ne (by omega), ui_ne (by omega), ui_ne (by omega), ui_ne (by omega), ui_ne (by omega)]
          · rw [ui_ne (by omega), ui_ne (by omega), ui_ne (by omega), ui_ne (by omega)]
        · exact e31 (e31 (e31 (e31 (e31 z2 (by omega)) (by omega)) (by omega)) (by omega)) (by omega)
        · exact (((a4.cd.tr b4.cd).tr d4.cd).tr (CD.ui (by omega))).tr ((CD.ui (by omega)).tr ((CD.ui (by omega)).tr ((CD.ui (by omega)).tr (CD.ui (by omega)))))
        · exact ((((w2.tr u30).tr (MD.ui (by omega))).tr (MD.ui (by omega))).tr (MD.ui (by omega))).tr (MD.ui (by omega))
        · rw [nI_toInt (by omega)] at v01 v11 v21
          obtain ⟨⟨q1, q1b, q1c, q1d⟩, q2, ⟨q3, q4, q5, q6, q6a, q6b, q6c, q6d⟩, q7, q8, q9, q10, q11, q12, q13⟩ := hd
          have p2 : 2 ^ H < 2 ^ (H + 1) := Nat.pow_lt_pow_right (by omega) (by omega)
          have p8 := p2_8 q1
          unfold DR
          simp only [ui_rd, Nat.reduceEqDiff, if_true, if_false, hc 100 (by omega) (by omega), hc 109 (by omega) (by omega), hc 110 (by omega) (by omega), hc 111 (by omega) (by omega), hc 112 (by omega) (by omega), hc 113 (by omega) (by omega), mH, nI_add]
          refine ⟨⟨by omega, q1b, q1c, q1d⟩, q2, ⟨trivial, trivial, q5, q6, q6a, q6b, q6c, q6d⟩, q7, fun x hx => ?_, fun x x1 x2 => ?_, fun q hq => ?_, fun i i1 i2 => ?_, q12, fun x k hx hk => ?_⟩
          · unfold HR
            simp only [ui_rd, Nat.reduceEqDiff, if_true, if_false, hc 109 (by omega) (by omega), hc 110 (by omega) (by omega), hc 113 (by omega) (by omega)]
            by_cases e : x = H
            · subst e
              simp (disch := omega) only [if_pos, if_neg, if_true]
              have := q9 x (Nat.le_refl x) hH
              exact ⟨trivial, trivial, trivial, this.1, this.2, trivial, ⟨v0, by omega, rfl⟩, ⟨v2, by omega, rfl⟩, ⟨0, by omega, rfl⟩, 0, by omega, rfl⟩
            · obtain ⟨r1, r2, r3, r4, r5, r6, r7, r8, r9, w, r10, r11⟩ := q8 x (by omega)
              simp (disch := omega) only [if_pos, if_neg, if_true]
              exact ⟨r1, r2, r3, r4, r5, r6, r7, r8, r9, w, by omega, r11⟩
          · simp (disch := omega) only [if_pos, if_neg, if_true]
            exact q9 x (by omega) x2
          · simp (disch := omega) only [if_pos, if_neg, if_true]
            obtain ⟨r1, r2, ⟨k, r3, r4⟩, r5⟩ := q10 q hq
            exact ⟨r1, r2, ⟨k, by omega, r4⟩, r5⟩
          · simp (disch := omega) only [if_pos, if_neg, if_true]
            exact q11 i i1 i2
          · have t0 : ∀ k, k < 8 → ¬ tb (nI 0) k := fun k hk => by
              rw [tb_nI (by omega) hk, Nat.zero_testBit]
              exact fun z => nomatch z
            have t1 : ∀ x, x < H → ¬ tb (m.1 525 x) H := fun x hx => by
              obtain ⟨-, -, -, -, -, -, -, -, -, w, r10, r11⟩ := q8 x hx
              rw [r11, tb_nI (by omega) hH, Nat.testBit_lt_two_pow r10]
              exact fun z => nomatch z
            by_cases e : x = H
            · rw [if_pos e]
              by_cases e2 : k = H
              · rw [if_pos e2, e, e2]
              · rw [if_neg e2, e]
                exact ⟨fun z => absurd z (t0 k (by omega)), fun z => absurd z (t1 k (by omega))⟩
            · rw [if_neg e]
              by_cases e2 : k = H
              · rw [if_pos e2, e2]
                exact ⟨fun z => absurd z (t1 x (by omega)), fun z => absurd z (t0 x (by omega))⟩
              · rw [if_neg e2]
                exact q13 x k (by omega) (by omega)
