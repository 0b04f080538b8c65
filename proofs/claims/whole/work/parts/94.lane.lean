theorem tb_or {f k b : Nat} (hf : f < 256) (hk : k < 8) (hb : b < 8) : tb (nI (f ||| 2 ^ b)) k ↔ (tb (nI f) k ∨ b = k) := by
  rw [tb_nI (or_bit f hf b hb).2 hk, tb_nI hf hk, Nat.testBit_or, Nat.testBit_two_pow, Bool.or_eq_true, decide_eq_true_iff]
theorem addLane_v {c : St} {Z v0 v1 w0 w1 : Nat} (h5 : c.1 100 5 = nI Z) (hv0 : v0 < 8) (hv1 : v1 < 8) (hne : v0 ≠ v1) (hw0 : w0 < 256) (hw1 : w1 < 256) (e0 : c.1 110 v0 = nI w0) (e1 : c.1 110 v1 = nI w1) : fX1_addLane 100 (nI v0) (nI v1) c = some (if w0.testBit v1 = true then c else ui (ui (ui c 110 v0 (nI (w0 ||| 2 ^ v1))) 110 v1 (nI (w1 ||| 2 ^ v0))) 100 5 (nI (Z + 1))) := by
  unfold fX1_addLane
  simp (disch := omega) only [lit_nI, Nat.reduceAdd, gd_ix, cl_nI, ↓nm_eq, ui_rd, Nat.reduceEqDiff, if_true, if_false, e0, (or_bit w0 hw0 v1 hv1).1, if_neg hne.symm, e1, (or_bit w1 hw1 v0 hv0).1, h5, nI_add]
  have hq := tb_bit w0 hw0 v1 hv1
  rcases and1n (nI w0 >>> (nI v1 &&& nI 31)) with q | q
  · rw [q, n01] at hq
    rw [q, if_pos rfl, if_neg (fun z => hq.mpr z)]
  · rw [q, if_neg (by rw [n10]; exact id), if_pos (hq.mp q)]
theorem lane55_v {m : St} {Z v0 v1 w0 w1 : Nat} (h0 : m.1 500 31 = nI 0) (h5 : m.1 520 4 = nI Z) (hv0 : v0 < 8) (hv1 : v1 < 8) (hne : v0 ≠ v1) (hw0 : w0 < 256) (hw1 : w1 < 256) (e0 : m.1 525 v0 = nI w0) (e1 : m.1 525 v1 = nI w1) : fX10_readsLane_B55 (nI v0) (nI v1) m = some (if w0.testBit v1 = true then m else ui (ui (ui m 525 v0 (nI (w0 ||| 2 ^ v1))) 525 v1 (nI (w1 ||| 2 ^ v0))) 520 4 (nI (Z + 1))) := by
  unfold fX10_readsLane_B55
  simp (disch := omega) only [lit_nI, Nat.reduceAdd, gd_ix, cl_nI, ↓nm_eq, ui_rd, Nat.reduceEqDiff, if_true, if_false, e0, (or_bit w0 hw0 v1 hv1).1, if_neg hne.symm, e1, (or_bit w1 hw1 v0 hv0).1, h5, nI_add, has_v, br_some, h0]
  have hq := tb_bit w0 hw0 v1 hv1
  rcases and1n (nI w0 >>> (nI v1 &&& nI 31)) with q | q
  · rw [q, n01] at hq
    rw [q, if_neg (show ¬ nI 0 = nI 1 by rw [n01]; exact id), if_pos rfl, if_neg (fun z => hq.mpr z)]
  · rw [q, if_pos rfl, if_neg (by rw [n10]; exact id), if_pos (hq.mp q)]
theorem form2 {t : Nat → Nat} {T S j p n H O N Z : Nat} {pos : Nat → Nat} {c m : St} {pc : Int32} (h : LK t T S pos j p c m) (h0 : m.1 500 31 = nI 0) (hd : DR H O N Z c m) (hZ : Z < 12) : CO t T S pos c m (fX0_readClause_L83 pc (n + 4) (nI 2) (nI 0) c) (fX10_duchyPart (nI 2) m) := by
  have mH : m.1 520 3 = nI H := hd.2.2.1.2.1
  have cH : c.1 100 4 = nI H := hd.2.2.1.1
  have cZ : c.1 100 5 = nI Z := hd.2.2.1.2.2.1
  have mZ : m.1 520 4 = nI Z := hd.2.2.1.2.2.2.1
  have H8 : H ≤ 8 := hd.1.1
  unfold fX10_duchyPart fX10_readsLane
  simp (disch := omega) only [lit_nI, eq_nI, Nat.reduceEqDiff, if_true, if_false, mH]
  rw [L83_go (N := 2) (by omega) rfl (by omega) (by omega)]
  have n55 : ∀ x y s F, FD F t T s → fX10_readsLane_B55 x y s = some s := by
    intro x y s F hF
    unfold fX10_readsLane_B55
    simp only [lit_nI]
    rw [if_neg hF.nz]
  rcases num_v (f := 2) (i := 0) (lo := 0) (hi := nI H - nI 1) h h0 (by omega) (by omega) (by omega) rfl (toldH (by decide) cH) with ⟨F, x, m1, a1, a2, a3, a4, a5⟩ | ⟨v0, e0, c1, v09, -, v01, a1, a2, a3, a4⟩
  · rw [a1, a2]
    simp only [bw_some, f0_ite]
    obtain ⟨m2, b1, b2, b3, b4⟩ := a3.blk
    rw [b1]
    simp only [br_some, nm_eq]
    obtain ⟨m3, d1, d2, d3, d4⟩ := b2.amt (nI 0) (m2.1 520 3 - nI 1)
    rw [d1]
    simp only [bw_some]
    rw [if_neg d2.nz, n55 _ _ _ _ d2, br_some]
    exact CO.no rfl rfl d2 CD.rf ((a4.tr b3).tr d3)
  · rw [a1, a2]
    simp only [bw_some, f1_ite]
    rw [L83_go (N := 2) (by omega) rfl (by omega) (by omega)]
    obtain ⟨b1, b2⟩ := a3.blank
    have z1 : (ui (ui m 500 30 (nI e0)) 500 30 (nI (pos (j + 1)))).1 500 31 = nI 0 := e31 (e31 h0 (by omega)) (by omega)
    have w1 : MD m (ui (ui m 500 30 (nI e0)) 500 30 (nI (pos (j + 1)))) := u30.tr u30
    have s0 : c1.1 32 0 = nI v0 := a4.2.1
    have hc1 : ∀ k, k ≠ 20 → k ≠ 32 → c1.1 k = c.1 k := fun k k1 k2 => a4.1 k k1 k2
    have cH1 : c1.1 100 4 = nI H := by
      rw [hc1 100 (by omega) (by omega)]
      exact cH
    rw [b1]
    simp only [br_some, nm_eq, ui_rd, Nat.reduceEqDiff, if_true, if_false, mH]
    rw [H1_toInt H8] at v01
    rcases num_g (f := 2) (i := 1) (lo := 0) (hi := nI H - nI 1) b2 z1 (by omega) (by omega) rfl (toldH (by decide) cH1) with ⟨F, x, m2, d1, d2, d3, d4, d5⟩ | ⟨v1, e1, c2, v19, -, v11, d1, d2, d3, d4, d5⟩ | ⟨-, -, v1, e1, d0, v11, d1, d2, d3⟩
    · rw [d1, d2]
      simp only [bw_some, f0_ite]
      rw [if_neg d3.nz, n55 _ _ _ _ d3, br_some]
      exact CO.no rfl rfl d3 a4.cd (w1.tr d4)
    · rw [d1, d2]
      simp only [bw_some, f1_ite]
      have hne : v0 ≠ v1 := fun e => d5 rfl rfl (by rw [s0, e])
      rw [H1_toInt H8] at v11
      have z2 : (ui (ui (ui m 500 30 (nI e0)) 500 30 (nI (pos (j + 1)))) 500 30 (nI e1)).1 500 31 = nI 0 := e31 z1 (by omega)
      rw [L83_end (N := 2) (by omega) rfl rfl (by omega), if_pos z2, if_neg (show ¬ nI v0 = nI v1 by rw [eq_nI (by omega) (by omega)]; exact hne)]
      have s1 : c2.1 32 1 = nI v1 := d4.2.1
      have s0' : c2.1 32 0 = nI v0 := by rw [d4.2.2.1 0 (by omega), s0]
      have hc : ∀ k, k ≠ 20 → k ≠ 32 → c2.1 k = c.1 k := fun k k1 k2 => by rw [d4.1 k k1 k2, hc1 k k1 k2]
      obtain ⟨⟨q1, q1b, q1c, q1d⟩, q2, ⟨q3, q4, q5, q6, q6a, q6b, q6c, q6d⟩, q7, q8, q9, q10, q11, q12, q13⟩ := hd
      obtain ⟨-, -, -, -, r5, -, -, -, -, y0, y01, y02⟩ := q8 v0 (by omega)
      obtain ⟨-, -, -, -, t5, -, -, -, -, y1, y11, y12⟩ := q8 v1 (by omega)
      have p8 := p2_8 H8
      have hor : ∀ y b, y < 2 ^ H → b < H → y ||| 2 ^ b < 2 ^ H := fun y b hy hb => Nat.or_lt_two_pow hy (Nat.pow_lt_pow_right (by omega) hb)
      unfold fX0_put
      simp (disch := omega) only [lit_nI, eq_nI, Nat.reduceEqDiff, if_true, if_false, s0', s1]
      rw [addLane_v (Z := Z) (w0 := y0) (w1 := y1) (by rw [hc 100 (by omega) (by omega)]; exact cZ) (by omega) (by omega) hne (by omega) (by omega) (by rw [hc 110 (by omega) (by omega), r5]; exact y02) (by rw [hc 110 (by omega) (by omega), t5]; exact y12), lane55_v (Z := Z) (w0 := y0) (w1 := y1) z2 (by simp only [ui_rd, Nat.reduceEqDiff, if_false]; exact mZ) (by omega) (by omega) hne (by omega) (by omega) (by simp only [ui_rd, Nat.reduceEqDiff, if_false]; exact y02) (by simp only [ui_rd, Nat.reduceEqDiff, if_false]; exact y12)]
      simp only [br_some]
      by_cases tt : y0.testBit v1 = true
      · rw [if_pos tt, if_pos tt]
        refine Or.inr ⟨_, _, j + 1 + 1, e1, H, O, N, Z, rfl, rfl, d3, z2, a4.cd.tr d4.cd, w1.tr u30, ?_⟩
        exact DR.cg (c := c) (m := m) ⟨⟨q1, q1b, q1c, q1d⟩, q2, ⟨q3, q4, q5, q6, q6a, q6b, q6c, q6d⟩, q7, q8, q9, q10, q11, q12, q13⟩ (fun k k1 k2 => hc k (by omega) (by omega)) (fun k k1 k2 => by rw [ui_ne (by omega), ui_ne (by omega), ui_ne (by omega)])
      · rw [if_neg tt, if_neg tt]
        refine Or.inr ⟨_, _, j + 1 + 1, e1, H, O, N, Z + 1, rfl, rfl, ?_, ?_, ?_, ?_, ?_⟩
        · refine d3.of (fun k k1 k2 => ?_) (by simp only [ui_rd, Nat.reduceEqDiff, if_false, if_true]) (by simp only [ui_rd, Nat.reduceEqDiff, if_false, if_true]) ?_
          · rw [ui_ne (by omega), ui_ne (by omega), ui_ne (by omega)]
          · rw [ui_ne (by omega), ui_ne (by omega), ui_ne (by omega)]
        · exact e31 (e31 (e31 z2 (by omega)) (by omega)) (by omega)
        · exact ((a4.cd.tr d4.cd).tr (CD.ui (by omega))).tr ((CD.ui (by omega)).tr (CD.ui (by omega)))
        · exact (((w1.tr u30).tr (MD.ui (by omega))).tr (MD.ui (by omega))).tr (MD.ui (by omega))
        · unfold DR
          simp only [ui_rd, Nat.reduceEqDiff, if_true, if_false, hc 100 (by omega) (by omega), hc 109 (by omega) (by omega), hc 110 (by omega) (by omega), hc 111 (by omega) (by omega), hc 112 (by omega) (by omega), hc 113 (by omega) (by omega)]
          refine ⟨⟨q1, q1b, q1c, by omega⟩, q2, ⟨q3, q4, trivial, trivial, q6a, q6b, q6c, q6d⟩, q7, fun x hx => ?_, fun x x1 x2 => ?_, q10, q11, q12, fun x k hx hk => ?_⟩
          · unfold HR
            simp only [ui_rd, Nat.reduceEqDiff, if_true, if_false, hc 109 (by omega) (by omega), hc 110 (by omega) (by omega), hc 113 (by omega) (by omega)]
            obtain ⟨r1, r2, r3, r4, r5, r6, r7, r8, r9, r10⟩ := q8 x hx
            by_cases ea : x = v1
            · rw [if_pos ea, if_pos ea]
              exact ⟨r1, r2, r3, r4, rfl, r6, r7, r8, r9, _, hor y1 v0 y11 (by omega), rfl⟩
            · rw [if_neg ea, if_neg ea]
              by_cases eb : x = v0
              · rw [if_pos eb, if_pos eb]
                exact ⟨r1, r2, r3, r4, rfl, r6, r7, r8, r9, _, hor y0 v1 y01 (by omega), rfl⟩
              · rw [if_neg eb, if_neg eb]
                exact ⟨r1, r2, r3, r4, r5, r6, r7, r8, r9, r10⟩
          · simp (disch := omega) only [if_pos, if_neg, if_true]
            exact q9 x x1 x2
          · have key : ∀ x, x < H → ∀ k, k < H → (tb (if x = v1 then nI (y1 ||| 2 ^ v0) else if x = v0 then nI (y0 ||| 2 ^ v1) else m.1 525 x) k ↔ (tb (m.1 525 x) k ∨ (x = v1 ∧ v0 = k) ∨ (x = v0 ∧ v1 = k))) := by
              intro x hx k hk
              by_cases ea : x = v1
              · rw [if_pos ea, tb_or (by omega) (by omega) (by omega), ea, y12]
                constructor
                · rintro (z | z)
                  · exact Or.inl z
                  · exact Or.inr (Or.inl ⟨rfl, z⟩)
                · rintro (z | z | z)
                  · exact Or.inl z
                  · exact Or.inr z.2
                  · exact absurd z.1.symm hne
              · rw [if_neg ea]
                by_cases eb : x = v0
                · rw [if_pos eb, tb_or (by omega) (by omega) (by omega), eb, y02]
                  constructor
                  · rintro (z | z)
                    · exact Or.inl z
                    · exact Or.inr (Or.inr ⟨rfl, z⟩)
                  · rintro (z | z | z)
                    · exact Or.inl z
                    · exact absurd z.1 hne
                    · exact Or.inr z.2
                · rw [if_neg eb]
                  constructor
                  · exact Or.inl
                  · rintro (z | z | z)
                    · exact z
                    · exact absurd z.1 ea
                    · exact absurd z.1 eb
            rw [key x hx k hk, key k hk x hx, q13 x k hx hk]
            constructor
            · rintro (z | ⟨z1, z2⟩ | ⟨z1, z2⟩)
              · exact Or.inl z
              · exact Or.inr (Or.inr ⟨z2.symm, z1.symm⟩)
              · exact Or.inr (Or.inl ⟨z2.symm, z1.symm⟩)
            · rintro (z | ⟨z1, z2⟩ | ⟨z1, z2⟩)
              · exact Or.inl z
              · exact Or.inr (Or.inr ⟨z2.symm, z1.symm⟩)
              · exact Or.inr (Or.inl ⟨z2.symm, z1.symm⟩)
    · rw [d1, d2]
      simp only [bw_some, f0_ite]
      have hv : nI v0 = nI v1 := by rw [d0, s0]
      have z2 : (ui (ui (ui m 500 30 (nI e0)) 500 30 (nI (pos (j + 1)))) 500 30 (nI e1)).1 500 31 = nI 0 := e31 z1 (by omega)
      have hT := h.pos.1
      have hp1 := a3.pos.2.2
      have hF : FD (1 + 8 * pos (j + 1) + 1) t T (flt (ui (ui (ui m 500 30 (nI e0)) 500 30 (nI (pos (j + 1)))) 500 30 (nI e1)) (pos (j + 1)) 1) := by
        refine ⟨((((h.2.2.2.1.ui (by omega) (by omega)).ui (by omega) (by omega))).ui (by omega) (by omega)).ui (by omega) (by omega), ⟨e1, by omega, ?_⟩, flt_rd, by omega, by omega⟩
        unfold flt
        rw [ui_rd, if_pos rfl, if_neg (by omega), ui_rd, if_pos rfl, if_pos rfl]
      rw [if_pos z2, if_pos hv, fails_v z2, br_some, n55 _ _ _ _ hF, br_some]
      exact CO.no rfl rfl hF a4.cd (by
        unfold flt
        exact (w1.tr u30).tr (MD.ui (by omega)))
