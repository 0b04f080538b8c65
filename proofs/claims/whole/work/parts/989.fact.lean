theorem fact_0 {R T S : Nat} {L : List Nat} {t : Nat → Nat} {pos : Nat → Nat} : FactP R L t T S pos 0 := by
  intro d j p e q o N c m l hn h
  have := h.2.2.2.2
  omega
theorem fact_s {R T S n : Nat} {L : List Nat} {t : Nat → Nat} {pos : Nat → Nat} (hF : FactP R L t T S pos n) : FactP R L t T S pos (n + 1) := by
  have hTs : TestP R L t T S pos n := test_v (part_v hF)
  intro d j p e q o N c m l hn h hg hlq hN
  obtain ⟨N, rfl⟩ : ∃ k, N = k + 1 + 1 := ⟨N - 2, by omega⟩
  have ho := h.o4
  obtain ⟨k, e', v, k9, v9, t5, t6, t7, tk, p1, p2, e9, tj, tS, tn⟩ := h.1.1.tok
  have hT := h.1.1.pos
  have hS : S ≤ T := h.1.1.1.1
  have hjS : j ≤ S := h.1.1.2.2.1
  have hR := h.1.2.1.2.2
  have z31 := h.1.2.2.2.2.1.1
  obtain ⟨b1, b2⟩ := h.1.1.blank
  have hd10 := h.2.2.2.2
  have m37 : (ui m 500 30 (nI (pos j))).1 500 37 = nI o := by
    rw [ui_rd, if_pos rfl, if_neg (by omega)]
    exact h.2.1
  have m35 : (ui m 500 30 (nI (pos j))).1 500 35 = nI d := by
    rw [ui_rd, if_pos rfl, if_neg (by omega)]
    exact h.2.2.2.1
  have m31 : (ui m 500 30 (nI (pos j))).1 500 31 = nI 0 := e31 z31 (by omega)
  have m30 : (ui m 500 30 (nI (pos j))).1 500 30 = nI (pos j) := by rw [ui_rd, if_pos rfl, if_pos rfl]
  have qb : QF R e o m (ui m 500 30 (nI (pos j))) := qf_5 (by omega)
  have hC : fX5_readFact L (n + 1) (nI d) c = if k = 20 ∨ k = 31 then (if 10 ≤ d then some (nI 0, ui c 40 3 (nI (1 + 8 * pos j + 2))) else bw (fX5_readWithin L (fX5_readFact L n) (nI k) (nI (d + 1)) c) (fun x4 s3 => gd (bz x4) (some (x4, s3)))) else cmC L c := by
    rw [fX5_readFact]
    unfold fX5_readFact_body
    have e20 : fX5_readFact_B20 L (fX5_readFact L n) (nI d) (nI k) c = if 10 ≤ d then some (nI 0, ui c 40 3 (nI (1 + 8 * pos j + 2))) else bw (fX5_readWithin L (fX5_readFact L n) (nI k) (nI (d + 1)) c) (fun x4 s3 => gd (bz x4) (some (x4, s3))) := by
      unfold fX5_readFact_B20
      simp (disch := omega) only [lit_nI, le_nI, rfail_w t6, nI_add]
    rw [t5, nm_eq, e20]
    have k20 : (nI k = (20 : Int32)) = (k = 20) := eq_nI (b := 20) (by omega) (by omega)
    have k31 : (nI k = (31 : Int32)) = (k = 31) := eq_nI (b := 31) (by omega) (by omega)
    simp only [k20, k31]
    by_cases y1 : k = 20
    · rw [if_pos y1, if_pos (Or.inl y1)]
    · rw [if_neg y1]
      by_cases y2 : k = 31
      · rw [if_pos y2, if_pos (Or.inr y2)]
      · rw [if_neg y2, if_neg (fun w => w.elim y1 y2)]
        rfl
  -- too deep
  have deep : ∀ (kk x : Nat), (kk = 9 ∨ kk = 12) → x ≤ 3 → 10 ≤ d → ∃ m1, bw (br (fX10_opens (nI kk) (ui m 500 30 (nI (pos j)))) (fun s7 => some (nI 0, ui s7 500 30 (s7.1 500 30 + nI x)))) (fun x6 s5 => if x6 = nI 0 then (fX10_test_L9 (N + 1) (nI 1) (nI 1) s5) else (fX10_test_L9 (N + 1) (nI 0) (nI 1) s5)) = some m1 ∧ FD (1 + 8 * pos j + 2) t T m1 ∧ QF R e o m m1 := by
    intro kk x hkk hx hd
    have d10 : d = 10 := by omega
    rw [d10] at m35
    rw [opens_f hkk m37 ho m35 m31 m30, br_some, bw_some, f0_ite]
    have f0 : FD (1 + 8 * pos j + 2) t T (flt (ui m 500 30 (nI (pos j))) (pos j) 2) := fd_flt (p := pos j) b2.2.2.2.1 m30 (by omega) (by omega) (by omega)
    have f1 := fd_u (k := 500) (i := 37) (v := nI (o + 1)) (fd_u (k := 547) (i := o) (v := nI kk) (fd_u (k := 500) (i := 35) (v := nI 11) f0 (by omega) (by omega)) (by omega) (by omega)) (by omega) (by omega)
    have e30 : (ui (ui (ui (flt (ui m 500 30 (nI (pos j))) (pos j) 2) 500 35 (nI 11)) 547 o (nI kk)) 500 37 (nI (o + 1))).1 500 30 = nI (pos j) := by
      unfold flt
      simp only [ui_rd, Nat.reduceEqDiff, if_true, if_false]
    rw [e30, nI_add]
    have f2 := fd_p (p := pos j) (x := pos j + x) f1 (by omega)
    rw [L9_f f2.nz]
    refine ⟨_, rfl, f2, ?_⟩
    have qa : QF R e o (ui m 500 30 (nI (pos j))) (flt (ui m 500 30 (nI (pos j))) (pos j) 2) := (sf_flt (e := e)).q
    exact ((((qb.tr qa (Nat.le_refl e) (Nat.le_refl o)).tr (qf_5 (e := e) (o := o) (by omega)) (Nat.le_refl e) (Nat.le_refl o)).tr (qf_7 (e := e) (Nat.le_refl o)) (Nat.le_refl e) (Nat.le_refl o)).tr (qf_5 (e := e) (o := o) (by omega)) (Nat.le_refl e) (Nat.le_refl o)).tr (qf_5 (e := e) (o := o) (by omega)) (Nat.le_refl e) (Nat.le_refl o)
  have opn : ∀ (kk x : Nat), (kk = 9 ∨ kk = 12) → ¬ 10 ≤ d → bw (br (fX10_opens (nI kk) (ui m 500 30 (nI (pos j)))) (fun s7 => some (nI 0, ui s7 500 30 (s7.1 500 30 + nI x)))) (fun x6 s5 => if x6 = nI 0 then (fX10_test_L9 (N + 1) (nI 1) (nI 1) s5) else (fX10_test_L9 (N + 1) (nI 0) (nI 1) s5)) = fX10_test_L9 (N + 1) (nI 1) (nI 1) (psh kk o (pos j + x) (ui (ui m 500 30 (nI (pos j))) 500 35 (nI (d + 1)))) := by
    intro kk x hkk hd
    have e30 : (ui (ui (ui (ui m 500 30 (nI (pos j))) 500 35 (nI (d + 1))) 547 o (nI kk)) 500 37 (nI (o + 1))).1 500 30 = nI (pos j) := by
      simp only [ui_rd, Nat.reduceEqDiff, if_true, if_false]
    rw [opens_v hkk m37 ho m35 (by omega), br_some, bw_some, f0_ite, e30, nI_add]
    rfl
  rw [hC, L9_1 z31, fact_e h.1.1 tk]
  by_cases q20 : k = 20
  · rw [if_pos (Or.inl q20), if_pos q20]
    by_cases hd : 10 ≤ d
    · rw [if_pos hd]
      obtain ⟨m1, a1, a2, a3⟩ := deep 9 3 (Or.inl rfl) (by omega) hd
      exact Or.inl ⟨_, m1, _, rfl, a1, by rw [ui_rd, if_pos rfl, if_pos rfl], a2, RF.u40 hR, a3⟩
    · rw [if_neg hd, opn 9 3 (Or.inl rfl) hd]
      have hj : j < S := tn (by omega)
      obtain ⟨j1, j2, j3⟩ := tj hj
      obtain ⟨we1, we2⟩ := tk.wend (h.1.1.byte (pos j)) (show k < 21 by omega)
      rw [q20, sl_3.1] at we1
      obtain ⟨c1, s1, s2, s3⟩ := h.opn (k := 9) (d' := d + 1) (mX := ui (ui m 500 30 (nI (pos j))) 500 35 (nI (d + 1))) hj j3 e9 j1 (by rw [ui_rd, if_pos rfl, if_pos rfl]) (by omega) (fun i i1 i2 => by rw [ui_rd, if_pos rfl, if_neg i2, ui_rd, if_pos rfl, if_neg i1]) (fun s hs => by rw [ui_ne hs, ui_ne hs])
      have qm : QF R e o m (psh 9 o e' (ui (ui m 500 30 (nI (pos j))) 500 35 (nI (d + 1)))) := (qb.tr (qf_5 (e := e) (o := o) (by omega)) (Nat.le_refl e) (Nat.le_refl o)).tr psh_qf (Nat.le_refl e) (Nat.le_refl o)
      rw [← we1]
      unfold fX5_readWithin
      rw [s1, br_some, if_pos (show nI k = (20 : Int32) by rw [q20]; rfl)]
      rcases hF (d + 1) (j + 1) e' e q (o + 1) (N + 1) c1 _ l (by omega) s2 (by omega) hlq (by omega) with ⟨c2, m2, F, a1, a2, a3, a4, a5, a6⟩ | ⟨c2, m2, j2, p2', e2, q2, N2, a1, a2, a3, a4, a5, ⟨g1, g2, g3, g4, g5⟩, a7, -⟩
      · refine Or.inl ⟨c2, m2, F, ?_, a2, a3, a4, (RF.cs s3).tr a5 (Nat.le_refl e), qm.tr a6 (Nat.le_refl e) (by omega)⟩
        rw [a1, bw_some, if_pos (show nI 0 = (0 : Int32) from rfl), bw_some]
        rfl
      · have hT2 := a3.1.1.pos
        have hS2 : j2 ≤ S := a3.1.1.2.2.1
        have q2b := a3.1.2.2.2.1.2.2
        obtain ⟨N2, rfl⟩ : ∃ k, N2 = k + 1 := ⟨N2 - 1, by omega⟩
        have tp1 : tp m2 (o + 1) = nI 9 := by rw [tp_q a5 (Nat.le_refl _), psh_tp.1]
        obtain ⟨r1, r2, r3⟩ := a3.1.2.1
        have hcl : QS R L t T S pos j2 p2' (e2 + 1) q2 o d (cpt R e2 (enc (nI 9) (nI 0)) c2) (pp R e2 9 (o + 1) (d + 1) m2) := a3.close (k := 9) (by omega)
        have sg1 : Sgm (pp R e2 9 (o + 1) (d + 1) m2) R e2 (e2 + 1) (false :: l) (false :: l) := by
          refine Sgm.one ?_
          rw [pp_rd.1, pp_rd.2]
          exact Or.inr (Or.inr (Or.inl ⟨l, rfl, rfl, rfl⟩))
        have qp : QF R e2 o m2 (pp R e2 9 (o + 1) (d + 1) m2) := pp_qf
        have ee : e ≤ e2 := a7.1
        refine Or.inr ⟨_, _, j2, p2', e2 + 1, q2, N2 + 1, ?_, ?_, hcl, ((RF.cs s3).tr a4 (Nat.le_refl e)).tr RF.cpt ee, (qm.tr a5 (Nat.le_refl e) (by omega)).tr qp ee (Nat.le_refl o), ⟨by omega, by omega, by omega, by omega, by omega⟩, (a7.fr qp.2.1).tr sg1, hcl.kind⟩
        · rw [a1, bw_some, if_neg (show ¬ nI 1 = (0 : Int32) by decide), r1, br_some, r2, gd_tt, enc_l.2.2, cput_v a3.1.2, br_some, bw_some]
          rfl
        · rw [a2, K9 a3 tp1 (by omega)]
  · rw [if_neg q20]
    by_cases q31 : k = 31
    · rw [if_pos (Or.inr q31), if_pos q31]
      by_cases hd : 10 ≤ d
      · rw [if_pos hd]
        obtain ⟨m1, a1, a2, a3⟩ := deep 12 1 (Or.inr rfl) (by omega) hd
        exact Or.inl ⟨_, m1, _, rfl, a1, by rw [ui_rd, if_pos rfl, if_pos rfl], a2, RF.u40 hR, a3⟩
      · rw [if_neg hd, opn 12 1 (Or.inr rfl) hd]
        have hj : j < S := tn (by omega)
        obtain ⟨j1, j2, j3⟩ := tj hj
        obtain ⟨we1, we2, -⟩ := tk.send (by omega) (by omega)
        obtain ⟨c1, s1, s2, s3⟩ := h.opn (k := 12) (d' := d + 1) (mX := ui (ui m 500 30 (nI (pos j))) 500 35 (nI (d + 1))) hj j3 e9 j1 (by rw [ui_rd, if_pos rfl, if_pos rfl]) (by omega) (fun i i1 i2 => by rw [ui_rd, if_pos rfl, if_neg i2, ui_rd, if_pos rfl, if_neg i1]) (fun s hs => by rw [ui_ne hs, ui_ne hs])
        have qm : QF R e o m (psh 12 o e' (ui (ui m 500 30 (nI (pos j))) 500 35 (nI (d + 1)))) := (qb.tr (qf_5 (e := e) (o := o) (by omega)) (Nat.le_refl e) (Nat.le_refl o)).tr psh_qf (Nat.le_refl e) (Nat.le_refl o)
        rw [← we1]
        unfold fX5_readWithin
        rw [s1, br_some, if_neg (show ¬ nI k = (20 : Int32) by rw [q31]; decide)]
        rcases hTs (d + 1) (j + 1) e' e q (o + 1) (N + 1) c1 _ l (by omega) s2 (by rw [psh_tp.1]; decide) (by rw [psh_tp.1]; decide) (by rw [psh_tp.1]; decide) (by omega) hlq (by omega) with ⟨c2, m2, F, a1, a2, a3, a4, a5, a6⟩ | ⟨c2, m2, j2, p2', e2, q2, N2, a1, a2, a3, a4, a5, ⟨g1, g2, g3, g4, g5⟩, a7, k2, k21, k22, k23, k24⟩
        · refine Or.inl ⟨c2, m2, F, ?_, a2, a3, a4, (RF.cs s3).tr a5 (Nat.le_refl e), qm.tr a6 (Nat.le_refl e) (by omega)⟩
          rw [a1, bw_some, if_pos (show nI 0 = (0 : Int32) from rfl), bw_some]
          rfl
        · have hT2 := a3.1.1.pos
          have hS2 : j2 ≤ S := a3.1.1.2.2.1
          have q2b := a3.1.2.2.2.1.2.2
          obtain ⟨N2, rfl⟩ : ∃ k, N2 = k + 1 + 1 := ⟨N2 - 2, by omega⟩
          have tp1 : tp m2 (o + 1) = nI 12 := by rw [tp_q a5 (Nat.le_refl _), psh_tp.1]
          obtain ⟨k', f', v', k9', v9', t5', t6', t7', tk', u1, u2, u9, uj, uS, un⟩ := a3.1.1.tok
          have hkk : k' = k2 := by
            rw [k21, eq_nI (by omega) (by omega)] at t5'
            exact t5'.symm
          have ee : e ≤ e2 := a7.1
          obtain ⟨y1, y2⟩ := a3.1.1.blank
          have qb2 : QF R e2 o m2 (ui m2 500 30 (nI (pos j2))) := qf_5 (by omega)
          rw [a1, bw_some, if_neg (show ¬ nI 1 = (0 : Int32) by decide), a2, close_v a3 tk' (by omega) tp1 (by omega) (by omega), t5']
          by_cases w32 : k' = 32
          · have hj2 : j2 < S := un (by omega)
            obtain ⟨i1, i2, i3⟩ := uj hj2
            obtain ⟨x1, x2, -⟩ := tk'.send (by omega) (by omega)
            obtain ⟨c3, d1, d2, d3⟩ := a3.1.1.step hj2 i3 u9
            rw [if_pos w32, if_pos (show nI k' = (32 : Int32) by rw [w32]; rfl), d1, br_some, bw_some, ui_ui, ← x1]
            have h3 : QS R L t T S pos (j2 + 1) f' e2 q2 o d c3 (ui (ui (ui m2 500 30 (nI f')) 500 37 (nI o)) 500 35 (nI (d + 1 - 1))) := by
              refine ⟨⟨d2.of (fun _ _ _ => rfl) ?_ ?_ ?_, a3.1.2.cg (d3.1 40 (by omega)) (d3.1 _ (by omega)) (d3.1 _ (by omega)) d3.2.2 (fun x a b c => ?_) ?_ ?_⟩, ?_, ?_, ?_, by omega⟩
              · simp only [ui_rd, Nat.reduceEqDiff, if_true, if_false]
              · simp only [ui_rd, Nat.reduceEqDiff, if_true, if_false]
              · rw [ui_ne (by omega), ui_ne (by omega)]
              · rw [ui_rd, if_pos rfl, if_neg b, ui_rd, if_pos rfl, if_neg c, ui_rd, if_pos rfl, if_neg a]
              · rw [ui_ne (by omega), ui_ne (by omega), ui_ne (by omega)]
              · rw [ui_ne (by omega), ui_ne (by omega), ui_ne (by omega)]
              · simp only [ui_rd, Nat.reduceEqDiff, if_true, if_false]
              · have := a3.2.2.1
                omega
              · rw [ui_rd, if_pos rfl, if_pos rfl, Nat.add_sub_cancel]
            have q3 : QF R e2 o m2 (ui (ui (ui m2 500 30 (nI f')) 500 37 (nI o)) 500 35 (nI (d + 1 - 1))) := ((qf_5 (e := e2) (o := o) (by omega)).tr (qf_5 (e := e2) (o := o) (by omega)) (Nat.le_refl _) (Nat.le_refl o)).tr (qf_5 (e := e2) (o := o) (by omega)) (Nat.le_refl _) (Nat.le_refl o)
            refine Or.inr ⟨c3, _, j2 + 1, f', e2, q2, N2 + 1, rfl, rfl, h3, ((RF.cs s3).tr a4 (Nat.le_refl e)).tr (RF.cs d3) ee, (qm.tr a5 (Nat.le_refl e) (by omega)).tr q3 ee (Nat.le_refl o), ⟨by omega, by omega, by omega, by omega, by omega⟩, a7.fr q3.2.1, h3.kind⟩
          · have x32 : ¬ nI k' = (32 : Int32) := by
              show ¬ nI k' = nI 32
              rw [eq_nI (by omega) (by omega)]
              exact w32
            have y30 : (ui m2 500 30 (nI (pos j2))).1 500 30 = nI (pos j2) := by rw [ui_rd, if_pos rfl, if_pos rfl]
            have f0 : FD (1 + 8 * pos j2 + 0) t T (flt (ui m2 500 30 (nI (pos j2))) (pos j2) 0) := fd_flt (p := pos j2) y2.2.2.2.1 y30 (by omega) (by omega) (by omega)
            have f1 := fd_u (k := 500) (i := 35) (v := nI (d + 1 - 1)) (fd_u (k := 500) (i := 37) (v := nI o) (fd_p (p := pos j2) (x := pos j2 + 1) f0 (by omega)) (by omega) (by omega)) (by omega) (by omega)
            rw [if_neg w32, if_neg x32, L9_f f1.nz]
            have qa : QF R e2 o (ui m2 500 30 (nI (pos j2))) (flt (ui m2 500 30 (nI (pos j2))) (pos j2) 0) := (sf_flt (e := e2)).q
            have q3 := ((((qm.tr a5 (Nat.le_refl e) (by omega)).tr qb2 ee (Nat.le_refl o)).tr qa ee (Nat.le_refl o)).tr (qf_5 (e := e) (o := o) (i := 30) (v := nI (pos j2 + 1)) (by omega)) (Nat.le_refl e) (Nat.le_refl o)).tr (qf_5 (e := e) (o := o) (i := 37) (v := nI o) (by omega)) (Nat.le_refl e) (Nat.le_refl o)
            refine Or.inl ⟨ui c2 40 3 (nI (1 + 8 * pos j2 + 0)), _, _, ?_, rfl, by rw [ui_rd, if_pos rfl, if_pos rfl], f1, (((RF.cs s3).tr a4 (Nat.le_refl e))).tr (RF.u40 (e := e) hR) (Nat.le_refl e), q3.tr (qf_5 (e := e) (o := o) (by omega)) (Nat.le_refl e) (Nat.le_refl o)⟩
            have hw : bw (fX5_fail 0 c2) (fun x11 s10 => gd (bz x11) (some (x11, s10))) = some (nI 0, ui c2 40 3 (nI (1 + 8 * pos j2 + 0))) := rfail_w (x := 0) t6'
            rw [hw, bw_some]
            rfl
    · rw [if_neg (fun w => w.elim q20 q31), if_neg q31]
      have hsm : SM R L t T S pos j (pos j) e q c (ui m 500 30 (nI (pos j))) := ⟨b2, km_30 h.1.2⟩
      rcases compared_v hsm (by omega) l hlq with ⟨c2, m2, a1, a2, F, a3, a4, a5, a6⟩ | ⟨c2, m2, j2, e2, q2, a1, a2, a3, a4, a5, a6, a7, a8, a9, a10⟩
      · refine Or.inl ⟨c2, m2, F, a1, ?_, a3, a4, a5, qb.tr a6.q (Nat.le_refl e) (Nat.le_refl o)⟩
        rw [a2, br_some, bw_some, f1_ite, L9_f a4.nz]
      · have h3 : QS R L t T S pos j2 (pos j2) e2 q2 o d c2 m2 := by
          refine ⟨a3, ?_, ?_, ?_, hd10⟩
          · rw [a5.1 500 37 (by omega) (by omega) (by omega)]
            exact m37
          · have := h.2.2.1
            omega
          · rw [a5.1 500 35 (by omega) (by omega) (by omega)]
            exact m35
        refine Or.inr ⟨c2, m2, j2, pos j2, e2, q2, N + 1, a1, ?_, h3, a4, qb.tr a5.q (Nat.le_refl e) (Nat.le_refl o), ⟨by omega, by omega, by omega, by omega, by omega⟩, a10, h3.kind⟩
        rw [a2, br_some, bw_some, f1_ite]
theorem fact_v {R T S : Nat} {L : List Nat} {t : Nat → Nat} {pos : Nat → Nat} : ∀ n, FactP R L t T S pos n := by
  intro n
  induction n with
  | zero => exact fact_0
  | succ n ih => exact fact_s ih
