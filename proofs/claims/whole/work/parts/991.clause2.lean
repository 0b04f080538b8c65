theorem RC.next {R i e u e1 : Nat} {c m c1 m1 : St} (h : RC R i e c m) (hi : i < 12) (he : e ≤ u) (hu : u ≤ e1) (hc : ∀ x, x < i → c1.1 (400 + 10 * R + 3) x = c.1 (400 + 10 * R + 3) x ∧ c1.1 (400 + 10 * R + 4) x = c.1 (400 + 10 * R + 4) x ∧ c1.1 (400 + 10 * R + 5) x = c.1 (400 + 10 * R + 5) x) (h3 : c1.1 (400 + 10 * R + 3) i = nI e) (h4 : c1.1 (400 + 10 * R + 4) i = nI u) (hm : ∀ x, x < i → m1.1 544 (12 * R + x) = m.1 544 (12 * R + x) ∧ m1.1 545 (12 * R + x) = m.1 545 (12 * R + x) ∧ m1.1 546 (12 * R + x) = m.1 546 (12 * R + x)) (m4 : m1.1 544 (12 * R + i) = nI e) (m5 : m1.1 545 (12 * R + i) = nI u) (m6 : m1.1 546 (12 * R + i) = nI e1) (hs : ∀ x, x < 300 * R + e → m1.1 541 x = m.1 541 x ∧ m1.1 542 x = m.1 542 x) (s1 : Sgm m1 R e u [] [true]) (s2 : u = e1 ∨ Sgm m1 R u e1 [] [false]) : RC R (i + 1) e1 (ui (ui c1 (400 + 10 * R + 5) i (nI e1)) (400 + 10 * R) 5 (nI (i + 1))) m1 := by
  obtain ⟨a1, a2, a3, a4, a5⟩ := h
  refine ⟨by rw [ui_rd, if_pos rfl, if_pos rfl], by omega, fun z => by omega, fun _ => ?_, fun x hx => ?_⟩
  · rw [ui_ne (by omega), ui_rd, if_pos rfl, Nat.add_sub_cancel, if_pos rfl]
  · rw [ui_ne (by omega), ui_ne (by omega), ui_ne (by omega), ui_ne (by omega), ui_ne (by omega), ui_rd, if_pos rfl]
    by_cases z : x = i
    · subst z
      rw [if_pos rfl]
      exact ⟨e, u, e1, he, hu, Nat.le_refl e1, h3, h4, rfl, m4, m5, m6, s1, s2⟩
    · obtain ⟨s, u', f, b1, b2, b3, b4, b5, b6, b7, b8, b9, b10, b11⟩ := a5 x (by omega)
      obtain ⟨c3, c4, c5⟩ := hc x (by omega)
      obtain ⟨d3, d4, d5⟩ := hm x (by omega)
      rw [if_neg z, c3, c4, c5, d3, d4, d5]
      refine ⟨s, u', f, b1, b2, by omega, b4, b5, b6, b7, b8, b9, b10.fr (fun y hy => hs y (by omega)), ?_⟩
      rcases b11 with w | w
      · exact Or.inl w
      · exact Or.inr (w.fr (fun y hy => hs y (by omega)))
theorem rclause_v {R i j p e q T S : Nat} {L : List Nat} {t : Nat → Nat} {pos : Nat → Nat} {c m : St} (h : SM R L t T S pos j p e q c m) (hc : RC R i e c m) (hg : 3 * e ≤ 6 * q + p) (h35 : m.1 500 35 = nI 0) :
    (∃ F c1 m1, ccl L i c = some (nI 0, c1) ∧ fX10_ruleClause (nI i) m = some m1 ∧ c1.1 40 3 = nI F ∧ FD F t T m1 ∧ RG R c c1 ∧ QG R m m1) ∨ (i < 12 ∧ ∃ c1 m1 j1 p1 e1 q1, ccl L i c = some (nI 1, c1) ∧ fX10_ruleClause (nI i) m = some m1 ∧ SM R L t T S pos j1 p1 e1 q1 c1 m1 ∧ 3 * e1 ≤ 6 * q1 + p1 ∧ m1.1 500 35 = nI 0 ∧ RG R c c1 ∧ QG R m m1 ∧ c1.1 (400 + 10 * R) 5 = nI i ∧ RC R (i + 1) e1 (ui (ui c1 (400 + 10 * R + 5) i (nI e1)) (400 + 10 * R) 5 (nI (i + 1))) m1) := by
  obtain ⟨hl, hk⟩ := h
  obtain ⟨k, e', v, k9, v9, t5, t6, t7, tk, p1, p2, e9, tj, tS, tn⟩ := hl.tok
  obtain ⟨b1, b2⟩ := hl.blank
  have hT := hl.pos
  have hS : S ≤ T := hl.1.1
  have hR := hk.1.2.2
  have hi := hc.2.1
  obtain ⟨f1, f2, f3⟩ := hk.2.2.2.1
  have p30 : (ui m 500 30 (nI (pos j))).1 500 30 = nI (pos j) := by rw [ui_rd, if_pos rfl, if_pos rfl]
  have z1 : (ui m 500 30 (nI (pos j))).1 500 31 = nI 0 := e31 f1 (by omega)
  have x32 : (ui m 500 30 (nI e')).1 500 32 = nI R := by
    rw [ui_rd, if_pos rfl, if_neg (by omega)]
    exact f2
  have x34 : (ui m 500 30 (nI e')).1 500 34 = nI e := by
    rw [ui_rd, if_pos rfl, if_neg (by omega)]
    exact hk.2.1.2.1
  have s21 : fX10_stood 21 (ui m 500 30 (nI (pos j))) = some (if k = 16 then nI 1 else nI 0) := stood_k (w := 16) b2 tk (by omega)
  have u3 : QG R m (ui m 500 30 (nI (pos j))) := (qf_5 (e := 0) (o := 0) (by omega)).g
  have bad : ∀ x, x ≤ 4 → ∃ F c1 m1, some (nI 0, ui c 40 3 (nI (1 + 8 * pos j + x))) = some (nI 0, c1) ∧ (some (flt (ui m 500 30 (nI (pos j))) (pos j) x)) = some m1 ∧ c1.1 40 3 = nI F ∧ FD F t T m1 ∧ RG R c c1 ∧ QG R m m1 := fun x hx => ⟨_, _, _, rfl, rfl, by rw [ui_rd, if_pos rfl, if_pos rfl], fd_flt (p := pos j) b2.2.2.2.1 p30 (by omega) (by omega) hx, rg_40, u3.tr ((sf_flt (e := 0)).q (o := 0)).g⟩
  unfold ccl fX10_ruleClause
  rw [head_c t5 t6 k9 hi, b1, br_some, nm_eq, p30, s21, br_some]
  by_cases q16 : k = 16
  · rw [if_pos q16, if_pos q16, if_neg (show ¬ nI 1 = (0 : Int32) by decide)]
    by_cases h12 : i < 12
    · have hj : j < S := tn (by omega)
      obtain ⟨j1, j2, j3⟩ := tj hj
      obtain ⟨we1, we2⟩ := tk.wend (hl.byte (pos j)) (show k < 21 by omega)
      rw [q16, sl_3.2.2.2.2] at we1
      obtain ⟨c1, s1, s2, s3⟩ := hl.step hj j3 e9
      have i12 : ¬ nI i = (12 : Int32) := by
        show ¬ nI i = nI 12
        rw [eq_nI (by omega) (by omega)]
        omega
      have add4 : nI (pos j) + (4 : Int32) = nI e' := by
        rw [we1]
        exact nI_add (pos j) 4
      have hix : (12 : Int32) * nI R + nI i = nI (12 * R + i) := by
        show nI 12 * nI R + nI i = _
        rw [pk_mul, nI_add]
      obtain ⟨mA, emA⟩ : ∃ s, s = ui (ui m 500 30 (nI e')) 544 (12 * R + i) (nI e) := ⟨_, rfl⟩
      have lkA : LK t T S pos (j + 1) e' c1 mA := s2.of (fun _ _ _ => rfl) (by rw [emA, ui_ne (by omega)]) (by rw [emA, ui_ne (by omega)]) (by rw [emA, ui_ne (by omega)])
      have kmA : KM R L e q c1 mA := hk.cg (s3.1 40 (by omega)) (s3.1 _ (by omega)) (s3.1 _ (by omega)) s3.2.2 (fun x h1 _ _ => by rw [emA, ui_ne (by omega), ui_rd, if_pos rfl, if_neg h1]) (by rw [emA, ui_ne (by omega), ui_ne (by omega)]) (by rw [emA, ui_ne (by omega), ui_ne (by omega)])
      have qA : QG R m mA := by
        rw [emA]
        exact ((qf_5 (e := 0) (o := 0) (by omega)).g).tr (qg_4 (by omega) (by omega))
      have mA35 : mA.1 500 35 = nI 0 := by
        rw [emA, ui_ne (by omega), ui_rd, if_pos rfl, if_neg (by omega)]
        exact h35
      rw [if_pos h12, if_neg i12, s1, br_some, bw_some, f1_ite, nm_eq, add4, ui_ui, x32, hix, nm_eq, gd_ix (by omega) (by omega), cl_nI (by omega), x34, nm_eq, ← emA]
      rcases sum_v (⟨lkA, kmA⟩ : SM R L t T S pos (j + 1) e' e q c1 mA) (by omega) [] (by simp only [List.length_nil]; omega) with ⟨c2, m2, a1, a2, F, a3, a4, a5, a6⟩ | ⟨c2, m2, j5, e2, q2, a1, a2, a3, a4, a5, a6, a7, a8, a9, a10⟩
      · have g1 := fd_u (k := 545) (i := 12 * R + i) (v := m2.1 500 34) a4 (by omega) (by omega)
        have g2 := fd_u (k := 546) (i := 12 * R + i) (v := (ui m2 545 (12 * R + i) (m2.1 500 34)).1 500 34) g1 (by omega) (by omega)
        refine Or.inl ⟨F, c2, _, ?_, ?_, a3, g2, s3.g.tr a5.g, ((qA.tr (a6.q (o := 0)).g).tr (qg_4 (by omega) (by omega))).tr (qg_4 (by omega) (by omega))⟩
        · rw [a1, bw_some, f0_ite]
        · unfold fX10_ruleClause_B104
          rw [a2, br_some, gd_ix (by omega) (by omega), cl_nI (by omega), nm_eq, if_neg (show ¬ (ui m2 545 (12 * R + i) (m2.1 500 34)).1 500 31 = (0 : Int32) from g1.nz), gd_ix (by omega) (by omega), nm_eq]
      · obtain ⟨hl2, hk2⟩ := a3
        obtain ⟨r1, r2, r3⟩ := hk2.1
        have q2b := hk2.2.2.1.2.2
        have hT2 := hl2.pos
        have ee2 : e ≤ e2 := a10.1
        have rf2 : RF R e c c2 := (RF.cs s3).tr a4 (Nat.le_refl e)
        have c25 : c2.1 (400 + 10 * R) 5 = nI i := by
          rw [rf2.2.1 5 (by omega)]
          exact hc.1
        have hes := endSum_v (e := e) hR c25 h12 hk2.2.1.1 hc.2.2.1 (fun w => by rw [rf2.1 _ (by omega) (by omega) (by omega) (by omega)]; exact hc.2.2.2.1 w)
        obtain ⟨c3, ec3⟩ : ∃ s, s = ui (ui c2 (400 + 10 * R + 3) i (nI e)) (400 + 10 * R + 4) i (nI e2) := ⟨_, rfl⟩
        obtain ⟨m3, em3⟩ : ∃ s, s = ui m2 545 (12 * R + i) (nI e2) := ⟨_, rfl⟩
        obtain ⟨k2, f', v2, k92, v92, t52, t62, t72, tk2, u1, u2, u9, uj, uS, un⟩ := hl2.tok
        have c3k : ∀ x, x ≠ 400 + 10 * R + 3 → x ≠ 400 + 10 * R + 4 → c3.1 x = c2.1 x := fun x x1 x2 => by rw [ec3, ui_ne x2, ui_ne x1]
        have m3k : ∀ x, x ≠ 545 → m3.1 x = m2.1 x := fun x hx => by rw [em3, ui_ne hx]
        have hl3 : LK t T S pos j5 (pos j5) c3 m3 := hl2.of (fun x x1 x2 => c3k x (by omega) (by omega)) (by rw [m3k 500 (by omega)]) (by rw [m3k 500 (by omega)]) (m3k 540 (by omega))
        have hk3 : KM R L e2 q2 c3 m3 := hk2.cg (c3k 40 (by omega) (by omega)) (c3k _ (by omega) (by omega)) (c3k _ (by omega) (by omega)) (by rw [ec3]; rfl) (fun x _ _ _ => by rw [m3k 500 (by omega)]) (m3k 541 (by omega)) (m3k 542 (by omega))
        have rg3 : RG R c2 c3 := by
          rw [ec3]
          exact (rg_b (k := 3) (by omega)).tr (rg_b (k := 4) (by omega))
        have qg3 : QG R m m3 := by
          rw [em3]
          exact (qA.tr (a5.q (o := 0)).g).tr (qg_4 (by omega) (by omega))
        have z3 : m3.1 500 31 = nI 0 := hk3.2.2.2.1.1
        have e34 : m3.1 500 34 = nI e2 := hk3.2.1.2.1
        have m35 : m3.1 500 35 = nI 0 := by
          rw [m3k 500 (by omega), a5.1 500 35 (by omega) (by omega) (by omega)]
          exact mA35
        have c35 : c3.1 (400 + 10 * R) 5 = nI i := by
          rw [c3k _ (by omega) (by omega)]
          exact c25
        have c33 : c3.1 (400 + 10 * R + 3) i = nI e := by
          rw [ec3, ui_ne (by omega), ui_rd, if_pos rfl, if_pos rfl]
        have c34 : c3.1 (400 + 10 * R + 4) i = nI e2 := by
          rw [ec3, ui_rd, if_pos rfl, if_pos rfl]
        have cold : ∀ x, x < i → c3.1 (400 + 10 * R + 3) x = c.1 (400 + 10 * R + 3) x ∧ c3.1 (400 + 10 * R + 4) x = c.1 (400 + 10 * R + 4) x ∧ c3.1 (400 + 10 * R + 5) x = c.1 (400 + 10 * R + 5) x := by
          intro x hx
          refine ⟨?_, ?_, ?_⟩
          · rw [ec3, ui_ne (by omega), ui_rd, if_pos rfl, if_neg (by omega), rf2.1 _ (by omega) (by omega) (by omega) (by omega)]
          · rw [ec3, ui_rd, if_pos rfl, if_neg (by omega), ui_ne (by omega), rf2.1 _ (by omega) (by omega) (by omega) (by omega)]
          · rw [c3k _ (by omega) (by omega), rf2.1 _ (by omega) (by omega) (by omega) (by omega)]
        have mold : ∀ x, x < i → m3.1 544 (12 * R + x) = m.1 544 (12 * R + x) ∧ m3.1 545 (12 * R + x) = m.1 545 (12 * R + x) ∧ m3.1 546 (12 * R + x) = m.1 546 (12 * R + x) := by
          intro x hx
          refine ⟨?_, ?_, ?_⟩
          · rw [m3k 544 (by omega), a5.1 544 _ (by omega) (by omega) (by omega), emA, ui_rd, if_pos rfl, if_neg (by omega), ui_ne (by omega)]
          · rw [em3, ui_rd, if_pos rfl, if_neg (by omega), a5.1 545 _ (by omega) (by omega) (by omega), emA, ui_ne (by omega), ui_ne (by omega)]
          · rw [m3k 546 (by omega), a5.1 546 _ (by omega) (by omega) (by omega), emA, ui_ne (by omega), ui_ne (by omega)]
        have m34 : m3.1 544 (12 * R + i) = nI e := by
          rw [m3k 544 (by omega), a5.1 544 _ (by omega) (by omega) (by omega), emA, ui_rd, if_pos rfl, if_pos rfl]
        have m355 : m3.1 545 (12 * R + i) = nI e2 := by rw [em3, ui_rd, if_pos rfl, if_pos rfl]
        have sgold : ∀ x, x < 300 * R + e → m3.1 541 x = m.1 541 x ∧ m3.1 542 x = m.1 542 x := by
          intro x hx
          have y := a5.2.1 x hx
          rw [m3k 541 (by omega), m3k 542 (by omega), y.1, y.2, emA, ui_ne (by omega), ui_ne (by omega), ui_ne (by omega), ui_ne (by omega)]
          exact ⟨rfl, rfl⟩
        have sg3 : Sgm m3 R e e2 [] [true] := a10.fr (fun x _ => ⟨by rw [m3k 541 (by omega)], by rw [m3k 542 (by omega)]⟩)
        have c320 : c3.1 20 5 = nI k2 := by
          rw [c3k 20 (by omega) (by omega)]
          exact t52
        have hx17 : (nI k2 = nI 17) = (k2 = 17) := eq_nI (by omega) (by omega)
        have e2s : m2.1 500 34 = nI e2 := hk2.2.1.2.1
        rw [a1, bw_some, f1_ite, r1, br_some, r2, gd_tt, hes, ← ec3, br_some, c320, a2, br_some, gd_ix (by omega) (by omega), e2s, nm_eq, ← em3, if_pos (show m3.1 500 31 = (0 : Int32) from z3), takes_v hl3 tk2]
        by_cases q17 : k2 = 17
        · have hj5 : j5 < S := un (by omega)
          obtain ⟨i1, i2, i3⟩ := uj hj5
          obtain ⟨we3, we4⟩ := tk2.wend (hl2.byte (pos j5)) (show k2 < 21 by omega)
          rw [q17, sl_3.2.2.2.1] at we3
          obtain ⟨c4, d1, d2, d3⟩ := hl3.step hj5 i3 u9
          obtain ⟨mT, emT⟩ : ∃ s, s = ui (ui m3 500 30 (nI f')) 500 37 (nI 0) := ⟨_, rfl⟩
          have hQ : QS R L t T S pos (j5 + 1) f' e2 q2 0 0 c4 mT := by
            refine ⟨⟨d2.of (fun _ _ _ => rfl) ?_ ?_ ?_, hk3.cg (d3.1 40 (by omega)) (d3.1 _ (by omega)) (d3.1 _ (by omega)) d3.2.2 (fun x a b c => ?_) ?_ ?_⟩, ?_, by omega, ?_, by omega⟩
            · rw [emT, ui_rd, if_pos rfl, if_neg (by omega)]
            · rw [emT, ui_rd, if_pos rfl, if_neg (by omega)]
            · rw [emT, ui_ne (by omega)]
            · rw [emT, ui_rd, if_pos rfl, if_neg c, ui_rd, if_pos rfl, if_neg a]
            · rw [emT, ui_ne (by omega), ui_ne (by omega)]
            · rw [emT, ui_ne (by omega), ui_ne (by omega)]
            · rw [emT, ui_rd, if_pos rfl, if_pos rfl]
            · rw [emT, ui_rd, if_pos rfl, if_neg (by omega), ui_rd, if_pos rfl, if_neg (by omega)]
              exact m35
          have t0 : tp mT 0 = -nI 1 := rfl
          have hqT : QF R e2 0 m3 mT := by
            rw [emT]
            exact (qf_5 (e := e2) (o := 0) (by omega)).tr (qf_5 (e := e2) (o := 0) (by omega)) (Nat.le_refl _) (Nat.le_refl _)
          have etest : fX10_test (ui m3 500 30 (nI (pos j5 + 2))) = fX10_test_L9 10000 (nI 1) (nI 1) mT := by
            unfold fX10_test
            rw [nm_eq, ← we3, emT]
            rfl
          rw [if_pos (show nI k2 = nI 17 by rw [q17]), if_pos q17, d1, br_some, bw_some, if_neg (show ¬ nI 1 = (0 : Int32) by decide), etest]
          rcases test_v (part_v (fact_v 12)) 0 (j5 + 1) f' e2 q2 0 10000 c4 mT [] (by omega) hQ (by rw [t0]; decide) (by rw [t0]; decide) (by rw [t0]; decide) (by omega) (by simp only [List.length_nil]; omega) (by omega) with ⟨c5, m5, F, g1, g2, g3, g4, g5, g6⟩ | ⟨c5, m5, j6, p6, e5, q5, N5, g1, g2, g3, g4, g5, ⟨y1, y2, y3, y4, y5⟩, g7, k6, k61, k62, k63, k64⟩
          · have w2 := fd_u (k := 546) (i := 12 * R + i) (v := m5.1 500 34) g4 (by omega) (by omega)
            refine Or.inl ⟨F, c5, _, ?_, ?_, g3, w2, ((rf2.g.tr rg3).tr d3.g).tr g5.g, ((qg3.tr hqT.g).tr g6.g).tr (qg_4 (by omega) (by omega))⟩
            · rw [g1, bw_some, f0_ite]
            · unfold fX10_ruleClause_B104
              rw [g2, br_some, gd_ix (by omega) (by omega), cl_nI (by omega), nm_eq]
          · have hT6 := g3.1.1.pos
            have hS6 : j6 ≤ S := g3.1.1.2.2.1
            obtain ⟨N5, rfl⟩ : ∃ k, N5 = k + 1 + 1 := ⟨N5 - 2, by omega⟩
            obtain ⟨k', f'', v'', k9', v9', t5', t6', t7', tk', -⟩ := g3.1.1.tok
            have hkk : k' = k6 := by
              rw [k61, eq_nI (by omega) (by omega)] at t5'
              exact t5'.symm
            have hend : fX10_test_L9 (N5 + 1 + 1) (nI 0) (nI 1) m5 = some (ui m5 500 30 (nI (pos j6))) := end_v g3.1.1 tk' g3.1.2.2.2.2.1.1 g3.2.1 (by omega) (by omega)
            obtain ⟨b61, b62⟩ := g3.1.1.blank
            obtain ⟨m7, em7⟩ : ∃ s, s = ui (ui m5 500 30 (nI (pos j6))) 546 (12 * R + i) (nI e5) := ⟨_, rfl⟩
            have e534 : (ui m5 500 30 (nI (pos j6))).1 500 34 = nI e5 := by
              rw [ui_rd, if_pos rfl, if_neg (by omega)]
              exact g3.1.2.2.1.2.1
            have m7k : ∀ x, x ≠ 500 → x ≠ 546 → m7.1 x = m5.1 x := fun x x1 x2 => by rw [em7, ui_ne x2, ui_ne x1]
            have rf5 : RF R e2 c3 c5 := (RF.cs d3).tr g4 (Nat.le_refl e2)
            have qf5 : QF R e2 0 m3 m5 := hqT.tr g5 (Nat.le_refl e2) (Nat.le_refl 0)
            have ee5 : e2 ≤ e5 := g7.1
            have sm7 : SM R L t T S pos j6 (pos j6) e5 q5 c5 m7 := ⟨b62.of (fun _ _ _ => rfl) (by rw [em7, ui_ne (by omega)]) (by rw [em7, ui_ne (by omega)]) (by rw [em7, ui_ne (by omega)]), (km_30 g3.1.2).cg rfl rfl rfl rfl (fun x _ _ _ => by rw [em7, ui_ne (by omega)]) (by rw [em7, ui_ne (by omega)]) (by rw [em7, ui_ne (by omega)])⟩
            refine Or.inr ⟨h12, c5, m7, j6, pos j6, e5, q5, ?_, ?_, sm7, by omega, ?_, ((rf2.g.tr rg3).tr d3.g).tr g4.g, ?_, ?_, ?_⟩
            · rw [g1, bw_some, f1_ite]
            · unfold fX10_ruleClause_B104
              rw [g2, hend, br_some, gd_ix (by omega) (by omega), cl_nI (by omega), e534, nm_eq, ← em7]
            · rw [em7, ui_ne (by omega), ui_rd, if_pos rfl, if_neg (by omega)]
              exact g3.2.2.2.1
            · rw [em7]
              exact (((qg3.tr hqT.g).tr g5.g).tr (qf_5 (e := 0) (o := 0) (by omega)).g).tr (qg_4 (by omega) (by omega))
            · rw [rf5.2.1 5 (by omega)]
              exact c35
            · refine hc.next h12 ee2 ee5 (fun x hx => ?_) ?_ ?_ (fun x hx => ?_) ?_ ?_ ?_ (fun x hx => ?_) ?_ (Or.inr ?_)
              · rw [rf5.1 _ (by omega) (by omega) (by omega) (by omega), rf5.1 _ (by omega) (by omega) (by omega) (by omega), rf5.1 _ (by omega) (by omega) (by omega) (by omega)]
                exact cold x hx
              · rw [rf5.1 _ (by omega) (by omega) (by omega) (by omega)]
                exact c33
              · rw [rf5.1 _ (by omega) (by omega) (by omega) (by omega)]
                exact c34
              · have w := mold x hx
                rw [m7k 544 (by omega) (by omega), m7k 545 (by omega) (by omega), em7, ui_rd, if_pos rfl, if_neg (by omega), ui_ne (by omega), qf5.1 544 _ (by omega) (by omega) (by omega) (by omega), qf5.1 545 _ (by omega) (by omega) (by omega) (by omega), qf5.1 546 _ (by omega) (by omega) (by omega) (by omega)]
                exact w
              · rw [m7k 544 (by omega) (by omega), qf5.1 544 _ (by omega) (by omega) (by omega) (by omega)]
                exact m34
              · rw [m7k 545 (by omega) (by omega), qf5.1 545 _ (by omega) (by omega) (by omega) (by omega)]
                exact m355
              · rw [em7, ui_rd, if_pos rfl, if_pos rfl]
              · have w1 := qf5.2.1 x (by omega)
                have w2 := sgold x hx
                rw [m7k 541 (by omega) (by omega), m7k 542 (by omega) (by omega)]
                exact ⟨w1.1.trans w2.1, w1.2.trans w2.2⟩
              · refine (sg3.fr qf5.2.1).fr (fun x _ => ⟨by rw [m7k 541 (by omega) (by omega)], by rw [m7k 542 (by omega) (by omega)]⟩)
              · exact g7.fr (fun x _ => ⟨by rw [m7k 541 (by omega) (by omega)], by rw [m7k 542 (by omega) (by omega)]⟩)
        · obtain ⟨m7, em7⟩ : ∃ s, s = ui m3 546 (12 * R + i) (nI e2) := ⟨_, rfl⟩
          have m7k : ∀ x, x ≠ 546 → m7.1 x = m3.1 x := fun x x1 => by rw [em7, ui_ne x1]
          rw [if_neg (show ¬ nI k2 = nI 17 by rw [hx17]; exact q17), if_neg q17]
          have sm7 : SM R L t T S pos j5 (pos j5) e2 q2 c3 m7 := ⟨hl3.of (fun _ _ _ => rfl) (by rw [m7k 500 (by omega)]) (by rw [m7k 500 (by omega)]) (m7k 540 (by omega)), hk3.cg rfl rfl rfl rfl (fun x _ _ _ => by rw [m7k 500 (by omega)]) (m7k 541 (by omega)) (m7k 542 (by omega))⟩
          refine Or.inr ⟨h12, c3, m7, j5, pos j5, e2, q2, rfl, ?_, sm7, by omega, ?_, rf2.g.tr rg3, ?_, c35, ?_⟩
          · unfold fX10_ruleClause_B104
            rw [bw_some, if_pos (show nI 0 = (0 : Int32) from rfl), gd_ix (by omega) (by omega), cl_nI (by omega), e34, nm_eq, ← em7]
          · rw [m7k 500 (by omega)]
            exact m35
          · rw [em7]
            exact qg3.tr (qg_4 (by omega) (by omega))
          · refine hc.next h12 ee2 (Nat.le_refl e2) cold c33 c34 (fun x hx => ?_) ?_ ?_ ?_ (fun x hx => ?_) ?_ (Or.inl rfl)
            · have w := mold x hx
              rw [m7k 544 (by omega), m7k 545 (by omega), em7, ui_rd, if_pos rfl, if_neg (by omega)]
              exact w
            · rw [m7k 544 (by omega)]
              exact m34
            · rw [m7k 545 (by omega)]
              exact m355
            · rw [em7, ui_rd, if_pos rfl, if_pos rfl]
            · rw [m7k 541 (by omega), m7k 542 (by omega)]
              exact sgold x hx
            · exact sg3.fr (fun x _ => ⟨by rw [m7k 541 (by omega)], by rw [m7k 542 (by omega)]⟩)
    · have e12 : i = 12 := by omega
      have hfa : fX10_fails 4 (nI (pos j)) (ui m 500 30 (nI (pos j))) = some (flt (ui m 500 30 (nI (pos j))) (pos j) 4) := fails_v (k := 4) z1
      rw [if_neg h12, if_pos (show nI i = (12 : Int32) by rw [e12]; rfl), bw_some, f0_ite, hfa, br_some]
      exact Or.inl (bad 4 (by omega))
  · have hfa : fX10_fails 0 (nI (pos j)) (ui m 500 30 (nI (pos j))) = some (flt (ui m 500 30 (nI (pos j))) (pos j) 0) := fails_v (k := 0) z1
    rw [if_neg q16, if_neg q16, if_pos (show nI 0 = (0 : Int32) from rfl), bw_some, f0_ite, hfa, br_some]
    exact Or.inl (bad 0 (by omega))
