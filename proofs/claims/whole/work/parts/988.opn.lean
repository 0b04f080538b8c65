theorem psh_rd {k o x : Nat} {m : St} : (psh k o x m).1 500 37 = nI (o + 1) ∧ (psh k o x m).1 500 30 = nI x ∧ (psh k o x m).1 547 o = nI k ∧ (∀ i, i ≠ 30 → i ≠ 37 → (psh k o x m).1 500 i = m.1 500 i) ∧ (∀ i, i ≠ o → (psh k o x m).1 547 i = m.1 547 i) ∧ ∀ s, s ≠ 500 → s ≠ 547 → (psh k o x m).1 s = m.1 s := by
  unfold psh
  refine ⟨?_, ?_, ?_, fun i i1 i2 => ?_, fun i hi => ?_, fun s s1 s2 => ?_⟩
  · simp only [ui_rd, Nat.reduceEqDiff, if_true, if_false]
  · simp only [ui_rd, if_true]
  · simp only [ui_rd, Nat.reduceEqDiff, if_true, if_false]
  · simp only [ui_rd, Nat.reduceEqDiff, if_true, if_false, i1, i2]
  · simp only [ui_rd, Nat.reduceEqDiff, if_true, if_false, hi]
  · rw [ui_ne s1, ui_ne s1, ui_ne s2]
theorem psh_qf {R e k o x : Nat} {m : St} : QF R e o m (psh k o x m) := ((qf_7 (e := e) (Nat.le_refl o)).tr (qf_5 (e := e) (o := o) (by omega)) (Nat.le_refl e) (Nat.le_refl o)).tr (qf_5 (e := e) (o := o) (by omega)) (Nat.le_refl e) (Nat.le_refl o)
theorem psh_tp {k o x : Nat} {m : St} : tp (psh k o x m) (o + 1) = nI k ∧ tp (psh k o x m) o = tp m o := by
  unfold tp
  refine ⟨?_, ?_⟩
  · rw [if_neg (by omega), Nat.add_sub_cancel]
    exact psh_rd.2.2.1
  · by_cases z : o = 0
    · rw [if_pos z, if_pos z]
    · rw [if_neg z, if_neg z]
      exact psh_rd.2.2.2.2.1 _ (by omega)
/-- both sides behind what was opened; mX is the reference ahead of it -/
theorem QS.opn {R j p e q o d d' k e' T S : Nat} {L : List Nat} {t : Nat → Nat} {pos : Nat → Nat} {c m mX : St} (h : QS R L t T S pos j p e q o d c m) (hj : j < S) (j3 : pos (j + 1) = sk t T e') (e9 : e' ≤ T) (he : pos j < e') (h35 : mX.1 500 35 = nI d') (hd' : d' ≤ 10) (hX5 : ∀ i, i ≠ 30 → i ≠ 35 → mX.1 500 i = m.1 500 i) (hX : ∀ s, s ≠ 500 → mX.1 s = m.1 s) : ∃ c1, fX7_step c = some c1 ∧ QS R L t T S pos (j + 1) e' e q (o + 1) d' c1 (psh k o e' mX) ∧ CS1 c c1 := by
  obtain ⟨⟨h1, h2⟩, h3, h4, h5, h6⟩ := h
  have hp := h1.pos
  obtain ⟨c1, s1, s2, s3⟩ := h1.step hj j3 e9
  obtain ⟨r1, r2, r3, r4, r5, r6⟩ := psh_rd (k := k) (o := o) (x := e') (m := mX)
  refine ⟨c1, s1, ⟨⟨s2.of (fun _ _ _ => rfl) ?_ ?_ ?_, h2.cg (s3.1 40 (by omega)) (s3.1 _ (by omega)) (s3.1 _ (by omega)) s3.2.2 (fun x a b c => ?_) ?_ ?_⟩, r1, by omega, ?_, hd'⟩, s3⟩
  · rw [r4 29 (by omega) (by omega), hX5 29 (by omega) (by omega), ui_rd, if_pos rfl, if_neg (by omega)]
  · rw [r2, ui_rd, if_pos rfl, if_pos rfl]
  · rw [r6 540 (by omega) (by omega), hX 540 (by omega), ui_ne (by omega)]
  · rw [r4 x a c, hX5 x a b]
  · rw [r6 541 (by omega) (by omega), hX 541 (by omega)]
  · rw [r6 542 (by omega) (by omega), hX 542 (by omega)]
  · rw [r4 35 (by omega) (by omega)]
    exact h35
theorem sl_3 : slN (wJ 20) = 3 ∧ slN (wJ 19) = 3 ∧ slN (wJ 18) = 2 ∧ slN (wJ 17) = 2 ∧ slN (wJ 16) = 4 := by decide +kernel
/-- opens, where there is room -/
theorem opens_v {k o d : Nat} {m : St} (hk : k = 9 ∨ k = 12) (h37 : m.1 500 37 = nI o) (ho : o ≤ 400) (h35 : m.1 500 35 = nI d) (hd : d < 10) : fX10_opens (nI k) m = some (ui (ui (ui m 500 35 (nI (d + 1))) 547 o (nI k)) 500 37 (nI (o + 1))) := by
  have g37 : (ui m 500 35 (nI (d + 1))).1 500 37 = nI o := by
    rw [ui_rd, if_pos rfl, if_neg (by omega)]
    exact h37
  have e12 : fX10_opens_B12 (nI k) m = some (ui (ui (ui m 500 35 (nI (d + 1))) 547 o (nI k)) 500 37 (nI (o + 1))) := by
    unfold fX10_opens_B12 fX10_opens_B30
    simp (disch := omega) only [lit_nI, h35, eq_nI, nI_add, nm_eq, B40_v g37 ho]
    rw [if_neg (by omega)]
  unfold fX10_opens
  rcases hk with rfl | rfl
  · rw [if_pos (show nI 9 = (9 : Int32) from rfl), e12]
  · rw [if_neg (show ¬ nI 12 = (9 : Int32) by decide), if_pos (show nI 12 = (12 : Int32) from rfl), e12]
theorem opens_f {k o a : Nat} {m : St} (hk : k = 9 ∨ k = 12) (h37 : m.1 500 37 = nI o) (ho : o ≤ 400) (h35 : m.1 500 35 = nI 10) (h0 : m.1 500 31 = nI 0) (h30 : m.1 500 30 = nI a) : fX10_opens (nI k) m = some (ui (ui (ui (flt m a 2) 500 35 (nI 11)) 547 o (nI k)) 500 37 (nI (o + 1))) := by
  have f37 : (ui (flt m a 2) 500 35 (nI 11)).1 500 37 = nI o := by
    unfold flt
    simp only [ui_rd, Nat.reduceEqDiff, if_true, if_false]
    exact h37
  have f35 : (flt m a 2).1 500 35 = nI 10 := by
    unfold flt
    simp only [ui_rd, Nat.reduceEqDiff, if_true, if_false]
    exact h35
  have e12 : fX10_opens_B12 (nI k) m = some (ui (ui (ui (flt m a 2) 500 35 (nI 11)) 547 o (nI k)) 500 37 (nI (o + 1))) := by
    unfold fX10_opens_B12 fX10_opens_B30
    simp only [lit_nI, h35, if_true, h30]
    rw [fails_v h0, br_some, f35, nI_add, nm_eq, B40_v f37 ho]
  unfold fX10_opens
  rcases hk with rfl | rfl
  · rw [if_pos (show nI 9 = (9 : Int32) from rfl), e12]
  · rw [if_neg (show ¬ nI 12 = (9 : Int32) by decide), if_pos (show nI 12 = (12 : Int32) from rfl), e12]
/-- the reference at the beginning of a fact -/
theorem fact_e {T S j p k e' v : Nat} {t : Nat → Nat} {pos : Nat → Nat} {c m : St} (h : LK t T S pos j p c m) (tk : Tok t T (pos j) k e' v) : fX10_fact m = (if k = 20 then br (fX10_opens (nI 9) (ui m 500 30 (nI (pos j)))) (fun s7 => some (nI 0, ui s7 500 30 (s7.1 500 30 + nI 3))) else if k = 31 then br (fX10_opens (nI 12) (ui m 500 30 (nI (pos j)))) (fun s7 => some (nI 0, ui s7 500 30 (s7.1 500 30 + nI 1))) else br (fX10_compared (ui m 500 30 (nI (pos j)))) (fun s => some (nI 1, s))) := by
  obtain ⟨b1, b2⟩ := h.blank
  have sg := tk.sign (h.byte (pos j))
  have s14 : fX10_stood 14 (ui m 500 30 (nI (pos j))) = some (if k = 20 then nI 1 else nI 0) := stood_k (w := 20) b2 tk (by omega)
  unfold fX10_fact
  simp only [lit_nI, b1, br_some, s14, sign_k b2, nm_eq]
  by_cases z : k = 20
  · rw [if_pos z, if_pos z, f1_ite]
  · rw [if_neg z, if_neg z, f0_ite]
    by_cases y : k = 31
    · rw [if_pos y, if_pos (sg.2.2.2.2.2.2.1.mpr y)]
    · rw [if_neg y, if_neg (fun w => y (sg.2.2.2.2.2.2.1.mp w))]
/-- how reading within a test ends -/
def OUT (R : Nat) (L : List Nat) (t : Nat → Nat) (T S : Nat) (pos : Nat → Nat) (P : Nat → Prop) (j p e q o d N u : Nat) (c m : St) (l l' : List Bool) (rc : Option (Int32 × St)) (rm : Option St) : Prop :=
  (∃ c1 m1 F, rc = some (nI 0, c1) ∧ rm = some m1 ∧ c1.1 40 3 = nI F ∧ FD F t T m1 ∧ RF R e c c1 ∧ QF R e o m m1) ∨ ∃ c1 m1 j1 p1 e1 q1 N1, rc = some (nI 1, c1) ∧ rm = fX10_test_L9 N1 (nI 0) (nI 1) m1 ∧ QS R L t T S pos j1 p1 e1 q1 o d c1 m1 ∧ RF R e c c1 ∧ QF R e o m m1 ∧ (j + u ≤ j1 ∧ p ≤ p1 ∧ q + u ≤ q1 ∧ 3 * e1 + 3 * u + 6 * q + p ≤ 3 * e + 6 * q1 + p1 ∧ N ≤ N1 + (j1 - j)) ∧ Sgm m1 R e e1 l l' ∧ ∃ k, c1.1 20 5 = nI k ∧ k < 40 ∧ P k
theorem OUT.seq {R T S j p e q o d N u j1 p1 e1 q1 N1 u0 : Nat} {L : List Nat} {t : Nat → Nat} {pos : Nat → Nat} {P : Nat → Prop} {c m c1 m1 : St} {l l1 l2 : List Bool} {rc : Option (Int32 × St)} {rm : Option St} (h : OUT R L t T S pos P j1 p1 e1 q1 o d N1 u c1 m1 l1 l2 rc rm) (hr : RF R e c c1) (hq : QF R e o m m1) (hb : j + u0 ≤ j1 ∧ p ≤ p1 ∧ q + u0 ≤ q1 ∧ 3 * e1 + 3 * u0 + 6 * q + p ≤ 3 * e + 6 * q1 + p1 ∧ N ≤ N1 + (j1 - j)) (hs : Sgm m1 R e e1 l l1) : OUT R L t T S pos P j p e q o d N (u0 + u) c m l l2 rc rm := by
  have he : e ≤ e1 := hs.1
  obtain ⟨g1, g2, g3, g4, g5⟩ := hb
  rcases h with ⟨c2, m2, F, a1, a2, a3, a4, a5, a6⟩ | ⟨c2, m2, j2, p2, e2, q2, N2, a1, a2, a3, a4, a5, ⟨b1, b2, b3, b4, b5⟩, a7, a8⟩
  · exact Or.inl ⟨c2, m2, F, a1, a2, a3, a4, hr.tr a5 he, hq.tr a6 he (Nat.le_refl o)⟩
  · exact Or.inr ⟨c2, m2, j2, p2, e2, q2, N2, a1, a2, a3, hr.tr a4 he, hq.tr a5 he (Nat.le_refl o), ⟨by omega, by omega, by omega, by omega, by omega⟩, (hs.fr a5.2.1).tr a7, a8⟩
theorem QS.kind {R T S j p e q o d : Nat} {L : List Nat} {t : Nat → Nat} {pos : Nat → Nat} {c m : St} (h : QS R L t T S pos j p e q o d c m) : ∃ k, c.1 20 5 = nI k ∧ k < 40 ∧ True := by
  obtain ⟨k, e', v, k9, v9, t5, -⟩ := h.1.1.tok
  exact ⟨k, t5, k9, trivial⟩
def FactP (R : Nat) (L : List Nat) (t : Nat → Nat) (T S : Nat) (pos : Nat → Nat) (n : Nat) : Prop := ∀ (d j p e q o N : Nat) (c m : St) (l : List Bool), 11 ≤ n + d → QS R L t T S pos j p e q o d c m → 3 * e ≤ 6 * q + p → l.length ≤ q → S - j + 5 ≤ N → OUT R L t T S pos (fun _ => True) j p e q o d N 1 c m l (false :: l) (fX5_readFact L n (nI d) c) (fX10_test_L9 N (nI 1) (nI 1) m)
theorem enc_l : (-19 : Int32) = enc (nI 10) (nI 0) ∧ (-18 : Int32) = enc (nI 11) (nI 0) ∧ (-20 : Int32) = enc (nI 9) (nI 0) := by decide
theorem tp_q {R e o x : Nat} {m m1 : St} (h : QF R e o m m1) (hx : x ≤ o) : tp m1 x = tp m x := by
  unfold tp
  by_cases z : x = 0
  · rw [if_pos z, if_pos z]
  · rw [if_neg z, if_neg z, h.2.2.1 _ (by omega)]
theorem partL {R T S n d : Nat} {L : List Nat} {t : Nat → Nat} {pos : Nat → Nat} (hF : FactP R L t T S pos n) (hn : 11 ≤ n + d) : ∀ (D j p e q o N i nC : Nat) (c m : St) (l : List Bool), S - j < D → D < nC → 2 * i ≤ j → QS R L t T S pos j p e q o d c m → ¬ tp m o = nI 9 → ¬ tp m o = nI 10 → 3 * e ≤ 6 * q + p → l.length + 1 ≤ q → S - j + 5 ≤ N → OUT R L t T S pos (fun k => k ≠ 19) j p e q o d N 0 c m (false :: l) (false :: l) (fX5_readPart_L12 L (fX5_readFact L n) (nI d) nC (nI i) c) (fX10_test_L9 N (nI 0) (nI 1) m) := by
  intro D
  induction D with
  | zero =>
    intro j p e q o N i nC c m l h0
    omega
  | succ D ih =>
    intro j p e q o N i nC c m l hD hC hi h t9 t10 hg hlq hN
    obtain ⟨nC, rfl⟩ : ∃ k, nC = k + 1 := ⟨nC - 1, by omega⟩
    obtain ⟨N, rfl⟩ : ∃ k, N = k + 1 := ⟨N - 1, by omega⟩
    have ho := h.o4
    obtain ⟨k, e', v, k9, v9, t5, t6, t7, tk, p1, p2, e9, tj, tS, tn⟩ := h.1.1.tok
    have hT := h.1.1.pos
    have hS : S ≤ T := h.1.1.1.1
    have hjS : j ≤ S := h.1.1.2.2.1
    have z31 := h.1.2.2.2.2.1.1
    rw [fX5_readPart_L12]
    simp (disch := omega) only [lit_nI, t5, le_nI, eq_nI, nI_add, nm_eq]
    rw [if_neg (show ¬ 400 ≤ i by omega)]
    by_cases q19 : k = 19
    · have hj : j < S := tn (by omega)
      obtain ⟨j1, j2, j3⟩ := tj hj
      obtain ⟨we1, we2⟩ := tk.wend (h.1.1.byte (pos j)) (show k < 21 by omega)
      rw [q19, sl_3.2.1] at we1
      obtain ⟨c1, s1, s2, s3⟩ := h.opn (k := 10) (mX := ui m 500 30 (nI (pos j))) hj j3 e9 j1 (by rw [ui_rd, if_pos rfl, if_neg (by omega)]; exact h.2.2.2.1) h.2.2.2.2 (fun i i1 i2 => by rw [ui_rd, if_pos rfl, if_neg i1]) (fun s hs => ui_ne hs)
      have qm : QF R e o m (psh 10 o e' (ui m 500 30 (nI (pos j)))) := (qf_5 (e := e) (o := o) (by omega)).tr psh_qf (Nat.le_refl e) (Nat.le_refl o)
      rw [if_pos q19, s1, br_some, and_v h.1.1 tk z31 h.2.1 ho t9 t10 q19, ← we1]
      rcases hF d (j + 1) e' e q (o + 1) N c1 _ (false :: l) hn s2 (by omega) (by simp only [List.length_cons]; omega) (by omega) with ⟨c2, m2, F, a1, a2, a3, a4, a5, a6⟩ | ⟨c2, m2, j2, p2', e2, q2, N2, a1, a2, a3, a4, a5, ⟨b1, b2, b3, b4, b5⟩, a7, -⟩
      · refine Or.inl ⟨c2, m2, F, ?_, a2, a3, a4, (RF.cs s3).tr a5 (Nat.le_refl e), qm.tr a6 (Nat.le_refl e) (by omega)⟩
        rw [a1, bw_some, f0_ite]
      · have hT2 := a3.1.1.pos
        have hS2 : j2 ≤ S := a3.1.1.2.2.1
        have q2b := a3.1.2.2.2.1.2.2
        obtain ⟨N2, rfl⟩ : ∃ k, N2 = k + 1 := ⟨N2 - 1, by omega⟩
        have tp1 : tp m2 (o + 1) = nI 10 := by rw [tp_q a5 (Nat.le_refl _), psh_tp.1]
        have tp0 : tp m2 o = tp m o := by rw [tp_q a5 (by omega), psh_tp.2, tp_5]
        obtain ⟨r1, r2, r3⟩ := a3.1.2.1
        have hcl : QS R L t T S pos j2 p2' (e2 + 1) q2 o d (cpt R e2 (enc (nI 10) (nI 0)) c2) (pp R e2 10 (o + 1) d m2) := a3.close (k := 10) (by omega)
        have sg1 : Sgm (pp R e2 10 (o + 1) d m2) R e2 (e2 + 1) (false :: false :: l) (false :: l) := by
          refine Sgm.one ?_
          rw [pp_rd.1, pp_rd.2]
          exact Or.inr (Or.inr (Or.inr (Or.inr (Or.inr ⟨l, Or.inl rfl, rfl, rfl⟩))))
        have qp : QF R e2 o m2 (pp R e2 10 (o + 1) d m2) := pp_qf
        have ee : e ≤ e2 := a7.1
        rw [a1, bw_some, f1_ite, r1, br_some, r2, gd_tt, show (-nI 19 : Int32) = enc (nI 10) (nI 0) from enc_l.1, cput_v a3.1.2, br_some, a2, K10 a3 tp1 (by rw [tp0]; exact t9) (by rw [tp0]; exact t10)]
        have := ih j2 p2' (e2 + 1) q2 o (N2 + 1) (i + 1) nC _ _ l (by omega) (by omega) (by omega) hcl (by rw [tp_pp, tp0]; exact t9) (by rw [tp_pp, tp0]; exact t10) (by omega) (by omega) (by omega)
        refine this.seq (u0 := 0) (((RF.cs s3).tr a4 (Nat.le_refl e)).tr RF.cpt ee) ((qm.tr a5 (Nat.le_refl e) (by omega)).tr qp ee (Nat.le_refl o)) ⟨by omega, by omega, by omega, by omega, by omega⟩ ((a7.fr qp.2.1).tr sg1)
    · rw [if_neg q19]
      exact Or.inr ⟨c, m, j, p, e, q, N + 1, rfl, rfl, h, RF.rf, QF.rf, ⟨by omega, by omega, by omega, by omega, by omega⟩, Sgm.rf, k, t5, k9, q19⟩
def PartP (R : Nat) (L : List Nat) (t : Nat → Nat) (T S : Nat) (pos : Nat → Nat) (n : Nat) : Prop := ∀ (d j p e q o N : Nat) (c m : St) (l : List Bool), 11 ≤ n + d → QS R L t T S pos j p e q o d c m → ¬ tp m o = nI 9 → ¬ tp m o = nI 10 → 3 * e ≤ 6 * q + p → l.length ≤ q → S - j + 5 ≤ N → OUT R L t T S pos (fun k => k ≠ 19) j p e q o d N 1 c m l (false :: l) (fX5_readPart L (fX5_readFact L n) (nI d) c) (fX10_test_L9 N (nI 1) (nI 1) m)
theorem part_v {R T S n : Nat} {L : List Nat} {t : Nat → Nat} {pos : Nat → Nat} (hF : FactP R L t T S pos n) : PartP R L t T S pos n := by
  intro d j p e q o N c m l hn h t9 t10 hg hlq hN
  unfold fX5_readPart
  simp only [lit_nI]
  rcases hF d j p e q o N c m l hn h hg hlq hN with ⟨c2, m2, F, a1, a2, a3, a4, a5, a6⟩ | ⟨c2, m2, j2, p2', e2, q2, N2, a1, a2, a3, a4, a5, ⟨b1, b2, b3, b4, b5⟩, a7, -⟩
  · refine Or.inl ⟨c2, m2, F, ?_, a2, a3, a4, a5, a6⟩
    rw [a1, bw_some, f0_ite]
  · rw [a1, bw_some, f1_ite, a2]
    have hS2 : j2 ≤ S := a3.1.1.2.2.1
    have hT2 := a3.1.1.pos
    have hS : S ≤ T := h.1.1.1.1
    have tp0 : tp m2 o = tp m o := tp_q a5 (Nat.le_refl o)
    have := partL hF hn (S - j2 + 1) j2 p2' e2 q2 o N2 0 10000 c2 m2 l (by omega) (by omega) (by omega) a3 (by rw [tp0]; exact t9) (by rw [tp0]; exact t10) (by omega) (by omega) (by omega)
    exact this.seq (u0 := 1) a4 a5 ⟨b1, b2, b3, b4, b5⟩ a7
theorem testL {R T S n d : Nat} {L : List Nat} {t : Nat → Nat} {pos : Nat → Nat} (hP : PartP R L t T S pos n) (hn : 11 ≤ n + d) : ∀ (D j p e q o N i nC : Nat) (c m : St) (l : List Bool), S - j < D → D < nC → 2 * i ≤ j → QS R L t T S pos j p e q o d c m → ¬ tp m o = nI 9 → ¬ tp m o = nI 10 → ¬ tp m o = nI 11 → ¬ c.1 20 5 = nI 19 → 3 * e ≤ 6 * q + p → l.length + 1 ≤ q → S - j + 5 ≤ N → OUT R L t T S pos (fun k => k ≠ 19 ∧ k ≠ 18) j p e q o d N 0 c m (false :: l) (false :: l) (fX5_readTest_L12 L (fX5_readFact L n) (nI d) nC (nI i) c) (fX10_test_L9 N (nI 0) (nI 1) m) := by
  intro D
  induction D with
  | zero =>
    intro j p e q o N i nC c m l h0
    omega
  | succ D ih =>
    intro j p e q o N i nC c m l hD hC hi h t9 t10 t11 hk19 hg hlq hN
    obtain ⟨nC, rfl⟩ : ∃ k, nC = k + 1 := ⟨nC - 1, by omega⟩
    obtain ⟨N, rfl⟩ : ∃ k, N = k + 1 := ⟨N - 1, by omega⟩
    have ho := h.o4
    obtain ⟨k, e', v, k9, v9, t5, t6, t7, tk, p1, p2, e9, tj, tS, tn⟩ := h.1.1.tok
    have hT := h.1.1.pos
    have hS : S ≤ T := h.1.1.1.1
    have hjS : j ≤ S := h.1.1.2.2.1
    have z31 := h.1.2.2.2.2.1.1
    have k19 : k ≠ 19 := fun z => hk19 (by rw [t5, z])
    rw [fX5_readTest_L12]
    simp (disch := omega) only [lit_nI, t5, le_nI, eq_nI, nI_add, nm_eq]
    rw [if_neg (show ¬ 400 ≤ i by omega)]
    by_cases q18 : k = 18
    · have hj : j < S := tn (by omega)
      obtain ⟨j1, j2, j3⟩ := tj hj
      obtain ⟨we1, we2⟩ := tk.wend (h.1.1.byte (pos j)) (show k < 21 by omega)
      rw [q18, sl_3.2.2.1] at we1
      obtain ⟨c1, s1, s2, s3⟩ := h.opn (k := 11) (mX := ui m 500 30 (nI (pos j))) hj j3 e9 j1 (by rw [ui_rd, if_pos rfl, if_neg (by omega)]; exact h.2.2.2.1) h.2.2.2.2 (fun i i1 i2 => by rw [ui_rd, if_pos rfl, if_neg i1]) (fun s hs => ui_ne hs)
      have qm : QF R e o m (psh 11 o e' (ui m 500 30 (nI (pos j)))) := (qf_5 (e := e) (o := o) (by omega)).tr psh_qf (Nat.le_refl e) (Nat.le_refl o)
      rw [if_pos q18, s1, br_some, or_v h.1.1 tk z31 h.2.1 ho t9 t10 t11 q18, ← we1]
      rcases hP d (j + 1) e' e q (o + 1) N c1 _ (false :: l) hn s2 (by rw [psh_tp.1]; decide) (by rw [psh_tp.1]; decide) (by omega) (by simp only [List.length_cons]; omega) (by omega) with ⟨c2, m2, F, a1, a2, a3, a4, a5, a6⟩ | ⟨c2, m2, j2, p2', e2, q2, N2, a1, a2, a3, a4, a5, ⟨b1, b2, b3, b4, b5⟩, a7, k2, k21, k22, k23⟩
      · refine Or.inl ⟨c2, m2, F, ?_, a2, a3, a4, (RF.cs s3).tr a5 (Nat.le_refl e), qm.tr a6 (Nat.le_refl e) (by omega)⟩
        rw [a1, bw_some, f0_ite]
      · have hT2 := a3.1.1.pos
        have hS2 : j2 ≤ S := a3.1.1.2.2.1
        have q2b := a3.1.2.2.2.1.2.2
        obtain ⟨N2, rfl⟩ : ∃ k, N2 = k + 1 := ⟨N2 - 1, by omega⟩
        have tp1 : tp m2 (o + 1) = nI 11 := by rw [tp_q a5 (Nat.le_refl _), psh_tp.1]
        have tp0 : tp m2 o = tp m o := by rw [tp_q a5 (by omega), psh_tp.2, tp_5]
        obtain ⟨r1, r2, r3⟩ := a3.1.2.1
        obtain ⟨k', e'', v'', k9', v9', t5', t6', t7', tk', -⟩ := a3.1.1.tok
        have hkk : k' ≠ 19 := fun z => by
          rw [k21, z, eq_nI (by omega) (by omega)] at t5'
          exact k23 t5'
        have hcl : QS R L t T S pos j2 p2' (e2 + 1) q2 o d (cpt R e2 (enc (nI 11) (nI 0)) c2) (pp R e2 11 (o + 1) d m2) := a3.close (k := 11) (by omega)
        have sg1 : Sgm (pp R e2 11 (o + 1) d m2) R e2 (e2 + 1) (false :: false :: l) (false :: l) := by
          refine Sgm.one ?_
          rw [pp_rd.1, pp_rd.2]
          exact Or.inr (Or.inr (Or.inr (Or.inr (Or.inr ⟨l, Or.inr rfl, rfl, rfl⟩))))
        have qp : QF R e2 o m2 (pp R e2 11 (o + 1) d m2) := pp_qf
        have ee : e ≤ e2 := a7.1
        have c20 : (cpt R e2 (enc (nI 11) (nI 0)) c2).1 20 5 = nI k2 := by
          unfold cpt
          rw [ui_ne (by omega), ui_ne (by omega)]
          exact k21
        rw [a1, bw_some, f1_ite, r1, br_some, r2, gd_tt, show (-nI 18 : Int32) = enc (nI 11) (nI 0) from enc_l.2.1, cput_v a3.1.2, br_some, a2, K11 a3 tk' hkk tp1 (by rw [tp0]; exact t9) (by rw [tp0]; exact t10) (by rw [tp0]; exact t11)]
        have := ih j2 p2' (e2 + 1) q2 o (N2 + 1) (i + 1) nC _ _ l (by omega) (by omega) (by omega) hcl (by rw [tp_pp, tp0]; exact t9) (by rw [tp_pp, tp0]; exact t10) (by rw [tp_pp, tp0]; exact t11) (by rw [c20, eq_nI (by omega) (by omega)]; exact k23) (by omega) (by omega) (by omega)
        refine this.seq (u0 := 0) (((RF.cs s3).tr a4 (Nat.le_refl e)).tr RF.cpt ee) ((qm.tr a5 (Nat.le_refl e) (by omega)).tr qp ee (Nat.le_refl o)) ⟨by omega, by omega, by omega, by omega, by omega⟩ ((a7.fr qp.2.1).tr sg1)
    · rw [if_neg q18]
      exact Or.inr ⟨c, m, j, p, e, q, N + 1, rfl, rfl, h, RF.rf, QF.rf, ⟨by omega, by omega, by omega, by omega, by omega⟩, Sgm.rf, k, t5, k9, k19, q18⟩
def TestP (R : Nat) (L : List Nat) (t : Nat → Nat) (T S : Nat) (pos : Nat → Nat) (n : Nat) : Prop := ∀ (d j p e q o N : Nat) (c m : St) (l : List Bool), 11 ≤ n + d → QS R L t T S pos j p e q o d c m → ¬ tp m o = nI 9 → ¬ tp m o = nI 10 → ¬ tp m o = nI 11 → 3 * e ≤ 6 * q + p → l.length ≤ q → S - j + 5 ≤ N → OUT R L t T S pos (fun k => k ≠ 19 ∧ k ≠ 18) j p e q o d N 1 c m l (false :: l) (fX5_readTest L (fX5_readFact L n) (nI d) c) (fX10_test_L9 N (nI 1) (nI 1) m)
theorem test_v {R T S n : Nat} {L : List Nat} {t : Nat → Nat} {pos : Nat → Nat} (hP : PartP R L t T S pos n) : TestP R L t T S pos n := by
  intro d j p e q o N c m l hn h t9 t10 t11 hg hlq hN
  unfold fX5_readTest
  simp only [lit_nI]
  rcases hP d j p e q o N c m l hn h t9 t10 hg hlq hN with ⟨c2, m2, F, a1, a2, a3, a4, a5, a6⟩ | ⟨c2, m2, j2, p2', e2, q2, N2, a1, a2, a3, a4, a5, ⟨b1, b2, b3, b4, b5⟩, a7, k2, k21, k22, k23⟩
  · refine Or.inl ⟨c2, m2, F, ?_, a2, a3, a4, a5, a6⟩
    rw [a1, bw_some, f0_ite]
  · rw [a1, bw_some, f1_ite, a2]
    have hS2 : j2 ≤ S := a3.1.1.2.2.1
    have hT2 := a3.1.1.pos
    have hS : S ≤ T := h.1.1.1.1
    have tp0 : tp m2 o = tp m o := tp_q a5 (Nat.le_refl o)
    have := testL hP hn (S - j2 + 1) j2 p2' e2 q2 o N2 0 10000 c2 m2 l (by omega) (by omega) (by omega) a3 (by rw [tp0]; exact t9) (by rw [tp0]; exact t10) (by rw [tp0]; exact t11) (by rw [k21, eq_nI (by omega) (by omega)]; exact k23) (by omega) (by omega) (by omega)
    exact this.seq (u0 := 1) a4 a5 ⟨b1, b2, b3, b4, b5⟩ a7
