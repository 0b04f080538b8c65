/-- behind a fault the reference's sum ends -/
theorem term_end {T F w n n' : Nat} {t : Nat → Nat} {m : St} (h : FD F t T m) : ∃ m1, fX10_blanks m = some m1 ∧ br (fX10_term_L8 (n + 1) m1) (ctw w (n' + 1)) = some m1 ∧ FD F t T m1 ∧ ∀ R e, SF R e m m1 := by
  obtain ⟨m1, b1, b2, b3, b4⟩ := h.blk
  refine ⟨m1, b1, ?_, b2, fun R e => SF.ofMD b3 b4⟩
  rw [T8_f b2.nz, br_some, ctw_f b2.nz]
theorem pos_mono {t : Nat → Nat} {T S j p e : Nat} {pos : Nat → Nat} {c m : St} (h : LK t T S pos (j + 1) p c m) : p ≤ pos (j + 1) ∧ pos (j + 1) ≤ 400 := by
  have := h.pos
  omega
theorem sumL {R T S : Nat} {L : List Nat} {t : Nat → Nat} {pos : Nat → Nat} : ∀ (D j e q w i nC n n' : Nat) (c m : St) (l : List Bool), S - j < D → D < 5000 → D < nC → D < n → D < n' → 2 * i ≤ j → (w = 0 ∨ w = 2 ∨ w = 3) → SM R L t T S pos j (pos j) e q c m → l.length + 1 + ew w ≤ q → 3 * e + 3 + 3 * ew w ≤ 6 * q + pos j →
    (∃ c1 m1, fX5_readSum_L13 L nC (wI w) (nI i) c = some (nI 0, c1) ∧ br (fX10_term_L8 n m) (ctw w n') = some m1 ∧ BF R t T e c m c1 m1) ∨ ∃ c1 m1 j1 e1 q1, fX5_readSum_L13 L nC (wI w) (nI i) c = some (nI 1, c1) ∧ br (fX10_term_L8 n m) (ctw w n') = some m1 ∧ SM R L t T S pos j1 (pos j1) e1 q1 c1 m1 ∧ RF R e c c1 ∧ SF R e m m1 ∧ j ≤ j1 ∧ pos j ≤ pos j1 ∧ q ≤ q1 ∧ 3 * e1 + 6 * q + pos j ≤ 3 * e + 3 * ew w + 6 * q1 + pos j1 ∧ Sgm m1 R e e1 (wl w l) (true :: l) := by
  intro D
  induction D with
  | zero =>
    intro j e q w i nC n n' c m l h0
    omega
  | succ D ih =>
    intro j e q w i nC n n' c m l hD hD5 hC hn hn' hi hw h hlq hg
    obtain ⟨nC, rfl⟩ : ∃ k, nC = k + 1 := ⟨nC - 1, by omega⟩
    obtain ⟨n, rfl⟩ : ∃ k, n = k + 1 + 1 := ⟨n - 2, by omega⟩
    obtain ⟨n', rfl⟩ : ∃ k, n' = k + 1 + 1 := ⟨n' - 2, by omega⟩
    obtain ⟨hl, hk⟩ := h
    obtain ⟨k, e', v, k9, v9, t5, t6, t7, tk, p1, p2, e9, tj, tS, tn⟩ := hl.tok
    have hT := hl.pos.1
    have hb := hl.byte
    have hS : S ≤ T := hl.1.1
    have hjS : j ≤ S := hl.2.2.1
    obtain ⟨d1, d2, d3⟩ := hk.2.2.1
    obtain ⟨f1, f2, f3⟩ := hk.2.2.2.1
    have ewb : ew w ≤ 1 := by
      unfold ew
      split <;> omega
    have p30 : m.1 500 30 = nI (pos j) := hl.2.2.2.2.1
    by_cases qt : k = 28 ∨ k = 29 ∨ k = 30
    · -- * / %
      have hj : j < S := tn (by omega)
      obtain ⟨j1, j2, j3⟩ := tj hj
      obtain ⟨se1, se2, -⟩ := tk.send (by omega) (by omega)
      subst se1
      obtain ⟨ok1, ok2⟩ := opk k qt
      obtain ⟨c1, s1, s2, s3⟩ := hl.step hj j3 e9
      have k1 : KM R L e q c1 (ui m 500 30 (nI (pos j + 1))) := hk.cg (s3.1 40 (by omega)) (s3.1 _ (by omega)) (s3.1 _ (by omega)) s3.2.2 (fun x h1 _ _ => by rw [ui_rd, if_pos rfl, if_neg h1]) (by rw [ui_ne (by omega)]) (by rw [ui_ne (by omega)])
      rw [L13_t (R := R) (e := e) (q := q) t5 qt (by omega), T8_t hl f1 tk qt, s1, br_some]
      unfold fX10_term_B72
      simp only [lit_nI, p30, nI_add, nm_eq]
      rcases value_v (⟨s2, k1⟩ : SM R L t T S pos (j + 1) (pos j + 1) e q c1 (ui m 500 30 (nI (pos j + 1)))) (by omega) with ⟨c2, m2, a1, a2, a3⟩ | ⟨c2, m2, p3, a1, a2, a3, a4, a5, a6, a7, a8⟩
      · obtain ⟨F, g1, g2, g3, g4⟩ := a3
        obtain ⟨m3, i1, i2, i3, i4⟩ := term_end (w := w) (n := n) (n' := n' + 1) g2
        refine Or.inl ⟨c2, m3, ?_, ?_, F, g1, i3, (RF.cs s3).tr g3 (Nat.le_refl e), ((SF.u5 (by omega)).tr g4 (Nat.le_refl e)).tr (i4 R e) (Nat.le_refl e)⟩
        · rw [a1, bw_some, f0_ite]
        · rw [a2, br_some, entry_f g2.nz, br_some, i1, br_some]
          exact i2
      · obtain ⟨lk2, km2⟩ := a3
        have lk3 : LK t T S pos (j + 1 + 1) p3 (cpt R (e + 1) (enc (nI (k - 15)) (nI 0)) c2) (ent R (e + 1) (nI (k - 15)) (nI 0) m2) := lk2.pt
        have km3 : KM R L (e + 1 + 1) (q + 1) (cpt R (e + 1) (enc (nI (k - 15)) (nI 0)) c2) (ent R (e + 1) (nI (k - 15)) (nI 0) m2) := km2.put (by omega)
        obtain ⟨b1, b2⟩ := lk3.blank
        have km4 := km3.cg (c1 := cpt R (e + 1) (enc (nI (k - 15)) (nI 0)) c2) (m1 := ui (ent R (e + 1) (nI (k - 15)) (nI 0) m2) 500 30 (nI (pos (j + 1 + 1)))) rfl rfl rfl rfl (fun x h1 _ _ => by rw [ui_rd, if_pos rfl, if_neg h1]) (by rw [ui_ne (by omega)]) (by rw [ui_ne (by omega)])
        have hp3 := lk2.pos
        obtain ⟨r1, r2, r3⟩ := km2.1
        have sg1 : Sgm m2 R e (e + 1) (wl w l) (true :: wl w l) := Sgm.one (a8 (wl w l) (by rw [wl_len]; omega))
        have sg2 : Sgm (ent R (e + 1) (nI (k - 15)) (nI 0) m2) R (e + 1) (e + 1 + 1) (true :: wl w l) (wl w l) := by
          refine Sgm.one ?_
          rw [ent_rd.1, ent_rd.2, wl_wr]
          exact Or.inr (Or.inr (Or.inr (Or.inl ⟨wr w l, ok2, rfl, rfl⟩)))
        have eq1 : fX5_readSum_L13 L nC (wI w) (nI (i + 1)) (cpt R (e + 1) (enc (nI (k - 15)) (nI 0)) c2) = (bw (fX5_readValue L c1) (fun x5 s4 => if x5 = nI 0 then some (nI 0, s4) else br (s4.2.2 40 1) (fun r8 => gd (okRb L r8) (br (fX4_put r8 (-nI k) s4) (fun s12 => fX5_readSum_L13 L nC (wI w) (nI (i + 1)) s12))))) := by
          rw [a1, bw_some, f1_ite, r1, br_some, r2, gd_tt, ok1, cput_v km2, br_some]
        have eq2 : br (fX10_term_L8 (n + 1) (ui (ent R (e + 1) (nI (k - 15)) (nI 0) m2) 500 30 (nI (pos (j + 1 + 1))))) (ctw w (n' + 1 + 1)) = br (br (fX10_value (ui m 500 30 (nI (pos j + 1)))) (fun s3 => br (fX10_entry (nI (k - 15)) (nI 0) s3) (fun s5 => br (fX10_blanks s5) (fun s7 => fX10_term_L8 (n + 1) s7)))) (ctw w (n' + 1 + 1)) := by
          rw [a2, br_some, entry_v km2, br_some, b1, br_some]
        rw [← eq1, ← eq2]
        rcases ih (j + 1 + 1) (e + 1 + 1) (q + 1) w (i + 1) nC (n + 1) (n' + 1 + 1) _ _ l (by omega) (by omega) (by omega) (by omega) (by omega) (by omega) hw ⟨b2, km4⟩ (by omega) (by omega) with ⟨c5, m5, u1, u2, u3⟩ | ⟨c5, m5, j5, e5, q5, u1, u2, u3, u4, u5, u6, u7, u8, u9, u10⟩
        · refine Or.inl ⟨c5, m5, u1, u2, u3.pre ?_ ?_ (by omega)⟩
          · exact ((RF.cs s3).tr a4 (Nat.le_refl e)).tr RF.cpt (by omega)
          · exact (((SF.u5 (by omega)).tr a5 (Nat.le_refl e)).tr SF.ent (by omega)).tr (SF.u5 (e := e) (by omega)) (Nat.le_refl e)
        · refine Or.inr ⟨c5, m5, j5, e5, q5, u1, u2, u3, ?_, ?_, by omega, by omega, by omega, by omega, ?_⟩
          · exact (((RF.cs s3).tr a4 (Nat.le_refl e)).tr RF.cpt (by omega)).tr u4 (by omega)
          · exact ((((SF.u5 (by omega)).tr a5 (Nat.le_refl e)).tr SF.ent (by omega)).tr (SF.u5 (e := e) (by omega)) (Nat.le_refl e)).tr u5 (by omega)
          · refine ((sg1.fr (fun x hx => ?_)).tr (sg2.fr (fun x hx => ?_))).tr u10
            · have y1 := (SF.ent (R := R) (e := e + 1) (m := m2) (s := nI (k - 15)) (n := nI 0)).2.1 x hx
              have y2 := u5.2.1 x (by omega)
              rw [ui_ne (by omega), ui_ne (by omega)] at y2
              exact ⟨y2.1.trans y1.1, y2.2.trans y1.2⟩
            · have y2 := u5.2.1 x hx
              rw [ui_ne (by omega), ui_ne (by omega)] at y2
              exact y2
    · by_cases qp : k = 26 ∨ k = 27
      · -- + -
        have hj : j < S := tn (by omega)
        obtain ⟨j1, j2, j3⟩ := tj hj
        obtain ⟨se1, se2, -⟩ := tk.send (by omega) (by omega)
        subst se1
        have lkw : LK t T S pos j (pos j) (cwt R e w c) (mwt R e w m) := hl.pw
        have kmw : KM R L (e + ew w) q (cwt R e w c) (mwt R e w m) := hk.pw (by omega)
        obtain ⟨c1, s1, s2, s3⟩ := lkw.step hj j3 e9
        have k1 : KM R L (e + ew w) q c1 (ui (mwt R e w m) 500 30 (nI (pos j + 1))) := kmw.cg (s3.1 40 (by omega)) (s3.1 _ (by omega)) (s3.1 _ (by omega)) s3.2.2 (fun x h1 _ _ => by rw [ui_rd, if_pos rfl, if_neg h1]) (by rw [ui_ne (by omega)]) (by rw [ui_ne (by omega)])
        have w30 : (mwt R e w m).1 500 30 = nI (pos j) := lkw.2.2.2.2.1
        have sw := mw_sg (R := R) (e := e) (m := m) (l := l) hw
        have hkw : k - 24 = 2 ∨ k - 24 = 3 := by omega
        have hkI : nI k = wI (k - 24) := by
          rcases qp with rfl | rfl <;> rfl
        have hew : ew (k - 24) = 1 := by
          rcases qp with rfl | rfl <;> rfl
        have hwl : wl (k - 24) l = true :: true :: l := by
          rcases qp with rfl | rfl <;> rfl
        rw [L13_p hk t5 qp (by omega) hw, T8_e hl f1 tk (by omega), br_some, ctw_ok hk, S4_p lkw kmw.2.2.2.1.1 tk qp, s1, br_some]
        have e43 : fX10_sum_B43 (fX10_sum_L4 (n' + 1)) (nI (k - 24)) (mwt R e w m) = br (fX10_value (ui (mwt R e w m) 500 30 (nI (pos j + 1)))) (fun s2 => br (fX10_blanks s2) (fun s4 => br (fX10_term_L8 10000 s4) (ctw (k - 24) (n' + 1)))) := by
          unfold fX10_sum_B43 fX10_term ctw
          simp only [lit_nI, w30, nI_add, nm_eq, show ¬ k - 24 = 0 by omega, if_false]
          cases fX10_value (ui (mwt R e w m) 500 30 (nI (pos j + 1))) with
          | none => rfl
          | some s2 =>
            simp only [br_some]
            cases fX10_blanks s2 with
            | none => rfl
            | some s4 => rfl
        rw [e43]
        rcases value_v (⟨s2, k1⟩ : SM R L t T S pos (j + 1) (pos j + 1) (e + ew w) q c1 (ui (mwt R e w m) 500 30 (nI (pos j + 1)))) (by omega) with ⟨c2, m2, a1, a2, a3⟩ | ⟨c2, m2, p3, a1, a2, a3, a4, a5, a6, a7, a8⟩
        · obtain ⟨F, g1, g2, g3, g4⟩ := a3
          obtain ⟨m3, i1, i2, i3, i4⟩ := term_end (w := k - 24) (n := 9999) (n' := n') g2
          refine Or.inl ⟨c2, m3, ?_, ?_, F, g1, i3, (rf_cwt.tr (RF.cs (e := e) s3) (Nat.le_refl e)).tr g3 (by omega), ((sf_mwt.tr (SF.u5 (e := e) (by omega)) (Nat.le_refl e)).tr g4 (by omega)).tr (i4 R e) (Nat.le_refl e)⟩
          · rw [a1, bw_some, f0_ite]
          · rw [a2, br_some, i1, br_some]
            exact i2
        · obtain ⟨lk2, km2⟩ := a3
          obtain ⟨b1, b2⟩ := lk2.blank
          have km4 := km2.cg (c1 := c2) (m1 := ui m2 500 30 (nI (pos (j + 1 + 1)))) rfl rfl rfl rfl (fun x h1 _ _ => by rw [ui_rd, if_pos rfl, if_neg h1]) (by rw [ui_ne (by omega)]) (by rw [ui_ne (by omega)])
          have hp3 := lk2.pos
          have sg1 : Sgm m2 R (e + ew w) (e + ew w + 1) (true :: l) (true :: true :: l) := Sgm.one (a8 (true :: l) (by simp only [List.length_cons]; omega))
          rw [a1, bw_some, f1_ite, a2, br_some, b1, br_some, hkI]
          rcases ih (j + 1 + 1) (e + ew w + 1) (q + 1) (k - 24) (i + 1) nC 10000 (n' + 1) _ _ l (by omega) (by omega) (by omega) (by omega) (by omega) (by omega) (Or.inr hkw) ⟨b2, km4⟩ (by omega) (by omega) with ⟨c5, m5, u1, u2, u3⟩ | ⟨c5, m5, j5, e5, q5, u1, u2, u3, u4, u5, u6, u7, u8, u9, u10⟩
          · refine Or.inl ⟨c5, m5, u1, u2, u3.pre ?_ ?_ (by omega)⟩
            · exact (rf_cwt.tr (RF.cs (e := e) s3) (Nat.le_refl e)).tr a4 (by omega)
            · exact ((sf_mwt.tr (SF.u5 (e := e) (by omega)) (Nat.le_refl e)).tr a5 (by omega)).tr (SF.u5 (e := e) (by omega)) (Nat.le_refl e)
          · refine Or.inr ⟨c5, m5, j5, e5, q5, u1, u2, u3, ?_, ?_, by omega, by omega, by omega, by omega, ?_⟩
            · exact ((rf_cwt.tr (RF.cs (e := e) s3) (Nat.le_refl e)).tr a4 (by omega)).tr u4 (by omega)
            · exact (((sf_mwt.tr (SF.u5 (e := e) (by omega)) (Nat.le_refl e)).tr a5 (by omega)).tr (SF.u5 (e := e) (by omega)) (Nat.le_refl e)).tr u5 (by omega)
            · rw [hwl] at u10
              refine ((sw.fr (fun x hx => ?_)).tr (sg1.fr (fun x hx => ?_))).tr u10
              · have y1 := a5.2.1 x hx
                have y2 := u5.2.1 x (by omega)
                rw [ui_ne (by omega), ui_ne (by omega)] at y1 y2
                exact ⟨y2.1.trans y1.1, y2.2.trans y1.2⟩
              · have y2 := u5.2.1 x hx
                rw [ui_ne (by omega), ui_ne (by omega)] at y2
                exact y2
      · -- the end of the sum
        have lkw : LK t T S pos j (pos j) (cwt R e w c) (mwt R e w m) := hl.pw
        have kmw : KM R L (e + ew w) q (cwt R e w c) (mwt R e w m) := hk.pw (by omega)
        rw [L13_e hk t5 k9 (by omega) (by omega) hw, T8_e hl f1 tk (by omega), br_some, ctw_ok hk, S4_e lkw kmw.2.2.2.1.1 tk (by omega)]
        exact Or.inr ⟨_, _, j, e + ew w, q, rfl, rfl, ⟨lkw, kmw⟩, rf_cwt, sf_mwt, Nat.le_refl j, Nat.le_refl _, Nat.le_refl q, by omega, mw_sg hw⟩
theorem sum_v {R T S j p e q : Nat} {L : List Nat} {t : Nat → Nat} {pos : Nat → Nat} {c m : St} (h : SM R L t T S pos j p e q c m) (hg : 3 * e ≤ 6 * q + p) (l : List Bool) (hlq : l.length ≤ q) :
    (∃ c1 m1, fX5_readSum L c = some (nI 0, c1) ∧ fX10_sum m = some m1 ∧ BF R t T e c m c1 m1) ∨ ∃ c1 m1 j1 e1 q1, fX5_readSum L c = some (nI 1, c1) ∧ fX10_sum m = some m1 ∧ SM R L t T S pos j1 (pos j1) e1 q1 c1 m1 ∧ RF R e c c1 ∧ SF R e m m1 ∧ j < j1 ∧ p < pos j1 ∧ q < q1 ∧ 3 * e1 + 3 + 6 * q + p ≤ 3 * e + 6 * q1 + pos j1 ∧ Sgm m1 R e e1 l (true :: l) := by
  have hT := h.1.pos
  have hS : S ≤ T := h.1.1.1
  have hq := h.2.2.2.1.2.2
  have e4 : fX10_sum m = br (fX10_value m) (fun s2 => br (fX10_blanks s2) (fun s4 => br (fX10_term_L8 10000 s4) (ctw 0 10000))) := by
    unfold fX10_sum fX10_term
    cases fX10_value m with
    | none => rfl
    | some s2 =>
      simp only [br_some]
      cases fX10_blanks s2 with
      | none => rfl
      | some s4 => rfl
  rw [e4]
  unfold fX5_readSum
  simp only [lit_nI]
  rcases value_v h (by omega) with ⟨c2, m2, a1, a2, a3⟩ | ⟨c2, m2, p3, a1, a2, a3, a4, a5, a6, a7, a8⟩
  · obtain ⟨F, g1, g2, g3, g4⟩ := a3
    obtain ⟨m3, i1, i2, i3, i4⟩ := term_end (w := 0) (n := 9999) (n' := 9999) g2
    refine Or.inl ⟨c2, m3, ?_, ?_, F, g1, i3, g3, g4.tr (i4 R e) (Nat.le_refl e)⟩
    · rw [a1, bw_some, f0_ite]
    · rw [a2, br_some, i1, br_some]
      exact i2
  · obtain ⟨lk2, km2⟩ := a3
    obtain ⟨b1, b2⟩ := lk2.blank
    have km4 := km2.cg (c1 := c2) (m1 := ui m2 500 30 (nI (pos (j + 1)))) rfl rfl rfl rfl (fun x h1 _ _ => by rw [ui_rd, if_pos rfl, if_neg h1]) (by rw [ui_ne (by omega)]) (by rw [ui_ne (by omega)])
    have hp3 := lk2.pos
    have sg1 : Sgm m2 R e (e + 1) l (true :: l) := Sgm.one (a8 l (by omega))
    rw [a1, bw_some, f1_ite, a2, br_some, b1, br_some]
    have e0 : ew 0 = 0 := rfl
    rcases sumL (S - (j + 1) + 1) (j + 1) (e + 1) (q + 1) 0 0 10000 10000 10000 _ _ l (by omega) (by omega) (by omega) (by omega) (by omega) (by omega) (Or.inl rfl) ⟨b2, km4⟩ (by omega) (by omega) with ⟨c5, m5, u1, u2, u3⟩ | ⟨c5, m5, j5, e5, q5, u1, u2, u3, u4, u5, u6, u7, u8, u9, u10⟩
    · exact Or.inl ⟨c5, m5, u1, u2, u3.pre a4 (a5.tr (SF.u5 (e := e) (by omega)) (Nat.le_refl e)) (by omega)⟩
    · refine Or.inr ⟨c5, m5, j5, e5, q5, u1, u2, u3, a4.tr u4 (by omega), (a5.tr (SF.u5 (e := e) (by omega)) (Nat.le_refl e)).tr u5 (by omega), by omega, by omega, by omega, by omega, ?_⟩
      refine (sg1.fr (fun x hx => ?_)).tr u10
      have y2 := u5.2.1 x hx
      rw [ui_ne (by omega), ui_ne (by omega)] at y2
      exact y2
