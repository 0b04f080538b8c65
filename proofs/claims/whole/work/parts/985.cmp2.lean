theorem compared_v {R T S j p e q : Nat} {L : List Nat} {t : Nat → Nat} {pos : Nat → Nat} {c m : St} (h : SM R L t T S pos j p e q c m) (hg : 3 * e ≤ 6 * q + p) (l : List Bool) (hlq : l.length ≤ q) :
    (∃ c1 m1, cmC L c = some (nI 0, c1) ∧ fX10_compared m = some m1 ∧ BF R t T e c m c1 m1) ∨ ∃ c1 m1 j1 e1 q1, cmC L c = some (nI 1, c1) ∧ fX10_compared m = some m1 ∧ SM R L t T S pos j1 (pos j1) e1 q1 c1 m1 ∧ RF R e c c1 ∧ SF R e m m1 ∧ j < j1 ∧ p < pos j1 ∧ q < q1 ∧ 3 * e1 + 3 + 6 * q + p ≤ 3 * e + 6 * q1 + pos j1 ∧ Sgm m1 R e e1 l (false :: l) := by
  have h38 := h.2.2.2.2.1.2.2
  have hR := h.2.1.2.2
  have hT := h.1.pos
  rw [cmp_e]
  unfold cmC
  rcases sum_v h hg l hlq with ⟨c1, m1, a1, a2, a3⟩ | ⟨c1, m1, j1, e1, q1, a1, a2, a3, a4, a5, a6, a7, a8, a9, a10⟩
  · obtain ⟨F, g1, g2, g3, g4⟩ := a3
    obtain ⟨m2, b1, b2, b3⟩ := cmp_f g2 (by rw [g4.1 500 38 (by omega) (by omega) (by omega)]; exact h38)
    refine Or.inl ⟨c1, m2, by rw [a1, bw_some, f0_ite], ?_, F, g1, b2, g3, g4.tr (b3 R e) (Nat.le_refl e)⟩
    rw [a2, br_some, b1]
  · obtain ⟨hl, hk⟩ := a3
    obtain ⟨k, e', v, k9, v9, t5, t6, t7, tk, p1, p2, e9, tj, tS, tn⟩ := hl.tok
    have hb := hl.byte
    obtain ⟨d1, d2, d3⟩ := hk.2.2.1
    obtain ⟨f1, f2, f3⟩ := hk.2.2.2.1
    have e1b := hk.2.1.2.2
    have p30 : m1.1 500 30 = nI (pos j1) := hl.2.2.2.2.1
    have sg := tk.sign (hb (pos j1))
    have hpj : pos j1 ≤ T := p2
    rw [a1, bw_some, f1_ite, a2, br_some, sign_k hl, br_some, nm_eq, sgn_c t5 t6 d1 k9 d3, p30]
    by_cases z : 33 ≤ k ∧ k ≤ 37
    · rw [if_pos z, if_pos (show sgA t T (pos j1) = nI 60 ∨ sgA t T (pos j1) = nI 61 ∨ sgA t T (pos j1) = nI 62 by
        rw [sg.2.2.2.2.2.2.2.2.1, sg.2.2.2.2.2.2.2.2.2.1, sg.2.2.2.2.2.2.2.2.2.2]
        omega)]
      have hj : j1 < S := tn (by omega)
      obtain ⟨w1, w2, w3⟩ := tj hj
      have hb2 := hb (pos j1) w2
      have hsA : sgA t T (pos j1) = nI (t (pos j1)) := if_pos w2
      rw [hsA] at sg ⊢
      have s60 : t (pos j1) = 60 ↔ (k = 33 ∨ k = 36) := by
        rw [← sg.2.2.2.2.2.2.2.2.1, eq_nI (by omega) (by omega)]
      have s61 : t (pos j1) = 61 ↔ k = 34 := by
        rw [← sg.2.2.2.2.2.2.2.2.2.1, eq_nI (by omega) (by omega)]
      have s62 : t (pos j1) = 62 ↔ (k = 35 ∨ k = 37) := by
        rw [← sg.2.2.2.2.2.2.2.2.2.2, eq_nI (by omega) (by omega)]
      have hs3 : t (pos j1) = 60 ∨ t (pos j1) = 61 ∨ t (pos j1) = 62 := by
        rw [s60, s61, s62]
        omega
      by_cases hq : q1 < 60
      · rw [if_pos hq, cnt_v d2 hq, br_some]
        have tmB : TM t T (ui m1 500 36 (nI (q1 + 1))) := hl.2.2.2.1.ui (by omega) (by omega)
        have p30B : (ui m1 500 36 (nI (q1 + 1))).1 500 30 = nI (pos j1) := by
          rw [ui_rd, if_pos rfl, if_neg (by omega)]
          exact p30
        have hx : (if t (pos j1) ≠ 61 ∧ pos j1 + 1 < T ∧ t (pos j1 + 1) = 61 then pos j1 + 2 else pos j1 + 1) = e' := by
          by_cases k3 : k = 36 ∨ k = 37
          · obtain ⟨y1, y2, y3⟩ := tk.send2 (hb (pos j1)) k3
            rw [if_pos ⟨by rw [Ne, s61]; omega, y2, y3⟩, y1]
          · obtain ⟨y1, y2, y3⟩ := tk.send (by omega) (by omega)
            rw [if_neg (fun w => ?_), y1]
            have : k ≠ 34 := fun u => w.1 (s61.mpr u)
            exact y3 (by omega) w.2
        have hz : (if t (pos j1) = 61 then 6 else if t (pos j1) = 60 then (if pos j1 + 1 < T ∧ t (pos j1 + 1) = 61 then 5 else 4) else (if pos j1 + 1 < T ∧ t (pos j1 + 1) = 61 then 7 else 8)) = cz k := by
          unfold cz
          by_cases k3 : k = 36 ∨ k = 37
          · obtain ⟨y1, y2, y3⟩ := tk.send2 (hb (pos j1)) k3
            rcases k3 with k3 | k3
            · rw [if_neg (by rw [s61]; omega), if_pos (s60.mpr (Or.inr k3)), if_pos ⟨y2, y3⟩, if_neg (by omega), if_pos k3]
            · rw [if_neg (by rw [s61]; omega), if_neg (by rw [s60]; omega), if_pos ⟨y2, y3⟩, if_neg (by omega), if_neg (by omega), if_neg (by omega), if_pos k3]
          · obtain ⟨y1, y2, y3⟩ := tk.send (by omega) (by omega)
            rcases (show k = 33 ∨ k = 34 ∨ k = 35 by omega) with u | u | u
            · rw [if_neg (by rw [s61]; omega), if_pos (s60.mpr (Or.inl u)), if_neg (y3 (by omega)), if_pos u]
            · rw [if_pos (s61.mpr u), if_neg (by omega), if_neg (by omega), if_pos u]
            · rw [if_neg (by rw [s61]; omega), if_neg (by rw [s60]; omega), if_neg (y3 (by omega)), if_neg (by omega), if_neg (by omega), if_neg (by omega), if_neg (by omega)]
        rw [rst_v tmB p30B w2 hs3, hx, hz]
        obtain ⟨z1, z2⟩ := cz_v k z.1 z.2
        have lkA : LK t T S pos j1 (pos j1) (ui c1 40 2 (nI (q1 + 1))) m1 := hl.of (fun k k1 k2 => ui_ne (by omega)) rfl rfl rfl
        obtain ⟨c2, s1, s2, s3⟩ := lkA.step hj w3 e9
        have lkB : LK t T S pos (j1 + 1) e' c2 (ui (ui m1 500 36 (nI (q1 + 1))) 500 30 (nI e')) := s2.of (fun _ _ _ => rfl) (by simp only [ui_rd, Nat.reduceEqDiff, if_true, if_false]) (by simp only [ui_rd, Nat.reduceEqDiff, if_true, if_false]) (by rw [ui_ne (by omega), ui_ne (by omega), ui_ne (by omega)])
        have kmB : KM R L e1 (q1 + 1) c2 (ui (ui m1 500 36 (nI (q1 + 1))) 500 30 (nI e')) := (hk.cnt hq).cg (s3.1 40 (by omega)) (s3.1 _ (by omega)) (s3.1 _ (by omega)) s3.2.2 (fun x h1 _ _ => by rw [ui_rd, if_pos rfl, if_neg h1]) (by rw [ui_ne (by omega)]) (by rw [ui_ne (by omega)])
        have rf2 : RF R e1 c1 c2 := (RF.u40 hR).tr (RF.cs s3) (Nat.le_refl e1)
        have sf2 : SF R e1 m1 (ui (ui m1 500 36 (nI (q1 + 1))) 500 30 (nI e')) := (SF.u5 (by omega)).tr (SF.u5 (by omega)) (Nat.le_refl e1)
        have ee : e ≤ e1 := a10.1
        rw [s1, br_some, bw_some, f1_ite]
        rcases sum_v (⟨lkB, kmB⟩ : SM R L t T S pos (j1 + 1) e' e1 (q1 + 1) c2 _) (by omega) (true :: l) (by simp only [List.length_cons]; omega) with ⟨c3, m3, u1, u2, u3⟩ | ⟨c3, m3, j3, e3, q3, u1, u2, u3, u4, u5, u6, u7, u8, u9, u10⟩
        · obtain ⟨F, g1, g2, g3, g4⟩ := u3
          refine Or.inl ⟨c3, m3, by rw [u1, bw_some, f0_ite], ?_, F, g1, g2, (a4.tr rf2 ee).tr g3 ee, (a5.tr sf2 ee).tr g4 ee⟩
          rw [u2, br_some, entry_f g2.nz, br_some]
        · obtain ⟨hl3, hk3⟩ := u3
          obtain ⟨r1, r2, r3⟩ := hk3.1
          have q3b := hk3.2.2.1.2.2
          have hp3 := hl3.pos
          have ee3 : e1 ≤ e3 := u10.1
          refine Or.inr ⟨_, _, j3, e3 + 1, q3, ?_, ?_, ⟨hl3.pt (z := enc (nI (cz k)) (nI 0)) (s := nI (cz k)) (n := nI 0), hk3.put (by omega)⟩, ((a4.tr rf2 ee).tr u4 ee).tr RF.cpt (by omega), ((a5.tr sf2 ee).tr u5 ee).tr SF.ent (by omega), by omega, by omega, by omega, by omega, ?_⟩
          · rw [u1, bw_some, f1_ite, r1, br_some, r2, gd_tt, t5, z1, cput_v hk3, br_some]
          · rw [u2, br_some, entry_v hk3, br_some]
          · have f3' := (SF.ent (R := R) (e := e3) (m := m3) (s := nI (cz k)) (n := nI 0)).2.1
            have s1' : Sgm (ent R e3 (nI (cz k)) (nI 0) m3) R e e1 l (true :: l) := (a10.fr (fun x hx => ⟨(sf2.2.1 x hx).1, (sf2.2.1 x hx).2⟩)).fr (fun x hx => ⟨(f3' x (by omega)).1.trans (u5.2.1 x hx).1, (f3' x (by omega)).2.trans (u5.2.1 x hx).2⟩)
            refine (s1'.tr (u10.fr (fun x hx => f3' x hx))).tr (Sgm.one ?_)
            rw [ent_rd.1, ent_rd.2]
            exact Or.inr (Or.inr (Or.inr (Or.inr (Or.inl ⟨l, z2, rfl, rfl⟩))))
      · rw [if_neg hq]
        have hq60 : q1 = 60 := by omega
        rw [hq60] at d2
        have hf : FD (1 + 8 * pos j1 + 3) t T (flt m1 (pos j1) 3) := fd_flt (p := pos j1) hl.2.2.2.1 p30 (by omega) (by omega) (by omega)
        obtain ⟨m2, b1, b2, b3⟩ := rst_f (p := pos j1) (fd_cnt (y := nI 61) hf) (by unfold flt; simp only [ui_rd, Nat.reduceEqDiff, if_true, if_false]; exact f3) (by unfold flt; simp only [ui_rd, Nat.reduceEqDiff, if_true, if_false]; exact p30) w2 hs3
        rw [cnt_60 d2 f1, br_some, b1, bw_some, f0_ite]
        exact Or.inl ⟨_, m2, rfl, rfl, _, by rw [ui_rd, if_pos rfl, if_pos rfl], b2, a4.tr (RF.u40 (e := e) hR) (Nat.le_refl e), ((a5.tr (sf_flt (e := e)) (Nat.le_refl e)).tr (SF.u5 (e := e) (by omega)) (Nat.le_refl e)).tr (b3 R e) (Nat.le_refl e)⟩
    · rw [if_neg z, if_neg (by
        rw [sg.2.2.2.2.2.2.2.2.1, sg.2.2.2.2.2.2.2.2.2.1, sg.2.2.2.2.2.2.2.2.2.2]
        omega), fails_v f1, br_some, bw_some, f0_ite]
      have hf : FD (1 + 8 * pos j1 + 0) t T (flt m1 (pos j1) 0) := fd_flt (p := pos j1) hl.2.2.2.1 p30 (by omega) (by omega) (by omega)
      exact Or.inl ⟨_, _, rfl, rfl, _, by rw [ui_rd, if_pos rfl, if_pos rfl], hf, a4.tr (RF.u40 (e := e) hR) (Nat.le_refl e), a5.tr (sf_flt (e := e)) (Nat.le_refl e)⟩
