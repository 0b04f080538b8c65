/-- both sides at the same token, with the same code -/
def SM (R : Nat) (L : List Nat) (t : Nat → Nat) (T S : Nat) (pos : Nat → Nat) (j p e q : Nat) (c m : St) : Prop := LK t T S pos j p c m ∧ KM R L e q c m
/-- both sides have met the same fault -/
def BF (R : Nat) (t : Nat → Nat) (T e : Nat) (c m c1 m1 : St) : Prop := ∃ F, c1.1 40 3 = nI F ∧ FD F t T m1 ∧ RF R e c c1 ∧ SF R e m m1
theorem BF.pre {R T e e0 : Nat} {t : Nat → Nat} {c m cA mA c1 m1 : St} (h : BF R t T e cA mA c1 m1) (hc : RF R e0 c cA) (hm : SF R e0 m mA) (he : e0 ≤ e) : BF R t T e0 c m c1 m1 := by
  obtain ⟨F, h1, h2, h3, h4⟩ := h
  exact ⟨F, h1, h2, hc.tr h3 he, hm.tr h4 he⟩
theorem BF.post {R T e : Nat} {t : Nat → Nat} {c m c1 m1 m2 : St} (h : BF R t T e c m c1 m1) (hm : SF R e m1 m2) (hf : ∀ F, FD F t T m1 → FD F t T m2) : BF R t T e c m c1 m2 := by
  obtain ⟨F, h1, h2, h3, h4⟩ := h
  exact ⟨F, h1, hf F h2, h3, h4.tr hm (Nat.le_refl e)⟩
theorem fd_flt {t : Nat → Nat} {T p a x : Nat} {m : St} (h : TM t T m) (hp : m.1 500 30 = nI p) (p9 : p ≤ 1000) (ha : a ≤ 400) (hx : x ≤ 4) : FD (1 + 8 * a + x) t T (flt m a x) := by
  refine ⟨h.ui (by omega) (by omega), ⟨p, p9, ?_⟩, flt_rd, by omega, by omega⟩
  unfold flt
  rw [ui_rd, if_pos rfl, if_neg (by omega)]
  exact hp
theorem sf_flt {R e a x : Nat} {m : St} : SF R e m (flt m a x) := SF.u5 (by omega)
theorem value_v {R j p e q T S : Nat} {L : List Nat} {t : Nat → Nat} {pos : Nat → Nat} {c m : St} (h : SM R L t T S pos j p e q c m) (he : e < 290) :
    (∃ c1 m1, fX5_readValue L c = some (nI 0, c1) ∧ fX10_value m = some m1 ∧ BF R t T e c m c1 m1) ∨ ∃ c1 m1 p1, fX5_readValue L c = some (nI 1, c1) ∧ fX10_value m = some m1 ∧ SM R L t T S pos (j + 1) p1 (e + 1) (q + 1) c1 m1 ∧ RF R e c c1 ∧ SF R e m m1 ∧ p < p1 ∧ j < S ∧ ∀ l : List Bool, l.length ≤ q → Sp1 (m1.1 541 (300 * R + e)) (m1.1 542 (300 * R + e)) l (true :: l) := by
  obtain ⟨hl, hk⟩ := h
  obtain ⟨k, e', v, k9, v9, t5, t6, t7, tk, p1, p2, e9, tj, tS, tn⟩ := hl.tok
  obtain ⟨b1, b2⟩ := hl.blank
  have hT := hl.pos.1
  have hb := hl.byte
  have hR := hk.1.2.2
  have hC := cval_v hk t5 t6 t7 k9
  obtain ⟨d1, d2, d3⟩ := hk.2.2.1
  obtain ⟨e1, e2, e3⟩ := hk.2.2.2.1
  have z1 : (ui m 500 30 (nI (pos j))).1 500 31 = nI 0 := e31 e1 (by omega)
  have p30 : (ui m 500 30 (nI (pos j))).1 500 30 = nI (pos j) := by rw [ui_rd, if_pos rfl, if_pos rfl]
  have kx : KM R L e q c (ui m 500 30 (nI (pos j))) := hk.cg rfl rfl rfl rfl (fun x h1 _ _ => by rw [ui_rd, if_pos rfl, if_neg h1]) (by rw [ui_ne (by omega)]) (by rw [ui_ne (by omega)])
  have hdig := tk.dig (hb (pos j))
  have hV : fX10_value m = (if pos j < T ∧ isD t (pos j) = true then (bw (fX10_digits (nI 99999) (ui m 500 30 (nI (pos j)))) (fun x9 s8 => br (fX10_isCounted (nI (pos j)) s8) (fun s11 => br (fX10_entry (nI 0) x9 s11) (fun s13 => some s13)))) else fX10_value_B62 (nI (pos j)) (nI (min k 12)) (ui m 500 30 (nI (pos j)))) := by
    unfold fX10_value
    simp only [lit_nI]
    rw [b1, br_some, nm_eq, p30, isDigit_v b2.2.2.2.1 p30 (by omega), br_some]
    by_cases z : pos j < T ∧ isD t (pos j) = true
    · rw [if_pos z, if_pos z, if_neg (by rw [n10]; exact id)]
    · rw [if_neg z, if_neg z, if_pos rfl]
      exact word_L b2 (by rw [ui_rd, if_pos rfl, if_neg (by omega)]; exact e3) tk 12 0 10000 (by omega) (by omega) (by omega)
  have bf : ∀ x m1, FD (1 + 8 * pos j + x) t T m1 → SF R e m m1 → BF R t T e c m (ui c 40 3 (nI (1 + 8 * pos j + x))) m1 := fun x m1 hf hs => ⟨_, by rw [ui_rd, if_pos rfl, if_pos rfl], hf, RF.u40 hR, hs⟩
  have u3 : ∀ y, SF R e m (ui m 500 30 y) := fun y => SF.u5 (by omega)
  -- both go on behind a value
  have good : ∀ (s n : Int32), q < 60 → j < S → pos j < e' → pos (j + 1) = sk t T e' → (∀ l : List Bool, l.length < 60 → Sp1 s n l (true :: l)) → fX5_readValue L c = br (fX7_step (cpt R e (enc s n) (ui c 40 2 (nI (q + 1))))) (fun s => some (nI 1, s)) → fX10_value m = some (ent R e s n (ui (ui m 500 30 (nI e')) 500 36 (nI (q + 1)))) → ∃ c1 m1 p1, fX5_readValue L c = some (nI 1, c1) ∧ fX10_value m = some m1 ∧ SM R L t T S pos (j + 1) p1 (e + 1) (q + 1) c1 m1 ∧ RF R e c c1 ∧ SF R e m m1 ∧ p < p1 ∧ j < S ∧ ∀ l : List Bool, l.length ≤ q → Sp1 (m1.1 541 (300 * R + e)) (m1.1 542 (300 * R + e)) l (true :: l) := by
    intro s n hq hj hp he' hsp r1 r2
    have lk1 : LK t T S pos j p (cpt R e (enc s n) (ui c 40 2 (nI (q + 1)))) m := by
      refine hl.of (fun k k1 k2 => ?_) rfl rfl rfl
      unfold cpt
      rw [ui_ne (by omega), ui_ne (by omega), ui_ne (by omega)]
    obtain ⟨c2, s1, s2, s3⟩ := lk1.step hj he' e9
    rw [s1, br_some] at r1
    refine ⟨c2, _, e', r1, r2, ⟨?_, ?_⟩, ?_, ?_, by omega, hj, fun l hl6 => ?_⟩
    · refine s2.of (fun _ _ _ => rfl) ?_ ?_ ?_
      · unfold ent
        simp only [ui_rd, Nat.reduceEqDiff, if_true, if_false]
      · unfold ent
        simp only [ui_rd, Nat.reduceEqDiff, if_true, if_false]
      · unfold ent
        rw [ui_ne (by omega), ui_ne (by omega), ui_ne (by omega), ui_ne (by omega)]
    · have k1 : KM R L e q c (ui m 500 30 (nI e')) := hk.cg rfl rfl rfl rfl (fun x h1 _ _ => by rw [ui_rd, if_pos rfl, if_neg h1]) (by rw [ui_ne (by omega)]) (by rw [ui_ne (by omega)])
      have k2 := (k1.cnt hq).put (s := s) (n := n) he
      exact k2.cg (s3.1 40 (by omega)) (s3.1 _ (by omega)) (s3.1 _ (by omega)) s3.2.2 (fun _ _ _ _ => rfl) rfl rfl
    · exact ((RF.u40 hR).tr RF.cpt (Nat.le_refl e)).tr (RF.cs s3) (Nat.le_refl e)
    · exact ((u3 _).tr (SF.u5 (by omega)) (Nat.le_refl e)).tr SF.ent (Nat.le_refl e)
    · rw [ent_rd.1, ent_rd.2]
      exact hsp l (by omega)
  by_cases qd : k = 21 ∨ k = 22
  · have hd := hdig.1.mp qd
    rw [if_pos hd] at hV
    rw [if_pos (Or.inr qd)] at hC
    rcases digits_v b2 z1 t5 k9 tk v9 with ⟨w, g⟩ | ⟨w, g⟩ | ⟨w, g⟩
    · exact absurd qd w
    · rw [if_pos w] at hC
      rw [g, bw_some, ui_ui] at hV
      have hf : FD (1 + 8 * pos j + 1) t T (flt (ui m 500 30 (nI e')) (pos j) 1) := fd_flt (p := e') (hl.2.2.2.1.ui (by omega) (by omega)) (by rw [ui_rd, if_pos rfl, if_pos rfl]) (by omega) (by omega) (by omega)
      obtain ⟨y, hy⟩ := cnt_f (x := nI (pos j)) hf.nz
      rw [hy, br_some, entry_f (fd_cnt hf).nz, br_some] at hV
      exact Or.inl ⟨_, _, hC, hV, bf 1 _ (fd_cnt hf) (((u3 _).tr sf_flt (Nat.le_refl e)).tr (SF.u5 (by omega)) (Nat.le_refl e))⟩
    · have hk22 : ¬ k = 22 := by omega
      rw [if_neg hk22] at hC
      rw [g, bw_some, ui_ui] at hV
      have c36 : (ui m 500 30 (nI e')).1 500 36 = nI q := by
        rw [ui_rd, if_pos rfl, if_neg (by omega)]
        exact d2
      have c31 : (ui m 500 30 (nI e')).1 500 31 = nI 0 := e31 e1 (by omega)
      by_cases hq : q < 60
      · rw [if_pos hq, if_neg (show ¬ k < 12 by omega)] at hC
        have hj : j < S := tn (by omega)
        obtain ⟨j1, j2, j3⟩ := tj hj
        have k1 : KM R L e q c (ui m 500 30 (nI e')) := hk.cg rfl rfl rfl rfl (fun x h1 _ _ => by rw [ui_rd, if_pos rfl, if_neg h1]) (by rw [ui_ne (by omega)]) (by rw [ui_ne (by omega)])
        rw [cnt_v c36 hq, br_some, entry_v (k1.cnt hq), br_some] at hV
        exact Or.inr (good (nI 0) (nI v) hq hj (by omega) j3 (fun l hl6 => Or.inl ⟨v, by omega, rfl, rfl, hl6, rfl⟩) (by rw [enc_0]; exact hC) hV)
      · rw [if_neg hq] at hC
        have hq60 : q = 60 := by omega
        rw [hq60] at c36
        rw [cnt_60 c36 c31, br_some] at hV
        have hf : FD (1 + 8 * pos j + 3) t T (flt (ui m 500 30 (nI e')) (pos j) 3) := fd_flt (p := e') (hl.2.2.2.1.ui (by omega) (by omega)) (by rw [ui_rd, if_pos rfl, if_pos rfl]) (by omega) (by omega) (by omega)
        rw [entry_f (fd_cnt hf).nz, br_some] at hV
        exact Or.inl ⟨_, _, hC, hV, bf 3 _ (fd_cnt hf) (((u3 _).tr sf_flt (Nat.le_refl e)).tr (SF.u5 (by omega)) (Nat.le_refl e))⟩
  · have hd : ¬ (pos j < T ∧ isD t (pos j) = true) := fun z => qd (hdig.1.mpr z)
    rw [if_neg hd] at hV
    have x38 : (ui m 500 30 (nI (pos j))).1 500 38 = nI 12 := by
      rw [ui_rd, if_pos rfl, if_neg (by omega)]
      exact e3
    have x36 : (ui m 500 30 (nI (pos j))).1 500 36 = nI q := by
      rw [ui_rd, if_pos rfl, if_neg (by omega)]
      exact d2
    by_cases qw : k < 12
    · rw [if_pos (Or.inl qw), if_neg (show ¬ k = 22 by omega), if_pos qw] at hC
      rw [show min k 12 = k by omega] at hV
      obtain ⟨l1, l2⟩ := len_v (wJ k) (words_t k (by omega)).2.2.2.1
      have w3 := (words_t k (by omega)).2.2.2.1
      obtain ⟨we1, we2⟩ := tk.wend (hb (pos j)) (show k < 21 by omega)
      unfold fX10_value_B62 at hV
      rw [x38, if_neg (by rw [eq_nI (by omega) (by omega)]; omega)] at hV
      by_cases hq : q < 60
      · rw [if_pos hq] at hC
        have hj : j < S := tn (by omega)
        obtain ⟨j1, j2, j3⟩ := tj hj
        have k1 : KM R L e q c (ui m 500 30 (nI e')) := hk.cg rfl rfl rfl rfl (fun x h1 _ _ => by rw [ui_rd, if_pos rfl, if_neg h1]) (by rw [ui_ne (by omega)]) (by rw [ui_ne (by omega)])
        have e30 : (ui (ui m 500 30 (nI (pos j))) 500 36 (nI (q + 1))).1 500 30 = nI (pos j) := by
          rw [ui_rd, if_pos rfl, if_neg (by omega)]
          exact p30
        rw [cnt_v x36 hq, br_some, rword k qw, br_some, decide_eq_true w3, gd_tt, l1, br_some, nm_eq, e30, nI_add, ← we1, ui_comm (Or.inr (by omega)), ui_ui] at hV
        have hen : fX10_entry 1 (nI k) (ui (ui m 500 30 (nI e')) 500 36 (nI (q + 1))) = some (ent R e (nI 1) (nI k) (ui (ui m 500 30 (nI e')) 500 36 (nI (q + 1)))) := entry_v (s := nI 1) (n := nI k) (k1.cnt hq)
        rw [hen, br_some] at hV
        exact Or.inr (good (nI 1) (nI k) hq hj (by omega) j3 (fun l hl6 => Or.inr (Or.inl ⟨k, qw, rfl, rfl, hl6, rfl⟩)) (by rw [enc_1]; exact hC) hV)
      · rw [if_neg hq] at hC
        have hq60 : q = 60 := by omega
        rw [hq60] at x36
        have hf : FD (1 + 8 * pos j + 3) t T (flt (ui m 500 30 (nI (pos j))) (pos j) 3) := fd_flt (p := pos j) (hl.2.2.2.1.ui (by omega) (by omega)) p30 (by omega) (by omega) (by omega)
        have e30 : (ui (flt (ui m 500 30 (nI (pos j))) (pos j) 3) 500 36 (nI 61)).1 500 30 = nI (pos j) := by
          unfold flt
          simp only [ui_rd, Nat.reduceEqDiff, if_true, if_false]
        have hf2 : FD (1 + 8 * pos j + 3) t T (ui (ui (flt (ui m 500 30 (nI (pos j))) (pos j) 3) 500 36 (nI 61)) 500 30 (nI e')) := by
          refine ⟨(fd_cnt hf).1.ui (by omega) (by omega), ⟨e', by omega, by rw [ui_rd, if_pos rfl, if_pos rfl]⟩, ?_, by omega, by omega⟩
          rw [ui_rd, if_pos rfl, if_neg (by omega)]
          exact (fd_cnt hf).2.2.1
        rw [cnt_60 x36 z1, br_some, rword k qw, br_some, decide_eq_true w3, gd_tt, l1, br_some, nm_eq, e30, nI_add, ← we1, entry_f hf2.nz, br_some] at hV
        exact Or.inl ⟨_, _, hC, hV, bf 3 _ hf2 ((((u3 _).tr sf_flt (Nat.le_refl e)).tr (SF.u5 (by omega)) (Nat.le_refl e)).tr (SF.u5 (by omega)) (Nat.le_refl e))⟩
    · rw [if_neg (by omega)] at hC
      rw [show min k 12 = 12 by omega] at hV
      unfold fX10_value_B62 at hV
      have hf : FD (1 + 8 * pos j + 0) t T (flt (ui m 500 30 (nI (pos j))) (pos j) 0) := fd_flt (p := pos j) (hl.2.2.2.1.ui (by omega) (by omega)) p30 (by omega) (by omega) (by omega)
      have hfa : fX10_fails 0 (nI (pos j)) (ui m 500 30 (nI (pos j))) = some (flt (ui m 500 30 (nI (pos j))) (pos j) 0) := fails_v (k := 0) z1
      rw [x38, if_pos rfl, hfa, br_some] at hV
      exact Or.inl ⟨_, _, hC, hV, bf 0 _ hf ((u3 _).tr sf_flt (Nat.le_refl e))⟩
