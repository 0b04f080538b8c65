/-! comparisons -/
theorem fd_p {F T p x : Nat} {t : Nat → Nat} {m : St} (h : FD F t T m) (hx : x ≤ 1000) : FD F t T (ui m 500 30 (nI x)) := by
  obtain ⟨h1, -, h3, h4⟩ := h
  refine ⟨h1.ui (by omega) (by omega), ⟨x, hx, by rw [ui_rd, if_pos rfl, if_pos rfl]⟩, ?_, h4⟩
  rw [ui_rd, if_pos rfl, if_neg (by omega)]
  exact h3
theorem word_f {F T p : Nat} {t : Nat → Nat} {y1 : Int32} {m : St} (h : FD F t T m) (hp : m.1 500 30 = nI p) (p9 : p ≤ 1000) (h38 : m.1 500 38 = nI 12) : ∀ (d w n : Nat), w + d = 12 → d < n → ∃ m1, fX10_value_L37 n y1 (nI w) m = some m1 ∧ FD F t T m1 ∧ ∀ R e, SF R e m m1 := by
  have hT := h.1.1
  intro d
  induction d with
  | zero =>
    intro w n hw hn
    obtain ⟨n, rfl⟩ : ∃ j, n = j + 1 := ⟨n - 1, by omega⟩
    refine ⟨m, ?_, h, fun R e => SF.rf⟩
    rw [fX10_value_L37, h38, if_pos (by rw [le_nI (by omega) (by omega)]; omega), show w = 12 by omega]
    unfold fX10_value_B62
    rw [h38, if_pos rfl, fails_2 h.nz, br_some]
  | succ d ih =>
    intro w n hw hn
    obtain ⟨n, rfl⟩ : ∃ j, n = j + 1 := ⟨n - 1, by omega⟩
    have w3 := (words_t w (by omega)).2.2.2.1
    have w4 := (words_t w (by omega)).2.2.2.2.1
    obtain ⟨x, x1, x2⟩ := stood_v h.1 hp (by omega) w3 w4
    obtain ⟨l1, l2⟩ := len_v (wJ w) w3
    rw [fX10_value_L37, h38, if_neg (by rw [le_nI (by omega) (by omega)]; omega), rword w (by omega), br_some, decide_eq_true w3, gd_tt, x1, br_some]
    rcases x2 with ⟨rfl, q⟩ | ⟨rfl, q⟩
    · rw [if_neg (by decide)]
      obtain ⟨y, hy⟩ := cnt_f (x := y1) h.nz
      have hwe : we t T p ≤ T := by
        by_cases z : p ≤ T
        · exact rE_le z
        · exfalso
          have e1 : we t T p = p := rE_st (by omega)
          have := q.1
          omega
      have hle : p ≤ we t T p := rE_ge
      have hq := q.1
      have e30 : (ui m 500 36 y).1 500 30 = nI p := by
        rw [ui_rd, if_pos rfl, if_neg (by omega)]
        exact hp
      have hf : FD F t T (ui (ui m 500 36 y) 500 30 (nI (p + slN (wJ w)))) := fd_p (p := p) (fd_cnt h) (by omega)
      refine ⟨ui (ui m 500 36 y) 500 30 (nI (p + slN (wJ w))), ?_, hf, fun R e => (SF.u5 (by omega)).tr (SF.u5 (e := e) (by omega)) (Nat.le_refl e)⟩
      unfold fX10_value_B62
      rw [h38, if_neg (by rw [eq_nI (by omega) (by omega)]; omega), hy, br_some, rword w (by omega), br_some, decide_eq_true w3, gd_tt, l1, br_some, nm_eq, e30, nI_add, entry_f hf.nz, br_some]
    · rw [if_pos (by decide), nm_eq]
      show ∃ m1, fX10_value_L37 n y1 (nI w + nI 1) m = some m1 ∧ _
      rw [nI_add]
      exact ih (w + 1) n (by omega) (by omega)
theorem value_f {F T : Nat} {t : Nat → Nat} {m : St} (h : FD F t T m) (h38 : m.1 500 38 = nI 12) : ∃ m1, fX10_value m = some m1 ∧ FD F t T m1 ∧ m1.1 500 38 = nI 12 ∧ ∀ R e, SF R e m m1 := by
  obtain ⟨m1, b1, b2, b3, b4⟩ := h.blk
  have g38 : m1.1 500 38 = nI 12 := by
    rw [b3.1 500 38 (by omega) (by omega)]
    exact h38
  have hsf : ∀ R e, SF R e m m1 := fun R e => SF.ofMD b3 b4
  obtain ⟨tm, ⟨p, p1, p2⟩, h3, h4, h5⟩ := b2
  have hT := tm.1
  have hF : FD F t T m1 := ⟨tm, ⟨p, p1, p2⟩, h3, h4, h5⟩
  unfold fX10_value
  rw [b1, br_some, nm_eq, isDigit_v tm p2 (by omega), br_some, p2]
  by_cases z : p < T ∧ isD t p = true
  · have hde : de t T p ≤ T := rE_le (by omega)
    have hdig : fX10_digits 99999 m1 = some (nI (nV t T p p 0), ui m1 500 30 (nI (de t T p))) := by
      have hf2 : FD F t T (ui m1 500 30 (nI (de t T p))) := fd_p (p := p) hF (by omega)
      unfold fX10_digits
      rw [isDigit_v tm p2 (by omega), br_some, if_pos z, if_neg (by decide), nm_eq, p2]
      have := digits_L (p1 := 99999) (T - p) p 10000 0 m1 rfl (by omega) (Nat.le_refl p) (by omega) (by rw [Nat.sub_self]; decide) tm p2
      rw [show (0 : Int32) = nI 0 from rfl, this]
      unfold fX10_digits_B87
      rw [fails_2 hf2.nz, br_some]
      split
      · rfl
      · split <;> rfl
    have hf2 : FD F t T (ui m1 500 30 (nI (de t T p))) := fd_p (p := p) hF (by omega)
    obtain ⟨y, hy⟩ := cnt_f (x := nI p) hf2.nz
    rw [if_pos z, if_neg (by decide), hdig, bw_some, hy, br_some, entry_f (fd_cnt hf2).nz, br_some]
    refine ⟨_, rfl, fd_cnt hf2, ?_, fun R e => ((hsf R e).tr (SF.u5 (e := e) (by omega)) (Nat.le_refl e)).tr (SF.u5 (e := e) (by omega)) (Nat.le_refl e)⟩
    rw [ui_rd, if_pos rfl, if_neg (by omega), ui_rd, if_pos rfl, if_neg (by omega)]
    exact g38
  · rw [if_neg z, if_pos (by decide)]
    obtain ⟨m2, c1, c2, c3⟩ := word_f (y1 := nI p) hF p2 p1 g38 12 0 10000 (by omega) (by omega)
    refine ⟨m2, c1, c2, ?_, fun R e => (hsf R e).tr (c3 R e) (Nat.le_refl e)⟩
    rw [(c3 0 0).1 500 38 (by omega) (by omega) (by omega)]
    exact g38
theorem sum_f {F T : Nat} {t : Nat → Nat} {m : St} (h : FD F t T m) (h38 : m.1 500 38 = nI 12) : ∃ m1, fX10_sum m = some m1 ∧ FD F t T m1 ∧ ∀ R e, SF R e m m1 := by
  obtain ⟨m1, a1, a2, a3, a4⟩ := value_f h h38
  obtain ⟨m2, b1, b2, b3, b4⟩ := a2.blk
  refine ⟨m2, ?_, b2, fun R e => (a4 R e).tr (SF.ofMD b3 b4) (Nat.le_refl e)⟩
  unfold fX10_sum fX10_term
  rw [a1, br_some, b1, br_some, show (10000 : Nat) = 9999 + 1 from rfl, T8_f b2.nz, br_some, S4_f b2.nz]
/-- behind the sign of a comparison -/
def rst (y1 : Int32) (s2 : St) : Option St := nm (ui s2 500 30 ((s2.1 500 30) + nI 1)) (fun s3 => if y1 = nI 61 then (fX10_compared_B74 y1 s3) else (br (fX10_sign s3) (fun x6 => if x6 = nI 61 then (fX10_compared_B75 y1 (nI 1) s3) else (fX10_compared_B74 y1 s3))))
theorem rst_v {T p : Nat} {t : Nat → Nat} {m : St} (h : TM t T m) (hp : m.1 500 30 = nI p) (hpT : p < T) (hs : t p = 60 ∨ t p = 61 ∨ t p = 62) : rst (nI (t p)) m = br (fX10_sum (ui m 500 30 (nI (if t p ≠ 61 ∧ p + 1 < T ∧ t (p + 1) = 61 then p + 2 else p + 1)))) (fun s3 => br (fX10_entry (nI (if t p = 61 then 6 else if t p = 60 then (if p + 1 < T ∧ t (p + 1) = 61 then 5 else 4) else (if p + 1 < T ∧ t (p + 1) = 61 then 7 else 8))) (nI 0) s3) (fun s => some s)) := by
  have hT := h.1
  have b1 := (h.2.2 p hpT).1
  have hs3 : fX10_sign (ui m 500 30 (nI (p + 1))) = some (if p + 1 < T then nI (t (p + 1)) else -nI 1) := sign_v (h.ui (by omega) (by omega)) (by rw [ui_rd, if_pos rfl, if_pos rfl]) (by omega)
  have e30 : (ui m 500 30 (nI (p + 1))).1 500 30 = nI (p + 1) := by rw [ui_rd, if_pos rfl, if_pos rfl]
  unfold rst fX10_compared_B74 fX10_compared_B75 fX10_compared_B90
  simp (disch := omega) only [lit_nI, hp, nI_add, nm_eq, hs3, br_some, e30, eq_nI, if_true, n10, if_false, ui_ui]
  have hz : ¬ (p + 1 < T ∧ t (p + 1) = 61) → ¬ (if p + 1 < T then nI (t (p + 1)) else -nI 1) = nI 61 := by
    intro z w
    by_cases y : p + 1 < T
    · have := (h.2.2 (p + 1) y).1
      rw [if_pos y, eq_nI (by omega) (by omega)] at w
      exact z ⟨y, w⟩
    · rw [if_neg y] at w
      have q2 := congrArg Int32.toInt w
      rw [nI_toInt (by omega), show (-nI 1).toInt = -1 by decide] at q2
      omega
  rcases hs with q | q | q
  · by_cases z : p + 1 < T ∧ t (p + 1) = 61
    · simp only [q, z.1, z.2, Nat.reduceEqDiff, if_true, if_false, ne_eq, not_false_eq_true, and_self, Nat.add_zero, n10, Nat.add_assoc, Nat.reduceAdd]
    · simp only [q, z, hz z, Nat.reduceEqDiff, if_true, if_false, and_false, Nat.add_zero]
  · simp only [q, Nat.reduceEqDiff, if_true, if_false, ne_eq, not_true, false_and, Nat.add_zero]
  · by_cases z : p + 1 < T ∧ t (p + 1) = 61
    · simp only [q, z.1, z.2, Nat.reduceEqDiff, if_true, if_false, ne_eq, not_false_eq_true, and_self, Nat.add_zero, n10, Nat.add_assoc, Nat.reduceAdd]
    · simp only [q, z, hz z, Nat.reduceEqDiff, if_true, if_false, and_false, Nat.add_zero]
/-- the class's reading of a comparison -/
def cmC (L : List Nat) (c : St) : Option (Int32 × St) := bw (fX5_readSum L c) (fun x6 s5 => if x6 = nI 0 then (some (nI 0, s5)) else (nm (s5.1 20 5) (fun x8 => bw (fX5_readSign s5) (fun x11 s10 => if x11 = nI 0 then (some (nI 0, s10)) else (bw (fX5_readSum L s10) (fun x15 s14 => if x15 = nI 0 then (some (nI 0, s14)) else (br (s14.2.2 40 1) (fun r17 => gd (okRb L r17) (br (fX4_put r17 (-x8) s14) (fun s21 => some (nI 1, s21)))))))))))
theorem sgn_c {k a q : Nat} {c : St} (h5 : c.1 20 5 = nI k) (h6 : c.1 20 6 = nI a) (h2 : c.1 40 2 = nI q) (k9 : k < 40) (q9 : q ≤ 60) : fX5_readSign c = if 33 ≤ k ∧ k ≤ 37 then (if q < 60 then br (fX7_step (ui c 40 2 (nI (q + 1)))) (fun s => some (nI 1, s)) else some (nI 0, ui c 40 3 (nI (1 + 8 * a + 3)))) else some (nI 0, ui c 40 3 (nI (1 + 8 * a + 0))) := by
  unfold fX5_readSign
  simp (disch := omega) only [lit_nI, h5, h2, eq_nI, lt_nI, rfail_w h6, nI_add, nm_eq]
  by_cases z : 33 ≤ k ∧ k ≤ 37
  · rw [if_pos z]
    rcases (show k = 33 ∨ k = 34 ∨ k = 35 ∨ k = 36 ∨ k = 37 by omega) with rfl | rfl | rfl | rfl | rfl <;> simp only [Nat.reduceEqDiff, if_true, if_false]
  · rw [if_neg z, if_neg (by omega), if_neg (by omega), if_neg (by omega), if_neg (by omega), if_neg (by omega)]
def cz (k : Nat) : Nat := if k = 33 then 4 else if k = 36 then 5 else if k = 34 then 6 else if k = 37 then 7 else 8
theorem cz_v : ∀ k, 33 ≤ k → k ≤ 37 → -nI k = enc (nI (cz k)) (nI 0) ∧ opC (nI (cz k)) := by
  intro k h1 h2
  rcases (show k = 33 ∨ k = 34 ∨ k = 35 ∨ k = 36 ∨ k = 37 by omega) with rfl | rfl | rfl | rfl | rfl
  · exact ⟨by decide, Or.inl rfl⟩
  · exact ⟨by decide, Or.inr (Or.inr (Or.inl rfl))⟩
  · exact ⟨by decide, Or.inr (Or.inr (Or.inr (Or.inr rfl)))⟩
  · exact ⟨by decide, Or.inr (Or.inl rfl)⟩
  · exact ⟨by decide, Or.inr (Or.inr (Or.inr (Or.inl rfl)))⟩
theorem cmp_e (m : St) : fX10_compared m = br (fX10_sum m) (fun s2 => br (fX10_sign s2) (fun x4 => if x4 = nI 60 ∨ x4 = nI 61 ∨ x4 = nI 62 then br (fX10_isCounted (s2.1 500 30) s2) (fun s3 => rst x4 s3) else br (fX10_fails (nI 0) (s2.1 500 30) s2) (fun s9 => some s9))) := by
  unfold fX10_compared fX10_compared_B37 rst
  simp only [lit_nI]
  cases fX10_sum m with
  | none => rfl
  | some s2 =>
    simp only [br_some]
    cases fX10_sign s2 with
    | none => rfl
    | some x =>
      simp only [br_some]
      by_cases q1 : x = nI 60
      · rw [if_pos q1, if_pos (Or.inl q1)]
      · rw [if_neg q1]
        by_cases q2 : x = nI 61
        · rw [if_pos q2, if_pos (Or.inr (Or.inl q2))]
        · rw [if_neg q2]
          by_cases q3 : x = nI 62
          · rw [if_pos q3, if_pos (Or.inr (Or.inr q3))]
          · rw [if_neg q3, if_neg (fun z => z.elim q1 (fun z => z.elim q2 q3))]
/-- behind a fault the reference's comparison ends -/
theorem rst_f {F T p : Nat} {t : Nat → Nat} {m : St} (h : FD F t T m) (h38 : m.1 500 38 = nI 12) (hp : m.1 500 30 = nI p) (hpT : p < T) (hs : t p = 60 ∨ t p = 61 ∨ t p = 62) : ∃ m1, rst (nI (t p)) m = some m1 ∧ FD F t T m1 ∧ ∀ R e, SF R e m m1 := by
  have hT := h.1.1
  rw [rst_v h.1 hp hpT hs]
  obtain ⟨x, ex, hx⟩ : ∃ x, (if t p ≠ 61 ∧ p + 1 < T ∧ t (p + 1) = 61 then p + 2 else p + 1) = x ∧ x ≤ 1000 := ⟨_, rfl, by split <;> omega⟩
  rw [ex]
  have hf := fd_p (p := p) h hx
  obtain ⟨m1, a1, a2, a3⟩ := sum_f hf (by rw [ui_rd, if_pos rfl, if_neg (by omega)]; exact h38)
  rw [a1, br_some, entry_f a2.nz, br_some]
  exact ⟨m1, rfl, a2, fun R e => (SF.u5 (by omega)).tr (a3 R e) (Nat.le_refl e)⟩
theorem cmp_f {F T : Nat} {t : Nat → Nat} {m : St} (h : FD F t T m) (h38 : m.1 500 38 = nI 12) : ∃ m1, br (fX10_sign m) (fun x4 => if x4 = nI 60 ∨ x4 = nI 61 ∨ x4 = nI 62 then br (fX10_isCounted (m.1 500 30) m) (fun s3 => rst x4 s3) else br (fX10_fails (nI 0) (m.1 500 30) m) (fun s9 => some s9)) = some m1 ∧ FD F t T m1 ∧ ∀ R e, SF R e m m1 := by
  obtain ⟨tm, ⟨p, p1, p2⟩, h3, h4, h5⟩ := h
  have hF : FD F t T m := ⟨tm, ⟨p, p1, p2⟩, h3, h4, h5⟩
  rw [sign_v tm p2 (by omega), br_some]
  by_cases z : p < T ∧ (t p = 60 ∨ t p = 61 ∨ t p = 62)
  · have hb := (tm.2.2 p z.1).1
    rw [if_pos z.1, if_pos (by rw [eq_nI (by omega) (by omega), eq_nI (by omega) (by omega), eq_nI (by omega) (by omega)]; exact z.2)]
    obtain ⟨y, hy⟩ := cnt_f (x := m.1 500 30) hF.nz
    rw [hy, br_some]
    obtain ⟨m1, a1, a2, a3⟩ := rst_f (p := p) (fd_cnt (y := y) hF) (by rw [ui_rd, if_pos rfl, if_neg (by omega)]; exact h38) (by rw [ui_rd, if_pos rfl, if_neg (by omega)]; exact p2) z.1 z.2
    exact ⟨m1, a1, a2, fun R e => (SF.u5 (by omega)).tr (a3 R e) (Nat.le_refl e)⟩
  · rw [if_neg (by
      by_cases y : p < T
      · have hb := (tm.2.2 p y).1
        rw [if_pos y, eq_nI (by omega) (by omega), eq_nI (by omega) (by omega), eq_nI (by omega) (by omega)]
        exact fun w => z ⟨y, w⟩
      · rw [if_neg y]
        decide), fails_2 hF.nz, br_some]
    exact ⟨m, rfl, hF, fun R e => SF.rf⟩
