/-! sums -/
def Sgm (m : St) (R e e1 : Nat) (l l' : List Bool) : Prop := e ≤ e1 ∧ Seg (fun j => m.1 541 (300 * R + j)) (fun j => m.1 542 (300 * R + j)) (e1 - e) e l l'
theorem Sgm.one {m : St} {R e : Nat} {l l' : List Bool} (h : Sp1 (m.1 541 (300 * R + e)) (m.1 542 (300 * R + e)) l l') : Sgm m R e (e + 1) l l' := by
  refine ⟨by omega, ?_⟩
  rw [show e + 1 - e = 1 by omega]
  exact ⟨l', h, rfl⟩
theorem Sgm.rf {m : St} {R e : Nat} {l : List Bool} : Sgm m R e e l l := by
  refine ⟨by omega, ?_⟩
  rw [show e - e = 0 by omega]
  rfl
theorem Sgm.tr {m : St} {R e e1 e2 : Nat} {l l1 l2 : List Bool} (h1 : Sgm m R e e1 l l1) (h2 : Sgm m R e1 e2 l1 l2) : Sgm m R e e2 l l2 := by
  obtain ⟨a1, a2⟩ := h1
  obtain ⟨b1, b2⟩ := h2
  refine ⟨by omega, ?_⟩
  rw [show e2 - e = (e1 - e) + (e2 - e1) by omega]
  exact a2.app (by rw [show e + (e1 - e) = e1 by omega]; exact b2)
theorem Sgm.fr {m m1 : St} {R e e1 : Nat} {l l' : List Bool} (h : Sgm m R e e1 l l') (hs : ∀ i, i < 300 * R + e1 → m1.1 541 i = m.1 541 i ∧ m1.1 542 i = m.1 542 i) : Sgm m1 R e e1 l l' := ⟨h.1, h.2.congr (fun j h1 h2 => hs _ (by have := h.1; omega))⟩
def wI (w : Nat) : Int32 := if w = 0 then -nI 1 else if w = 2 then nI 26 else nI 27
def ew (w : Nat) : Nat := if w = 0 then 0 else 1
def wl (w : Nat) (l : List Bool) : List Bool := if w = 0 then true :: l else true :: true :: l
def wr (w : Nat) (l : List Bool) : List Bool := if w = 0 then l else true :: l
theorem wl_wr {w : Nat} {l : List Bool} : wl w l = true :: wr w l := by
  unfold wl wr
  split <;> rfl
theorem wl_len {w : Nat} {l : List Bool} : (wl w l).length = l.length + 1 + ew w := by
  unfold wl ew
  split <;> simp only [List.length_cons] <;> omega
def cwt (R e w : Nat) (c : St) : St := if w = 0 then c else cpt R e (enc (nI w) (nI 0)) c
def mwt (R e w : Nat) (m : St) : St := if w = 0 then m else ent R e (nI w) (nI 0) m
theorem wI_enc : -(wI 2) = enc (nI 2) (nI 0) ∧ -(wI 3) = enc (nI 3) (nI 0) := by decide
theorem n26 : (nI 26 = -nI 1) = False := by decide
theorem n27 : (nI 27 = -nI 1) = False := by decide
theorem KM.pw {R e q w : Nat} {L : List Nat} {c m : St} (h : KM R L e q c m) (he : e < 290) : KM R L (e + ew w) q (cwt R e w c) (mwt R e w m) := by
  unfold ew cwt mwt
  by_cases z : w = 0
  · rw [if_pos z, if_pos z, if_pos z]
    exact h
  · rw [if_neg z, if_neg z, if_neg z]
    exact h.put he
theorem rf_cwt {R e w : Nat} {c : St} : RF R e c (cwt R e w c) := by
  unfold cwt
  by_cases z : w = 0
  · rw [if_pos z]
    exact RF.rf
  · rw [if_neg z]
    exact RF.cpt
theorem sf_mwt {R e w : Nat} {m : St} : SF R e m (mwt R e w m) := by
  unfold mwt
  by_cases z : w = 0
  · rw [if_pos z]
    exact SF.rf
  · rw [if_neg z]
    exact SF.ent
theorem mw_sg {R e w : Nat} {m : St} {l : List Bool} (hw : w = 0 ∨ w = 2 ∨ w = 3) : Sgm (mwt R e w m) R e (e + ew w) (wl w l) (true :: l) := by
  rcases hw with rfl | rfl | rfl
  · exact Sgm.rf
  · refine Sgm.one (m := ent R e (nI 2) (nI 0) m) ?_
    rw [ent_rd.1, ent_rd.2]
    exact Or.inr (Or.inr (Or.inr (Or.inl ⟨l, Or.inl rfl, rfl, rfl⟩)))
  · refine Sgm.one (m := ent R e (nI 3) (nI 0) m) ?_
    rw [ent_rd.1, ent_rd.2]
    exact Or.inr (Or.inr (Or.inr (Or.inl ⟨l, Or.inr (Or.inl rfl), rfl, rfl⟩)))
/-- what the class's reading leaves of the tokens, and the reference's entry of the place -/
theorem LK.pt {R e T S j p : Nat} {t : Nat → Nat} {pos : Nat → Nat} {c m : St} {z s n : Int32} (h : LK t T S pos j p c m) : LK t T S pos j p (cpt R e z c) (ent R e s n m) := by
  refine h.of (fun k k1 k2 => ?_) ?_ ?_ ?_
  · unfold cpt
    rw [ui_ne (by omega), ui_ne (by omega)]
  · unfold ent
    simp only [ui_rd, Nat.reduceEqDiff, if_true, if_false]
  · unfold ent
    simp only [ui_rd, Nat.reduceEqDiff, if_true, if_false]
  · unfold ent
    rw [ui_ne (by omega), ui_ne (by omega), ui_ne (by omega)]
theorem LK.pw {R e w T S j p : Nat} {t : Nat → Nat} {pos : Nat → Nat} {c m : St} (h : LK t T S pos j p c m) : LK t T S pos j p (cwt R e w c) (mwt R e w m) := by
  unfold cwt mwt
  by_cases z : w = 0
  · rw [if_pos z, if_pos z]
    exact h
  · rw [if_neg z, if_neg z]
    exact h.pt
theorem L13_t {R e q i k n : Nat} {L : List Nat} {y1 : Int32} {c : St} (h5 : c.1 20 5 = nI k) (hk : k = 28 ∨ k = 29 ∨ k = 30) (hi : i < 400) : fX5_readSum_L13 L (n + 1) y1 (nI i) c = br (fX7_step c) (fun s2 => bw (fX5_readValue L s2) (fun x5 s4 => if x5 = nI 0 then some (nI 0, s4) else br (s4.2.2 40 1) (fun r8 => gd (okRb L r8) (br (fX4_put r8 (-nI k) s4) (fun s12 => fX5_readSum_L13 L n y1 (nI (i + 1)) s12))))) := by
  rw [fX5_readSum_L13]
  generalize fX5_readSum_L13 L n = K
  unfold fX5_readSum_B46 fX5_readSum_B51 fX5_readSum_B72 fX5_readSum_B91
  rcases hk with rfl | rfl | rfl <;> simp (disch := omega) only [lit_nI, h5, le_nI, ↓nm_eq, nI_add, if_true, n10, if_false] <;> rw [if_neg (by omega)] <;> simp (disch := omega) only [eq_nI, Nat.reduceEqDiff, if_false]
theorem L13_p {R e q i k w n : Nat} {L : List Nat} {c m : St} (hK : KM R L e q c m) (h5 : c.1 20 5 = nI k) (hk : k = 26 ∨ k = 27) (hi : i < 400) (hw : w = 0 ∨ w = 2 ∨ w = 3) : fX5_readSum_L13 L (n + 1) (wI w) (nI i) c = br (fX7_step (cwt R e w c)) (fun s2 => bw (fX5_readValue L s2) (fun x5 s4 => if x5 = nI 0 then some (nI 0, s4) else fX5_readSum_L13 L n (nI k) (nI (i + 1)) s4)) := by
  obtain ⟨a1, a2, a3⟩ := hK.1
  obtain ⟨w1, w2⟩ := wI_enc
  have hp := fun z => cput_v (z := z) hK
  rw [fX5_readSum_L13]
  generalize fX5_readSum_L13 L n = K
  unfold fX5_readSum_B46 fX5_readSum_B51 fX5_readSum_B72 fX5_readSum_B91 cwt
  rcases hw with rfl | rfl | rfl
  · rcases hk with rfl | rfl <;> simp (disch := omega) only [lit_nI, h5, le_nI, ↓nm_eq, nI_add, if_true, eq_nI, Nat.reduceEqDiff, if_false, wI, n10] <;> rw [if_neg (by omega)]
  · rcases hk with rfl | rfl <;> simp (disch := omega) only [lit_nI, h5, le_nI, ↓nm_eq, nI_add, if_true, eq_nI, Nat.reduceEqDiff, if_false, a1, a2, br_some, gd_tt, hp] <;> rw [if_neg (by omega), if_neg (show ¬ wI 2 = -nI 1 by decide), w1]
  · rcases hk with rfl | rfl <;> simp (disch := omega) only [lit_nI, h5, le_nI, ↓nm_eq, nI_add, if_true, eq_nI, Nat.reduceEqDiff, if_false, a1, a2, br_some, gd_tt, hp] <;> rw [if_neg (by omega), if_neg (show ¬ wI 3 = -nI 1 by decide), w2]
theorem L13_e {R e q i k w n : Nat} {L : List Nat} {c m : St} (hK : KM R L e q c m) (h5 : c.1 20 5 = nI k) (k9 : k < 40) (hk : ¬ (26 ≤ k ∧ k ≤ 30)) (hi : i < 400) (hw : w = 0 ∨ w = 2 ∨ w = 3) : fX5_readSum_L13 L (n + 1) (wI w) (nI i) c = some (nI 1, cwt R e w c) := by
  obtain ⟨a1, a2, a3⟩ := hK.1
  obtain ⟨w1, w2⟩ := wI_enc
  have hp := fun z => cput_v (z := z) hK
  rw [fX5_readSum_L13]
  generalize fX5_readSum_L13 L n = K
  rw [h5]
  simp (disch := omega) only [lit_nI, le_nI, ↓nm_eq, eq_nI]
  rw [if_neg (by omega), if_neg (by omega), if_neg (by omega), if_neg (by omega)]
  have h72 : ∀ s, fX5_readSum_B72 L K (wI w) (nI i) (nI k) (nI 0) s = some (nI 1, s) := by
    intro s
    unfold fX5_readSum_B72
    simp (disch := omega) only [lit_nI, if_true, eq_nI]
    rw [if_neg (by omega), if_neg (by omega)]
  unfold fX5_readSum_B51 cwt
  simp only [lit_nI, if_true, a1, a2, br_some, gd_tt, hp, h72]
  rcases hw with rfl | rfl | rfl
  · rw [if_pos (show wI 0 = -nI 1 from rfl), if_pos rfl]
  · rw [if_neg (show ¬ wI 2 = -nI 1 by decide), w1, if_neg (by omega)]
  · rw [if_neg (show ¬ wI 3 = -nI 1 by decide), w2, if_neg (by omega)]
theorem T8_t {T S j k e v n : Nat} {t : Nat → Nat} {pos : Nat → Nat} {c m : St} (h : LK t T S pos j (pos j) c m) (h0 : m.1 500 31 = nI 0) (tk : Tok t T (pos j) k e v) (hk : k = 28 ∨ k = 29 ∨ k = 30) : fX10_term_L8 (n + 1) m = fX10_term_B72 (fX10_term_L8 n) (nI (k - 15)) m := by
  have sg := tk.sign (h.byte (pos j))
  have s1 := sign_k h
  rw [fX10_term_L8]
  generalize fX10_term_L8 n = K
  unfold fX10_term_B42
  simp only [lit_nI, h0, if_true, s1, br_some]
  rcases hk with rfl | rfl | rfl
  · rw [if_pos (sg.2.2.2.1.mpr rfl), if_pos (sg.2.2.2.1.mpr rfl)]
  · rw [if_neg (fun q => by have := sg.2.2.2.1.mp q; omega), if_pos (sg.2.2.2.2.1.mpr rfl), if_neg (fun q => by have := sg.2.2.2.1.mp q; omega)]
    rw [if_pos (sg.2.2.2.2.1.mpr rfl)]
  · rw [if_neg (fun q => by have := sg.2.2.2.1.mp q; omega), if_neg (fun q => by have := sg.2.2.2.2.1.mp q; omega), if_pos (sg.2.2.2.2.2.1.mpr rfl), if_neg (fun q => by have := sg.2.2.2.1.mp q; omega)]
    rw [if_neg (fun q => by have := sg.2.2.2.2.1.mp q; omega)]
theorem T8_e {T S j k e v n : Nat} {t : Nat → Nat} {pos : Nat → Nat} {c m : St} (h : LK t T S pos j (pos j) c m) (h0 : m.1 500 31 = nI 0) (tk : Tok t T (pos j) k e v) (hk : ¬ (28 ≤ k ∧ k ≤ 30)) : fX10_term_L8 (n + 1) m = some m := by
  have sg := tk.sign (h.byte (pos j))
  have s1 := sign_k h
  rw [fX10_term_L8]
  simp only [lit_nI, h0, if_true, s1, br_some]
  rw [if_neg (fun q => by have := sg.2.2.2.1.mp q; omega), if_neg (fun q => by have := sg.2.2.2.2.1.mp q; omega), if_neg (fun q => by have := sg.2.2.2.2.2.1.mp q; omega)]
theorem S4_p {T S j k e v n : Nat} {t : Nat → Nat} {pos : Nat → Nat} {c m : St} (h : LK t T S pos j (pos j) c m) (h0 : m.1 500 31 = nI 0) (tk : Tok t T (pos j) k e v) (hk : k = 26 ∨ k = 27) : fX10_sum_L4 (n + 1) m = fX10_sum_B43 (fX10_sum_L4 n) (nI (k - 24)) m := by
  have sg := tk.sign (h.byte (pos j))
  have s1 := sign_k h
  rw [fX10_sum_L4]
  generalize fX10_sum_L4 n = K
  unfold fX10_sum_B29
  simp only [lit_nI, h0, if_true, s1, br_some]
  rcases hk with rfl | rfl
  · rw [if_pos (sg.2.1.mpr rfl), if_pos (sg.2.1.mpr rfl)]
  · rw [if_neg (fun q => by have := sg.2.1.mp q; omega), if_pos (sg.2.2.1.mpr rfl), if_neg (fun q => by have := sg.2.1.mp q; omega)]
theorem S4_e {T S j k e v n : Nat} {t : Nat → Nat} {pos : Nat → Nat} {c m : St} (h : LK t T S pos j (pos j) c m) (h0 : m.1 500 31 = nI 0) (tk : Tok t T (pos j) k e v) (hk : ¬ (26 ≤ k ∧ k ≤ 27)) : fX10_sum_L4 (n + 1) m = some m := by
  have sg := tk.sign (h.byte (pos j))
  have s1 := sign_k h
  rw [fX10_sum_L4]
  simp only [lit_nI, h0, if_true, s1, br_some]
  rw [if_neg (fun q => by have := sg.2.1.mp q; omega), if_neg (fun q => by have := sg.2.2.1.mp q; omega)]
theorem T8_f {n : Nat} {m : St} (h : ¬ m.1 500 31 = nI 0) : fX10_term_L8 (n + 1) m = some m := by
  rw [fX10_term_L8]
  simp only [lit_nI]
  rw [if_neg h]
theorem S4_f {n : Nat} {m : St} (h : ¬ m.1 500 31 = nI 0) : fX10_sum_L4 (n + 1) m = some m := by
  rw [fX10_sum_L4]
  simp only [lit_nI]
  rw [if_neg h]
/-- what the reference does behind a term -/
def ctw (w n : Nat) (s : St) : Option St := if w = 0 then fX10_sum_L4 n s else br (fX10_entry (nI w) (nI 0) s) (fun s5 => fX10_sum_L4 n s5)
theorem ctw_ok {R e q w n : Nat} {L : List Nat} {c m : St} (h : KM R L e q c m) : ctw w n m = fX10_sum_L4 n (mwt R e w m) := by
  unfold ctw mwt
  by_cases z : w = 0
  · rw [if_pos z, if_pos z]
  · rw [if_neg z, if_neg z, entry_v h, br_some]
theorem ctw_f {w n : Nat} {m : St} (h : ¬ m.1 500 31 = nI 0) : ctw w (n + 1) m = some m := by
  unfold ctw
  by_cases z : w = 0
  · rw [if_pos z, S4_f h]
  · rw [if_neg z, entry_f h, br_some, S4_f h]
theorem opk : ∀ k, k = 28 ∨ k = 29 ∨ k = 30 → -nI k = enc (nI (k - 15)) (nI 0) ∧ opA (nI (k - 15)) := by
  intro k hk
  rcases hk with rfl | rfl | rfl
  · exact ⟨by decide, Or.inr (Or.inr (Or.inl rfl))⟩
  · exact ⟨by decide, Or.inr (Or.inr (Or.inr (Or.inl rfl)))⟩
  · exact ⟨by decide, Or.inr (Or.inr (Or.inr (Or.inr rfl)))⟩
