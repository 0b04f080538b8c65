/-! one step of the reference's test -/
def qrest (K : Int32 → Int32 → St → Option St) (x9 x11 : Int32) (s13 : St) : Option St := if x9 = nI 0 then (if x11 = nI 0 then (br (fX10_answers (nI 11) s13) (fun s17 => br (fX10_top s17) (fun x19 => if x19 = nI 12 then (br (fX10_sign s17) (fun x22 => if x22 = nI 93 then (fX10_test_B164 K (nI 0) (nI 1) s17) else (br (fX10_fails (nI 0) (s17.1 500 30) s17) (fun s25 => fX10_test_B164 K (nI 0) (nI 1) s25)))) else (K (nI 0) (nI 0) s17)))) else (fX10_test_B82 K (nI 1) x9 x11 s13)) else (fX10_test_B82 K (nI 1) x9 x11 s13)
theorem L9_0 {n : Nat} {m : St} (h : m.1 500 31 = nI 0) : fX10_test_L9 (n + 1) (nI 0) (nI 1) m = br (fX10_answers (nI 9) m) (fun s5 => br (fX10_blanks s5) (fun s7 => br (fX10_stood 15 s7) (fun x9 => br (fX10_stood 16 s7) (fun x11 => br (fX10_answers (nI 10) s7) (fun s13 => qrest (fX10_test_L9 n) x9 x11 s13))))) := by
  rw [fX10_test_L9]
  unfold qrest
  simp only [lit_nI, n10, if_false, if_true, h]
theorem L9_1 {n : Nat} {m : St} (h : m.1 500 31 = nI 0) : fX10_test_L9 (n + 1) (nI 1) (nI 1) m = bw (fX10_fact m) (fun x6 s5 => if x6 = nI 0 then (fX10_test_L9 n (nI 1) (nI 1) s5) else (fX10_test_L9 n (nI 0) (nI 1) s5)) := by
  rw [fX10_test_L9]
  simp only [lit_nI, n10, if_false, if_true, h]
theorem L9_f {n : Nat} {y : Int32} {m : St} (h : ¬ m.1 500 31 = nI 0) : fX10_test_L9 (n + 1) y (nI 1) m = some m := by
  rw [fX10_test_L9]
  simp only [lit_nI, n10, if_false]
  rw [if_neg h]
theorem L9_e {n : Nat} {y : Int32} {m : St} : fX10_test_L9 (n + 1) y (nI 0) m = some m := by
  rw [fX10_test_L9]
  simp only [lit_nI, if_true]
theorem answ_no {k o : Nat} {m : St} (h : m.1 500 37 = nI o) (ho : o ≤ 400) (ht : ¬ tp m o = nI k) : fX10_answers (nI k) m = some m := ans_no (n := 9999) h ho ht
theorem answ_go {R e q k o d : Nat} {L : List Nat} {c m : St} (hK : KM R L e q c m) (h : m.1 500 37 = nI (o + 1)) (ho : o + 1 ≤ 400) (h35 : m.1 500 35 = nI d) (hd : d ≤ 10) (hkd : k = 9 → 1 ≤ d) (k9 : k < 100) (ht : tp m (o + 1) = nI k) : fX10_answers (nI k) m = fX10_answers (nI k) (pp R e k (o + 1) d m) := by
  have p1 := (pp_37 (R := R) (e := e) (k := k) (o := o + 1) (d := d) (m := m)).1
  rw [Nat.add_sub_cancel] at p1
  unfold fX10_answers
  rw [show fX10_answers_L0 (nI k) 10000 m = fX10_answers_L0 (nI k) 9999 (pp R e k (o + 1) d m) from ans_go (n := 9999) hK h ho h35 hd hkd k9 (by omega) ht]
  exact ans_fuel k9 o 9999 10000 _ p1 (by omega) (by omega) (by omega)
theorem tp_5 {m : St} {i o : Nat} {v : Int32} : tp (ui m 500 i v) o = tp m o := by
  unfold tp
  rw [ui_ne (by omega)]
theorem tp_pp {R e k o d o' : Nat} {m : St} : tp (pp R e k o d m) o' = tp m o' := by
  unfold tp
  rw [pp_37.2.2.2.2.2.2]
theorem head_v {T S j p o k e' v n : Nat} {t : Nat → Nat} {pos : Nat → Nat} {c m : St} (h : LK t T S pos j p c m) (tk : Tok t T (pos j) k e' v) (h0 : m.1 500 31 = nI 0) (h37 : m.1 500 37 = nI o) (ho : o ≤ 400) (t9 : ¬ tp m o = nI 9) (t10 : ¬ tp m o = nI 10) : fX10_test_L9 (n + 1) (nI 0) (nI 1) m = qrest (fX10_test_L9 n) (if k = 19 then nI 1 else nI 0) (if k = 18 then nI 1 else nI 0) (ui m 500 30 (nI (pos j))) := by
  obtain ⟨b1, b2⟩ := h.blank
  have s15 : fX10_stood 15 (ui m 500 30 (nI (pos j))) = some (if k = 19 then nI 1 else nI 0) := stood_k (w := 19) b2 tk (by omega)
  have s16 : fX10_stood 16 (ui m 500 30 (nI (pos j))) = some (if k = 18 then nI 1 else nI 0) := stood_k (w := 18) b2 tk (by omega)
  have g37 : (ui m 500 30 (nI (pos j))).1 500 37 = nI o := by
    rw [ui_rd, if_pos rfl, if_neg (by omega)]
    exact h37
  rw [L9_0 h0, answ_no h37 ho t9, br_some, b1, br_some, s15, br_some, s16, br_some, answ_no g37 ho (by rw [tp_5]; exact t10), br_some]
theorem QS.o4 {R j p e q o d T S : Nat} {L : List Nat} {t : Nat → Nat} {pos : Nat → Nat} {c m : St} (h : QS R L t T S pos j p e q o d c m) : o ≤ 400 := by
  have := h.1.1.pos
  have := h.2.2.1
  omega
theorem K9 {R j p e q o d n T S : Nat} {L : List Nat} {t : Nat → Nat} {pos : Nat → Nat} {c m : St} (h : QS R L t T S pos j p e q (o + 1) d c m) (ht : tp m (o + 1) = nI 9) (hd1 : 1 ≤ d) : fX10_test_L9 (n + 1) (nI 0) (nI 1) m = fX10_test_L9 (n + 1) (nI 0) (nI 1) (pp R e 9 (o + 1) d m) := by
  have ho := h.o4
  obtain ⟨⟨h1, h2⟩, h3, h4, h5, h6⟩ := h
  have z := h2.2.2.2.1.1
  rw [L9_0 z, L9_0 (by rw [pp_37.2.2.1]; exact z), answ_go h2 h3 ho h5 h6 (fun _ => hd1) (by omega) ht]
theorem lk_pp {R e k o d T S j p : Nat} {t : Nat → Nat} {pos : Nat → Nat} {c m : St} (h : LK t T S pos j p c m) : LK t T S pos j p c (pp R e k o d m) := h.of (fun _ _ _ => rfl) pp_37.2.2.2.2.1 pp_37.2.2.2.1 pp_37.2.2.2.2.2.1
theorem km_30 {R e q : Nat} {L : List Nat} {c m : St} {v : Int32} (h : KM R L e q c m) : KM R L e q c (ui m 500 30 v) := h.cg rfl rfl rfl rfl (fun x h1 _ _ => by rw [ui_rd, if_pos rfl, if_neg h1]) (by rw [ui_ne (by omega)]) (by rw [ui_ne (by omega)])
theorem K10 {R j p e q o d n T S : Nat} {L : List Nat} {t : Nat → Nat} {pos : Nat → Nat} {c m : St} (h : QS R L t T S pos j p e q (o + 1) d c m) (ht : tp m (o + 1) = nI 10) (t9 : ¬ tp m o = nI 9) (t10 : ¬ tp m o = nI 10) : fX10_test_L9 (n + 1) (nI 0) (nI 1) m = fX10_test_L9 (n + 1) (nI 0) (nI 1) (pp R e 10 (o + 1) d m) := by
  have ho := h.o4
  obtain ⟨⟨h1, h2⟩, h3, h4, h5, h6⟩ := h
  have z := h2.2.2.2.1.1
  obtain ⟨k, e', v, k9, v9, t5, t6, t7, tk, -⟩ := h1.tok
  obtain ⟨b1, b2⟩ := h1.blank
  have s15 : fX10_stood 15 (ui m 500 30 (nI (pos j))) = some (if k = 19 then nI 1 else nI 0) := stood_k (w := 19) b2 tk (by omega)
  have s16 : fX10_stood 16 (ui m 500 30 (nI (pos j))) = some (if k = 18 then nI 1 else nI 0) := stood_k (w := 18) b2 tk (by omega)
  have p1 := (pp_37 (R := R) (e := e) (k := 10) (o := o + 1) (d := d) (m := m)).1
  rw [Nat.add_sub_cancel] at p1
  have p1' := (pp_37 (R := R) (e := e) (k := 10) (o := o + 1) (d := d) (m := ui m 500 30 (nI (pos j)))).1
  rw [Nat.add_sub_cancel] at p1'
  rw [head_v (lk_pp h1) tk (by rw [pp_37.2.2.1]; exact z) p1 (by omega) (by rw [tp_pp]; exact t9) (by rw [tp_pp]; exact t10), L9_0 z, answ_no h3 ho (by rw [ht]; decide), br_some, b1, br_some, s15, br_some, s16, br_some, answ_go (o := o) (d := d) (km_30 (v := nI (pos j)) h2) (by rw [ui_rd, if_pos rfl, if_neg (by omega)]; exact h3) ho (by rw [ui_rd, if_pos rfl, if_neg (by omega)]; exact h5) h6 (fun q => by omega) (by omega) (by rw [tp_5]; exact ht), answ_no p1' (by omega) (by rw [tp_pp, tp_5]; exact t10), br_some, pp_30]
theorem K11 {R j p e q o d n k e' v T S : Nat} {L : List Nat} {t : Nat → Nat} {pos : Nat → Nat} {c m : St} (h : QS R L t T S pos j p e q (o + 1) d c m) (tk : Tok t T (pos j) k e' v) (hk : k ≠ 19) (ht : tp m (o + 1) = nI 11) (t9 : ¬ tp m o = nI 9) (t10 : ¬ tp m o = nI 10) (t11 : ¬ tp m o = nI 11) : fX10_test_L9 (n + 1) (nI 0) (nI 1) m = fX10_test_L9 (n + 1) (nI 0) (nI 1) (pp R e 11 (o + 1) d m) := by
  have ho := h.o4
  obtain ⟨⟨h1, h2⟩, h3, h4, h5, h6⟩ := h
  have z := h2.2.2.2.1.1
  have p1 := (pp_37 (R := R) (e := e) (k := 11) (o := o + 1) (d := d) (m := m)).1
  rw [Nat.add_sub_cancel] at p1
  have p1' := (pp_37 (R := R) (e := e) (k := 11) (o := o + 1) (d := d) (m := ui m 500 30 (nI (pos j)))).1
  rw [Nat.add_sub_cancel] at p1'
  have A : fX10_answers (nI 11) (ui m 500 30 (nI (pos j))) = some (ui (pp R e 11 (o + 1) d m) 500 30 (nI (pos j))) := by
    rw [answ_go (o := o) (d := d) (km_30 (v := nI (pos j)) h2) (by rw [ui_rd, if_pos rfl, if_neg (by omega)]; exact h3) ho (by rw [ui_rd, if_pos rfl, if_neg (by omega)]; exact h5) h6 (fun q => by omega) (by omega) (by rw [tp_5]; exact ht), answ_no p1' (by omega) (by rw [tp_pp, tp_5]; exact t11), pp_30]
  have B : fX10_answers (nI 11) (ui (pp R e 11 (o + 1) d m) 500 30 (nI (pos j))) = some (ui (pp R e 11 (o + 1) d m) 500 30 (nI (pos j))) := answ_no (o := o) (by rw [ui_rd, if_pos rfl, if_neg (by omega)]; exact p1) (by omega) (by rw [tp_5, tp_pp]; exact t11)
  rw [head_v (lk_pp h1) tk (by rw [pp_37.2.2.1]; exact z) p1 (by omega) (by rw [tp_pp]; exact t9) (by rw [tp_pp]; exact t10), head_v h1 tk z h3 ho (by rw [ht]; decide) (by rw [ht]; decide), if_neg hk]
  unfold qrest fX10_test_B82
  simp only [lit_nI, if_true, A, B, br_some]
  by_cases w : k = 18
  · rw [if_pos w]
    simp only [n10, if_false]
  · rw [if_neg w]
    simp only [if_true]
/-- one is opened -/
def psh (k o x : Nat) (m : St) : St := ui (ui (ui m 547 o (nI k)) 500 37 (nI (o + 1))) 500 30 (nI x)
theorem B40_v {k o : Nat} {m : St} (h37 : m.1 500 37 = nI o) (ho : o ≤ 400) : fX10_opens_B40 (nI k) m = some (ui (ui m 547 o (nI k)) 500 37 (nI (o + 1))) := by
  unfold fX10_opens_B40
  simp (disch := omega) only [lit_nI, h37, gd_ix, cl_nI, ↓nm_eq, ui_rd, Nat.reduceEqDiff, if_false, nI_add]
theorem and_v {T S j p o k e' v n : Nat} {t : Nat → Nat} {pos : Nat → Nat} {c m : St} (h : LK t T S pos j p c m) (tk : Tok t T (pos j) k e' v) (h0 : m.1 500 31 = nI 0) (h37 : m.1 500 37 = nI o) (ho : o ≤ 400) (t9 : ¬ tp m o = nI 9) (t10 : ¬ tp m o = nI 10) (hk : k = 19) : fX10_test_L9 (n + 1) (nI 0) (nI 1) m = fX10_test_L9 n (nI 1) (nI 1) (psh 10 o (pos j + 3) (ui m 500 30 (nI (pos j)))) := by
  have g37 : (ui m 500 30 (nI (pos j))).1 500 37 = nI o := by
    rw [ui_rd, if_pos rfl, if_neg (by omega)]
    exact h37
  have e30 : (ui (ui (ui m 500 30 (nI (pos j))) 547 o (nI 10)) 500 37 (nI (o + 1))).1 500 30 = nI (pos j) := by
    simp only [ui_rd, Nat.reduceEqDiff, if_true, if_false]
  rw [head_v h tk h0 h37 ho t9 t10, if_pos hk, if_neg (by omega)]
  unfold qrest fX10_test_B82 fX10_test_B93 fX10_test_B105 fX10_test_B122 fX10_opens psh
  simp only [lit_nI, n10, if_false, if_true, B40_v g37 ho, br_some, e30, nI_add, nm_eq, show ¬ nI 10 = nI 9 by decide, show ¬ nI 10 = nI 12 by decide]
theorem or_v {T S j p o k e' v n : Nat} {t : Nat → Nat} {pos : Nat → Nat} {c m : St} (h : LK t T S pos j p c m) (tk : Tok t T (pos j) k e' v) (h0 : m.1 500 31 = nI 0) (h37 : m.1 500 37 = nI o) (ho : o ≤ 400) (t9 : ¬ tp m o = nI 9) (t10 : ¬ tp m o = nI 10) (t11 : ¬ tp m o = nI 11) (hk : k = 18) : fX10_test_L9 (n + 1) (nI 0) (nI 1) m = fX10_test_L9 n (nI 1) (nI 1) (psh 11 o (pos j + 2) (ui m 500 30 (nI (pos j)))) := by
  have g37 : (ui m 500 30 (nI (pos j))).1 500 37 = nI o := by
    rw [ui_rd, if_pos rfl, if_neg (by omega)]
    exact h37
  have e30 : (ui (ui (ui m 500 30 (nI (pos j))) 547 o (nI 11)) 500 37 (nI (o + 1))).1 500 30 = nI (pos j) := by
    simp only [ui_rd, Nat.reduceEqDiff, if_true, if_false]
  have A : fX10_answers (nI 11) (ui m 500 30 (nI (pos j))) = some (ui m 500 30 (nI (pos j))) := answ_no g37 ho (by rw [tp_5]; exact t11)
  rw [head_v h tk h0 h37 ho t9 t10, if_neg (by omega), if_pos hk]
  unfold qrest fX10_test_B82 fX10_test_B93 fX10_test_B105 fX10_test_B122 fX10_opens psh
  simp only [lit_nI, n10, if_false, if_true, A, B40_v g37 ho, br_some, e30, nI_add, nm_eq, show ¬ nI 11 = nI 9 by decide, show ¬ nI 11 = nI 12 by decide]
/-- the test ends -/
theorem end_v {T S j p k e' v n : Nat} {t : Nat → Nat} {pos : Nat → Nat} {c m : St} (h : LK t T S pos j p c m) (tk : Tok t T (pos j) k e' v) (h0 : m.1 500 31 = nI 0) (h37 : m.1 500 37 = nI 0) (hk : k ≠ 19) (hk2 : k ≠ 18) : fX10_test_L9 (n + 1 + 1) (nI 0) (nI 1) m = some (ui m 500 30 (nI (pos j))) := by
  have t0 : tp m 0 = -nI 1 := rfl
  have g37 : (ui m 500 30 (nI (pos j))).1 500 37 = nI 0 := by
    rw [ui_rd, if_pos rfl, if_neg (by omega)]
    exact h37
  have A : fX10_answers (nI 11) (ui m 500 30 (nI (pos j))) = some (ui m 500 30 (nI (pos j))) := answ_no (o := 0) g37 (by omega) (by rw [tp_5, t0]; decide)
  rw [head_v h tk h0 h37 (by omega) (by rw [t0]; decide) (by rw [t0]; decide), if_neg hk, if_neg hk2]
  unfold qrest
  simp only [if_true, A, br_some]
  rw [top_v g37 (by omega), br_some, tp_5, t0, if_neg (by decide), L9_e]
/-- a bracket is closed, or not -/
theorem close_v {R j p e q o d k e' v n T S : Nat} {L : List Nat} {t : Nat → Nat} {pos : Nat → Nat} {c m : St} (h : QS R L t T S pos j p e q (o + 1) d c m) (tk : Tok t T (pos j) k e' v) (hd1 : 1 ≤ d) (ht : tp m (o + 1) = nI 12) (hk : k ≠ 19) (hk2 : k ≠ 18) : fX10_test_L9 (n + 1) (nI 0) (nI 1) m = fX10_test_L9 n (nI 0) (nI 1) (ui (ui (ui (if k = 32 then ui m 500 30 (nI (pos j)) else flt (ui m 500 30 (nI (pos j))) (pos j) 0) 500 30 (nI (pos j + 1))) 500 37 (nI o)) 500 35 (nI (d - 1))) := by
  have ho := h.o4
  obtain ⟨⟨h1, h2⟩, h3, h4, h5, h6⟩ := h
  have z := h2.2.2.2.1.1
  obtain ⟨b1, b2⟩ := h1.blank
  have g37 : (ui m 500 30 (nI (pos j))).1 500 37 = nI (o + 1) := by
    rw [ui_rd, if_pos rfl, if_neg (by omega)]
    exact h3
  have g35 : (ui m 500 30 (nI (pos j))).1 500 35 = nI d := by
    rw [ui_rd, if_pos rfl, if_neg (by omega)]
    exact h5
  have p30 : (ui m 500 30 (nI (pos j))).1 500 30 = nI (pos j) := by rw [ui_rd, if_pos rfl, if_pos rfl]
  have z1 : (ui m 500 30 (nI (pos j))).1 500 31 = nI 0 := e31 z (by omega)
  have A : fX10_answers (nI 11) (ui m 500 30 (nI (pos j))) = some (ui m 500 30 (nI (pos j))) := answ_no g37 ho (by rw [tp_5, ht]; decide)
  have sg := tk.sign (h1.byte (pos j))
  have B : ∀ s, s.1 500 30 = nI (pos j) → s.1 500 37 = nI (o + 1) → s.1 500 35 = nI d → fX10_test_B164 (fX10_test_L9 n) (nI 0) (nI 1) s = fX10_test_L9 n (nI 0) (nI 1) (ui (ui (ui s 500 30 (nI (pos j + 1))) 500 37 (nI o)) 500 35 (nI (d - 1))) := by
    intro s s1 s2 s3
    unfold fX10_test_B164
    simp (disch := omega) only [lit_nI, s1, nI_add, ↓nm_eq, ui_rd, Nat.reduceEqDiff, if_false, if_true, s2, sub1_nI, s3, pk_sub, Nat.add_sub_cancel]
  rw [head_v h1 tk z h3 ho (by rw [ht]; decide) (by rw [ht]; decide), if_neg hk, if_neg hk2]
  unfold qrest
  simp only [if_true, A, br_some]
  rw [top_v g37 ho, br_some, tp_5, ht, if_pos rfl, sign_k b2, br_some, p30, fails_v z1, br_some]
  by_cases w : k = 32
  · rw [if_pos (sg.2.2.2.2.2.2.2.1.mpr w), if_pos w]
    exact B _ p30 g37 g35
  · rw [if_neg (fun y => w (sg.2.2.2.2.2.2.2.1.mp y)), if_neg w]
    refine B _ ?_ ?_ ?_
    · unfold flt
      rw [ui_rd, if_pos rfl, if_neg (by omega)]
      exact p30
    · unfold flt
      rw [ui_rd, if_pos rfl, if_neg (by omega)]
      exact g37
    · unfold flt
      rw [ui_rd, if_pos rfl, if_neg (by omega)]
      exact g35
