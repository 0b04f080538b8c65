/-! the text of a rule: values -/
/-- what the class's reading of a rule may change -/
def RF (R e : Nat) (c c1 : St) : Prop := (∀ k, k ≠ 20 → k ≠ 40 → k ≠ 400 + 10 * R → k ≠ 400 + 10 * R + 1 → c1.1 k = c.1 k) ∧ (∀ i, i ≠ 1 → c1.1 (400 + 10 * R) i = c.1 (400 + 10 * R) i) ∧ (∀ i, i < e → c1.1 (400 + 10 * R + 1) i = c.1 (400 + 10 * R + 1) i) ∧ c1.2 = c.2
/-- what the reference's reading of a sum may change -/
def SF (R e : Nat) (m m1 : St) : Prop := (∀ k i, k ≠ 541 → k ≠ 542 → ¬ (k = 500 ∧ (i = 30 ∨ i = 31 ∨ i = 34 ∨ i = 36)) → m1.1 k i = m.1 k i) ∧ (∀ i, i < 300 * R + e → m1.1 541 i = m.1 541 i ∧ m1.1 542 i = m.1 542 i) ∧ m1.2 = m.2
theorem RF.rf {R e : Nat} {c : St} : RF R e c c := ⟨fun _ _ _ _ _ => rfl, fun _ _ => rfl, fun _ _ => rfl, rfl⟩
theorem SF.rf {R e : Nat} {c : St} : SF R e c c := ⟨fun _ _ _ _ _ => rfl, fun _ _ => ⟨rfl, rfl⟩, rfl⟩
theorem RF.tr {R e e1 : Nat} {c c1 c2 : St} (h1 : RF R e c c1) (h2 : RF R e1 c1 c2) (he : e ≤ e1) : RF R e c c2 := ⟨fun k a b d f => (h2.1 k a b d f).trans (h1.1 k a b d f), fun i a => (h2.2.1 i a).trans (h1.2.1 i a), fun i a => (h2.2.2.1 i (by omega)).trans (h1.2.2.1 i a), h2.2.2.2.trans h1.2.2.2⟩
theorem SF.tr {R e e1 : Nat} {c c1 c2 : St} (h1 : SF R e c c1) (h2 : SF R e1 c1 c2) (he : e ≤ e1) : SF R e c c2 := ⟨fun k i a b d => (h2.1 k i a b d).trans (h1.1 k i a b d), fun i a => ⟨((h2.2.1 i (by omega)).1).trans (h1.2.1 i a).1, ((h2.2.1 i (by omega)).2).trans (h1.2.1 i a).2⟩, h2.2.2.trans h1.2.2⟩
theorem SF.u5 {R e i : Nat} {m : St} {v : Int32} (h : i = 30 ∨ i = 31 ∨ i = 34 ∨ i = 36) : SF R e m (ui m 500 i v) := by
  refine ⟨fun k x h1 h2 h3 => ?_, fun x hx => ⟨?_, ?_⟩, rfl⟩
  · rw [ui_rd]
    by_cases e : k = 500
    · rw [if_pos e, if_neg (by omega)]
    · rw [if_neg e]
  · rw [ui_ne (by omega)]
  · rw [ui_ne (by omega)]
theorem SF.ofMD {R e : Nat} {m m1 : St} (h : MD m m1) (h2 : ∀ k, k ≠ 500 → m1.1 k = m.1 k) : SF R e m m1 := by
  refine ⟨fun k i a b d => ?_, fun i _ => ?_, h.2⟩
  · by_cases e : k = 500
    · subst e
      exact h.1 500 i (by omega) (by omega)
    · rw [h2 k e]
  · rw [h2 541 (by omega), h2 542 (by omega)]
    exact ⟨rfl, rfl⟩
theorem RF.cs {R e : Nat} {c c1 : St} (h : CS1 c c1) : RF R e c c1 := ⟨fun k a _ _ _ => h.1 k a, fun i _ => by rw [h.1 _ (by omega)], fun i _ => by rw [h.1 _ (by omega)], h.2.2⟩
theorem RF.u40 {R e i : Nat} {c : St} {v : Int32} (hR : R < 6) : RF R e c (ui c 40 i v) := ⟨fun k _ a _ _ => ui_ne a, fun i _ => by rw [ui_ne (by omega)], fun i _ => by rw [ui_ne (by omega)], rfl⟩
/-- code and entries, so far -/
def KM (R : Nat) (L : List Nat) (e q : Nat) (c m : St) : Prop :=
  (c.2.2 40 1 = some (400 + 10 * R) ∧ okRb L (400 + 10 * R) = true ∧ R < 6) ∧ (c.1 (400 + 10 * R) 1 = nI e ∧ m.1 500 34 = nI e ∧ e ≤ 290) ∧ (c.1 40 2 = nI q ∧ m.1 500 36 = nI q ∧ q ≤ 60) ∧ (m.1 500 31 = nI 0 ∧ m.1 500 32 = nI R ∧ m.1 500 38 = nI 12) ∧ ∀ i, i < e → c.1 (400 + 10 * R + 1) i = enc (m.1 541 (300 * R + i)) (m.1 542 (300 * R + i))
theorem KM.cg {R e q : Nat} {L : List Nat} {c m c1 m1 : St} (h : KM R L e q c m) (h40 : c1.1 40 = c.1 40) (hb : c1.1 (400 + 10 * R) = c.1 (400 + 10 * R)) (hb1 : c1.1 (400 + 10 * R + 1) = c.1 (400 + 10 * R + 1)) (h2 : c1.2 = c.2) (hm : ∀ x, x ≠ 30 → x ≠ 35 → x ≠ 37 → m1.1 500 x = m.1 500 x) (h41 : m1.1 541 = m.1 541) (h42 : m1.1 542 = m.1 542) : KM R L e q c1 m1 := by
  unfold KM at h ⊢
  rw [h40, hb, hb1, h2, hm 34 (by omega) (by omega) (by omega), hm 36 (by omega) (by omega) (by omega), hm 31 (by omega) (by omega) (by omega), hm 32 (by omega) (by omega) (by omega), hm 38 (by omega) (by omega) (by omega), h41, h42]
  exact h
theorem KM.cnt {R e q : Nat} {L : List Nat} {c m : St} (h : KM R L e q c m) (hq : q < 60) : KM R L e (q + 1) (ui c 40 2 (nI (q + 1))) (ui m 500 36 (nI (q + 1))) := by
  obtain ⟨⟨a1, a2, a3⟩, ⟨b1, b2, b3⟩, ⟨d1, d2, d3⟩, ⟨e1, e2, e3⟩, f⟩ := h
  refine ⟨⟨a1, a2, a3⟩, ⟨?_, ?_, b3⟩, ⟨?_, ?_, by omega⟩, ⟨?_, ?_, ?_⟩, fun i hi => ?_⟩
  · rw [ui_ne (by omega)]
    exact b1
  · rw [ui_rd, if_pos rfl, if_neg (by omega)]
    exact b2
  · rw [ui_rd, if_pos rfl, if_pos rfl]
  · rw [ui_rd, if_pos rfl, if_pos rfl]
  · rw [ui_rd, if_pos rfl, if_neg (by omega)]
    exact e1
  · rw [ui_rd, if_pos rfl, if_neg (by omega)]
    exact e2
  · rw [ui_rd, if_pos rfl, if_neg (by omega)]
    exact e3
  · rw [ui_ne (by omega), ui_ne (by omega), ui_ne (by omega)]
    exact f i hi
def cpt (R e : Nat) (z : Int32) (c : St) : St := ui (ui c (400 + 10 * R + 1) e z) (400 + 10 * R) 1 (nI (e + 1))
def ent (R e : Nat) (s n : Int32) (m : St) : St := ui (ui (ui m 541 (300 * R + e) s) 542 (300 * R + e) n) 500 34 (nI (e + 1))
theorem KM.put {R e q : Nat} {L : List Nat} {c m : St} {s n : Int32} (h : KM R L e q c m) (he : e < 290) : KM R L (e + 1) q (cpt R e (enc s n) c) (ent R e s n m) := by
  obtain ⟨⟨a1, a2, a3⟩, ⟨b1, b2, b3⟩, ⟨d1, d2, d3⟩, ⟨e1, e2, e3⟩, f⟩ := h
  unfold cpt ent
  refine ⟨⟨a1, a2, a3⟩, ⟨?_, ?_, by omega⟩, ⟨?_, ?_, d3⟩, ⟨?_, ?_, ?_⟩, fun i hi => ?_⟩
  · rw [ui_rd, if_pos rfl, if_pos rfl]
  · rw [ui_rd, if_pos rfl, if_pos rfl]
  · rw [ui_ne (by omega), ui_ne (by omega)]
    exact d1
  · rw [ui_rd, if_pos rfl, if_neg (by omega), ui_ne (by omega), ui_ne (by omega)]
    exact d2
  · rw [ui_rd, if_pos rfl, if_neg (by omega), ui_ne (by omega), ui_ne (by omega)]
    exact e1
  · rw [ui_rd, if_pos rfl, if_neg (by omega), ui_ne (by omega), ui_ne (by omega)]
    exact e2
  · rw [ui_rd, if_pos rfl, if_neg (by omega), ui_ne (by omega), ui_ne (by omega)]
    exact e3
  · rw [ui_ne (by omega), ui_rd, if_pos rfl, ui_ne (by omega), ui_ne (by omega), ui_rd, if_pos rfl, ui_ne (by omega), ui_rd, if_pos rfl, ui_ne (by omega)]
    by_cases ei : i = e
    · subst ei
      rw [if_pos rfl, if_pos rfl, if_pos rfl]
    · rw [if_neg ei, if_neg (by omega), if_neg (by omega)]
      exact f i (by omega)
theorem cput_v {R e q : Nat} {L : List Nat} {c m : St} {z : Int32} (h : KM R L e q c m) : fX4_put (400 + 10 * R) z c = some (cpt R e z c) := by
  have b1 := h.2.1.1
  have b3 := h.2.1.2.2
  unfold fX4_put cpt
  simp (disch := omega) only [lit_nI, b1, le_nI, gd_ix, cl_nI, ↓nm_eq, ui_ne, nI_add]
  rw [if_neg (by omega)]
theorem entry_v {R e q : Nat} {L : List Nat} {c m : St} {s n : Int32} (h : KM R L e q c m) : fX10_entry s n m = some (ent R e s n m) := by
  obtain ⟨⟨a1, a2, a3⟩, ⟨b1, b2, b3⟩, ⟨d1, d2, d3⟩, ⟨e1, e2, e3⟩, f⟩ := h
  unfold fX10_entry ent
  simp (disch := omega) only [lit_nI, e1, e2, b2, if_true, pk_mul, nI_add, gd_ix, cl_nI, ↓nm_eq, ui_rd, Nat.reduceEqDiff, if_false]
theorem entry_f {m : St} {s n : Int32} (h : ¬ m.1 500 31 = nI 0) : fX10_entry s n m = some m := by
  unfold fX10_entry
  simp only [lit_nI]
  rw [if_neg h]
theorem RF.cpt {R e : Nat} {c : St} {z : Int32} : RF R e c (cpt R e z c) := by
  refine ⟨fun k a b d f => ?_, fun i hi => ?_, fun i hi => ?_, rfl⟩
  · show (ui (ui c (400 + 10 * R + 1) e z) (400 + 10 * R) 1 (nI (e + 1))).1 k = _
    rw [ui_ne d, ui_ne f]
  · show (ui (ui c (400 + 10 * R + 1) e z) (400 + 10 * R) 1 (nI (e + 1))).1 _ i = _
    rw [ui_rd, if_pos rfl, if_neg hi, ui_ne (by omega)]
  · show (ui (ui c (400 + 10 * R + 1) e z) (400 + 10 * R) 1 (nI (e + 1))).1 _ i = _
    rw [ui_ne (by omega), ui_rd, if_pos rfl, if_neg (by omega)]
theorem SF.ent {R e : Nat} {m : St} {s n : Int32} : SF R e m (ent R e s n m) := by
  refine ⟨fun k i a b d => ?_, fun i hi => ⟨?_, ?_⟩, rfl⟩
  · show (ui (ui (ui m 541 (300 * R + e) s) 542 (300 * R + e) n) 500 34 (nI (e + 1))).1 k i = _
    rw [ui_rd]
    by_cases ek : k = 500
    · rw [if_pos ek, if_neg (by omega), ui_ne b, ui_ne a]
    · rw [if_neg ek, ui_ne b, ui_ne a]
  · show (ui (ui (ui m 541 (300 * R + e) s) 542 (300 * R + e) n) 500 34 (nI (e + 1))).1 541 i = _
    rw [ui_ne (by omega), ui_ne (by omega), ui_rd, if_pos rfl, if_neg (by omega)]
  · show (ui (ui (ui m 541 (300 * R + e) s) 542 (300 * R + e) n) 500 34 (nI (e + 1))).1 542 i = _
    rw [ui_ne (by omega), ui_rd, if_pos rfl, if_neg (by omega), ui_ne (by omega)]
theorem ent_rd {R e : Nat} {m : St} {s n : Int32} : (ent R e s n m).1 541 (300 * R + e) = s ∧ (ent R e s n m).1 542 (300 * R + e) = n := by
  unfold ent
  simp only [ui_rd, Nat.reduceEqDiff, if_false, if_true, and_self]
/-- a number of the reference's: how many were counted -/
theorem cnt_v {m : St} {q : Nat} {x : Int32} (h : m.1 500 36 = nI q) (hq : q < 60) : fX10_isCounted x m = some (ui m 500 36 (nI (q + 1))) := by
  unfold fX10_isCounted fX10_isCounted_B15
  simp (disch := omega) only [lit_nI, h, eq_nI, nI_add, nm_eq]
  rw [if_neg (by omega)]
theorem cnt_60 {m : St} {a : Nat} (h : m.1 500 36 = nI 60) (h0 : m.1 500 31 = nI 0) : fX10_isCounted (nI a) m = some (ui (flt m a 3) 500 36 (nI 61)) := by
  unfold fX10_isCounted fX10_isCounted_B15
  have e : (flt m a 3).1 500 36 = nI 60 := by
    unfold flt
    rw [ui_rd, if_pos rfl, if_neg (by omega)]
    exact h
  simp only [lit_nI, h, if_true]
  rw [fails_v h0, br_some, nm_eq, e, nI_add]
theorem cnt_f {m : St} {x : Int32} (h : ¬ m.1 500 31 = nI 0) : ∃ y, fX10_isCounted x m = some (ui m 500 36 y) := by
  unfold fX10_isCounted fX10_isCounted_B15
  simp only [lit_nI, nm_eq]
  rw [fails_2 h, br_some]
  refine ⟨m.1 500 36 + nI 1, ?_⟩
  split <;> rfl
theorem fd_cnt {F T : Nat} {t : Nat → Nat} {m : St} {y : Int32} (h : FD F t T m) : FD F t T (ui m 500 36 y) := by
  obtain ⟨h1, ⟨p, p1, p2⟩, h3, h4⟩ := h
  refine ⟨h1.ui (by omega) (by omega), ⟨p, p1, ?_⟩, ?_, h4⟩
  · rw [ui_rd, if_pos rfl, if_neg (by omega)]
    exact p2
  · rw [ui_rd, if_pos rfl, if_neg (by omega)]
    exact h3
theorem rword : ∀ w, w < 12 → fX10_wordOf (nI w) = some (wJ w) := by decide +kernel
theorem word_L {t : Nat → Nat} {T S j k e v : Nat} {pos : Nat → Nat} {c m : St} {y1 : Int32} (h : LK t T S pos j (pos j) c m) (h38 : m.1 500 38 = nI 12) (ht : Tok t T (pos j) k e v) : ∀ (d w n : Nat), w + d = 12 → d < n → w ≤ k → fX10_value_L37 n y1 (nI w) m = fX10_value_B62 y1 (nI (min k 12)) m := by
  intro d
  induction d with
  | zero =>
    intro w n hw hn hk
    obtain ⟨n, rfl⟩ : ∃ j, n = j + 1 := ⟨n - 1, by omega⟩
    rw [fX10_value_L37, h38, if_pos (by rw [le_nI (by omega) (by omega)]; omega), show min k 12 = w by omega]
  | succ d ih =>
    intro w n hw hn hk
    obtain ⟨n, rfl⟩ : ∃ j, n = j + 1 := ⟨n - 1, by omega⟩
    have w3 := (words_t w (by omega)).2.2.2.1
    rw [fX10_value_L37, h38, if_neg (by rw [le_nI (by omega) (by omega)]; omega), rword w (by omega), br_some, decide_eq_true w3, gd_tt, stood_k h ht (by omega), br_some]
    by_cases q : k = w
    · rw [if_pos q, if_neg (by decide), show min k 12 = w by omega]
    · rw [if_neg q, if_pos (by decide), nm_eq]
      show fX10_value_L37 n y1 (nI w + nI 1) m = _
      rw [nI_add]
      exact ih (w + 1) n (by omega) (by omega) (by omega)
theorem rfail_v {c : St} {a x : Nat} (h6 : c.1 20 6 = nI a) : fX5_fail (nI x) c = some (nI 0, ui c 40 3 (nI (1 + 8 * a + x))) := by
  unfold fX5_fail
  rw [h6]
  simp only [lit_nI, pk_mul, nI_add, nm_eq]
theorem rfail_w {c : St} {a x : Nat} (h6 : c.1 20 6 = nI a) : bw (fX5_fail (nI x) c) (fun x5 s4 => gd (bz x5) (some (x5, s4))) = some (nI 0, ui c 40 3 (nI (1 + 8 * a + x))) := by
  rw [rfail_v h6, bw_some]
  rfl
/-- the class reads a value -/
theorem cval_v {R e q k a v : Nat} {L : List Nat} {c m : St} (h : KM R L e q c m) (h5 : c.1 20 5 = nI k) (h6 : c.1 20 6 = nI a) (h7 : c.1 20 7 = nI v) (k9 : k < 40) : fX5_readValue L c = if k < 12 ∨ k = 21 ∨ k = 22 then (if k = 22 then some (nI 0, ui c 40 3 (nI (1 + 8 * a + 1))) else if q < 60 then br (fX7_step (cpt R e (if k < 12 then -nI 1 - nI k else nI v) (ui c 40 2 (nI (q + 1))))) (fun s => some (nI 1, s)) else some (nI 0, ui c 40 3 (nI (1 + 8 * a + 3)))) else some (nI 0, ui c 40 3 (nI (1 + 8 * a + 0))) := by
  obtain ⟨a1, a2, a3⟩ := h.1
  have d1 := h.2.2.1.1
  have d3 := h.2.2.1.2.2
  have hk1 : q < 60 → ∀ z : Int32, fX5_readValue_B122 L z (ui c 40 2 (nI (q + 1))) = br (fX7_step (cpt R e z (ui c 40 2 (nI (q + 1))))) (fun s => some (nI 1, s)) := by
    intro hq z
    have hp := cput_v (z := z) (h.cnt hq)
    unfold fX5_readValue_B122
    simp only [lit_nI]
    rw [show (ui c 40 2 (nI (q + 1))).2.2 40 1 = some (400 + 10 * R) from a1, br_some, a2, gd_tt, hp, br_some]
  have h52 : ∀ y : Nat, (y = 0 ∨ y = 1) → fX5_readValue_B52 L (nI y) c = if k = 22 then some (nI 0, ui c 40 3 (nI (1 + 8 * a + 1))) else if q < 60 then br (fX7_step (cpt R e (if y = 1 then -nI 1 - nI k else nI v) (ui c 40 2 (nI (q + 1))))) (fun s => some (nI 1, s)) else some (nI 0, ui c 40 3 (nI (1 + 8 * a + 3))) := by
    intro y hy
    unfold fX5_readValue_B52
    simp (disch := omega) only [lit_nI, h5, d1, eq_nI, lt_nI, rfail_w h6, nI_add, ↓nm_eq, ui_rd, Nat.reduceEqDiff, if_false, if_true, h7]
    by_cases q1 : k = 22
    · rw [if_pos q1, if_pos q1]
    · rw [if_neg q1, if_neg q1]
      by_cases q2 : q < 60
      · rw [if_pos q2, if_pos q2, hk1 q2, hk1 q2]
        rcases hy with rfl | rfl
        · rw [if_pos rfl, if_neg (by omega)]
        · rw [if_neg (by omega), if_pos rfl]
      · rw [if_neg q2, if_neg q2]
  unfold fX5_readValue fX5_readValue_B17
  simp (disch := omega) only [lit_nI, h5, le_nI, eq_nI, h52, rfail_w h6, Nat.reduceEqDiff, if_true, if_false]
  by_cases q1 : 12 ≤ k
  · rw [if_pos q1]
    have hk12 : ¬ k < 12 := by omega
    simp only [hk12, if_false, false_or]
    by_cases q2 : k = 21
    · rw [if_pos q2, if_pos (Or.inl q2)]
    · rw [if_neg q2]
      by_cases q3 : k = 22
      · rw [if_pos q3, if_pos (Or.inr q3)]
      · rw [if_neg q3, if_neg (by omega)]
  · have hk12 : k < 12 := by omega
    rw [if_neg q1, if_pos (Or.inl hk12)]
    simp only [hk12, if_true]
