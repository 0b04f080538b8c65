/-! the reference's stack of what is opn -/
def QF (R e o : Nat) (m m1 : St) : Prop := (∀ k i, k ≠ 541 → k ≠ 542 → k ≠ 547 → ¬ (k = 500 ∧ (i = 30 ∨ i = 31 ∨ i = 34 ∨ i = 35 ∨ i = 36 ∨ i = 37)) → m1.1 k i = m.1 k i) ∧ (∀ i, i < 300 * R + e → m1.1 541 i = m.1 541 i ∧ m1.1 542 i = m.1 542 i) ∧ (∀ i, i < o → m1.1 547 i = m.1 547 i) ∧ m1.2 = m.2
theorem QF.rf {R e o : Nat} {m : St} : QF R e o m m := ⟨fun _ _ _ _ _ _ => rfl, fun _ _ => ⟨rfl, rfl⟩, fun _ _ => rfl, rfl⟩
theorem QF.tr {R e e1 o o1 : Nat} {m m1 m2 : St} (h1 : QF R e o m m1) (h2 : QF R e1 o1 m1 m2) (he : e ≤ e1) (ho : o ≤ o1) : QF R e o m m2 := ⟨fun k i a b d f => (h2.1 k i a b d f).trans (h1.1 k i a b d f), fun i a => ⟨((h2.2.1 i (by omega)).1).trans (h1.2.1 i a).1, ((h2.2.1 i (by omega)).2).trans (h1.2.1 i a).2⟩, fun i a => (h2.2.2.1 i (by omega)).trans (h1.2.2.1 i a), h2.2.2.2.trans h1.2.2.2⟩
theorem SF.q {R e o : Nat} {m m1 : St} (h : SF R e m m1) : QF R e o m m1 := ⟨fun k i a b d f => h.1 k i a b (by omega), h.2.1, fun i _ => h.1 547 i (by omega) (by omega) (by omega), h.2.2⟩
theorem qf_5 {R e o i : Nat} {m : St} {v : Int32} (h : i = 30 ∨ i = 31 ∨ i = 34 ∨ i = 35 ∨ i = 36 ∨ i = 37) : QF R e o m (ui m 500 i v) := by
  refine ⟨fun k x h1 h2 h3 h4 => ?_, fun x hx => ⟨?_, ?_⟩, fun x hx => ?_, rfl⟩
  · rw [ui_rd]
    by_cases e : k = 500
    · rw [if_pos e, if_neg (by omega)]
    · rw [if_neg e]
  · rw [ui_ne (by omega)]
  · rw [ui_ne (by omega)]
  · rw [ui_ne (by omega)]
theorem qf_7 {R e o i : Nat} {m : St} {v : Int32} (h : o ≤ i) : QF R e o m (ui m 547 i v) := by
  refine ⟨fun k x h1 h2 h3 h4 => ?_, fun x hx => ⟨?_, ?_⟩, fun x hx => ?_, rfl⟩
  · rw [ui_ne h3]
  · rw [ui_ne (by omega)]
  · rw [ui_ne (by omega)]
  · rw [ui_rd, if_pos rfl, if_neg (by omega)]
theorem fd_u {F T k i : Nat} {t : Nat → Nat} {m : St} {v : Int32} (h : FD F t T m) (hk : k ≠ 540) (h5 : ¬ (k = 500 ∧ (i = 29 ∨ i = 30 ∨ i = 31))) : FD F t T (ui m k i v) := by
  obtain ⟨h1, ⟨p, p1, p2⟩, h3, h4⟩ := h
  have hr : ∀ x, x = 30 ∨ x = 31 → (ui m k i v).1 500 x = m.1 500 x := fun x hx => by
    rw [ui_rd]
    by_cases e : 500 = k
    · rw [if_pos e, if_neg (by omega)]
    · rw [if_neg e]
  exact ⟨h1.ui hk (by omega), ⟨p, p1, by rw [hr 30 (by omega)]; exact p2⟩, by rw [hr 31 (by omega)]; exact h3, h4⟩
/-- both sides within a test -/
def QS (R : Nat) (L : List Nat) (t : Nat → Nat) (T S : Nat) (pos : Nat → Nat) (j p e q o d : Nat) (c m : St) : Prop := SM R L t T S pos j p e q c m ∧ m.1 500 37 = nI o ∧ o ≤ p ∧ m.1 500 35 = nI d ∧ d ≤ 10
/-- what is opn last -/
def tp (m : St) (o : Nat) : Int32 := if o = 0 then -nI 1 else m.1 547 (o - 1)
theorem top_v {m : St} {o : Nat} (h : m.1 500 37 = nI o) (ho : o ≤ 400) : fX10_top m = some (tp m o) := by
  unfold fX10_top tp
  rw [h]
  by_cases z : o = 0
  · subst z
    rfl
  · rw [if_neg (by show ¬ nI o = nI 0; rw [eq_nI (by omega) (by omega)]; exact z), if_neg z]
    have e1 : nI o - (1 : Int32) = nI (o - 1) := pk_sub (a := o) (b := 1) (by omega)
    rw [e1, gd_ix (by omega) (by omega), cl_nI (by omega)]
theorem entry_37 {m m1 : St} {s n : Int32} (h : fX10_entry s n m = some m1) : m1.1 500 37 = m.1 500 37 := by
  unfold fX10_entry at h
  simp only [nm_eq] at h
  by_cases z : m.1 500 31 = 0
  · rw [if_pos z] at h
    unfold gd at h
    split at h
    · split at h
      · have := Option.some.inj h
        rw [← this]
        simp only [ui_rd, Nat.reduceEqDiff, if_true, if_false]
      · exact nomatch h
    · exact nomatch h
  · rw [if_neg z] at h
    rw [← Option.some.inj h]
theorem ans_fuel {k : Nat} (hk : k < 100) : ∀ (o n n' : Nat) (m : St), m.1 500 37 = nI o → o ≤ 400 → o < n → o < n' → fX10_answers_L0 (nI k) n m = fX10_answers_L0 (nI k) n' m := by
  intro o
  induction o with
  | zero =>
    intro n n' m h ho h1 h2
    obtain ⟨n, rfl⟩ : ∃ j, n = j + 1 := ⟨n - 1, by omega⟩
    obtain ⟨n', rfl⟩ : ∃ j, n' = j + 1 := ⟨n' - 1, by omega⟩
    have e : ¬ -nI 1 = nI k := fun q => by
      have q2 := congrArg Int32.toInt q
      rw [nI_toInt (by omega), show (-nI 1).toInt = -1 by decide] at q2
      omega
    rw [fX10_answers_L0, fX10_answers_L0, top_v h ho, br_some, br_some, show tp m 0 = -nI 1 from rfl, if_neg e, if_neg e]
  | succ o ih =>
    intro n n' m h ho h1 h2
    obtain ⟨n, rfl⟩ : ∃ j, n = j + 1 := ⟨n - 1, by omega⟩
    obtain ⟨n', rfl⟩ : ∃ j, n' = j + 1 := ⟨n' - 1, by omega⟩
    rw [fX10_answers_L0, fX10_answers_L0, top_v h ho, br_some, br_some]
    by_cases z : tp m (o + 1) = nI k
    · rw [if_pos z, if_pos z]
      by_cases y : m.1 500 31 = 0
      · rw [if_pos y, if_pos y]
        cases he : fX10_entry (nI k) 0 m with
        | none => rfl
        | some s6 =>
          have h37 := entry_37 he
          have e1 : s6.1 500 37 - (1 : Int32) = nI o := by
            rw [h37, h]
            exact sub1_nI (by omega)
          simp only [br_some, nm_eq, e1]
          by_cases w : nI k = 9
          · rw [if_pos w, if_pos w]
            exact ih _ _ _ (by simp only [ui_rd, Nat.reduceEqDiff, if_true, if_false]) (by omega) (by omega) (by omega)
          · rw [if_neg w, if_neg w]
            exact ih _ _ _ (by simp only [ui_rd, Nat.reduceEqDiff, if_true, if_false]) (by omega) (by omega) (by omega)
      · rw [if_neg y, if_neg y]
    · rw [if_neg z, if_neg z]
/-- one is closed -/
def pp (R e k o d : Nat) (m : St) : St := ui (ui (ent R e (nI k) (nI 0) m) 500 37 (nI (o - 1))) 500 35 (nI (if k = 9 then d - 1 else d))
theorem ans_no {k o n : Nat} {m : St} (h : m.1 500 37 = nI o) (ho : o ≤ 400) (ht : ¬ tp m o = nI k) : fX10_answers_L0 (nI k) (n + 1) m = some m := by
  rw [fX10_answers_L0, top_v h ho, br_some, if_neg ht]
theorem ans_go {R e q k o d n : Nat} {L : List Nat} {c m : St} (hK : KM R L e q c m) (h : m.1 500 37 = nI o) (ho : o ≤ 400) (h35 : m.1 500 35 = nI d) (hd : d ≤ 10) (hkd : k = 9 → 1 ≤ d) (k9 : k < 100) (ho1 : 1 ≤ o) (ht : tp m o = nI k) : fX10_answers_L0 (nI k) (n + 1) m = fX10_answers_L0 (nI k) n (pp R e k o d m) := by
  have e37 : (ent R e (nI k) (nI 0) m).1 500 37 = nI o := by
    unfold ent
    simp only [ui_rd, Nat.reduceEqDiff, if_true, if_false]
    exact h
  have e35 : (ent R e (nI k) (nI 0) m).1 500 35 = nI d := by
    unfold ent
    simp only [ui_rd, Nat.reduceEqDiff, if_true, if_false]
    exact h35
  have en : fX10_entry (nI k) 0 m = some (ent R e (nI k) (nI 0) m) := entry_v (n := nI 0) hK
  have s1 : nI o - (1 : Int32) = nI (o - 1) := pk_sub (a := o) (b := 1) (by omega)
  have z1 : m.1 500 31 = 0 := hK.2.2.2.1.1
  rw [fX10_answers_L0, top_v h ho, br_some, if_pos ht, if_pos z1, en, br_some, e37, s1, nm_eq]
  have e35' : (ui (ent R e (nI k) (nI 0) m) 500 37 (nI (o - 1))).1 500 35 = nI d := by
    rw [ui_rd, if_pos rfl, if_neg (by omega)]
    exact e35
  unfold pp
  rw [e35']
  by_cases w : k = 9
  · subst w
    rw [if_pos rfl, if_pos (show nI 9 = (9 : Int32) from rfl), nm_eq]
    have s2 : nI d - (1 : Int32) = nI (d - 1) := pk_sub (a := d) (b := 1) (hkd rfl)
    rw [s2]
  · rw [if_neg (by show ¬ nI k = nI 9; rw [eq_nI (by omega) (by omega)]; exact w), if_neg w, nm_eq, show nI d - (0 : Int32) = nI d from Int32.sub_zero _]
theorem pp_30 {R e k o d : Nat} {m : St} {v : Int32} : pp R e k o d (ui m 500 30 v) = ui (pp R e k o d m) 500 30 v := by
  unfold pp ent
  rw [ui_comm (k := 500) (i := 30) (k' := 541) (Or.inl (by omega)), ui_comm (k := 500) (i := 30) (k' := 542) (Or.inl (by omega)), ui_comm (k := 500) (i := 30) (k' := 500) (i' := 34) (Or.inr (by omega)), ui_comm (k := 500) (i := 30) (k' := 500) (i' := 37) (Or.inr (by omega)), ui_comm (k := 500) (i := 30) (k' := 500) (i' := 35) (Or.inr (by omega))]
theorem pp_37 {R e k o d : Nat} {m : St} : (pp R e k o d m).1 500 37 = nI (o - 1) ∧ (pp R e k o d m).1 500 35 = nI (if k = 9 then d - 1 else d) ∧ (pp R e k o d m).1 500 31 = m.1 500 31 ∧ (pp R e k o d m).1 500 30 = m.1 500 30 ∧ (pp R e k o d m).1 500 29 = m.1 500 29 ∧ (pp R e k o d m).1 540 = m.1 540 ∧ (pp R e k o d m).1 547 = m.1 547 := by
  unfold pp ent
  refine ⟨?_, ?_, ?_, ?_, ?_, ?_, ?_⟩
  · simp only [ui_rd, Nat.reduceEqDiff, if_true, if_false]
  · simp only [ui_rd, if_true]
  · simp only [ui_rd, Nat.reduceEqDiff, if_true, if_false]
  · simp only [ui_rd, Nat.reduceEqDiff, if_true, if_false]
  · simp only [ui_rd, Nat.reduceEqDiff, if_true, if_false]
  · rw [ui_ne (by omega), ui_ne (by omega), ui_ne (by omega), ui_ne (by omega), ui_ne (by omega)]
  · rw [ui_ne (by omega), ui_ne (by omega), ui_ne (by omega), ui_ne (by omega), ui_ne (by omega)]
theorem pp_qf {R e k o o' d : Nat} {m : St} : QF R e o' m (pp R e k o d m) := ((SF.ent.q (o := o')).tr (qf_5 (e := e) (o := o') (by omega)) (Nat.le_refl e) (Nat.le_refl o')).tr (qf_5 (e := e) (o := o') (by omega)) (Nat.le_refl e) (Nat.le_refl o')
theorem pp_rd {R e k o d : Nat} {m : St} : (pp R e k o d m).1 541 (300 * R + e) = nI k ∧ (pp R e k o d m).1 542 (300 * R + e) = nI 0 := by
  unfold pp ent
  simp only [ui_rd, Nat.reduceEqDiff, if_false, if_true, and_self]
theorem QS.close {R j p e q o d k T S : Nat} {L : List Nat} {t : Nat → Nat} {pos : Nat → Nat} {c m : St} (h : QS R L t T S pos j p e q (o + 1) d c m) (he : e < 290) : QS R L t T S pos j p (e + 1) q o (if k = 9 then d - 1 else d) (cpt R e (enc (nI k) (nI 0)) c) (pp R e k (o + 1) d m) := by
  obtain ⟨⟨h1, h2⟩, h3, h4, h5, h6⟩ := h
  obtain ⟨p1, p2, p3, p4, p5, p6, p7⟩ := pp_37 (R := R) (e := e) (k := k) (o := o + 1) (d := d) (m := m)
  refine ⟨⟨h1.of (fun x x1 x2 => ?_) p5 p4 p6, ?_⟩, ?_, by omega, p2, by split <;> omega⟩
  · unfold cpt
    rw [ui_ne (by omega), ui_ne (by omega)]
  · refine (h2.put he).cg rfl rfl rfl rfl (fun x a b c => ?_) ?_ ?_
    · unfold pp
      rw [ui_rd, if_pos rfl, if_neg b, ui_rd, if_pos rfl, if_neg c]
    · unfold pp
      rw [ui_ne (by omega), ui_ne (by omega)]
    · unfold pp
      rw [ui_ne (by omega), ui_ne (by omega)]
  · rw [p1, Nat.add_sub_cancel]
