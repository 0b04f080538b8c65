/-! both sides at the same token -/
def LK (t : Nat → Nat) (T S : Nat) (pos : Nat → Nat) (j p : Nat) (c m : St) : Prop := TK t T c S pos ∧ Cu c j ∧ j ≤ S ∧ TM t T m ∧ m.1 500 30 = nI p ∧ p ≤ T ∧ sk t T p = pos j
/-- what token is looked at -/
theorem LK.tok {t : Nat → Nat} {T S j p : Nat} {pos : Nat → Nat} {c m : St} (h : LK t T S pos j p c m) : ∃ k e v, k < 40 ∧ v < 100000 ∧ c.1 20 5 = nI k ∧ c.1 20 6 = nI (pos j) ∧ c.1 20 7 = nI v ∧ Tok t T (pos j) k e v ∧ p ≤ pos j ∧ pos j ≤ T ∧ e ≤ T ∧ (j < S → pos j < e ∧ pos j < T ∧ pos (j + 1) = sk t T e) ∧ (j = S → k = 23) ∧ (k ≠ 23 → j < S) := by
  obtain ⟨h1, ⟨c4, c5, c6, c7⟩, h3, h4, h5, h6, h7⟩ := h
  obtain ⟨k, e, v, k9, v9, t1, t2, t3, t4, t5⟩ := h1.2.2.2.2.2 j h3
  have hge : p ≤ sk t T p := rE_ge
  have hle : sk t T p ≤ T := rE_le h6
  have hee : pos j < T → (pos j < e ∧ e ≤ T) := by
    intro hl
    rcases t4 with ⟨q, -⟩ | ⟨-, q1, q2, -⟩ | ⟨-, q1, q2, -⟩ | ⟨-, -, -, -, -, q⟩
    · omega
    · have e1 : we t T (pos j) = rE (isL t) T (pos j + 1) := rE_go hl q1
      have e2 : pos j + 1 ≤ rE (isL t) T (pos j + 1) := rE_ge
      have e3 : rE (isL t) T (pos j + 1) ≤ T := rE_le (by omega)
      omega
    · have e1 : de t T (pos j) = rE (isD t) T (pos j + 1) := rE_go hl q1
      have e2 : pos j + 1 ≤ rE (isD t) T (pos j + 1) := rE_ge
      have e3 : rE (isD t) T (pos j + 1) ≤ T := rE_le (by omega)
      omega
    · rcases q with ⟨-, q1, -, q2, -⟩ | ⟨-, q1, -⟩ <;> omega
  have heT : e ≤ T := by
    by_cases hl : pos j < T
    · exact (hee hl).2
    · rcases t4 with ⟨-, -, q, -⟩ | ⟨q, -⟩ | ⟨q, -⟩ | ⟨q, -⟩ <;> omega
  refine ⟨k, e, v, k9, v9, by rw [c5]; exact t1, by rw [c6]; exact t2, by rw [c7]; exact t3, t4, by omega, by omega, heT, fun hj => ⟨(hee (t5 hj).1).1, t5 hj⟩, fun hj => ?_, fun hk => ?_⟩
  · subst hj
    have := h1.2.2.2.2.1
    rcases t4 with ⟨-, q, -⟩ | ⟨q, -⟩ | ⟨q, -⟩ | ⟨q, -⟩
    · exact q
    · omega
    · omega
    · omega
  · refine Decidable.byContradiction (fun q => ?_)
    have ej : j = S := by omega
    subst ej
    have := h1.2.2.2.2.1
    rcases t4 with ⟨-, q, -⟩ | ⟨q, -⟩ | ⟨q, -⟩ | ⟨q, -⟩
    · exact hk q
    · omega
    · omega
    · omega
/-- on to the next token -/
theorem LK.next {t : Nat → Nat} {T S j p e : Nat} {pos : Nat → Nat} {c m c1 m1 : St} (h : LK t T S pos j p c m) (hj : j < S) (he : pos (j + 1) = sk t T e) (heT : e ≤ T) (hc : TK t T c1 S pos) (hu : Cu c1 (j + 1)) (hm : TM t T m1) (hp : m1.1 500 30 = nI e) : LK t T S pos (j + 1) e c1 m1 := ⟨hc, hu, by omega, hm, hp, heT, he.symm⟩
/-- blanks leave both sides at the same token -/
theorem LK.blank {t : Nat → Nat} {T S j p : Nat} {pos : Nat → Nat} {c m : St} (h : LK t T S pos j p c m) : fX10_blanks m = some (ui m 500 30 (nI (pos j))) ∧ LK t T S pos j (pos j) c (ui m 500 30 (nI (pos j))) := by
  obtain ⟨h1, h2, h3, h4, h5, h6, h7⟩ := h
  have hT := h4.1
  have hle : sk t T p ≤ T := rE_le h6
  refine ⟨?_, h1, h2, h3, h4.ui (by omega) (by omega), by rw [ui_rd, if_pos rfl, if_pos rfl], by omega, ?_⟩
  · rw [blanks_v h4 h5 (by omega), h7]
  · rw [← h7]
    exact rE_idem
/-- a first fault -/
def flt (m : St) (a k : Nat) : St := ui m 500 31 (nI (1 + 8 * a + k))
theorem fails_v {m : St} {a k : Nat} (h : m.1 500 31 = nI 0) : fX10_fails (nI k) (nI a) m = some (flt m a k) := by
  unfold fX10_fails flt
  simp only [lit_nI, h, if_true, pk_mul, nI_add, nm_eq]
theorem fails_2 {m : St} {x y : Int32} (h : ¬ m.1 500 31 = nI 0) : fX10_fails x y m = some m := by
  unfold fX10_fails
  simp only [lit_nI, nm_eq]
  rw [if_neg h, ui_same rfl]
theorem Tok.dig {t : Nat → Nat} {T a k e v : Nat} (h : Tok t T a k e v) (hb : a < T → t a < 256) : ((k = 21 ∨ k = 22) ↔ (a < T ∧ isD t a = true)) ∧ ((k = 21 ∨ k = 22) → e = de t T a ∧ v = nV t T a a 0 ∧ (k = 22 ↔ 5 < de t T a - a)) := by
  rcases h with ⟨q1, q2, -⟩ | ⟨q1, q2, -, -, q3⟩ | ⟨q1, q2, q3, q4, q5⟩ | ⟨q1, q2, q3, -, -, q4⟩
  · exact ⟨⟨fun z => by omega, fun z => by omega⟩, fun z => by omega⟩
  · have hd : isD t a = false := by
      refine decide_eq_false (fun z => ?_)
      have := of_decide_eq_true q2
      omega
    have hk : ¬ (k = 21 ∨ k = 22) := by
      rcases q3 with q | q <;> omega
    exact ⟨⟨fun z => absurd z hk, fun z => by rw [hd] at z; exact nomatch z.2⟩, fun z => absurd z hk⟩
  · have hk : k = 21 ∨ k = 22 := by
      rw [q5]
      split
      · exact Or.inl rfl
      · exact Or.inr rfl
    refine ⟨⟨fun _ => ⟨q1, q2⟩, fun _ => hk⟩, fun _ => ⟨q3, q4, ?_⟩⟩
    rw [q5]
    split
    · exact ⟨fun z => by omega, fun z => by omega⟩
    · exact ⟨fun z => by omega, fun z => rfl⟩
  · have hk : ¬ (k = 21 ∨ k = 22) := by
      rcases q4 with ⟨-, -, -, -, z⟩ | ⟨-, -, z⟩
      · rw [z]
        split <;> omega
      · have := (sgK_r (t a) (hb q1)).1
        omega
    exact ⟨⟨fun z => absurd z hk, fun z => by rw [q3] at z; exact nomatch z.2⟩, fun z => absurd z hk⟩
/-- the reference reads digits -/
theorem digits_v {t : Nat → Nat} {T S j : Nat} {pos : Nat → Nat} {c m : St} (h : LK t T S pos j (pos j) c m) (h0 : m.1 500 31 = nI 0) {k e v : Nat} (hk : c.1 20 5 = nI k) (k9 : k < 40) (ht : Tok t T (pos j) k e v) (v9 : v < 100000) : (¬ (k = 21 ∨ k = 22) ∧ fX10_digits (nI 99999) m = some (nI 0, flt m (pos j) 0)) ∨ (k = 22 ∧ fX10_digits (nI 99999) m = some (nI v, flt (ui m 500 30 (nI e)) (pos j) 1)) ∨ (k = 21 ∧ fX10_digits (nI 99999) m = some (nI v, ui m 500 30 (nI e))) := by
  obtain ⟨h1, h2, h3, h4, h5, h6, h7⟩ := h
  have hT := h4.1
  obtain ⟨d1, d2⟩ := ht.dig (fun hl => (h4.2.2 _ hl).1)
  unfold fX10_digits
  rw [isDigit_v h4 h5 (by omega), br_some, h5]
  simp only [lit_nI, nm_eq]
  by_cases z : pos j < T ∧ isD t (pos j) = true
  · rw [if_pos z, if_neg (by rw [n10]; exact id)]
    obtain ⟨g1, g2, g3⟩ := d2 (d1.mpr z)
    have hle : de t T (pos j) ≤ T := rE_le h6
    rw [digits_L (T - pos j) (pos j) 10000 0 m rfl (by omega) (Nat.le_refl _) h6 (by rw [Nat.sub_self]; decide) h4 h5, ← g1, ← g2]
    unfold fX10_digits_B87
    have hf : (ui m 500 30 (nI e)).1 500 31 = nI 0 := by
      rw [ui_rd, if_pos rfl, if_neg (by omega)]
      exact h0
    simp only [lit_nI]
    rw [fails_v hf, br_some]
    rcases d1.mpr z with q | q
    · refine Or.inr (Or.inr ⟨q, ?_⟩)
      have hl : ¬ 5 < de t T (pos j) - pos j := fun w => by have := g3.mpr w; omega
      rw [if_neg (by rw [lt_nI (by omega) (by omega), g1]; exact hl), if_pos (by rw [le_nI (by omega) (by omega)]; omega)]
    · refine Or.inr (Or.inl ⟨q, ?_⟩)
      rw [if_pos (by rw [lt_nI (by omega) (by omega), g1]; exact g3.mp q)]
  · rw [if_neg z, if_pos rfl]
    refine Or.inl ⟨fun w => z (d1.mp w), ?_⟩
    rw [fails_v h0, br_some]
