/-! kinds of tokens, and what the reference sees there -/
theorem Tok.word {t : Nat → Nat} {T a k e v w : Nat} (h : Tok t T a k e v) (hb : a < T → t a < 256) (hw : w < 21) : WI t T (wJ w) a ↔ k = w := by
  have hs := (words_t w hw).2.2.2.2.1
  have hno : (isL t a = false ∨ T ≤ a) → ¬ WI t T (wJ w) a := by
    intro q z
    have h1 : we t T a = a := rE_st (fun y => by
      rcases q with q | q
      · rw [q] at y
        exact nomatch y.2
      · omega)
    have h2 := z.1
    omega
  rcases h with ⟨q1, q2, -⟩ | ⟨q1, q2, -, -, q3⟩ | ⟨q1, q2, q3, q4, q5⟩ | ⟨q1, q2, q3, -, -, q4⟩
  · exact ⟨fun z => absurd z (hno (Or.inr q1)), fun z => by omega⟩
  · rcases q3 with ⟨z1, z2⟩ | ⟨z1, z2⟩
    · exact ⟨fun z => WI_u z1 hw z2 z, fun z => by rw [← z]; exact z2⟩
    · exact ⟨fun z => absurd z (z2 w hw), fun z => by omega⟩
  · have hd : isL t a = false := by
      refine decide_eq_false (fun z => ?_)
      have := of_decide_eq_true q2
      omega
    refine ⟨fun z => absurd z (hno (Or.inl hd)), fun z => ?_⟩
    rw [q5] at z
    split at z <;> omega
  · refine ⟨fun z => absurd z (hno (Or.inl q2)), fun z => ?_⟩
    rcases q4 with ⟨-, -, -, -, y⟩ | ⟨-, -, y⟩
    · rw [y] at z
      split at z <;> omega
    · have := (sgK_r (t a) (hb q1)).1
      omega
theorem sgK_s : ∀ b, b < 256 → (sgK b = 25 ↔ b = 59) ∧ (sgK b = 26 ↔ b = 43) ∧ (sgK b = 27 ↔ b = 45) ∧ (sgK b = 28 ↔ b = 42) ∧ (sgK b = 29 ↔ b = 47) ∧ (sgK b = 30 ↔ b = 37) ∧ (sgK b = 31 ↔ b = 91) ∧ (sgK b = 32 ↔ b = 93) ∧ (sgK b = 33 ↔ b = 60) ∧ (sgK b = 34 ↔ b = 61) ∧ (sgK b = 35 ↔ b = 62) := by decide +kernel
/-- the byte at a token -/
def sgA (t : Nat → Nat) (T a : Nat) : Int32 := if a < T then nI (t a) else -nI 1
theorem Tok.sign {t : Nat → Nat} {T a k e v : Nat} (h : Tok t T a k e v) (hb : a < T → t a < 256) : (sgA t T a = nI 59 ↔ k = 25) ∧ (sgA t T a = nI 43 ↔ k = 26) ∧ (sgA t T a = nI 45 ↔ k = 27) ∧ (sgA t T a = nI 42 ↔ k = 28) ∧ (sgA t T a = nI 47 ↔ k = 29) ∧ (sgA t T a = nI 37 ↔ k = 30) ∧ (sgA t T a = nI 91 ↔ k = 31) ∧ (sgA t T a = nI 93 ↔ k = 32) ∧ (sgA t T a = nI 60 ↔ (k = 33 ∨ k = 36)) ∧ (sgA t T a = nI 61 ↔ k = 34) ∧ (sgA t T a = nI 62 ↔ (k = 35 ∨ k = 37)) := by
  have key : ∀ y, y < 256 → (sgA t T a = nI y ↔ (a < T ∧ t a = y)) := by
    intro y hy
    unfold sgA
    by_cases z : a < T
    · have := hb z
      rw [if_pos z, eq_nI (by omega) (by omega)]
      exact ⟨fun q => ⟨z, q⟩, fun q => q.2⟩
    · rw [if_neg z]
      refine ⟨fun q => ?_, fun q => absurd q.1 z⟩
      have q2 := congrArg Int32.toInt q
      rw [nI_toInt (by omega), show (-nI 1).toInt = -1 by decide] at q2
      omega
  rw [key 59 (by omega), key 43 (by omega), key 45 (by omega), key 42 (by omega), key 47 (by omega), key 37 (by omega), key 91 (by omega), key 93 (by omega), key 60 (by omega), key 61 (by omega), key 62 (by omega)]
  rcases h with ⟨q1, q2, -⟩ | ⟨q1, q2, -, -, q3⟩ | ⟨q1, q2, q3, q4, q5⟩ | ⟨q1, q2, q3, -, -, q4⟩
  · omega
  · have := of_decide_eq_true q2
    have hk : k < 21 ∨ k = 24 := by
      rcases q3 with q | q
      · exact Or.inl q.1
      · exact Or.inr q.1
    omega
  · have := of_decide_eq_true q2
    have hk : k = 21 ∨ k = 22 := by
      rw [q5]
      split
      · exact Or.inl rfl
      · exact Or.inr rfl
    omega
  · have hs := sgK_s (t a) (hb q1)
    rcases q4 with ⟨y1, y2, y3, y4, y5⟩ | ⟨y1, y2, y3⟩
    · by_cases z : t a = 60
      · rw [if_pos z] at y5
        omega
      · rw [if_neg z] at y5
        omega
    · subst y3
      have h36 : sgK (t a) < 36 := by
        have := (sgK_r (t a) (hb q1)).1
        omega
      obtain ⟨a1, a2, a3, a4, a5, a6, a7, a8, a9, a10, a11⟩ := hs
      rw [a1, a2, a3, a4, a5, a6, a7, a8, a9, a10, a11]
      omega
theorem Tok.fin {t : Nat → Nat} {T a k e v : Nat} (h : Tok t T a k e v) (hb : a < T → t a < 256) : k = 23 ↔ T ≤ a := by
  rcases h with ⟨q1, q2, -⟩ | ⟨q1, q2, -, -, q3⟩ | ⟨q1, q2, q3, q4, q5⟩ | ⟨q1, q2, q3, -, -, q4⟩
  · omega
  · omega
  · have hk : k = 21 ∨ k = 22 := by
      rw [q5]
      split
      · exact Or.inl rfl
      · exact Or.inr rfl
    omega
  · rcases q4 with ⟨y1, y2, y3, y4, y5⟩ | ⟨y1, y2, y3⟩
    · split at y5 <;> omega
    · have := (sgK_r (t a) (hb q1)).1
      omega
/-- where a word ends -/
theorem Tok.wend {t : Nat → Nat} {T a k e v : Nat} (h : Tok t T a k e v) (hb : a < T → t a < 256) (hk : k < 21) : e = a + slN (wJ k) ∧ a < T := by
  have hw := (h.word hb hk).mpr rfl
  have hs := (words_t k hk).2.2.2.2.1
  rcases h with ⟨q1, q2, -⟩ | ⟨q1, q2, q3, -, -⟩ | ⟨q1, q2, q3, q4, q5⟩ | ⟨q1, q2, q3, -, -, q4⟩
  · omega
  · have h1 := hw.1
    have h2 : a ≤ we t T a := rE_ge
    omega
  · split at q5 <;> omega
  · rcases q4 with ⟨y1, y2, y3, y4, y5⟩ | ⟨y1, y2, y3⟩
    · split at y5 <;> omega
    · have := (sgK_r (t a) (hb q1)).1
      omega
/-- where a sign ends -/
theorem Tok.send {t : Nat → Nat} {T a k e v : Nat} (h : Tok t T a k e v) (h1 : 25 ≤ k) (h2 : k ≤ 35) : e = a + 1 ∧ a < T ∧ (k = 33 ∨ k = 35 → ¬ (a + 1 < T ∧ t (a + 1) = 61)) := by
  rcases h with ⟨q1, q2, -⟩ | ⟨q1, q2, q3, -, q4⟩ | ⟨q1, q2, q3, q4, q5⟩ | ⟨q1, q2, q3, -, -, q4⟩
  · omega
  · rcases q4 with q | q <;> omega
  · split at q5 <;> omega
  · rcases q4 with ⟨y1, y2, y3, y4, y5⟩ | ⟨y1, y2, y3⟩
    · split at y5 <;> omega
    · refine ⟨y2, q1, fun z w => y1 ⟨?_, w.1, w.2⟩⟩
      have e1 : sgK 60 = 33 := by decide
      by_cases hb : t a < 256
      · have g := (sgK_r (t a) hb).2
        rw [← y3] at g
        rcases z with z | z
        · exact Or.inl (g.1.mp z)
        · exact Or.inr (g.2.mp z)
      · exfalso
        unfold sgK at y3
        (repeat' split at y3) <;> omega
theorem Tok.send2 {t : Nat → Nat} {T a k e v : Nat} (h : Tok t T a k e v) (hb : a < T → t a < 256) (h1 : k = 36 ∨ k = 37) : e = a + 2 ∧ a + 1 < T ∧ t (a + 1) = 61 := by
  rcases h with ⟨q1, q2, -⟩ | ⟨q1, q2, q3, -, q4⟩ | ⟨q1, q2, q3, q4, q5⟩ | ⟨q1, q2, q3, -, -, q4⟩
  · omega
  · rcases q4 with q | q <;> omega
  · split at q5 <;> omega
  · rcases q4 with ⟨y1, y2, y3, y4, y5⟩ | ⟨y1, y2, y3⟩
    · exact ⟨y4, y2, y3⟩
    · have := (sgK_r (t a) (hb q1)).1
      omega
theorem stood_k {t : Nat → Nat} {T S j k e v w : Nat} {pos : Nat → Nat} {c m : St} (h : LK t T S pos j (pos j) c m) (ht : Tok t T (pos j) k e v) (hw : w < 21) : fX10_stood (wJ w) m = some (if k = w then nI 1 else nI 0) := by
  obtain ⟨h1, h2, h3, h4, h5, h6, h7⟩ := h
  have hT := h4.1
  obtain ⟨w1, w2⟩ := words_t w hw |>.2.2.2
  obtain ⟨x, x1, x2⟩ := stood_v h4 h5 (by omega) w1 w2.1
  have hb := ht.word (fun hl => (h4.2.2 _ hl).1) hw
  rw [x1]
  rcases x2 with ⟨rfl, q⟩ | ⟨rfl, q⟩
  · rw [if_pos (hb.mp q)]
  · rw [if_neg (fun z => q (hb.mpr z))]
theorem sign_k {t : Nat → Nat} {T S j : Nat} {pos : Nat → Nat} {c m : St} (h : LK t T S pos j (pos j) c m) : fX10_sign m = some (sgA t T (pos j)) := by
  obtain ⟨h1, h2, h3, h4, h5, h6, h7⟩ := h
  have hT := h4.1
  rw [sign_v h4 h5 (by omega)]
  rfl
theorem LK.byte {t : Nat → Nat} {T S j p : Nat} {pos : Nat → Nat} {c m : St} (h : LK t T S pos j p c m) : ∀ i, i < T → t i < 256 := fun i hi => (h.2.2.2.1.2.2 i hi).1
theorem LK.pos {t : Nat → Nat} {T S j p : Nat} {pos : Nat → Nat} {c m : St} (h : LK t T S pos j p c m) : T ≤ 400 ∧ p ≤ pos j ∧ pos j ≤ T := by
  obtain ⟨h1, h2, h3, h4, h5, h6, h7⟩ := h
  have hge : p ≤ sk t T p := rE_ge
  have hle : sk t T p ≤ T := rE_le h6
  exact ⟨h4.1, by omega, by omega⟩
/-- what the class changes beside the tokens, and the reference beside its place, leaves both at the same token -/
theorem LK.of {t : Nat → Nat} {T S j p : Nat} {pos : Nat → Nat} {c m c1 m1 : St} (h : LK t T S pos j p c m) (h1 : ∀ k, 20 ≤ k → k ≤ 23 → c1.1 k = c.1 k) (h2 : m1.1 500 29 = m.1 500 29) (h3 : m1.1 500 30 = m.1 500 30) (h4 : m1.1 540 = m.1 540) : LK t T S pos j p c1 m1 := by
  obtain ⟨g1, g2, g3, g4, g5, g6, g7⟩ := h
  have e20 := h1 20 (by omega) (by omega)
  refine ⟨g1.cs (fun k k1 k2 => h1 k (by omega) k2) (by rw [e20]), ?_, g3, ⟨g4.1, by rw [h2]; exact g4.2.1, by rw [h4]; exact g4.2.2⟩, by rw [h3]; exact g5, g6, g7⟩
  unfold Cu
  rw [e20, h1 21 (by omega) (by omega), h1 22 (by omega) (by omega), h1 23 (by omega) (by omega)]
  exact g2
/-- the class takes the next token, the reference goes to its end -/
theorem LK.step {t : Nat → Nat} {T S j p e : Nat} {pos : Nat → Nat} {c m : St} (h : LK t T S pos j p c m) (hj : j < S) (he : pos (j + 1) = sk t T e) (heT : e ≤ T) : ∃ c1, fX7_step c = some c1 ∧ LK t T S pos (j + 1) e c1 (ui m 500 30 (nI e)) ∧ CS1 c c1 := by
  obtain ⟨g1, g2, g3, g4, g5, g6, g7⟩ := h
  obtain ⟨c1, a1, a2, a3, a4⟩ := step_v g1 g2.1 hj
  exact ⟨c1, a1, ⟨a2, a3, by omega, g4.ui (by omega) (by omega), by rw [ui_rd, if_pos rfl, if_pos rfl], heT, he.symm⟩, a4⟩
