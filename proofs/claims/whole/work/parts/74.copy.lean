/-! pages copied -/
theorem gd_b01 {α : Type} {v : Int32} {x : Option α} (h : v = nI 0 ∨ v = nI 1) : gd (bz v) x = x := by
  rcases h with rfl | rfl <;> rfl
theorem land_copy {b o : Nat} {c : St} (hbo : b + 14 ≤ o ∨ o + 14 ≤ b) (ht : c.1 o 0 = nI 0 ∨ c.1 o 0 = nI 1) : ∃ c1, fX1_copyFrom b o c = some c1 ∧ (∀ i, i < 8 → c1.1 b i = c.1 o i) ∧ (∀ i, i < 8 → c1.1 (b + 9) i = c.1 (o + 9) i ∧ c1.1 (b + 10) i = c.1 (o + 10) i) ∧ (∀ i, i < 3 → c1.1 (b + 11) i = c.1 (o + 11) i) ∧ (∀ i, i < 6 → c1.1 (b + 12) i = c.1 (o + 12) i) ∧ (∀ i, i < 41 → c1.1 (b + 13) i = c.1 (o + 13) i) ∧ (∀ k, k < b ∨ b + 14 ≤ k → c1.1 k = c.1 k) ∧ c1.2 = c.2 := by
  obtain ⟨s1, e1⟩ : ∃ s, s = ui c b 0 (c.1 o 0) := ⟨_, rfl⟩
  obtain ⟨s3, e3⟩ : ∃ s, s = ui s1 b 1 (s1.1 o 1) := ⟨_, rfl⟩
  obtain ⟨s4, e4⟩ : ∃ s, s = ui s3 b 2 (s3.1 o 2) := ⟨_, rfl⟩
  obtain ⟨s5, e5⟩ : ∃ s, s = ui s4 b 3 (s4.1 o 3) := ⟨_, rfl⟩
  obtain ⟨s6, e6⟩ : ∃ s, s = ui s5 b 4 (s5.1 o 4) := ⟨_, rfl⟩
  obtain ⟨s7, e7⟩ : ∃ s, s = ui s6 b 5 (s6.1 o 5) := ⟨_, rfl⟩
  obtain ⟨s8, e8⟩ : ∃ s, s = ui s7 b 6 (s7.1 o 6) := ⟨_, rfl⟩
  obtain ⟨s9, e9⟩ : ∃ s, s = ui s8 b 7 (s8.1 o 7) := ⟨_, rfl⟩
  obtain ⟨s10, e10⟩ : ∃ s, s = ur s9 (b + 9) (va_cpy (s9.1 (o + 9)) (s9.1 (b + 9)) 0 0 8) := ⟨_, rfl⟩
  obtain ⟨s11, e11⟩ : ∃ s, s = ur s10 (b + 10) (va_cpy (s10.1 (o + 10)) (s10.1 (b + 10)) 0 0 8) := ⟨_, rfl⟩
  obtain ⟨s12, e12⟩ : ∃ s, s = ur s11 (b + 11) (va_cpy (s11.1 (o + 11)) (s11.1 (b + 11)) 0 0 3) := ⟨_, rfl⟩
  obtain ⟨s13, e13⟩ : ∃ s, s = ur s12 (b + 12) (va_cpy (s12.1 (o + 12)) (s12.1 (b + 12)) 0 0 6) := ⟨_, rfl⟩
  obtain ⟨s14, e14⟩ : ∃ s, s = ur s13 (b + 13) (va_cpy (s13.1 (o + 13)) (s13.1 (b + 13)) 0 0 41) := ⟨_, rfl⟩
  have f1 : ∀ k, k ≠ b → s1.1 k = c.1 k := fun k hk => by rw [e1, ui_ne hk]
  have f3 : ∀ k, k ≠ b → s3.1 k = c.1 k := fun k hk => by rw [e3, ui_ne hk, f1 k hk]
  have f4 : ∀ k, k ≠ b → s4.1 k = c.1 k := fun k hk => by rw [e4, ui_ne hk, f3 k hk]
  have f5 : ∀ k, k ≠ b → s5.1 k = c.1 k := fun k hk => by rw [e5, ui_ne hk, f4 k hk]
  have f6 : ∀ k, k ≠ b → s6.1 k = c.1 k := fun k hk => by rw [e6, ui_ne hk, f5 k hk]
  have f7 : ∀ k, k ≠ b → s7.1 k = c.1 k := fun k hk => by rw [e7, ui_ne hk, f6 k hk]
  have f8 : ∀ k, k ≠ b → s8.1 k = c.1 k := fun k hk => by rw [e8, ui_ne hk, f7 k hk]
  have f9 : ∀ k, k ≠ b → s9.1 k = c.1 k := fun k hk => by rw [e9, ui_ne hk, f8 k hk]
  have f10 : ∀ k, k < b ∨ b + 10 ≤ k → s10.1 k = c.1 k := fun k hk => by rw [e10, ur_ne (by omega), f9 k (by omega)]
  have f11 : ∀ k, k < b ∨ b + 11 ≤ k → s11.1 k = c.1 k := fun k hk => by rw [e11, ur_ne (by omega), f10 k (by omega)]
  have f12 : ∀ k, k < b ∨ b + 12 ≤ k → s12.1 k = c.1 k := fun k hk => by rw [e12, ur_ne (by omega), f11 k (by omega)]
  have f13 : ∀ k, k < b ∨ b + 13 ≤ k → s13.1 k = c.1 k := fun k hk => by rw [e13, ur_ne (by omega), f12 k (by omega)]
  have f14 : ∀ k, k < b ∨ b + 14 ≤ k → s14.1 k = c.1 k := fun k hk => by rw [e14, ur_ne (by omega), f13 k (by omega)]
  have g9 : s14.1 b = s9.1 b := by rw [e14, ur_ne (by omega), e13, ur_ne (by omega), e12, ur_ne (by omega), e11, ur_ne (by omega), e10, ur_ne (by omega)]
  refine ⟨s14, ?_, fun i hi => ?_, fun i hi => ⟨?_, ?_⟩, fun i hi => ?_, fun i hi => ?_, fun i hi => ?_, f14, ?_⟩
  · unfold fX1_copyFrom
    rw [gd_b01 ht, nm_eq, ← e1, nm_eq, ← e3, nm_eq, ← e4, nm_eq, ← e5, nm_eq, ← e6, nm_eq, ← e7, nm_eq, ← e8, nm_eq, ← e9, nm_eq, ← e10, nm_eq, ← e11, nm_eq, ← e12, nm_eq, ← e13, nm_eq, ← e14]
  · have hob : o ≠ b := by omega
    rw [g9]
    rcases (show i = 0 ∨ i = 1 ∨ i = 2 ∨ i = 3 ∨ i = 4 ∨ i = 5 ∨ i = 6 ∨ i = 7 by omega) with rfl | rfl | rfl | rfl | rfl | rfl | rfl | rfl
    · rw [e9, row1, if_neg (by omega), e8, row1, if_neg (by omega), e7, row1, if_neg (by omega), e6, row1, if_neg (by omega), e5, row1, if_neg (by omega), e4, row1, if_neg (by omega), e3, row1, if_neg (by omega), e1, row1, if_pos rfl]
    · rw [e9, row1, if_neg (by omega), e8, row1, if_neg (by omega), e7, row1, if_neg (by omega), e6, row1, if_neg (by omega), e5, row1, if_neg (by omega), e4, row1, if_neg (by omega), e3, row1, if_pos rfl, f1 o hob]
    · rw [e9, row1, if_neg (by omega), e8, row1, if_neg (by omega), e7, row1, if_neg (by omega), e6, row1, if_neg (by omega), e5, row1, if_neg (by omega), e4, row1, if_pos rfl, f3 o hob]
    · rw [e9, row1, if_neg (by omega), e8, row1, if_neg (by omega), e7, row1, if_neg (by omega), e6, row1, if_neg (by omega), e5, row1, if_pos rfl, f4 o hob]
    · rw [e9, row1, if_neg (by omega), e8, row1, if_neg (by omega), e7, row1, if_neg (by omega), e6, row1, if_pos rfl, f5 o hob]
    · rw [e9, row1, if_neg (by omega), e8, row1, if_neg (by omega), e7, row1, if_pos rfl, f6 o hob]
    · rw [e9, row1, if_neg (by omega), e8, row1, if_pos rfl, f7 o hob]
    · rw [e9, row1, if_pos rfl, f8 o hob]
  · rw [e14, ur_ne (by omega), e13, ur_ne (by omega), e12, ur_ne (by omega), e11, ur_ne (by omega), e10, ur_eq, pk_cpy_in (by omega) (by omega), f9 _ (by omega), show 0 + (i - 0) = i by omega]
  · rw [e14, ur_ne (by omega), e13, ur_ne (by omega), e12, ur_ne (by omega), e11, ur_eq, pk_cpy_in (by omega) (by omega), f10 _ (by omega), show 0 + (i - 0) = i by omega]
  · rw [e14, ur_ne (by omega), e13, ur_ne (by omega), e12, ur_eq, pk_cpy_in (by omega) (by omega), f11 _ (by omega), show 0 + (i - 0) = i by omega]
  · rw [e14, ur_ne (by omega), e13, ur_eq, pk_cpy_in (by omega) (by omega), f12 _ (by omega), show 0 + (i - 0) = i by omega]
  · rw [e14, ur_eq, pk_cpy_in (by omega) (by omega), f13 _ (by omega), show 0 + (i - 0) = i by omega]
  · rw [e14, e13, e12, e11, e10, e9, e8, e7, e6, e5, e4, e3, e1]
    rfl
theorem page_copy {b o : Nat} {c : St} (hbo : b + 28 ≤ o ∨ o + 28 ≤ b) (ht : c.1 (o + 14) 0 = nI 0 ∨ c.1 (o + 14) 0 = nI 1) : ∃ c1, fX2_copyFrom b o c = some c1 ∧ PC b o c c1 ∧ (∀ k, k < b ∨ b + 28 ≤ k → c1.1 k = c.1 k) ∧ c1.2 = c.2 := by
  obtain ⟨s2, l1, l2, l3, l4, l5, l6, l7, l8⟩ := land_copy (b := b + 14) (o := o + 14) (c := c) (by omega) ht
  obtain ⟨s3, e3⟩ : ∃ s, s = ur s2 (b + 2) (va_cpy (s2.1 (o + 2)) (s2.1 (b + 2)) 0 0 41) := ⟨_, rfl⟩
  obtain ⟨s4, e4⟩ : ∃ s, s = ur s3 (b + 3) (va_cpy (s3.1 (o + 3)) (s3.1 (b + 3)) 0 0 820) := ⟨_, rfl⟩
  obtain ⟨s5, e5⟩ : ∃ s, s = ui s4 b 3 (s4.1 o 3) := ⟨_, rfl⟩
  obtain ⟨s6, e6⟩ : ∃ s, s = ur s5 (b + 5) (va_cpy (s5.1 (o + 5)) (s5.1 (b + 5)) 0 0 10) := ⟨_, rfl⟩
  obtain ⟨s7, e7⟩ : ∃ s, s = ur s6 (b + 6) (va_cpy (s6.1 (o + 6)) (s6.1 (b + 6)) 0 0 10) := ⟨_, rfl⟩
  obtain ⟨s8, e8⟩ : ∃ s, s = ur s7 (b + 7) (va_cpy (s7.1 (o + 7)) (s7.1 (b + 7)) 0 0 10) := ⟨_, rfl⟩
  obtain ⟨s9, e9⟩ : ∃ s, s = ui s8 b 7 (s8.1 o 7) := ⟨_, rfl⟩
  obtain ⟨s10, e10⟩ : ∃ s, s = ui s9 b 8 (s9.1 o 8) := ⟨_, rfl⟩
  obtain ⟨s11, e11⟩ : ∃ s, s = ui s10 b 9 (s10.1 o 9) := ⟨_, rfl⟩
  have f2 : ∀ k, k < b ∨ b + 28 ≤ k → s2.1 k = c.1 k := fun k hk => l7 k (by omega)
  have f3 : ∀ k, k < b ∨ b + 28 ≤ k → s3.1 k = c.1 k := fun k hk => by rw [e3, ur_ne (by omega), f2 k hk]
  have f4 : ∀ k, k < b ∨ b + 28 ≤ k → s4.1 k = c.1 k := fun k hk => by rw [e4, ur_ne (by omega), f3 k hk]
  have f5 : ∀ k, k < b ∨ b + 28 ≤ k → s5.1 k = c.1 k := fun k hk => by rw [e5, ui_ne (by omega), f4 k hk]
  have f6 : ∀ k, k < b ∨ b + 28 ≤ k → s6.1 k = c.1 k := fun k hk => by rw [e6, ur_ne (by omega), f5 k hk]
  have f7 : ∀ k, k < b ∨ b + 28 ≤ k → s7.1 k = c.1 k := fun k hk => by rw [e7, ur_ne (by omega), f6 k hk]
  have f8 : ∀ k, k < b ∨ b + 28 ≤ k → s8.1 k = c.1 k := fun k hk => by rw [e8, ur_ne (by omega), f7 k hk]
  have f9 : ∀ k, k < b ∨ b + 28 ≤ k → s9.1 k = c.1 k := fun k hk => by rw [e9, ui_ne (by omega), f8 k hk]
  have f10 : ∀ k, k < b ∨ b + 28 ≤ k → s10.1 k = c.1 k := fun k hk => by rw [e10, ui_ne (by omega), f9 k hk]
  have f11 : ∀ k, k < b ∨ b + 28 ≤ k → s11.1 k = c.1 k := fun k hk => by rw [e11, ui_ne (by omega), f10 k hk]
  have g14 : ∀ k, b + 14 ≤ k → k < b + 28 → s11.1 k = s2.1 k := fun k k1 k2 => by rw [e11, ui_ne (by omega), e10, ui_ne (by omega), e9, ui_ne (by omega), e8, ur_ne (by omega), e7, ur_ne (by omega), e6, ur_ne (by omega), e5, ui_ne (by omega), e4, ur_ne (by omega), e3, ur_ne (by omega)]
  refine ⟨s11, ?_, ⟨fun i hi => ?_, fun i hi => ?_, fun i hi => ?_, fun i hi => ⟨?_, ?_, ?_⟩, fun i hi => ⟨?_, ?_, ?_⟩, fun i hi => ?_, fun i hi => ?_, fun i hi => ?_⟩, f11, ?_⟩
  · unfold fX2_copyFrom
    rw [l1, br_some, nm_eq, ← e3, nm_eq, ← e4, nm_eq, ← e5, nm_eq, ← e6, nm_eq, ← e7, nm_eq, ← e8, nm_eq, ← e9, nm_eq, ← e10, nm_eq, ← e11]
  · rcases hi with rfl | rfl | rfl | rfl
    · rw [e11, row1, if_neg (by omega), e10, row1, if_neg (by omega), e9, row1, if_neg (by omega), e8, ur_ne (by omega), e7, ur_ne (by omega), e6, ur_ne (by omega), e5, row1, if_pos rfl, f4 o (by omega)]
    · rw [e11, row1, if_neg (by omega), e10, row1, if_neg (by omega), e9, row1, if_pos rfl, f8 o (by omega)]
    · rw [e11, row1, if_neg (by omega), e10, row1, if_pos rfl, f9 o (by omega)]
    · rw [e11, row1, if_pos rfl, f10 o (by omega)]
  · rw [e11, ui_ne (by omega), e10, ui_ne (by omega), e9, ui_ne (by omega), e8, ur_ne (by omega), e7, ur_ne (by omega), e6, ur_ne (by omega), e5, ui_ne (by omega), e4, ur_ne (by omega), e3, ur_eq, pk_cpy_in (by omega) (by omega), f2 _ (by omega), show 0 + (i - 0) = i by omega]
  · rw [e11, ui_ne (by omega), e10, ui_ne (by omega), e9, ui_ne (by omega), e8, ur_ne (by omega), e7, ur_ne (by omega), e6, ur_ne (by omega), e5, ui_ne (by omega), e4, ur_eq, pk_cpy_in (by omega) (by omega), f3 _ (by omega), show 0 + (i - 0) = i by omega]
  · rw [e11, ui_ne (by omega), e10, ui_ne (by omega), e9, ui_ne (by omega), e8, ur_ne (by omega), e7, ur_ne (by omega), e6, ur_eq, pk_cpy_in (by omega) (by omega), f5 _ (by omega), show 0 + (i - 0) = i by omega]
  · rw [e11, ui_ne (by omega), e10, ui_ne (by omega), e9, ui_ne (by omega), e8, ur_ne (by omega), e7, ur_eq, pk_cpy_in (by omega) (by omega), f6 _ (by omega), show 0 + (i - 0) = i by omega]
  · rw [e11, ui_ne (by omega), e10, ui_ne (by omega), e9, ui_ne (by omega), e8, ur_eq, pk_cpy_in (by omega) (by omega), f7 _ (by omega), show 0 + (i - 0) = i by omega]
  · rw [g14 _ (by omega) (by omega)]
    exact l2 i hi
  · rw [g14 _ (by omega) (by omega)]
    exact (l3 i hi).1
  · rw [g14 _ (by omega) (by omega)]
    exact (l3 i hi).2
  · rw [g14 _ (by omega) (by omega)]
    exact l4 i hi
  · rw [g14 _ (by omega) (by omega)]
    exact l5 i hi
  · rw [g14 _ (by omega) (by omega)]
    exact l6 i hi
  · rw [e11, e10, e9, e8, e7, e6, e5, e4, e3]
    exact l8
def tI : List (Nat × Nat) := [(505, 8), (507, 8), (510, 3), (512, 100), (513, 10), (514, 10), (515, 10), (516, 8), (517, 8), (518, 8), (519, 3), (551, 820)]
theorem carries_im {k : Nat} (hk : k < 4) (p2 : Int32) (m : St) : fX10_carriesAll (nI k) p2 m = gd (bz p2) (carK tR (ui (ui m 500 61 (nI (1100 * k))) 500 62 p2) (fun s => carK [(552, 1)] (ui s 552 0 (s.1 500 52)) (fun s => carK tI (ui s 500 52 (s.1 552 0)) (fun s => some s)))) := by
  unfold fX10_carriesAll
  simp (disch := omega) only [lit_nI, pk_mul, nm_eq, eq_nI]
  have hk4 : (k = 4) = False := eq_false (by omega)
  simp only [hk4, if_false]
  rfl
/-- where a slot of the reference lies in an image -/
theorem image_s {k : Nat} (hk : k < 4) (m : St) : ∃ m1, fX10_carriesAll (nI k) (nI 0) m = some m1 ∧ (∀ t, t ∈ offs (1100 * k) tR → ∀ j, j < t.2.1 → m1.1 559 (t.2.2 + j) = m.1 t.1 j) ∧ m1.1 559 (1100 * k + 50) = m.1 500 52 ∧ (∀ t, t ∈ offs (1100 * k + 51) tI → ∀ j, j < t.2.1 → m1.1 559 (t.2.2 + j) = m.1 t.1 j) ∧ (∀ s x, ¬ (s = 559 ∧ 1100 * k ≤ x ∧ x < 1100 * k + 1100) → s ≠ 552 → ¬ (s = 500 ∧ (x = 61 ∨ x = 62)) → m1.1 s x = m.1 s x) := by
  have hst : ∀ t, t ∈ offs (1100 * k) tR → t.1 ≠ 500 ∧ t.1 ≠ 552 ∧ t.1 ≠ 559 ∧ t.2.2 + t.2.1 ≤ 1100 * k + 50 := by
    simp only [offs, tR, List.mem_cons, List.not_mem_nil, or_false]
    rintro t (rfl | rfl | rfl | rfl | rfl | rfl | rfl) <;> simp only <;> omega
  have hsi : ∀ t, t ∈ offs (1100 * k + 51) tI → t.1 ≠ 500 ∧ t.1 ≠ 552 ∧ t.1 ≠ 559 := by
    simp only [offs, tI, List.mem_cons, List.not_mem_nil, or_false]
    rintro t (rfl | rfl | rfl | rfl | rfl | rfl | rfl | rfl | rfl | rfl | rfl | rfl) <;> simp only <;> omega
  have et : tot tR = 50 := rfl
  have ei : tot tI = 996 := rfl
  have e1 : tot [(552, 1)] = 1 := rfl
  obtain ⟨mA, a1, a2, a3, a4, a5⟩ := carK_s tR (1100 * k) (ui (ui m 500 61 (nI (1100 * k))) 500 62 (nI 0)) (by decide) (by rw [et]; omega) (by simp only [ui_rd, if_true]) (by simp only [ui_rd, if_true, Nat.reduceEqDiff, if_false])
  rw [et] at a3 a4
  have a62 : mA.1 500 62 = nI 0 := by
    rw [a3 500 62 (by omega) (by omega)]
    simp only [ui_rd, if_true]
  have a52 : mA.1 500 52 = m.1 500 52 := by
    rw [a3 500 52 (by omega) (by omega)]
    simp only [ui_rd, if_true, Nat.reduceEqDiff, if_false]
  obtain ⟨mB, b1, b2, b3, b4, b5⟩ := carK_s [(552, 1)] (1100 * k + 50) (ui mA 552 0 (mA.1 500 52)) (by decide) (by rw [e1]; omega) (by simp only [ui_rd, Nat.reduceEqDiff, if_false]; exact a62) (by simp only [ui_rd, Nat.reduceEqDiff, if_false]; exact a4)
  rw [e1] at b3 b4
  have b52 : mB.1 552 0 = m.1 500 52 := by
    rw [b3 552 0 (by omega) (by omega)]
    simp only [ui_rd, if_true]
    exact a52
  obtain ⟨mC, c1, c2, c3, c4, c5⟩ := carK_s tI (1100 * k + 51) (ui mB 500 52 (mB.1 552 0)) (by decide) (by rw [ei]; omega) (by simp only [ui_rd, Nat.reduceEqDiff, if_false, if_true]; rw [b3 500 62 (by omega) (by omega)]; simp only [ui_rd, Nat.reduceEqDiff, if_false]; exact a62) (by simp only [ui_rd, Nat.reduceEqDiff, if_false, if_true]; exact b4)
  rw [ei] at c3
  -- what stays of each step
  have fA : ∀ s x, ¬ (s = 559 ∧ 1100 * k ≤ x ∧ x < 1100 * k + 50) → ¬ (s = 500 ∧ (x = 61 ∨ x = 62)) → mA.1 s x = m.1 s x := by
    intro s x h1 h2
    rw [a3 s x h1 (by omega)]
    simp only [ui_rd]
    by_cases s5 : s = 500
    · rw [if_pos s5, if_neg (by omega), if_pos s5, if_neg (by omega)]
    · rw [if_neg s5, if_neg s5]
  have fB : ∀ s x, ¬ (s = 559 ∧ 1100 * k + 50 ≤ x ∧ x < 1100 * k + 51) → s ≠ 552 → ¬ (s = 500 ∧ x = 61) → mB.1 s x = mA.1 s x := by
    intro s x h1 h2 h3
    rw [b3 s x (by omega) h3, ui_rd, if_neg h2]
  have fC : ∀ s x, ¬ (s = 559 ∧ 1100 * k + 51 ≤ x ∧ x < 1100 * k + 1047) → ¬ (s = 500 ∧ (x = 61 ∨ x = 52)) → mC.1 s x = mB.1 s x := by
    intro s x h1 h2
    rw [c3 s x (by omega) (by omega), ui_rd]
    by_cases s5 : s = 500
    · rw [if_pos s5, if_neg (by omega)]
    · rw [if_neg s5]
  refine ⟨mC, ?_, fun t ht j hj => ?_, ?_, fun t ht j hj => ?_, fun s x h1 h2 h3 => ?_⟩
  · rw [carries_im hk, a1, b1, c1]
    rfl
  · obtain ⟨h5, h6, h7, h8⟩ := hst t ht
    rw [fC 559 _ (by omega) (by omega), fB 559 _ (by omega) (by omega) (by omega), a2 t ht j hj]
    simp only [ui_rd, h5, if_false]
  · rw [fC 559 _ (by omega) (by omega)]
    have := b2 (552, 1, 1100 * k + 50) (by simp [offs]) 0 (show 0 < 1 by omega)
    simp only [Nat.add_zero] at this
    rw [this]
    simp only [ui_rd, if_true]
    exact a52
  · obtain ⟨h5, h6, h7⟩ := hsi t ht
    rw [c2 t ht j hj, ui_rd, if_neg h5, fB _ _ (by omega) h6 (by omega), fA _ _ (by omega) (by omega)]
  · by_cases h52 : s = 500 ∧ x = 52
    · obtain ⟨rfl, rfl⟩ := h52
      rw [c3 500 52 (by omega) (by omega), ui_rd, if_pos rfl, if_pos rfl, b52]
    · rw [fC s x (by omega) (by omega), fB s x (by omega) h2 (by omega), fA s x (by omega) h3]
theorem image_l {k : Nat} (hk : k < 4) (m : St) : ∃ m1, fX10_carriesAll (nI k) (nI 1) m = some m1 ∧ (∀ t, t ∈ offs (1100 * k) tR → ∀ j, j < t.2.1 → m1.1 t.1 j = m.1 559 (t.2.2 + j)) ∧ m1.1 500 52 = m.1 559 (1100 * k + 50) ∧ (∀ t, t ∈ offs (1100 * k + 51) tI → ∀ j, j < t.2.1 → m1.1 t.1 j = m.1 559 (t.2.2 + j)) ∧ (∀ s x, s ≠ 502 → s ≠ 551 → s ≠ 552 → ¬ (503 ≤ s ∧ s ≤ 519) → ¬ (s = 500 ∧ (x = 61 ∨ x = 62 ∨ x = 52)) → m1.1 s x = m.1 s x) := by
  have hst : ∀ t, t ∈ tR → t.1 = 502 ∨ t.1 = 503 ∨ t.1 = 504 ∨ t.1 = 506 ∨ t.1 = 508 ∨ t.1 = 509 ∨ t.1 = 511 := by
    simp only [tR, List.mem_cons, List.not_mem_nil, or_false]
    rintro t (rfl | rfl | rfl | rfl | rfl | rfl | rfl) <;> decide
  have hsi : ∀ t, t ∈ tI → t.1 = 505 ∨ t.1 = 507 ∨ t.1 = 510 ∨ (512 ≤ t.1 ∧ t.1 ≤ 519) ∨ t.1 = 551 := by
    simp only [tI, List.mem_cons, List.not_mem_nil, or_false]
    rintro t (rfl | rfl | rfl | rfl | rfl | rfl | rfl | rfl | rfl | rfl | rfl | rfl) <;> decide
  have et : tot tR = 50 := rfl
  have ei : tot tI = 996 := rfl
  have e1 : tot [(552, 1)] = 1 := rfl
  obtain ⟨mA, a1, a2, a3, a4, a5⟩ := carK_l tR (1100 * k) (ui (ui m 500 61 (nI (1100 * k))) 500 62 (nI 1)) (by decide) (by decide) (by rw [et]; omega) (by simp only [ui_rd, if_true]) (by simp only [ui_rd, if_true, Nat.reduceEqDiff, if_false])
  rw [et] at a4
  have fA : ∀ s x, (∀ t, t ∈ tR → s ≠ t.1) → ¬ (s = 500 ∧ (x = 61 ∨ x = 62)) → mA.1 s x = m.1 s x := by
    intro s x h1 h2
    rw [a3 s x (fun t ht e => absurd e (h1 t ht)) (by omega)]
    simp only [ui_rd]
    by_cases s5 : s = 500
    · rw [if_pos s5, if_neg (by omega), if_pos s5, if_neg (by omega)]
    · rw [if_neg s5, if_neg s5]
  have a62 : mA.1 500 62 = nI 1 := by
    rw [a3 500 62 (fun t ht e => by have := hst t ht; omega) (by omega)]
    simp only [ui_rd, if_true]
  obtain ⟨mB, b1, b2, b3, b4, b5⟩ := carK_l [(552, 1)] (1100 * k + 50) (ui mA 552 0 (mA.1 500 52)) (by decide) (by decide) (by rw [e1]; omega) (by simp only [ui_rd, Nat.reduceEqDiff, if_false]; exact a62) (by simp only [ui_rd, Nat.reduceEqDiff, if_false]; exact a4)
  rw [e1] at b4
  have fB : ∀ s x, s ≠ 552 → ¬ (s = 500 ∧ x = 61) → mB.1 s x = mA.1 s x := by
    intro s x h1 h2
    rw [b3 s x (fun t ht e => by
      have h : t = (552, 1) := by simpa using ht
      subst h
      exact absurd e h1) h2, ui_rd, if_neg h1]
  have m559 : ∀ x, mA.1 559 x = m.1 559 x := fun x => fA 559 x (fun t ht e => by have := hst t ht; omega) (by omega)
  have b52 : mB.1 552 0 = m.1 559 (1100 * k + 50) := by
    have := b2 (552, 1, 1100 * k + 50) (by simp [offs]) 0 (show 0 < 1 by omega)
    simp only [Nat.add_zero] at this
    rw [this, ui_rd, if_neg (by omega), m559]
  obtain ⟨mC, c1, c2, c3, c4, c5⟩ := carK_l tI (1100 * k + 51) (ui mB 500 52 (mB.1 552 0)) (by decide) (by decide) (by rw [ei]; omega) (by simp only [ui_rd, Nat.reduceEqDiff, if_false, if_true]; rw [fB 500 62 (by omega) (by omega)]; exact a62) (by simp only [ui_rd, Nat.reduceEqDiff, if_false, if_true]; exact b4)
  have fC : ∀ s x, (∀ t, t ∈ tI → s ≠ t.1) → ¬ (s = 500 ∧ (x = 61 ∨ x = 52)) → mC.1 s x = mB.1 s x := by
    intro s x h1 h2
    rw [c3 s x (fun t ht e => absurd e (h1 t ht)) (by omega), ui_rd]
    by_cases s5 : s = 500
    · rw [if_pos s5, if_neg (by omega)]
    · rw [if_neg s5]
  refine ⟨mC, ?_, fun t ht j hj => ?_, ?_, fun t ht j hj => ?_, fun s x h1 h2 h3 h4 h5 => ?_⟩
  · rw [carries_im hk, a1, b1, c1]
    rfl
  · have h7 := hst _ (offs_of tR _ ht)
    simp only at h7
    rw [fC _ _ (fun t' ht' e => by have := hsi t' ht'; omega) (by omega), fB _ _ (by omega) (by omega), a2 t ht j hj]
    simp only [ui_rd, Nat.reduceEqDiff, if_false]
  · rw [c3 500 52 (fun t ht e => by have := hsi t ht; omega) (by omega), ui_rd, if_pos rfl, if_pos rfl, b52]
  · rw [c2 t ht j hj, ui_rd, if_neg (by omega), fB 559 _ (by omega) (by omega), m559]
  · rw [fC s x (fun t ht e => by have := hsi t ht; omega) (by omega), fB s x h3 (by omega), fA s x (fun t ht e => by have := hst t ht; omega) (by omega)]
