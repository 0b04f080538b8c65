/-! numbers of a duchy's text -/
theorem dfail_v {c : St} {a x : Nat} (h6 : c.1 20 6 = nI a) : fX0_fail (nI x) c = some (nI 0, ui c 30 2 (nI (1 + 8 * a + x))) := by
  unfold fX0_fail
  rw [h6]
  simp only [lit_nI, pk_mul, nI_add, nm_eq]
theorem rnum_v {f i k a v : Nat} {c : St} {hi : Int32} (hf : f < 6) (hi3 : i < 3) (h5 : c.1 20 5 = nI k) (h6 : c.1 20 6 = nI a) (h7 : c.1 20 7 = nI v) (k9 : k < 40) (v9 : v < 100000) (hm : (if mostT.getD (f * 3 + i) (nI 0) = -nI 1 then c.1 100 4 - nI 1 else mostT.getD (f * 3 + i) (nI 0)) = hi) : fX0_readNumber (nI f) (nI i) c = if k = 21 ∨ k = 22 then (if k = 22 ∨ hi < nI v ∨ (f = 4 ∧ i = 1 ∧ v < 1) ∨ (f = 2 ∧ i = 1 ∧ nI v = c.1 32 0) then some (nI 0, ui c 30 2 (nI (1 + 8 * a + 1))) else br (fX7_step (ui c 32 i (nI v))) (fun s => some (nI 1, s))) else some (nI 0, ui c 30 2 (nI (1 + 8 * a + 0))) := by
  have hfl : ∀ x, bw (fX0_fail (nI x) c) (fun x5 s4 => gd (bz x5) (some (x5, s4))) = some (nI 0, ui c 30 2 (nI (1 + 8 * a + x))) := by
    intro x
    rw [dfail_v h6, bw_some]
    rfl
  have h118 : ∀ y6 z0 : Int32, fX0_readNumber_B118 (nI f) (nI i) (nI v) hi y6 z0 c = if k = 22 ∨ hi < nI v ∨ ¬ y6 = nI 0 ∨ ¬ z0 = nI 0 then some (nI 0, ui c 30 2 (nI (1 + 8 * a + 1))) else br (fX7_step (ui c 32 i (nI v))) (fun s => some (nI 1, s)) := by
    intro y6 z0
    unfold fX0_readNumber_B118
    simp (disch := omega) only [lit_nI, h5, eq_nI, hfl, gd_ix, cl_nI, nm_eq]
    by_cases q1 : k = 22
    · rw [if_pos q1, if_pos (Or.inl q1)]
    · rw [if_neg q1]
      by_cases q2 : hi < nI v
      · rw [if_pos q2, if_pos (Or.inr (Or.inl q2))]
      · rw [if_neg q2]
        by_cases q3 : y6 = nI 0
        · rw [if_pos q3]
          by_cases q4 : z0 = nI 0
          · rw [if_pos q4, if_neg (fun z => z.elim q1 (fun z => z.elim q2 (fun z => z.elim (fun w => w q3) (fun w => w q4))))]
          · rw [if_neg q4, if_pos (Or.inr (Or.inr (Or.inr q4)))]
        · rw [if_neg q3, if_pos (Or.inr (Or.inr (Or.inl q3)))]
  have h91 : ∀ y6 : Int32, fX0_readNumber_B91 (nI f) (nI i) (nI v) hi y6 c = if k = 22 ∨ hi < nI v ∨ ¬ y6 = nI 0 ∨ (f = 2 ∧ i = 1 ∧ nI v = c.1 32 0) then some (nI 0, ui c 30 2 (nI (1 + 8 * a + 1))) else br (fX7_step (ui c 32 i (nI v))) (fun s => some (nI 1, s)) := by
    intro y6
    unfold fX0_readNumber_B91 fX0_readNumber_B117
    simp (disch := omega) only [lit_nI, eq_nI, h118]
    by_cases q1 : f = 2
    · by_cases q2 : i = 1
      · by_cases q3 : nI v = c.1 32 0
        · rw [if_pos q1, if_pos q2, if_pos q3, if_pos (Or.inr (Or.inr (Or.inr (by decide)))), if_pos (Or.inr (Or.inr (Or.inr ⟨q1, q2, q3⟩)))]
        · rw [if_pos q1, if_pos q2, if_neg q3]
          simp only [q1, q2, q3, and_false, not_true, or_false]
      · rw [if_pos q1, if_neg q2]
        simp only [q1, q2, and_false, false_and, not_true, or_false]
    · rw [if_neg q1]
      simp only [q1, false_and, not_true, or_false]
  have h69 : fX0_readNumber_B69 (nI f) (nI i) (nI v) hi c = if k = 22 ∨ hi < nI v ∨ (f = 4 ∧ i = 1 ∧ v < 1) ∨ (f = 2 ∧ i = 1 ∧ nI v = c.1 32 0) then some (nI 0, ui c 30 2 (nI (1 + 8 * a + 1))) else br (fX7_step (ui c 32 i (nI v))) (fun s => some (nI 1, s)) := by
    unfold fX0_readNumber_B69 fX0_readNumber_B90
    simp (disch := omega) only [lit_nI, eq_nI, le_nI, h91]
    by_cases q1 : f = 4
    · by_cases q2 : i = 1
      · by_cases q3 : 1 ≤ v
        · rw [if_pos q1, if_pos q2, if_pos q3]
          simp only [show ¬ v < 1 by omega, and_false, not_true, false_or]
        · rw [if_pos q1, if_pos q2, if_neg q3, if_pos (Or.inr (Or.inr (Or.inl (by decide)))), if_pos (Or.inr (Or.inr (Or.inl ⟨q1, q2, by omega⟩)))]
      · rw [if_pos q1, if_neg q2]
        simp only [q2, and_false, false_and, not_true, false_or]
    · rw [if_neg q1]
      simp only [q1, false_and, not_true, false_or]
  have h30 : fX0_readNumber_B30 (nI f) (nI i) c = fX0_readNumber_B69 (nI f) (nI i) (nI v) hi c := by
    unfold fX0_readNumber_B30
    simp (disch := omega) only [lit_nI, h7, nm_eq, pk_mul, nI_add, gd_ix, cl_nI]
    rw [← hm]
    split <;> rfl
  unfold fX0_readNumber
  simp (disch := omega) only [lit_nI, h5, eq_nI, hfl, h30, h69]
  by_cases q1 : k = 21
  · rw [if_pos q1, if_pos (show k = 21 ∨ k = 22 from Or.inl q1)]
  · rw [if_neg q1]
    by_cases q2 : k = 22
    · rw [if_pos q2, if_pos (show k = 21 ∨ k = 22 from Or.inr q2)]
    · rw [if_neg q2, if_neg (show ¬ (k = 21 ∨ k = 22) by omega)]
theorem flt_rd {m : St} {a k : Nat} : (flt m a k).1 500 31 = nI (1 + 8 * a + k) := by
  unfold flt
  rw [ui_rd, if_pos rfl, if_pos rfl]
theorem nz_nI {n : Nat} (h0 : 0 < n) (h : n < 2147483648) : ¬ nI n = nI 0 := by
  rw [eq_nI (by omega) (by omega)]
  omega
theorem amt_v {t : Nat → Nat} {T S j p k e v : Nat} {pos : Nat → Nat} {c m : St} (h : LK t T S pos j p c m) (h0 : m.1 500 31 = nI 0) (hk : c.1 20 5 = nI k) (k9 : k < 40) (ht : Tok t T (pos j) k e v) (v9 : v < 100000) (lo hi : Int32) : fX10_amount lo hi m = if k = 21 ∨ k = 22 then (if k = 22 ∨ ¬ (lo.toInt ≤ (v : Int) ∧ (v : Int) ≤ hi.toInt) then some (nI v, flt (ui m 500 30 (nI e)) (pos j) 1) else some (nI v, ui m 500 30 (nI e))) else some (nI 0, flt (ui m 500 30 (nI (pos j))) (pos j) 0) := by
  obtain ⟨b1, b2⟩ := h.blank
  obtain ⟨p1, p2, p3⟩ := h.pos
  have b0 : (ui m 500 30 (nI (pos j))).1 500 31 = nI 0 := by
    rw [ui_rd, if_pos rfl, if_neg (by omega)]
    exact h0
  have b30 : (ui m 500 30 (nI (pos j))).1 500 30 = nI (pos j) := by
    rw [ui_rd, if_pos rfl, if_pos rfl]
  have hz : ∀ s x, ¬ (flt s (pos j) x).1 500 31 = nI 0 ∨ 1000 < x := by
    intro s x
    by_cases q : 1000 < x
    · exact Or.inr q
    · rw [flt_rd]
      exact Or.inl (nz_nI (by omega) (by omega))
  unfold fX10_amount
  simp only [lit_nI]
  rw [b1, br_some, nm_eq, b30, if_pos b0]
  rcases digits_v b2 b0 hk k9 ht v9 with ⟨q, e1⟩ | ⟨q, e1⟩ | ⟨q, e1⟩
  · rw [e1, bw_some, if_neg q]
    unfold fX10_amount_B26
    simp only [lit_nI]
    rw [if_neg ((hz _ 0).resolve_right (by omega))]
  · rw [e1, bw_some, if_pos (Or.inr q), if_pos (Or.inl q), ui_ui]
    unfold fX10_amount_B26
    simp only [lit_nI]
    rw [if_neg ((hz _ 1).resolve_right (by omega))]
  · rw [e1, bw_some, if_pos (Or.inl q), ui_ui]
    have e0 : (ui m 500 30 (nI e)).1 500 31 = nI 0 := by
      rw [ui_rd, if_pos rfl, if_neg (by omega)]
      exact h0
    unfold fX10_amount_B26
    simp only [lit_nI]
    rw [if_pos e0, in_t (t64 lo) (t64 hi), br_some, nI_toInt (by omega), fails_v e0, br_some]
    by_cases z : lo.toInt ≤ (v : Int) ∧ (v : Int) ≤ hi.toInt
    · rw [if_pos z, if_neg (by rw [n10]; exact id), if_neg (show ¬ (k = 22 ∨ ¬ (lo.toInt ≤ (v : Int) ∧ (v : Int) ≤ hi.toInt)) by omega)]
    · rw [if_neg z, if_pos rfl, if_pos (Or.inr z)]
/-- what the reference's reading of a duchy may change -/
def MD (m m1 : St) : Prop := (∀ k i, ¬ (520 ≤ k ∧ k ≤ 528) → ¬ (k = 500 ∧ (i = 30 ∨ i = 31)) → m1.1 k i = m.1 k i) ∧ m1.2 = m.2
theorem MD.rf {m : St} : MD m m := ⟨fun _ _ _ _ => rfl, rfl⟩
theorem MD.tr {m m1 m2 : St} (h1 : MD m m1) (h2 : MD m1 m2) : MD m m2 := ⟨fun k i a b => (h2.1 k i a b).trans (h1.1 k i a b), h2.2.trans h1.2⟩
theorem MD.ui {m : St} {k i : Nat} {v : Int32} (h : (520 ≤ k ∧ k ≤ 528) ∨ (k = 500 ∧ (i = 30 ∨ i = 31))) : MD m (ui m k i v) := by
  refine ⟨fun k' i' h1 h2 => ?_, rfl⟩
  rw [ui_rd]
  by_cases e : k' = k
  · rw [if_pos e, if_neg (by omega)]
  · rw [if_neg e]
/-- the reference has met a fault -/
def FD (F : Nat) (t : Nat → Nat) (T : Nat) (m1 : St) : Prop := TM t T m1 ∧ (∃ p, p ≤ 1000 ∧ m1.1 500 30 = nI p) ∧ m1.1 500 31 = nI F ∧ 0 < F ∧ F < 4000
theorem FD.amt {F T : Nat} {t : Nat → Nat} {m : St} (h : FD F t T m) (lo hi : Int32) : ∃ m1, fX10_amount lo hi m = some (nI 0, m1) ∧ FD F t T m1 ∧ MD m m1 ∧ ∀ k, k ≠ 500 → m1.1 k = m.1 k := by
  obtain ⟨h1, ⟨p, p1, p2⟩, h3, h4, h5⟩ := h
  have hT := h1.1
  have hs : sk t T p ≤ 1000 := by
    by_cases q : p ≤ T
    · have : sk t T p ≤ T := rE_le q
      omega
    · have : sk t T p = p := rE_st (by omega)
      omega
  have e31 : (ui m 500 30 (nI (sk t T p))).1 500 31 = nI F := by
    rw [ui_rd, if_pos rfl, if_neg (by omega)]
    exact h3
  refine ⟨ui m 500 30 (nI (sk t T p)), ?_, ⟨h1.ui (by omega) (by omega), ⟨_, hs, by rw [ui_rd, if_pos rfl, if_pos rfl]⟩, e31, h4, h5⟩, MD.ui (Or.inr ⟨rfl, Or.inl rfl⟩), fun k hk => ui_ne hk⟩
  unfold fX10_amount fX10_amount_B26
  simp only [lit_nI]
  rw [blanks_v h1 p2 (by omega), br_some, nm_eq, e31, if_neg (nz_nI h4 (by omega)), if_neg (nz_nI h4 (by omega))]
theorem FD.blk {F T : Nat} {t : Nat → Nat} {m : St} (h : FD F t T m) : ∃ m1, fX10_blanks m = some m1 ∧ FD F t T m1 ∧ MD m m1 ∧ ∀ k, k ≠ 500 → m1.1 k = m.1 k := by
  obtain ⟨h1, ⟨p, p1, p2⟩, h3, h4, h5⟩ := h
  have hT := h1.1
  have hs : sk t T p ≤ 1000 := by
    by_cases q : p ≤ T
    · have : sk t T p ≤ T := rE_le q
      omega
    · have : sk t T p = p := rE_st (by omega)
      omega
  have e31 : (ui m 500 30 (nI (sk t T p))).1 500 31 = nI F := by
    rw [ui_rd, if_pos rfl, if_neg (by omega)]
    exact h3
  exact ⟨ui m 500 30 (nI (sk t T p)), blanks_v h1 p2 (by omega), ⟨h1.ui (by omega) (by omega), ⟨_, hs, by rw [ui_rd, if_pos rfl, if_pos rfl]⟩, e31, h4, h5⟩, MD.ui (Or.inr ⟨rfl, Or.inl rfl⟩), fun k hk => ui_ne hk⟩
theorem FD.nz {F T : Nat} {t : Nat → Nat} {m : St} (h : FD F t T m) : ¬ m.1 500 31 = nI 0 := by
  rw [h.2.2.1]
  exact nz_nI h.2.2.2.1 (by have := h.2.2.2.2; omega)
theorem FD.ui {F T k i : Nat} {t : Nat → Nat} {m : St} {v : Int32} (h : FD F t T m) (hk : k ≠ 540) (hk5 : k ≠ 500) : FD F t T (ui m k i v) := by
  obtain ⟨h1, ⟨p, p1, p2⟩, h3, h4⟩ := h
  exact ⟨h1.ui hk (by omega), ⟨p, p1, by rw [ui_ne (by omega)]; exact p2⟩, by rw [ui_ne (by omega)]; exact h3, h4⟩
/-- a number was told -/
def NC (i v : Nat) (c c1 : St) : Prop := (∀ k, k ≠ 20 → k ≠ 32 → c1.1 k = c.1 k) ∧ c1.1 32 i = nI v ∧ (∀ x, x ≠ i → c1.1 32 x = c.1 32 x) ∧ c1.2 = c.2
theorem num_g {t : Nat → Nat} {T S j p f i lo : Nat} {pos : Nat → Nat} {c m : St} {hi : Int32} (h : LK t T S pos j p c m) (h0 : m.1 500 31 = nI 0) (hf : f < 6) (hi3 : i < 3) (hlo : lo = if f = 4 ∧ i = 1 then 1 else 0) (hm : (if mostT.getD (f * 3 + i) (nI 0) = -nI 1 then c.1 100 4 - nI 1 else mostT.getD (f * 3 + i) (nI 0)) = hi) :
    (∃ F x m1, fX0_readNumber (nI f) (nI i) c = some (nI 0, ui c 30 2 (nI F)) ∧ fX10_amount (nI lo) hi m = some (x, m1) ∧ FD F t T m1 ∧ MD m m1 ∧ ∀ k, k ≠ 500 → m1.1 k = m.1 k) ∨ (∃ v e c1, v < 100000 ∧ lo ≤ v ∧ (v : Int) ≤ hi.toInt ∧ fX0_readNumber (nI f) (nI i) c = some (nI 1, c1) ∧ fX10_amount (nI lo) hi m = some (nI v, ui m 500 30 (nI e)) ∧ LK t T S pos (j + 1) e c1 (ui m 500 30 (nI e)) ∧ NC i v c c1 ∧ (f = 2 → i = 1 → ¬ nI v = c.1 32 0)) ∨ (f = 2 ∧ i = 1 ∧ ∃ v e, nI v = c.1 32 0 ∧ (v : Int) ≤ hi.toInt ∧ fX0_readNumber (nI f) (nI i) c = some (nI 0, ui c 30 2 (nI (1 + 8 * pos j + 1))) ∧ fX10_amount (nI lo) hi m = some (nI v, ui m 500 30 (nI e)) ∧ e ≤ T) := by
  obtain ⟨k, e, v, k9, v9, t5, t6, t7, tk, p1, p2, e9, tj, tS, tn⟩ := h.tok
  have hT := h.pos.1
  have hlo2 : lo ≤ 1 := by
    rw [hlo]
    split <;> omega
  have R := rnum_v hf hi3 t5 t6 t7 k9 v9 hm
  have A := amt_v h h0 t5 k9 tk v9 (nI lo) hi
  rw [nI_toInt (show lo < 2 ^ 31 by omega)] at A
  have fd : ∀ q x, q ≤ T → x ≤ 4 → FD (1 + 8 * pos j + x) t T (flt (ui m 500 30 (nI q)) (pos j) x) := by
    intro q x hq hx
    refine ⟨(h.2.2.2.1.ui (by omega) (by omega)).ui (by omega) (by omega), ⟨q, by omega, ?_⟩, flt_rd, by omega, by omega⟩
    unfold flt
    rw [ui_rd, if_pos rfl, if_neg (by omega), ui_rd, if_pos rfl, if_pos rfl]
  have md : ∀ q x, MD m (flt (ui m 500 30 (nI q)) (pos j) x) ∧ ∀ k, k ≠ 500 → (flt (ui m 500 30 (nI q)) (pos j) x).1 k = m.1 k := by
    intro q x
    unfold flt
    exact ⟨(MD.ui (Or.inr ⟨rfl, Or.inl rfl⟩)).tr (MD.ui (Or.inr ⟨rfl, Or.inr rfl⟩)), fun k hk => by rw [ui_ne hk, ui_ne hk]⟩
  by_cases q : k = 21 ∨ k = 22
  · rw [if_pos q] at R A
    by_cases q2 : k = 22 ∨ ¬ ((lo : Int) ≤ (v : Int) ∧ (v : Int) ≤ hi.toInt)
    · rw [if_pos q2] at A
      rw [if_pos (by
        rcases q2 with z | z
        · exact Or.inl z
        · by_cases y : (v : Int) ≤ hi.toInt
          · refine Or.inr (Or.inr (Or.inl ?_))
            have hl : ¬ lo ≤ v := by omega
            have : f = 4 ∧ i = 1 := by
              refine Decidable.byContradiction (fun w => ?_)
              rw [if_neg w] at hlo
              omega
            exact ⟨this.1, this.2, by omega⟩
          · refine Or.inr (Or.inl ?_)
            rw [Int32.lt_iff_toInt_lt, nI_toInt (by omega)]
            omega)] at R
      exact Or.inl ⟨_, _, _, R, A, fd e 1 e9 (by omega), (md e 1).1, (md e 1).2⟩
    · rw [if_neg q2] at A
      have hk21 : k = 21 := by omega
      have q3 : (lo : Int) ≤ (v : Int) ∧ (v : Int) ≤ hi.toInt := Decidable.byContradiction (fun z => q2 (Or.inr z))
      have hj : j < S := tn (by omega)
      obtain ⟨j1, j2, j3⟩ := tj hj
      by_cases q4 : f = 2 ∧ i = 1 ∧ nI v = c.1 32 0
      · rw [if_pos (Or.inr (Or.inr (Or.inr q4)))] at R
        exact Or.inr (Or.inr ⟨q4.1, q4.2.1, v, e, q4.2.2, q3.2, R, A, e9⟩)
      · rw [if_neg (by
          rintro (z | z | z | z)
          · omega
          · rw [Int32.lt_iff_toInt_lt, nI_toInt (by omega)] at z
            omega
          · rw [if_pos ⟨z.1, z.2.1⟩] at hlo
            omega
          · exact q4 z)] at R
        have hlk : LK t T S pos j p (ui c 32 i (nI v)) m := h.of (fun k k1 k2 => ui_ne (by omega)) rfl rfl rfl
        obtain ⟨c1, s1, s2, s3⟩ := hlk.step hj j3 e9
        rw [s1, br_some] at R
        refine Or.inr (Or.inl ⟨v, e, c1, v9, by omega, q3.2, R, A, s2, ⟨fun k k1 k2 => by rw [s3.1 k k1, ui_ne k2], ?_, fun x hx => ?_, by rw [s3.2.2]; rfl⟩, fun z1 z2 z3 => q4 ⟨z1, z2, z3⟩⟩)
        · rw [s3.1 32 (by omega), ui_rd, if_pos rfl, if_pos rfl]
        · rw [s3.1 32 (by omega), ui_rd, if_pos rfl, if_neg hx]
  · rw [if_neg q] at R A
    exact Or.inl ⟨_, _, _, R, A, fd (pos j) 0 p2 (by omega), (md (pos j) 0).1, (md (pos j) 0).2⟩
theorem num_v {t : Nat → Nat} {T S j p f i lo : Nat} {pos : Nat → Nat} {c m : St} {hi : Int32} (h : LK t T S pos j p c m) (h0 : m.1 500 31 = nI 0) (hf : f < 6) (hi3 : i < 3) (hne : ¬ (f = 2 ∧ i = 1)) (hlo : lo = if f = 4 ∧ i = 1 then 1 else 0) (hm : (if mostT.getD (f * 3 + i) (nI 0) = -nI 1 then c.1 100 4 - nI 1 else mostT.getD (f * 3 + i) (nI 0)) = hi) :
    (∃ F x m1, fX0_readNumber (nI f) (nI i) c = some (nI 0, ui c 30 2 (nI F)) ∧ fX10_amount (nI lo) hi m = some (x, m1) ∧ FD F t T m1 ∧ MD m m1 ∧ ∀ k, k ≠ 500 → m1.1 k = m.1 k) ∨ (∃ v e c1, v < 100000 ∧ lo ≤ v ∧ (v : Int) ≤ hi.toInt ∧ fX0_readNumber (nI f) (nI i) c = some (nI 1, c1) ∧ fX10_amount (nI lo) hi m = some (nI v, ui m 500 30 (nI e)) ∧ LK t T S pos (j + 1) e c1 (ui m 500 30 (nI e)) ∧ NC i v c c1) := by
  rcases num_g h h0 hf hi3 hlo hm with q | ⟨v, e, c1, a1, a2, a3, a4, a5, a6, a7, a8⟩ | ⟨q1, q2, -⟩
  · exact Or.inl q
  · exact Or.inr ⟨v, e, c1, a1, a2, a3, a4, a5, a6, a7⟩
  · exact absurd ⟨q1, q2⟩ hne
