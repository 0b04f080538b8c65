/-! acts are kept and taken back -/
theorem ur_rd {s : St} {k k' i' : Nat} {f : Nat → Int32} : (ur s k f).1 k' i' = if k' = k then f i' else s.1 k' i' := by
  show (va_up s.1 k f) k' i' = _
  unfold va_up
  by_cases h : k' = k
  · rw [if_pos h, if_pos h]
  · rw [if_neg h, if_neg h]
theorem cpk_n {a b n n0 n1 : Nat} (ha : a + n ≤ n0) (hb : b + n ≤ n1) (h0 : n0 < 100000) (h1 : n1 < 100000) : cpk (nI a) (nI b) (nI n) n0 n1 = true := by
  unfold cpk
  refine decide_eq_true ⟨?_, ?_, ?_, ?_, ?_⟩
  · simp only [lit_nI]
    rw [nI_lt0 (by omega)]
    exact id
  · simp only [lit_nI]
    rw [nI_lt0 (by omega)]
    exact id
  · simp only [lit_nI]
    rw [nI_lt0 (by omega)]
    exact id
  · rw [cl_nI (by omega), cl_nI (by omega)]
    exact ha
  · rw [cl_nI (by omega), cl_nI (by omega)]
    exact hb
theorem remember_c {c : St} {P : Nat} (hP : P ≤ 20) (h : c.1 120 3 = nI P) : ∃ P' c1, (P' = if P < 20 then P else 19) ∧ fX2_remember 120 c = some c1 ∧ c1.1 120 3 = nI (P' + 1) ∧ (∀ j, j < 41 → c1.1 123 (41 * P' + j) = c.1 122 j) ∧ (∀ j, j < 41 * P' → c1.1 123 j = if P < 20 then c.1 123 j else c.1 123 (j + 41)) ∧ (∀ i, i ≠ 3 → c1.1 120 i = c.1 120 i) ∧ (∀ k, k ≠ 120 → k ≠ 123 → c1.1 k = c.1 k) ∧ c1.2 = c.2 := by
  have fin : ∀ (P' : Nat) (s : St), P' < 20 → s.1 120 3 = nI P' → fX2_remember_B32 120 s = some (ui (ur s 123 (va_cpy (s.1 122) (s.1 123) 0 (41 * P') 41)) 120 3 (nI (P' + 1))) := by
    intro P' s hP' hs
    unfold fX2_remember_B32
    simp (disch := omega) only [lit_nI, hs, pk_mul, cpk_n, gd_tt, cl_nI, nm_eq, ur_rd, Nat.reduceAdd, Nat.reduceEqDiff, if_false, nI_add]
    rw [Nat.mul_comm P' 41]
  by_cases hl : P < 20
  · refine ⟨P, ui (ur c 123 (va_cpy (c.1 122) (c.1 123) 0 (41 * P) 41)) 120 3 (nI (P + 1)), by rw [if_pos hl], ?_, ?_, fun j hj => ?_, fun j hj => ?_, fun i hi => ?_, fun k k1 k2 => ?_, rfl⟩
    · unfold fX2_remember
      simp only [lit_nI, h]
      rw [if_pos (by rw [lt_nI (by omega) (by omega)]; exact hl)]
      exact fin P c hl h
    · simp only [ui_rd, if_true]
    · simp only [ui_rd, ur_rd, Nat.reduceEqDiff, if_true, if_false]
      rw [pk_cpy_in (by omega) (by omega), show 0 + (41 * P + j - 41 * P) = j by omega]
    · simp only [ui_rd, ur_rd, Nat.reduceEqDiff, if_true, if_false]
      rw [pk_cpy_out (by omega), if_pos hl]
    · simp only [ui_rd, ur_rd, hi, Nat.reduceEqDiff, if_true, if_false]
    · funext i
      simp only [ui_rd, ur_rd, k1, k2, if_false]
  · have e20 : P = 20 := by omega
    subst e20
    have hs : (ui (ur c 123 (va_cpy (c.1 123) (c.1 123) 41 0 779)) 120 3 (nI 19)).1 120 3 = nI 19 := by
      simp only [ui_rd, if_true]
    refine ⟨19, ui (ur (ui (ur c 123 (va_cpy (c.1 123) (c.1 123) 41 0 779)) 120 3 (nI 19)) 123 (va_cpy ((ui (ur c 123 (va_cpy (c.1 123) (c.1 123) 41 0 779)) 120 3 (nI 19)).1 122) ((ui (ur c 123 (va_cpy (c.1 123) (c.1 123) 41 0 779)) 120 3 (nI 19)).1 123) 0 (41 * 19) 41)) 120 3 (nI 20), by rw [if_neg hl], ?_, ?_, fun j hj => ?_, fun j hj => ?_, fun i hi => ?_, fun k k1 k2 => ?_, rfl⟩
    · unfold fX2_remember
      simp only [lit_nI, h, nm_eq]
      rw [if_neg (by rw [lt_nI (by omega) (by omega)]; exact hl)]
      exact fin 19 _ (by omega) hs
    · simp only [ui_rd, if_true]
    · simp only [ui_rd, ur_rd, Nat.reduceEqDiff, if_true, if_false]
      rw [pk_cpy_in (by omega) (by omega), show 0 + (41 * 19 + j - 41 * 19) = j by omega]
      simp only [ui_rd, ur_rd, Nat.reduceEqDiff, if_true, if_false]
    · simp only [ui_rd, ur_rd, Nat.reduceEqDiff, if_true, if_false]
      rw [pk_cpy_out (by omega)]
      simp only [ui_rd, ur_rd, Nat.reduceEqDiff, if_true, if_false]
      rw [pk_cpy_in (by omega) (by omega), show 41 + (j - 0) = j + 41 by omega, if_neg hl]
    · simp only [ui_rd, ur_rd, hi, Nat.reduceEqDiff, if_true, if_false]
    · funext i
      simp only [ui_rd, ur_rd, k1, k2, if_false]
def mR : List (Nat × Nat) := [(503, 8), (504, 8), (506, 8), (508, 8), (509, 3), (511, 3)]
theorem moves_L16 (p1 p2 : Int32) (n : Nat) (i : Nat) (m : St) (hi : 8 < i) (hi2 : i < 100) : fX10_movesAll_L16 p1 p2 (n + 1) (nI i) m = movK mR m (fun s => some s) := by
  rw [fX10_movesAll_L16]
  simp only [lit_nI]
  rw [if_pos (by rw [lt_nI (by omega) (by omega)]; exact hi)]
  rfl
theorem L16_s {p1 p2 : Int32} : ∀ (d i k p : Nat) (m : St), i + d = 9 → d < k → p + d ≤ 820 → m.1 500 54 = nI 0 → m.1 500 53 = nI p → ∃ m1, fX10_movesAll_L16 p1 p2 k (nI i) m = movK mR m1 (fun s => some s) ∧ (∀ j, j < d → m1.1 551 (p + j) = m.1 502 (i + j)) ∧ (∀ s x, ¬ (s = 551 ∧ p ≤ x ∧ x < p + d) → ¬ (s = 500 ∧ x = 53) → m1.1 s x = m.1 s x) ∧ m1.1 500 53 = nI (p + d) ∧ m1.2 = m.2 := by
  intro d
  induction d with
  | zero =>
    intro i k p m hi hk hp h1 h2
    obtain ⟨k, rfl⟩ : ∃ j, k = j + 1 := ⟨k - 1, by omega⟩
    exact ⟨m, moves_L16 p1 p2 k i m (by omega) (by omega), fun j hj => by omega, fun _ _ _ _ => rfl, h2, rfl⟩
  | succ d ih =>
    intro i k p m hi hk hp h1 h2
    obtain ⟨k, rfl⟩ : ∃ j, k = j + 1 := ⟨k - 1, by omega⟩
    obtain ⟨m1, a1, a2, a3, a4, a5⟩ := ih (i + 1) k (p + 1) (ui (ui (ui m 551 p (m.1 502 i)) 500 53 (nI (p + 1))) 502 i (m.1 502 i)) (by omega) (by omega) (by omega) (by simp only [ui_rd, Nat.reduceEqDiff, if_true, if_false]; exact h1) (by simp only [ui_rd, Nat.reduceEqDiff, if_true, if_false])
    refine ⟨m1, ?_, fun j hj => ?_, fun s x q1 q2 => ?_, ?_, ?_⟩
    · rw [fX10_movesAll_L16]
      unfold fX10_moves fX10_moves_B20
      simp (disch := omega) only [lit_nI, gd_ix, cl_nI, nm_eq, nI_add, ui_rd, if_true, if_false, Nat.reduceEqDiff, h1, h2, bw_some, lt_nI]
      rw [if_neg (by omega)]
      exact a1
    · cases j with
      | zero =>
        rw [Nat.add_zero, Nat.add_zero, a3 551 p (by omega) (by omega)]
        simp only [ui_rd, Nat.reduceEqDiff, if_true, if_false]
      | succ j =>
        rw [show p + (j + 1) = p + 1 + j by omega, a2 j (by omega), show i + (j + 1) = i + 1 + j by omega]
        simp only [ui_rd, Nat.reduceEqDiff, if_false, if_true]
        rw [if_neg (by omega)]
    · rw [a3 s x (by omega) q2]
      simp only [ui_rd]
      by_cases s1 : s = 502
      · subst s1
        simp only [Nat.reduceEqDiff, if_true, if_false]
        split
        · rename_i e
          rw [e]
        · rfl
      · rw [if_neg s1]
        by_cases s5 : s = 500
        · subst s5
          rw [if_pos rfl, if_neg (by omega), if_neg (by omega)]
        · rw [if_neg s5]
          by_cases s9 : s = 551
          · subst s9
            rw [if_pos rfl, if_neg (by omega)]
          · rw [if_neg s9]
    · rw [a4, show p + 1 + d = p + (d + 1) by omega]
    · rw [a5]
      rfl
theorem L16_l {p1 p2 : Int32} : ∀ (d i k p : Nat) (m : St), i + d = 9 → d < k → p + d ≤ 820 → m.1 500 54 = nI 1 → m.1 500 53 = nI p → ∃ m1, fX10_movesAll_L16 p1 p2 k (nI i) m = movK mR m1 (fun s => some s) ∧ (∀ j, j < d → m1.1 502 (i + j) = m.1 551 (p + j)) ∧ (∀ s x, ¬ (s = 502 ∧ i ≤ x ∧ x < i + d) → ¬ (s = 500 ∧ x = 53) → m1.1 s x = m.1 s x) ∧ m1.1 500 53 = nI (p + d) ∧ m1.2 = m.2 := by
  intro d
  induction d with
  | zero =>
    intro i k p m hi hk hp h1 h2
    obtain ⟨k, rfl⟩ : ∃ j, k = j + 1 := ⟨k - 1, by omega⟩
    exact ⟨m, moves_L16 p1 p2 k i m (by omega) (by omega), fun j hj => by omega, fun _ _ _ _ => rfl, h2, rfl⟩
  | succ d ih =>
    intro i k p m hi hk hp h1 h2
    obtain ⟨k, rfl⟩ : ∃ j, k = j + 1 := ⟨k - 1, by omega⟩
    obtain ⟨m1, a1, a2, a3, a4, a5⟩ := ih (i + 1) k (p + 1) (ui (ui (ui m 551 p (m.1 551 p)) 500 53 (nI (p + 1))) 502 i (m.1 551 p)) (by omega) (by omega) (by omega) (by simp only [ui_rd, Nat.reduceEqDiff, if_true, if_false]; exact h1) (by simp only [ui_rd, Nat.reduceEqDiff, if_true, if_false])
    refine ⟨m1, ?_, fun j hj => ?_, fun s x q1 q2 => ?_, ?_, ?_⟩
    · rw [fX10_movesAll_L16]
      unfold fX10_moves fX10_moves_B20
      simp (disch := omega) only [lit_nI, gd_ix, cl_nI, nm_eq, nI_add, ui_rd, if_true, if_false, Nat.reduceEqDiff, h1, h2, bw_some, lt_nI, n10]
      rw [if_neg (by omega)]
      exact a1
    · cases j with
      | zero =>
        rw [Nat.add_zero, Nat.add_zero, a3 502 i (by omega) (by omega)]
        simp only [ui_rd, if_true]
      | succ j =>
        rw [show p + (j + 1) = p + 1 + j by omega, show i + (j + 1) = i + 1 + j by omega, a2 j (by omega)]
        simp only [ui_rd, if_false, if_true, Nat.reduceEqDiff]
        rw [if_neg (by omega)]
    · rw [a3 s x (by omega) q2]
      simp only [ui_rd]
      by_cases s1 : s = 502
      · subst s1
        simp only [Nat.reduceEqDiff, if_true, if_false]
        rw [if_neg (by omega)]
      · rw [if_neg s1]
        by_cases s5 : s = 500
        · subst s5
          rw [if_pos rfl, if_neg (by omega), if_neg (by omega)]
        · rw [if_neg s5]
          by_cases s9 : s = 551
          · subst s9
            rw [if_pos rfl]
            split
            · rename_i e
              rw [e]
            · rfl
          · rw [if_neg s9]
    · rw [a4, show p + 1 + d = p + (d + 1) by omega]
    · rw [a5]
      rfl
theorem movesAll_s {p : Nat} (hp : p < 20) (m : St) : ∃ m1, fX10_movesAll (nI p) (nI 0) m = some m1 ∧ (∀ j, j < 3 → m1.1 551 (41 * p + j) = m.1 502 (6 + j)) ∧ (∀ t, t ∈ offs (41 * p + 3) mR → ∀ j, j < t.2.1 → m1.1 551 (t.2.2 + j) = m.1 t.1 j) ∧ (∀ s x, ¬ (s = 551 ∧ 41 * p ≤ x ∧ x < 41 * p + 41) → ¬ (s = 500 ∧ (x = 53 ∨ x = 54)) → m1.1 s x = m.1 s x) ∧ m1.2 = m.2 := by
  obtain ⟨m1, a1, a2, a3, a4, a5⟩ := L16_s (p1 := nI p) (p2 := nI 0) 3 6 10000 (41 * p) (ui (ui m 500 53 (nI (41 * p))) 500 54 (nI 0)) (by omega) (by omega) (by omega) (by simp only [ui_rd, if_true]) (by simp only [ui_rd, Nat.reduceEqDiff, if_true, if_false])
  have et : tot mR = 38 := rfl
  obtain ⟨m2, b1, b2, b3, b4, b5⟩ := movK_s mR (41 * p + 3) m1 (by decide) (by rw [et]; omega) (by rw [a3 500 54 (by omega) (by omega)]; simp only [ui_rd, if_true]) a4
  rw [et] at b3
  refine ⟨m2, ?_, fun j hj => ?_, fun t ht j hj => ?_, fun s x h1 h2 => ?_, ?_⟩
  · unfold fX10_movesAll
    simp only [lit_nI, pk_mul, nm_eq]
    rw [a1, b1]
    rfl
  · rw [b3 551 _ (by omega) (by omega), a2 j hj]
    simp only [ui_rd, Nat.reduceEqDiff, if_false]
  · rw [b2 t ht j hj]
    have hm := offs_of mR _ ht
    have h5 : t.1 ≠ 500 ∧ t.1 ≠ 551 := by
      revert hm
      simp only [mR, List.mem_cons, List.not_mem_nil, or_false, Prod.mk.injEq]
      omega
    rw [a3 _ _ (by omega) (by omega)]
    simp only [ui_rd, h5.1, if_false]
  · rw [b3 s x (by omega) (by omega), a3 s x (by omega) (by omega)]
    simp only [ui_rd]
    by_cases s5 : s = 500
    · subst s5
      rw [if_pos rfl, if_neg (by omega), if_pos rfl, if_neg (by omega)]
    · rw [if_neg s5, if_neg s5]
  · rw [b5, a5]
    rfl
theorem movesAll_l {p : Nat} (hp : p < 20) (m : St) : ∃ m1, fX10_movesAll (nI p) (nI 1) m = some m1 ∧ (∀ j, j < 3 → m1.1 502 (6 + j) = m.1 551 (41 * p + j)) ∧ (∀ t, t ∈ offs (41 * p + 3) mR → ∀ j, j < t.2.1 → m1.1 t.1 j = m.1 551 (t.2.2 + j)) ∧ (∀ s x, ¬ (s = 502 ∧ 6 ≤ x ∧ x < 9) → (∀ t, t ∈ mR → s = t.1 → t.2 ≤ x) → ¬ (s = 500 ∧ (x = 53 ∨ x = 54)) → m1.1 s x = m.1 s x) ∧ m1.2 = m.2 := by
  obtain ⟨m1, a1, a2, a3, a4, a5⟩ := L16_l (p1 := nI p) (p2 := nI 1) 3 6 10000 (41 * p) (ui (ui m 500 53 (nI (41 * p))) 500 54 (nI 1)) (by omega) (by omega) (by omega) (by simp only [ui_rd, if_true]) (by simp only [ui_rd, Nat.reduceEqDiff, if_true, if_false])
  have et : tot mR = 38 := rfl
  obtain ⟨m2, b1, b2, b3, b4, b5⟩ := movK_l mR (41 * p + 3) m1 (by decide) (by decide) (by rw [et]; omega) (by rw [a3 500 54 (by omega) (by omega)]; simp only [ui_rd, if_true]) a4
  refine ⟨m2, ?_, fun j hj => ?_, fun t ht j hj => ?_, fun s x h1 h2 h3 => ?_, ?_⟩
  · unfold fX10_movesAll
    simp only [lit_nI, pk_mul, nm_eq]
    rw [a1, b1]
    rfl
  · rw [b3 502 _ (fun t hm e => by
      exfalso
      revert hm
      simp only [mR, List.mem_cons, List.not_mem_nil, or_false, Prod.ext_iff]
      omega) (by omega), a2 j hj]
    simp only [ui_rd, Nat.reduceEqDiff, if_false]
  · rw [b2 t ht j hj, a3 551 _ (by omega) (by omega)]
    simp only [ui_rd, Nat.reduceEqDiff, if_false]
  · rw [b3 s x h2 (by omega), a3 s x (by omega) (by omega)]
    simp only [ui_rd]
    by_cases s5 : s = 500
    · subst s5
      rw [if_pos rfl, if_neg (by omega), if_pos rfl, if_neg (by omega)]
    · rw [if_neg s5, if_neg s5]
  · rw [b5, a5]
    rfl
theorem shift_m : ∀ (d i n : Nat) (m : St), i + d = 820 → 41 ≤ i → d < n → ∃ m1, fX10_keepsAct_L12 n (nI i) m = fX10_keepsAct_B50 (ui m1 500 52 (m1.1 500 52 - nI 1)) ∧ (∀ x, i ≤ x + 41 → x < 779 → m1.1 551 x = m.1 551 (x + 41)) ∧ (∀ s x, ¬ (s = 551 ∧ i ≤ x + 41 ∧ x < 779) → m1.1 s x = m.1 s x) ∧ m1.2 = m.2 := by
  intro d
  induction d with
  | zero =>
    intro i n m hi h4 hn
    obtain ⟨n, rfl⟩ : ∃ j, n = j + 1 := ⟨n - 1, by omega⟩
    refine ⟨m, ?_, fun x h1 h2 => by omega, fun _ _ _ => rfl, rfl⟩
    rw [fX10_keepsAct_L12]
    simp only [lit_nI, nm_eq]
    rw [if_pos (by rw [le_nI (by omega) (by omega)]; omega)]
  | succ d ih =>
    intro i n m hi h4 hn
    obtain ⟨n, rfl⟩ : ∃ j, n = j + 1 := ⟨n - 1, by omega⟩
    obtain ⟨m1, a1, a2, a3, a4⟩ := ih (i + 1) n (ui m 551 (i - 41) (m.1 551 i)) (by omega) (by omega) (by omega)
    refine ⟨m1, ?_, fun x h1 h2 => ?_, fun s x h => ?_, ?_⟩
    · rw [fX10_keepsAct_L12]
      simp (disch := omega) only [lit_nI, nm_eq, le_nI, gd_ix, cl_nI, pk_sub, nI_add]
      rw [if_neg (by omega)]
      exact a1
    · by_cases hx : i = x + 41
      · rw [a3 551 x (by omega), ui_rd, if_pos rfl, if_pos (by omega), hx]
      · rw [a2 x (by omega) h2, ui_rd, if_pos rfl, if_neg (by omega)]
    · rw [a3 s x (by omega), ui_rd]
      by_cases hs : s = 551
      · rw [if_pos hs, if_neg (by omega)]
      · rw [if_neg hs]
    · rw [a4]
      rfl
theorem keeps_m {m : St} {P : Nat} (hP : P ≤ 20) (h : m.1 500 52 = nI P) : ∃ P' m1, (P' = if P < 20 then P else 19) ∧ fX10_keepsAct m = some m1 ∧ m1.1 500 52 = nI (P' + 1) ∧ (∀ j, j < 3 → m1.1 551 (41 * P' + j) = m.1 502 (6 + j)) ∧ (∀ t, t ∈ offs (41 * P' + 3) mR → ∀ j, j < t.2.1 → m1.1 551 (t.2.2 + j) = m.1 t.1 j) ∧ (∀ x, x < 41 * P' → m1.1 551 x = if P < 20 then m.1 551 x else m.1 551 (x + 41)) ∧ (∀ s x, s ≠ 551 → ¬ (s = 500 ∧ (x = 52 ∨ x = 53 ∨ x = 54)) → m1.1 s x = m.1 s x) ∧ m1.2 = m.2 := by
  have fin : ∀ (P' : Nat) (s : St), P' < 20 → s.1 500 52 = nI P' → ∃ s1, fX10_keepsAct_B50 s = some s1 ∧ s1.1 500 52 = nI (P' + 1) ∧ (∀ j, j < 3 → s1.1 551 (41 * P' + j) = s.1 502 (6 + j)) ∧ (∀ t, t ∈ offs (41 * P' + 3) mR → ∀ j, j < t.2.1 → s1.1 551 (t.2.2 + j) = s.1 t.1 j) ∧ (∀ x, x < 41 * P' → s1.1 551 x = s.1 551 x) ∧ (∀ k x, k ≠ 551 → ¬ (k = 500 ∧ (x = 52 ∨ x = 53 ∨ x = 54)) → s1.1 k x = s.1 k x) ∧ s1.2 = s.2 := by
    intro P' s hP' hs
    obtain ⟨s1, a1, a2, a3, a4, a5⟩ := movesAll_s hP' s
    have e52 : s1.1 500 52 = nI P' := by rw [a4 500 52 (by omega) (by omega)]; exact hs
    refine ⟨ui s1 500 52 (nI (P' + 1)), ?_, ?_, fun j hj => ?_, fun t ht j hj => ?_, fun x hx => ?_, fun k x h1 h2 => ?_, ?_⟩
    · unfold fX10_keepsAct_B50
      simp only [lit_nI, hs, a1, br_some, nm_eq, e52, nI_add]
    · simp only [ui_rd, if_true]
    · simp only [ui_rd, Nat.reduceEqDiff, if_false]
      exact a2 j hj
    · simp only [ui_rd, Nat.reduceEqDiff, if_false]
      exact a3 t ht j hj
    · simp only [ui_rd, Nat.reduceEqDiff, if_false]
      exact a4 551 x (by omega) (by omega)
    · rw [ui_rd]
      by_cases k5 : k = 500
      · subst k5
        rw [if_pos rfl, if_neg (by omega)]
        exact a4 500 x (by omega) (by omega)
      · rw [if_neg k5]
        exact a4 k x (by omega) (by omega)
    · exact a5
  by_cases hl : P < 20
  · obtain ⟨s1, a1, a2, a3, a4, a5, a6, a7⟩ := fin P m hl h
    refine ⟨P, s1, by rw [if_pos hl], ?_, a2, a3, a4, fun x hx => by rw [if_pos hl]; exact a5 x hx, a6, a7⟩
    unfold fX10_keepsAct
    simp only [lit_nI, h]
    rw [if_neg (by rw [eq_nI (by omega) (by omega)]; omega)]
    exact a1
  · have e20 : P = 20 := by omega
    subst e20
    obtain ⟨m1, b1, b2, b3, b4⟩ := shift_m 779 41 10000 m (by omega) (by omega) (by omega)
    have e52 : m1.1 500 52 - nI 1 = nI 19 := by
      rw [b3 500 52 (by omega), h]
      exact sub1_nI (k := 19) (by omega)
    obtain ⟨s1, a1, a2, a3, a4, a5, a6, a7⟩ := fin 19 (ui m1 500 52 (nI 19)) (by omega) (by simp only [ui_rd, if_true])
    refine ⟨19, s1, by rw [if_neg hl], ?_, a2, fun j hj => ?_, fun t ht j hj => ?_, fun x hx => ?_, fun k x h1 h2 => ?_, ?_⟩
    · unfold fX10_keepsAct
      simp only [lit_nI, h, if_true]
      rw [b1, e52]
      exact a1
    · rw [a3 j hj, ui_rd, if_neg (by omega), b3 502 _ (by omega)]
    · rw [a4 t ht j hj]
      have hm := offs_of mR _ ht
      have h5 : t.1 ≠ 500 ∧ t.1 ≠ 551 := by
        revert hm
        simp only [mR, List.mem_cons, List.not_mem_nil, or_false, Prod.mk.injEq]
        omega
      rw [ui_rd, if_neg h5.1, b3 _ _ (by omega)]
    · rw [a5 x hx, if_neg hl, ui_rd, if_neg (by omega), b2 x (by omega) (by omega)]
    · rw [a6 k x h1 h2, ui_rd]
      by_cases k5 : k = 500
      · subst k5
        rw [if_pos rfl, if_neg (by omega), b3 500 x (by omega)]
      · rw [if_neg k5, b3 k x (by omega)]
    · rw [a7]
      exact b4
