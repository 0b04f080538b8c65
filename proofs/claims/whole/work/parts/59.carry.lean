theorem of_nI (n : Nat) : Int32.ofNat n = nI n := rfl
theorem carry_s {a n : Nat} (ha : a ≠ 559) (ha' : a ≠ 500) (hn : n ≤ 1000) : ∀ (d i k p : Nat) (m : St), i + d = n → d < k → p + d ≤ 5500 → m.1 500 62 = nI 0 → m.1 500 61 = nI p → ∃ m1, fX10_carryRow_L2 a n k (nI i) m = some m1 ∧ (∀ j, j < d → m1.1 559 (p + j) = m.1 a (i + j)) ∧ (∀ s x, ¬ (s = 559 ∧ p ≤ x ∧ x < p + d) → ¬ (s = 500 ∧ x = 61) → m1.1 s x = m.1 s x) ∧ m1.1 500 61 = nI (p + d) ∧ m1.2 = m.2 := by
  intro d
  induction d with
  | zero =>
    intro i k p m hi hk hp h1 h2
    obtain ⟨k, rfl⟩ : ∃ j, k = j + 1 := ⟨k - 1, by omega⟩
    refine ⟨m, ?_, fun j hj => by omega, fun _ _ _ _ => rfl, h2, rfl⟩
    rw [fX10_carryRow_L2, of_nI, if_pos (by rw [le_nI (by omega) (by omega)]; omega)]
  | succ d ih =>
    intro i k p m hi hk hp h1 h2
    obtain ⟨k, rfl⟩ : ∃ j, k = j + 1 := ⟨k - 1, by omega⟩
    obtain ⟨m1, a1, a2, a3, a4, a5⟩ := ih (i + 1) k (p + 1) (ui (ui m 559 p (m.1 a i)) 500 61 (nI (p + 1))) (by omega) (by omega) (by omega) (by simp only [ui_rd, Nat.reduceEqDiff, if_true, if_false]; exact h1) (by simp only [ui_rd, if_true])
    refine ⟨m1, ?_, fun j hj => ?_, fun s x q1 q2 => ?_, ?_, ?_⟩
    · rw [fX10_carryRow_L2, of_nI, if_neg (by rw [le_nI (by omega) (by omega)]; omega), h1, h2]
      unfold fX10_carryRow_B42
      simp (disch := omega) only [lit_nI, gd_ix, cl_nI, nm_eq, nI_add, ui_rd, if_true, if_false, Nat.reduceEqDiff, h2]
      exact a1
    · cases j with
      | zero =>
        rw [Nat.add_zero, Nat.add_zero, a3 559 p (by omega) (by omega)]
        simp only [ui_rd, Nat.reduceEqDiff, if_true, if_false]
      | succ j =>
        rw [show p + (j + 1) = p + 1 + j by omega, a2 j (by omega), show i + (j + 1) = i + 1 + j by omega]
        simp only [ui_rd, ha, ha', if_false]
    · rw [a3 s x (by omega) q2]
      simp only [ui_rd]
      by_cases s5 : s = 500
      · subst s5
        rw [if_pos rfl, if_neg (by omega), if_neg (by omega)]
      · rw [if_neg s5]
        by_cases s9 : s = 559
        · subst s9
          rw [if_pos rfl, if_neg (by omega)]
        · rw [if_neg s9]
    · rw [a4, show p + 1 + d = p + (d + 1) by omega]
    · rw [a5]
      rfl
theorem carry_l {a n : Nat} (ha : a ≠ 559) (ha' : a ≠ 500) (hn : n ≤ 1000) : ∀ (d i k p : Nat) (m : St), i + d = n → d < k → p + d ≤ 5500 → m.1 500 62 = nI 1 → m.1 500 61 = nI p → ∃ m1, fX10_carryRow_L2 a n k (nI i) m = some m1 ∧ (∀ j, j < d → m1.1 a (i + j) = m.1 559 (p + j)) ∧ (∀ s x, ¬ (s = a ∧ i ≤ x ∧ x < i + d) → ¬ (s = 500 ∧ x = 61) → m1.1 s x = m.1 s x) ∧ m1.1 500 61 = nI (p + d) ∧ m1.2 = m.2 := by
  intro d
  induction d with
  | zero =>
    intro i k p m hi hk hp h1 h2
    obtain ⟨k, rfl⟩ : ∃ j, k = j + 1 := ⟨k - 1, by omega⟩
    refine ⟨m, ?_, fun j hj => by omega, fun _ _ _ _ => rfl, h2, rfl⟩
    rw [fX10_carryRow_L2, of_nI, if_pos (by rw [le_nI (by omega) (by omega)]; omega)]
  | succ d ih =>
    intro i k p m hi hk hp h1 h2
    have ha2 : ¬ 559 = a := by omega
    have ha3 : ¬ 500 = a := by omega
    obtain ⟨k, rfl⟩ : ∃ j, k = j + 1 := ⟨k - 1, by omega⟩
    obtain ⟨m1, a1, a2, a3, a4, a5⟩ := ih (i + 1) k (p + 1) (ui (ui m a i (m.1 559 p)) 500 61 (nI (p + 1))) (by omega) (by omega) (by omega) (by simp only [ui_rd, Nat.reduceEqDiff, if_true, if_false, ha3]; exact h1) (by simp only [ui_rd, if_true])
    refine ⟨m1, ?_, fun j hj => ?_, fun s x q1 q2 => ?_, ?_, ?_⟩
    · rw [fX10_carryRow_L2, of_nI, if_neg (by rw [le_nI (by omega) (by omega)]; omega), h1, h2]
      unfold fX10_carryRow_B42
      simp (disch := omega) only [lit_nI, gd_ix, cl_nI, nm_eq, nI_add, ui_rd, if_true, if_false, Nat.reduceEqDiff, h2, ha3, n10]
      exact a1
    · cases j with
      | zero =>
        rw [Nat.add_zero, Nat.add_zero, a3 a i (by omega) (by omega)]
        simp only [ui_rd, ha', if_true, if_false]
      | succ j =>
        rw [show p + (j + 1) = p + 1 + j by omega, show i + (j + 1) = i + 1 + j by omega, a2 j (by omega)]
        simp only [ui_rd, ha2, Nat.reduceEqDiff, if_false]
    · rw [a3 s x (by omega) q2]
      simp only [ui_rd]
      by_cases s5 : s = 500
      · subst s5
        rw [if_pos rfl, if_neg (by omega), if_neg ha3]
      · rw [if_neg s5]
        by_cases s9 : s = a
        · subst s9
          rw [if_pos rfl, if_neg (by omega)]
        · rw [if_neg s9]
    · rw [a4, show p + 1 + d = p + (d + 1) by omega]
    · rw [a5]
      rfl
theorem move_s {a n : Nat} (ha : a ≠ 551) (ha' : a ≠ 500) (hn : n ≤ 1000) : ∀ (d i k p : Nat) (m : St), i + d = n → d < k → p + d ≤ 820 → m.1 500 54 = nI 0 → m.1 500 53 = nI p → ∃ m1, fX10_movesRow_L2 a n k (nI i) m = some m1 ∧ (∀ j, j < d → m1.1 551 (p + j) = m.1 a (i + j)) ∧ (∀ s x, ¬ (s = 551 ∧ p ≤ x ∧ x < p + d) → ¬ (s = 500 ∧ x = 53) → m1.1 s x = m.1 s x) ∧ m1.1 500 53 = nI (p + d) ∧ m1.2 = m.2 := by
  intro d
  induction d with
  | zero =>
    intro i k p m hi hk hp h1 h2
    obtain ⟨k, rfl⟩ : ∃ j, k = j + 1 := ⟨k - 1, by omega⟩
    refine ⟨m, ?_, fun j hj => by omega, fun _ _ _ _ => rfl, h2, rfl⟩
    rw [fX10_movesRow_L2, of_nI, if_pos (by rw [le_nI (by omega) (by omega)]; omega)]
  | succ d ih =>
    intro i k p m hi hk hp h1 h2
    have ha3 : ¬ 500 = a := by omega
    have ha2 : ¬ 551 = a := by omega
    obtain ⟨k, rfl⟩ : ∃ j, k = j + 1 := ⟨k - 1, by omega⟩
    obtain ⟨m1, a1, a2, a3, a4, a5⟩ := ih (i + 1) k (p + 1) (ui (ui (ui m 551 p (m.1 a i)) 500 53 (nI (p + 1))) a i (m.1 a i)) (by omega) (by omega) (by omega) (by simp only [ui_rd, Nat.reduceEqDiff, if_true, if_false, ha3]; exact h1) (by simp only [ui_rd, if_true, ha3, if_false])
    refine ⟨m1, ?_, fun j hj => ?_, fun s x q1 q2 => ?_, ?_, ?_⟩
    · rw [fX10_movesRow_L2, of_nI, if_neg (by rw [le_nI (by omega) (by omega)]; omega)]
      unfold fX10_moves fX10_moves_B20
      simp (disch := omega) only [lit_nI, gd_ix, cl_nI, nm_eq, nI_add, ui_rd, if_true, if_false, Nat.reduceEqDiff, h1, h2, bw_some]
      exact a1
    · cases j with
      | zero =>
        rw [Nat.add_zero, Nat.add_zero, a3 551 p (by omega) (by omega)]
        simp only [ui_rd, Nat.reduceEqDiff, if_true, if_false, ha2]
      | succ j =>
        rw [show p + (j + 1) = p + 1 + j by omega, a2 j (by omega), show i + (j + 1) = i + 1 + j by omega]
        simp only [ui_rd, ha, ha', if_false, if_true]
        rw [if_neg (by omega)]
    · rw [a3 s x (by omega) q2]
      simp only [ui_rd]
      by_cases s1 : s = a
      · subst s1
        rw [if_pos rfl, if_neg ha', if_neg ha]
        split
        · rename_i e
          rw [e]
        · rfl
      · rw [if_neg s1]
        by_cases s5 : s = 500
        · subst s5
          rw [if_pos rfl, if_neg (by omega), if_neg (by omega)]
        · rw [if_neg s5]
          by_cases s9 : s = 551
          · subst s9
            rw [if_pos rfl, if_neg (by omega)]
          · rw [if_neg s9]
    · rw [a4, show p + 1 + d = p + (d + 1) by omega]
    · rw [a5]
      rfl
theorem move_l {a n : Nat} (ha : a ≠ 551) (ha' : a ≠ 500) (hn : n ≤ 1000) : ∀ (d i k p : Nat) (m : St), i + d = n → d < k → p + d ≤ 820 → m.1 500 54 = nI 1 → m.1 500 53 = nI p → ∃ m1, fX10_movesRow_L2 a n k (nI i) m = some m1 ∧ (∀ j, j < d → m1.1 a (i + j) = m.1 551 (p + j)) ∧ (∀ s x, ¬ (s = a ∧ i ≤ x ∧ x < i + d) → ¬ (s = 500 ∧ x = 53) → m1.1 s x = m.1 s x) ∧ m1.1 500 53 = nI (p + d) ∧ m1.2 = m.2 := by
  intro d
  induction d with
  | zero =>
    intro i k p m hi hk hp h1 h2
    obtain ⟨k, rfl⟩ : ∃ j, k = j + 1 := ⟨k - 1, by omega⟩
    refine ⟨m, ?_, fun j hj => by omega, fun _ _ _ _ => rfl, h2, rfl⟩
    rw [fX10_movesRow_L2, of_nI, if_pos (by rw [le_nI (by omega) (by omega)]; omega)]
  | succ d ih =>
    intro i k p m hi hk hp h1 h2
    have ha3 : ¬ 500 = a := by omega
    have ha2 : ¬ 551 = a := by omega
    obtain ⟨k, rfl⟩ : ∃ j, k = j + 1 := ⟨k - 1, by omega⟩
    obtain ⟨m1, a1, a2, a3, a4, a5⟩ := ih (i + 1) k (p + 1) (ui (ui (ui m 551 p (m.1 551 p)) 500 53 (nI (p + 1))) a i (m.1 551 p)) (by omega) (by omega) (by omega) (by simp only [ui_rd, Nat.reduceEqDiff, if_true, if_false, ha3]; exact h1) (by simp only [ui_rd, if_true, ha3, if_false])
    refine ⟨m1, ?_, fun j hj => ?_, fun s x q1 q2 => ?_, ?_, ?_⟩
    · rw [fX10_movesRow_L2, of_nI, if_neg (by rw [le_nI (by omega) (by omega)]; omega)]
      unfold fX10_moves fX10_moves_B20
      simp (disch := omega) only [lit_nI, gd_ix, cl_nI, nm_eq, nI_add, ui_rd, if_true, if_false, Nat.reduceEqDiff, h1, h2, bw_some, n10]
      exact a1
    · cases j with
      | zero =>
        rw [Nat.add_zero, Nat.add_zero, a3 a i (by omega) (by omega)]
        simp only [ui_rd, if_true]
      | succ j =>
        rw [show p + (j + 1) = p + 1 + j by omega, show i + (j + 1) = i + 1 + j by omega, a2 j (by omega)]
        simp only [ui_rd, ha2, if_false, if_true, Nat.reduceEqDiff]
        rw [if_neg (by omega)]
    · rw [a3 s x (by omega) q2]
      simp only [ui_rd]
      by_cases s1 : s = a
      · subst s1
        rw [if_pos rfl, if_neg ha', if_neg ha, if_neg (by omega)]
      · rw [if_neg s1]
        by_cases s5 : s = 500
        · subst s5
          rw [if_pos rfl, if_neg (by omega), if_neg (by omega)]
        · rw [if_neg s5]
          by_cases s9 : s = 551
          · subst s9
            rw [if_pos rfl]
            split
            · rename_i e
              rw [e]
            · rfl
          · rw [if_neg s9]
    · rw [a4, show p + 1 + d = p + (d + 1) by omega]
    · rw [a5]
      rfl
/-- rows one behind the other -/
def offs : Nat → List (Nat × Nat) → List (Nat × Nat × Nat)
  | _, [] => []
  | p, t :: l => (t.1, t.2, p) :: offs (p + t.2) l
def tot : List (Nat × Nat) → Nat
  | [] => 0
  | t :: l => t.2 + tot l
def carK : List (Nat × Nat) → St → (St → Option St) → Option St
  | [], m, k => k m
  | t :: l, m, k => br (fX10_carryRow t.1 t.2 m) (fun s => carK l s k)
def movK : List (Nat × Nat) → St → (St → Option St) → Option St
  | [], m, k => k m
  | t :: l, m, k => br (fX10_movesRow t.1 t.2 m) (fun s => movK l s k)
theorem carK_s : ∀ (l : List (Nat × Nat)) (p : Nat) (m : St), (∀ t, t ∈ l → t.1 ≠ 559 ∧ t.1 ≠ 500 ∧ t.2 ≤ 1000) → p + tot l ≤ 5500 → m.1 500 62 = nI 0 → m.1 500 61 = nI p → ∃ m1, (∀ k, carK l m k = k m1) ∧ (∀ t, t ∈ offs p l → ∀ j, j < t.2.1 → m1.1 559 (t.2.2 + j) = m.1 t.1 j) ∧ (∀ s x, ¬ (s = 559 ∧ p ≤ x ∧ x < p + tot l) → ¬ (s = 500 ∧ x = 61) → m1.1 s x = m.1 s x) ∧ m1.1 500 61 = nI (p + tot l) ∧ m1.2 = m.2 := by
  intro l
  induction l with
  | nil =>
    intro p m hl hp h1 h2
    exact ⟨m, fun _ => rfl, fun t ht => absurd ht (List.not_mem_nil), fun _ _ _ _ => rfl, h2, rfl⟩
  | cons t l ih =>
    intro p m hl hp h1 h2
    obtain ⟨q1, q2, q3⟩ := hl t (List.mem_cons_self)
    have et : tot (t :: l) = t.2 + tot l := rfl
    rw [et] at hp
    obtain ⟨m1, a1, a2, a3, a4, a5⟩ := carry_s q1 q2 q3 t.2 0 10000 p m (by omega) (by omega) (by omega) h1 h2
    obtain ⟨m2, b1, b2, b3, b4, b5⟩ := ih (p + t.2) m1 (fun t' ht => hl t' (List.mem_cons_of_mem _ ht)) (by omega) (by rw [a3 500 62 (by omega) (by omega)]; exact h1) a4
    refine ⟨m2, fun k => ?_, fun t' ht j hj => ?_, fun s x r1 r2 => ?_, ?_, ?_⟩
    · show br (fX10_carryRow t.1 t.2 m) (fun s => carK l s k) = k m2
      have a1' : fX10_carryRow t.1 t.2 m = some m1 := a1
      rw [a1', br_some, b1]
    · rcases List.mem_cons.mp ht with e | e
      · subst e
        simp only at hj ⊢
        rw [b3 559 _ (by omega) (by omega), a2 j hj, Nat.zero_add]
      · have hs : t'.1 ≠ 559 ∧ t'.1 ≠ 500 := by
          have key : ∀ (l : List (Nat × Nat)) (p : Nat), t' ∈ offs p l → ∃ u, u ∈ l ∧ u.1 = t'.1 := by
            intro l
            induction l with
            | nil => exact fun p h => absurd h List.not_mem_nil
            | cons u l ih2 =>
              intro p h
              rcases List.mem_cons.mp h with h | h
              · subst h
                exact ⟨u, List.mem_cons_self, rfl⟩
              · obtain ⟨w, w1, w2⟩ := ih2 _ h
                exact ⟨w, List.mem_cons_of_mem _ w1, w2⟩
          obtain ⟨u, u1, u2⟩ := key l _ e
          rw [← u2]
          exact ⟨(hl u (List.mem_cons_of_mem _ u1)).1, (hl u (List.mem_cons_of_mem _ u1)).2.1⟩
        rw [b2 t' e j hj, a3 _ _ (by omega) (by omega)]
    · rw [et] at r1
      rw [b3 s x (by omega) r2, a3 s x (by omega) r2]
    · rw [b4, et, Nat.add_assoc]
    · rw [b5, a5]
theorem offs_of {t : Nat × Nat × Nat} : ∀ (l : List (Nat × Nat)) (p : Nat), t ∈ offs p l → (t.1, t.2.1) ∈ l := by
  intro l
  induction l with
  | nil => exact fun p h => absurd h List.not_mem_nil
  | cons u l ih =>
    intro p h
    rcases List.mem_cons.mp h with h | h
    · subst h
      exact List.mem_cons_self
    · exact List.mem_cons_of_mem _ (ih _ h)
theorem carK_l : ∀ (l : List (Nat × Nat)) (p : Nat) (m : St), (∀ t, t ∈ l → t.1 ≠ 559 ∧ t.1 ≠ 500 ∧ t.2 ≤ 1000) → (l.map Prod.fst).Nodup → p + tot l ≤ 5500 → m.1 500 62 = nI 1 → m.1 500 61 = nI p → ∃ m1, (∀ k, carK l m k = k m1) ∧ (∀ t, t ∈ offs p l → ∀ j, j < t.2.1 → m1.1 t.1 j = m.1 559 (t.2.2 + j)) ∧ (∀ s x, (∀ t, t ∈ l → s = t.1 → t.2 ≤ x) → ¬ (s = 500 ∧ x = 61) → m1.1 s x = m.1 s x) ∧ m1.1 500 61 = nI (p + tot l) ∧ m1.2 = m.2 := by
  intro l
  induction l with
  | nil =>
    intro p m hl hn hp h1 h2
    exact ⟨m, fun _ => rfl, fun t ht => absurd ht (List.not_mem_nil), fun _ _ _ _ => rfl, h2, rfl⟩
  | cons t l ih =>
    intro p m hl hn hp h1 h2
    obtain ⟨q1, q2, q3⟩ := hl t (List.mem_cons_self)
    have et : tot (t :: l) = t.2 + tot l := rfl
    rw [et] at hp
    rw [List.map_cons, List.nodup_cons] at hn
    obtain ⟨m1, a1, a2, a3, a4, a5⟩ := carry_l q1 q2 q3 t.2 0 10000 p m (by omega) (by omega) (by omega) h1 h2
    obtain ⟨m2, b1, b2, b3, b4, b5⟩ := ih (p + t.2) m1 (fun t' ht => hl t' (List.mem_cons_of_mem _ ht)) hn.2 (by omega) (by rw [a3 500 62 (by omega) (by omega)]; exact h1) a4
    refine ⟨m2, fun k => ?_, fun t' ht j hj => ?_, fun s x r1 r2 => ?_, ?_, ?_⟩
    · show br (fX10_carryRow t.1 t.2 m) (fun s => carK l s k) = k m2
      have a1' : fX10_carryRow t.1 t.2 m = some m1 := a1
      rw [a1', br_some, b1]
    · rcases List.mem_cons.mp ht with e | e
      · subst e
        simp only at hj ⊢
        have a2' := a2 j hj
        rw [Nat.zero_add] at a2'
        rw [b3 _ _ (fun t' ht' e' => absurd (List.mem_map.mpr ⟨t', ht', e'.symm⟩) hn.1) (by omega), a2']
      · rw [b2 t' e j hj, a3 _ _ (by omega) (by omega)]
    · rw [b3 s x (fun t' ht' => r1 t' (List.mem_cons_of_mem _ ht')) r2, a3 s x (fun q => by have := r1 t List.mem_cons_self q.1; omega) r2]
    · rw [b4, et, Nat.add_assoc]
    · rw [b5, a5]
theorem movK_s : ∀ (l : List (Nat × Nat)) (p : Nat) (m : St), (∀ t, t ∈ l → t.1 ≠ 551 ∧ t.1 ≠ 500 ∧ t.2 ≤ 1000) → p + tot l ≤ 820 → m.1 500 54 = nI 0 → m.1 500 53 = nI p → ∃ m1, (∀ k, movK l m k = k m1) ∧ (∀ t, t ∈ offs p l → ∀ j, j < t.2.1 → m1.1 551 (t.2.2 + j) = m.1 t.1 j) ∧ (∀ s x, ¬ (s = 551 ∧ p ≤ x ∧ x < p + tot l) → ¬ (s = 500 ∧ x = 53) → m1.1 s x = m.1 s x) ∧ m1.1 500 53 = nI (p + tot l) ∧ m1.2 = m.2 := by
  intro l
  induction l with
  | nil =>
    intro p m hl hp h1 h2
    exact ⟨m, fun _ => rfl, fun t ht => absurd ht (List.not_mem_nil), fun _ _ _ _ => rfl, h2, rfl⟩
  | cons t l ih =>
    intro p m hl hp h1 h2
    obtain ⟨q1, q2, q3⟩ := hl t (List.mem_cons_self)
    have et : tot (t :: l) = t.2 + tot l := rfl
    rw [et] at hp
    obtain ⟨m1, a1, a2, a3, a4, a5⟩ := move_s q1 q2 q3 t.2 0 10000 p m (by omega) (by omega) (by omega) h1 h2
    obtain ⟨m2, b1, b2, b3, b4, b5⟩ := ih (p + t.2) m1 (fun t' ht => hl t' (List.mem_cons_of_mem _ ht)) (by omega) (by rw [a3 500 54 (by omega) (by omega)]; exact h1) a4
    refine ⟨m2, fun k => ?_, fun t' ht j hj => ?_, fun s x r1 r2 => ?_, ?_, ?_⟩
    · show br (fX10_movesRow t.1 t.2 m) (fun s => movK l s k) = k m2
      have a1' : fX10_movesRow t.1 t.2 m = some m1 := a1
      rw [a1', br_some, b1]
    · rcases List.mem_cons.mp ht with e | e
      · subst e
        simp only at hj ⊢
        rw [b3 551 _ (by omega) (by omega), a2 j hj, Nat.zero_add]
      · obtain ⟨u1, u2, -⟩ := hl _ (List.mem_cons_of_mem _ (offs_of l _ e))
        simp only at u1 u2
        rw [b2 t' e j hj, a3 _ _ (by omega) (by omega)]
    · rw [et] at r1
      rw [b3 s x (by omega) r2, a3 s x (by omega) r2]
    · rw [b4, et, Nat.add_assoc]
    · rw [b5, a5]
theorem movK_l : ∀ (l : List (Nat × Nat)) (p : Nat) (m : St), (∀ t, t ∈ l → t.1 ≠ 551 ∧ t.1 ≠ 500 ∧ t.2 ≤ 1000) → (l.map Prod.fst).Nodup → p + tot l ≤ 820 → m.1 500 54 = nI 1 → m.1 500 53 = nI p → ∃ m1, (∀ k, movK l m k = k m1) ∧ (∀ t, t ∈ offs p l → ∀ j, j < t.2.1 → m1.1 t.1 j = m.1 551 (t.2.2 + j)) ∧ (∀ s x, (∀ t, t ∈ l → s = t.1 → t.2 ≤ x) → ¬ (s = 500 ∧ x = 53) → m1.1 s x = m.1 s x) ∧ m1.1 500 53 = nI (p + tot l) ∧ m1.2 = m.2 := by
  intro l
  induction l with
  | nil =>
    intro p m hl hn hp h1 h2
    exact ⟨m, fun _ => rfl, fun t ht => absurd ht (List.not_mem_nil), fun _ _ _ _ => rfl, h2, rfl⟩
  | cons t l ih =>
    intro p m hl hn hp h1 h2
    obtain ⟨q1, q2, q3⟩ := hl t (List.mem_cons_self)
    have et : tot (t :: l) = t.2 + tot l := rfl
    rw [et] at hp
    rw [List.map_cons, List.nodup_cons] at hn
    obtain ⟨m1, a1, a2, a3, a4, a5⟩ := move_l q1 q2 q3 t.2 0 10000 p m (by omega) (by omega) (by omega) h1 h2
    obtain ⟨m2, b1, b2, b3, b4, b5⟩ := ih (p + t.2) m1 (fun t' ht => hl t' (List.mem_cons_of_mem _ ht)) hn.2 (by omega) (by rw [a3 500 54 (by omega) (by omega)]; exact h1) a4
    refine ⟨m2, fun k => ?_, fun t' ht j hj => ?_, fun s x r1 r2 => ?_, ?_, ?_⟩
    · show br (fX10_movesRow t.1 t.2 m) (fun s => movK l s k) = k m2
      have a1' : fX10_movesRow t.1 t.2 m = some m1 := a1
      rw [a1', br_some, b1]
    · rcases List.mem_cons.mp ht with e | e
      · subst e
        simp only at hj ⊢
        have a2' := a2 j hj
        rw [Nat.zero_add] at a2'
        rw [b3 _ _ (fun t' ht' e' => absurd (List.mem_map.mpr ⟨t', ht', e'.symm⟩) hn.1) (by omega), a2']
      · rw [b2 t' e j hj, a3 _ _ (by omega) (by omega)]
    · rw [b3 s x (fun t' ht' => r1 t' (List.mem_cons_of_mem _ ht')) r2, a3 s x (fun q => by have := r1 t List.mem_cons_self q.1; omega) r2]
    · rw [b4, et, Nat.add_assoc]
    · rw [b5, a5]
