/-! rules: the class's code against the reference's entries -/
theorem lgge (x y : Int64) : (0 ≤ lg_cmp x y) = (y ≤ x) := propext (lg_cmp_ge x y)
theorem lgle (x y : Int64) : (lg_cmp x y ≤ 0) = (x ≤ y) := propext (lg_cmp_le x y)
theorem lggt (x y : Int64) : (0 < lg_cmp x y) = (y < x) := propext (lg_cmp_gt x y)
theorem lglt (x y : Int64) : (lg_cmp x y < 0) = (x < y) := propext (lg_cmp_lt x y)
theorem lgeq (x y : Int64) : (lg_cmp x y = 0) = (x = y) := propext (lg_cmp_eq x y)
/-- the class's piece for an entry -/
def enc (s n : Int32) : Int32 := if s = nI 0 then n else if s = nI 1 then (-1 : Int32) - n else if s = nI 2 then -26 else if s = nI 3 then -27 else if s = nI 4 then -33 else if s = nI 5 then -36 else if s = nI 6 then -34 else if s = nI 7 then -37 else if s = nI 8 then -35 else if s = nI 9 then -20 else if s = nI 10 then -19 else if s = nI 11 then -18 else if s = nI 13 then -28 else if s = nI 14 then -29 else -30
def opA (s : Int32) : Prop := s = nI 2 ∨ s = nI 3 ∨ s = nI 13 ∨ s = nI 14 ∨ s = nI 15
def opC (s : Int32) : Prop := s = nI 4 ∨ s = nI 5 ∨ s = nI 6 ∨ s = nI 7 ∨ s = nI 8
def opL (s : Int32) : Prop := s = nI 10 ∨ s = nI 11
def b01 (x : Int64) : Prop := x = 0 ∨ x = 1
theorem join_A {s n : Int32} {x y : Int64} (h : opA s) : ∃ z, fX4_join (-(enc s n)) x y = some z ∧ fX10_both s x y = some z := by
  rcases h with rfl | rfl | rfl | rfl | rfl
  · exact ⟨_, rfl, rfl⟩
  · exact ⟨_, rfl, rfl⟩
  · exact ⟨_, rfl, rfl⟩
  · by_cases e : y = 0
    · subst e
      exact ⟨0, rfl, rfl⟩
    · refine ⟨x / y, ?_, ?_⟩
      · show (if lg_cmp y 0 = 0 then some (0 : Int64) else gd (nzl y) (some (x / y))) = some (x / y)
        rw [if_neg (fun q => e ((lg_cmp_eq y 0).mp q))]
        unfold gd nzl
        rw [if_pos (decide_eq_true e)]
      · show (if lg_cmp y 0 = 0 then some (0 : Int64) else gd (nzl y) (some (x / y))) = some (x / y)
        rw [if_neg (fun q => e ((lg_cmp_eq y 0).mp q))]
        unfold gd nzl
        rw [if_pos (decide_eq_true e)]
  · by_cases e : y = 0
    · subst e
      exact ⟨0, rfl, rfl⟩
    · refine ⟨lrm x y, ?_, ?_⟩
      · show (if lg_cmp y 0 = 0 then some (0 : Int64) else gd (nzl y) (some (lrm x y))) = some (lrm x y)
        rw [if_neg (fun q => e ((lg_cmp_eq y 0).mp q))]
        unfold gd nzl
        rw [if_pos (decide_eq_true e)]
      · show (if lg_cmp y 0 = 0 then some (0 : Int64) else gd (nzl y) (some (lrm x y))) = some (lrm x y)
        rw [if_neg (fun q => e ((lg_cmp_eq y 0).mp q))]
        unfold gd nzl
        rw [if_pos (decide_eq_true e)]
theorem ite_some2 {p : Prop} {d : Decidable p} {a b : Int64} : (@ite _ p d (some a) (some b)) = some (@ite _ p d a b) := by
  by_cases h : p <;> simp [h]
theorem join_C {s n : Int32} {x y : Int64} (h : opC s) : ∃ z, fX4_join (-(enc s n)) x y = some z ∧ fX10_both s x y = some z ∧ b01 z := by
  rcases h with rfl | rfl | rfl | rfl | rfl
  · refine ⟨if 0 ≤ lg_cmp x y then 0 else 1, ?_, ?_, ?_⟩
    · show (if 0 ≤ lg_cmp x y then some (0 : Int64) else some 1) = _
      split <;> rfl
    · show (if 0 ≤ lg_cmp x y then some (0 : Int64) else some 1) = _
      split <;> rfl
    · split
      · exact Or.inl rfl
      · exact Or.inr rfl
  · refine ⟨if 0 < lg_cmp x y then 0 else 1, ?_, ?_, ?_⟩
    · show (if 0 < lg_cmp x y then some (0 : Int64) else some 1) = _
      split <;> rfl
    · show (if 0 < lg_cmp x y then some (0 : Int64) else some 1) = _
      split <;> rfl
    · split
      · exact Or.inl rfl
      · exact Or.inr rfl
  · refine ⟨if lg_cmp x y = 0 then 1 else 0, ?_, ?_, ?_⟩
    · show (if lg_cmp x y = 0 then some (1 : Int64) else some 0) = _
      split <;> rfl
    · show (if lg_cmp x y = 0 then some (1 : Int64) else some 0) = _
      split <;> rfl
    · split
      · exact Or.inr rfl
      · exact Or.inl rfl
  · refine ⟨if lg_cmp x y < 0 then 0 else 1, ?_, ?_, ?_⟩
    · show (if lg_cmp x y < 0 then some (0 : Int64) else some 1) = _
      split <;> rfl
    · show (if lg_cmp x y < 0 then some (0 : Int64) else some 1) = _
      split <;> rfl
    · split
      · exact Or.inl rfl
      · exact Or.inr rfl
  · refine ⟨if lg_cmp x y ≤ 0 then 0 else 1, ?_, ?_, ?_⟩
    · show (if lg_cmp x y ≤ 0 then some (0 : Int64) else some 1) = _
      split <;> rfl
    · show (if lg_cmp x y ≤ 0 then some (0 : Int64) else some 1) = _
      split <;> rfl
    · split
      · exact Or.inl rfl
      · exact Or.inr rfl
theorem join_L {s n : Int32} {x y : Int64} (h : opL s) (hx : b01 x) (hy : b01 y) : ∃ z, fX4_join (-(enc s n)) x y = some z ∧ fX10_both s x y = some z ∧ b01 z := by
  rcases h with rfl | rfl
  · refine ⟨x &&& y, rfl, rfl, ?_⟩
    rcases hx with rfl | rfl <;> rcases hy with rfl | rfl
    · exact Or.inl rfl
    · exact Or.inl rfl
    · exact Or.inl rfl
    · exact Or.inr rfl
  · refine ⟨x ||| y, rfl, rfl, ?_⟩
    rcases hx with rfl | rfl <;> rcases hy with rfl | rfl
    · exact Or.inl rfl
    · exact Or.inr rfl
    · exact Or.inr rfl
    · exact Or.inr rfl
/-- one entry, by the kinds of what lies on the stack (true a value, false a fact) -/
def Sp1 (s n : Int32) (l l' : List Bool) : Prop :=
  (∃ v, v ≤ 99999 ∧ s = nI 0 ∧ n = nI v ∧ l.length < 60 ∧ l' = true :: l) ∨ (∃ v, v < 12 ∧ s = nI 1 ∧ n = nI v ∧ l.length < 60 ∧ l' = true :: l) ∨ (∃ t, s = nI 9 ∧ l = false :: t ∧ l' = false :: t) ∨ (∃ t, opA s ∧ l = true :: true :: t ∧ l' = true :: t) ∨ (∃ t, opC s ∧ l = true :: true :: t ∧ l' = false :: t) ∨ (∃ t, opL s ∧ l = false :: false :: t ∧ l' = false :: t)
def Seg (S N : Nat → Int32) : Nat → Nat → List Bool → List Bool → Prop
  | 0, _, l, l' => l' = l
  | d + 1, k, l, l' => ∃ l1, Sp1 (S k) (N k) l l1 ∧ Seg S N d (k + 1) l1 l'
theorem Seg.app {S N : Nat → Int32} : ∀ {d k d' : Nat} {l l1 l2 : List Bool}, Seg S N d k l l1 → Seg S N d' (k + d) l1 l2 → Seg S N (d + d') k l l2 := by
  intro d
  induction d with
  | zero =>
    intro k d' l l1 l2 h1 h2
    have : l1 = l := h1
    subst this
    rw [Nat.zero_add]
    exact h2
  | succ d ih =>
    intro k d' l l1 l2 h1 h2
    obtain ⟨l3, a, b⟩ := h1
    rw [Nat.succ_add]
    exact ⟨l3, a, ih b (by rw [show k + 1 + d = k + (d + 1) by omega]; exact h2)⟩
theorem Seg.congr {S N S' N' : Nat → Int32} : ∀ {d k : Nat} {l l1 : List Bool}, (∀ j, k ≤ j → j < k + d → S' j = S j ∧ N' j = N j) → Seg S N d k l l1 → Seg S' N' d k l l1 := by
  intro d
  induction d with
  | zero => exact fun _ h => h
  | succ d ih =>
    intro k l l1 he h
    obtain ⟨l3, a, b⟩ := h
    refine ⟨l3, ?_, ih (fun j h1 h2 => he j (by omega) (by omega)) b⟩
    rw [(he k (by omega) (by omega)).1, (he k (by omega) (by omega)).2]
    exact a
/-- the two stacks agree; facts are 0 or 1 -/
def SR (A B : Nat → Int64) : List Bool → Prop
  | [] => True
  | t :: l => A l.length = B l.length ∧ (t = false → b01 (A l.length)) ∧ SR A B l
theorem SR.keep {A B A' B' : Nat → Int64} : ∀ {l : List Bool}, (∀ i, i < l.length → A' i = A i ∧ B' i = B i) → SR A B l → SR A' B' l := by
  intro l
  induction l with
  | nil => exact fun _ h => h
  | cons t l ih =>
    intro he h
    have h0 := he l.length (by rw [List.length_cons]; omega)
    refine ⟨by rw [h0.1, h0.2]; exact h.1, fun e => by rw [h0.1]; exact h.2.1 e, ih (fun i hi => he i (by rw [List.length_cons]; omega)) h.2.2⟩
def LC (b : Nat) (c c1 : St) : Prop := c1.1 = c.1 ∧ c1.2.2 = c.2.2 ∧ ∀ k, k ≠ b + 7 → c1.2.1 k = c.2.1 k
def LM (m m1 : St) : Prop := m1.1 = m.1 ∧ m1.2.2 = m.2.2 ∧ ∀ k, k ≠ 549 → m1.2.1 k = m.2.1 k
theorem LC.rf {b : Nat} {c : St} : LC b c c := ⟨rfl, rfl, fun _ _ => rfl⟩
theorem LM.rf {m : St} : LM m m := ⟨rfl, rfl, fun _ _ => rfl⟩
theorem LC.tr {b : Nat} {c c1 c2 : St} (h1 : LC b c c1) (h2 : LC b c1 c2) : LC b c c2 := ⟨h2.1.trans h1.1, h2.2.1.trans h1.2.1, fun k hk => (h2.2.2 k hk).trans (h1.2.2 k hk)⟩
theorem LM.tr {m m1 m2 : St} (h1 : LM m m1) (h2 : LM m1 m2) : LM m m2 := ⟨h2.1.trans h1.1, h2.2.1.trans h1.2.1, fun k hk => (h2.2.2 k hk).trans (h1.2.2 k hk)⟩
theorem LC.ul {b i : Nat} {c : St} {v : Int64} : LC b c (ul c (b + 7) i v) := ⟨rfl, rfl, fun k hk => ul_ne hk⟩
theorem LM.ul {i : Nat} {m : St} {v : Int64} : LM m (ul m 549 i v) := ⟨rfl, rfl, fun k hk => ul_ne hk⟩
theorem ul_rd {s : St} {k i k' i' : Nat} {v : Int64} : (ul s k i v).2.1 k' i' = if k' = k then (if i' = i then v else s.2.1 k' i') else s.2.1 k' i' := by
  by_cases h : k' = k
  · subst h
    rw [if_pos rfl, ul_eq]
    rfl
  · rw [if_neg h, ul_ne h]
theorem SR.push {b : Nat} {c m : St} {l : List Bool} {t : Bool} {v : Int64} (h : SR (c.2.1 (b + 7)) (m.2.1 549) l) (ht : t = false → b01 v) : SR ((ul c (b + 7) l.length v).2.1 (b + 7)) ((ul m 549 l.length v).2.1 549) (t :: l) := by
  refine ⟨?_, fun e => ?_, h.keep (fun i hi => ?_)⟩
  · rw [ul_rd, ul_rd, if_pos rfl, if_pos rfl, if_pos rfl, if_pos rfl]
  · rw [ul_rd, if_pos rfl, if_pos rfl]
    exact ht e
  · rw [ul_rd, ul_rd, if_pos rfl, if_pos rfl, if_neg (by omega), if_neg (by omega)]
    exact ⟨rfl, rfl⟩
theorem enc_neg {s n : Int32} (h : opA s ∨ opC s ∨ opL s) : enc s n < 0 ∧ enc s n < -12 ∧ ¬ enc s n = -20 := by
  rcases h with h | h | h
  · rcases h with rfl | rfl | rfl | rfl | rfl
    · exact (by rw [show enc (nI 2) n = -26 from rfl]; decide)
    · exact (by rw [show enc (nI 3) n = -27 from rfl]; decide)
    · exact (by rw [show enc (nI 13) n = -28 from rfl]; decide)
    · exact (by rw [show enc (nI 14) n = -29 from rfl]; decide)
    · exact (by rw [show enc (nI 15) n = -30 from rfl]; decide)
  · rcases h with rfl | rfl | rfl | rfl | rfl
    · exact (by rw [show enc (nI 4) n = -33 from rfl]; decide)
    · exact (by rw [show enc (nI 5) n = -36 from rfl]; decide)
    · exact (by rw [show enc (nI 6) n = -34 from rfl]; decide)
    · exact (by rw [show enc (nI 7) n = -37 from rfl]; decide)
    · exact (by rw [show enc (nI 8) n = -35 from rfl]; decide)
  · rcases h with rfl | rfl
    · exact (by rw [show enc (nI 10) n = -19 from rfl]; decide)
    · exact (by rw [show enc (nI 11) n = -18 from rfl]; decide)
theorem op_ne {s : Int32} (h : opA s ∨ opC s ∨ opL s) : ¬ s = nI 0 ∧ ¬ s = nI 1 ∧ ¬ s = nI 9 := by
  rcases h with h | h | h
  · rcases h with rfl | rfl | rfl | rfl | rfl <;> decide
  · rcases h with rfl | rfl | rfl | rfl | rfl <;> decide
  · rcases h with rfl | rfl <;> decide
