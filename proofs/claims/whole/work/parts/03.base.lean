/-- the memory of one side: ints, longs, references, by slot and place -/
abbrev St : Type := (Nat → Nat → Int32) × (Nat → Nat → Int64) × (Nat → Nat → Option Nat)
def ui (s : St) (k i : Nat) (v : Int32) : St := (va_up s.1 k (upd (s.1 k) i v), s.2.1, s.2.2)
def ur (s : St) (k : Nat) (f : Nat → Int32) : St := (va_up s.1 k f, s.2.1, s.2.2)
def ul (s : St) (k i : Nat) (v : Int64) : St := (s.1, va_up s.2.1 k (vp_updL (s.2.1 k) i v), s.2.2)
def uq (s : St) (k i : Nat) (v : Option Nat) : St := (s.1, s.2.1, va_up s.2.2 k (va_up (s.2.2 k) i v))
/-- where it lies: the array classes, the classes and their slots, the addresses of the slots, the slots that stand; addresses of texts, their bytes, and of static arrays -/
abbrev Ev : Type := (Nat → ClassId) × (Nat → ClassId) × (Nat → Nat → Nat) × (Nat → Nat) × List Nat × (Nat → Nat) × (Nat → Nat) × (Nat → Nat)
abbrev eD (E : Ev) : va_G := (E.2.1, E.2.2.1)
abbrev eT (E : Ev) : List (ClassId × FieldType) := [(E.1 0, .int), (E.1 1, .byte), (E.1 2, .long), (E.1 3, .boolean), (E.1 4, .object "FireTax$Page"), (E.1 5, .object "FireTax$Rule"), (E.1 6, .array .int)]
abbrev eq (E : Ev) : Nat → Nat := E.2.2.2.1
abbrev eL (E : Ev) : List Nat := E.2.2.2.2.1
def flX0 (E : Ev) (s : St) (k : Nat) : List Value := [.ref (E.2.2.2.1 20), .ref (E.2.2.2.1 (k + 2)), .int (s.1 k 2), .ref (E.2.2.2.1 100)]
def flX1 (E : Ev) (s : St) (k : Nat) : List Value := [.int (s.1 k 0), .int (s.1 k 1), .int (s.1 k 2), .int (s.1 k 3), .int (s.1 k 4), .int (s.1 k 5), .int (s.1 k 6), .int (s.1 k 7), .ref (E.2.2.2.1 (k + 9)), .ref (E.2.2.2.1 (k + 10)), .ref (E.2.2.2.1 (k + 11)), .ref (E.2.2.2.1 (k + 12)), .ref (E.2.2.2.1 (k + 13))]
def flX2 (E : Ev) (s : St) (k : Nat) : List Value := [.ref (E.2.2.2.1 (k + 14)), .ref (E.2.2.2.1 (k + 2)), .ref (E.2.2.2.1 (k + 3)), .int (s.1 k 3), .ref (E.2.2.2.1 (k + 5)), .ref (E.2.2.2.1 (k + 6)), .ref (E.2.2.2.1 (k + 7)), .int (s.1 k 7), .int (s.1 k 8), .int (s.1 k 9)]
def flX3 (E : Ev) (s : St) (k : Nat) : List Value := [.ref (E.2.2.2.1 134), .ref (E.2.2.2.1 50), .ref (E.2.2.2.1 (k + 3)), .ref (E.2.2.2.1 (k + 4)), .ref (E.2.2.2.1 (k + 5)), .int (s.1 k 5), .int (s.1 k 6), .ref (E.2.2.2.1 (k + 8)), .int (s.1 k 8), .int (s.1 k 9), .int (s.1 k 10)]
def flX4 (E : Ev) (s : St) (k : Nat) : List Value := [.ref (E.2.2.2.1 (k + 1)), .int (s.1 k 1), .ref (E.2.2.2.1 (k + 3)), .ref (E.2.2.2.1 (k + 4)), .ref (E.2.2.2.1 (k + 5)), .int (s.1 k 5), .ref (E.2.2.2.1 (k + 7))]
def flX5 (E : Ev) (s : St) (k : Nat) : List Value := [.ref (E.2.2.2.1 20), va_rf ((s.2.2 k 1).map E.2.2.2.1), .int (s.1 k 2), .int (s.1 k 3)]
def flX6 (E : Ev) (s : St) (k : Nat) : List Value := [.ref (E.2.2.2.1 120), .ref (E.2.2.2.1 50), .ref (E.2.2.2.1 (k + 3)), .ref (E.2.2.2.1 (k + 4)), .int (s.1 k 4)]
def flX7 (E : Ev) (s : St) (k : Nat) : List Value := [.ref (E.2.2.2.1 (k + 1)), .ref (E.2.2.2.1 (k + 2)), .ref (E.2.2.2.1 (k + 3)), .int (s.1 k 3), .int (s.1 k 4), .int (s.1 k 5), .int (s.1 k 6), .int (s.1 k 7)]
def flX8 (E : Ev) (s : St) (k : Nat) : List Value := [.ref (E.2.2.2.1 134), .ref (E.2.2.2.1 (k + 2)), va_rf ((s.2.2 k 2).map E.2.2.2.1), .int (s.1 k 3)]
def flX9 (E : Ev) (s : St) (k : Nat) : List Value := [.ref (E.2.2.2.1 (k + 1)), .int (s.1 k 1), .ref (E.2.2.2.1 20), .ref (E.2.2.2.1 30), .ref (E.2.2.2.1 40), .ref (E.2.2.2.1 (k + 6)), .int (s.1 k 6), .ref (E.2.2.2.1 120), .ref (E.2.2.2.1 (k + 9)), .ref (E.2.2.2.1 50), .ref (E.2.2.2.1 60), .ref (E.2.2.2.1 80), .ref (E.2.2.2.1 (k + 13))]
def flX10 (E : Ev) (s : St) (k : Nat) : List Value := [.int (s.1 k 0), .ref (E.2.2.2.1 (k + 2)), .ref (E.2.2.2.1 (k + 3)), .ref (E.2.2.2.1 (k + 4)), .ref (E.2.2.2.1 (k + 5)), .ref (E.2.2.2.1 (k + 6)), .ref (E.2.2.2.1 (k + 7)), .ref (E.2.2.2.1 (k + 8)), .ref (E.2.2.2.1 (k + 9)), .ref (E.2.2.2.1 (k + 10)), .ref (E.2.2.2.1 (k + 11)), .ref (E.2.2.2.1 (k + 12)), .ref (E.2.2.2.1 (k + 13)), .ref (E.2.2.2.1 (k + 14)), .ref (E.2.2.2.1 (k + 15)), .ref (E.2.2.2.1 (k + 16)), .ref (E.2.2.2.1 (k + 17)), .ref (E.2.2.2.1 (k + 18)), .ref (E.2.2.2.1 (k + 19)), .ref (E.2.2.2.1 (k + 20)), .ref (E.2.2.2.1 (k + 21)), .ref (E.2.2.2.1 (k + 22)), .ref (E.2.2.2.1 (k + 23)), .ref (E.2.2.2.1 (k + 24)), .ref (E.2.2.2.1 (k + 25)), .ref (E.2.2.2.1 (k + 26)), .ref (E.2.2.2.1 (k + 27)), .ref (E.2.2.2.1 (k + 28)), .int (s.1 k 28), .int (s.1 k 29), .int (s.1 k 30), .int (s.1 k 31), .int (s.1 k 32), .int (s.1 k 33), .int (s.1 k 34), .int (s.1 k 35), .int (s.1 k 36), .int (s.1 k 37), .int (s.1 k 38), .ref (E.2.2.2.1 (k + 40)), .ref (E.2.2.2.1 (k + 41)), .ref (E.2.2.2.1 (k + 42)), .ref (E.2.2.2.1 (k + 43)), .ref (E.2.2.2.1 (k + 44)), .ref (E.2.2.2.1 (k + 45)), .ref (E.2.2.2.1 (k + 46)), .ref (E.2.2.2.1 (k + 47)), .ref (E.2.2.2.1 (k + 48)), .ref (E.2.2.2.1 (k + 49)), .int (s.1 k 49), .ref (E.2.2.2.1 (k + 51)), .ref (E.2.2.2.1 (k + 52)), .int (s.1 k 52), .int (s.1 k 53), .int (s.1 k 54), .int (s.1 k 55), .ref (E.2.2.2.1 (k + 57)), .ref (E.2.2.2.1 (k + 58)), .ref (E.2.2.2.1 (k + 59)), .ref (E.2.2.2.1 (k + 60)), .ref (E.2.2.2.1 (k + 61)), .int (s.1 k 61), .int (s.1 k 62)]
def cellA (E : Ev) (s : St) (k t : Nat) : va_E := if t < 20000 then .inl (E.1 0, t - 10000, .inl (s.1 k)) else if t < 30000 then .inl (E.1 1, t - 20000, .inl (s.1 k)) else if t < 40000 then .inl (E.1 3, t - 30000, .inl (s.1 k)) else if t < 50000 then .inl (E.1 2, t - 40000, .inr (.inl (s.2.1 k))) else if t < 60000 then .inl (E.1 4, t - 50000, .inr (.inr (.inr (.inr (fun i => (s.2.2 k i).map E.2.2.2.1))))) else if t < 70000 then .inl (E.1 5, t - 60000, .inr (.inr (.inr (.inr (fun i => (s.2.2 k i).map E.2.2.2.1))))) else .inl (E.1 6, t - 70000, .inr (.inr (.inr (.inr (fun i => some (E.2.2.2.1 (k + 9 + i)))))))
def cellT (E : Ev) (s : St) (k t : Nat) : va_E := if t = 1 then .inr (0, flX0 E s k) else if t = 2 then .inr (1, flX1 E s k) else if t = 3 then .inr (2, flX2 E s k) else if t = 4 then .inr (3, flX3 E s k) else if t = 5 then .inr (4, flX4 E s k) else if t = 6 then .inr (5, flX5 E s k) else if t = 7 then .inr (6, flX6 E s k) else if t = 8 then .inr (7, flX7 E s k) else if t = 9 then .inr (8, flX8 E s k) else if t = 10 then .inr (9, flX9 E s k) else if t = 11 then .inr (10, flX10 E s k) else cellA E s k t
def cell (E : Ev) (s : St) (k : Nat) : va_E := cellT E s k (ty k)
theorem cO0 {E : Ev} {s : St} {k : Nat} (h : ty k = 1) : cell E s k = .inr (0, flX0 E s k) := by unfold cell; rw [h]; rfl
theorem cO1 {E : Ev} {s : St} {k : Nat} (h : ty k = 2) : cell E s k = .inr (1, flX1 E s k) := by unfold cell; rw [h]; rfl
theorem cO2 {E : Ev} {s : St} {k : Nat} (h : ty k = 3) : cell E s k = .inr (2, flX2 E s k) := by unfold cell; rw [h]; rfl
theorem cO3 {E : Ev} {s : St} {k : Nat} (h : ty k = 4) : cell E s k = .inr (3, flX3 E s k) := by unfold cell; rw [h]; rfl
theorem cO4 {E : Ev} {s : St} {k : Nat} (h : ty k = 5) : cell E s k = .inr (4, flX4 E s k) := by unfold cell; rw [h]; rfl
theorem cO5 {E : Ev} {s : St} {k : Nat} (h : ty k = 6) : cell E s k = .inr (5, flX5 E s k) := by unfold cell; rw [h]; rfl
theorem cO6 {E : Ev} {s : St} {k : Nat} (h : ty k = 7) : cell E s k = .inr (6, flX6 E s k) := by unfold cell; rw [h]; rfl
theorem cO7 {E : Ev} {s : St} {k : Nat} (h : ty k = 8) : cell E s k = .inr (7, flX7 E s k) := by unfold cell; rw [h]; rfl
theorem cO8 {E : Ev} {s : St} {k : Nat} (h : ty k = 9) : cell E s k = .inr (8, flX8 E s k) := by unfold cell; rw [h]; rfl
theorem cO9 {E : Ev} {s : St} {k : Nat} (h : ty k = 10) : cell E s k = .inr (9, flX9 E s k) := by unfold cell; rw [h]; rfl
theorem cO10 {E : Ev} {s : St} {k : Nat} (h : ty k = 11) : cell E s k = .inr (10, flX10 E s k) := by unfold cell; rw [h]; rfl
theorem cI {E : Ev} {s : St} {k n : Nat} (h : ty k = 10000 + n) (hn : n < 10000) : cell E s k = .inl (E.1 0, n, .inl (s.1 k)) := by
  unfold cell cellT cellA
  rw [h]
  simp (config := {decide := false}) only [if_neg (show ¬ 10000 + n = 1 by omega), if_neg (show ¬ 10000 + n = 2 by omega), if_neg (show ¬ 10000 + n = 3 by omega), if_neg (show ¬ 10000 + n = 4 by omega), if_neg (show ¬ 10000 + n = 5 by omega), if_neg (show ¬ 10000 + n = 6 by omega), if_neg (show ¬ 10000 + n = 7 by omega), if_neg (show ¬ 10000 + n = 8 by omega), if_neg (show ¬ 10000 + n = 9 by omega), if_neg (show ¬ 10000 + n = 10 by omega), if_neg (show ¬ 10000 + n = 11 by omega), if_pos (show 10000 + n < 20000 by omega), Nat.add_sub_cancel_left]
theorem cB {E : Ev} {s : St} {k n : Nat} (h : ty k = 20000 + n) (hn : n < 10000) : cell E s k = .inl (E.1 1, n, .inl (s.1 k)) := by
  unfold cell cellT cellA
  rw [h]
  simp (config := {decide := false}) only [if_neg (show ¬ 20000 + n = 1 by omega), if_neg (show ¬ 20000 + n = 2 by omega), if_neg (show ¬ 20000 + n = 3 by omega), if_neg (show ¬ 20000 + n = 4 by omega), if_neg (show ¬ 20000 + n = 5 by omega), if_neg (show ¬ 20000 + n = 6 by omega), if_neg (show ¬ 20000 + n = 7 by omega), if_neg (show ¬ 20000 + n = 8 by omega), if_neg (show ¬ 20000 + n = 9 by omega), if_neg (show ¬ 20000 + n = 10 by omega), if_neg (show ¬ 20000 + n = 11 by omega), if_neg (show ¬ 20000 + n < 20000 by omega), if_pos (show 20000 + n < 30000 by omega), Nat.add_sub_cancel_left]
theorem cZ {E : Ev} {s : St} {k n : Nat} (h : ty k = 30000 + n) (hn : n < 10000) : cell E s k = .inl (E.1 3, n, .inl (s.1 k)) := by
  unfold cell cellT cellA
  rw [h]
  simp (config := {decide := false}) only [if_neg (show ¬ 30000 + n = 1 by omega), if_neg (show ¬ 30000 + n = 2 by omega), if_neg (show ¬ 30000 + n = 3 by omega), if_neg (show ¬ 30000 + n = 4 by omega), if_neg (show ¬ 30000 + n = 5 by omega), if_neg (show ¬ 30000 + n = 6 by omega), if_neg (show ¬ 30000 + n = 7 by omega), if_neg (show ¬ 30000 + n = 8 by omega), if_neg (show ¬ 30000 + n = 9 by omega), if_neg (show ¬ 30000 + n = 10 by omega), if_neg (show ¬ 30000 + n = 11 by omega), if_neg (show ¬ 30000 + n < 20000 by omega), if_neg (show ¬ 30000 + n < 30000 by omega), if_pos (show 30000 + n < 40000 by omega), Nat.add_sub_cancel_left]
theorem cJ {E : Ev} {s : St} {k n : Nat} (h : ty k = 40000 + n) (hn : n < 10000) : cell E s k = .inl (E.1 2, n, .inr (.inl (s.2.1 k))) := by
  unfold cell cellT cellA
  rw [h]
  simp (config := {decide := false}) only [if_neg (show ¬ 40000 + n = 1 by omega), if_neg (show ¬ 40000 + n = 2 by omega), if_neg (show ¬ 40000 + n = 3 by omega), if_neg (show ¬ 40000 + n = 4 by omega), if_neg (show ¬ 40000 + n = 5 by omega), if_neg (show ¬ 40000 + n = 6 by omega), if_neg (show ¬ 40000 + n = 7 by omega), if_neg (show ¬ 40000 + n = 8 by omega), if_neg (show ¬ 40000 + n = 9 by omega), if_neg (show ¬ 40000 + n = 10 by omega), if_neg (show ¬ 40000 + n = 11 by omega), if_neg (show ¬ 40000 + n < 20000 by omega), if_neg (show ¬ 40000 + n < 30000 by omega), if_neg (show ¬ 40000 + n < 40000 by omega), if_pos (show 40000 + n < 50000 by omega), Nat.add_sub_cancel_left]
theorem cPg {E : Ev} {s : St} {k n : Nat} (h : ty k = 50000 + n) (hn : n < 10000) : cell E s k = .inl (E.1 4, n, .inr (.inr (.inr (.inr (fun i => (s.2.2 k i).map E.2.2.2.1))))) := by
  unfold cell cellT cellA
  rw [h]
  simp (config := {decide := false}) only [if_neg (show ¬ 50000 + n = 1 by omega), if_neg (show ¬ 50000 + n = 2 by omega), if_neg (show ¬ 50000 + n = 3 by omega), if_neg (show ¬ 50000 + n = 4 by omega), if_neg (show ¬ 50000 + n = 5 by omega), if_neg (show ¬ 50000 + n = 6 by omega), if_neg (show ¬ 50000 + n = 7 by omega), if_neg (show ¬ 50000 + n = 8 by omega), if_neg (show ¬ 50000 + n = 9 by omega), if_neg (show ¬ 50000 + n = 10 by omega), if_neg (show ¬ 50000 + n = 11 by omega), if_neg (show ¬ 50000 + n < 20000 by omega), if_neg (show ¬ 50000 + n < 30000 by omega), if_neg (show ¬ 50000 + n < 40000 by omega), if_neg (show ¬ 50000 + n < 50000 by omega), if_pos (show 50000 + n < 60000 by omega), Nat.add_sub_cancel_left]
theorem cRl {E : Ev} {s : St} {k n : Nat} (h : ty k = 60000 + n) (hn : n < 10000) : cell E s k = .inl (E.1 5, n, .inr (.inr (.inr (.inr (fun i => (s.2.2 k i).map E.2.2.2.1))))) := by
  unfold cell cellT cellA
  rw [h]
  simp (config := {decide := false}) only [if_neg (show ¬ 60000 + n = 1 by omega), if_neg (show ¬ 60000 + n = 2 by omega), if_neg (show ¬ 60000 + n = 3 by omega), if_neg (show ¬ 60000 + n = 4 by omega), if_neg (show ¬ 60000 + n = 5 by omega), if_neg (show ¬ 60000 + n = 6 by omega), if_neg (show ¬ 60000 + n = 7 by omega), if_neg (show ¬ 60000 + n = 8 by omega), if_neg (show ¬ 60000 + n = 9 by omega), if_neg (show ¬ 60000 + n = 10 by omega), if_neg (show ¬ 60000 + n = 11 by omega), if_neg (show ¬ 60000 + n < 20000 by omega), if_neg (show ¬ 60000 + n < 30000 by omega), if_neg (show ¬ 60000 + n < 40000 by omega), if_neg (show ¬ 60000 + n < 50000 by omega), if_neg (show ¬ 60000 + n < 60000 by omega), if_pos (show 60000 + n < 70000 by omega), Nat.add_sub_cancel_left]
theorem cII {E : Ev} {s : St} {k n : Nat} (h : ty k = 70000 + n) (hn : n < 10000) : cell E s k = .inl (E.1 6, n, .inr (.inr (.inr (.inr (fun i => some (E.2.2.2.1 (k + 9 + i))))))) := by
  unfold cell cellT cellA
  rw [h]
  simp (config := {decide := false}) only [if_neg (show ¬ 70000 + n = 1 by omega), if_neg (show ¬ 70000 + n = 2 by omega), if_neg (show ¬ 70000 + n = 3 by omega), if_neg (show ¬ 70000 + n = 4 by omega), if_neg (show ¬ 70000 + n = 5 by omega), if_neg (show ¬ 70000 + n = 6 by omega), if_neg (show ¬ 70000 + n = 7 by omega), if_neg (show ¬ 70000 + n = 8 by omega), if_neg (show ¬ 70000 + n = 9 by omega), if_neg (show ¬ 70000 + n = 10 by omega), if_neg (show ¬ 70000 + n = 11 by omega), if_neg (show ¬ 70000 + n < 20000 by omega), if_neg (show ¬ 70000 + n < 30000 by omega), if_neg (show ¬ 70000 + n < 40000 by omega), if_neg (show ¬ 70000 + n < 50000 by omega), if_neg (show ¬ 70000 + n < 60000 by omega), if_neg (show ¬ 70000 + n < 70000 by omega), Nat.add_sub_cancel_left]
theorem cell_congr {E : Ev} {s t : St} {k : Nat} (h1 : t.1 k = s.1 k) (h2 : t.2.1 k = s.2.1 k) (h3 : t.2.2 k = s.2.2 k) : cell E t k = cell E s k := by
  simp only [cell, cellT, cellA, flX0, flX1, flX2, flX3, flX4, flX5, flX6, flX7, flX8, flX9, flX10, h1, h2, h3]
theorem ui_ne {s : St} {k j i : Nat} {v : Int32} (h : j ≠ k) : (ui s k i v).1 j = s.1 j := va_up_ne _ _ h
theorem ui_eq {s : St} {k i : Nat} {v : Int32} : (ui s k i v).1 k = upd (s.1 k) i v := va_up_self _ _ _
theorem ur_ne {s : St} {k j : Nat} {f : Nat → Int32} (h : j ≠ k) : (ur s k f).1 j = s.1 j := va_up_ne _ _ h
theorem ur_eq {s : St} {k : Nat} {f : Nat → Int32} : (ur s k f).1 k = f := va_up_self _ _ _
theorem ul_ne {s : St} {k j i : Nat} {v : Int64} (h : j ≠ k) : (ul s k i v).2.1 j = s.2.1 j := va_up_ne _ _ h
theorem ul_eq {s : St} {k i : Nat} {v : Int64} : (ul s k i v).2.1 k = vp_updL (s.2.1 k) i v := va_up_self _ _ _
theorem uq_ne {s : St} {k j i : Nat} {v : Option Nat} (h : j ≠ k) : (uq s k i v).2.2 j = s.2.2 j := va_up_ne _ _ h
theorem uq_eq {s : St} {k i : Nat} {v : Option Nat} : (uq s k i v).2.2 k = va_up (s.2.2 k) i v := va_up_self _ _ _
/-- the world: a cell for each slot that stands -/
def cw (E : Ev) (s : St) : va_W := (eL E).map (fun k => (eq E k, cell E s k))
theorem cw_get (E : Ev) (s : St) (i : Nat) : (cw E s)[i]? = ((eL E)[i]?).map (fun k => (eq E k, cell E s k)) := List.getElem?_map
theorem cw_at {E : Ev} {s : St} {k : Nat} (h : k ∈ eL E) : ∃ i : Nat, (eL E)[i]? = some k ∧ (cw E s)[i]? = some (eq E k, cell E s k) := by
  obtain ⟨i, hi⟩ := List.getElem?_of_mem h
  exact ⟨i, hi, by rw [cw_get, hi]; rfl⟩
theorem cw_set {A : Nat → Prop} {E : Ev} {s t : St} {i k : Nat} (hD : va_D A (cw E s)) (hi : (eL E)[i]? = some k) (ht : ∀ j, j ≠ k → cell E t j = cell E s j) {x : va_E} (hx : cell E t k = x) : (cw E s).set i (eq E k, x) = cw E t := by
  subst hx
  apply List.ext_getElem?
  intro j
  rw [List.getElem?_set]
  by_cases e : i = j
  · subst e
    have hlt : i < (cw E s).length := by
      have := (List.getElem?_eq_some_iff.mp hi).1
      unfold cw
      rw [List.length_map]
      exact this
    rw [if_pos rfl, if_pos hlt, cw_get, hi]
    rfl
  · rw [if_neg e, cw_get, cw_get]
    cases hj : (eL E)[j]? with
    | none => rfl
    | some kj =>
      have hne : kj ≠ k := by
        intro h
        subst h
        exact e (hD.1 i j (eq E kj, cell E s kj) (eq E kj, cell E s kj) (by rw [cw_get, hi]; rfl) (by rw [cw_get, hj]; rfl) rfl)
      show some (eq E kj, cell E s kj) = some (eq E kj, cell E t kj)
      rw [ht kj hne]
/-- the places that a method may change -/
def Af (E : Ev) (sz : Nat) : Nat → Prop := fun a => (∃ k, k ∈ eL E ∧ a = eq E k) ∨ sz ≤ a
theorem cw_self {E : Ev} {s : St} {B : Nat → Prop} {sz : Nat} (hD : va_D B (cw E s)) : va_D (Af E sz) (cw E s) := by
  refine ⟨hD.1, fun i q hq => ?_⟩
  rw [cw_get] at hq
  cases hk : (eL E)[i]? with
  | none => rw [hk] at hq; exact absurd hq (by simp)
  | some k =>
    rw [hk] at hq
    have e : q = (eq E k, cell E s k) := (Option.some.inj hq).symm
    subst e
    exact Or.inl ⟨k, List.mem_of_getElem? hk, rfl⟩
theorem Af_of {E : Ev} {s : St} {A : Nat → Prop} {H0 sz : Nat} (hD : va_D A (cw E s)) (hA : ∀ q, H0 ≤ q → A q) (hz : H0 ≤ sz) : ∀ q, Af E sz q → A q := by
  intro q h
  rcases h with ⟨k, hk, rfl⟩ | h
  · obtain ⟨i, -, hi⟩ := cw_at (s := s) hk
    exact hD.2 i _ hi
  · exact hA q (Nat.le_trans hz h)
theorem cw_D {E : Ev} {s t : St} {A : Nat → Prop} (hD : va_D A (cw E s)) : va_D A (cw E t) := by
  refine ⟨fun i j p q hp hq h => ?_, fun i q hq => ?_⟩
  · rw [cw_get] at hp hq
    cases hi : (eL E)[i]? with
    | none => rw [hi] at hp; exact absurd hp (by simp)
    | some a =>
      cases hj : (eL E)[j]? with
      | none => rw [hj] at hq; exact absurd hq (by simp)
      | some b =>
        rw [hi] at hp; rw [hj] at hq
        have e1 : p = (eq E a, cell E t a) := (Option.some.inj hp).symm
        have e2 : q = (eq E b, cell E t b) := (Option.some.inj hq).symm
        subst e1; subst e2
        exact hD.1 i j (eq E a, cell E s a) (eq E b, cell E s b) (by rw [cw_get, hi]; rfl) (by rw [cw_get, hj]; rfl) h
  · rw [cw_get] at hq
    cases hi : (eL E)[i]? with
    | none => rw [hi] at hq; exact absurd hq (by simp)
    | some a =>
      rw [hi] at hq
      have e1 : q = (eq E a, cell E t a) := (Option.some.inj hq).symm
      subst e1
      exact hD.2 i (eq E a, cell E s a) (by rw [cw_get, hi]; rfl)
/-- the words of the tables that last -/
def uW : List Cond := lw_tbl.filter goodWord
theorem uW_t {w : Cond} (h : w ∈ tables_1) (g : goodWord w = true) : w ∈ uW := List.mem_filter.mpr ⟨List.mem_append_right _ h, g⟩
theorem uW_good {w : Cond} (h : w ∈ uW) : (w.onTables && w.keeps) = true ∨ ∃ ty, w = .arrayClass ty := good_of_word (List.mem_filter.mp h).2
theorem uW_G {ws : List Cond} (h : ∀ w ∈ ws, w ∈ uW) : GoodIn uW ws := fun w hw => ⟨h w hw, uW_good (h w hw)⟩
theorem uW_1 {i : Nat} {w : Cond} (h : tables_1_1[i]? = some w) (g : goodWord w = true) : w ∈ uW := uW_t (List.mem_append_left _ (List.mem_of_getElem? h)) g
theorem uW_2 {i : Nat} {w : Cond} (h : tables_1_2[i]? = some w) (g : goodWord w = true) : w ∈ uW := uW_t (List.mem_append_right _ (List.mem_append_left _ (List.mem_of_getElem? h))) g
theorem uW_3 {i : Nat} {w : Cond} (h : tables_1_3[i]? = some w) (g : goodWord w = true) : w ∈ uW := uW_t (List.mem_append_right _ (List.mem_append_right _ (List.mem_append_left _ (List.mem_of_getElem? h)))) g
theorem uW_4 {i : Nat} {w : Cond} (h : tables_1_4[i]? = some w) (g : goodWord w = true) : w ∈ uW := uW_t (List.mem_append_right _ (List.mem_append_right _ (List.mem_append_right _ (List.mem_append_left _ (List.mem_of_getElem? h))))) g
theorem uW_5 {i : Nat} {w : Cond} (h : tables_1_5[i]? = some w) (g : goodWord w = true) : w ∈ uW := uW_t (List.mem_append_right _ (List.mem_append_right _ (List.mem_append_right _ (List.mem_append_right _ (List.mem_append_left _ (List.mem_of_getElem? h)))))) g
theorem uW_6 {i : Nat} {w : Cond} (h : tables_1_6[i]? = some w) (g : goodWord w = true) : w ∈ uW := uW_t (List.mem_append_right _ (List.mem_append_right _ (List.mem_append_right _ (List.mem_append_right _ (List.mem_append_right _ (List.mem_append_left _ (List.mem_of_getElem? h))))))) g
theorem uW_7 {i : Nat} {w : Cond} (h : tables_1_7[i]? = some w) (g : goodWord w = true) : w ∈ uW := uW_t (List.mem_append_right _ (List.mem_append_right _ (List.mem_append_right _ (List.mem_append_right _ (List.mem_append_right _ (List.mem_append_right _ (List.mem_of_getElem? h))))))) g
theorem uW_s {q : MethodName × Nat} (h : q ∈ lw_privs) (g : goodWord (Cond.selects q.1.cls q.1 q.1) = true) : Cond.selects q.1.cls q.1 q.1 ∈ uW := List.mem_filter.mpr ⟨List.mem_append_left _ (List.mem_map_of_mem h), g⟩
