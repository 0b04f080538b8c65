/-- the slots that a slot's cell names by itself -/
def chl (k t : Nat) : List Nat := if t = 1 then [20, k + 2, 100] else if t = 2 then [k + 9, k + 10, k + 11, k + 12, k + 13] else if t = 3 then [k + 14, k + 2, k + 3, k + 5, k + 6, k + 7] else if t = 4 then [134, 50, k + 3, k + 4, k + 5, k + 8] else if t = 5 then [k + 1, k + 3, k + 4, k + 5, k + 7] else if t = 6 then [20] else if t = 7 then [120, 50, k + 3, k + 4] else if t = 8 then [k + 1, k + 2, k + 3] else if t = 9 then [134, k + 2] else if t = 10 then [k + 1, 20, 30, 40, k + 6, 120, k + 9, 50, 60, 80, k + 13] else if t = 11 then [k + 2, k + 3, k + 4, k + 5, k + 6, k + 7, k + 8, k + 9, k + 10, k + 11, k + 12, k + 13, k + 14, k + 15, k + 16, k + 17, k + 18, k + 19, k + 20, k + 21, k + 22, k + 23, k + 24, k + 25, k + 26, k + 27, k + 28, k + 40, k + 41, k + 42, k + 43, k + 44, k + 45, k + 46, k + 47, k + 48, k + 49, k + 51, k + 52, k + 57, k + 58, k + 59, k + 60, k + 61] else if 70000 ≤ t then [k + 9, k + 10, k + 11, k + 12, k + 13] else []
def eX (E : Ev) (q : Nat → Nat) (L : List Nat) : Ev := (E.1, E.2.1, E.2.2.1, q, L, E.2.2.2.2.2)
set_option maxHeartbeats 4000000 in
theorem cell_q {E : Ev} {q : Nat → Nat} {L : List Nat} {s t : St} {k : Nat} (h1 : t.1 k = s.1 k) (h2 : t.2.1 k = s.2.1 k) (h3 : t.2.2 k = s.2.2 k) (hr : ∀ i, (s.2.2 k i).map q = (s.2.2 k i).map (eq E)) (hII : ty k < 70000) (hc : ∀ c ∈ chl k (ty k), q c = eq E c) : cell (eX E q L) t k = cell E s k := by
  unfold cell
  generalize ty k = v at hc hII
  have hr' : ∀ i, (s.2.2 k i).map q = (s.2.2 k i).map E.2.2.2.1 := hr
  unfold cellT
  by_cases e0 : v = 1
  · subst e0
    have c0 : q (20) = E.2.2.2.1 (20) := hc _ (by simp [chl])
    have c1 : q (k + 2) = E.2.2.2.1 (k + 2) := hc _ (by simp [chl])
    have c2 : q (100) = E.2.2.2.1 (100) := hc _ (by simp [chl])
    simp only [if_true, if_false, Nat.reduceEqDiff, flX0, eX, h1, h2, h3, hr, c0, c1, c2]
  simp only [if_neg e0]
  by_cases e1 : v = 2
  · subst e1
    have c0 : q (k + 9) = E.2.2.2.1 (k + 9) := hc _ (by simp [chl])
    have c1 : q (k + 10) = E.2.2.2.1 (k + 10) := hc _ (by simp [chl])
    have c2 : q (k + 11) = E.2.2.2.1 (k + 11) := hc _ (by simp [chl])
    have c3 : q (k + 12) = E.2.2.2.1 (k + 12) := hc _ (by simp [chl])
    have c4 : q (k + 13) = E.2.2.2.1 (k + 13) := hc _ (by simp [chl])
    simp only [if_true, if_false, Nat.reduceEqDiff, flX1, eX, h1, h2, h3, hr, c0, c1, c2, c3, c4]
  simp only [if_neg e1]
  by_cases e2 : v = 3
  · subst e2
    have c0 : q (k + 14) = E.2.2.2.1 (k + 14) := hc _ (by simp [chl])
    have c1 : q (k + 2) = E.2.2.2.1 (k + 2) := hc _ (by simp [chl])
    have c2 : q (k + 3) = E.2.2.2.1 (k + 3) := hc _ (by simp [chl])
    have c3 : q (k + 5) = E.2.2.2.1 (k + 5) := hc _ (by simp [chl])
    have c4 : q (k + 6) = E.2.2.2.1 (k + 6) := hc _ (by simp [chl])
    have c5 : q (k + 7) = E.2.2.2.1 (k + 7) := hc _ (by simp [chl])
    simp only [if_true, if_false, Nat.reduceEqDiff, flX2, eX, h1, h2, h3, hr, c0, c1, c2, c3, c4, c5]
  simp only [if_neg e2]
  by_cases e3 : v = 4
  · subst e3
    have c0 : q (134) = E.2.2.2.1 (134) := hc _ (by simp [chl])
    have c1 : q (50) = E.2.2.2.1 (50) := hc _ (by simp [chl])
    have c2 : q (k + 3) = E.2.2.2.1 (k + 3) := hc _ (by simp [chl])
    have c3 : q (k + 4) = E.2.2.2.1 (k + 4) := hc _ (by simp [chl])
    have c4 : q (k + 5) = E.2.2.2.1 (k + 5) := hc _ (by simp [chl])
    have c5 : q (k + 8) = E.2.2.2.1 (k + 8) := hc _ (by simp [chl])
    simp only [if_true, if_false, Nat.reduceEqDiff, flX3, eX, h1, h2, h3, hr, c0, c1, c2, c3, c4, c5]
  simp only [if_neg e3]
  by_cases e4 : v = 5
  · subst e4
    have c0 : q (k + 1) = E.2.2.2.1 (k + 1) := hc _ (by simp [chl])
    have c1 : q (k + 3) = E.2.2.2.1 (k + 3) := hc _ (by simp [chl])
    have c2 : q (k + 4) = E.2.2.2.1 (k + 4) := hc _ (by simp [chl])
    have c3 : q (k + 5) = E.2.2.2.1 (k + 5) := hc _ (by simp [chl])
    have c4 : q (k + 7) = E.2.2.2.1 (k + 7) := hc _ (by simp [chl])
    simp only [if_true, if_false, Nat.reduceEqDiff, flX4, eX, h1, h2, h3, hr, c0, c1, c2, c3, c4]
  simp only [if_neg e4]
  by_cases e5 : v = 6
  · subst e5
    have c0 : q (20) = E.2.2.2.1 (20) := hc _ (by simp [chl])
    simp only [if_true, if_false, Nat.reduceEqDiff, flX5, eX, h1, h2, h3, hr, c0]
  simp only [if_neg e5]
  by_cases e6 : v = 7
  · subst e6
    have c0 : q (120) = E.2.2.2.1 (120) := hc _ (by simp [chl])
    have c1 : q (50) = E.2.2.2.1 (50) := hc _ (by simp [chl])
    have c2 : q (k + 3) = E.2.2.2.1 (k + 3) := hc _ (by simp [chl])
    have c3 : q (k + 4) = E.2.2.2.1 (k + 4) := hc _ (by simp [chl])
    simp only [if_true, if_false, Nat.reduceEqDiff, flX6, eX, h1, h2, h3, hr, c0, c1, c2, c3]
  simp only [if_neg e6]
  by_cases e7 : v = 8
  · subst e7
    have c0 : q (k + 1) = E.2.2.2.1 (k + 1) := hc _ (by simp [chl])
    have c1 : q (k + 2) = E.2.2.2.1 (k + 2) := hc _ (by simp [chl])
    have c2 : q (k + 3) = E.2.2.2.1 (k + 3) := hc _ (by simp [chl])
    simp only [if_true, if_false, Nat.reduceEqDiff, flX7, eX, h1, h2, h3, hr, c0, c1, c2]
  simp only [if_neg e7]
  by_cases e8 : v = 9
  · subst e8
    have c0 : q (134) = E.2.2.2.1 (134) := hc _ (by simp [chl])
    have c1 : q (k + 2) = E.2.2.2.1 (k + 2) := hc _ (by simp [chl])
    simp only [if_true, if_false, Nat.reduceEqDiff, flX8, eX, h1, h2, h3, hr, c0, c1]
  simp only [if_neg e8]
  by_cases e9 : v = 10
  · subst e9
    have c0 : q (k + 1) = E.2.2.2.1 (k + 1) := hc _ (by simp [chl])
    have c1 : q (20) = E.2.2.2.1 (20) := hc _ (by simp [chl])
    have c2 : q (30) = E.2.2.2.1 (30) := hc _ (by simp [chl])
    have c3 : q (40) = E.2.2.2.1 (40) := hc _ (by simp [chl])
    have c4 : q (k + 6) = E.2.2.2.1 (k + 6) := hc _ (by simp [chl])
    have c5 : q (120) = E.2.2.2.1 (120) := hc _ (by simp [chl])
    have c6 : q (k + 9) = E.2.2.2.1 (k + 9) := hc _ (by simp [chl])
    have c7 : q (50) = E.2.2.2.1 (50) := hc _ (by simp [chl])
    have c8 : q (60) = E.2.2.2.1 (60) := hc _ (by simp [chl])
    have c9 : q (80) = E.2.2.2.1 (80) := hc _ (by simp [chl])
    have c10 : q (k + 13) = E.2.2.2.1 (k + 13) := hc _ (by simp [chl])
    simp only [if_true, if_false, Nat.reduceEqDiff, flX9, eX, h1, h2, h3, hr, c0, c1, c2, c3, c4, c5, c6, c7, c8, c9, c10]
  simp only [if_neg e9]
  by_cases e10 : v = 11
  · subst e10
    have c0 : q (k + 2) = E.2.2.2.1 (k + 2) := hc _ (by simp [chl])
    have c1 : q (k + 3) = E.2.2.2.1 (k + 3) := hc _ (by simp [chl])
    have c2 : q (k + 4) = E.2.2.2.1 (k + 4) := hc _ (by simp [chl])
    have c3 : q (k + 5) = E.2.2.2.1 (k + 5) := hc _ (by simp [chl])
    have c4 : q (k + 6) = E.2.2.2.1 (k + 6) := hc _ (by simp [chl])
    have c5 : q (k + 7) = E.2.2.2.1 (k + 7) := hc _ (by simp [chl])
    have c6 : q (k + 8) = E.2.2.2.1 (k + 8) := hc _ (by simp [chl])
    have c7 : q (k + 9) = E.2.2.2.1 (k + 9) := hc _ (by simp [chl])
    have c8 : q (k + 10) = E.2.2.2.1 (k + 10) := hc _ (by simp [chl])
    have c9 : q (k + 11) = E.2.2.2.1 (k + 11) := hc _ (by simp [chl])
    have c10 : q (k + 12) = E.2.2.2.1 (k + 12) := hc _ (by simp [chl])
    have c11 : q (k + 13) = E.2.2.2.1 (k + 13) := hc _ (by simp [chl])
    have c12 : q (k + 14) = E.2.2.2.1 (k + 14) := hc _ (by simp [chl])
    have c13 : q (k + 15) = E.2.2.2.1 (k + 15) := hc _ (by simp [chl])
    have c14 : q (k + 16) = E.2.2.2.1 (k + 16) := hc _ (by simp [chl])
    have c15 : q (k + 17) = E.2.2.2.1 (k + 17) := hc _ (by simp [chl])
    have c16 : q (k + 18) = E.2.2.2.1 (k + 18) := hc _ (by simp [chl])
    have c17 : q (k + 19) = E.2.2.2.1 (k + 19) := hc _ (by simp [chl])
    have c18 : q (k + 20) = E.2.2.2.1 (k + 20) := hc _ (by simp [chl])
    have c19 : q (k + 21) = E.2.2.2.1 (k + 21) := hc _ (by simp [chl])
    have c20 : q (k + 22) = E.2.2.2.1 (k + 22) := hc _ (by simp [chl])
    have c21 : q (k + 23) = E.2.2.2.1 (k + 23) := hc _ (by simp [chl])
    have c22 : q (k + 24) = E.2.2.2.1 (k + 24) := hc _ (by simp [chl])
    have c23 : q (k + 25) = E.2.2.2.1 (k + 25) := hc _ (by simp [chl])
    have c24 : q (k + 26) = E.2.2.2.1 (k + 26) := hc _ (by simp [chl])
    have c25 : q (k + 27) = E.2.2.2.1 (k + 27) := hc _ (by simp [chl])
    have c26 : q (k + 28) = E.2.2.2.1 (k + 28) := hc _ (by simp [chl])
    have c27 : q (k + 40) = E.2.2.2.1 (k + 40) := hc _ (by simp [chl])
    have c28 : q (k + 41) = E.2.2.2.1 (k + 41) := hc _ (by simp [chl])
    have c29 : q (k + 42) = E.2.2.2.1 (k + 42) := hc _ (by simp [chl])
    have c30 : q (k + 43) = E.2.2.2.1 (k + 43) := hc _ (by simp [chl])
    have c31 : q (k + 44) = E.2.2.2.1 (k + 44) := hc _ (by simp [chl])
    have c32 : q (k + 45) = E.2.2.2.1 (k + 45) := hc _ (by simp [chl])
    have c33 : q (k + 46) = E.2.2.2.1 (k + 46) := hc _ (by simp [chl])
    have c34 : q (k + 47) = E.2.2.2.1 (k + 47) := hc _ (by simp [chl])
    have c35 : q (k + 48) = E.2.2.2.1 (k + 48) := hc _ (by simp [chl])
    have c36 : q (k + 49) = E.2.2.2.1 (k + 49) := hc _ (by simp [chl])
    have c37 : q (k + 51) = E.2.2.2.1 (k + 51) := hc _ (by simp [chl])
    have c38 : q (k + 52) = E.2.2.2.1 (k + 52) := hc _ (by simp [chl])
    have c39 : q (k + 57) = E.2.2.2.1 (k + 57) := hc _ (by simp [chl])
    have c40 : q (k + 58) = E.2.2.2.1 (k + 58) := hc _ (by simp [chl])
    have c41 : q (k + 59) = E.2.2.2.1 (k + 59) := hc _ (by simp [chl])
    have c42 : q (k + 60) = E.2.2.2.1 (k + 60) := hc _ (by simp [chl])
    have c43 : q (k + 61) = E.2.2.2.1 (k + 61) := hc _ (by simp [chl])
    simp only [if_true, if_false, Nat.reduceEqDiff, flX10, eX, h1, h2, h3, hr, c0, c1, c2, c3, c4, c5, c6, c7, c8, c9, c10, c11, c12, c13, c14, c15, c16, c17, c18, c19, c20, c21, c22, c23, c24, c25, c26, c27, c28, c29, c30, c31, c32, c33, c34, c35, c36, c37, c38, c39, c40, c41, c42, c43]
  simp only [if_neg e10]
  unfold cellA
  simp only [eX, h1, h2, h3, hr', if_pos hII]
theorem grow {E : Ev} {st st' : St} {A : Nat → Prop} {s : State} {H : Heap} {locs : List Loc} {q : Nat → Nat} {Ln : List Nat} {wn : va_W} (G : Gx E (cw E st ++ wn) A s H locs) (h1 : ∀ k ∈ eL E, q k = eq E k) (h2 : ∀ k ∈ eL E, va_at (eD E) vwCl (eq E k, cell E st k) H → va_at (eD E) vwCl (eq E k, cell (eX E q (eL E ++ Ln)) st' k) H) (h3 : Ln.map (fun k => (q k, cell (eX E q (eL E ++ Ln)) st' k)) = wn) : Gd (eX E q (eL E ++ Ln)) st' A s H locs := by
  have e : cw (eX E q (eL E ++ Ln)) st' = (eL E).map (fun k => (eq E k, cell (eX E q (eL E ++ Ln)) st' k)) ++ wn := by
    show (eL E ++ Ln).map (fun k => (q k, cell (eX E q (eL E ++ Ln)) st' k)) = _
    rw [List.map_append, h3]
    congr 1
    apply List.map_congr_left
    intro k hk
    rw [h1 k hk]
  have key : ∀ (i : Nat) (x : Nat × va_E), ((eL E).map (fun k => (eq E k, cell (eX E q (eL E ++ Ln)) st' k)) ++ wn)[i]? = some x → ∃ y : Nat × va_E, (cw E st ++ wn)[i]? = some y ∧ y.1 = x.1 ∧ (va_at (eD E) vwCl y H → va_at (eD E) vwCl x H) := by
    intro i x hx
    by_cases hi : i < (eL E).length
    · rw [List.getElem?_append_left (by rw [List.length_map]; exact hi), List.getElem?_map] at hx
      cases hk : (eL E)[i]? with
      | none => rw [hk] at hx; cases hx
      | some k =>
        rw [hk] at hx
        have ex : x = (eq E k, cell (eX E q (eL E ++ Ln)) st' k) := (Option.some.inj hx).symm
        subst ex
        refine ⟨(eq E k, cell E st k), ?_, rfl, h2 k (List.mem_of_getElem? hk)⟩
        unfold cw
        rw [List.getElem?_append_left (by rw [List.length_map]; exact hi), List.getElem?_map, hk]
        rfl
    · rw [List.getElem?_append_right (by rw [List.length_map]; omega), List.length_map] at hx
      refine ⟨x, ?_, rfl, fun h => h⟩
      unfold cw
      rw [List.getElem?_append_right (by rw [List.length_map]; omega), List.length_map]
      exact hx
  unfold Gd
  rw [e]
  refine ⟨fun i x hx => ?_, ⟨fun i j x y hx hy he => ?_, fun i x hx => ?_⟩, G.2.2⟩
  · obtain ⟨y, a1, -, a3⟩ := key i x hx
    exact a3 (G.1 i y a1)
  · obtain ⟨x', a1, a2, -⟩ := key i x hx
    obtain ⟨y', b1, b2, -⟩ := key j y hy
    exact G.2.1.1 i j x' y' a1 b1 (by rw [a2, b2]; exact he)
  · obtain ⟨y, a1, a2, -⟩ := key i x hx
    rw [← a2]
    exact G.2.1.2 i y a1
def Pre2 (E : Ev) (st : St) (sz : Nat) (U : State) : Prop := Pre E st sz U ∧ KN U
noncomputable def gp {α : Type} (P : Prop) (x : Option α) : Option α := @ite _ P (Classical.propDecidable P) x none
theorem gp_s {α : Type} {P : Prop} {x : Option α} {r : α} (h : gp P x = some r) : P ∧ x = some r := by
  unfold gp at h
  by_cases hp : P
  · rw [if_pos hp] at h; exact ⟨hp, h⟩
  · rw [if_neg hp] at h; cases h
theorem gp_t {α : Type} {P : Prop} {x : Option α} (h : P) : gp P x = x := by unfold gp; rw [if_pos h]
/-- an environment that has grown -/
def Ext (E E2 : Ev) (L : List Nat) : Prop := E2 = eX E (eq E2) L ∧ (∀ k ∈ eL E, eq E2 k = eq E k) ∧ ∀ k ∈ eL E, k ∈ L
/-- new, empty slots from a on, n of them -/
def zr (s : St) (a n : Nat) : St := (fun k => if a ≤ k ∧ k < a + n then (fun _ => 0) else s.1 k, fun k => if a ≤ k ∧ k < a + n then (fun _ => 0) else s.2.1 k, fun k => if a ≤ k ∧ k < a + n then (fun _ => none) else s.2.2 k)
theorem zr_out {s : St} {a n k : Nat} (h : ¬ (a ≤ k ∧ k < a + n)) : (zr s a n).1 k = s.1 k ∧ (zr s a n).2.1 k = s.2.1 k ∧ (zr s a n).2.2 k = s.2.2 k := ⟨if_neg h, if_neg h, if_neg h⟩
theorem zr_in {s : St} {a n k : Nat} (h : a ≤ k ∧ k < a + n) : (zr s a n).1 k = (fun _ => 0) ∧ (zr s a n).2.1 k = (fun _ => 0) ∧ (zr s a n).2.2 k = (fun _ => none) := ⟨if_pos h, if_pos h, if_pos h⟩
/-- a rule may be made at slot nb: it is no slot yet, nothing names it, no slot beyond the class's stands -/
def FrR (L : List Nat) (st : St) (nb : Nat) : Prop := nb ∈ [410, 420, 430, 440, 450, 460] ∧ (∀ k ∈ L, k < nb ∧ (ty k = 5 → k + 10 ≤ nb)) ∧ ∀ k i r, st.2.2 k i = some r → r < nb
abbrev nR (nb : Nat) : List Nat := [nb, nb + 1, nb + 3, nb + 4, nb + 5, nb + 7]
def qR (E : Ev) (nb a : Nat) (u : Nat → Nat) : Nat → Nat := fun k => if k = nb then a else if k = nb + 1 then u 0 else if k = nb + 3 then u 1 else if k = nb + 4 then u 2 else if k = nb + 5 then u 3 else if k = nb + 7 then u 4 else eq E k
theorem chl_R : ∀ nb, nb ∈ [410, 420, 430, 440, 450, 460] → ∀ k, k < nb → (ty k = 5 → k + 10 ≤ nb) → ty k < 70000 → ∀ c ∈ chl k (ty k), c < nb := by decide +kernel
theorem ty_II : ∀ k, k < 562 → ¬ ty k < 70000 → k = 63 := by decide +kernel
theorem ty_R : ∀ nb, nb ∈ [410, 420, 430, 440, 450, 460] → ty nb = 5 ∧ ty (nb + 1) = 10000 + 400 ∧ ty (nb + 3) = 10000 + 12 ∧ ty (nb + 4) = 10000 + 12 ∧ ty (nb + 5) = 10000 + 12 ∧ ty (nb + 7) = 40000 + 64 := by decide +kernel
theorem qR_lt {E : Ev} {nb a k : Nat} {u : Nat → Nat} (h : k < nb) : qR E nb a u k = eq E k := by
  unfold qR
  rw [if_neg (by omega), if_neg (by omega), if_neg (by omega), if_neg (by omega), if_neg (by omega), if_neg (by omega)]
theorem grow_R {E : Ev} {st : St} {A : Nat → Prop} {s : State} {H : Heap} {locs : List Loc} {nb a : Nat} {u : Nat → Nat} (G : Gx E (cw E st ++ ckX4 E a u) A s H locs) (hf : FrR (eL E) st nb) : Gd (eX E (qR E nb a u) (eL E ++ nR nb)) (zr st nb 8) A s H locs := by
  obtain ⟨hnb, hL, hq⟩ := hf
  have hlt : ∀ k ∈ eL E, k < nb := fun k hk => (hL k hk).1
  have hnb2 : nb ≤ 460 := by
    have : ∀ x, x ∈ [410, 420, 430, 440, 450, 460] → x ≤ 460 := by decide
    exact this nb hnb
  refine grow G (fun k hk => qR_lt (hlt k hk)) (fun k hk => ?_) ?_
  · obtain ⟨z1, z2, z3⟩ := zr_out (s := st) (a := nb) (n := 8) (k := k) (by have := hlt k hk; omega)
    by_cases hII : ty k < 70000
    · rw [cell_q z1 z2 z3 (fun i => ?_) hII (fun c hc => qR_lt (chl_R nb hnb k (hlt k hk) (hL k hk).2 hII c hc))]
      · exact fun h => h
      · cases h : st.2.2 k i with
        | none => rfl
        | some r => exact congrArg some (qR_lt (hq k i r h))
    · have e63 : k = 63 := ty_II k (by have := hlt k hk; omega) hII
      subst e63
      rw [cII (n := 5) rfl (by decide), cII (n := 5) rfl (by decide)]
      intro h9
      have h10 : H[eq E 63]? = some (vp_cell (E.1 6) (5, .inr (.inr (.inr (.inr (fun i => some (E.2.2.2.1 (63 + 9 + i)))))))) := h9
      show H[eq E 63]? = some (vp_cell (E.1 6) (5, .inr (.inr (.inr (.inr (fun i => some (qR E nb a u (63 + 9 + i))))))))
      rw [h10, vp_cell_q, vp_cell_q]
      refine congrArg some (arrV_cong ?_)
      intro j hj
      show va_rf (some _) = va_rf (some _)
      rw [qR_lt (by have := hlt 63 hk; have : ∀ x, x ∈ [410, 420, 430, 440, 450, 460] → 410 ≤ x := by decide
                    have := this nb hnb; omega)]
  · obtain ⟨t0, t1, t3, t4, t5, t7⟩ := ty_R nb hnb
    have z : ∀ k, nb ≤ k ∧ k < nb + 8 → (zr st nb 8).1 k = (fun _ => 0) ∧ (zr st nb 8).2.1 k = (fun _ => 0) := fun k hk => ⟨(zr_in hk).1, (zr_in hk).2.1⟩
    have q0 : qR E nb a u nb = a := if_pos rfl
    have q1 : qR E nb a u (nb + 1) = u 0 := by unfold qR; rw [if_neg (by omega), if_pos rfl]
    have q3 : qR E nb a u (nb + 3) = u 1 := by unfold qR; rw [if_neg (by omega), if_neg (by omega), if_pos rfl]
    have q4 : qR E nb a u (nb + 4) = u 2 := by unfold qR; rw [if_neg (by omega), if_neg (by omega), if_neg (by omega), if_pos rfl]
    have q5 : qR E nb a u (nb + 5) = u 3 := by unfold qR; rw [if_neg (by omega), if_neg (by omega), if_neg (by omega), if_neg (by omega), if_pos rfl]
    have q7 : qR E nb a u (nb + 7) = u 4 := by unfold qR; rw [if_neg (by omega), if_neg (by omega), if_neg (by omega), if_neg (by omega), if_neg (by omega), if_pos rfl]
    simp only [List.map_cons, List.map_nil, q0, q1, q3, q4, q5, q7]
    rw [cO4 t0, cI t1 (by decide), cI t3 (by decide), cI t4 (by decide), cI t5 (by decide), cJ t7 (by decide)]
    simp only [flX4, eX, (z nb (by omega)).1, (z (nb + 1) (by omega)).1, (z (nb + 3) (by omega)).1, (z (nb + 4) (by omega)).1, (z (nb + 5) (by omega)).1, (z (nb + 7) (by omega)).2, q1, q3, q4, q5, q7, ckX4]
