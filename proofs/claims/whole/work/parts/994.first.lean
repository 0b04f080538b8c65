/-! both memories at first -/
theorem m0_502 : ∀ x, x < 11 → m00.1 502 x = nI 0 := by
  intro x hx
  rcases (show x = 0 ∨ x = 1 ∨ x = 2 ∨ x = 3 ∨ x = 4 ∨ x = 5 ∨ x = 6 ∨ x = 7 ∨ x = 8 ∨ x = 9 ∨ x = 10 by omega) with rfl | rfl | rfl | rfl | rfl | rfl | rfl | rfl | rfl | rfl | rfl <;> rfl
theorem rel_0 : Rel LC0 c00 m00 := by
  have hrow : RowOK 0 0 0 (c00.1 122) m00 := by
    refine ⟨⟨fun h hh => by omega, fun q hq => by omega, ?_, ?_, ?_, fun q h1 h2 => rfl⟩, ⟨fun h k hh => by omega, fun q hq => by omega⟩, fun h hh => by omega, ⟨fun h hh => by omega, fun q hq => by omega, ⟨0, by omega, m0_502 7 (by omega)⟩, ⟨0, by omega, m0_502 0 (by omega)⟩, ⟨0, by omega, m0_502 1 (by omega)⟩⟩, m0_502 6 (by omega)⟩
    · rw [m0_502 7 (by omega)]
      rfl
    · rw [m0_502 6 (by omega)]
      rfl
    · rw [m0_502 8 (by omega)]
      rfl
  have hbv : RowOK 0 0 0 (c00.1 147) (bv m00) := by
    refine ⟨⟨fun h hh => by omega, fun q hq => by omega, rfl, rfl, rfl, fun q h1 h2 => rfl⟩, ⟨fun h k hh => by omega, fun q hq => by omega⟩, fun h hh => by omega, ⟨fun h hh => by omega, fun q hq => by omega, ⟨0, by omega, rfl⟩, ⟨0, by omega, m0_502 0 (by omega)⟩, ⟨0, by omega, m0_502 1 (by omega)⟩⟩, rfl⟩
  have hL : ∀ k, k ∈ LC0 → k < 160 ∨ (400 ≤ k ∧ k < 408) := by decide
  refine ⟨0, 0, 0, ⟨0, by omega, rfl, rfl, fun i hi => by omega⟩, ⟨rfl, rfl⟩, ⟨by omega, rfl, rfl, fun r hr => by omega, rfl, fun r hr => ?_⟩, ⟨⟨rfl, ?_, Or.inl ⟨rfl, rfl, rfl⟩⟩, ⟨by omega, by omega, ?_, ?_, rfl, m0_502 3 (by omega), ?_, rfl, m0_502 5 (by omega), fun h hh => by omega, fun q hq => by omega⟩, ⟨0, by omega, rfl, fun k hk => ?_⟩, ⟨0, by omega, hrow⟩, ⟨0, by omega, rfl, rfl, fun i hi => by omega⟩, hbv, ⟨0, by omega, rfl, m0_502 9 (by omega), fun i hi => by omega⟩, ⟨rfl, Or.inl rfl⟩, ?_, 0, by omega, m0_502 10 (by omega)⟩, fun k hk => Or.inl ⟨rfl, rfl⟩, fun k i r e => ?_, fun k hk => ?_⟩
  · have : r = 0 := by omega
    subst this
    decide +kernel
  · rw [m0_502 0 (by omega)]
    rfl
  · rw [m0_502 1 (by omega)]
    rfl
  · rw [m0_502 2 (by omega)]
    rfl
  · rw [m0_502 4 (by omega)]
    rfl
  · refine ⟨fun ⟨j, j1, _⟩ => by omega, fun ⟨j1, j2⟩ => ?_⟩
    have : nI 0 = nI 1 := j2
    rw [n01] at this
    exact this.elim
  · rw [m0_502 10 (by omega)]
    rfl
  · refine Or.inr ⟨0, by omega, ?_⟩
    by_cases k40 : k = 40
    · subst k40
      have e1 : (if i = 1 then some 400 else none) = some r := e
      by_cases i1 : i = 1
      · rw [if_pos i1] at e1
        exact (Option.some.inj e1).symm
      · rw [if_neg i1] at e1
        exact nomatch e1
    · exfalso
      have : c00.2.2 k i = none := by
        unfold c00
        simp only
      rw [this] at e
      exact nomatch e
  · rcases hL k hk with q | q
    · exact Or.inl q
    · exact Or.inr (Or.inr ⟨0, by omega, by omega, by omega⟩)
