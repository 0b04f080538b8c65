/-! the duchy as it was told, once more -/
theorem copies_v {a b n : Nat} (hab : a ≠ b) (hn : n ≤ 1000) : ∀ (d i k : Nat) (m : St), i + d = n → d < k → ∃ m1, fX10_copies_L2 a n b n k (nI i) m = some m1 ∧ (∀ j, i ≤ j → j < n → m1.1 b j = m.1 a j) ∧ (∀ s x, ¬ (s = b ∧ i ≤ x ∧ x < n) → m1.1 s x = m.1 s x) ∧ m1.2 = m.2 := by
  intro d
  induction d with
  | zero =>
    intro i k m hi hk
    obtain ⟨k, rfl⟩ : ∃ j, k = j + 1 := ⟨k - 1, by omega⟩
    refine ⟨m, ?_, fun j j1 j2 => by omega, fun _ _ _ => rfl, rfl⟩
    rw [fX10_copies_L2, of_nI, if_pos (by rw [le_nI (by omega) (by omega)]; omega)]
  | succ d ih =>
    intro i k m hi hk
    obtain ⟨k, rfl⟩ : ∃ j, k = j + 1 := ⟨k - 1, by omega⟩
    obtain ⟨m1, a1, a2, a3, a4⟩ := ih (i + 1) k (ui m b i (m.1 a i)) (by omega) (by omega)
    refine ⟨m1, ?_, fun j j1 j2 => ?_, fun s x h => ?_, by rw [a4]; rfl⟩
    · rw [fX10_copies_L2, of_nI, if_neg (by rw [le_nI (by omega) (by omega)]; omega)]
      simp (disch := omega) only [lit_nI, gd_ix, cl_nI, nm_eq, nI_add]
      exact a1
    · by_cases e : j = i
      · subst e
        rw [a3 b j (by omega), ui_rd, if_pos rfl, if_pos rfl]
      · rw [a2 j (by omega) j2, ui_ne hab]
    · rw [a3 s x (by omega), ui_rd]
      by_cases e : s = b
      · rw [if_pos e, if_neg (by omega)]
      · rw [if_neg e]
theorem L91_v : ∀ (d i k : Nat) (m : St), i + d = 3 → d < k → ∃ m1, fX10_begins_L91 k (nI i) m = some m1 ∧ (∀ j, i ≤ j → j < 3 → m1.1 511 j = nI 0) ∧ (∀ s x, ¬ (s = 511 ∧ i ≤ x ∧ x < 3) → m1.1 s x = m.1 s x) ∧ m1.2 = m.2 := by
  intro d
  induction d with
  | zero =>
    intro i k m hi hk
    obtain ⟨k, rfl⟩ : ∃ j, k = j + 1 := ⟨k - 1, by omega⟩
    refine ⟨m, ?_, fun j j1 j2 => by omega, fun _ _ _ => rfl, rfl⟩
    rw [fX10_begins_L91]
    simp only [lit_nI]
    rw [if_pos (by rw [le_nI (by omega) (by omega)]; omega)]
  | succ d ih =>
    intro i k m hi hk
    obtain ⟨k, rfl⟩ : ∃ j, k = j + 1 := ⟨k - 1, by omega⟩
    obtain ⟨m1, a1, a2, a3, a4⟩ := ih (i + 1) k (ui m 511 i (nI 0)) (by omega) (by omega)
    refine ⟨m1, ?_, fun j j1 j2 => ?_, fun s x h => ?_, by rw [a4]; rfl⟩
    · rw [fX10_begins_L91]
      simp (disch := omega) only [lit_nI, gd_ix, cl_nI, nm_eq, nI_add, le_nI]
      rw [if_neg (by omega)]
      exact a1
    · by_cases e : j = i
      · subst e
        rw [a3 511 j (by omega), ui_rd, if_pos rfl, if_pos rfl]
      · exact a2 j (by omega) j2
    · rw [a3 s x (by omega), ui_rd]
      by_cases e : s = 511
      · rw [if_pos e, if_neg (by omega)]
      · rw [if_neg e]
theorem L70_v : ∀ (d i k : Nat) (m : St), i + d = 8 → d < k → ∃ m1, fX10_begins_L70 k (nI i) m = some m1 ∧ (∀ j, i ≤ j → j < 8 → m1.1 508 j = -nI 1) ∧ (∀ j, j < 3 → m1.1 511 j = nI 0) ∧ (∀ s x, ¬ (s = 508 ∧ i ≤ x ∧ x < 8) → ¬ (s = 511 ∧ x < 3) → m1.1 s x = m.1 s x) ∧ m1.2 = m.2 := by
  intro d
  induction d with
  | zero =>
    intro i k m hi hk
    obtain ⟨k, rfl⟩ : ∃ j, k = j + 1 := ⟨k - 1, by omega⟩
    obtain ⟨m1, a1, a2, a3, a4⟩ := L91_v 3 0 10000 m (by omega) (by omega)
    refine ⟨m1, ?_, fun j j1 j2 => by omega, fun j hj => a2 j (by omega) hj, fun s x h1 h2 => a3 s x (by omega), a4⟩
    rw [fX10_begins_L70]
    simp only [lit_nI]
    rw [if_pos (by rw [le_nI (by omega) (by omega)]; omega)]
    exact a1
  | succ d ih =>
    intro i k m hi hk
    obtain ⟨k, rfl⟩ : ∃ j, k = j + 1 := ⟨k - 1, by omega⟩
    obtain ⟨m1, a1, a2, a3, a4, a5⟩ := ih (i + 1) k (ui m 508 i (-nI 1)) (by omega) (by omega)
    refine ⟨m1, ?_, fun j j1 j2 => ?_, a3, fun s x h1 h2 => ?_, by rw [a5]; rfl⟩
    · rw [fX10_begins_L70]
      simp (disch := omega) only [lit_nI, gd_ix, cl_nI, nm_eq, nI_add, le_nI]
      rw [if_neg (by omega)]
      exact a1
    · by_cases e : j = i
      · subst e
        rw [a4 508 j (by omega) (by omega), ui_rd, if_pos rfl, if_pos rfl]
      · exact a2 j (by omega) j2
    · rw [a4 s x (by omega) h2, ui_rd]
      by_cases e : s = 508
      · rw [if_pos e, if_neg (by omega)]
      · rw [if_neg e]
theorem begins_v (m : St) : ∃ m1, fX10_begins m = some m1 ∧ (∀ j, j < 8 → m1.1 503 j = m.1 516 j ∧ m1.1 504 j = m.1 517 j ∧ m1.1 506 j = m.1 518 j ∧ m1.1 508 j = -nI 1) ∧ (∀ j, j < 3 → m1.1 509 j = m.1 519 j ∧ m1.1 511 j = nI 0) ∧ (∀ j, 6 ≤ j → j ≤ 8 → m1.1 502 j = nI 0) ∧ (∀ s x, s ≠ 503 → s ≠ 504 → s ≠ 506 → s ≠ 508 → s ≠ 509 → s ≠ 511 → ¬ (s = 502 ∧ 6 ≤ x ∧ x ≤ 8) → m1.1 s x = m.1 s x) ∧ m1.2 = m.2 := by
  obtain ⟨mA, a1, a2, a3, a4⟩ := copies_v (a := 516) (b := 503) (n := 8) (by omega) (by omega) 8 0 10000 m (by omega) (by omega)
  obtain ⟨mB, b1, b2, b3, b4⟩ := copies_v (a := 517) (b := 504) (n := 8) (by omega) (by omega) 8 0 10000 mA (by omega) (by omega)
  obtain ⟨mC, c1, c2, c3, c4⟩ := copies_v (a := 518) (b := 506) (n := 8) (by omega) (by omega) 8 0 10000 mB (by omega) (by omega)
  obtain ⟨mD, d1, d2, d3, d4⟩ := copies_v (a := 519) (b := 509) (n := 3) (by omega) (by omega) 3 0 10000 mC (by omega) (by omega)
  obtain ⟨mE, e1, e2, e3, e4, e5⟩ := L70_v 8 0 10000 (ui (ui (ui mD 502 6 (nI 0)) 502 7 (nI 0)) 502 8 (nI 0)) (by omega) (by omega)
  have f : ∀ s x, s ≠ 502 → s ≠ 508 → s ≠ 511 → mE.1 s x = mD.1 s x := fun s x s1 s2 s3 => by rw [e4 s x (by omega) (by omega), ui_ne s1, ui_ne s1, ui_ne s1]
  refine ⟨mE, ?_, fun j hj => ⟨?_, ?_, ?_, e2 j (by omega) hj⟩, fun j hj => ⟨?_, e3 j hj⟩, fun j j1 j2 => ?_, fun s x h1 h2 h3 h4 h5 h6 h7 => ?_, ?_⟩
  · unfold fX10_begins
    have a1' : fX10_copies 516 8 503 8 m = some mA := a1
    have b1' : fX10_copies 517 8 504 8 mA = some mB := b1
    have c1' : fX10_copies 518 8 506 8 mB = some mC := c1
    have d1' : fX10_copies 519 3 509 3 mC = some mD := d1
    rw [a1', br_some, b1', br_some, c1', br_some, d1', br_some]
    simp only [nm_eq, lit_nI]
    exact e1
  · rw [f 503 j (by omega) (by omega) (by omega), d3 503 j (by omega), c3 503 j (by omega), b3 503 j (by omega), a2 j (by omega) hj]
  · rw [f 504 j (by omega) (by omega) (by omega), d3 504 j (by omega), c3 504 j (by omega), b2 j (by omega) hj, a3 517 j (by omega)]
  · rw [f 506 j (by omega) (by omega) (by omega), d3 506 j (by omega), c2 j (by omega) hj, b3 518 j (by omega), a3 518 j (by omega)]
  · rw [f 509 j (by omega) (by omega) (by omega), d2 j (by omega) hj, c3 519 j (by omega), b3 519 j (by omega), a3 519 j (by omega)]
  · rw [e4 502 j (by omega) (by omega)]
    rcases (show j = 6 ∨ j = 7 ∨ j = 8 by omega) with rfl | rfl | rfl <;> simp only [ui_rd, Nat.reduceEqDiff, if_true, if_false]
  · rw [e4 s x (by omega) (by omega), ui_rd, ui_rd, ui_rd]
    by_cases s2 : s = 502
    · rw [if_pos s2, if_neg (by omega), if_pos s2, if_neg (by omega), if_pos s2, if_neg (by omega), d3 s x (by omega), c3 s x (by omega), b3 s x (by omega), a3 s x (by omega)]
    · rw [if_neg s2, if_neg s2, if_neg s2, d3 s x (by omega), c3 s x (by omega), b3 s x (by omega), a3 s x (by omega)]
  · rw [e5]
    show mD.2 = m.2
    rw [d4, c4, b4, a4]
/-- a suspect begins -/
theorem begin_v {R H O : Nat} {L : List Nat} {c0 m0 c m : St} (h : RelP R H O L c m) (hc : CE c0 c) (hm : SV m0 m) (r : Int32) (hr : r = -nI 1 ∨ ∃ k, k < R ∧ r = nI k) : ∃ o c1 m1, fX9_ruleAt c r = some o ∧ fX6_begin o c = some c1 ∧ fX10_begins (ui m 502 11 r) = some m1 ∧ TR H O L c0 m0 0 83 c1 m1 ∧ (∀ k, k ≠ 50 → k ≠ 83 → c1.1 k = c.1 k) ∧ (∀ s x, s ≠ 503 → s ≠ 504 → s ≠ 506 → s ≠ 508 → s ≠ 509 → s ≠ 511 → ¬ (s = 502 ∧ (6 ≤ x ∧ x ≤ 8 ∨ x = 11)) → m1.1 s x = m.1 s x) := by
  obtain ⟨-, a3, a4, -, -, a9, -⟩ := h.2.2.2.1
  have hH := a3.1
  have hO := a3.2.1
  have hce : CE c (ur c 83 (va_cpy (c.1 147) (c.1 83) 0 0 41)) := ⟨fun k hk => ur_ne (by omega), fun _ _ => rfl, fun i r e => ⟨50, i, e⟩⟩
  obtain ⟨o, c2, b1, b2, b3, b4, b5, b6⟩ := follow_v (h.sc hce ME.rf) r hr (a := 13) (Or.inr (Or.inl rfl))
  have b1' : fX9_ruleAt c r = some o := b1
  have hk : ∀ k, k ≠ 50 → k ≠ 83 → c2.1 k = c.1 k := fun k k1 k2 => by rw [b5 k k1, ur_ne k2]
  obtain ⟨m1, d1, d2, d3, d4, d5, d6⟩ := begins_v (ui m 502 11 r)
  have e1 : ∀ s x, ¬ (s = 502 ∧ x = 11) → (ui m 502 11 r).1 s x = m.1 s x := by
    intro s x hs
    rw [ui_rd]
    by_cases s2 : s = 502
    · rw [if_pos s2, if_neg (by omega)]
    · rw [if_neg s2]
  have hf : ∀ s x, s ≠ 503 → s ≠ 504 → s ≠ 506 → s ≠ 508 → s ≠ 509 → s ≠ 511 → ¬ (s = 502 ∧ (6 ≤ x ∧ x ≤ 8 ∨ x = 11)) → m1.1 s x = m.1 s x := fun s x s1 s2 s3 s4 s5 s6 s7 => by rw [d5 s x s1 s2 s3 s4 s5 s6 (by omega), e1 s x (by omega)]
  have h2 : ∀ i, i < 6 → m1.1 502 i = m.1 502 i := fun i hi => hf 502 i (by omega) (by omega) (by omega) (by omega) (by omega) (by omega) (by omega)
  have hs : ∀ s, s = 505 ∨ s = 507 ∨ s = 510 ∨ s = 512 ∨ 541 ≤ s → m1.1 s = m.1 s := fun s hs => funext (fun x => hf s x (by omega) (by omega) (by omega) (by omega) (by omega) (by omega) (by omega))
  refine ⟨o, c2, m1, b1', ?_, d1, ⟨⟨?_, ?_, ?_⟩, ?_, b4 m1 ?_ (fun s s1 s2 => hs s (by omega)), ?_, (hc.tr hce).tr b6, ⟨fun t ht j hj => ?_, fun s x ht => ?_⟩⟩, hk, hf⟩
  · unfold fX6_begin
    rw [nm_eq, b2, br_some]
  · unfold LandR
    rw [hk 134 (by omega) (by omega), hk (134 + 9) (by omega) (by omega), hk (134 + 10) (by omega) (by omega), hk (134 + 11) (by omega) (by omega), h2 1 (by omega), h2 2 (by omega), h2 3 (by omega), h2 4 (by omega), h2 5 (by omega), hs 505 (by omega), hs 507 (by omega), hs 510 (by omega)]
    exact a3
  · unfold SnowR
    rw [hk 134 (by omega) (by omega), hk (134 + 12) (by omega) (by omega), hs 512 (by omega)]
    exact a4
  · have g : RowOK H O 0 (c2.1 83) m1 := by
      refine a9.cg hH hO (fun i hi => ?_) (fun k hk => ⟨?_, ?_, ?_, ?_⟩) (fun q hq => ⟨?_, ?_⟩) (fun j j1 j2 => ?_) (fun k hk => ⟨?_, ?_⟩) (fun q hq => ?_) ?_ ?_
      · rw [b5 83 (by omega), ur_eq, pk_cpy_in (by omega) (by omega), show 0 + (i - 0) = i by omega]
      · rw [(d2 k hk).1, e1 516 k (by omega)]
        rfl
      · rw [(d2 k hk).2.1, e1 517 k (by omega)]
        rfl
      · rw [(d2 k hk).2.2.1, e1 518 k (by omega)]
        rfl
      · rw [(d2 k hk).2.2.2]
        rfl
      · rw [(d3 q hq).1, e1 519 q (by omega)]
        rfl
      · rw [(d3 q hq).2]
        rfl
      · rw [d4 j j1 j2]
        rcases (show j = 6 ∨ j = 7 ∨ j = 8 by omega) with rfl | rfl | rfl <;> rfl
      · rw [hs 505 (by omega)]
        rfl
      · rw [hs 507 (by omega)]
        rfl
      · rw [hs 510 (by omega)]
        rfl
      · rw [h2 0 (by omega)]
        rfl
      · rw [h2 1 (by omega)]
        rfl
    exact g
  · rw [h2 0 (by omega)]
    exact b3
  · rw [d5 502 11 (by omega) (by omega) (by omega) (by omega) (by omega) (by omega) (by omega), ui_rd, if_pos rfl, if_pos rfl]
  · rw [hf 500 49 (by omega) (by omega) (by omega) (by omega) (by omega) (by omega) (by omega)]
    exact h.2.1.1
  · rw [hf 559 _ (by omega) (by omega) (by omega) (by omega) (by omega) (by omega) (by omega)]
    exact hm.1 t ht j hj
  · rw [← hm.2 s x ht]
    unfold tS at ht
    exact hf s x (by omega) (by omega) (by omega) (by omega) (by omega) (by omega) (by omega)
