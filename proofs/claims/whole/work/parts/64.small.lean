/-! small calls -/
theorem ite_ex {α : Type} {p : Prop} {d : Decidable p} {A B : Option α} (h1 : ∃ r, A = some r) (h2 : ∃ r, B = some r) : ∃ r, (@ite _ p d A B) = some r := by
  by_cases h : p
  · rw [if_pos h]
    exact h1
  · rw [if_neg h]
    exact h2
theorem RelP.land {R H O : Nat} {L : List Nat} {c m : St} (h : RelP R H O L c m) : H ≤ 8 ∧ O ≤ 3 ∧ c.1 134 4 = nI H ∧ m.1 502 3 = nI H ∧ c.1 134 6 = nI O ∧ m.1 502 5 = nI O := by
  obtain ⟨-, -, -, ⟨-, ⟨h8, h3, -, -, a3, a4, -, a6, a7, -⟩, -⟩, -⟩ := h
  exact ⟨h8, h3, a3, a4, a6, a7⟩
theorem sk_5 : Sk_5 Rel := by
  rintro L c m ⟨R, H, O, h⟩ p1 p2
  obtain ⟨h8, h3, l1, l2, l3, l4⟩ := h.land
  obtain ⟨N, N9, ⟨-, -, -, -, -, -, -, -, -, hs, -⟩, -, ⟨r1, r2, r3, r4, -⟩, -⟩ := h.nr
  unfold fX9_house fX10_house
  rcases isHouse_v h8 l1 l2 p1 with ⟨k, hk, rfl, e1, e2⟩ | ⟨e1, e2⟩
  · obtain ⟨x, x1, x2, -⟩ := frozen_v r3 (nI k)
    obtain ⟨g1, g2, g3, g4⟩ := r1 k hk
    obtain ⟨g5, g6⟩ := hs k hk
    have g5' : c.1 143 k = m.1 505 k := g5
    have g6' : c.1 144 k = m.1 507 k := g6
    rw [e1, e2, br_some, br_some]
    simp (disch := omega) only [lit_nI, n10, if_false, nI_add, gd_ix, cl_nI, Nat.zero_add, g1, g2, g3, g4, g5', g6', x1, x2, br_some]
    suffices hS : ∀ X : Option Int32, (∃ r, X = some r) → ∃ r, X = some r ∧ X = some r ∧ Rel L c m by
      refine hS _ ?_
      (repeat' split) <;> exact ⟨_, rfl⟩
    rintro X ⟨r, e⟩
    exact ⟨r, e, e, R, H, O, h⟩
  · rw [e1, e2, br_some, br_some]
    simp only [lit_nI, if_true]
    exact ⟨_, rfl, rfl, R, H, O, h⟩
theorem sk_6 : Sk_6 Rel := by
  rintro L c m ⟨R, H, O, h⟩ p1 p2
  obtain ⟨h8, h3, l1, l2, l3, l4⟩ := h.land
  obtain ⟨N, N9, ⟨-, -, -, -, -, -, -, -, -, -, hs⟩, -, ⟨r1, r2, r3, r4, -⟩, -⟩ := h.nr
  unfold fX9_officer fX10_officer
  rcases isOfficer_v h3 l3 l4 p1 with ⟨k, hk, rfl, e1, e2⟩ | ⟨e1, e2⟩
  · obtain ⟨g1, g2⟩ := r2 k hk
    have g5' : c.1 145 k = m.1 510 k := hs k hk
    rw [e1, e2, br_some, br_some]
    simp (disch := omega) only [lit_nI, n10, if_false, nI_add, gd_ix, cl_nI, Nat.zero_add, g1, g2, g5']
    suffices hS : ∀ X : Option Int32, (∃ r, X = some r) → ∃ r, X = some r ∧ X = some r ∧ Rel L c m by
      refine hS _ ?_
      (repeat' split) <;> exact ⟨_, rfl⟩
    rintro X ⟨r, e⟩
    exact ⟨r, e, e, R, H, O, h⟩
  · rw [e1, e2, br_some, br_some]
    simp only [lit_nI, if_true]
    exact ⟨_, rfl, rfl, R, H, O, h⟩
theorem sk_29 : Sk_29 Rel := by
  rintro L c m ⟨R, H, O, h⟩ p1
  have hrel : Rel L c m := ⟨R, H, O, h⟩
  obtain ⟨⟨T, T4, t1, t2, -⟩, -, ⟨r1, r2, r3, -⟩, ⟨⟨a1, a2, -⟩, a3, a4, ⟨N, N9, a5⟩, ⟨P, P9, a6, a7, -⟩, -, ⟨B, B9, a10, a11, -⟩, ⟨a13, -⟩, a15, -⟩, -⟩ := h
  obtain ⟨h8, h3, b1, b2, b3, b4, b5, b6, b7, -⟩ := a3
  obtain ⟨⟨-, -, q3, q4, q5, -⟩, -, -, -, eN⟩ := a5
  obtain ⟨x, x1, x2⟩ := snow_v a4 eN (by omega)
  have a2' : c.1 134 1 = m.1 502 0 := a2
  have b1' : c.1 134 2 = m.1 502 1 := b1
  have b2' : c.1 134 3 = m.1 502 2 := b2
  have b3' : c.1 134 4 = nI H := b3
  have b5' : c.1 134 5 = m.1 502 4 := b5
  have b6' : c.1 134 6 = nI O := b6
  have q3' : c.1 122 38 = m.1 502 7 := q3
  have q4' : c.1 122 39 = m.1 502 6 := q4
  have q5' : c.1 122 40 = m.1 502 8 := q5
  unfold fX9_count fX10_count
  simp only [lit_nI, a2', b1', b2', b3', b4, b5', b6', b7, q3', q4', q5', eN, x1, x2, br_some, t1, t2, r2, r3, a6, a7, a10, a11, a13, a15]
  suffices hS : ∀ X : Option Int32, (∃ r, X = some r) → ∃ r, X = some r ∧ X = some r ∧ Rel L c m by
    refine hS _ ?_
    repeat' (first | exact ⟨_, rfl⟩ | refine ite_ex ?_ ?_)
  rintro X ⟨r, e⟩
  exact ⟨r, e, e, hrel⟩
theorem sk_27 : Sk_27 Rel := by
  rintro L c m ⟨R, H, O, h⟩ p1
  have hp := h.2.2.2.1
  have hp0 := hp
  obtain ⟨-, -, -, -, -, -, hB, hF, a15, a16⟩ := hp
  unfold fX9_seed fX10_seed
  by_cases hx : 0 ≤ p1
  · rw [if_pos hx, if_pos hx]
    simp only [nm_eq, a15]
    obtain ⟨x, x1, x2⟩ : ∃ x, x < 2147483648 ∧ p1 = nI x := by
      rcases pk_ix p1 (n := 2147483647) (by omega) with q | q | ⟨j, j1, j2⟩
      · rw [Int32.lt_iff_toInt_lt] at q
        rw [Int32.le_iff_toInt_le] at hx
        omega
      · refine ⟨2147483647, by omega, ?_⟩
        rw [Int32.le_iff_toInt_le, nI_toInt (by omega)] at q
        have q2 := p1.toInt_le
        refine Int32.toInt_inj.mp ?_
        rw [nI_toInt (by omega)]
        have : Int32.maxValue.toInt = 2147483647 := rfl
        omega
      · exact ⟨j, by omega, j2⟩
    refine ⟨_, _, _, rfl, rfl, R, H, O, h.page (CP.of (fun k hk => ui_ne (by omega)) rfl) ⟨⟨?_, ?_, ?_, ?_⟩, fun s s1 s2 => ui_ne (by omega), fun i _ => by rw [ui_ne (by omega)], ui_ne (by omega), ui_ne (by omega)⟩ (hp0.misc (fun k k1 k2 k3 => ui_ne (by omega)) ?_ (fun k i h1 h2 => ?_) ?_ ?_ ?_)⟩
    · rw [ui_ne (by omega)]
    · rw [ui_ne (by omega)]
    · rw [ui_ne (by omega)]
    · rw [ui_ne (by omega)]
    · simp only [ui_rd, Nat.reduceEqDiff, if_true, if_false]
    · rw [ui_rd]
      by_cases hk : k = 502
      · rw [if_pos hk, if_neg (by omega)]
      · rw [if_neg hk]
    · simp only [ui_rd, Nat.reduceEqDiff, if_true, if_false, Nat.reduceAdd]
      exact hB
    · simp only [ui_rd, Nat.reduceEqDiff, if_true, if_false]
      exact hF
    · simp only [ui_rd, Nat.reduceEqDiff, if_true, if_false]
      exact ⟨trivial, x, x1, x2⟩
  · rw [if_neg hx, if_neg hx]
    exact ⟨_, c, m, rfl, rfl, R, H, O, h⟩
theorem sk_4 : Sk_4 Rel := by
  rintro L c m ⟨R, H, O, h⟩ p1
  have hp := h.2.2.2.1
  have hp0 := hp
  obtain ⟨-, -, -, -, -, -, hB, ⟨a13, a14⟩, hX⟩ := hp
  obtain ⟨r1, r2, r3, -⟩ := h.2.2.1
  have e0 : (-1 : Int64).toInt = -1 := rfl
  have e1 : (Int32.toInt64 (nI R - (1 : Int32))).toInt = (R : Int) - 1 := by
    rw [t64]
    exact pk_sub_toInt (a := R) (b := 1) (by omega) (by omega)
  unfold fX9_force fX10_force
  rw [r2, r3, in_t e0 e1, br_some]
  have go : (p1 = -nI 1 ∨ ∃ r, r < R ∧ p1 = nI r) → ∃ (r : Int32) (c1 m1 : St), some (c.1 120 8, ui c 120 8 p1) = some (r, c1) ∧ some (m.1 502 11, ui m 502 11 p1) = some (r, m1) ∧ Rel L c1 m1 := by
    intro hr
    rw [a13]
    refine ⟨_, _, _, rfl, rfl, R, H, O, h.page (CP.of (fun k hk => ui_ne (by omega)) rfl) ⟨⟨?_, ?_, ?_, ?_⟩, fun s s1 s2 => ui_ne (by omega), fun i _ => by rw [ui_ne (by omega)], ui_ne (by omega), ui_ne (by omega)⟩ (hp0.misc (fun k k1 k2 k3 => ui_ne (by omega)) ?_ (fun k i h1 h2 => ?_) ?_ ?_ ?_)⟩
    · rw [ui_ne (by omega)]
    · rw [ui_ne (by omega)]
    · rw [ui_ne (by omega)]
    · rw [ui_ne (by omega)]
    · simp only [ui_rd, Nat.reduceEqDiff, if_true, if_false]
    · rw [ui_rd]
      by_cases hk : k = 502
      · rw [if_pos hk, if_neg (by omega)]
      · rw [if_neg hk]
    · simp only [ui_rd, Nat.reduceEqDiff, if_true, if_false, Nat.reduceAdd]
      exact hB
    · simp only [ui_rd, Nat.reduceEqDiff, if_true, if_false]
      exact ⟨trivial, hr⟩
    · simp only [ui_rd, Nat.reduceEqDiff, if_true, if_false]
      exact hX
  have hm1 : (-1 : Int32).toInt = -1 := rfl
  rcases pk_ix p1 (n := R) (by omega) with q | q | ⟨j, j1, j2⟩
  · by_cases q1 : p1 < (-1 : Int32)
    · rw [if_pos q1]
      rw [Int32.lt_iff_toInt_lt, hm1] at q1
      rw [if_neg (show ¬ ((-1 : Int) ≤ p1.toInt ∧ p1.toInt ≤ (R : Int) - 1) by omega), if_pos (show nI 0 = (0 : Int32) from rfl)]
      exact ⟨_, c, m, rfl, rfl, R, H, O, h⟩
    · have ep : p1 = -nI 1 := by
        rw [Int32.lt_iff_toInt_lt] at q q1
        rw [hm1] at q1
        rw [show (0 : Int32).toInt = 0 from rfl] at q
        refine Int32.toInt_inj.mp ?_
        rw [show (-nI 1).toInt = -1 by decide]
        omega
      rw [if_neg q1]
      subst ep
      rw [if_pos (show -nI 1 < nI R by rw [Int32.lt_iff_toInt_lt, nI_toInt (by omega), show (-nI 1).toInt = -1 by decide]; omega), if_pos (show (-1 : Int) ≤ (-nI 1).toInt ∧ (-nI 1).toInt ≤ (R : Int) - 1 by rw [show (-nI 1).toInt = -1 by decide]; omega), if_neg (show ¬ nI 1 = (0 : Int32) by decide)]
      simp only [nm_eq]
      exact go (Or.inl rfl)
  · have q' := q
    rw [Int32.le_iff_toInt_le, nI_toInt (by omega)] at q
    rw [if_neg (show ¬ p1 < (-1 : Int32) by rw [Int32.lt_iff_toInt_lt, hm1]; omega), if_neg (show ¬ p1 < nI R by rw [Int32.lt_iff_toInt_lt, nI_toInt (by omega)]; omega), if_neg (show ¬ ((-1 : Int) ≤ p1.toInt ∧ p1.toInt ≤ (R : Int) - 1) by omega), if_pos (show nI 0 = (0 : Int32) from rfl)]
    exact ⟨_, c, m, rfl, rfl, R, H, O, h⟩
  · subst j2
    rw [if_neg (show ¬ nI j < (-1 : Int32) by rw [Int32.lt_iff_toInt_lt, hm1, nI_toInt (by omega)]; omega), if_pos (show nI j < nI R by rw [lt_nI (by omega) (by omega)]; exact j1), nI_toInt (show j < 2 ^ 31 by omega), if_pos (show (-1 : Int) ≤ (j : Int) ∧ (j : Int) ≤ (R : Int) - 1 by omega), if_neg (show ¬ nI 1 = (0 : Int32) by decide)]
    simp only [nm_eq]
    exact go (Or.inr ⟨j, j1, rfl⟩)
theorem bookNight_v (p : Int32) : (∃ k, k ≤ 60 ∧ p = nI k ∧ fX9_isBookNight p = some (nI 1) ∧ fX10_in (Int32.toInt64 p) (0 : Int64) (60 : Int64) = some (nI 1)) ∨ (fX9_isBookNight p = some (nI 0) ∧ fX10_in (Int32.toInt64 p) (0 : Int64) (60 : Int64) = some (nI 0)) := by
  unfold fX9_isBookNight
  simp only [lit_nI]
  rcases in_v p 0 60 (A := 0) (B := 60) rfl rfl (by omega) (by omega) with ⟨k, h1, h2, e, e1, e2, e3, -⟩ | ⟨e1, e2⟩
  · exact Or.inl ⟨k, h2, e, by rw [if_neg e2, if_neg e3], e1⟩
  · refine Or.inr ⟨?_, e1⟩
    rcases e2 with q | ⟨q1, q2, -⟩
    · rw [if_pos q]
    · rw [if_neg q1, if_pos q2]
theorem sk_24 : Sk_24 Rel := by
  rintro L c m ⟨R, H, O, h⟩ p1 p2 p3
  have hp := h.2.2.2.1
  have hp0 := hp
  obtain ⟨h8, h3, l1, l2, l3, l4⟩ := h.land
  obtain ⟨-, -, -, -, -, -, ⟨B, B9, a10, a11, a12⟩, hF, hX⟩ := hp
  have hR : Rel L c m := ⟨R, H, O, h⟩
  unfold fX9_book fX10_book
  by_cases e1 : p1 = (-1 : Int32)
  · rw [if_pos e1, if_pos e1]
    simp only [nm_eq, lit_nI]
    refine ⟨_, _, _, rfl, rfl, R, H, O, h.page (CP.of (fun k hk => ui_ne (by omega)) rfl) ⟨⟨?_, ?_, ?_, ?_⟩, fun s s1 s2 => ui_ne (by omega), fun i _ => by rw [ui_ne (by omega)], ui_ne (by omega), ui_ne (by omega)⟩ (hp0.misc (fun k k1 k2 k3 => ui_ne (by omega)) ?_ (fun k i h1 h2 => ?_) ?_ ?_ ?_)⟩
    · rw [ui_ne (by omega)]
    · rw [ui_ne (by omega)]
    · rw [ui_ne (by omega)]
    · rw [ui_ne (by omega)]
    · simp only [ui_rd, Nat.reduceEqDiff, if_true, if_false]
    · rw [ui_rd]
      by_cases hk : k = 502
      · rw [if_pos hk, if_neg (by omega)]
      · rw [if_neg hk]
    · simp only [ui_rd, Nat.reduceEqDiff, if_true, if_false, Nat.reduceAdd]
      exact ⟨0, by omega, rfl, rfl, fun i hi => by omega⟩
    · simp only [ui_rd, Nat.reduceEqDiff, if_true, if_false]
      exact hF
    · simp only [ui_rd, Nat.reduceEqDiff, if_true, if_false]
      exact hX
  · rw [if_neg e1, if_neg e1]
    rcases bookNight_v p1 with ⟨n, n9, en, n1, n2⟩ | ⟨n1, n2⟩
    · rcases isHouse_v h8 l1 l2 p2 with ⟨k, hk, ek, k1, k2⟩ | ⟨k1, k2⟩
      · rcases in_v p3 0 999 (A := 0) (B := 999) rfl rfl (by omega) (by omega) with ⟨w, w1, w2, ew, w3, w4, w5, -⟩ | ⟨w1, w2⟩
        · subst en
          subst ek
          subst ew
          simp only [nm_eq, n1, n2, k1, k2, w3, br_some, lit_nI, n10, if_false, w4, w5, a10, a11]
          by_cases hB : B = 10
          · subst hB
            rw [if_neg (by decide), if_pos rfl]
            exact ⟨_, c, m, rfl, rfl, hR⟩
          · rw [if_pos (by rw [lt_nI (by omega) (by omega)]; omega), if_neg (by rw [eq_nI (by omega) (by omega)]; exact hB)]
            unfold fX2_addBook
            simp (disch := omega) only [lit_nI, a10, le_nI, gd_ix, cl_nI, ↓nm_eq, ui_rd, Nat.reduceAdd, Nat.reduceEqDiff, if_true, if_false, nI_add, a11]
            rw [if_neg (by omega), br_some]
            simp only [ui_rd, Nat.reduceAdd, Nat.reduceEqDiff, if_true, if_false]
            refine ⟨_, _, _, rfl, rfl, R, H, O, h.page (CP.of (fun k hk => by rw [ui_ne (by omega), ui_ne (by omega), ui_ne (by omega), ui_ne (by omega)]) rfl) ⟨⟨?_, ?_, ?_, ?_⟩, fun s s1 s2 => by rw [ui_ne (by omega), ui_ne (by omega), ui_ne (by omega), ui_ne (by omega)], fun i _ => by rw [ui_ne (by omega), ui_ne (by omega), ui_ne (by omega), ui_ne (by omega)], by rw [ui_ne (by omega), ui_ne (by omega), ui_ne (by omega), ui_ne (by omega)], by rw [ui_ne (by omega), ui_ne (by omega), ui_ne (by omega), ui_ne (by omega)]⟩ (hp0.misc (fun k k1 k2 k3 => by rw [ui_ne (by omega), ui_ne (by omega), ui_ne (by omega), ui_ne (by omega)]) ?_ (fun k i h1 h2 => ?_) ⟨B + 1, by omega, ?_, ?_, fun i hi => ?_⟩ ?_ ?_)⟩
            · rw [ui_ne (by omega), ui_ne (by omega), ui_ne (by omega), ui_ne (by omega)]
            · rw [ui_ne (by omega), ui_ne (by omega), ui_ne (by omega), ui_ne (by omega)]
            · rw [ui_ne (by omega), ui_ne (by omega), ui_ne (by omega), ui_ne (by omega)]
            · rw [ui_ne (by omega), ui_ne (by omega), ui_ne (by omega), ui_ne (by omega)]
            · simp only [ui_rd, Nat.reduceEqDiff, if_true, if_false]
            · rw [ui_rd, ui_ne (show k ≠ 515 by omega), ui_ne (show k ≠ 514 by omega), ui_ne (show k ≠ 513 by omega)]
              by_cases hk : k = 502
              · rw [if_pos hk, if_neg (by omega)]
              · rw [if_neg hk]
            · simp only [ui_rd, Nat.reduceEqDiff, if_true, if_false]
            · simp only [ui_rd, Nat.reduceEqDiff, if_true, if_false]
            · simp only [ui_rd, Nat.reduceEqDiff, if_true, if_false, Nat.reduceAdd]
              by_cases hi2 : i = B
              · simp only [hi2, if_true, true_and]
                exact ⟨⟨n, n9, rfl⟩, k, hk, rfl⟩
              · simp only [hi2, if_false]
                exact a12 i (by omega)
            · simp only [ui_rd, Nat.reduceEqDiff, if_true, if_false]
              exact hF
            · simp only [ui_rd, Nat.reduceEqDiff, if_true, if_false]
              exact hX
        · subst en
          subst ek
          simp only [nm_eq, n1, n2, k1, k2, w1, br_some, lit_nI, n10, if_false, if_true]
          rcases w2 with q | ⟨q1, q2, -⟩
          · rw [if_pos q]
            exact ⟨_, c, m, rfl, rfl, hR⟩
          · rw [if_neg q1, if_pos q2]
            exact ⟨_, c, m, rfl, rfl, hR⟩
      · subst en
        simp only [nm_eq, n1, n2, k1, k2, br_some, lit_nI, n10, if_false, if_true]
        exact ⟨_, c, m, rfl, rfl, hR⟩
    · simp only [nm_eq, n1, n2, br_some, lit_nI, if_true]
      exact ⟨_, c, m, rfl, rfl, hR⟩
