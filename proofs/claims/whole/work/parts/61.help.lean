/-! arguments: houses, officers, ranges -/
theorem t64 (x : Int32) : (Int32.toInt64 x).toInt = x.toInt := Int32.toInt_toInt64 x
theorem in_t {p : Int32} {A B : Int64} {a b : Int} (hA : A.toInt = a) (hB : B.toInt = b) : fX10_in (Int32.toInt64 p) A B = some (if a ≤ p.toInt ∧ p.toInt ≤ b then nI 1 else nI 0) := by
  unfold fX10_in
  simp only [lglt, lggt, Int64.lt_iff_toInt_lt, t64, hA, hB]
  by_cases h1 : p.toInt < a
  · rw [if_pos h1, if_neg (by omega)]
    rfl
  · rw [if_neg h1]
    by_cases h2 : b < p.toInt
    · rw [if_pos h2, if_neg (by omega)]
      rfl
    · rw [if_neg h2, if_pos (by omega)]
      rfl
/-- a number within bounds, or not -/
theorem rng (p : Int32) (a b : Nat) (hb : b < 2147483647) (ha : a ≤ b + 1) : (∃ k, a ≤ k ∧ k ≤ b ∧ p = nI k) ∨ (¬ ((a : Int) ≤ p.toInt ∧ p.toInt ≤ b) ∧ (p < nI a ∨ nI b < p)) := by
  rcases pk_ix p (n := b + 1) (by omega) with h | h | ⟨j, hj, e⟩
  · refine Or.inr ?_
    rw [Int32.lt_iff_toInt_lt, show (0 : Int32).toInt = 0 from rfl] at h
    refine ⟨by omega, Or.inl ?_⟩
    rw [Int32.lt_iff_toInt_lt, nI_toInt (by omega)]
    omega
  · refine Or.inr ?_
    rw [Int32.le_iff_toInt_le, nI_toInt (by omega)] at h
    refine ⟨by omega, Or.inr ?_⟩
    rw [Int32.lt_iff_toInt_lt, nI_toInt (by omega)]
    omega
  · by_cases hk : a ≤ j
    · exact Or.inl ⟨j, hk, by omega, e⟩
    · refine Or.inr ?_
      subst e
      rw [Int32.lt_iff_toInt_lt, Int32.lt_iff_toInt_lt, nI_toInt (show j < 2 ^ 31 by omega), nI_toInt (show b < 2 ^ 31 by omega), nI_toInt (show a < 2 ^ 31 by omega)]
      omega
/-- the reference's range, with the class's two tests -/
theorem in_v (p : Int32) (a b : Nat) {A B : Int64} (hA : A.toInt = (a : Int)) (hB : B.toInt = (b : Int)) (hb : b < 2147483647) (ha : a ≤ b + 1) : (∃ k, a ≤ k ∧ k ≤ b ∧ p = nI k ∧ fX10_in (Int32.toInt64 p) A B = some (nI 1) ∧ ¬ p < nI a ∧ ¬ nI b < p ∧ p ≤ nI b) ∨ (fX10_in (Int32.toInt64 p) A B = some (nI 0) ∧ (p < nI a ∨ (¬ p < nI a ∧ nI b < p ∧ ¬ p ≤ nI b))) := by
  rw [in_t hA hB]
  rcases rng p a b hb ha with ⟨k, h1, h2, e⟩ | ⟨h1, h2⟩
  · refine Or.inl ⟨k, h1, h2, e, ?_, ?_, ?_, ?_⟩
    · subst e
      rw [nI_toInt (by omega), if_pos (by omega)]
    · subst e
      rw [lt_nI (by omega) (by omega)]
      omega
    · subst e
      rw [lt_nI (by omega) (by omega)]
      omega
    · subst e
      rw [le_nI (by omega) (by omega)]
      exact h2
  · refine Or.inr ⟨by rw [if_neg h1], ?_⟩
    by_cases h3 : p < nI a
    · exact Or.inl h3
    · have h4 := h2.resolve_left h3
      refine Or.inr ⟨h3, h4, ?_⟩
      rw [Int32.lt_iff_toInt_lt] at h4
      rw [Int32.le_iff_toInt_le]
      omega
theorem isHouse_v {H : Nat} {c m : St} (hH : H ≤ 8) (h1 : c.1 134 4 = nI H) (h2 : m.1 502 3 = nI H) (p : Int32) : (∃ h, h < H ∧ p = nI h ∧ fX9_isHouse c p = some (nI 1) ∧ fX10_isHouse m p = some (nI 1)) ∨ (fX9_isHouse c p = some (nI 0) ∧ fX10_isHouse m p = some (nI 0)) := by
  have e0 : (0 : Int64).toInt = 0 := rfl
  have e1 : (Int32.toInt64 (nI H - (1 : Int32))).toInt = (H : Int) - 1 := by
    rw [t64]
    exact pk_sub_toInt (a := H) (b := 1) (by omega) (by omega)
  unfold fX9_isHouse fX10_isHouse
  rw [h1, h2, in_t e0 e1, br_some]
  rcases pk_ix p (n := H) (by omega) with h | h | ⟨j, hj, e⟩
  · refine Or.inr ⟨if_pos h, ?_⟩
    rw [Int32.lt_iff_toInt_lt, show (0 : Int32).toInt = 0 from rfl] at h
    rw [if_neg (by omega)]
    rfl
  · refine Or.inr ⟨?_, ?_⟩
    · by_cases q : p < 0
      · exact if_pos q
      · rw [if_neg q, if_pos h]
        rfl
    · rw [Int32.le_iff_toInt_le, nI_toInt (by omega)] at h
      rw [if_neg (by omega)]
      rfl
  · refine Or.inl ⟨j, hj, e, ?_, ?_⟩
    · subst e
      simp (disch := omega) only [lit_nI, lt_nI, le_nI]
      rw [if_neg (by omega), if_neg (by omega)]
    · subst e
      rw [nI_toInt (by omega), if_pos (by omega)]
      rfl
theorem isOfficer_v {O : Nat} {c m : St} (hO : O ≤ 3) (h1 : c.1 134 6 = nI O) (h2 : m.1 502 5 = nI O) (p : Int32) : (∃ q, q < O ∧ p = nI q ∧ fX9_isOfficer c p = some (nI 1) ∧ fX10_isOfficer m p = some (nI 1)) ∨ (fX9_isOfficer c p = some (nI 0) ∧ fX10_isOfficer m p = some (nI 0)) := by
  have e0 : (0 : Int64).toInt = 0 := rfl
  have e1 : (Int32.toInt64 (nI O - (1 : Int32))).toInt = (O : Int) - 1 := by
    rw [t64]
    exact pk_sub_toInt (a := O) (b := 1) (by omega) (by omega)
  unfold fX9_isOfficer fX10_isOfficer
  rw [h1, h2, in_t e0 e1, br_some]
  rcases pk_ix p (n := O) (by omega) with h | h | ⟨j, hj, e⟩
  · refine Or.inr ⟨if_pos h, ?_⟩
    rw [Int32.lt_iff_toInt_lt, show (0 : Int32).toInt = 0 from rfl] at h
    rw [if_neg (by omega)]
    rfl
  · refine Or.inr ⟨?_, ?_⟩
    · by_cases q : p < 0
      · exact if_pos q
      · rw [if_neg q, if_pos h]
        rfl
    · rw [Int32.le_iff_toInt_le, nI_toInt (by omega)] at h
      rw [if_neg (by omega)]
      rfl
  · refine Or.inl ⟨j, hj, e, ?_, ?_⟩
    · subst e
      simp (disch := omega) only [lit_nI, lt_nI, le_nI]
      rw [if_neg (by omega), if_neg (by omega)]
    · subst e
      rw [nI_toInt (by omega), if_pos (by omega)]
      rfl
theorem frozen_v {c m : St} (h : c.1 122 38 = m.1 502 7) (p : Int32) : ∃ x, fX9_isFrozen c p = some x ∧ fX10_isFrozen m p = some x ∧ ((x = nI 0 ∧ (m.1 502 7 >>> (p &&& nI 31)) &&& nI 1 = nI 0) ∨ (x = nI 1 ∧ (m.1 502 7 >>> (p &&& nI 31)) &&& nI 1 = nI 1)) := by
  unfold fX9_isFrozen
  rw [isFrozen_v, h]
  simp only [lit_nI]
  rcases and1n (m.1 502 7 >>> (p &&& nI 31)) with f | f
  · refine ⟨nI 0, ?_, ?_, Or.inl ⟨rfl, f⟩⟩
    · rw [f, if_pos rfl]
    · rw [f, if_neg (by rw [n01]; exact id)]
  · refine ⟨nI 1, ?_, ?_, Or.inr ⟨rfl, f⟩⟩
    · rw [f, if_neg (by rw [n10]; exact id)]
    · rw [f, if_pos rfl]
theorem trialLen_v (p : Int32) : (∃ k, 1 ≤ k ∧ k ≤ 60 ∧ p = nI k ∧ fX9_isTrialLength p = some (nI 1) ∧ fX10_in (Int32.toInt64 p) (1 : Int64) (60 : Int64) = some (nI 1)) ∨ (fX9_isTrialLength p = some (nI 0) ∧ fX10_in (Int32.toInt64 p) (1 : Int64) (60 : Int64) = some (nI 0)) := by
  unfold fX9_isTrialLength
  simp only [lit_nI]
  rcases in_v p 1 60 (A := 1) (B := 60) rfl rfl (by omega) (by omega) with ⟨k, h1, h2, e, e1, e2, e3, -⟩ | ⟨e1, e2⟩
  · exact Or.inl ⟨k, h1, h2, e, by rw [if_neg e2, if_neg e3], e1⟩
  · refine Or.inr ⟨?_, e1⟩
    rcases e2 with q | ⟨q1, q2, -⟩
    · rw [if_pos q]
    · rw [if_neg q1, if_pos q2]
/-- what changes at most on the class's main page -/
def CP (c c1 : St) : Prop := (∀ k, k ≤ 1 ∨ 160 ≤ k → c1.1 k = c.1 k) ∧ (∀ k, k ≠ 50 → c1.2.2 k = c.2.2 k) ∧ ∀ i r, c1.2.2 50 i = some r → ∃ k j, c.2.2 k j = some r
def MP (m m1 : St) : Prop := (m1.1 500 29 = m.1 500 29 ∧ m1.1 500 33 = m.1 500 33 ∧ m1.1 500 38 = m.1 500 38 ∧ m1.1 500 49 = m.1 500 49) ∧ (∀ s, 540 ≤ s → s ≤ 546 → m1.1 s = m.1 s) ∧ (∀ i, i < 4400 → m1.1 559 i = m.1 559 i) ∧ m1.1 560 = m.1 560 ∧ m1.1 561 = m.1 561
theorem CE.cp {c c1 : St} (h : CE c c1) : CP c c1 := ⟨fun k hk => h.1 k (by omega), h.2⟩
theorem ME.mp {m m1 : St} (h : ME m m1) : MP m m1 := h.2
theorem CP.tr {c c1 c2 : St} (h1 : CP c c1) (h2 : CP c1 c2) : CP c c2 := by
  obtain ⟨a1, a2, a3⟩ := h1
  obtain ⟨b1, b2, b3⟩ := h2
  refine ⟨fun k hk => (b1 k hk).trans (a1 k hk), fun k hk => (b2 k hk).trans (a2 k hk), fun i r h => ?_⟩
  obtain ⟨k, j, e⟩ := b3 i r h
  by_cases hk : k = 50
  · subst hk
    exact a3 j r e
  · rw [a2 k hk] at e
    exact ⟨k, j, e⟩
theorem CP.of {c c1 : St} (h1 : ∀ k, k ≤ 1 ∨ 160 ≤ k → c1.1 k = c.1 k) (h2 : c1.2.2 = c.2.2) : CP c c1 := ⟨h1, fun k _ => by rw [h2], fun i r e => ⟨50, i, by rw [h2] at e; exact e⟩⟩
theorem RelP.page {R H O H' O' : Nat} {L : List Nat} {c m c1 m1 : St} (h : RelP R H O L c m) (hc : CP c c1) (hm : MP m m1) (hp' : PageR H' O' R 120 c1 m1) : RelP R H' O' L c1 m1 := by
  obtain ⟨⟨T, T4, t1, t2, t3⟩, ⟨z1, z2⟩, ⟨r1, r2, r3, r4, r5, r6⟩, hp, hi, hr, hL⟩ := h
  obtain ⟨a1, a2, a3⟩ := hc
  obtain ⟨⟨b2, b3, b4, b5⟩, b6, b7, b8, b9⟩ := hm
  refine ⟨⟨T, T4, ?_, ?_, fun i hT => ?_⟩, ⟨?_, ?_⟩, ⟨r1, ?_, ?_, fun r hr' => ⟨?_, ?_⟩, ?_, r6⟩, hp', fun k hk => ?_, fun k i r e => ?_, ?_⟩
  · rw [a1 0 (by omega)]
    exact t1
  · rw [b2]
    exact t2
  · rw [a1 1 (by omega), b6 540 (by omega) (by omega)]
    exact t3 i hT
  · rw [b5]
    exact z1
  · rw [b4]
    exact z2
  · rw [a1 0 (by omega)]
    exact r2
  · rw [b3]
    exact r3
  · rw [a2 6 (by omega)]
    exact (r4 r hr').1
  · refine (r4 r hr').2.cg (fun k h1 h2 => a1 k (by omega)) ?_ (fun i _ => ⟨?_, ?_, ?_⟩) (fun j _ => ⟨?_, ?_⟩) <;> rw [b6 _ (by omega) (by omega)]
  · rw [a2 40 (by omega)]
    exact r5
  · rw [a2 9 (by omega), b8]
    rcases hi k hk with q | ⟨q1, q2, q3, H'', O'', q4⟩
    · exact Or.inl q
    · exact Or.inr ⟨q1, q2, q3, H'', O'', q4.cg (PC.same (fun k h1 h2 => a1 k (by omega))) (vw_pe hk b7 b9)⟩
  · rw [b8]
    by_cases hk : k = 50
    · subst hk
      obtain ⟨k', j', e'⟩ := a3 i r e
      exact hr k' j' r e'
    · rw [a2 k hk] at e
      exact hr k i r e
  · unfold LOK
    rw [b8]
    exact hL
/-- what an act may change of the reference -/
def MR (m m1 : St) : Prop := ∀ k i, k ≠ 503 → k ≠ 504 → k ≠ 506 → k ≠ 508 → k ≠ 509 → k ≠ 511 → (k = 502 → i ≠ 6 ∧ i ≠ 7 ∧ i ≠ 8) → m1.1 k i = m.1 k i
theorem MF.mr {m m1 : St} (h : MF m m1) : MR m m1 := fun k i h1 h2 h3 h4 h5 h6 h7 => h.1 k i h1 h2 h4 h5 h6 (fun q => ⟨(h7 q).1, (h7 q).2.1⟩)
theorem MR.mp {m m1 : St} (h : MR m m1) : MP m m1 := by
  refine ⟨⟨?_, ?_, ?_, ?_⟩, fun s s1 s2 => funext (fun x => ?_), fun i hi => ?_, funext (fun x => ?_), funext (fun x => ?_)⟩ <;> exact h _ _ (by omega) (by omega) (by omega) (by omega) (by omega) (by omega) (by omega)
theorem MR.tr {m m1 m2 : St} (h1 : MR m m1) (h2 : MR m1 m2) : MR m m2 := fun k i a1 a2 a3 a4 a5 a6 a7 => (h2 k i a1 a2 a3 a4 a5 a6 a7).trans (h1 k i a1 a2 a3 a4 a5 a6 a7)
theorem PageR.row {H O R : Nat} {c m c1 m1 : St} (h : PageR H O R 120 c m) (hc : ∀ k, 120 ≤ k → k < 160 → k ≠ 122 → c1.1 k = c.1 k) (hm : MR m m1) (hr : ∃ N, N ≤ 999 ∧ RowOK H O N (c1.1 122) m1) : PageR H O R 120 c1 m1 := by
  obtain ⟨⟨a1, a2, a2b⟩, a3, ⟨S, S6, s1, s2⟩, -, ⟨P, P9, a6, a7, a8⟩, a9, ⟨B, B9, a10, a11, a12⟩, ⟨a13, a14⟩, a15, a16⟩ := h
  have hH := a3.1
  have hO := a3.2.1
  have h2 : ∀ i, i ≠ 6 → i ≠ 7 → i ≠ 8 → m1.1 502 i = m.1 502 i := fun i i1 i2 i3 => hm 502 i (by omega) (by omega) (by omega) (by omega) (by omega) (by omega) (by omega)
  have hs : ∀ s, s < 502 ∨ 512 ≤ s ∨ s = 505 ∨ s = 507 ∨ s = 510 → m1.1 s = m.1 s := fun s hs => funext (fun x => hm s x (by omega) (by omega) (by omega) (by omega) (by omega) (by omega) (by omega))
  refine ⟨⟨?_, ?_, ?_⟩, ?_, ⟨S, S6, ?_, ?_⟩, hr, ⟨P, P9, ?_, ?_, fun i hi => ?_⟩, ?_, ⟨B, B9, ?_, ?_, ?_⟩, ⟨?_, ?_⟩, ?_, ?_⟩
  · rw [hc (120 + 14) (by omega) (by omega) (by omega), hs 500 (by omega)]
    exact a1
  · rw [hc (120 + 14) (by omega) (by omega) (by omega), h2 0 (by omega) (by omega) (by omega)]
    exact a2
  · rw [hs 500 (by omega)]
    exact a2b
  · unfold LandR
    rw [hc (120 + 14) (by omega) (by omega) (by omega), hc (120 + 14 + 9) (by omega) (by omega) (by omega), hc (120 + 14 + 10) (by omega) (by omega) (by omega), hc (120 + 14 + 11) (by omega) (by omega) (by omega), h2 1 (by omega) (by omega) (by omega), h2 2 (by omega) (by omega) (by omega), h2 3 (by omega) (by omega) (by omega), h2 4 (by omega) (by omega) (by omega), h2 5 (by omega) (by omega) (by omega), hs 505 (by omega), hs 507 (by omega), hs 510 (by omega)]
    exact a3
  · rw [hc (120 + 14) (by omega) (by omega) (by omega)]
    exact s1
  · rw [hc (120 + 14 + 12) (by omega) (by omega) (by omega), hs 512 (by omega)]
    exact s2
  · rw [hc 120 (by omega) (by omega) (by omega)]
    exact a6
  · rw [hs 500 (by omega)]
    exact a7
  · obtain ⟨N, N9, hN⟩ := a8 i hi
    refine ⟨N, N9, hN.cg hH hO (fun j hj => ?_) (fun k hk => ⟨?_, ?_, ?_, ?_⟩) (fun q hq => ⟨?_, ?_⟩) (fun j j1 j2 => ?_) (fun k hk => ⟨?_, ?_⟩) (fun q hq => ?_) ?_ ?_⟩
    · rw [hc (120 + 3) (by omega) (by omega) (by omega)]
    · simp only [pv, Nat.reduceEqDiff, if_true, if_false, hs 551 (Or.inr (Or.inl (by omega)))]
    · simp only [pv, Nat.reduceEqDiff, if_true, if_false, hs 551 (Or.inr (Or.inl (by omega)))]
    · simp only [pv, Nat.reduceEqDiff, if_true, if_false, hs 551 (Or.inr (Or.inl (by omega)))]
    · simp only [pv, Nat.reduceEqDiff, if_true, if_false, hs 551 (Or.inr (Or.inl (by omega)))]
    · simp only [pv, Nat.reduceEqDiff, if_true, if_false, hs 551 (Or.inr (Or.inl (by omega)))]
    · simp only [pv, Nat.reduceEqDiff, if_true, if_false, hs 551 (Or.inr (Or.inl (by omega)))]
    · rcases (show j = 6 ∨ j = 7 ∨ j = 8 by omega) with rfl | rfl | rfl <;> simp only [pv, Nat.reduceEqDiff, if_true, if_false, hs 551 (Or.inr (Or.inl (by omega)))]
    · simp only [pv, Nat.reduceEqDiff, if_false, hs 505 (by omega)]
    · simp only [pv, Nat.reduceEqDiff, if_false, hs 507 (by omega)]
    · simp only [pv, Nat.reduceEqDiff, if_false, hs 510 (by omega)]
    · simp only [pv, Nat.reduceEqDiff, if_true, if_false, h2 0 (by omega) (by omega) (by omega)]
    · simp only [pv, Nat.reduceEqDiff, if_true, if_false, h2 1 (by omega) (by omega) (by omega)]
  · refine a9.cg hH hO (fun j hj => ?_) (fun k hk => ⟨?_, ?_, ?_, ?_⟩) (fun q hq => ⟨?_, ?_⟩) (fun j j1 j2 => ?_) (fun k hk => ⟨?_, ?_⟩) (fun q hq => ?_) ?_ ?_
    · rw [hc (120 + 27) (by omega) (by omega) (by omega)]
    · simp only [bv, Nat.reduceEqDiff, if_true, if_false, hs 516 (by omega)]
    · simp only [bv, Nat.reduceEqDiff, if_true, if_false, hs 517 (by omega)]
    · simp only [bv, Nat.reduceEqDiff, if_true, if_false, hs 518 (by omega)]
    · simp only [bv, Nat.reduceEqDiff, if_true, if_false]
    · simp only [bv, Nat.reduceEqDiff, if_true, if_false, hs 519 (by omega)]
    · simp only [bv, Nat.reduceEqDiff, if_true, if_false]
    · rcases (show j = 6 ∨ j = 7 ∨ j = 8 by omega) with rfl | rfl | rfl <;> simp only [bv, Nat.reduceEqDiff, if_true, if_false]
    · simp only [bv, Nat.reduceEqDiff, if_false, hs 505 (by omega)]
    · simp only [bv, Nat.reduceEqDiff, if_false, hs 507 (by omega)]
    · simp only [bv, Nat.reduceEqDiff, if_false, hs 510 (by omega)]
    · simp only [bv, Nat.reduceEqDiff, if_true, if_false, h2 0 (by omega) (by omega) (by omega)]
    · simp only [bv, Nat.reduceEqDiff, if_true, if_false, h2 1 (by omega) (by omega) (by omega)]
  · rw [hc 120 (by omega) (by omega) (by omega)]
    exact a10
  · rw [h2 9 (by omega) (by omega) (by omega)]
    exact a11
  · rw [hc (120 + 5) (by omega) (by omega) (by omega), hc (120 + 6) (by omega) (by omega) (by omega), hc (120 + 7) (by omega) (by omega) (by omega), hs 513 (by omega), hs 514 (by omega), hs 515 (by omega)]
    exact a12
  · rw [hc 120 (by omega) (by omega) (by omega), h2 11 (by omega) (by omega) (by omega)]
    exact a13
  · rw [h2 11 (by omega) (by omega) (by omega)]
    exact a14
  · rw [hc 120 (by omega) (by omega) (by omega), h2 10 (by omega) (by omega) (by omega)]
    exact a15
  · rw [h2 10 (by omega) (by omega) (by omega)]
    exact a16
theorem RelP.nr {R H O : Nat} {L : List Nat} {c m : St} (h : RelP R H O L c m) : ∃ N, N ≤ 999 ∧ NR H O N 122 c m := by
  obtain ⟨-, -, -, ⟨-, a3, a4, ⟨N, N9, a5⟩, -⟩, -⟩ := h
  exact ⟨N, N9, a3, a4, a5⟩
/-- after a change of the row that is now -/
theorem RelP.now {R H O N : Nat} {L : List Nat} {c m c1 m1 : St} (h : RelP R H O L c m) (hc : CP c c1) (hc2 : ∀ k, 120 ≤ k → k < 160 → k ≠ 122 → c1.1 k = c.1 k) (hm : MR m m1) (hN : N ≤ 999) (hr : RowOK H O N (c1.1 122) m1) : RelP R H O L c1 m1 :=
  h.page hc hm.mp (h.2.2.2.1.row hc2 hm ⟨N, hN, hr⟩)
