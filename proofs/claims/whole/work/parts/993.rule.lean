/-! a rule is told -/
theorem PageR.mono {H O R R' b : Nat} {c v : St} (h : PageR H O R b c v) (hR : R ≤ R') : PageR H O R' b c v := by
  obtain ⟨a1, a2, a3, a4, a5, a6, a7, ⟨a8, a9⟩, a10, a11⟩ := h
  refine ⟨a1, a2, a3, a4, a5, a6, a7, ⟨a8, ?_⟩, a10, a11⟩
  rcases a9 with q | ⟨r, r1, r2⟩
  · exact Or.inl q
  · exact Or.inr ⟨r, by omega, r2⟩
/-- what reading a rule leaves -/
theorem RelP.rl {R H O : Nat} {L : List Nat} {c m c1 m1 : St} (h : RelP R H O L c m) (ht : TapeR c1 m1) (hc : ∀ k, k ≠ 0 → ¬ (20 ≤ k ∧ k ≤ 23) → k ≠ 40 → ¬ (400 + 10 * R ≤ k ∧ k < 400 + 10 * R + 8) → c1.1 k = c.1 k) (h06 : c1.1 0 6 = c.1 0 6) (hc2 : c1.2.2 = c.2.2) (hm : ∀ k i, ¬ (520 ≤ k ∧ k ≤ 528) → k ≠ 547 → ¬ (541 ≤ k ∧ k ≤ 546) → ¬ (k = 500 ∧ (29 ≤ i ∧ i ≤ 37 ∧ i ≠ 33)) → m1.1 k i = m.1 k i) (h1 : ∀ i, i < 300 * R → m1.1 541 i = m.1 541 i ∧ m1.1 542 i = m.1 542 i) (h2 : ∀ i, i < 12 * R → m1.1 544 i = m.1 544 i ∧ m1.1 545 i = m.1 545 i ∧ m1.1 546 i = m.1 546 i) (h3 : ∀ i, i < R → m1.1 543 i = m.1 543 i) : RelP R H O L c1 m1 := by
  obtain ⟨-, ⟨z1, z2⟩, ⟨r1, r2, r3, r4, r5, r6⟩, hp, hi, hr, hL⟩ := h
  have e60 : m1.1 560 = m.1 560 := funext (fun x => hm 560 x (by omega) (by omega) (by omega) (by omega))
  have e61 : m1.1 561 = m.1 561 := funext (fun x => hm 561 x (by omega) (by omega) (by omega) (by omega))
  refine ⟨ht, ⟨?_, ?_⟩, ⟨r1, ?_, ?_, fun r hr' => ⟨?_, ?_⟩, ?_, r6⟩, ?_, fun k hk => ?_, fun k i r e => ?_, ?_⟩
  · rw [hm 500 49 (by omega) (by omega) (by omega) (by omega)]
    exact z1
  · rw [hm 500 38 (by omega) (by omega) (by omega) (by omega)]
    exact z2
  · rw [h06]
    exact r2
  · rw [hm 500 33 (by omega) (by omega) (by omega) (by omega)]
    exact r3
  · rw [hc2]
    exact (r4 r hr').1
  · exact (r4 r hr').2.cg (fun k k1 k2 => hc k (by omega) (by omega) (by omega) (by omega)) (h3 r hr') (fun i hi => h2 _ (by omega)) (fun i hi => h1 _ (by omega))
  · rw [hc2]
    exact r5
  · refine hp.cg (PC.same (fun k h1 h2 => hc k (by omega) (by omega) (by omega) (by omega))) ⟨hm 500 28 (by omega) (by omega) (by omega) (by omega), hm 500 52 (by omega) (by omega) (by omega) (by omega), fun s i hi => ?_⟩
    have := lenM_s hi
    exact hm s i (by omega) (by omega) (by omega) (by omega)
  · rw [hc2, e60]
    rcases hi k hk with q | ⟨q1, q2, q3, H'', O'', q4⟩
    · exact Or.inl q
    · exact Or.inr ⟨q1, q2, q3, H'', O'', q4.cg (PC.same (fun k h1 h2 => hc k (by omega) (by omega) (by omega) (by omega))) (vw_pe hk (fun i _ => hm 559 i (by omega) (by omega) (by omega) (by omega)) e61)⟩
  · rw [e60]
    rw [hc2] at e
    exact hr k i r e
  · unfold LOK
    rw [e60]
    exact hL
theorem okRb_new : ∀ k, k < 6 → okRb (nR (410 + 10 * k)) (410 + 10 * k) = true := by decide +kernel
theorem ty_r : ∀ j, j < 6 → ∀ i, i < 8 → 1 ≤ i → ¬ ty (400 + 10 * j + i) = 5 := by decide +kernel
theorem fr_new {R H O : Nat} {L : List Nat} {c m : St} (h : RelP R H O L c m) (hR : R < 6) : FrR L c (400 + 10 * R + 10) := by
  obtain ⟨-, -, -, -, -, hr, hL⟩ := h
  refine ⟨?_, fun k hk => ?_, fun k i r e => ?_⟩
  · rcases (show R = 0 ∨ R = 1 ∨ R = 2 ∨ R = 3 ∨ R = 4 ∨ R = 5 by omega) with rfl | rfl | rfl | rfl | rfl | rfl <;> decide
  · rcases hL k hk with q | ⟨j, j1, j2, j3, j4⟩ | ⟨j, j1, j2, j3⟩
    · exact ⟨by omega, fun _ => by omega⟩
    · exact ⟨by omega, fun _ => by omega⟩
    · refine ⟨by omega, fun w => ?_⟩
      by_cases z : k = 400 + 10 * j
      · omega
      · exfalso
        have := ty_r j (by omega) (k - (400 + 10 * j)) (by omega) (by omega)
        rw [show 400 + 10 * j + (k - (400 + 10 * j)) = k by omega] at this
        exact this w
  · rcases hr k i r e with ⟨j, j1, j2, j3⟩ | ⟨j, j1, j2⟩
    · omega
    · omega
/-- one rule more -/
theorem RelP.more {R H O : Nat} {L : List Nat} {c m : St} (h : RelP R H O L c m) (hR : R < 6) (hrl : RuleR R c m) : RelP (R + 1) H O (L ++ nR (400 + 10 * R + 10)) (ui (uq (uq (zr c (400 + 10 * R + 10) 8) 40 1 (some (400 + 10 * R + 10))) 6 R (some (400 + 10 * R))) 0 6 (nI (R + 1))) (ui m 500 33 (nI (R + 1))) := by
  obtain ⟨c1, ec⟩ : ∃ s, s = ui (uq (uq (zr c (400 + 10 * R + 10) 8) 40 1 (some (400 + 10 * R + 10))) 6 R (some (400 + 10 * R))) 0 6 (nI (R + 1)) := ⟨_, rfl⟩
  obtain ⟨m1, em⟩ : ∃ s, s = ui m 500 33 (nI (R + 1)) := ⟨_, rfl⟩
  rw [← ec, ← em]
  have hc : ∀ k, k ≠ 0 → k < 400 + 10 * R + 10 → c1.1 k = c.1 k := fun k k0 k1 => by
    rw [ec, ui_ne k0]
    exact (zr_out (by omega)).1
  have hc0 : ∀ i, c1.1 0 i = if i = 6 then nI (R + 1) else c.1 0 i := fun i => by
    rw [ec, ui_rd, if_pos rfl]
    by_cases z : i = 6
    · rw [if_pos z, if_pos z]
    · rw [if_neg z, if_neg z]
      show (zr c (400 + 10 * R + 10) 8).1 0 i = _
      rw [(zr_out (by omega)).1]
  have hq : ∀ k i, c1.2.2 k i = if k = 6 ∧ i = R then some (400 + 10 * R) else if k = 40 ∧ i = 1 then some (400 + 10 * R + 10) else if 400 + 10 * R + 10 ≤ k ∧ k < 400 + 10 * R + 10 + 8 then none else c.2.2 k i := fun k i => by
    rw [ec]
    show (uq (uq (zr c (400 + 10 * R + 10) 8) 40 1 (some (400 + 10 * R + 10))) 6 R (some (400 + 10 * R))).2.2 k i = _
    have hz : (zr c (400 + 10 * R + 10) 8).2.2 k i = if 400 + 10 * R + 10 ≤ k ∧ k < 400 + 10 * R + 10 + 8 then none else c.2.2 k i := by
      by_cases w : 400 + 10 * R + 10 ≤ k ∧ k < 400 + 10 * R + 10 + 8
      · rw [if_pos w, (zr_in w).2.2]
      · rw [if_neg w, (zr_out w).2.2]
    rw [uq_rd, uq_rd, hz]
    by_cases k6 : k = 6
    · by_cases i6 : i = R
      · rw [if_pos k6, if_pos i6, if_pos ⟨k6, i6⟩]
      · rw [if_pos k6, if_neg i6, if_neg (by omega), if_neg (by omega), if_neg (by omega), if_neg (by omega)]
    · rw [if_neg k6, if_neg (by omega : ¬ (k = 6 ∧ i = R))]
      by_cases k40 : k = 40
      · by_cases i1 : i = 1
        · rw [if_pos k40, if_pos i1, if_pos ⟨k40, i1⟩]
        · rw [if_pos k40, if_neg i1, if_neg (by omega), if_neg (by omega)]
      · rw [if_neg k40, if_neg (by omega : ¬ (k = 40 ∧ i = 1))]
  have hm : ∀ k i, ¬ (k = 500 ∧ i = 33) → m1.1 k i = m.1 k i := fun k i w => by
    rw [em, ui_rd]
    by_cases z : k = 500
    · rw [if_pos z, if_neg (by omega)]
    · rw [if_neg z]
  have e60 : m1.1 560 = m.1 560 := funext (fun x => hm 560 x (by omega))
  have hmono : ∀ x, x ∈ L → x ∈ L ++ nR (400 + 10 * R + 10) := fun x hx => List.mem_append_left _ hx
  obtain ⟨⟨T, T4, t1, t2, t3⟩, ⟨z1, z2⟩, ⟨r1, r2, r3, r4, r5, r6⟩, hp, hi, hr, hL⟩ := h
  have rcg : ∀ r, r ≤ R → RuleR r c m → RuleR r c1 m1 := fun r hr' w => w.cg (fun k k1 k2 => hc k (by omega) (by omega)) (hm 543 r (by omega)) (fun i _ => ⟨hm 544 _ (by omega), hm 545 _ (by omega), hm 546 _ (by omega)⟩) (fun i _ => ⟨hm 541 _ (by omega), hm 542 _ (by omega)⟩)
  refine ⟨⟨T, T4, ?_, ?_, fun i hT => ?_⟩, ⟨?_, ?_⟩, ⟨by omega, ?_, ?_, fun r hr' => ?_, ?_, fun r hr' => ?_⟩, ?_, fun k hk => ?_, fun k i r e => ?_, fun x hx => ?_⟩
  · rw [hc0, if_neg (by omega)]
    exact t1
  · rw [hm 500 29 (by omega)]
    exact t2
  · rw [hc 1 (by omega) (by omega), hm 540 i (by omega)]
    exact t3 i hT
  · rw [hm 500 49 (by omega)]
    exact z1
  · rw [hm 500 38 (by omega)]
    exact z2
  · rw [hc0, if_pos rfl]
  · rw [em, ui_rd, if_pos rfl, if_pos rfl]
  · by_cases e : r = R
    · subst e
      rw [hq, if_pos ⟨rfl, rfl⟩]
      exact ⟨rfl, rcg r (Nat.le_refl r) hrl⟩
    · rw [hq, if_neg (by omega), if_neg (by omega), if_neg (by omega)]
      exact ⟨(r4 r (by omega)).1, rcg r (by omega) (r4 r (by omega)).2⟩
  · rw [hq, if_neg (by omega), if_pos ⟨rfl, rfl⟩, show 400 + 10 * (R + 1) = 400 + 10 * R + 10 by omega]
  · by_cases e : r = R + 1
    · subst e
      have := okRb_new R hR
      rw [show 410 + 10 * R = 400 + 10 * R + 10 by omega] at this
      rw [show 400 + 10 * (R + 1) = 400 + 10 * R + 10 by omega]
      exact okRb_mono (fun x hx => List.mem_append_right _ hx) this
    · exact okRb_mono hmono (r6 r (by omega))
  · refine PageR.mono (R := R) ?_ (by omega)
    refine hp.cg (PC.same (fun k h1 h2 => hc k (by omega) (by omega))) ⟨hm 500 28 (by omega), hm 500 52 (by omega), fun s i hi => ?_⟩
    have := lenM_s hi
    exact hm s i (by omega)
  · rw [hq, if_neg (by omega), if_neg (by omega), if_neg (by omega), e60]
    rcases hi k hk with q | ⟨q1, q2, q3, H'', O'', q4⟩
    · exact Or.inl q
    · exact Or.inr ⟨q1, q2, okPb_mono hmono q3, H'', O'', (q4.cg (PC.same (fun k h1 h2 => hc k (by omega) (by omega))) (vw_pe hk (fun i _ => hm 559 i (by omega)) (funext (fun x => hm 561 x (by omega))))).mono (by omega)⟩
  · rw [e60]
    rw [hq] at e
    by_cases w1 : k = 6 ∧ i = R
    · rw [if_pos w1] at e
      exact Or.inr ⟨R, by omega, (Option.some.inj e).symm⟩
    · rw [if_neg w1] at e
      by_cases w2 : k = 40 ∧ i = 1
      · rw [if_pos w2] at e
        exact Or.inr ⟨R + 1, by omega, by have := Option.some.inj e; omega⟩
      · rw [if_neg w2] at e
        by_cases w3 : 400 + 10 * R + 10 ≤ k ∧ k < 400 + 10 * R + 10 + 8
        · rw [if_pos w3] at e
          exact nomatch e
        · rw [if_neg w3] at e
          rcases hr k i r e with q | ⟨j, j1, j2⟩
          · exact Or.inl q
          · exact Or.inr ⟨j, by omega, j2⟩
  · rw [e60]
    rcases List.mem_append.mp hx with q | q
    · rcases hL x q with q | q | ⟨j, j1, j2⟩
      · exact Or.inl q
      · exact Or.inr (Or.inl q)
      · exact Or.inr (Or.inr ⟨j, by omega, j2⟩)
    · refine Or.inr (Or.inr ⟨R + 1, by omega, ?_⟩)
      revert q
      simp only [nR, List.mem_cons, List.not_mem_nil, or_false]
      omega
/-- the draft is a rule -/
theorem RC.rule {R y e q : Nat} {L : List Nat} {c m m1 : St} (h : RC R y e c m) (hk : KM R L e q c m) (h543 : m1.1 543 R = nI y) (hm : ∀ k, 541 ≤ k → k ≤ 546 → k ≠ 543 → m1.1 k = m.1 k) : RuleR R c m1 := by
  obtain ⟨a1, a2, a3, a4, a5⟩ := h
  obtain ⟨-, ⟨-, -, b3⟩, -, -, f⟩ := hk
  refine ⟨y, a2, a1, h543, fun i hi => ?_⟩
  obtain ⟨s, u, g, c1, c2, c3, c4, c5, c6, c7, c8, c9, c10, c11⟩ := a5 i hi
  rw [hm 541 (by omega) (by omega) (by omega), hm 542 (by omega) (by omega) (by omega), hm 544 (by omega) (by omega) (by omega), hm 545 (by omega) (by omega) (by omega), hm 546 (by omega) (by omega) (by omega)]
  refine ⟨s, u, g, c1, c2, by omega, c4, c5, c6, c7, c8, c9, c10.2, ?_, fun j j1 j2 => f j (by omega)⟩
  rcases c11 with w | w
  · exact Or.inl w
  · exact Or.inr w.2
theorem rfin_v {R y : Nat} {m : St} (hR : R < 6) (h32 : m.1 500 32 = nI R) (h33 : m.1 500 33 = nI R) : ∃ m1, m1 = ui (ui m 500 29 (nI 0)) 543 R (nI y) ∧ (∀ F, 0 < F → F < 4000 → m.1 500 31 = nI F → rfin (nI y) m = some (-nI 2 - nI F, m1)) ∧ (m.1 500 31 = nI 0 → rfin (nI y) m = some (nI R, ui m1 500 33 (nI (R + 1)))) := by
  refine ⟨_, rfl, fun F F0 F4 hF => ?_, fun h0 => ?_⟩
  · have e33 : (ui (ui m 500 29 (nI 0)) 543 R (nI y)).1 500 33 = nI R := by
      simp only [ui_rd, Nat.reduceEqDiff, if_true, if_false]
      exact h33
    have hs : ui (ui (ui m 500 29 (nI 0)) 543 R (nI y)) 500 33 (nI R) = ui (ui m 500 29 (nI 0)) 543 R (nI y) := ui_same e33
    unfold rfin
    rw [fX10_rule_L27]
    unfold fX10_rule_B79
    simp (disch := omega) only [lit_nI, if_true, ↓nm_eq, ui_rd, Nat.reduceEqDiff, if_false, h32, gd_ix, cl_nI, hF, h33, nI_add, Nat.add_zero, le_nI, eq_nI]
    rw [if_neg (by omega), if_neg (by omega), hs]
  · unfold rfin
    rw [fX10_rule_L27]
    unfold fX10_rule_B79
    simp (disch := omega) only [lit_nI, if_true, ↓nm_eq, ui_rd, Nat.reduceEqDiff, if_false, h32, gd_ix, cl_nI, h0, h33, nI_add, le_nI, Nat.le_refl, sub1_nI]
theorem sk_3 : Sk_3 Rel := by
  rintro L c m ⟨R, H, O, h⟩
  have hRel : Rel L c m := ⟨R, H, O, h⟩
  obtain ⟨t, T, t1, tc, tm⟩ := text_v h
  have hT := tm.1
  obtain ⟨r1, r2, r3, r4, r5, r6⟩ := h.2.2.1
  have z38 := h.2.1.2
  unfold fX9_rule fX10_rule
  simp (disch := omega) only [lit_nI, r2, r3, lt_nI, eq_nI]
  by_cases hR : R < 6
  · rw [if_pos hR, if_neg (by omega)]
    obtain ⟨c1, S, pos, a1, a2, a3, a4⟩ := read_v tc
    obtain ⟨c2, e2⟩ : ∃ s, s = ui c1 0 1 (nI 0) := ⟨_, rfl⟩
    obtain ⟨c3, e3⟩ : ∃ s, s = ui (ui (ui (ui c2 (400 + 10 * R) 1 (nI 0)) (400 + 10 * R) 5 (nI 0)) 40 2 (nI 0)) 40 3 (nI 0) := ⟨_, rfl⟩
    obtain ⟨m1, em1⟩ : ∃ s, s = ui m 500 32 (nI R) := ⟨_, rfl⟩
    obtain ⟨m2, d1, d2, d3, d4, d5, d6, d7, d8, d9⟩ := starts_v m1
    have m1k : ∀ k i, ¬ (k = 500 ∧ i = 32) → m1.1 k i = m.1 k i := fun k i w => by
      rw [em1, ui_rd]
      by_cases z : k = 500
      · rw [if_pos z, if_neg (by omega)]
      · rw [if_neg z]
    have c22 : c3.2 = c.2 := by
      rw [e3, e2]
      exact a4.2
    have c3k : ∀ k, k ≠ 0 → k ≠ 40 → k ≠ 400 + 10 * R → c3.1 k = c1.1 k := fun k k0 k1 k2 => by rw [e3, ui_ne k1, ui_ne k1, ui_ne k2, ui_ne k2, e2, ui_ne k0]
    have hlk : LK t T S pos 0 0 c3 m2 := LK.start (m := m) a2 a3 (fun k k1 k2 => c3k k (by omega) (by omega) (by omega)) tm (by rw [d7 29 (by omega) (by omega) (by omega) (by omega) (by omega), m1k 500 29 (by omega)]) (by rw [d8 540 (by omega)]; exact funext (fun i => m1k 540 i (by omega))) d2
    have m32 : m2.1 500 32 = nI R := by
      rw [d7 32 (by omega) (by omega) (by omega) (by omega) (by omega), em1, ui_rd, if_pos rfl, if_pos rfl]
    have hkm : KM R L 0 0 c3 m2 := by
      refine ⟨⟨by rw [c22]; exact r5, r6 R (Nat.le_refl R), hR⟩, ⟨?_, d4, by omega⟩, ⟨?_, d6, by omega⟩, ⟨d3, m32, ?_⟩, fun i hi => by omega⟩
      · rw [e3, ui_ne (by omega), ui_ne (by omega), ui_rd, if_pos rfl, if_neg (by omega), ui_rd, if_pos rfl, if_pos rfl]
      · rw [e3, ui_rd, if_pos rfl, if_neg (by omega), ui_rd, if_pos rfl, if_pos rfl]
      · rw [d7 38 (by omega) (by omega) (by omega) (by omega) (by omega), m1k 500 38 (by omega)]
        exact z38
    have hrc : RC R 0 0 c3 m2 := by
      refine ⟨?_, by omega, fun _ => rfl, fun w => by omega, fun x hx => by omega⟩
      rw [e3, ui_ne (by omega), ui_ne (by omega), ui_rd, if_pos rfl, if_pos rfl]
    obtain ⟨x, c5, m5, y, l1, l2, l3, l4, y13, l5⟩ := rloop 12 0 10000 10000 0 0 0 0 c3 m2 (by omega) (by omega) (by omega) ⟨hlk, hkm⟩ hrc (by omega) d5
    have hread : fX5_read L c2 = some (x, c5) := by
      have q1 : c2.2.2 40 1 = some (400 + 10 * R) := by
        rw [e2]
        show c1.2.2 40 1 = _
        rw [a4.2]
        exact r5
      unfold fX5_read fX4_clear
      simp only [lit_nI]
      rw [q1, br_some, r6 R (Nat.le_refl R), gd_tt, nm_eq, nm_eq, br_some, nm_eq, nm_eq, ← e3, l1]
    have m5k : ∀ k i, ¬ (520 ≤ k ∧ k ≤ 528) → k ≠ 547 → ¬ (541 ≤ k ∧ k ≤ 546) → ¬ (k = 500 ∧ (29 ≤ i ∧ i ≤ 37 ∧ i ≠ 33)) → m5.1 k i = m.1 k i := fun k i w1 w2 w3 w4 => by
      rw [l4.1 k i w1 w2 w3 (by omega)]
      by_cases z : k = 500
      · subst z
        rw [d7 i (by omega) (by omega) (by omega) (by omega) (by omega), m1k 500 i (by omega)]
      · rw [d8 k z, m1k k i (by omega)]
    have m532 : m5.1 500 32 = nI R := by
      rw [l4.1 500 32 (by omega) (by omega) (by omega) (by omega)]
      exact m32
    have m533 : m5.1 500 33 = nI R := by
      rw [m5k 500 33 (by omega) (by omega) (by omega) (by omega)]
      exact r3
    have m2k : ∀ k, k ≠ 500 → m2.1 k = m.1 k := fun k w => by
      rw [d8 k w]
      exact funext (fun i => m1k k i (by omega))
    obtain ⟨m6, e6, f1, f2⟩ := rfin_v (y := y) hR m532 m533
    have m6k : ∀ k i, ¬ (520 ≤ k ∧ k ≤ 528) → k ≠ 547 → ¬ (541 ≤ k ∧ k ≤ 546) → ¬ (k = 500 ∧ (29 ≤ i ∧ i ≤ 37 ∧ i ≠ 33)) → m6.1 k i = m.1 k i := fun k i w1 w2 w3 w4 => by
      rw [e6, ui_ne (by omega), ui_rd]
      by_cases z : k = 500
      · rw [if_pos z, if_neg (by omega), m5k k i w1 w2 w3 w4]
      · rw [if_neg z, m5k k i w1 w2 w3 w4]
    have m6s : ∀ k, 541 ≤ k → k ≤ 546 → k ≠ 543 → m6.1 k = m5.1 k := fun k k1 k2 k3 => by rw [e6, ui_ne (by omega), ui_ne (by omega)]
    have m63 : ∀ i, m6.1 543 i = if i = R then nI y else m.1 543 i := fun i => by
      rw [e6, ui_rd, if_pos rfl, ui_ne (by omega), l4.2.2.2.1, m2k 543 (by omega)]
    have c5k : ∀ k, k ≠ 0 → ¬ (20 ≤ k ∧ k ≤ 23) → k ≠ 40 → ¬ (400 + 10 * R ≤ k ∧ k < 400 + 10 * R + 8) → c5.1 k = c.1 k := fun k w1 w2 w3 w4 => by
      rw [l3.1 k (by omega) w3 w4, c3k k w1 w3 (by omega), a4.1 k (by omega)]
    have c50 : ∀ i, c5.1 0 i = if i = 1 then nI 0 else c.1 0 i := fun i => by
      rw [l3.1 0 (by omega) (by omega) (by omega), e3, ui_ne (by omega), ui_ne (by omega), ui_ne (by omega), ui_ne (by omega), e2, ui_rd, if_pos rfl, a4.1 0 (by omega)]
    have c52 : c5.2 = c.2 := l3.2.trans c22
    have hrl : RelP R H O L c5 m6 := by
      refine h.rl ⟨0, by omega, ?_, ?_, fun i hi => by omega⟩ c5k ?_ (by rw [c52]) m6k (fun i hi => ?_) (fun i hi => ?_) (fun i hi => ?_)
      · rw [c50, if_pos rfl]
      · rw [e6, ui_ne (by omega), ui_rd, if_pos rfl, if_pos rfl]
      · rw [c50, if_neg (by omega)]
      · rw [m6s 541 (by omega) (by omega) (by omega), m6s 542 (by omega) (by omega) (by omega), (l4.2.1 i hi).1, (l4.2.1 i hi).2, m2k 541 (by omega), m2k 542 (by omega)]
        exact ⟨rfl, rfl⟩
      · obtain ⟨w1, w2, w3⟩ := l4.2.2.1 i hi
        rw [m6s 544 (by omega) (by omega) (by omega), m6s 545 (by omega) (by omega) (by omega), m6s 546 (by omega) (by omega) (by omega), w1, w2, w3, m2k 544 (by omega), m2k 545 (by omega), m2k 546 (by omega)]
        exact ⟨rfl, rfl, rfl⟩
      · rw [m63, if_neg (by omega)]
    have c506 : c5.1 0 6 = nI R := by
      rw [c50, if_neg (by omega)]
      exact r2
    rw [t1, a1, br_some, nm_eq, ← e2, hread, bw_some, nm_eq, ← em1, d1, br_some, l2]
    rcases l5 with ⟨F, F0, F4, rfl, x2⟩ | ⟨rfl, x2, e, q, hrc5, hkm5⟩
    · rw [if_neg (nz_nI F0 (by omega)), f1 F F0 F4 x2]
      exact ⟨_, _, _, _, rfl, rfl, R, H, O, hrl⟩
    · have hrule : RuleR R c5 m6 := hrc5.rule hkm5 (by rw [m63, if_pos rfl]) m6s
      have hmore := hrl.more hR hrule
      have hok : okRb (L ++ nR (400 + 10 * R + 10)) (400 + 10 * R) = true := okRb_mono (fun x hx => List.mem_append_left _ hx) (r6 R (Nat.le_refl R))
      have hq5 : c5.2.2 40 1 = some (400 + 10 * R) := by
        rw [c52]
        exact r5
      have hhand : fX5_handOver L c5 = some (some (400 + 10 * R), L ++ nR (400 + 10 * R + 10), uq (zr c5 (400 + 10 * R + 10) 8) 40 1 (some (400 + 10 * R + 10))) := by
        unfold fX5_handOver
        rw [hq5, br_some, r6 R (Nat.le_refl R), gd_tt, gp_t (fr_new hrl hR)]
      have hz0 : (uq (uq (zr c5 (400 + 10 * R + 10) 8) 40 1 (some (400 + 10 * R + 10))) 6 R (some (400 + 10 * R))).1 0 6 = nI R := by
        show (zr c5 (400 + 10 * R + 10) 8).1 0 6 = _
        rw [(zr_out (by omega)).1]
        exact c506
      rw [if_pos rfl, hhand, f2 x2]
      simp (disch := omega) only [b3, br_some, hok, gd_tt, c506, gd_ix, cl_nI, ↓nm_eq, hz0, nI_add, ui_rd, if_true, sub1_nI]
      exact ⟨_, _, _, _, rfl, rfl, R + 1, H, O, hmore⟩
  · rw [if_neg hR, if_pos (by omega)]
    exact ⟨_, L, c, m, rfl, rfl, hRel⟩
