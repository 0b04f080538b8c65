/-! a duchy is told -/
theorem settle_v {c : St} (h0 : c.1 100 0 = nI 0 ∨ c.1 100 0 = nI 1) : ∃ c1, fX2_settle 120 100 c = some c1 ∧ (∀ i, i < 8 → c1.1 134 i = c.1 100 i) ∧ (∀ i, i < 8 → c1.1 143 i = c.1 109 i ∧ c1.1 144 i = c.1 110 i) ∧ (∀ i, i < 3 → c1.1 145 i = c.1 111 i) ∧ (∀ i, i < 6 → c1.1 146 i = c.1 112 i) ∧ (∀ i, i < 41 → c1.1 147 i = c.1 113 i ∧ c1.1 122 i = c.1 113 i) ∧ c1.1 120 3 = nI 0 ∧ c1.1 120 7 = nI 0 ∧ (∀ i, i ≠ 3 → i ≠ 7 → c1.1 120 i = c.1 120 i) ∧ (∀ k, k < 120 ∨ 148 ≤ k → c1.1 k = c.1 k) ∧ c1.2 = c.2 := by
  obtain ⟨s2, l1, l2, l3, l4, l5, l6, l7, l8⟩ := land_copy (b := 134) (o := 100) (c := c) (by omega) h0
  obtain ⟨s3, e3⟩ : ∃ s, s = ur s2 122 (va_cpy (s2.1 113) (s2.1 122) 0 0 41) := ⟨_, rfl⟩
  have f3 : ∀ k, k ≠ 122 → s3.1 k = s2.1 k := fun k hk => by rw [e3, ur_ne hk]
  obtain ⟨c1, e4⟩ : ∃ s, s = ui (ui s3 120 3 (nI 0)) 120 7 (nI 0) := ⟨_, rfl⟩
  have f4 : ∀ k, k ≠ 120 → c1.1 k = s3.1 k := fun k hk => by rw [e4, ui_ne hk, ui_ne hk]
  refine ⟨c1, ?_, fun i hi => ?_, fun i hi => ⟨?_, ?_⟩, fun i hi => ?_, fun i hi => ?_, fun i hi => ⟨?_, ?_⟩, ?_, ?_, fun i i1 i2 => ?_, fun k hk => ?_, ?_⟩
  · unfold fX2_settle
    simp only [Nat.reduceAdd, lit_nI]
    rw [l1, br_some, nm_eq, ← e3, nm_eq, nm_eq, ← e4]
  · rw [f4 134 (by omega), f3 134 (by omega)]
    exact l2 i hi
  · rw [f4 143 (by omega), f3 143 (by omega)]
    exact (l3 i hi).1
  · rw [f4 144 (by omega), f3 144 (by omega)]
    exact (l3 i hi).2
  · rw [f4 145 (by omega), f3 145 (by omega)]
    exact l4 i hi
  · rw [f4 146 (by omega), f3 146 (by omega)]
    exact l5 i hi
  · rw [f4 147 (by omega), f3 147 (by omega)]
    exact l6 i hi
  · rw [f4 122 (by omega), e3, ur_eq, pk_cpy_in (by omega) (by omega), l7 113 (by omega), show 0 + (i - 0) = i by omega]
  · rw [e4, ui_rd, if_pos rfl, if_neg (by omega), ui_rd, if_pos rfl, if_pos rfl]
  · rw [e4, ui_rd, if_pos rfl, if_pos rfl]
  · rw [e4, ui_rd, if_pos rfl, if_neg i2, ui_rd, if_pos rfl, if_neg i1, f3 120 (by omega), l7 120 (by omega)]
  · rw [f4 k (by omega), f3 k (by omega), l7 k (by omega)]
  · rw [e4, e3]
    exact l8
theorem duchy_fin {H O N Z H0 O0 R : Nat} {c m cA mA : St} (hd : DR H O N Z c m) (h502 : m.1 502 = mA.1 502) (hp : PageR H0 O0 R 120 cA mA) (hcA : c.1 120 = cA.1 120) : ∃ c1 m1, fX2_settle 120 100 c = some c1 ∧ fX10_duchy_L21 10000 (nI 0) m = some (nI H, m1) ∧ c1.1 134 4 = nI H ∧ PageR H O R 120 c1 m1 ∧ (∀ k, k < 120 ∨ 148 ≤ k → c1.1 k = c.1 k) ∧ c1.2 = c.2 ∧ (∀ x, x ≠ 28 → x ≠ 52 → m1.1 500 x = m.1 500 x) ∧ (∀ k, k < 500 ∨ k = 501 ∨ (513 ≤ k ∧ k ≤ 515) ∨ 520 ≤ k → m1.1 k = m.1 k) ∧ m1.2 = m.2 := by
  obtain ⟨⟨q1, q1b, q1c, q1d⟩, ⟨q2, q2a, q2b, q2c⟩, ⟨q3, q4, q5, q6, q6a, q6b, q6c, q6d⟩, ⟨⟨w0, w01, w02⟩, w1, w11, w12⟩, q8, q9, q10, q11, q12, q13⟩ := hd
  obtain ⟨c1, s1, s2, s3, s4, s5, s6, s7, s8, s9, s10, s11⟩ := settle_v (c := c) (Or.inr q2)
  obtain ⟨mB, b1, b2, b3, b4, b5⟩ := du21 10 0 10000 m (by omega) (by omega) rfl
  obtain ⟨m1, d1, d2, d3, d4, d5, d6, d7, d8, d9, d10, d11⟩ := dfin_v mB
  have b2 : ∀ x, 0 ≤ x → x < 10 → mB.1 502 x = if x < 6 then m.1 520 x else nI 0 := b2
  have e502 : ∀ x, x < 6 → m1.1 502 x = m.1 520 x := fun x hx => by
    rw [d2 x (by omega) (by omega) (by omega), b2 x (by omega) (by omega), if_pos hx]
  have e9 : m1.1 502 9 = nI 0 := by
    rw [d2 9 (by omega) (by omega) (by omega), b2 9 (by omega) (by omega), if_neg (by omega)]
  have e10 : ∀ x, 10 ≤ x → m1.1 502 x = mA.1 502 x := fun x hx => by
    rw [d2 x (by omega) (by omega) (by omega), b3 x (by omega), h502]
  have e8 : ∀ x, x < 8 → m1.1 516 x = m.1 521 x ∧ m1.1 517 x = m.1 522 x ∧ m1.1 505 x = m.1 523 x ∧ m1.1 518 x = m.1 524 x ∧ m1.1 507 x = m.1 525 x ∧ m1.1 503 x = m.1 521 x ∧ m1.1 504 x = m.1 522 x ∧ m1.1 506 x = m.1 524 x ∧ m1.1 508 x = -nI 1 := fun x hx => by
    have := d4 x hx
    rw [b4 521 (by omega), b4 522 (by omega), b4 523 (by omega), b4 524 (by omega), b4 525 (by omega)] at this
    exact this
  have e3 : ∀ x, x < 3 → m1.1 519 x = m.1 526 x ∧ m1.1 510 x = m.1 527 x ∧ m1.1 509 x = m.1 526 x ∧ m1.1 511 x = nI 0 := fun x hx => by
    have := d5 x hx
    rw [b4 526 (by omega), b4 527 (by omega)] at this
    exact this
  have e512 : ∀ x, x < 100 → m1.1 512 x = m.1 528 x := fun x hx => by rw [d6 x hx, b4 528 (by omega)]
  have p8 := p2_8 q1
  have hrow : RowOK H O 0 (c1.1 122) m1 := by
    refine ⟨⟨fun h hh => ?_, fun q hq => ?_, ?_, ?_, ?_, fun q h1 h2 => ?_⟩, ⟨fun h k hh hk => ?_, fun q hq => ?_⟩, fun h hh => ?_, ⟨fun h hh => ?_, fun q hq => ?_, ⟨0, by omega, d3 7 (by omega)⟩, ⟨w0, w01, ?_⟩, ⟨w1, w11, ?_⟩⟩, d3 6 (by omega)⟩
    · obtain ⟨r1, r2, r3, r4, r5, r6, r7, r8, r9, r10⟩ := q8 h hh
      obtain ⟨t1, t2, t3, t4, t5, t6, t7, t8, t9⟩ := e8 h (by omega)
      rw [(s6 h (by omega)).2, (s6 (8 + h) (by omega)).2, (s6 (16 + h) (by omega)).2, (s6 (24 + h) (by omega)).2, t6, t7, t8, t9]
      exact ⟨r1, r2, r4, r6⟩
    · obtain ⟨t1, t2, t3, t4⟩ := e3 q (by omega)
      rw [(s6 (32 + q) (by omega)).2, (s6 (35 + q) (by omega)).2, t3, t4]
      exact ⟨(q10 q hq).1, q11 (35 + q) (by omega) (by omega)⟩
    · rw [(s6 38 (by omega)).2, d3 7 (by omega)]
      exact q11 38 (by omega) (by omega)
    · rw [(s6 39 (by omega)).2, d3 6 (by omega)]
      exact q11 39 (by omega) (by omega)
    · rw [(s6 40 (by omega)).2, d3 8 (by omega)]
      exact q11 40 (by omega) (by omega)
    · rw [(s6 (35 + q) (by omega)).2]
      exact q11 (35 + q) (by omega) (by omega)
    · rw [(e8 h (by omega)).2.2.2.2.1, (e8 k (by omega)).2.2.2.2.1]
      exact q13 h k hh hk
    · rw [(e3 q (by omega)).2.2.1]
      exact (q10 q hq).2.2.1
    · rw [(e8 h (by omega)).2.2.2.2.2.1, (e8 h (by omega)).2.2.1]
      exact ⟨(q8 h hh).2.2.2.2.2.2.1, (q8 h hh).2.2.2.2.2.2.2.1⟩
    · obtain ⟨r1, r2, r3, r4, r5, r6, r7, r8, r9, w, r10, r11⟩ := q8 h hh
      obtain ⟨t1, t2, t3, t4, t5, t6, t7, t8, t9⟩ := e8 h (by omega)
      rw [t8, t5, t9]
      exact ⟨r9, ⟨w, by omega, r11⟩, Or.inl rfl⟩
    · obtain ⟨t1, t2, t3, t4⟩ := e3 q (by omega)
      obtain ⟨-, -, -, s, u1, u2⟩ := q10 q hq
      exact ⟨0, s, by omega, u1, t4, by rw [t2]; exact u2⟩
    · rw [e502 0 (by omega)]
      exact w02
    · rw [e502 1 (by omega)]
      exact w12
  have hbv : RowOK H O 0 (c1.1 147) (bv m1) := by
    refine hrow.cg q1 q1b (fun i hi => by rw [(s6 i hi).1, (s6 i hi).2]) (fun k hk => ?_) (fun q hq => ?_) (fun j j1 j2 => ?_) (fun k hk => ⟨rfl, rfl⟩) (fun q hq => rfl) rfl rfl
    · obtain ⟨t1, t2, t3, t4, t5, t6, t7, t8, t9⟩ := e8 k hk
      refine ⟨?_, ?_, ?_, ?_⟩
      · show m1.1 516 k = _
        rw [t1, t6]
      · show m1.1 517 k = _
        rw [t2, t7]
      · show m1.1 518 k = _
        rw [t4, t8]
      · show -nI 1 = _
        rw [t9]
    · obtain ⟨t1, t2, t3, t4⟩ := e3 q hq
      refine ⟨?_, ?_⟩
      · show m1.1 519 q = _
        rw [t1, t3]
      · show nI 0 = _
        rw [t4]
    · rcases (show j = 6 ∨ j = 7 ∨ j = 8 by omega) with rfl | rfl | rfl
      · show nI 0 = _
        rw [d3 6 (by omega)]
      · show nI 0 = _
        rw [d3 7 (by omega)]
      · show nI 0 = _
        rw [d3 8 (by omega)]
  obtain ⟨-, -, -, -, -, -, -, ⟨h13, h14⟩, h15, h16⟩ := hp
  refine ⟨c1, m1, s1, ?_, by rw [s2 4 (by omega)]; exact q3, ⟨⟨?_, ?_, Or.inr d7⟩, ⟨q1, q1b, ?_, ?_, ?_, ?_, ?_, ?_, ?_, fun h hh => ⟨?_, ?_⟩, fun q hq => ?_⟩, ⟨N, q1c, ?_, fun k hk => ?_⟩, ⟨0, by omega, hrow⟩, ⟨0, by omega, s7, d8, fun i hi => by omega⟩, hbv, ⟨0, by omega, s8, e9, fun i hi => by omega⟩, ⟨?_, ?_⟩, ?_, ?_⟩, s10, s11, ?_, ?_, ?_⟩
  · rw [b1, d1, b2 3 (by omega) (by omega), if_pos (by omega), q4]
  · rw [s2 0 (by omega), d7]
    exact q2
  · rw [s2 1 (by omega), e502 0 (by omega)]
    exact q2a
  · rw [s2 2 (by omega), e502 1 (by omega)]
    exact q2b
  · rw [s2 3 (by omega), e502 2 (by omega)]
    exact q2c
  · rw [s2 4 (by omega)]
    exact q3
  · rw [e502 3 (by omega)]
    exact q4
  · rw [s2 5 (by omega), e502 4 (by omega), q5, q6]
  · rw [s2 6 (by omega)]
    exact q6a
  · rw [e502 5 (by omega)]
    exact q6b
  · rw [(s3 h (by omega)).1, (e8 h (by omega)).2.2.1]
    exact (q8 h hh).2.2.1
  · rw [(s3 h (by omega)).2, (e8 h (by omega)).2.2.2.2.1]
    exact (q8 h hh).2.2.2.2.1
  · rw [s4 q (by omega), (e3 q (by omega)).2.1]
    exact (q10 q hq).2.1
  · rw [s2 7 (by omega)]
    exact q6c
  · refine Iff.trans ?_ ((q12 k hk).trans ?_)
    · constructor
      · rintro ⟨j, j1, j2⟩
        refine ⟨j, j1, ?_⟩
        rw [s5 j (by omega)] at j2
        exact j2
      · rintro ⟨j, j1, j2⟩
        refine ⟨j, j1, ?_⟩
        rw [s5 j (by omega)]
        exact j2
    · constructor
      · rintro ⟨j1, j2⟩
        exact ⟨j1, by rw [e512 k j1]; exact j2⟩
      · rintro ⟨j1, j2⟩
        rw [e512 k j1] at j2
        exact ⟨j1, j2⟩
  · rw [s9 8 (by omega) (by omega), hcA, e10 11 (by omega)]
    exact h13
  · rw [e10 11 (by omega)]
    exact h14
  · rw [s9 9 (by omega) (by omega), hcA, e10 10 (by omega)]
    exact h15
  · rw [e10 10 (by omega)]
    exact h16
  · intro x x1 x2
    rw [d9 x x1 x2, b4 500 (by omega)]
  · intro k hk
    rw [d10 k hk, b4 k (by omega)]
  · rw [d11, b5]
/-- the two sides' texts -/
theorem text_v {R H O : Nat} {L : List Nat} {c m : St} (h : RelP R H O L c m) : ∃ t T, c.1 0 1 = nI T ∧ TC t T c ∧ TM t T m := by
  obtain ⟨⟨T, T4, t1, t2, t3⟩, -⟩ := h
  refine ⟨fun i => (c.1 1 i).toNatClampNeg, T, t1, ⟨T4, fun i hi => ?_⟩, T4, t2, fun i hi => ?_⟩
  · obtain ⟨b, b1, b2, b3⟩ := t3 i hi
    simp only
    rw [b2, cl_nI (by omega)]
    exact ⟨b1, rfl⟩
  · obtain ⟨b, b1, b2, b3⟩ := t3 i hi
    simp only
    rw [b2, cl_nI (by omega)]
    exact ⟨b1, b3⟩
theorem RelP.empty {R H O : Nat} {L : List Nat} {c m : St} (h : RelP R H O L c m) : RelP R H O L (ui c 0 1 (nI 0)) (ui m 500 29 (nI 0)) := by
  refine h.tape ⟨fun k k0 k1 => ui_ne k0, fun i hi => by rw [ui_rd, if_pos rfl, if_neg hi], rfl⟩ ⟨fun s x s1 s2 => ?_, rfl⟩ ⟨0, by omega, by rw [ui_rd, if_pos rfl, if_pos rfl], by rw [ui_rd, if_pos rfl, if_pos rfl], fun i hi => by omega⟩
  rw [ui_rd]
  by_cases e : s = 500
  · rw [if_pos e, if_neg (by omega)]
  · rw [if_neg e]
theorem starts_v (m : St) : ∃ m1, fX10_starts m = some m1 ∧ m1.1 500 30 = nI 0 ∧ m1.1 500 31 = nI 0 ∧ m1.1 500 34 = nI 0 ∧ m1.1 500 35 = nI 0 ∧ m1.1 500 36 = nI 0 ∧ (∀ x, x ≠ 30 → x ≠ 31 → x ≠ 34 → x ≠ 35 → x ≠ 36 → m1.1 500 x = m.1 500 x) ∧ (∀ k, k ≠ 500 → m1.1 k = m.1 k) ∧ m1.2 = m.2 := by
  refine ⟨ui (ui (ui (ui (ui m 500 30 (nI 0)) 500 31 (nI 0)) 500 34 (nI 0)) 500 35 (nI 0)) 500 36 (nI 0), ?_, ?_, ?_, ?_, ?_, ?_, fun x h1 h2 h3 h4 h5 => ?_, fun k hk => ?_, rfl⟩
  · unfold fX10_starts
    simp only [lit_nI, nm_eq]
  · simp only [ui_rd, if_true, Nat.reduceEqDiff, if_false]
  · simp only [ui_rd, if_true, Nat.reduceEqDiff, if_false]
  · simp only [ui_rd, if_true, Nat.reduceEqDiff, if_false]
  · simp only [ui_rd, if_true, Nat.reduceEqDiff, if_false]
  · simp only [ui_rd, if_true]
  · simp only [ui_rd, if_true, h1, h2, h3, h4, h5, if_false]
  · rw [ui_ne hk, ui_ne hk, ui_ne hk, ui_ne hk, ui_ne hk]
theorem LK.start {t : Nat → Nat} {T S : Nat} {pos : Nat → Nat} {c c1 m m1 : St} (hk : TK t T c S pos) (hu : Cu c 0) (hc : ∀ k, 20 ≤ k → k ≤ 23 → c1.1 k = c.1 k) (hm : TM t T m) (h29 : m1.1 500 29 = m.1 500 29) (h540 : m1.1 540 = m.1 540) (h30 : m1.1 500 30 = nI 0) : LK t T S pos 0 0 c1 m1 := by
  have e20 := hc 20 (by omega) (by omega)
  refine ⟨hk.cs (fun k k1 k2 => hc k (by omega) k2) (by rw [e20]), ?_, by omega, ⟨hm.1, by rw [h29]; exact hm.2.1, by rw [h540]; exact hm.2.2⟩, h30, by omega, hk.2.2.2.1.symm⟩
  unfold Cu
  rw [e20, hc 21 (by omega) (by omega), hc 22 (by omega) (by omega), hc 23 (by omega) (by omega)]
  exact hu
theorem sk_2 : Sk_2 Rel := by
  rintro L c m ⟨R, H, O, h⟩
  obtain ⟨t, T, t1, tc, tm⟩ := text_v h
  have hT := tm.1
  obtain ⟨c1, S, pos, a1, a2, a3, a4⟩ := read_v tc
  obtain ⟨c2, b1, b2, b3, b4, b5, b6⟩ := clear_v (ui c1 0 1 (nI 0))
  obtain ⟨c3, e3⟩ : ∃ s, s = ui (ui c2 100 0 (nI 1)) 30 2 (nI 0) := ⟨_, rfl⟩
  obtain ⟨m2, d1, d2, d3, d4, d5, d6, d7, d8, d9⟩ := starts_v m
  obtain ⟨m3, f1, f2, f3, f4, f5⟩ := rd6 7 0 10000 m2 (by omega) (by omega)
  obtain ⟨m4, g1, g2, g3, g4, g5⟩ := rd27 100 0 10000 m3 (by omega) (by omega)
  have c3k : ∀ k, k ≠ 30 → k ≠ 100 → k ≠ 110 → k ≠ 113 → c3.1 k = (ui c1 0 1 (nI 0)).1 k := fun k h1 h2 h3 h4 => by rw [e3, ui_ne h1, ui_ne h2, b5 k h2 h3 h4]
  have m4k : ∀ k, k ≠ 528 → k ≠ 520 → m4.1 k = m2.1 k := fun k h1 h2 => by rw [g4 k h1, f4 k h2]
  have e520 : ∀ x, x < 7 → m4.1 520 x = nI 0 := fun x hx => by rw [g4 520 (by omega), f2 x (by omega) hx]
  have e100 : ∀ x, 1 ≤ x → x < 8 → c3.1 100 x = nI 0 := fun x h1 h2 => by rw [e3, ui_ne (by omega), ui_rd, if_pos rfl, if_neg (by omega), b2 x h2]
  have e113 : ∀ x, x < 41 → c3.1 113 x = nI 0 := fun x hx => by rw [e3, ui_ne (by omega), ui_ne (by omega), b4 x hx]
  have e110 : ∀ x, x < 8 → c3.1 110 x = nI 0 := fun x hx => by rw [e3, ui_ne (by omega), ui_ne (by omega), b3 x hx]
  have hlk : LK t T S pos 0 0 c3 m4 := LK.start (m := m) a2 a3 (fun k k1 k2 => by rw [c3k k (by omega) (by omega) (by omega) (by omega), ui_ne (by omega)]) tm (by rw [m4k 500 (by omega) (by omega), d7 29 (by omega) (by omega) (by omega) (by omega) (by omega)]) (by rw [m4k 540 (by omega) (by omega), d8 540 (by omega)]) (by rw [m4k 500 (by omega) (by omega)]; exact d2)
  have h31 : m4.1 500 31 = nI 0 := by
    rw [m4k 500 (by omega) (by omega)]
    exact d3
  have hdr : DR 0 0 0 0 c3 m4 := by
    refine ⟨⟨by omega, by omega, by omega, by omega⟩, ⟨?_, ?_, ?_, ?_⟩, ⟨?_, ?_, ?_, ?_, ?_, ?_, ?_, ?_⟩, ⟨⟨0, by omega, e520 0 (by omega)⟩, 0, by omega, e520 1 (by omega)⟩, fun x hx => by omega, fun x h1 h2 => ⟨e113 _ (by omega), e110 x h2⟩, fun x hx => by omega, fun x h1 h2 => e113 x h2, fun k hk => ?_, fun x k hx => by omega⟩
    · rw [e3, ui_ne (by omega), ui_rd, if_pos rfl, if_pos rfl]
    · rw [e100 1 (by omega) (by omega), e520 0 (by omega)]
    · rw [e100 2 (by omega) (by omega), e520 1 (by omega)]
    · rw [e100 3 (by omega) (by omega), e520 2 (by omega)]
    · exact e100 4 (by omega) (by omega)
    · exact e520 3 (by omega)
    · exact e100 5 (by omega) (by omega)
    · exact e520 4 (by omega)
    · exact e100 6 (by omega) (by omega)
    · exact e520 5 (by omega)
    · exact e100 7 (by omega) (by omega)
    · exact e520 6 (by omega)
    · refine ⟨fun ⟨j, j1, _⟩ => by omega, fun ⟨j1, j2⟩ => ?_⟩
      rw [g2 k (by omega) j1, n01] at j2
      exact j2.elim
  obtain ⟨x, c5, m5, l1, l2, l3, l4, l5⟩ := dloop 40 0 10000 10000 0 0 0 0 0 0 c3 m4 (by omega) (by omega) (by omega) hlk h31 hdr
  have hread : fX10_readsAll m = some (ui m5 500 29 (nI 0)) := by
    unfold fX10_readsAll
    simp only [lit_nI]
    rw [d1, br_some, f1, g1, l2]
  have hcr : fX0_read (ui c1 0 1 (nI 0)) = some (x, c5) := by
    unfold fX0_read
    simp only [lit_nI]
    rw [b1, br_some, nm_eq, nm_eq, ← e3, l1]
  have hrel := h.empty
  have k5 : ∀ k, k ≤ 1 ∨ 120 ≤ k → c5.1 k = (ui c 0 1 (nI 0)).1 k := by
    intro k hk
    rw [l3.1 k (by omega), c3k k (by omega) (by omega) (by omega) (by omega)]
    by_cases e : k = 0
    · subst e
      funext i
      rw [ui_rd, ui_rd, a4.1 0 (by omega)]
    · rw [ui_ne e, ui_ne e, a4.1 k (by omega)]
  have k52 : c5.2 = c.2 := by
    rw [l3.2, e3]
    show c2.2 = c.2
    rw [b6]
    show c1.2 = c.2
    rw [a4.2]
  have m5k : ∀ k i, ¬ (520 ≤ k ∧ k ≤ 528) → ¬ (k = 500 ∧ (i = 29 ∨ i = 30 ∨ i = 31 ∨ i = 34 ∨ i = 35 ∨ i = 36)) → (ui m5 500 29 (nI 0)).1 k i = (ui m 500 29 (nI 0)).1 k i := by
    intro k i h1 h2
    rw [ui_rd, ui_rd, l4.1 k i h1 (by omega), m4k k (by omega) (by omega)]
    by_cases e : k = 500
    · subst e
      rw [if_pos rfl, if_pos rfl, if_neg (by omega), if_neg (by omega), d7 i (by omega) (by omega) (by omega) (by omega) (by omega)]
    · rw [if_neg e, if_neg e, d8 k e]
  have m529 : (ui m5 500 29 (nI 0)).1 500 29 = (ui m 500 29 (nI 0)).1 500 29 := by
    rw [ui_rd, ui_rd, if_pos rfl, if_pos rfl, if_pos rfl, if_pos rfl]
  have e31' : (ui m5 500 29 (nI 0)).1 500 31 = m5.1 500 31 := by
    rw [ui_rd, if_pos rfl, if_neg (by omega)]
  unfold fX9_duchy fX10_duchy
  simp only [lit_nI]
  rw [t1, a1, br_some, nm_eq, hcr, bw_some, hread, br_some, e31']
  rcases l5 with ⟨F, F0, F4, rfl, x2⟩ | ⟨rfl, x2, H1, O1, N1, Z1, hd1⟩
  · rw [x2, if_neg (nz_nI F0 (by omega)), if_neg (by rw [le_nI (by omega) (by omega)]; omega)]
    refine ⟨_, _, _, rfl, rfl, R, H, O, hrel.sc ⟨k5, fun k _ => by rw [k52]; rfl, fun i r e => ⟨50, i, by rw [k52] at e; exact e⟩⟩ ⟨⟨m5k 500 28 (by omega) (by omega), m5k 500 52 (by omega) (by omega), fun s i hi => ?_⟩, ⟨m529, m5k 500 33 (by omega) (by omega), m5k 500 38 (by omega) (by omega), m5k 500 49 (by omega) (by omega)⟩, fun s s1 s2 => funext (fun i => m5k s i (by omega) (by omega)), fun i _ => m5k 559 i (by omega) (by omega), funext (fun i => m5k 560 i (by omega) (by omega)), funext (fun i => m5k 561 i (by omega) (by omega))⟩⟩
    have := lenM_s hi
    exact m5k s i (by omega) (by omega)
  · rw [x2, if_pos rfl, if_pos (by decide)]
    have hd2 : DR H1 O1 N1 Z1 c5 (ui m5 500 29 (nI 0)) := hd1.cg (fun _ _ _ => rfl) (fun k k1 k2 => ui_ne (by omega))
    obtain ⟨c6, m6, p1, p2, p3, p4, p5, p6, p7, p8, p9⟩ := duchy_fin (cA := ui c 0 1 (nI 0)) (mA := ui m 500 29 (nI 0)) hd2 (funext (fun i => m5k 502 i (by omega) (by omega))) hrel.2.2.2.1 (k5 120 (by omega))
    rw [p1, p2, br_some, p3]
    refine ⟨_, _, _, rfl, rfl, R, H1, O1, hrel.page (CP.of (fun k hk => ?_) (by rw [p6, k52]; rfl)) ⟨⟨?_, ?_, ?_, ?_⟩, fun s s1 s2 => funext (fun i => ?_), fun i _ => ?_, funext (fun i => ?_), funext (fun i => ?_)⟩ p4⟩
    · rw [p5 k (by omega), k5 k (by omega)]
    · rw [p7 29 (by omega) (by omega), m529]
    · rw [p7 33 (by omega) (by omega), m5k 500 33 (by omega) (by omega)]
    · rw [p7 38 (by omega) (by omega), m5k 500 38 (by omega) (by omega)]
    · rw [p7 49 (by omega) (by omega), m5k 500 49 (by omega) (by omega)]
    · rw [p8 s (by omega), m5k s i (by omega) (by omega)]
    · rw [p8 559 (by omega), m5k 559 i (by omega) (by omega)]
    · rw [p8 560 (by omega), m5k 560 i (by omega) (by omega)]
    · rw [p8 561 (by omega), m5k 561 i (by omega) (by omega)]
