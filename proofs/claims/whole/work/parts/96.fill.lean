/-! rows that are filled -/
def Fl (a i n : Nat) (v : Nat → Int32) (c c1 : St) : Prop := (∀ x, i ≤ x → x < n → c1.1 a x = v x) ∧ (∀ x, x < i ∨ n ≤ x → c1.1 a x = c.1 a x) ∧ (∀ k, k ≠ a → c1.1 k = c.1 k) ∧ c1.2 = c.2
theorem Fl.fin {a n : Nat} {v : Nat → Int32} {c : St} : Fl a n n v c c := ⟨fun x h1 h2 => by omega, fun _ _ => rfl, fun _ _ => rfl, rfl⟩
theorem Fl.step {a i n : Nat} {v : Nat → Int32} {w : Int32} {c c1 : St} (h : Fl a (i + 1) n v (ui c a i w) c1) (hw : w = v i) (hi : i < n) : Fl a i n v c c1 := by
  obtain ⟨h1, h2, h3, h4⟩ := h
  refine ⟨fun x x1 x2 => ?_, fun x hx => ?_, fun k hk => by rw [h3 k hk, ui_ne hk], h4⟩
  · by_cases e : x = i
    · subst e
      rw [h2 x (by omega), ui_rd, if_pos rfl, if_pos rfl, hw]
    · exact h1 x (by omega) x2
  · rw [h2 x (by omega), ui_rd, if_pos rfl, if_neg (by omega)]
theorem clr63 : ∀ (d i n : Nat) (c : St), i + d = 41 → d < n → ∃ c1, fX1_clear_L63 100 n (nI i) c = some c1 ∧ Fl 113 i 41 (fun _ => nI 0) c c1 := by
  intro d
  induction d with
  | zero =>
    intro i n c hi hn
    obtain ⟨n, rfl⟩ : ∃ j, n = j + 1 := ⟨n - 1, by omega⟩
    have e : i = 41 := by omega
    subst e
    refine ⟨c, ?_, Fl.fin⟩
    rw [fX1_clear_L63, if_pos (by decide)]
  | succ d ih =>
    intro i n c hi hn
    obtain ⟨n, rfl⟩ : ∃ j, n = j + 1 := ⟨n - 1, by omega⟩
    obtain ⟨c1, a1, a2⟩ := ih (i + 1) n (ui c 113 i (nI 0)) (by omega) (by omega)
    refine ⟨c1, ?_, a2.step rfl (by omega)⟩
    rw [fX1_clear_L63]
    simp (disch := omega) only [lit_nI, le_nI, gd_ix, cl_nI, nm_eq, nI_add, Nat.reduceAdd]
    rw [if_neg (by omega), a1]
theorem clr42 : ∀ (d i n : Nat) (c : St), i + d = 8 → d < n → ∃ c1, fX1_clear_L42 100 n (nI i) c = fX1_clear_L63 100 10000 (nI 0) c1 ∧ Fl 110 i 8 (fun _ => nI 0) c c1 := by
  intro d
  induction d with
  | zero =>
    intro i n c hi hn
    obtain ⟨n, rfl⟩ : ∃ j, n = j + 1 := ⟨n - 1, by omega⟩
    have e : i = 8 := by omega
    subst e
    refine ⟨c, ?_, Fl.fin⟩
    rw [fX1_clear_L42, if_pos (by decide)]
    rfl
  | succ d ih =>
    intro i n c hi hn
    obtain ⟨n, rfl⟩ : ∃ j, n = j + 1 := ⟨n - 1, by omega⟩
    obtain ⟨c1, a1, a2⟩ := ih (i + 1) n (ui c 110 i (nI 0)) (by omega) (by omega)
    refine ⟨c1, ?_, a2.step rfl (by omega)⟩
    rw [fX1_clear_L42]
    simp (disch := omega) only [lit_nI, le_nI, gd_ix, cl_nI, nm_eq, nI_add, Nat.reduceAdd]
    rw [if_neg (by omega), a1]
theorem clear_v (c : St) : ∃ c1, fX1_clear 100 c = some c1 ∧ (∀ i, i < 8 → c1.1 100 i = nI 0) ∧ (∀ i, i < 8 → c1.1 110 i = nI 0) ∧ (∀ i, i < 41 → c1.1 113 i = nI 0) ∧ (∀ k, k ≠ 100 → k ≠ 110 → k ≠ 113 → c1.1 k = c.1 k) ∧ c1.2 = c.2 := by
  obtain ⟨s, es⟩ : ∃ s, s = ui (ui (ui (ui (ui (ui (ui (ui c 100 0 (nI 0)) 100 1 (nI 0)) 100 2 (nI 0)) 100 3 (nI 0)) 100 4 (nI 0)) 100 5 (nI 0)) 100 6 (nI 0)) 100 7 (nI 0) := ⟨_, rfl⟩
  obtain ⟨c1, a1, a2, a3, a4, a5⟩ := clr42 8 0 10000 s (by omega) (by omega)
  obtain ⟨c2, b1, b2, b3, b4, b5⟩ := clr63 41 0 10000 c1 (by omega) (by omega)
  have h2 : s.2 = c.2 := by
    rw [es]
    rfl
  refine ⟨c2, ?_, fun i hi => ?_, fun i hi => ?_, fun i hi => b2 i (by omega) hi, fun k k1 k2 k3 => ?_, b5.trans (a5.trans h2)⟩
  · unfold fX1_clear
    simp only [lit_nI, nm_eq]
    rw [← es, a1, b1]
  · rw [b4 100 (by omega), a4 100 (by omega), es]
    simp only [ui_rd, if_true]
    rcases (show i = 0 ∨ i = 1 ∨ i = 2 ∨ i = 3 ∨ i = 4 ∨ i = 5 ∨ i = 6 ∨ i = 7 by omega) with rfl | rfl | rfl | rfl | rfl | rfl | rfl | rfl <;> simp only [Nat.reduceEqDiff, if_true, if_false]
  · rw [b4 110 (by omega)]
    exact a2 i (by omega) hi
  · rw [b4 k k3, a4 k k2, es, ui_ne k1, ui_ne k1, ui_ne k1, ui_ne k1, ui_ne k1, ui_ne k1, ui_ne k1, ui_ne k1]
theorem rd27 : ∀ (d i n : Nat) (c : St), i + d = 100 → d < n → ∃ c1, fX10_readsAll_L27 n (nI i) c = fX10_readsAll_L50 10000 (nI 0) (nI 1) c1 ∧ Fl 528 i 100 (fun _ => nI 0) c c1 := by
  intro d
  induction d with
  | zero =>
    intro i n c hi hn
    obtain ⟨n, rfl⟩ : ∃ j, n = j + 1 := ⟨n - 1, by omega⟩
    have e : i = 100 := by omega
    subst e
    refine ⟨c, ?_, Fl.fin⟩
    rw [fX10_readsAll_L27, if_pos (by decide)]
    rfl
  | succ d ih =>
    intro i n c hi hn
    obtain ⟨n, rfl⟩ : ∃ j, n = j + 1 := ⟨n - 1, by omega⟩
    obtain ⟨c1, a1, a2⟩ := ih (i + 1) n (ui c 528 i (nI 0)) (by omega) (by omega)
    refine ⟨c1, ?_, a2.step rfl (by omega)⟩
    rw [fX10_readsAll_L27]
    simp (disch := omega) only [lit_nI, le_nI, gd_ix, cl_nI, nm_eq, nI_add]
    rw [if_neg (by omega), a1]
theorem rd6 : ∀ (d i n : Nat) (c : St), i + d = 7 → d < n → ∃ c1, fX10_readsAll_L6 n (nI i) c = fX10_readsAll_L27 10000 (nI 0) c1 ∧ Fl 520 i 7 (fun _ => nI 0) c c1 := by
  intro d
  induction d with
  | zero =>
    intro i n c hi hn
    obtain ⟨n, rfl⟩ : ∃ j, n = j + 1 := ⟨n - 1, by omega⟩
    have e : i = 7 := by omega
    subst e
    refine ⟨c, ?_, Fl.fin⟩
    rw [fX10_readsAll_L6, if_pos (by decide)]
    rfl
  | succ d ih =>
    intro i n c hi hn
    obtain ⟨n, rfl⟩ : ∃ j, n = j + 1 := ⟨n - 1, by omega⟩
    obtain ⟨c1, a1, a2⟩ := ih (i + 1) n (ui c 520 i (nI 0)) (by omega) (by omega)
    refine ⟨c1, ?_, a2.step rfl (by omega)⟩
    rw [fX10_readsAll_L6]
    simp (disch := omega) only [lit_nI, lt_nI, gd_ix, cl_nI, nm_eq, nI_add]
    rw [if_neg (by omega), a1]
theorem cop_L {a b n : Nat} {v : Nat → Int32} (hab : a ≠ b) (hn1 : n ≤ 100) : ∀ (d i N : Nat) (c : St), i + d = n → d < N → c.1 a = v → ∃ c1, fX10_copies_L2 a n b n N (nI i) c = some c1 ∧ Fl b i n v c c1 := by
  intro d
  induction d with
  | zero =>
    intro i N c hi hn hv
    obtain ⟨N, rfl⟩ : ∃ j, N = j + 1 := ⟨N - 1, by omega⟩
    have e : i = n := by omega
    subst e
    refine ⟨c, ?_, Fl.fin⟩
    rw [fX10_copies_L2, if_pos (by show nI i ≤ nI i; rw [le_nI (by omega) (by omega)]; omega)]
  | succ d ih =>
    intro i N c hi hn hv
    obtain ⟨N, rfl⟩ : ∃ j, N = j + 1 := ⟨N - 1, by omega⟩
    obtain ⟨c1, a1, a2⟩ := ih (i + 1) N (ui c b i (v i)) (by omega) (by omega) (by rw [ui_ne hab]; exact hv)
    refine ⟨c1, ?_, a2.step rfl (by omega)⟩
    rw [fX10_copies_L2, if_neg (by show ¬ nI n ≤ nI i; rw [le_nI (by omega) (by omega)]; omega)]
    simp (disch := omega) only [lit_nI, gd_ix, cl_nI, nm_eq, nI_add, hv]
    exact a1
theorem cop_v {a b n : Nat} (hab : a ≠ b) (hn1 : n ≤ 100) (c : St) : ∃ c1, fX10_copies a n b n c = some c1 ∧ Fl b 0 n (c.1 a) c c1 := cop_L hab hn1 n 0 10000 c (by omega) (by omega) rfl
theorem beg91 : ∀ (d i n : Nat) (c : St), i + d = 3 → d < n → ∃ c1, fX10_begins_L91 n (nI i) c = some c1 ∧ Fl 511 i 3 (fun _ => nI 0) c c1 := by
  intro d
  induction d with
  | zero =>
    intro i n c hi hn
    obtain ⟨n, rfl⟩ : ∃ j, n = j + 1 := ⟨n - 1, by omega⟩
    have e : i = 3 := by omega
    subst e
    refine ⟨c, ?_, Fl.fin⟩
    rw [fX10_begins_L91, if_pos (by decide)]
  | succ d ih =>
    intro i n c hi hn
    obtain ⟨n, rfl⟩ : ∃ j, n = j + 1 := ⟨n - 1, by omega⟩
    obtain ⟨c1, a1, a2⟩ := ih (i + 1) n (ui c 511 i (nI 0)) (by omega) (by omega)
    refine ⟨c1, ?_, a2.step rfl (by omega)⟩
    rw [fX10_begins_L91]
    simp (disch := omega) only [lit_nI, le_nI, gd_ix, cl_nI, nm_eq, nI_add]
    rw [if_neg (by omega), a1]
theorem beg70 : ∀ (d i n : Nat) (c : St), i + d = 8 → d < n → ∃ c1, fX10_begins_L70 n (nI i) c = fX10_begins_L91 10000 (nI 0) c1 ∧ Fl 508 i 8 (fun _ => -nI 1) c c1 := by
  intro d
  induction d with
  | zero =>
    intro i n c hi hn
    obtain ⟨n, rfl⟩ : ∃ j, n = j + 1 := ⟨n - 1, by omega⟩
    have e : i = 8 := by omega
    subst e
    refine ⟨c, ?_, Fl.fin⟩
    rw [fX10_begins_L70, if_pos (by decide)]
    rfl
  | succ d ih =>
    intro i n c hi hn
    obtain ⟨n, rfl⟩ : ∃ j, n = j + 1 := ⟨n - 1, by omega⟩
    obtain ⟨c1, a1, a2⟩ := ih (i + 1) n (ui c 508 i (-nI 1)) (by omega) (by omega)
    refine ⟨c1, ?_, a2.step rfl (by omega)⟩
    rw [fX10_begins_L70]
    simp (disch := omega) only [lit_nI, le_nI, gd_ix, cl_nI, nm_eq, nI_add]
    rw [if_neg (by omega), a1]
/-- the reference's last step -/
noncomputable def dfin (m : St) : Option (Int32 × St) := fX10_duchy_L21 1 (nI 10) m
theorem du21 {v : Nat → Int32} : ∀ (d i n : Nat) (c : St), i + d = 10 → d < n → c.1 520 = v → ∃ c1, fX10_duchy_L21 n (nI i) c = dfin c1 ∧ Fl 502 i 10 (fun x => if x < 6 then v x else nI 0) c c1 := by
  intro d
  induction d with
  | zero =>
    intro i n c hi hn hv
    obtain ⟨n, rfl⟩ : ∃ j, n = j + 1 := ⟨n - 1, by omega⟩
    have e : i = 10 := by omega
    subst e
    refine ⟨c, ?_, Fl.fin⟩
    unfold dfin
    rw [fX10_duchy_L21, if_pos (by decide), fX10_duchy_L21, if_pos (by decide)]
  | succ d ih =>
    intro i n c hi hn hv
    obtain ⟨n, rfl⟩ : ∃ j, n = j + 1 := ⟨n - 1, by omega⟩
    obtain ⟨c1, a1, a2⟩ := ih (i + 1) n (ui c 502 i (if i < 6 then v i else nI 0)) (by omega) (by omega) (by rw [ui_ne (by omega)]; exact hv)
    refine ⟨c1, ?_, a2.step rfl (by omega)⟩
    rw [fX10_duchy_L21]
    by_cases h6 : i < 6
    · rw [if_pos h6] at a1
      simp (disch := omega) only [lit_nI, le_nI, gd_ix, cl_nI, nm_eq, nI_add, hv]
      rw [if_neg (by omega), if_neg (by omega), a1]
    · rw [if_neg h6] at a1
      simp (disch := omega) only [lit_nI, le_nI, gd_ix, cl_nI, nm_eq, nI_add]
      rw [if_neg (by omega), if_pos (by omega), a1]
theorem dfin_v (m : St) : ∃ m1, dfin m = some (m.1 502 3, m1) ∧ (∀ x, x ≠ 6 → x ≠ 7 → x ≠ 8 → m1.1 502 x = m.1 502 x) ∧ (∀ x, x = 6 ∨ x = 7 ∨ x = 8 → m1.1 502 x = nI 0) ∧ (∀ x, x < 8 → m1.1 516 x = m.1 521 x ∧ m1.1 517 x = m.1 522 x ∧ m1.1 505 x = m.1 523 x ∧ m1.1 518 x = m.1 524 x ∧ m1.1 507 x = m.1 525 x ∧ m1.1 503 x = m.1 521 x ∧ m1.1 504 x = m.1 522 x ∧ m1.1 506 x = m.1 524 x ∧ m1.1 508 x = -nI 1) ∧ (∀ x, x < 3 → m1.1 519 x = m.1 526 x ∧ m1.1 510 x = m.1 527 x ∧ m1.1 509 x = m.1 526 x ∧ m1.1 511 x = nI 0) ∧ (∀ x, x < 100 → m1.1 512 x = m.1 528 x) ∧ m1.1 500 28 = nI 1 ∧ m1.1 500 52 = nI 0 ∧ (∀ x, x ≠ 28 → x ≠ 52 → m1.1 500 x = m.1 500 x) ∧ (∀ k, k < 500 ∨ k = 501 ∨ (513 ≤ k ∧ k ≤ 515) ∨ 520 ≤ k → m1.1 k = m.1 k) ∧ m1.2 = m.2 := by
  obtain ⟨s1, a1, x1, y1, f1, g1⟩ := cop_v (a := 521) (b := 516) (n := 8) (by omega) (by omega) m
  obtain ⟨s2, a2, x2, y2, f2, g2⟩ := cop_v (a := 522) (b := 517) (n := 8) (by omega) (by omega) s1
  obtain ⟨s3, a3, x3, y3, f3, g3⟩ := cop_v (a := 523) (b := 505) (n := 8) (by omega) (by omega) s2
  obtain ⟨s4, a4, x4, y4, f4, g4⟩ := cop_v (a := 524) (b := 518) (n := 8) (by omega) (by omega) s3
  obtain ⟨s5, a5, x5, y5, f5, g5⟩ := cop_v (a := 525) (b := 507) (n := 8) (by omega) (by omega) s4
  obtain ⟨s6, a6, x6, y6, f6, g6⟩ := cop_v (a := 526) (b := 519) (n := 3) (by omega) (by omega) s5
  obtain ⟨s7, a7, x7, y7, f7, g7⟩ := cop_v (a := 527) (b := 510) (n := 3) (by omega) (by omega) s6
  obtain ⟨s8, a8, x8, y8, f8, g8⟩ := cop_v (a := 528) (b := 512) (n := 100) (by omega) (by omega) s7
  obtain ⟨u, eu⟩ : ∃ u, u = ui s8 500 28 (nI 1) := ⟨_, rfl⟩
  have fu : ∀ k, k ≠ 500 → u.1 k = s8.1 k := fun k hk => by rw [eu, ui_ne hk]
  obtain ⟨t1, b1, p1, q1, h1, i1⟩ := cop_v (a := 516) (b := 503) (n := 8) (by omega) (by omega) u
  obtain ⟨t2, b2, p2, q2, h2, i2⟩ := cop_v (a := 517) (b := 504) (n := 8) (by omega) (by omega) t1
  obtain ⟨t3, b3, p3, q3, h3, i3⟩ := cop_v (a := 518) (b := 506) (n := 8) (by omega) (by omega) t2
  obtain ⟨t4, b4, p4, q4, h4, i4⟩ := cop_v (a := 519) (b := 509) (n := 3) (by omega) (by omega) t3
  obtain ⟨w, ew⟩ : ∃ w, w = ui (ui (ui t4 502 6 (nI 0)) 502 7 (nI 0)) 502 8 (nI 0) := ⟨_, rfl⟩
  have fw : ∀ k, k ≠ 502 → w.1 k = t4.1 k := fun k hk => by rw [ew, ui_ne hk, ui_ne hk, ui_ne hk]
  obtain ⟨z1, c1, d1, e1, j1, k1⟩ := beg70 8 0 10000 w (by omega) (by omega)
  obtain ⟨z2, c2, d2, e2, j2, k2⟩ := beg91 3 0 10000 z1 (by omega) (by omega)
  have fz : ∀ k, k ≠ 508 → k ≠ 511 → k ≠ 502 → z2.1 k = t4.1 k := fun k h5 h6 h7 => by rw [j2 k h6, j1 k h5, fw k h7]
  have e502 : ∀ x, z2.1 502 x = if x = 8 then nI 0 else if x = 7 then nI 0 else if x = 6 then nI 0 else m.1 502 x := fun x => by
    rw [j2 502 (by omega), j1 502 (by omega), ew, ui_rd, if_pos rfl, ui_rd, if_pos rfl, ui_rd, if_pos rfl, h4 502 (by omega), h3 502 (by omega), h2 502 (by omega), h1 502 (by omega), fu 502 (by omega), f8 502 (by omega), f7 502 (by omega), f6 502 (by omega), f5 502 (by omega), f4 502 (by omega), f3 502 (by omega), f2 502 (by omega), f1 502 (by omega)]
  have u516 : ∀ x, x < 8 → u.1 516 x = m.1 521 x := fun x hx => by
    rw [fu 516 (by omega), f8 516 (by omega), f7 516 (by omega), f6 516 (by omega), f5 516 (by omega), f4 516 (by omega), f3 516 (by omega), f2 516 (by omega), x1 x (by omega) hx]
  have u517 : ∀ x, x < 8 → u.1 517 x = m.1 522 x := fun x hx => by
    rw [fu 517 (by omega), f8 517 (by omega), f7 517 (by omega), f6 517 (by omega), f5 517 (by omega), f4 517 (by omega), f3 517 (by omega), x2 x (by omega) hx, f1 522 (by omega)]
  have u505 : ∀ x, x < 8 → u.1 505 x = m.1 523 x := fun x hx => by
    rw [fu 505 (by omega), f8 505 (by omega), f7 505 (by omega), f6 505 (by omega), f5 505 (by omega), f4 505 (by omega), x3 x (by omega) hx, f2 523 (by omega), f1 523 (by omega)]
  have u518 : ∀ x, x < 8 → u.1 518 x = m.1 524 x := fun x hx => by
    rw [fu 518 (by omega), f8 518 (by omega), f7 518 (by omega), f6 518 (by omega), f5 518 (by omega), x4 x (by omega) hx, f3 524 (by omega), f2 524 (by omega), f1 524 (by omega)]
  have u507 : ∀ x, x < 8 → u.1 507 x = m.1 525 x := fun x hx => by
    rw [fu 507 (by omega), f8 507 (by omega), f7 507 (by omega), f6 507 (by omega), x5 x (by omega) hx, f4 525 (by omega), f3 525 (by omega), f2 525 (by omega), f1 525 (by omega)]
  have u519 : ∀ x, x < 3 → u.1 519 x = m.1 526 x := fun x hx => by
    rw [fu 519 (by omega), f8 519 (by omega), f7 519 (by omega), x6 x (by omega) hx, f5 526 (by omega), f4 526 (by omega), f3 526 (by omega), f2 526 (by omega), f1 526 (by omega)]
  have u510 : ∀ x, x < 3 → u.1 510 x = m.1 527 x := fun x hx => by
    rw [fu 510 (by omega), f8 510 (by omega), x7 x (by omega) hx, f6 527 (by omega), f5 527 (by omega), f4 527 (by omega), f3 527 (by omega), f2 527 (by omega), f1 527 (by omega)]
  have u512 : ∀ x, x < 100 → u.1 512 x = m.1 528 x := fun x hx => by
    rw [fu 512 (by omega), x8 x (by omega) hx, f7 528 (by omega), f6 528 (by omega), f5 528 (by omega), f4 528 (by omega), f3 528 (by omega), f2 528 (by omega), f1 528 (by omega)]
  have ft : ∀ k, k ≠ 503 → k ≠ 504 → k ≠ 506 → k ≠ 509 → t4.1 k = u.1 k := fun k a b c d => by rw [h4 k d, h3 k c, h2 k b, h1 k a]
  obtain ⟨m1, em⟩ : ∃ s, s = ui z2 500 52 (nI 0) := ⟨_, rfl⟩
  have fm : ∀ k, k ≠ 500 → m1.1 k = z2.1 k := fun k hk => by rw [em, ui_ne hk]
  have hrun : dfin m = some (m1.1 502 3, m1) := by
    have hb : fX10_begins u = some z2 := by
      unfold fX10_begins
      simp only [lit_nI, b1, b2, b3, b4, br_some, nm_eq]
      rw [← ew, c1, c2]
    unfold dfin
    rw [fX10_duchy_L21, if_pos (by decide)]
    simp only [lit_nI, a1, a2, a3, a4, a5, a6, a7, a8, br_some, ↓nm_eq, ← eu, hb, ← em]
  refine ⟨m1, ?_, fun x h6 h7 h8 => ?_, fun x hx => ?_, fun x hx => ?_, fun x hx => ?_, fun x hx => ?_, ?_, ?_, fun x hx1 hx2 => ?_, fun k hk => ?_, ?_⟩
  · rw [hrun, fm 502 (by omega), e502, if_neg (by omega), if_neg (by omega), if_neg (by omega)]
  · rw [fm 502 (by omega), e502, if_neg h8, if_neg h7, if_neg h6]
  · rw [fm 502 (by omega), e502]
    rcases hx with rfl | rfl | rfl <;> simp only [Nat.reduceEqDiff, if_true, if_false]
  · refine ⟨?_, ?_, ?_, ?_, ?_, ?_, ?_, ?_, ?_⟩
    · rw [fm 516 (by omega), fz 516 (by omega) (by omega) (by omega), ft 516 (by omega) (by omega) (by omega) (by omega), u516 x hx]
    · rw [fm 517 (by omega), fz 517 (by omega) (by omega) (by omega), ft 517 (by omega) (by omega) (by omega) (by omega), u517 x hx]
    · rw [fm 505 (by omega), fz 505 (by omega) (by omega) (by omega), ft 505 (by omega) (by omega) (by omega) (by omega), u505 x hx]
    · rw [fm 518 (by omega), fz 518 (by omega) (by omega) (by omega), ft 518 (by omega) (by omega) (by omega) (by omega), u518 x hx]
    · rw [fm 507 (by omega), fz 507 (by omega) (by omega) (by omega), ft 507 (by omega) (by omega) (by omega) (by omega), u507 x hx]
    · rw [fm 503 (by omega), fz 503 (by omega) (by omega) (by omega), h4 503 (by omega), h3 503 (by omega), h2 503 (by omega), p1 x (by omega) hx, u516 x hx]
    · rw [fm 504 (by omega), fz 504 (by omega) (by omega) (by omega), h4 504 (by omega), h3 504 (by omega), p2 x (by omega) hx, h1 517 (by omega), u517 x hx]
    · rw [fm 506 (by omega), fz 506 (by omega) (by omega) (by omega), h4 506 (by omega), p3 x (by omega) hx, h2 518 (by omega), h1 518 (by omega), u518 x hx]
    · rw [fm 508 (by omega), j2 508 (by omega), d1 x (by omega) hx]
  · refine ⟨?_, ?_, ?_, ?_⟩
    · rw [fm 519 (by omega), fz 519 (by omega) (by omega) (by omega), ft 519 (by omega) (by omega) (by omega) (by omega), u519 x hx]
    · rw [fm 510 (by omega), fz 510 (by omega) (by omega) (by omega), ft 510 (by omega) (by omega) (by omega) (by omega), u510 x hx]
    · rw [fm 509 (by omega), fz 509 (by omega) (by omega) (by omega), p4 x (by omega) hx, h3 519 (by omega), h2 519 (by omega), h1 519 (by omega), u519 x hx]
    · rw [fm 511 (by omega), d2 x (by omega) hx]
  · rw [fm 512 (by omega), fz 512 (by omega) (by omega) (by omega), ft 512 (by omega) (by omega) (by omega) (by omega), u512 x hx]
  · rw [em, ui_rd, if_pos rfl, if_neg (by omega), fz 500 (by omega) (by omega) (by omega), ft 500 (by omega) (by omega) (by omega) (by omega), eu, ui_rd, if_pos rfl, if_pos rfl]
  · rw [em, ui_rd, if_pos rfl, if_pos rfl]
  · rw [em, ui_rd, if_pos rfl, if_neg hx2, fz 500 (by omega) (by omega) (by omega), ft 500 (by omega) (by omega) (by omega) (by omega), eu, ui_rd, if_pos rfl, if_neg hx1, f8 500 (by omega), f7 500 (by omega), f6 500 (by omega), f5 500 (by omega), f4 500 (by omega), f3 500 (by omega), f2 500 (by omega), f1 500 (by omega)]
  · rw [fm k (by omega), fz k (by omega) (by omega) (by omega), ft k (by omega) (by omega) (by omega) (by omega), fu k (by omega), f8 k (by omega), f7 k (by omega), f6 k (by omega), f5 k (by omega), f4 k (by omega), f3 k (by omega), f2 k (by omega), f1 k (by omega)]
  · rw [em]
    show z2.2 = m.2
    rw [k2, k1, ew]
    show t4.2 = m.2
    rw [i4, i3, i2, i1, eu]
    show s8.2 = m.2
    rw [g8, g7, g6, g5, g4, g3, g2, g1]
