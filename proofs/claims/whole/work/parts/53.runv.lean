theorem sub1_nI {k : Nat} (h : k + 1 < 2147483648) : nI (k + 1) - nI 1 = nI k := by
  rw [pk_sub (by omega), Nat.add_sub_cancel]
theorem dec_nI {k : Nat} (h : k + 1 < 2147483648) : nI (k + 1) + -nI 1 = nI k := by
  rw [← sub1_nI h, Int32.sub_eq_add_neg]
theorem word_n (v : Nat) (h : v < 12) : ((-nI 1) - nI v < nI 0) ∧ ¬ ((-nI 1) - nI v < -nI 12) ∧ (-nI 1) - ((-nI 1) - nI v) = nI v := by
  rcases (show v = 0 ∨ v = 1 ∨ v = 2 ∨ v = 3 ∨ v = 4 ∨ v = 5 ∨ v = 6 ∨ v = 7 ∨ v = 8 ∨ v = 9 ∨ v = 10 ∨ v = 11 by omega) with rfl | rfl | rfl | rfl | rfl | rfl | rfl | rfl | rfl | rfl | rfl | rfl <;> decide
theorem enc_0 (n : Int32) : enc (nI 0) n = n := if_pos rfl
theorem enc_1 (n : Int32) : enc (nI 1) n = -nI 1 - n := by
  unfold enc
  rw [if_neg (by decide), if_pos rfl]
  rfl
theorem enc_9 (n : Int32) : enc (nI 9) n = -nI 20 := by
  unfold enc
  rw [if_neg (by decide), if_neg (by decide), if_neg (by decide), if_neg (by decide), if_neg (by decide), if_neg (by decide), if_neg (by decide), if_neg (by decide), if_neg (by decide), if_pos rfl]
  rfl
theorem run_num {b to k l v n : Nat} {p1 : Int32} {c : St} (hk : k < to) (hto : to ≤ 300) (hl : l < 64) (hv : v ≤ 99999) (e : c.1 (b + 1) k = nI v) : fX4_run_L6 b 52 12 p1 (nI to) (n + 1) (nI l) (nI k) c = fX4_run_L6 b 52 12 p1 (nI to) n (nI (l + 1)) (nI (k + 1)) (ul c (b + 7) l (Int32.toInt64 (nI v))) := by
  rw [fX4_run_L6]
  generalize fX4_run_L6 b 52 12 p1 (nI to) n = K
  simp (disch := omega) only [lit_nI, le_nI, lt_nI, gd_ix, cl_nI, nm_eq, nI_add, e]
  rw [if_neg (by omega), if_neg (by omega), if_neg (by omega)]
theorem run_word {b to k l v n : Nat} {p1 : Int32} {c : St} (hk : k < to) (hto : to ≤ 300) (hl : l < 64) (hv : v < 12) (e : c.1 (b + 1) k = -nI 1 - nI v) : fX4_run_L6 b 52 12 p1 (nI to) (n + 1) (nI l) (nI k) c = fX4_run_L6 b 52 12 p1 (nI to) n (nI (l + 1)) (nI (k + 1)) (ul c (b + 7) l (c.2.1 52 v)) := by
  obtain ⟨w1, w2, w3⟩ := word_n v hv
  rw [fX4_run_L6]
  generalize fX4_run_L6 b 52 12 p1 (nI to) n = K
  simp (disch := omega) only [lit_nI, le_nI, gd_ix, cl_nI, nm_eq, nI_add, e, w3]
  rw [if_neg (by omega), if_neg (by omega), if_pos w1, if_neg w2]
theorem run_not {b to k l n : Nat} {p1 : Int32} {c : St} (hk : k < to) (hto : to ≤ 300) (hl : l + 1 < 64) (e : c.1 (b + 1) k = -nI 20) : fX4_run_L6 b 52 12 p1 (nI to) (n + 1) (nI (l + 1)) (nI k) c = fX4_run_L6 b 52 12 p1 (nI to) n (nI (l + 1)) (nI (k + 1)) (ul c (b + 7) l (1 - c.2.1 (b + 7) l)) := by
  have w1 : -nI 20 < nI 0 := by decide
  have w2 : -nI 20 < -nI 12 := by decide
  rw [fX4_run_L6]
  generalize fX4_run_L6 b 52 12 p1 (nI to) n = K
  simp (disch := omega) only [lit_nI, le_nI, gd_ix, cl_nI, nm_eq, nI_add, e, sub1_nI]
  rw [if_neg (by omega), if_neg (by omega), if_pos w1, if_pos w2, if_pos trivial, if_neg (by omega)]
theorem run_bin {b to k l n : Nat} {p1 q : Int32} {c : St} {z : Int64} (hk : k < to) (hto : to ≤ 300) (hl : l + 2 < 64) (e : c.1 (b + 1) k = q) (hq : q < 0 ∧ q < -12 ∧ ¬ q = -20) (hz : fX4_join (-q) (c.2.1 (b + 7) l) (c.2.1 (b + 7) (l + 1)) = some z) : fX4_run_L6 b 52 12 p1 (nI to) (n + 1) (nI (l + 1 + 1)) (nI k) c = fX4_run_L6 b 52 12 p1 (nI to) n (nI (l + 1)) (nI (k + 1)) (ul c (b + 7) l z) := by
  obtain ⟨w1, w2, w3⟩ := hq
  rw [fX4_run_L6]
  generalize fX4_run_L6 b 52 12 p1 (nI to) n = K
  unfold fX4_run_B110
  simp only [lit_nI] at w1 w2 w3
  simp (disch := omega) only [lit_nI, le_nI, gd_ix, cl_nI, nm_eq, nI_add, e, sub1_nI, dec_nI, hz, br_some]
  rw [if_neg (by omega), if_neg (by omega), if_pos w1, if_pos w2, if_neg w3, if_neg (by omega)]
theorem ans_num {r to k l v n : Nat} {p2 : Int32} {m : St} (hr : r < 6) (hk : k < to) (hto : to ≤ 300) (hl : l < 64) (hv : v ≤ 99999) (e : m.1 541 (300 * r + k) = nI 0) (e2 : m.1 542 (300 * r + k) = nI v) : fX10_answer_L6 (nI r) p2 (nI to) (n + 1) (nI l) (nI k) m = fX10_answer_L6 (nI r) p2 (nI to) n (nI (l + 1)) (nI (k + 1)) (ul m 549 l (Int32.toInt64 (nI v))) := by
  rw [fX10_answer_L6]
  generalize fX10_answer_L6 (nI r) p2 (nI to) n = K
  unfold fX10_answer_B53 fX10_answer_B77
  simp (disch := omega) only [lit_nI, le_nI, gd_ix, cl_nI, nm_eq, nI_add, pk_mul, e, e2, if_true]
  rw [if_neg (by omega)]
theorem ans_word {r to k l v n : Nat} {p2 : Int32} {m : St} (hr : r < 6) (hk : k < to) (hto : to ≤ 300) (hl : l < 64) (hv : v < 12) (e : m.1 541 (300 * r + k) = nI 1) (e2 : m.1 542 (300 * r + k) = nI v) : fX10_answer_L6 (nI r) p2 (nI to) (n + 1) (nI l) (nI k) m = fX10_answer_L6 (nI r) p2 (nI to) n (nI (l + 1)) (nI (k + 1)) (ul m 549 l (m.2.1 548 v)) := by
  rw [fX10_answer_L6]
  generalize fX10_answer_L6 (nI r) p2 (nI to) n = K
  unfold fX10_answer_B53 fX10_answer_B77
  simp (disch := omega) only [lit_nI, le_nI, gd_ix, cl_nI, nm_eq, nI_add, pk_mul, e, e2, if_true, n10, if_false]
  rw [if_neg (by omega)]
theorem n90 : (nI 9 = nI 0) = False := by decide
theorem n91 : (nI 9 = nI 1) = False := by decide
theorem ans_not {r to k l n : Nat} {p2 : Int32} {m : St} (hr : r < 6) (hk : k < to) (hto : to ≤ 300) (hl : l + 1 < 64) (e : m.1 541 (300 * r + k) = nI 9) : fX10_answer_L6 (nI r) p2 (nI to) (n + 1) (nI (l + 1)) (nI k) m = fX10_answer_L6 (nI r) p2 (nI to) n (nI (l + 1)) (nI (k + 1)) (ul m 549 l (1 - m.2.1 549 l)) := by
  rw [fX10_answer_L6]
  generalize fX10_answer_L6 (nI r) p2 (nI to) n = K
  unfold fX10_answer_B53 fX10_answer_B77
  simp (disch := omega) only [lit_nI, le_nI, gd_ix, cl_nI, nm_eq, nI_add, pk_mul, e, if_true, n90, n91, if_false, sub1_nI]
  rw [if_neg (by omega)]
theorem ans_bin {r to k l n : Nat} {p2 s : Int32} {m : St} {z : Int64} (hr : r < 6) (hk : k < to) (hto : to ≤ 300) (hl : l + 2 < 64) (e : m.1 541 (300 * r + k) = s) (hs : ¬ s = nI 0 ∧ ¬ s = nI 1 ∧ ¬ s = nI 9) (hz : fX10_both s (m.2.1 549 l) (m.2.1 549 (l + 1)) = some z) : fX10_answer_L6 (nI r) p2 (nI to) (n + 1) (nI (l + 1 + 1)) (nI k) m = fX10_answer_L6 (nI r) p2 (nI to) n (nI (l + 1)) (nI (k + 1)) (ul m 549 l z) := by
  obtain ⟨w1, w2, w3⟩ := hs
  rw [fX10_answer_L6]
  generalize fX10_answer_L6 (nI r) p2 (nI to) n = K
  simp (disch := omega) only [lit_nI, le_nI, gd_ix, cl_nI, nm_eq, nI_add, pk_mul, e, w1, w2, w3, if_false, sub1_nI, dec_nI, hz, br_some]
  rw [if_neg (by omega)]
