theorem sub1_nI {k : Nat} (h : k + 1 < 2147483648) : nI (k + 1) - nI 1 = nI k := by
  rw [pk_sub (by omega)]
  rfl
theorem dec_nI {k : Nat} (h : k + 1 < 2147483648) : nI (k + 1) + -nI 1 = nI k := by
  rw [← sub1_nI h, Int32.sub_eq_add_neg]
theorem word_n : ∀ v, v < 12 → ((-nI 1) - nI v < nI 0) ∧ ¬ ((-nI 1) - nI v < -nI 12) ∧ (-nI 1) - ((-nI 1) - nI v) = nI v := by decide
theorem run_v {b r to : Nat} {p1 p2 : Int32} (hr : r < 6) (hto : to ≤ 300) (hb : b ≠ 45) :
  ∀ (d k n1 n2 : Nat) (l : List Bool) (t : Bool) (c m : St), k + d = to → d < n1 → d < n2 → Seg (fun j => m.1 541 (300 * r + j)) (fun j => m.1 542 (300 * r + j)) d k l [t] → (∀ j, k ≤ j → j < to → c.1 (b + 1) j = enc (m.1 541 (300 * r + j)) (m.1 542 (300 * r + j))) → (∀ j, j < 12 → c.2.1 52 j = m.2.1 548 j) → SR (c.2.1 (b + 7)) (m.2.1 549) l → l.length ≤ 60 → ∃ x c1 m1, fX4_run_L6 b 52 12 p1 (nI to) n1 (nI l.length) (nI k) c = some (x, c1) ∧ fX10_answer_L6 (nI r) p2 (nI to) n2 (nI l.length) (nI k) m = some (x, m1) ∧ (t = false → b01 x) ∧ LC b c c1 ∧ LM m m1 := by
  intro d
  induction d with
  | zero =>
    intro k n1 n2 l t c m hk h1 h2 hs hc hw hS hl
    obtain ⟨n1, rfl⟩ : ∃ k, n1 = k + 1 := ⟨n1 - 1, by omega⟩
    obtain ⟨n2, rfl⟩ : ∃ k, n2 = k + 1 := ⟨n2 - 1, by omega⟩
    have e : [t] = l := hs
    subst e
    refine ⟨c.2.1 (b + 7) 0, c, m, ?_, ?_, fun q => hS.2.1 q, LC.rf, LM.rf⟩
    · rw [fX4_run_L6]
      unfold fX4_run_B156
      simp (disch := omega) only [lit_nI, le_nI]
      rw [if_pos (by omega), if_neg (by simp), show nI [t].length - nI 1 = nI 0 from rfl]
      rfl
    · rw [fX10_answer_L6]
      simp (disch := omega) only [lit_nI, le_nI]
      rw [if_pos (by omega), show c.2.1 (b + 7) 0 = m.2.1 549 0 from hS.1]
  | succ d ih =>
    intro k n1 n2 l t c m hk h1 h2 hs hc hw hS hl
    obtain ⟨n1, rfl⟩ : ∃ k, n1 = k + 1 := ⟨n1 - 1, by omega⟩
    obtain ⟨n2, rfl⟩ : ∃ k, n2 = k + 1 := ⟨n2 - 1, by omega⟩
    obtain ⟨l1, st, sg⟩ := hs
    have ec := hc k (Nat.le_refl k) (by omega)
    have hc' : ∀ j, k + 1 ≤ j → j < to → c.1 (b + 1) j = enc (m.1 541 (300 * r + j)) (m.1 542 (300 * r + j)) := fun j q1 q2 => hc j (by omega) q2
    have go : ∀ (l1 : List Bool) (c' m' : St), Seg (fun j => m.1 541 (300 * r + j)) (fun j => m.1 542 (300 * r + j)) d (k + 1) l1 [t] → LC b c c' → LM m m' → SR (c'.2.1 (b + 7)) (m'.2.1 549) l1 → l1.length ≤ 60 → ∃ x c1 m1, fX4_run_L6 b 52 12 p1 (nI to) n1 (nI l1.length) (nI (k + 1)) c' = some (x, c1) ∧ fX10_answer_L6 (nI r) p2 (nI to) n2 (nI l1.length) (nI (k + 1)) m' = some (x, m1) ∧ (t = false → b01 x) ∧ LC b c c1 ∧ LM m m1 := by
      intro l1 c' m' sg lc lm hS' hl'
      obtain ⟨x, c1, m1, a1, a2, a3, a4, a5⟩ := ih (k + 1) n1 n2 l1 t c' m' (by omega) (by omega) (by omega) (by rw [lm.1]; exact sg) (by rw [lc.1, lm.1]; exact hc') (by rw [lc.2.2 52 (by omega), lm.2.2 548 (by omega)]; exact hw) hS' hl'
      exact ⟨x, c1, m1, a1, a2, a3, lc.tr a4, lm.tr a5⟩
    rw [fX4_run_L6, fX10_answer_L6]
    generalize fX4_run_L6 b 52 12 p1 (nI to) n1 = K at go ⊢
    generalize fX10_answer_L6 (nI r) p2 (nI to) n2 = J at go ⊢
    simp (disch := omega) only [lit_nI, le_nI, gd_ix, cl_nI, nm_eq, pk_mul, nI_add, ec]
    rw [if_neg (show ¬ to ≤ k by omega), if_neg (show ¬ 64 ≤ l.length by omega), if_neg (show ¬ to ≤ k by omega)]
    have st' := st
    clear ih hc hc' ec hw
    rcases st with ⟨v, v9, es, en, hl6, rfl⟩ | ⟨v, v9, es, en, hl6, rfl⟩ | ⟨t', es, rfl, rfl⟩ | ⟨t', op, rfl, rfl⟩ | ⟨t', op, rfl, rfl⟩ | ⟨t', op, rfl, rfl⟩
    · sorry
    · sorry
    · sorry
    · sorry
    · sorry
    · sorry
