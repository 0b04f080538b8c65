theorem run_v {b r to : Nat} {p1 p2 : Int32} (hr : r < 6) (hto : to ≤ 300) (hb : b ≠ 45) :
  ∀ (d k n1 n2 : Nat) (l : List Bool) (t : Bool) (c m : St), k + d = to → d < n1 → d < n2 → Seg (fun j => m.1 541 (300 * r + j)) (fun j => m.1 542 (300 * r + j)) d k l [t] → (∀ j, k ≤ j → j < to → c.1 (b + 1) j = enc (m.1 541 (300 * r + j)) (m.1 542 (300 * r + j))) → (∀ j, j < 12 → c.2.1 52 j = m.2.1 548 j) → SR (c.2.1 (b + 7)) (m.2.1 549) l → l.length ≤ 60 → ∃ x c1 m1, fX4_run_L6 b 52 12 p1 (nI to) n1 (nI l.length) (nI k) c = some (x, c1) ∧ fX10_answer_L6 (nI r) p2 (nI to) n2 (nI l.length) (nI k) m = some (x, m1) ∧ (t = false → b01 x) ∧ LC b c c1 ∧ LM m m1 := by
  intro d
  induction d with
  | zero =>
    intro k n1 n2 l t c m hk h1 h2 hs hc hw hS hl
    obtain ⟨n1, rfl⟩ : ∃ k, n1 = k + 1 := ⟨n1 - 1, by omega⟩
    obtain ⟨n2, rfl⟩ : ∃ k, n2 = k + 1 := ⟨n2 - 1, by omega⟩
    have e : [t] = l := hs
    subst e
    refine ⟨c.2.1 (b + 7) 0, c, m, ?_, ?_, fun q => hS.2.1 q, LC.rf, LM.rf⟩
    · rw [fX4_run_L6]
      unfold fX4_run_B156
      simp (disch := omega) only [lit_nI, le_nI]
      rw [if_pos (by omega), if_neg (by simp)]
      simp (disch := omega) only [List.length_cons, List.length_nil, sub1_nI, gd_ix, cl_nI]
    · rw [fX10_answer_L6]
      simp (disch := omega) only [lit_nI, le_nI]
      rw [if_pos (by omega), show c.2.1 (b + 7) 0 = m.2.1 549 0 from hS.1]
  | succ d ih =>
    intro k n1 n2 l t c m hk h1 h2 hs hc hw hS hl
    obtain ⟨n1, rfl⟩ : ∃ k, n1 = k + 1 := ⟨n1 - 1, by omega⟩
    obtain ⟨n2, rfl⟩ : ∃ k, n2 = k + 1 := ⟨n2 - 1, by omega⟩
    obtain ⟨l1, st, sg⟩ := hs
    have st : Sp1 (m.1 541 (300 * r + k)) (m.1 542 (300 * r + k)) l l1 := st
    have ec := hc k (Nat.le_refl k) (by omega)
    have hc' : ∀ j, k + 1 ≤ j → j < to → c.1 (b + 1) j = enc (m.1 541 (300 * r + j)) (m.1 542 (300 * r + j)) := fun j q1 q2 => hc j (by omega) q2
    have go : ∀ (l1 : List Bool) (c' m' : St), Seg (fun j => m.1 541 (300 * r + j)) (fun j => m.1 542 (300 * r + j)) d (k + 1) l1 [t] → LC b c c' → LM m m' → SR (c'.2.1 (b + 7)) (m'.2.1 549) l1 → l1.length ≤ 60 → ∃ x c1 m1, fX4_run_L6 b 52 12 p1 (nI to) n1 (nI l1.length) (nI (k + 1)) c' = some (x, c1) ∧ fX10_answer_L6 (nI r) p2 (nI to) n2 (nI l1.length) (nI (k + 1)) m' = some (x, m1) ∧ (t = false → b01 x) ∧ LC b c c1 ∧ LM m m1 := by
      intro l1 c' m' sg lc lm hS' hl'
      obtain ⟨x, c1, m1, a1, a2, a3, a4, a5⟩ := ih (k + 1) n1 n2 l1 t c' m' (by omega) (by omega) (by omega) (by rw [lm.1]; exact sg) (by rw [lc.1, lm.1]; exact hc') (by rw [lc.2.2 52 (by omega), lm.2.2 548 (by omega)]; exact hw) hS' hl'
      exact ⟨x, c1, m1, a1, a2, a3, lc.tr a4, lm.tr a5⟩
    clear ih hc hc'
    have bin : ∀ (ta tb tc : Bool) (t' : List Bool), opA (m.1 541 (300 * r + k)) ∨ opC (m.1 541 (300 * r + k)) ∨ opL (m.1 541 (300 * r + k)) → l = ta :: tb :: t' → l1 = tc :: t' → (∃ z, fX4_join (-(enc (m.1 541 (300 * r + k)) (m.1 542 (300 * r + k)))) (c.2.1 (b + 7) t'.length) (c.2.1 (b + 7) (t'.length + 1)) = some z ∧ fX10_both (m.1 541 (300 * r + k)) (c.2.1 (b + 7) t'.length) (c.2.1 (b + 7) (t'.length + 1)) = some z ∧ (tc = false → b01 z)) → ∃ x c1 m1, fX4_run_L6 b 52 12 p1 (nI to) (n1 + 1) (nI l.length) (nI k) c = some (x, c1) ∧ fX10_answer_L6 (nI r) p2 (nI to) (n2 + 1) (nI l.length) (nI k) m = some (x, m1) ∧ (t = false → b01 x) ∧ LC b c c1 ∧ LM m m1 := by
      intro ta tb tc t' op el el1 hz
      subst el
      subst el1
      obtain ⟨z, z1, z2, z3⟩ := hz
      simp only [List.length_cons] at hl
      obtain ⟨s1, s2, s3, s4, s5⟩ := hS
      simp only [List.length_cons] at s1
      rw [s1, s3] at z2
      simp only [List.length_cons]
      rw [run_bin (by omega) hto (by omega) ec (enc_neg op) z1, ans_bin hr (by omega) hto (by omega) rfl (op_ne op) z2]
      have g := go (tc :: t') _ _ sg (LC.ul (i := t'.length) (v := z)) (LM.ul (i := t'.length) (v := z)) (SR.push s5 z3) (by simp only [List.length_cons]; omega)
      simp only [List.length_cons] at g
      exact g
    rcases st with ⟨v, v9, es, en, hl6, rfl⟩ | ⟨v, v9, es, en, hl6, rfl⟩ | ⟨t', es, rfl, rfl⟩ | ⟨t', op, el, el1⟩ | ⟨t', op, el, el1⟩ | ⟨t', op, el, el1⟩
    · rw [es, en, enc_0] at ec
      rw [run_num (by omega) hto (by omega) v9 ec, ans_num hr (by omega) hto (by omega) v9 es en]
      have g := go (true :: l) _ _ sg (LC.ul (i := l.length) (v := Int32.toInt64 (nI v))) (LM.ul (i := l.length) (v := Int32.toInt64 (nI v))) (hS.push (fun q => nomatch q)) (by simp only [List.length_cons]; omega)
      simp only [List.length_cons] at g
      exact g
    · rw [es, en, enc_1] at ec
      rw [run_word (by omega) hto (by omega) v9 ec, ans_word hr (by omega) hto (by omega) v9 es en, hw v v9]
      have g := go (true :: l) _ _ sg (LC.ul (i := l.length) (v := m.2.1 548 v)) (LM.ul (i := l.length) (v := m.2.1 548 v)) (hS.push (fun q => nomatch q)) (by simp only [List.length_cons]; omega)
      simp only [List.length_cons] at g
      exact g
    · rw [es, enc_9] at ec
      simp only [List.length_cons] at hl ⊢
      rw [run_not (by omega) hto (by omega) ec, ans_not hr (by omega) hto (by omega) es]
      obtain ⟨s1, s2, s3⟩ := hS
      rw [← s1]
      have hb1 : b01 (1 - c.2.1 (b + 7) t'.length) := by
        rcases s2 rfl with q | q <;> rw [q]
        · exact Or.inr rfl
        · exact Or.inl rfl
      have g := go (false :: t') _ _ sg (LC.ul (i := t'.length) (v := 1 - c.2.1 (b + 7) t'.length)) (LM.ul (i := t'.length) (v := 1 - c.2.1 (b + 7) t'.length)) (s3.push (fun _ => hb1)) (by simp only [List.length_cons]; omega)
      simp only [List.length_cons] at g
      exact g
    · refine bin true true true t' (Or.inl op) el el1 ?_
      obtain ⟨z, z1, z2⟩ := join_A (n := m.1 542 (300 * r + k)) (x := c.2.1 (b + 7) t'.length) (y := c.2.1 (b + 7) (t'.length + 1)) op
      exact ⟨z, z1, z2, fun q => nomatch q⟩
    · refine bin true true false t' (Or.inr (Or.inl op)) el el1 ?_
      obtain ⟨z, z1, z2, z3⟩ := join_C (n := m.1 542 (300 * r + k)) (x := c.2.1 (b + 7) t'.length) (y := c.2.1 (b + 7) (t'.length + 1)) op
      exact ⟨z, z1, z2, fun _ => z3⟩
    · refine bin false false false t' (Or.inr (Or.inr op)) el el1 ?_
      subst el
      obtain ⟨s1, s2, s3, s4, s5⟩ := hS
      obtain ⟨z, z1, z2, z3⟩ := join_L (n := m.1 542 (300 * r + k)) (x := c.2.1 (b + 7) t'.length) (y := c.2.1 (b + 7) (t'.length + 1)) op (s4 rfl) (s2 rfl)
      exact ⟨z, z1, z2, fun _ => z3⟩
