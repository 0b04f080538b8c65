theorem RC.cg {R i e : Nat} {c m c1 m1 : St} (h : RC R i e c m) (hc : ∀ k, 400 + 10 * R ≤ k → k < 400 + 10 * R + 8 → c1.1 k = c.1 k) (hm : ∀ k, 541 ≤ k → k ≤ 546 → m1.1 k = m.1 k) : RC R i e c1 m1 := by
  unfold RC Sgm at h ⊢
  rw [hc _ (by omega) (by omega), hc _ (by omega) (by omega), hc _ (by omega) (by omega), hc _ (by omega) (by omega), hm 541 (by omega) (by omega), hm 542 (by omega) (by omega), hm 544 (by omega) (by omega), hm 545 (by omega) (by omega), hm 546 (by omega) (by omega)]
  exact h
theorem KM.b5 {R e q i : Nat} {L : List Nat} {c m : St} {v w : Int32} (h : KM R L e q c m) : KM R L e q (ui (ui c (400 + 10 * R + 5) i v) (400 + 10 * R) 5 w) m := by
  obtain ⟨⟨a1, a2, a3⟩, ⟨b1, b2, b3⟩, ⟨d1, d2, d3⟩, e, f⟩ := h
  refine ⟨⟨a1, a2, a3⟩, ⟨?_, b2, b3⟩, ⟨?_, d2, d3⟩, e, fun x hx => ?_⟩
  · rw [ui_rd, if_pos rfl, if_neg (by omega), ui_ne (by omega)]
    exact b1
  · rw [ui_ne (by omega), ui_ne (by omega)]
    exact d1
  · rw [ui_ne (by omega), ui_ne (by omega)]
    exact f x hx
theorem endC_v {R i e1 : Nat} {c : St} (hR : R < 6) (h5 : c.1 (400 + 10 * R) 5 = nI i) (hi : i < 12) (h1 : c.1 (400 + 10 * R) 1 = nI e1) : fX4_endClause (400 + 10 * R) c = some (ui (ui c (400 + 10 * R + 5) i (nI e1)) (400 + 10 * R) 5 (nI (i + 1))) := by
  have a1 : (ui c (400 + 10 * R + 5) i (nI e1)).1 (400 + 10 * R) 5 = nI i := by
    rw [ui_ne (by omega)]
    exact h5
  unfold fX4_endClause
  rw [h5, h1]
  simp (disch := omega) only [lit_nI, le_nI, gd_ix, cl_nI, nm_eq, a1, nI_add]
  rw [if_neg (by omega)]
/-- the reference's last step of a rule -/
def rfin (y : Int32) (m : St) : Option (Int32 × St) := fX10_rule_L27 1 y (nI 0) m
theorem e27 {n : Nat} {y : Int32} {m : St} : fX10_rule_L27 (n + 1) y (nI 0) m = rfin y m := by
  unfold rfin
  rw [fX10_rule_L27, fX10_rule_L27]
  simp only [lit_nI, if_true]
theorem rloop {R T S : Nat} {L : List Nat} {t : Nat → Nat} {pos : Nat → Nat} : ∀ (D i n1 n2 j p e q : Nat) (c m : St), i + D = 12 → D < n1 → D + 1 < n2 → SM R L t T S pos j p e q c m → RC R i e c m → 3 * e ≤ 6 * q + p → m.1 500 35 = nI 0 → ∃ x c1 m1 y, fX5_read_L19 L n1 (nI i) c = some (x, c1) ∧ fX10_rule_L27 n2 (nI i) (nI 1) m = rfin (nI y) m1 ∧ RG R c c1 ∧ QG R m m1 ∧ y ≤ 13 ∧ ((∃ F, 0 < F ∧ F < 4000 ∧ x = nI F ∧ m1.1 500 31 = nI F) ∨ (x = nI 0 ∧ m1.1 500 31 = nI 0 ∧ ∃ e q, RC R y e c1 m1 ∧ KM R L e q c1 m1)) := by
  have bad : ∀ (i n1 n2 : Nat) (c m : St), i ≤ 12 → (∃ F c1 m1, ccl L i c = some (nI 0, c1) ∧ fX10_ruleClause (nI i) m = some m1 ∧ c1.1 40 3 = nI F ∧ FD F t T m1 ∧ RG R c c1 ∧ QG R m m1) → ∃ x c1 m1 y, fX5_read_L19 L (n1 + 1) (nI i) c = some (x, c1) ∧ fX10_rule_L27 (n2 + 1 + 1) (nI i) (nI 1) m = rfin (nI y) m1 ∧ RG R c c1 ∧ QG R m m1 ∧ y ≤ 13 ∧ ((∃ F, 0 < F ∧ F < 4000 ∧ x = nI F ∧ m1.1 500 31 = nI F) ∨ (x = nI 0 ∧ m1.1 500 31 = nI 0 ∧ ∃ e q, RC R y e c1 m1 ∧ KM R L e q c1 m1)) := by
    rintro i n1 n2 c m hi ⟨F, c1, m1, a1, a2, a3, a4, a5, a6⟩
    obtain ⟨m2, b1, b2, b3⟩ := goes_f a4
    refine ⟨nI F, c1, m2, i + 1, ?_, ?_, a5, a6.tr b3.g, by omega, Or.inl ⟨F, a4.2.2.2.1, a4.2.2.2.2, rfl, b2⟩⟩
    · rw [rd_e hi, a1, bw_some, f0_ite, a3]
    · rw [fX10_rule_L27]
      simp only [lit_nI, n10, if_false, a2, br_some, b1, bw_some, nI_add, nm_eq]
      exact e27
  intro D
  induction D with
  | zero =>
    intro i n1 n2 j p e q c m hi h1 h2 h hc hg h35
    obtain ⟨n1, rfl⟩ : ∃ j, n1 = j + 1 := ⟨n1 - 1, by omega⟩
    obtain ⟨n2, rfl⟩ : ∃ j, n2 = j + 1 + 1 := ⟨n2 - 2, by omega⟩
    rcases rclause_v h hc hg h35 with w | ⟨w, -⟩
    · exact bad i n1 n2 c m (by omega) w
    · omega
  | succ D ih =>
    intro i n1 n2 j p e q c m hi h1 h2 h hc hg h35
    obtain ⟨n1, rfl⟩ : ∃ j, n1 = j + 1 := ⟨n1 - 1, by omega⟩
    obtain ⟨n2, rfl⟩ : ∃ j, n2 = j + 1 + 1 := ⟨n2 - 2, by omega⟩
    rcases rclause_v h hc hg h35 with w | ⟨h12, c1, m1, j1, p1, e1, q1, a1, a2, a3, a4, a5, a6, a7, a8, a9⟩
    · exact bad i n1 n2 c m (by omega) w
    · obtain ⟨hl, hk⟩ := a3
      obtain ⟨r1, r2, r3⟩ := hk.1
      obtain ⟨c2, ec2⟩ : ∃ s, s = ui (ui c1 (400 + 10 * R + 5) i (nI e1)) (400 + 10 * R) 5 (nI (i + 1)) := ⟨_, rfl⟩
      have hk2 : KM R L e1 q1 c2 m1 := by
        rw [ec2]
        exact hk.b5
      have hl2 : LK t T S pos j1 p1 c2 m1 := hl.of (fun k k1 k2 => by rw [ec2, ui_ne (by omega), ui_ne (by omega)]) rfl rfl rfl
      have rg2 : RG R c1 c2 := by
        rw [ec2]
        exact (rg_b (k := 5) (by omega)).tr (rg_b (k := 0) (by omega))
      rw [← ec2] at a9
      have hcl : fX5_read_L19 L (n1 + 1) (nI i) c = (if (c2.1 20 5) = nI 23 then (some (nI 0, c2)) else (if (c2.1 20 5) = nI 25 then (br (fX7_step c2) (fun s9 => fX5_read_L19 L n1 (nI (i + 1)) s9)) else (bw (fX5_fail (nI 0) c2) (fun x10 s9 => some ((s9.1 40 3), s9))))) := by
        rw [rd_e (by omega), a1, bw_some, f1_ite]
        unfold fX5_read_B84
        rw [r1, br_some, r2, gd_tt, endC_v r3 a8 h12 hk.2.1.1, br_some, ← ec2]
        simp only [lit_nI, nI_add, nm_eq]
      have hrl : fX10_rule_L27 (n2 + 1 + 1) (nI i) (nI 1) m = bw (fX10_goesOn m1) (fun x7 s6 => fX10_rule_L27 (n2 + 1) (nI (i + 1)) x7 s6) := by
        rw [fX10_rule_L27]
        simp only [lit_nI, n10, if_false, a2, br_some, nI_add, nm_eq]
      rw [hcl, hrl]
      obtain ⟨k, a, k9, t5, t6, a9', g⟩ := goes_v hl2 hk2.2.2.2.1.1
      rw [t5]
      rcases g with ⟨rfl, m2, b1, b2, b3, b4⟩ | ⟨rfl, c3, e', b1, b2, b3, b4, hpe⟩ | ⟨g1, g2, m2, b1, b2, b3⟩
      · refine ⟨nI 0, c2, m2, i + 1, ?_, ?_, a6.tr rg2, a7.tr b3.g, by omega, Or.inr ⟨rfl, b2, e1, q1, a9.cg (fun _ _ _ => rfl) (fun k k1 k2 => b4 k (by omega)), hk2.cg rfl rfl rfl rfl (fun x x1 _ _ => ?_) (b4 541 (by omega)) (b4 542 (by omega))⟩⟩
        · rw [if_pos rfl]
        · rw [b1, bw_some]
          exact e27
        · by_cases x31 : x = 31
          · rw [x31, b2]
            exact hk2.2.2.2.1.1.symm
          · exact b3.1 500 x (by omega) (by omega)
      · have k3 : KM R L e1 q1 c3 (ui m1 500 30 (nI e')) := (km_30 hk2).cg (b4.1 40 (by omega)) (b4.1 _ (by omega)) (b4.1 _ (by omega)) b4.2.2 (fun _ _ _ _ => rfl) rfl rfl
        have hp3 := hl2.pos
        have hp4 := b3.pos
        obtain ⟨x, c4, m4, y, d1, d2, d3, d4, d5, d6⟩ := ih (i + 1) n1 (n2 + 1) (j1 + 1) e' e1 q1 c3 (ui m1 500 30 (nI e')) (by omega) (by omega) (by omega) ⟨b3, k3⟩ (a9.cg (fun k k1 k2 => b4.1 k (by omega)) (fun k k1 k2 => ui_ne (by omega))) (by omega) (by rw [ui_rd, if_pos rfl, if_neg (by omega)]; exact a5)
        refine ⟨x, c4, m4, y, ?_, ?_, ((a6.tr rg2).tr b4.g).tr d3, (a7.tr (qf_5 (e := 0) (o := 0) (by omega)).g).tr d4, d5, d6⟩
        · rw [if_neg (by decide), if_pos rfl, b1, br_some, d1]
        · rw [b2, bw_some, d2]
      · refine ⟨nI (1 + 8 * a + 0), ui c2 40 3 (nI (1 + 8 * a + 0)), m2, i + 1, ?_, ?_, (a6.tr rg2).tr rg_40, a7.tr b3.g, by omega, Or.inl ⟨1 + 8 * a + 0, by omega, by omega, rfl, b2⟩⟩
        · rw [if_neg (show ¬ nI k = nI 23 by rw [eq_nI (by omega) (by omega)]; exact g1), if_neg (show ¬ nI k = nI 25 by rw [eq_nI (by omega) (by omega)]; exact g2), rfail_v t6, bw_some, ui_rd, if_pos rfl, if_pos rfl]
        · rw [b1, bw_some]
          exact e27
