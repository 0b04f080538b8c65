/-! clauses of a rule -/
def RG (R : Nat) (c c1 : St) : Prop := (∀ k, k ≠ 20 → k ≠ 40 → ¬ (400 + 10 * R ≤ k ∧ k < 400 + 10 * R + 8) → c1.1 k = c.1 k) ∧ c1.2 = c.2
theorem RG.rf {R : Nat} {c : St} : RG R c c := ⟨fun _ _ _ _ => rfl, rfl⟩
theorem RG.tr {R : Nat} {c c1 c2 : St} (h1 : RG R c c1) (h2 : RG R c1 c2) : RG R c c2 := ⟨fun k a b d => (h2.1 k a b d).trans (h1.1 k a b d), h2.2.trans h1.2⟩
theorem RF.g {R e : Nat} {c c1 : St} (h : RF R e c c1) : RG R c c1 := ⟨fun k a b d => h.1 k a b (by omega) (by omega), h.2.2.2⟩
theorem rg_b {R k i : Nat} {c : St} {v : Int32} (h : k < 8) : RG R c (ui c (400 + 10 * R + k) i v) := ⟨fun x a b d => ui_ne (by omega), rfl⟩
theorem rg_40 {R i : Nat} {c : St} {v : Int32} : RG R c (ui c 40 i v) := ⟨fun x a b d => ui_ne b, rfl⟩
theorem CS1.g {R : Nat} {c c1 : St} (h : CS1 c c1) : RG R c c1 := ⟨fun k a _ _ => h.1 k a, h.2.2⟩
def QG (R : Nat) (m m1 : St) : Prop := (∀ k i, ¬ (520 ≤ k ∧ k ≤ 528) → k ≠ 547 → ¬ (541 ≤ k ∧ k ≤ 546) → ¬ (k = 500 ∧ (i = 30 ∨ i = 31 ∨ i = 34 ∨ i = 35 ∨ i = 36 ∨ i = 37)) → m1.1 k i = m.1 k i) ∧ (∀ i, i < 300 * R → m1.1 541 i = m.1 541 i ∧ m1.1 542 i = m.1 542 i) ∧ (∀ i, i < 12 * R → m1.1 544 i = m.1 544 i ∧ m1.1 545 i = m.1 545 i ∧ m1.1 546 i = m.1 546 i) ∧ m1.1 543 = m.1 543 ∧ m1.2 = m.2
theorem QG.rf {R : Nat} {m : St} : QG R m m := ⟨fun _ _ _ _ _ _ => rfl, fun _ _ => ⟨rfl, rfl⟩, fun _ _ => ⟨rfl, rfl, rfl⟩, rfl, rfl⟩
theorem QG.tr {R : Nat} {m m1 m2 : St} (h1 : QG R m m1) (h2 : QG R m1 m2) : QG R m m2 := ⟨fun k i a b d f => (h2.1 k i a b d f).trans (h1.1 k i a b d f), fun i a => ⟨(h2.2.1 i a).1.trans (h1.2.1 i a).1, (h2.2.1 i a).2.trans (h1.2.1 i a).2⟩, fun i a => ⟨(h2.2.2.1 i a).1.trans (h1.2.2.1 i a).1, (h2.2.2.1 i a).2.1.trans (h1.2.2.1 i a).2.1, (h2.2.2.1 i a).2.2.trans (h1.2.2.1 i a).2.2⟩, h2.2.2.2.1.trans h1.2.2.2.1, h2.2.2.2.2.trans h1.2.2.2.2⟩
theorem QF.g {R e o : Nat} {m m1 : St} (h : QF R e o m m1) : QG R m m1 := by
  refine ⟨fun k i a b d f => h.1 k i (by omega) (by omega) b f, fun i hi => h.2.1 i (by omega), fun i hi => ⟨?_, ?_, ?_⟩, ?_, h.2.2.2⟩
  · exact h.1 544 i (by omega) (by omega) (by omega) (by omega)
  · exact h.1 545 i (by omega) (by omega) (by omega) (by omega)
  · exact h.1 546 i (by omega) (by omega) (by omega) (by omega)
  · exact funext (fun i => h.1 543 i (by omega) (by omega) (by omega) (by omega))
theorem MD.g {R : Nat} {m m1 : St} (h : MD m m1) : QG R m m1 := by
  refine ⟨fun k i a b d f => h.1 k i a (by omega), fun i hi => ⟨?_, ?_⟩, fun i hi => ⟨?_, ?_, ?_⟩, ?_, h.2⟩
  · exact h.1 541 i (by omega) (by omega)
  · exact h.1 542 i (by omega) (by omega)
  · exact h.1 544 i (by omega) (by omega)
  · exact h.1 545 i (by omega) (by omega)
  · exact h.1 546 i (by omega) (by omega)
  · exact funext (fun i => h.1 543 i (by omega) (by omega))
theorem qg_4 {R k x : Nat} {m : St} {v : Int32} (hk : k = 544 ∨ k = 545 ∨ k = 546) (hx : 12 * R ≤ x) : QG R m (ui m k x v) := by
  refine ⟨fun k' i a b d f => by rw [ui_ne (by omega)], fun i hi => ⟨?_, ?_⟩, fun i hi => ⟨?_, ?_, ?_⟩, ?_, rfl⟩
  · rw [ui_ne (by omega)]
  · rw [ui_ne (by omega)]
  · rw [ui_rd]
    by_cases e : 544 = k
    · rw [if_pos e, if_neg (by omega)]
    · rw [if_neg e]
  · rw [ui_rd]
    by_cases e : 545 = k
    · rw [if_pos e, if_neg (by omega)]
    · rw [if_neg e]
  · rw [ui_rd]
    by_cases e : 546 = k
    · rw [if_pos e, if_neg (by omega)]
    · rw [if_neg e]
  · rw [ui_ne (by omega)]
/-- the clauses so far -/
def RC (R i e : Nat) (c m : St) : Prop := c.1 (400 + 10 * R) 5 = nI i ∧ i ≤ 12 ∧ (i = 0 → e = 0) ∧ (1 ≤ i → c.1 (400 + 10 * R + 5) (i - 1) = nI e) ∧ ∀ x, x < i → ∃ s u f, s ≤ u ∧ u ≤ f ∧ f ≤ e ∧ c.1 (400 + 10 * R + 3) x = nI s ∧ c.1 (400 + 10 * R + 4) x = nI u ∧ c.1 (400 + 10 * R + 5) x = nI f ∧ m.1 544 (12 * R + x) = nI s ∧ m.1 545 (12 * R + x) = nI u ∧ m.1 546 (12 * R + x) = nI f ∧ Sgm m R s u [] [true] ∧ (u = f ∨ Sgm m R u f [] [false])
/-- the class's clause -/
def ccl (L : List Nat) (i : Nat) (c : St) : Option (Int32 × St) := bw (fX5_readHead (nI i) c) (fun x4 s3 => if x4 = nI 0 then (some (nI 0, s3)) else (bw (fX5_readSum L s3) (fun x8 s7 => if x8 = nI 0 then (some (nI 0, s7)) else (br (s7.2.2 40 1) (fun r10 => gd (okRb L r10) (br (fX4_endSum r10 s7) (fun s14 => if (s14.1 20 5) = nI 17 then (br (fX7_step s14) (fun s17 => bw (fX5_readTest L (fX5_readFact L 12) (nI 0) s17) (fun x20 s19 => if x20 = nI 0 then (some (nI 0, s19)) else (some (nI 1, s19))))) else (some (nI 1, s14)))))))))
theorem rd_e {L : List Nat} {n i : Nat} {c : St} (hi : i ≤ 12) : fX5_read_L19 L (n + 1) (nI i) c = bw (ccl L i c) (fun x s => if x = nI 0 then some (s.1 40 3, s) else fX5_read_B84 L (fX5_read_L19 L n) (nI i) s) := by
  rw [fX5_read_L19]
  unfold ccl
  simp (disch := omega) only [lit_nI, lt_nI]
  rw [if_neg (by omega)]
  cases fX5_readHead (nI i) c with
  | none => rfl
  | some a =>
    obtain ⟨x4, s3⟩ := a
    simp only [bw_some]
    by_cases y1 : x4 = nI 0
    · rw [if_pos y1, if_pos y1, bw_some, f0_ite]
    · rw [if_neg y1, if_neg y1]
      cases fX5_readSum L s3 with
      | none => rfl
      | some a =>
        obtain ⟨x8, s7⟩ := a
        simp only [bw_some]
        by_cases y2 : x8 = nI 0
        · rw [if_pos y2, if_pos y2, bw_some, f0_ite]
        · rw [if_neg y2, if_neg y2]
          cases s7.2.2 40 1 with
          | none => rfl
          | some r10 =>
            simp only [br_some]
            unfold gd
            by_cases y3 : okRb L r10 = true
            · rw [if_pos y3, if_pos y3]
              cases fX4_endSum r10 s7 with
              | none => rfl
              | some s14 =>
                simp only [br_some]
                by_cases y4 : s14.1 20 5 = nI 17
                · rw [if_pos y4, if_pos y4]
                  cases fX7_step s14 with
                  | none => rfl
                  | some s17 =>
                    simp only [br_some]
                    cases fX5_readTest L (fX5_readFact L 12) (nI 0) s17 with
                    | none => rfl
                    | some a =>
                      obtain ⟨x20, s19⟩ := a
                      simp only [bw_some]
                      by_cases y5 : x20 = nI 0
                      · rw [if_pos y5, if_pos y5, bw_some, f0_ite]
                      · rw [if_neg y5, if_neg y5, bw_some, f1_ite]
                · rw [if_neg y4, if_neg y4, bw_some, f1_ite]
            · rw [if_neg y3, if_neg y3]
              rfl
theorem endSum_v {R i e e1 : Nat} {c : St} (hR : R < 6) (h5 : c.1 (400 + 10 * R) 5 = nI i) (hi : i < 12) (h1 : c.1 (400 + 10 * R) 1 = nI e1) (h0 : i = 0 → e = 0) (hb : 1 ≤ i → c.1 (400 + 10 * R + 5) (i - 1) = nI e) : fX4_endSum (400 + 10 * R) c = some (ui (ui c (400 + 10 * R + 3) i (nI e)) (400 + 10 * R + 4) i (nI e1)) := by
  have h39 : ∀ z, fX4_endSum_B39 (400 + 10 * R) z (nI i) c = some (ui (ui c (400 + 10 * R + 3) i z) (400 + 10 * R + 4) i (nI e1)) := by
    intro z
    have a1 : (ui c (400 + 10 * R + 3) i z).1 (400 + 10 * R) 5 = nI i := by
      rw [ui_ne (by omega)]
      exact h5
    have a2 : (ui c (400 + 10 * R + 3) i z).1 (400 + 10 * R) 1 = nI e1 := by
      rw [ui_ne (by omega)]
      exact h1
    unfold fX4_endSum_B39
    rw [gd_ix (by omega) (by omega), cl_nI (by omega), nm_eq, a1, gd_ix (by omega) (by omega), cl_nI (by omega), a2, nm_eq]
  unfold fX4_endSum
  rw [h5, h39, h39]
  simp (disch := omega) only [lit_nI, le_nI, eq_nI]
  rw [if_neg (by omega)]
  by_cases z : i = 0
  · rw [if_pos z, h0 z]
  · have s1 : nI i - nI 1 = nI (i - 1) := pk_sub (by omega)
    rw [if_neg z, s1, gd_ix (by omega) (by omega), cl_nI (by omega), hb (by omega)]
theorem head_c {k a i : Nat} {c : St} (h5 : c.1 20 5 = nI k) (h6 : c.1 20 6 = nI a) (k9 : k < 40) (hi : i ≤ 12) : fX5_readHead (nI i) c = if k = 16 then (if i < 12 then br (fX7_step c) (fun s => some (nI 1, s)) else some (nI 0, ui c 40 3 (nI (1 + 8 * a + 4)))) else some (nI 0, ui c 40 3 (nI (1 + 8 * a + 0))) := by
  unfold fX5_readHead
  simp (disch := omega) only [lit_nI, h5, eq_nI, lt_nI, rfail_w h6]
/-- behind the sum of a clause -/
theorem takes_v {T S j k e' v : Nat} {t : Nat → Nat} {pos : Nat → Nat} {c m : St} (h : LK t T S pos j (pos j) c m) (tk : Tok t T (pos j) k e' v) : fX10_takes 22 m = some (if k = 17 then (nI 1, ui m 500 30 (nI (pos j + 2))) else (nI 0, m)) := by
  obtain ⟨b1, b2⟩ := h.blank
  have p30 : m.1 500 30 = nI (pos j) := h.2.2.2.2.1
  rw [ui_same p30] at b1 b2
  have s22 : fX10_stood 22 m = some (if k = 17 then nI 1 else nI 0) := stood_k (w := 17) h tk (by omega)
  have l22 : fJ0_length_8abf5 22 = some (nI 2) := by
    have := (len_v 22 (by omega)).1
    rw [show slN 22 = 2 from sl_3.2.2.2.1] at this
    exact this
  unfold fX10_takes
  simp only [lit_nI]
  rw [b1, br_some, s22, br_some, l22, br_some, p30]
  by_cases z : k = 17
  · rw [if_pos z, if_pos z, f1_ite, nI_add, nm_eq]
    rfl
  · rw [if_neg z, if_neg z, f0_ite, nI_add, nm_eq, Nat.add_zero, ui_same p30]
    rfl
