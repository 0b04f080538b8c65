/-! a clause of a duchy, by its first word -/
def dW (f : Nat) : Nat := [12, 1, 13, 14, 0, 15].getD f 0
def fmK (k : Nat) : Nat := if k = 12 then 0 else if k = 1 then 1 else if k = 13 then 2 else if k = 14 then 3 else if k = 0 then 4 else if k = 15 then 5 else 6
theorem dword : ∀ f, f < 6 → fX10_duchyWord (nI f) = some (wJ (dW f)) ∧ dW f < 21 := by decide +kernel
theorem fmK_1 : ∀ f, f < 6 → ∀ k, k < 40 → (k = dW f ↔ fmK k = f) := by decide +kernel
theorem fmK_c : ∀ k, k < 40 → fX0_formOf (nI k) = some (if fmK k = 6 then -nI 1 else nI (fmK k)) ∧ fmK k ≤ 6 := by decide +kernel
theorem dcl_L {t : Nat → Nat} {T S j k e v : Nat} {pos : Nat → Nat} {c m : St} {pn y2 : Int32} (h : LK t T S pos j (pos j) c m) (ht : Tok t T (pos j) k e v) (k9 : k < 40) : ∀ (d f n : Nat), f + d = 6 → d < n → f ≤ fmK k → fX10_duchyClause_L11 pn n y2 (nI f) m = fX10_duchyClause_B34 pn y2 (nI (fmK k)) m := by
  intro d
  induction d with
  | zero =>
    intro f n hf hn hk
    obtain ⟨n, rfl⟩ : ∃ j, n = j + 1 := ⟨n - 1, by omega⟩
    have := (fmK_c k k9).2
    rw [fX10_duchyClause_L11]
    simp (disch := omega) only [lit_nI, le_nI]
    rw [if_pos (by omega), show fmK k = f by omega]
  | succ d ih =>
    intro f n hf hn hk
    obtain ⟨n, rfl⟩ : ∃ j, n = j + 1 := ⟨n - 1, by omega⟩
    obtain ⟨w1, w2⟩ := dword f (by omega)
    have w3 := (words_t (dW f) w2).2.2.2.1
    rw [fX10_duchyClause_L11]
    simp (disch := omega) only [lit_nI, le_nI, w1, br_some, stood_k h ht w2, decide_eq_true w3, gd_tt, nI_add, nm_eq]
    rw [if_neg (by omega)]
    by_cases q : k = dW f
    · rw [if_pos q, if_neg (by rw [n10]; exact id), (fmK_1 f (by omega) k k9).mp q]
    · rw [if_neg q, if_pos rfl]
      have : fmK k ≠ f := fun z => q ((fmK_1 f (by omega) k k9).mpr z)
      exact ih (f + 1) n (by omega) (by omega) (by omega)
/-- no room for a clause of this form -/
def Fll (f n H O N Z : Nat) : Prop := n = 40 ∨ (f = 0 ∧ n ≠ 0) ∨ (f ≠ 0 ∧ n = 0) ∨ (f = 1 ∧ H = 8) ∨ (f = 2 ∧ Z = 12) ∨ (f = 4 ∧ O = 3) ∨ (f = 5 ∧ N = 6)
theorem rfull_v {f n H O N Z : Nat} {c m : St} (hd : DR H O N Z c m) (hf : f < 6) (hn : n ≤ 40) : ∃ x, fX10_isFull m (nI f) (nI n) = some x ∧ ((x = nI 1 ∧ Fll f n H O N Z) ∨ (x = nI 0 ∧ ¬ Fll f n H O N Z)) := by
  obtain ⟨⟨d1, d2, d3, d4⟩, -, ⟨-, m3, -, m4, -, m5, -, m6⟩, -⟩ := hd
  have h24 : ∀ z0 z1 : Int32, fX10_isFull_B24 (nI f) (nI n) m z0 z1 = if z1 = z0 then (if (f = 1 ∧ H = 8) ∨ (f = 2 ∧ Z = 12) ∨ (f = 4 ∧ O = 3) ∨ (f = 5 ∧ N = 6) then some (nI 1) else some (nI 0)) else some (nI 1) := by
    intro z0 z1
    unfold fX10_isFull_B24
    rw [m3, m4, m5, m6]
    by_cases q : z1 = z0
    · rw [if_pos q, if_pos q]
      simp (disch := omega) only [lit_nI, eq_nI]
      by_cases f1 : f = 1
      · rw [if_pos f1]
        by_cases z : H = 8
        · rw [if_pos z, if_pos (by omega)]
        · rw [if_neg z, if_neg (by omega)]
      · rw [if_neg f1]
        by_cases f2 : f = 2
        · rw [if_pos f2]
          by_cases z : Z = 12
          · rw [if_pos z, if_pos (by omega)]
          · rw [if_neg z, if_neg (by omega)]
        · rw [if_neg f2]
          by_cases f4 : f = 4
          · rw [if_pos f4]
            by_cases z : O = 3
            · rw [if_pos z, if_pos (by omega)]
            · rw [if_neg z, if_neg (by omega)]
          · rw [if_neg f4]
            by_cases f5 : f = 5
            · rw [if_pos f5]
              by_cases z : N = 6
              · rw [if_pos z, if_pos (by omega)]
              · rw [if_neg z, if_neg (by omega)]
            · rw [if_neg f5, if_neg (by omega)]
    · rw [if_neg q, if_neg q]
      rfl
  have h40 : (nI n = (40 : Int32)) = (n = 40) := eq_nI (b := 40) (by omega) (by omega)
  have hn0 : (nI n = (0 : Int32)) = (n = 0) := eq_nI (b := 0) (by omega) (by omega)
  have hf0 : (nI f = (0 : Int32)) = (f = 0) := eq_nI (b := 0) (by omega) (by omega)
  have g24 : ∀ z : Int32, (if z = z then (if (f = 1 ∧ H = 8) ∨ (f = 2 ∧ Z = 12) ∨ (f = 4 ∧ O = 3) ∨ (f = 5 ∧ N = 6) then some (nI 1) else some (nI 0)) else some (nI 1)) = (if (f = 1 ∧ H = 8) ∨ (f = 2 ∧ Z = 12) ∨ (f = 4 ∧ O = 3) ∨ (f = 5 ∧ N = 6) then some (nI 1) else some (nI 0)) := fun z => if_pos rfl
  unfold fX10_isFull fX10_isFull_B15
  simp only [h40, hn0, hf0, h24]
  unfold Fll
  by_cases n40 : n = 40
  · rw [if_pos n40]
    exact ⟨_, rfl, Or.inl ⟨rfl, by omega⟩⟩
  · rw [if_neg n40]
    by_cases f0 : f = 0
    · rw [if_pos f0]
      by_cases n0 : n = 0
      · rw [if_pos n0]
        simp only [if_true]
        rw [if_neg (by omega)]
        exact ⟨_, rfl, Or.inr ⟨rfl, by omega⟩⟩
      · rw [if_neg n0, if_neg (by decide)]
        exact ⟨_, rfl, Or.inl ⟨rfl, by omega⟩⟩
    · rw [if_neg f0]
      by_cases n0 : n = 0
      · rw [if_pos n0, if_neg (by decide)]
        exact ⟨_, rfl, Or.inl ⟨rfl, by omega⟩⟩
      · rw [if_neg n0]
        simp only [if_true]
        by_cases z : (f = 1 ∧ H = 8) ∨ (f = 2 ∧ Z = 12) ∨ (f = 4 ∧ O = 3) ∨ (f = 5 ∧ N = 6)
        · rw [if_pos z]
          exact ⟨_, rfl, Or.inl ⟨rfl, by omega⟩⟩
        · rw [if_neg z]
          exact ⟨_, rfl, Or.inr ⟨rfl, by omega⟩⟩
theorem cfull_v {f H O N Z : Nat} {c m : St} (hd : DR H O N Z c m) (hf : f < 6) : ∃ x, fX0_isFull c (nI f) = some x ∧ ((x = nI 1 ∧ ((f = 1 ∧ H = 8) ∨ (f = 2 ∧ Z = 12) ∨ (f = 4 ∧ O = 3) ∨ (f = 5 ∧ N = 6))) ∨ (x = nI 0 ∧ ¬ ((f = 1 ∧ H = 8) ∨ (f = 2 ∧ Z = 12) ∨ (f = 4 ∧ O = 3) ∨ (f = 5 ∧ N = 6)))) := by
  obtain ⟨⟨d1, d2, d3, d4⟩, -, ⟨m3, -, m4, -, m5, -, m6, -⟩, -⟩ := hd
  unfold fX0_isFull
  simp (disch := omega) only [lit_nI, m3, m4, m5, m6, eq_nI, lt_nI]
  by_cases f1 : f = 1
  · rw [if_pos f1]
    by_cases z : H < 8
    · rw [if_pos z]
      exact ⟨_, rfl, Or.inr ⟨rfl, by omega⟩⟩
    · rw [if_neg z]
      exact ⟨_, rfl, Or.inl ⟨rfl, by omega⟩⟩
  · rw [if_neg f1]
    by_cases f2 : f = 2
    · rw [if_pos f2]
      by_cases z : Z < 12
      · rw [if_pos z]
        exact ⟨_, rfl, Or.inr ⟨rfl, by omega⟩⟩
      · rw [if_neg z]
        exact ⟨_, rfl, Or.inl ⟨rfl, by omega⟩⟩
    · rw [if_neg f2]
      by_cases f4 : f = 4
      · rw [if_pos f4]
        by_cases z : O < 3
        · rw [if_pos z]
          exact ⟨_, rfl, Or.inr ⟨rfl, by omega⟩⟩
        · rw [if_neg z]
          exact ⟨_, rfl, Or.inl ⟨rfl, by omega⟩⟩
      · rw [if_neg f4]
        by_cases f5 : f = 5
        · rw [if_pos f5]
          by_cases z : N < 6
          · rw [if_pos z]
            exact ⟨_, rfl, Or.inr ⟨rfl, by omega⟩⟩
          · rw [if_neg z]
            exact ⟨_, rfl, Or.inl ⟨rfl, by omega⟩⟩
        · rw [if_neg f5]
          exact ⟨_, rfl, Or.inr ⟨rfl, by omega⟩⟩
theorem cclause_v {f n a H O N Z : Nat} {c m : St} (hd : DR H O N Z c m) (hf : f < 6) (hn : n ≤ 40) (h6 : c.1 20 6 = nI a) (h5 : fX0_formOf (c.1 20 5) = some (nI f)) : (Fll f n H O N Z ∧ fX0_readClause (nI n) c = some (nI 0, ui c 30 2 (nI (1 + 8 * a + 4)))) ∨ (¬ Fll f n H O N Z ∧ fX0_readClause (nI n) c = br (fX7_step c) (fun s => fX0_readClause_L83 (nI n) 10000 (nI f) (nI 0) s)) := by
  have hfl : bw (fX0_fail (nI 4) c) (fun x5 s4 => gd (bz x5) (some (x5, s4))) = some (nI 0, ui c 30 2 (nI (1 + 8 * a + 4))) := by
    rw [dfail_v h6, bw_some]
    rfl
  have hm1 : ¬ nI f = -nI 1 := fun q => by
    have q2 := congrArg Int32.toInt q
    rw [nI_toInt (by omega), show (-nI 1).toInt = -1 by decide] at q2
    omega
  obtain ⟨x, x1, x2⟩ := cfull_v hd hf
  have h48 : ∀ z0 : Int32, fX0_readClause_B48 (nI n) (nI f) z0 c = if n = 40 ∨ z0 = nI 0 ∨ ((f = 1 ∧ H = 8) ∨ (f = 2 ∧ Z = 12) ∨ (f = 4 ∧ O = 3) ∨ (f = 5 ∧ N = 6)) then some (nI 0, ui c 30 2 (nI (1 + 8 * a + 4))) else br (fX7_step c) (fun s => fX0_readClause_L83 (nI n) 10000 (nI f) (nI 0) s) := by
    intro z0
    unfold fX0_readClause_B48
    simp (disch := omega) only [lit_nI, le_nI, hfl, x1, br_some]
    by_cases q1 : 40 ≤ n
    · rw [if_pos q1, if_pos (Or.inl (by omega))]
    · rw [if_neg q1]
      by_cases q2 : z0 = nI 0
      · rw [if_pos q2, if_pos (Or.inr (Or.inl q2))]
      · rw [if_neg q2]
        rcases x2 with ⟨rfl, q3⟩ | ⟨rfl, q3⟩
        · rw [if_neg (by rw [n10]; exact id), if_pos (Or.inr (Or.inr q3))]
        · rw [if_pos rfl, if_neg (fun z => z.elim (fun w => q1 (by omega)) (fun z => z.elim q2 q3))]
  unfold fX0_readClause fX0_readClause_B31 fX0_readClause_B40
  rw [h5, br_some]
  simp (disch := omega) only [lit_nI, eq_nI, h48]
  rw [if_neg hm1]
  unfold Fll
  by_cases f0 : f = 0
  · rw [if_pos f0]
    by_cases n0 : n = 0
    · rw [if_pos n0, if_pos trivial, if_neg (by omega)]
      exact Or.inr ⟨by omega, rfl⟩
    · rw [if_neg n0, if_neg (by omega), if_pos (Or.inr (Or.inl trivial))]
      exact Or.inl ⟨by omega, rfl⟩
  · rw [if_neg f0]
    by_cases n0 : n = 0
    · rw [if_pos n0, if_neg (by omega), if_pos (Or.inr (Or.inl trivial))]
      exact Or.inl ⟨by omega, rfl⟩
    · rw [if_neg n0, if_pos trivial]
      by_cases z : n = 40 ∨ 1 = 0 ∨ ((f = 1 ∧ H = 8) ∨ (f = 2 ∧ Z = 12) ∨ (f = 4 ∧ O = 3) ∨ (f = 5 ∧ N = 6))
      · rw [if_pos z]
        exact Or.inl ⟨by omega, rfl⟩
      · rw [if_neg z]
        exact Or.inr ⟨by omega, rfl⟩
theorem CO.wk {t : Nat → Nat} {T S : Nat} {pos : Nat → Nat} {c c' m m' : St} {rc : Option (Int32 × St)} {rm : Option St} (h : CO t T S pos c' m' rc rm) (h1 : CD c c') (h2 : MD m m') : CO t T S pos c m rc rm := by
  rcases h with ⟨F, c1, m1, a1, a2, a3, a4, a5, a6⟩ | ⟨c1, m1, j1, p1, H, O, N, Z, a1, a2, a3, a4, a5, a6, a7⟩
  · exact Or.inl ⟨F, c1, m1, a1, a2, a3, a4, h1.tr a5, h2.tr a6⟩
  · exact Or.inr ⟨c1, m1, j1, p1, H, O, N, Z, a1, a2, a3, a4, h1.tr a5, h2.tr a6, a7⟩
theorem dclause_v {t : Nat → Nat} {T S j p n H O N Z : Nat} {pos : Nat → Nat} {c m : St} (h : LK t T S pos j p c m) (h0 : m.1 500 31 = nI 0) (hd : DR H O N Z c m) (hn : n ≤ 40) : (n < 40 ∨ ∃ F c1 m1, fX0_readClause (nI n) c = some (nI 0, c1) ∧ fX10_duchyClause (nI n) m = some m1 ∧ c1.1 30 2 = nI F ∧ FD F t T m1 ∧ CD c c1 ∧ MD m m1) ∧ CO t T S pos c m (fX0_readClause (nI n) c) (fX10_duchyClause (nI n) m) := by
  obtain ⟨k, e, v, k9, v9, t5, t6, t7, tk, p1, p2, e9, tj, tS, tn⟩ := h.tok
  obtain ⟨b1, b2⟩ := h.blank
  have hT := h.pos.1
  have hb := h.byte
  have z1 : (ui m 500 30 (nI (pos j))).1 500 31 = nI 0 := e31 h0 (by omega)
  have p30 : (ui m 500 30 (nI (pos j))).1 500 30 = nI (pos j) := by rw [ui_rd, if_pos rfl, if_pos rfl]
  have hd' : DR H O N Z c (ui m 500 30 (nI (pos j))) := hd.cg (fun _ _ _ => rfl) (fun k k1 k2 => ui_ne (by omega))
  have hcl : fX10_duchyClause (nI n) m = fX10_duchyClause_B34 (nI n) (nI (pos j)) (nI (fmK k)) (ui m 500 30 (nI (pos j))) := by
    unfold fX10_duchyClause
    rw [b1, br_some, nm_eq, p30]
    exact dcl_L b2 tk k9 6 0 10000 (by omega) (by omega) (by omega)
  obtain ⟨f1, f2⟩ := fmK_c k k9
  have fdl : ∀ x, x ≤ 4 → FD (1 + 8 * pos j + x) t T (flt (ui m 500 30 (nI (pos j))) (pos j) x) := by
    intro x hx
    refine ⟨(h.2.2.2.1.ui (by omega) (by omega)).ui (by omega) (by omega), ⟨pos j, by omega, ?_⟩, flt_rd, by omega, by omega⟩
    unfold flt
    rw [ui_rd, if_pos rfl, if_neg (by omega), ui_rd, if_pos rfl, if_pos rfl]
  have mdl : ∀ x, MD m (flt (ui m 500 30 (nI (pos j))) (pos j) x) := by
    intro x
    unfold flt
    exact u30.tr (MD.ui (by omega))
  have fin : ∀ x, x ≤ 4 → fX0_readClause (nI n) c = some (nI 0, ui c 30 2 (nI (1 + 8 * pos j + x))) → fX10_duchyClause (nI n) m = some (flt (ui m 500 30 (nI (pos j))) (pos j) x) → ((n < 40 ∨ ∃ F c1 m1, fX0_readClause (nI n) c = some (nI 0, c1) ∧ fX10_duchyClause (nI n) m = some m1 ∧ c1.1 30 2 = nI F ∧ FD F t T m1 ∧ CD c c1 ∧ MD m m1) ∧ CO t T S pos c m (fX0_readClause (nI n) c) (fX10_duchyClause (nI n) m)) := by
    intro x hx q1 q2
    have := CO.no (S := S) (pos := pos) q1 q2 (fdl x hx) CD.rf (mdl x)
    refine ⟨Or.inr ⟨_, _, _, q1, q2, by rw [ui_rd, if_pos rfl, if_pos rfl], fdl x hx, CD.ui (by omega), mdl x⟩, this⟩
  by_cases q6 : fmK k = 6
  · refine fin 0 (by omega) ?_ ?_
    · rw [if_pos q6] at f1
      unfold fX0_readClause
      simp only [lit_nI]
      rw [t5, f1, br_some, if_pos rfl, dfail_v t6, bw_some]
      rfl
    · rw [hcl, q6]
      unfold fX10_duchyClause_B34
      simp only [lit_nI, if_true]
      rw [fails_v z1, br_some]
  · rw [if_neg q6, ← t5] at f1
    have hf : fmK k < 6 := by omega
    obtain ⟨x, x1, x2⟩ := rfull_v (n := n) hd' hf hn
    have hkw : k = dW (fmK k) := (fmK_1 (fmK k) hf k k9).mpr rfl
    obtain ⟨w1, w2⟩ := dword (fmK k) hf
    have hk21 : k < 21 := by omega
    rw [← hkw] at w1
    obtain ⟨-, -, -, w3, -⟩ := words_t k hk21
    obtain ⟨l1, l2⟩ := len_v (wJ k) w3
    obtain ⟨e1, e2⟩ := tk.wend (hb (pos j)) hk21
    have h34 : fX10_duchyClause (nI n) m = if x = nI 0 then fX10_duchyPart (nI (fmK k)) (ui m 500 30 (nI e)) else some (flt (ui m 500 30 (nI (pos j))) (pos j) 4) := by
      rw [hcl]
      unfold fX10_duchyClause_B34
      simp (disch := omega) only [lit_nI, eq_nI, x1, br_some, w1, decide_eq_true w3, gd_tt, l1, p30, nI_add, nm_eq, ui_ui, fails_v z1]
      rw [if_neg q6, ← e1]
      rcases x2 with ⟨rfl, -⟩ | ⟨rfl, -⟩
      · rw [f1_ite, f1_ite]
      · rw [f0_ite, f0_ite]
        cases fX10_duchyPart (nI (fmK k)) (ui m 500 30 (nI e)) <;> rfl
    rcases cclause_v hd hf hn t6 f1 with ⟨g1, g2⟩ | ⟨g1, g2⟩
    · rcases x2 with ⟨rfl, x3⟩ | ⟨rfl, x3⟩
      · rw [f1_ite] at h34
        exact fin 4 (by omega) g2 h34
      · exact absurd g1 x3
    · rcases x2 with ⟨rfl, x3⟩ | ⟨rfl, x3⟩
      · exact absurd x3 g1
      · rw [f0_ite] at h34
        have hj : j < S := tn (by omega)
        obtain ⟨j1, j2, j3⟩ := tj hj
        obtain ⟨c1, s1, s2, s3⟩ := h.step hj j3 e9
        rw [s1, br_some] at g2
        have hd1 : DR H O N Z c1 (ui m 500 30 (nI e)) := hd.cg (fun k k1 k2 => s3.1 k (by omega)) (fun k k1 k2 => ui_ne (by omega))
        have z2 : (ui m 500 30 (nI e)).1 500 31 = nI 0 := e31 h0 (by omega)
        refine ⟨Or.inl (by unfold Fll at g1; omega), ?_⟩
        rw [g2, h34]
        refine CO.wk (c' := c1) (m' := ui m 500 30 (nI e)) ?_ s3.cd u30
        unfold Fll at g1
        obtain ⟨⟨d1, d2, d3, d4⟩, -⟩ := hd
        rcases (show fmK k = 0 ∨ fmK k = 1 ∨ fmK k = 2 ∨ fmK k = 3 ∨ fmK k = 4 ∨ fmK k = 5 by omega) with q | q | q | q | q | q <;> rw [q] at g1 ⊢
        · exact form0 (n := 9996) s2 z2 hd1
        · exact form1 (n := 9996) s2 z2 hd1 (by omega)
        · exact form2 (n := 9996) s2 z2 hd1 (by omega)
        · exact form3 (n := 9996) s2 z2 hd1
        · exact form4 (n := 9996) s2 z2 hd1 (by omega)
        · exact form5 (n := 9996) s2 z2 hd1 (by omega)
/-- behind a clause -/
theorem goes_v {t : Nat → Nat} {T S j p : Nat} {pos : Nat → Nat} {c m : St} (h : LK t T S pos j p c m) (h0 : m.1 500 31 = nI 0) : ∃ k a, k < 40 ∧ c.1 20 5 = nI k ∧ c.1 20 6 = nI a ∧ a ≤ 400 ∧ ((k = 23 ∧ ∃ m1, fX10_goesOn m = some (nI 0, m1) ∧ m1.1 500 31 = nI 0 ∧ MD m m1 ∧ ∀ k, k ≠ 500 → m1.1 k = m.1 k) ∨ (k = 25 ∧ ∃ c1 e, fX7_step c = some c1 ∧ fX10_goesOn m = some (nI 1, ui m 500 30 (nI e)) ∧ LK t T S pos (j + 1) e c1 (ui m 500 30 (nI e)) ∧ CS1 c c1 ∧ p < e) ∨ (k ≠ 23 ∧ k ≠ 25 ∧ ∃ m1, fX10_goesOn m = some (nI 0, m1) ∧ m1.1 500 31 = nI (1 + 8 * a + 0) ∧ MD m m1)) := by
  obtain ⟨k, e, v, k9, v9, t5, t6, t7, tk, p1, p2, e9, tj, tS, tn⟩ := h.tok
  obtain ⟨b1, b2⟩ := h.blank
  have hT := h.pos.1
  have hb := h.byte
  have z1 : (ui m 500 30 (nI (pos j))).1 500 31 = nI 0 := e31 h0 (by omega)
  have p30 : (ui m 500 30 (nI (pos j))).1 500 30 = nI (pos j) := by rw [ui_rd, if_pos rfl, if_pos rfl]
  have p29 : (ui m 500 30 (nI (pos j))).1 500 29 = nI T := by
    rw [ui_rd, if_pos rfl, if_neg (by omega)]
    exact h.2.2.2.1.2.1
  have sg := tk.sign (hb (pos j))
  have fi := tk.fin (hb (pos j))
  refine ⟨k, pos j, k9, t5, t6, by omega, ?_⟩
  have b63 : ∀ z s x, s.1 500 30 = nI x → (z = nI 0 ∨ z = nI 1) → fX10_goesOn_B63 z s = some (z, ui s 500 30 (nI (x + 1))) := by
    intro z s x hx hz
    unfold fX10_goesOn_B63
    simp only [lit_nI, hx, nI_add, nm_eq]
    exact gd_b01 hz
  by_cases q23 : k = 23
  · refine Or.inl ⟨q23, ui m 500 30 (nI (pos j + 1)), ?_, e31 h0 (by omega), u30, fun k hk => ui_ne hk⟩
    have hle := fi.mp q23
    unfold fX10_goesOn fX10_goesOn_B40 fX10_goesOn_B62
    simp (disch := omega) only [lit_nI, b1, br_some, z1, if_true, p29, p30, le_nI]
    rw [if_pos hle, if_pos hle, b63 _ _ _ p30 (Or.inl rfl), ui_ui]
  · have hlt : ¬ T ≤ pos j := fun q => q23 (fi.mpr q)
    by_cases q25 : k = 25
    · have hj : j < S := tn (by omega)
      obtain ⟨j1, j2, j3⟩ := tj hj
      obtain ⟨c1, s1, s2, s3⟩ := h.step hj j3 e9
      refine Or.inr (Or.inl ⟨q25, c1, e, s1, ?_, s2, s3, by omega⟩)
      obtain ⟨e1, -, -⟩ := tk.send (by omega) (by omega)
      unfold fX10_goesOn fX10_goesOn_B40 fX10_goesOn_B62
      simp (disch := omega) only [lit_nI, b1, br_some, z1, if_true, p29, p30, le_nI, sign_k b2]
      rw [if_neg hlt, if_neg hlt, if_pos (sg.1.mpr q25), b63 _ _ _ p30 (Or.inr rfl), ui_ui, e1]
    · refine Or.inr (Or.inr ⟨q23, q25, ui (flt (ui m 500 30 (nI (pos j))) (pos j) 0) 500 30 (nI (pos j + 1)), ?_, ?_, ?_⟩)
      · have f31 : ¬ (flt (ui m 500 30 (nI (pos j))) (pos j) 0).1 500 31 = nI 0 := by
          rw [flt_rd]
          exact nz_nI (by omega) (by omega)
        have f30 : (flt (ui m 500 30 (nI (pos j))) (pos j) 0).1 500 30 = nI (pos j) := by
          unfold flt
          rw [ui_rd, if_pos rfl, if_neg (by omega)]
          exact p30
        unfold fX10_goesOn fX10_goesOn_B40 fX10_goesOn_B62
        simp (disch := omega) only [lit_nI, b1, br_some, z1, if_true, p29, p30, le_nI, sign_k b2, fails_v z1]
        rw [if_neg hlt, if_neg hlt, if_neg (fun q => q25 (sg.1.mp q)), if_neg f31, b63 _ _ _ f30 (Or.inl rfl)]
      · rw [ui_rd, if_pos rfl, if_neg (by omega)]
        exact flt_rd
      · unfold flt
        exact (u30.tr (MD.ui (by omega))).tr u30
theorem goes_f {F T : Nat} {t : Nat → Nat} {m : St} (h : FD F t T m) : ∃ m1, fX10_goesOn m = some (nI 0, m1) ∧ m1.1 500 31 = nI F ∧ MD m m1 := by
  obtain ⟨m1, b1, b2, b3, b4⟩ := h.blk
  obtain ⟨-, ⟨p, p1, p2⟩, h3, h4, h5⟩ := b2
  have hz : ¬ m1.1 500 31 = nI 0 := by
    rw [h3]
    exact nz_nI h4 (by omega)
  refine ⟨ui m1 500 30 (nI (p + 1)), ?_, ?_, b3.tr u30⟩
  · unfold fX10_goesOn fX10_goesOn_B40 fX10_goesOn_B62 fX10_goesOn_B63
    simp only [lit_nI, b1, br_some, p2, nI_add, nm_eq]
    rw [if_neg hz, if_neg hz]
    rfl
  · rw [ui_rd, if_pos rfl, if_neg (by omega)]
    exact h3
theorem dloop {t : Nat → Nat} {T S : Nat} {pos : Nat → Nat} : ∀ (d i n1 n2 j p H O N Z : Nat) (c m : St), i + d = 40 → d < n1 → d + 1 < n2 → LK t T S pos j p c m → m.1 500 31 = nI 0 → DR H O N Z c m → ∃ x c1 m1, fX0_read_L22 n1 (nI i) c = some (x, c1) ∧ fX10_readsAll_L50 n2 (nI i) (nI 1) m = some (ui m1 500 29 (nI 0)) ∧ CD c c1 ∧ MD m m1 ∧ ((∃ F, 0 < F ∧ F < 4000 ∧ x = nI F ∧ m1.1 500 31 = nI F) ∨ (x = nI 0 ∧ m1.1 500 31 = nI 0 ∧ ∃ H O N Z, DR H O N Z c1 m1)) := by
  intro d
  induction d with
  | zero =>
    intro i n1 n2 j p H O N Z c m hi h1 h2 h h0 hd
    obtain ⟨n1, rfl⟩ : ∃ j, n1 = j + 1 := ⟨n1 - 1, by omega⟩
    obtain ⟨n2, rfl⟩ : ∃ j, n2 = j + 1 + 1 := ⟨n2 - 2, by omega⟩
    obtain ⟨q1, -⟩ := dclause_v (n := i) h h0 hd (by omega)
    obtain ⟨F, c1, m1, a1, a2, a3, a4, a5, a6⟩ := q1.resolve_left (by omega)
    obtain ⟨m2, b1, b2, b3⟩ := goes_f a4
    refine ⟨nI F, c1, m2, ?_, ?_, a5, a6.tr b3, Or.inl ⟨F, a4.2.2.2.1, a4.2.2.2.2, rfl, b2⟩⟩
    · rw [fX0_read_L22]
      simp (disch := omega) only [lit_nI, lt_nI, a1, bw_some, f0_ite, if_true, a3]
      rw [if_neg (by omega)]
    · rw [fX10_readsAll_L50]
      simp (disch := omega) only [lit_nI, a2, br_some, b1, bw_some, nm_eq, f1_ite]
      rw [fX10_readsAll_L50]
      simp only [lit_nI, f0_ite, if_true, nm_eq]
  | succ d ih =>
    intro i n1 n2 j p H O N Z c m hi h1 h2 h h0 hd
    obtain ⟨n1, rfl⟩ : ∃ j, n1 = j + 1 := ⟨n1 - 1, by omega⟩
    obtain ⟨n2, rfl⟩ : ∃ j, n2 = j + 1 + 1 := ⟨n2 - 2, by omega⟩
    obtain ⟨-, q2⟩ := dclause_v (n := i) h h0 hd (by omega)
    have e50 : ∀ y s, fX10_readsAll_L50 (n2 + 1) y (nI 0) s = some (ui s 500 29 (nI 0)) := by
      intro y s
      rw [fX10_readsAll_L50]
      simp only [lit_nI, f0_ite, if_true, nm_eq]
    rcases q2 with ⟨F, c1, m1, a1, a2, a3, a4, a5, a6⟩ | ⟨c1, m1, j1, p1, H1, O1, N1, Z1, a1, a2, a3, a4, a5, a6, a7⟩
    · obtain ⟨m2, b1, b2, b3⟩ := goes_f a4
      refine ⟨nI F, c1, m2, ?_, ?_, a5, a6.tr b3, Or.inl ⟨F, a4.2.2.2.1, a4.2.2.2.2, rfl, b2⟩⟩
      · rw [fX0_read_L22]
        simp (disch := omega) only [lit_nI, lt_nI, a1, bw_some, f0_ite, if_true, a3]
        rw [if_neg (by omega)]
      · rw [fX10_readsAll_L50]
        simp (disch := omega) only [lit_nI, a2, br_some, b1, bw_some, nm_eq, f1_ite, e50]
    · obtain ⟨k, a, k9, t5, t6, a9, g⟩ := goes_v a3 a4
      rcases g with ⟨rfl, m2, b1, b2, b3, b4⟩ | ⟨rfl, c2, e, b1, b2, b3, b4, -⟩ | ⟨g1, g2, m2, b1, b2, b3⟩
      · refine ⟨nI 0, c1, m2, ?_, ?_, a5, a6.tr b3, Or.inr ⟨rfl, b2, H1, O1, N1, Z1, a7.cg (fun _ _ _ => rfl) (fun k k1 k2 => b4 k (by omega))⟩⟩
        · rw [fX0_read_L22]
          simp (disch := omega) only [lit_nI, lt_nI, a1, bw_some, f1_ite, t5, if_true]
          rw [if_neg (by omega)]
        · rw [fX10_readsAll_L50]
          simp (disch := omega) only [lit_nI, a2, br_some, b1, bw_some, nm_eq, f1_ite, e50]
      · have z2 : (ui m1 500 30 (nI e)).1 500 31 = nI 0 := e31 a4 (by omega)
        obtain ⟨x, c3, m3, d1, d2, d3, d4, d5⟩ := ih (i + 1) n1 (n2 + 1) (j1 + 1) e H1 O1 N1 Z1 c2 (ui m1 500 30 (nI e)) (by omega) (by omega) (by omega) b3 z2 (a7.cg (fun k k1 k2 => b4.1 k (by omega)) (fun k k1 k2 => ui_ne (by omega)))
        refine ⟨x, c3, m3, ?_, ?_, (a5.tr b4.cd).tr d3, (a6.tr u30).tr d4, d5⟩
        · rw [fX0_read_L22]
          simp (disch := omega) only [lit_nI, lt_nI, a1, bw_some, f1_ite, t5, eq_nI, Nat.reduceEqDiff, if_false, if_true, b1, br_some, nI_add, nm_eq, d1]
          rw [if_neg (by omega)]
        · rw [fX10_readsAll_L50]
          simp (disch := omega) only [lit_nI, a2, br_some, b2, bw_some, nm_eq, f1_ite, nI_add, d2]
      · have hF : c1.1 20 6 = nI a := t6
        refine ⟨nI (1 + 8 * a + 0), ui c1 30 2 (nI (1 + 8 * a + 0)), m2, ?_, ?_, a5.tr (CD.ui (by omega)), a6.tr b3, Or.inl ⟨1 + 8 * a + 0, by omega, by omega, rfl, b2⟩⟩
        · rw [fX0_read_L22]
          simp (disch := omega) only [lit_nI, lt_nI, a1, bw_some, f1_ite, t5, eq_nI, dfail_v hF, Nat.reduceEqDiff, if_false]
          rw [if_neg (by omega), if_neg g1, if_neg g2, ui_rd, if_pos rfl, if_pos rfl]
        · rw [fX10_readsAll_L50]
          simp (disch := omega) only [lit_nI, a2, br_some, b1, bw_some, nm_eq, f1_ite, e50]
