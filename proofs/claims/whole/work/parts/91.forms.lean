/-! clauses of a duchy's text -/
theorem L83_go {f i N n : Nat} {p : Int32} {c : St} (hf : f < 6) (hN : numT.getD f (nI 0) = nI N) (hi : i < N) (hN3 : N ≤ 3) : fX0_readClause_L83 p (n + 1) (nI f) (nI i) c = bw (fX0_readNumber (nI f) (nI i) c) (fun x s => if x = nI 0 then some (nI 0, s) else fX0_readClause_L83 p n (nI f) (nI (i + 1)) s) := by
  rw [fX0_readClause_L83]
  simp (disch := omega) only [lit_nI, gd_ix, cl_nI, hN, le_nI, nI_add, nm_eq]
  rw [if_neg (by omega)]
theorem L83_end {f i N n : Nat} {p : Int32} {c : St} (hf : f < 6) (hN : numT.getD f (nI 0) = nI N) (hi : i = N) (hN3 : N ≤ 3) : fX0_readClause_L83 p (n + 1) (nI f) (nI i) c = br (fX0_put (nI f) c) (fun s => some (nI 1, s)) := by
  rw [fX0_readClause_L83]
  simp (disch := omega) only [lit_nI, gd_ix, cl_nI, hN, le_nI]
  rw [if_pos (by omega)]
/-- what the class's reading of a duchy may change -/
def CD (c c1 : St) : Prop := (∀ k, k < 20 ∨ (33 ≤ k ∧ k < 100) ∨ 114 ≤ k → c1.1 k = c.1 k) ∧ c1.2 = c.2
theorem CD.rf {c : St} : CD c c := ⟨fun _ _ => rfl, rfl⟩
theorem CD.tr {c c1 c2 : St} (h1 : CD c c1) (h2 : CD c1 c2) : CD c c2 := ⟨fun k a => (h2.1 k a).trans (h1.1 k a), h2.2.trans h1.2⟩
theorem CD.ui {c : St} {k i : Nat} {v : Int32} (h : (20 ≤ k ∧ k < 33) ∨ (100 ≤ k ∧ k < 114)) : CD c (ui c k i v) := ⟨fun k' h1 => ui_ne (by omega), rfl⟩
theorem NC.cd {i v : Nat} {c c1 : St} (h : NC i v c c1) : CD c c1 := ⟨fun k hk => h.1 k (by omega) (by omega), h.2.2.2⟩
theorem CS1.cd {c c1 : St} (h : CS1 c c1) : CD c c1 := ⟨fun k hk => h.1 k (by omega), h.2.2⟩
/-- a house of the draft -/
def HR (H h : Nat) (c m : St) : Prop := c.1 113 h = m.1 521 h ∧ c.1 113 (8 + h) = m.1 522 h ∧ c.1 109 h = m.1 523 h ∧ c.1 113 (16 + h) = m.1 524 h ∧ c.1 110 h = m.1 525 h ∧ c.1 113 (24 + h) = -nI 1 ∧ (∃ w, w ≤ 999 ∧ m.1 521 h = nI w) ∧ (∃ w, w ≤ 20 ∧ m.1 523 h = nI w) ∧ (∃ w, w ≤ 99 ∧ m.1 524 h = nI w) ∧ ∃ w, w < 2 ^ H ∧ m.1 525 h = nI w
/-- the drafts of class and reference -/
def DR (H O N Z : Nat) (c m : St) : Prop :=
  (H ≤ 8 ∧ O ≤ 3 ∧ N ≤ 6 ∧ Z ≤ 12) ∧ (c.1 100 0 = nI 1 ∧ c.1 100 1 = m.1 520 0 ∧ c.1 100 2 = m.1 520 1 ∧ c.1 100 3 = m.1 520 2) ∧ (c.1 100 4 = nI H ∧ m.1 520 3 = nI H ∧ c.1 100 5 = nI Z ∧ m.1 520 4 = nI Z ∧ c.1 100 6 = nI O ∧ m.1 520 5 = nI O ∧ c.1 100 7 = nI N ∧ m.1 520 6 = nI N) ∧ ((∃ x, x ≤ 100 ∧ m.1 520 0 = nI x) ∧ ∃ x, x ≤ 20 ∧ m.1 520 1 = nI x) ∧ (∀ h, h < H → HR H h c m) ∧ (∀ h, H ≤ h → h < 8 → c.1 113 (16 + h) = nI 0 ∧ c.1 110 h = nI 0) ∧ (∀ q, q < O → c.1 113 (32 + q) = m.1 526 q ∧ c.1 111 q = m.1 527 q ∧ (∃ k, k < H ∧ m.1 526 q = nI k) ∧ ∃ s, s ≤ 200 ∧ m.1 527 q = nI s) ∧ (∀ i, 35 ≤ i → i < 41 → c.1 113 i = nI 0) ∧ (∀ k, k < 100000 → ((∃ j, j < N ∧ c.1 112 j = nI k) ↔ k < 100 ∧ m.1 528 k = nI 1)) ∧ ∀ h k, h < H → k < H → (tb (m.1 525 h) k ↔ tb (m.1 525 k) h)
theorem DR.cg {H O N Z : Nat} {c m c1 m1 : St} (h : DR H O N Z c m) (hc : ∀ k, 100 ≤ k → k < 114 → c1.1 k = c.1 k) (hm : ∀ k, 520 ≤ k → k ≤ 528 → m1.1 k = m.1 k) : DR H O N Z c1 m1 := by
  unfold DR HR at h ⊢
  rw [hc 100 (by omega) (by omega), hc 109 (by omega) (by omega), hc 110 (by omega) (by omega), hc 111 (by omega) (by omega), hc 112 (by omega) (by omega), hc 113 (by omega) (by omega), hm 520 (by omega) (by omega), hm 521 (by omega) (by omega), hm 522 (by omega) (by omega), hm 523 (by omega) (by omega), hm 524 (by omega) (by omega), hm 525 (by omega) (by omega), hm 526 (by omega) (by omega), hm 527 (by omega) (by omega), hm 528 (by omega) (by omega)]
  exact h
/-- how a clause ends on both sides -/
def CO (t : Nat → Nat) (T S : Nat) (pos : Nat → Nat) (c m : St) (rc : Option (Int32 × St)) (rm : Option St) : Prop :=
  (∃ F c1 m1, rc = some (nI 0, c1) ∧ rm = some m1 ∧ c1.1 30 2 = nI F ∧ FD F t T m1 ∧ CD c c1 ∧ MD m m1) ∨ ∃ c1 m1 j1 p1 H O N Z, rc = some (nI 1, c1) ∧ rm = some m1 ∧ LK t T S pos j1 p1 c1 m1 ∧ m1.1 500 31 = nI 0 ∧ CD c c1 ∧ MD m m1 ∧ DR H O N Z c1 m1
theorem CO.no {t : Nat → Nat} {T S F : Nat} {pos : Nat → Nat} {c c' m m1 : St} {rc : Option (Int32 × St)} {rm : Option St} (h1 : rc = some (nI 0, ui c' 30 2 (nI F))) (h2 : rm = some m1) (h3 : FD F t T m1) (h4 : CD c c') (h5 : MD m m1) : CO t T S pos c m rc rm := Or.inl ⟨F, _, m1, h1, h2, by rw [ui_rd, if_pos rfl, if_pos rfl], h3, h4.tr (CD.ui (Or.inl ⟨by omega, by omega⟩)), h5⟩
theorem e31 {m : St} {k i : Nat} {v : Int32} (h : m.1 500 31 = nI 0) (hk : k ≠ 500 ∨ i ≠ 31) : (ui m k i v).1 500 31 = nI 0 := by
  rw [ui_rd]
  by_cases e : 500 = k
  · rw [if_pos e, if_neg (by omega)]
    exact h
  · rw [if_neg e]
    exact h
theorem u30 {m : St} {e : Nat} : MD m (ui m 500 30 (nI e)) := MD.ui (Or.inr ⟨rfl, Or.inl rfl⟩)
theorem f0_ite {α : Type} {x y : α} : (if nI 0 = nI 0 then x else y) = x := if_pos rfl
theorem f1_ite {α : Type} {x y : α} : (if nI 1 = nI 0 then x else y) = y := if_neg (by rw [n10]; exact id)
theorem form0 {t : Nat → Nat} {T S j p n H O N Z : Nat} {pos : Nat → Nat} {c m : St} {pc : Int32} (h : LK t T S pos j p c m) (h0 : m.1 500 31 = nI 0) (hd : DR H O N Z c m) : CO t T S pos c m (fX0_readClause_L83 pc (n + 4) (nI 0) (nI 0) c) (fX10_duchyPart (nI 0) m) := by
  unfold fX10_duchyPart
  simp only [lit_nI, if_true]
  rw [L83_go (N := 3) (by omega) rfl (by omega) (by omega)]
  rcases num_v (f := 0) (i := 0) (lo := 0) (hi := nI 100) h h0 (by omega) (by omega) (by omega) rfl ((if_neg (by decide)).trans rfl) with ⟨F, x, m1, a1, a2, a3, a4, a5⟩ | ⟨v0, e0, c1, v09, -, v01, a1, a2, a3, a4⟩
  · rw [a1, a2]
    simp only [bw_some, nm_eq, f0_ite]
    obtain ⟨m2, b1, b2, b3, b4⟩ := (a3.ui (k := 520) (i := 0) (v := x) (by omega) (by omega)).amt (nI 0) (nI 20)
    rw [b1]
    simp only [bw_some, nm_eq]
    obtain ⟨m3, d1, d2, d3, d4⟩ := (b2.ui (k := 520) (i := 1) (v := nI 0) (by omega) (by omega)).amt (nI 0) (nI 50)
    rw [d1]
    simp only [bw_some, nm_eq]
    exact CO.no rfl rfl (d2.ui (by omega) (by omega)) CD.rf (((((a4.tr (MD.ui (by omega))).tr b3).tr (MD.ui (by omega))).tr d3).tr (MD.ui (by omega)))
  · rw [a1, a2]
    simp only [bw_some, nm_eq, f1_ite]
    rw [L83_go (N := 3) (by omega) rfl (by omega) (by omega)]
    have g1 : LK t T S pos (j + 1) e0 c1 (ui (ui m 500 30 (nI e0)) 520 0 (nI v0)) := a3.of (fun _ _ _ => rfl) (by rw [ui_ne (by omega)]) (by rw [ui_ne (by omega)]) (by rw [ui_ne (by omega)])
    have z1 : (ui (ui m 500 30 (nI e0)) 520 0 (nI v0)).1 500 31 = nI 0 := e31 (e31 h0 (by omega)) (by omega)
    have w1 : MD m (ui (ui m 500 30 (nI e0)) 520 0 (nI v0)) := u30.tr (MD.ui (by omega))
    rcases num_v (f := 0) (i := 1) (lo := 0) (hi := nI 20) g1 z1 (by omega) (by omega) (by omega) rfl ((if_neg (by decide)).trans rfl) with ⟨F, x, m2, b1, b2, b3, b4, b5⟩ | ⟨v1, e1, c2, v19, -, v11, b1, b2, b3, b4⟩
    · rw [b1, b2]
      simp only [bw_some, nm_eq, f0_ite]
      obtain ⟨m3, d1, d2, d3, d4⟩ := (b3.ui (k := 520) (i := 1) (v := x) (by omega) (by omega)).amt (nI 0) (nI 50)
      rw [d1]
      simp only [bw_some, nm_eq]
      exact CO.no rfl rfl (d2.ui (by omega) (by omega)) a4.cd ((((w1.tr b4).tr (MD.ui (by omega))).tr d3).tr (MD.ui (by omega)))
    · rw [b1, b2]
      simp only [bw_some, nm_eq, f1_ite]
      rw [L83_go (N := 3) (by omega) rfl (by omega) (by omega)]
      have g2 : LK t T S pos (j + 1 + 1) e1 c2 (ui (ui (ui (ui m 500 30 (nI e0)) 520 0 (nI v0)) 500 30 (nI e1)) 520 1 (nI v1)) := b3.of (fun _ _ _ => rfl) (by rw [ui_ne (by omega)]) (by rw [ui_ne (by omega)]) (by rw [ui_ne (by omega)])
      have z2 : (ui (ui (ui (ui m 500 30 (nI e0)) 520 0 (nI v0)) 500 30 (nI e1)) 520 1 (nI v1)).1 500 31 = nI 0 := e31 (e31 z1 (by omega)) (by omega)
      have w2 : MD m (ui (ui (ui (ui m 500 30 (nI e0)) 520 0 (nI v0)) 500 30 (nI e1)) 520 1 (nI v1)) := (w1.tr u30).tr (MD.ui (by omega))
      rcases num_v (f := 0) (i := 2) (lo := 0) (hi := nI 50) g2 z2 (by omega) (by omega) (by omega) rfl ((if_neg (by decide)).trans rfl) with ⟨F, x, m3, d1, d2, d3, d4, d5⟩ | ⟨v2, e2, c3, v29, -, v21, d1, d2, d3, d4⟩
      · rw [d1, d2]
        simp only [bw_some, nm_eq, f0_ite]
        exact CO.no rfl rfl (d3.ui (by omega) (by omega)) (a4.cd.tr b4.cd) ((w2.tr d4).tr (MD.ui (by omega)))
      · rw [d1, d2]
        simp only [bw_some, nm_eq, f1_ite]
        rw [L83_end (N := 3) (by omega) rfl rfl (by omega)]
        have s2 : c3.1 32 2 = nI v2 := d4.2.1
        have s1 : c3.1 32 1 = nI v1 := by rw [d4.2.2.1 1 (by omega), b4.2.1]
        have s0 : c3.1 32 0 = nI v0 := by rw [d4.2.2.1 0 (by omega), b4.2.2.1 0 (by omega), a4.2.1]
        have hc : ∀ k, k ≠ 20 → k ≠ 32 → c3.1 k = c.1 k := fun k k1 k2 => by rw [d4.1 k k1 k2, b4.1 k k1 k2, a4.1 k k1 k2]
        unfold fX0_put
        simp only [lit_nI, if_true, ↓nm_eq, ui_rd, Nat.reduceEqDiff, if_false, s0, s1, s2, br_some]
        refine Or.inr ⟨_, _, j + 1 + 1 + 1, e2, H, O, N, Z, rfl, rfl, ?_, ?_, ?_, ?_, ?_⟩
        · refine d3.of (fun k k1 k2 => ?_) (by rw [ui_ne (by omega)]) (by rw [ui_ne (by omega)]) (by rw [ui_ne (by omega)])
          rw [ui_ne (by omega), ui_ne (by omega), ui_ne (by omega)]
        · exact e31 (e31 z2 (by omega)) (by omega)
        · exact (((a4.cd.tr b4.cd).tr d4.cd).tr (CD.ui (by omega))).tr ((CD.ui (by omega)).tr (CD.ui (by omega)))
        · exact (w2.tr u30).tr (MD.ui (by omega))
        · rw [nI_toInt (by omega)] at v01 v11 v21
          obtain ⟨q1, ⟨q2, q3, q4, q5⟩, q6, q7, q8, q9, q10, q11, q12, q13⟩ := hd
          unfold DR HR
          simp only [ui_rd, Nat.reduceEqDiff, if_true, if_false, hc 100 (by omega) (by omega), hc 109 (by omega) (by omega), hc 110 (by omega) (by omega), hc 111 (by omega) (by omega), hc 112 (by omega) (by omega), hc 113 (by omega) (by omega)]
          exact ⟨q1, ⟨q2, trivial, trivial, trivial⟩, q6, ⟨⟨v0, by omega, rfl⟩, v1, by omega, rfl⟩, q8, q9, q10, q11, q12, q13⟩
