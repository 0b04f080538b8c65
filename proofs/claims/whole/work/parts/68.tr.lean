/-! trials of nights -/
theorem and_or_l (x y z : Int32) : x &&& (y ||| z) = (x &&& y) ||| (x &&& z) := Int32.toBitVec_inj.1 BitVec.and_or_distrib_left
theorem and_or_r (x y z : Int32) : (x ||| y) &&& z = (x &&& z) ||| (y &&& z) := Int32.toBitVec_inj.1 BitVec.and_or_distrib_right
theorem or_z (x y : Int32) : x ||| y = nI 0 ↔ x = nI 0 ∧ y = nI 0 := Int32.or_eq_zero_iff
theorem Gr.ne {f f1 p : Int32} (h : Gr f f1) (hf : ¬ f &&& p = nI 0) : ¬ f1 &&& p = nI 0 := by
  obtain ⟨g, e⟩ := h
  rw [e, and_or_r, or_z]
  exact fun q => hf q.1
theorem bit_and : ∀ f, f < 256 → ∀ t, t < 8 → (nI f &&& (nI 1 <<< (nI t &&& nI 31)) = nI 0 ↔ f / 2 ^ t % 2 = 0) := by
  decide +kernel
/-- a trial of nights, begun from c0 and m0 -/
def TR (H O : Nat) (L : List Nat) (c0 m0 : St) (N a : Nat) (c m : St) : Prop := NR H O N a c m ∧ c.1 50 3 = m.1 502 0 ∧ Law L c m ∧ m.1 500 49 = nI 0 ∧ CE c0 c ∧ SV m0 m
/-- rows of trials -/
def RT (a : Nat) : Prop := a = 13 ∨ a = 83 ∨ (72 ≤ a ∧ a ≤ 76)
theorem RT.rs {a : Nat} (h : RT a) : RS a := Or.inr h
theorem TR.step {H O N a : Nat} {L : List Nat} {c0 m0 c m : St} (ha : RT a) (hN : N < 99999) (h : TR H O L c0 m0 N a c m) : ∃ x c1 m1, fX8_pass L a 41 (nI 0) c = some (x, c1) ∧ fX10_goes m = some (x, m1) ∧ TR H O L c0 m0 (N + 1) a c1 m1 ∧ Gr (m.1 502 7) (m1.1 502 7) := by
  obtain ⟨h1, h2, h3, h4, h5, h6⟩ := h
  obtain ⟨x, c1, m1, f1, f2, f3, f4, f5, f6⟩ := pass_v ha.rs hN h1 h2 h3 h4
  have ha' := ha
  unfold RT at ha'
  refine ⟨x, c1, m1, f1, f2, ⟨f3, ?_, h3.keep ha.rs f4 f5, ?_, h5.tr (f4.ce (by omega)), h6.mf f5⟩, f6⟩
  · rw [f4.1 50 (by omega), f5.1 502 0 (by omega) (by omega) (by omega) (by omega) (by omega) (by omega)]
    exact h2
  · rw [f5.1 500 49 (by omega) (by omega) (by omega) (by omega) (by omega) (by omega)]
    exact h4
theorem goFor_v {H O n a : Nat} {L : List Nat} {c0 m0 : St} (ha : RT a) (hn : n < 10000) : ∀ (d i k N : Nat) (c m : St), i + d = n → d < k → N + d < 99999 → TR H O L c0 m0 N a c m → ∃ c1 m1, fX10_goFor_L2 (nI n) k (nI i) m = some m1 ∧ TR H O L c0 m0 (N + d) a c1 m1 ∧ Gr (m.1 502 7) (m1.1 502 7) := by
  intro d
  induction d with
  | zero =>
    intro i k N c m hi hk hN h
    obtain ⟨k, rfl⟩ : ∃ j, k = j + 1 := ⟨k - 1, by omega⟩
    refine ⟨c, m, ?_, h, Gr.rf⟩
    rw [fX10_goFor_L2, if_pos (by rw [le_nI (by omega) (by omega)]; omega)]
  | succ d ih =>
    intro i k N c m hi hk hN h
    obtain ⟨k, rfl⟩ : ∃ j, k = j + 1 := ⟨k - 1, by omega⟩
    obtain ⟨x, c1, m1, f1, f2, f3, f4⟩ := h.step ha (by omega)
    obtain ⟨c2, m2, g1, g2, g3⟩ := ih (i + 1) k (N + 1) c1 m1 (by omega) (by omega) (by omega) f3
    refine ⟨c2, m2, ?_, by rw [show N + (d + 1) = N + 1 + d by omega]; exact g2, f4.tr g3⟩
    rw [fX10_goFor_L2, if_neg (by rw [le_nI (by omega) (by omega)]; omega), f2, bw_some]
    simp only [lit_nI, nm_eq, nI_add]
    exact g1
theorem start_v {R H O : Nat} {L : List Nat} {c0 m0 c m : St} (h : RelP R H O L c m) (hc : CE c0 c) (hm : SV m0 m) : ∃ N c1, N ≤ 999 ∧ fX9_startTrial c = some c1 ∧ TR H O L c0 m0 N 13 c1 m ∧ c1.1 122 = c.1 122 := by
  obtain ⟨N, N9, d1, d2, d3⟩ := h.nr
  have hH := d1.1
  have hO := d1.2.1
  obtain ⟨-, -, -, -, -, -, -, ⟨a13, a14⟩, -⟩ := h.2.2.2.1
  have hce : CE c (ur c 13 (va_cpy (c.1 122) (c.1 13) 0 0 41)) := ⟨fun k hk => ur_ne (by omega), fun _ _ => rfl, fun i r e => ⟨50, i, e⟩⟩
  obtain ⟨o, c2, b1, b2, b3, b4, b5, b6⟩ := follow_v (h.sc hce ME.rf) (m.1 502 11) a14 (a := 13) (Or.inr (Or.inl rfl))
  have e8 : (ur c 13 (va_cpy (c.1 122) (c.1 13) 0 0 41)).1 120 8 = m.1 502 11 := by
    rw [ur_ne (by omega)]
    exact a13
  have hk : ∀ k, k ≠ 50 → k ≠ 13 → c2.1 k = c.1 k := fun k k1 k2 => by rw [b5 k k1, ur_ne k2]
  refine ⟨N, c2, N9, ?_, ⟨⟨?_, ?_, ?_⟩, b3, b4 m rfl (fun _ _ _ => rfl), h.2.1.1, (hc.tr hce).tr b6, hm⟩, hk 122 (by omega) (by omega)⟩
  · unfold fX9_startTrial
    rw [nm_eq, e8, b1, br_some, b2, br_some]
  · unfold LandR
    rw [hk 134 (by omega) (by omega), hk (134 + 9) (by omega) (by omega), hk (134 + 10) (by omega) (by omega), hk (134 + 11) (by omega) (by omega)]
    exact d1
  · unfold SnowR
    rw [hk 134 (by omega) (by omega), hk (134 + 12) (by omega) (by omega)]
    exact d2
  · have d3' : RowOK H O N (c.1 122) m := d3
    exact d3'.eqv hH hO (fun i hi => by
      rw [b5 13 (by omega), ur_eq, pk_cpy_in (by omega) (by omega), show 0 + (i - 0) = i by omega]) (fun _ _ _ => rfl) (fun _ _ => rfl)
/-- what a trial of nights leaves, if it is laid back -/
theorem RelP.back {R H O : Nat} {L : List Nat} {c0 m0 c1 m : St} (h : RelP R H O L c0 m0) (hc : CE c0 c1) (hm : SV m0 m) : ∃ m1, fX10_laysBack m = some m1 ∧ RelP R H O L c1 m1 ∧ SV m0 m1 ∧ ME m0 m1 := by
  obtain ⟨m1, a1, a2, a3⟩ := laysBack_v hm
  exact ⟨m1, a1, h.sc hc a3, a2, a3⟩
theorem keep_v {R H O : Nat} {L : List Nat} {c m : St} (h : RelP R H O L c m) : ∃ m1, fX10_keepsAll m = some m1 ∧ SV m m1 ∧ ME m m1 ∧ RelP R H O L c m1 ∧ m1.1 502 = m.1 502 ∧ m1.1 503 = m.1 503 := by
  obtain ⟨m1, a1, a2, a3, a4⟩ := keepsAll_v m
  have hme : ME m m1 := a2.me (fun s x hx => by
    by_cases h9 : s = 559
    · subst h9
      exact absurd hx (Nat.not_lt_zero x)
    · by_cases h5 : s = 500
      · subst h5
        exact absurd hx (Nat.not_lt_zero x)
      · exact a3 s x h9 h5)
  exact ⟨m1, a1, a2, hme, h.sc CE.rf hme, funext (fun x => a3 502 x (by omega) (by omega)), funext (fun x => a3 503 x (by omega) (by omega))⟩
theorem told_v {R H O : Nat} {L : List Nat} {c m : St} (h : RelP R H O L c m) : c.1 134 0 = m.1 500 28 ∧ (m.1 500 28 = nI 0 → H = 0 ∧ O = 0) := by
  refine ⟨h.2.2.2.1.1.1, fun q => ?_⟩
  rcases h.2.2.2.1.1.2.2 with z | z
  · exact z.2
  · rw [z, n10] at q
    exact q.elim
/-- the end of ahead -/
def ahF (p1 p3 : Int32) (st : St) : Option (Int32 × St) := (if p3 = 0 then (gd (ix ((0 : Int32) + p1) 41) (some ((st.1 13 ((0 : Int32) + p1).toNatClampNeg), st))) else (if p3 = 1 then (gd (ix ((35 : Int32) + p1) 41) (some ((st.1 13 ((35 : Int32) + p1).toNatClampNeg), st))) else (br (fJ6_bitCount_0f7a4 (st.1 13 38)) (fun x4 => some (x4, st)))))
theorem ahead_L {H O n : Nat} {L : List Nat} {c0 m0 : St} {p1 p3 : Int32} (hn : n < 10000) : ∀ (d i k1 k2 N : Nat) (c m : St), i + d = n → d < k1 → d < k2 → N + d < 99999 → TR H O L c0 m0 N 13 c m → ∃ c1 m1, fX9_ahead_L75 L p1 (nI n) p3 k1 (nI i) c = ahF p1 p3 c1 ∧ fX10_goFor_L2 (nI n) k2 (nI i) m = some m1 ∧ TR H O L c0 m0 (N + d) 13 c1 m1 := by
  intro d
  induction d with
  | zero =>
    intro i k1 k2 N c m hi h1 h2 hN h
    obtain ⟨k1, rfl⟩ : ∃ j, k1 = j + 1 := ⟨k1 - 1, by omega⟩
    obtain ⟨k2, rfl⟩ : ∃ j, k2 = j + 1 := ⟨k2 - 1, by omega⟩
    refine ⟨c, m, ?_, ?_, h⟩
    · rw [fX9_ahead_L75, if_pos (by rw [le_nI (by omega) (by omega)]; omega)]
      rfl
    · rw [fX10_goFor_L2, if_pos (by rw [le_nI (by omega) (by omega)]; omega)]
  | succ d ih =>
    intro i k1 k2 N c m hi h1 h2 hN h
    obtain ⟨k1, rfl⟩ : ∃ j, k1 = j + 1 := ⟨k1 - 1, by omega⟩
    obtain ⟨k2, rfl⟩ : ∃ j, k2 = j + 1 := ⟨k2 - 1, by omega⟩
    obtain ⟨x, c1, m1, f1, f2, f3, f4⟩ := h.step (Or.inl rfl) (by omega)
    obtain ⟨c2, m2, g1, g2, g3⟩ := ih (i + 1) k1 k2 (N + 1) c1 m1 (by omega) (by omega) (by omega) (by omega) f3
    refine ⟨c2, m2, ?_, ?_, by rw [show N + (d + 1) = N + 1 + d by omega]; exact g3⟩
    · rw [fX9_ahead_L75, if_neg (by rw [le_nI (by omega) (by omega)]; omega)]
      simp only [lit_nI, nm_eq, nI_add, f1, bw_some]
      exact g1
    · rw [fX10_goFor_L2, if_neg (by rw [le_nI (by omega) (by omega)]; omega), f2, bw_some]
      simp only [lit_nI, nm_eq, nI_add]
      exact g2
theorem n02 : (nI 0 = nI 2) = False := by decide
theorem n12 : (nI 1 = nI 2) = False := by decide
theorem n20 : (nI 2 = nI 0) = False := by decide
theorem n21 : (nI 2 = nI 1) = False := by decide
theorem sk_14 : Sk_14 Rel := by
  rintro L c m ⟨R, H, O, h⟩ p1 p2 p3
  have hR : Rel L c m := ⟨R, H, O, h⟩
  obtain ⟨h8, h3, l1, l2, l3, l4⟩ := h.land
  obtain ⟨t1, t2⟩ := told_v h
  -- the answer of a trial
  have go : (p3 = nI 0 ∧ ∃ k, k < H ∧ p1 = nI k) ∨ (p3 = nI 1 ∧ ∃ k, k < O ∧ p1 = nI k) ∨ p3 = nI 2 → ¬ m.1 500 28 = nI 0 → ∃ r c1 m1, fX9_ahead_B48 L p1 p2 p3 (nI 1) c = some (r, c1) ∧ fX10_ahead_B35 p1 p2 p3 (nI 1) m = some (r, m1) ∧ Rel L c1 m1 := by
    intro hk ht
    unfold fX9_ahead_B48 fX10_ahead_B35
    simp only [lit_nI, n10, if_false, ht]
    rcases in_v p2 0 100 (A := 0) (B := 100) rfl rfl (by omega) (by omega) with ⟨n, n1, n2, en, n3, n4, n5, n6⟩ | ⟨n1, n2⟩
    · simp only [n3, n4, n6, if_true, if_false, br_some, n10]
      obtain ⟨m1, a1, a2, a3, a4, -⟩ := keep_v h
      obtain ⟨N, c1, N9, b1, b2, -⟩ := start_v a4 CE.rf a2
      subst en
      obtain ⟨c2, m2, d1, d2, d3⟩ := ahead_L (n := n) (p1 := p1) (p3 := p3) (by omega) n 0 10000 10000 N c1 m1 (by omega) (by omega) (by omega) (by omega) b2
      have hce : CE c c2 := d3.2.2.2.2.1
      obtain ⟨m3, e1, e2, -⟩ := h.back hce d3.2.2.2.2.2
      have d2' : fX10_goFor (nI n) m1 = some m2 := d2
      have hrow := d3.1.2.2
      simp only [a1, b1, br_some, d1, d2']
      unfold ahF
      rcases hk with ⟨q, k, hk, e⟩ | ⟨q, k, hk, e⟩ | q
      · subst q
        subst e
        simp (disch := omega) only [lit_nI, if_true, nI_add, Nat.zero_add, gd_ix, cl_nI, ↓nm_eq, e1, br_some, (hrow.1.1 k hk).1]
        exact ⟨_, _, _, rfl, rfl, R, H, O, e2⟩
      · subst q
        subst e
        simp (disch := omega) only [lit_nI, if_true, n10, if_false, nI_add, Nat.zero_add, gd_ix, cl_nI, ↓nm_eq, e1, br_some, (hrow.1.2.1 k hk).2]
        exact ⟨_, _, _, rfl, rfl, R, H, O, e2⟩
      · subst q
        obtain ⟨f, f9, ef⟩ := hrow.2.2.2.1.2.2.1
        have ef2 : c2.1 13 38 = nI f := by rw [hrow.1.2.2.1]; exact ef
        obtain ⟨k1, k2⟩ := bits_v f f9
        simp only [lit_nI, n20, n21, if_false, ef, ef2, k1, k2, br_some, e1]
        exact ⟨_, _, _, rfl, rfl, R, H, O, e2⟩
    · simp only [n1, br_some, if_true]
      rcases n2 with q | ⟨q1, q2, q3⟩
      · rw [if_pos q]
        exact ⟨_, c, m, rfl, rfl, hR⟩
      · rw [if_neg q1, if_neg q3]
        exact ⟨_, c, m, rfl, rfl, hR⟩
  have no : ∃ r c1 m1, fX9_ahead_B48 L p1 p2 p3 (nI 0) c = some (r, c1) ∧ fX10_ahead_B35 p1 p2 p3 (nI 0) m = some (r, m1) ∧ Rel L c1 m1 := by
    unfold fX9_ahead_B48 fX10_ahead_B35
    simp only [lit_nI, if_true]
    refine ⟨_, c, m, rfl, ?_, hR⟩
    split <;> rfl
  have no2 : m.1 500 28 = nI 0 → ∀ z, ∃ r c1 m1, fX9_ahead_B48 L p1 p2 p3 (nI 0) c = some (r, c1) ∧ fX10_ahead_B35 p1 p2 p3 z m = some (r, m1) ∧ Rel L c1 m1 := by
    intro ht z
    unfold fX9_ahead_B48 fX10_ahead_B35
    simp only [lit_nI, if_true, ht]
    exact ⟨_, c, m, rfl, rfl, hR⟩
  unfold fX9_ahead fX10_ahead fX9_ahead_B12 fX10_ahead_B12 fX9_ahead_B25 fX10_ahead_B25 fX9_ahead_B43 fX9_ahead_B47 fX10_ahead_B30
  simp only [lit_nI, t1]
  by_cases q0 : p3 = nI 0
  · subst q0
    simp only [if_true, n01, n02, if_false]
    rcases isHouse_v h8 l1 l2 p1 with ⟨k, hk, e, e1, e2⟩ | ⟨e1, e2⟩
    · simp only [e1, e2, br_some, n10, if_false]
      exact go (Or.inl ⟨rfl, k, hk, e⟩) (fun q => by have := (t2 q).1; omega)
    · simp only [e1, e2, br_some, if_true]
      exact no
  · rw [if_neg q0, if_neg q0]
    by_cases q1 : p3 = nI 1
    · subst q1
      simp only [if_true, n12, if_false]
      rcases isOfficer_v h3 l3 l4 p1 with ⟨k, hk, e, e1, e2⟩ | ⟨e1, e2⟩
      · simp only [e1, e2, br_some, n10, if_false]
        exact go (Or.inr (Or.inl ⟨rfl, k, hk, e⟩)) (fun q => by have := (t2 q).2; omega)
      · simp only [e1, e2, br_some, if_true]
        exact no
    · rw [if_neg q1, if_neg q1]
      by_cases q2 : p3 = nI 2
      · rw [if_pos q2, if_pos q2]
        by_cases ht : m.1 500 28 = nI 0
        · rw [if_pos ht]
          exact no2 ht _
        · rw [if_neg ht]
          exact go (Or.inr (Or.inr q2)) ht
      · rw [if_neg q2, if_neg q2]
        exact no
