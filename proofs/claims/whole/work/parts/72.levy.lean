/-! levy, district, hats -/
theorem gd_nz {α : Type} {A : Nat} {x : Option α} (h : 1 ≤ A) (h2 : A < 2147483648) : gd (nz (nI A)) x = x := by
  have e : nz (nI A) = true := by
    unfold nz
    refine decide_eq_true ?_
    simp only [lit_nI]
    rw [eq_nI h2 (by omega)]
    omega
  rw [e, gd_tt]
theorem irm_n {a b : Nat} (ha : a < 2147483648) (h0 : 0 < b) (hb : b < 2147483648) : irm (nI a) (nI b) = nI (a % b) := pk_rem (by omega) h0 (by omega)
theorem sub_pos {a b : Nat} (ha : a < 1000000000) (hb : b < 1000000000) : (nI 0 < nI a - nI b) = (b < a) := by
  rw [Int32.lt_iff_toInt_lt, pk_sub_toInt (by omega) (by omega), show (nI 0).toInt = 0 from rfl]
  exact propext (by omega)
theorem sub_zr {a b : Nat} (ha : a < 1000000000) (hb : b < 1000000000) : (nI a - nI b = nI 0) = (a = b) := by
  rw [← Int32.toInt_inj, pk_sub_toInt (by omega) (by omega), show (nI 0).toInt = 0 from rfl]
  exact propext (by omega)
/-- what a house counts for in a levy -/
theorem warmthOf_v {H O N h : Nat} {c m : St} (hH : H ≤ 8) (hr : RowOK H O N (c.1 122) m) (hh : h < H) : ∃ w, w ≤ 999 ∧ c.1 122 h = nI w ∧ m.1 503 h = nI w ∧ ((fX9_isFrozen c (nI h) = some (nI 0) ∧ fX10_isFrozen m (nI h) = some (nI 0) ∧ fX10_warmthOf m (nI h) = some (nI w)) ∨ (fX9_isFrozen c (nI h) = some (nI 1) ∧ fX10_isFrozen m (nI h) = some (nI 1) ∧ fX10_warmthOf m (nI h) = some (nI 0))) := by
  obtain ⟨⟨w, w9, ew⟩, -⟩ := hr.2.2.1 h hh
  obtain ⟨x, x1, x2, x3⟩ := frozen_v hr.1.2.2.1 (nI h)
  refine ⟨w, w9, by rw [(hr.1.1 h hh).1]; exact ew, ew, ?_⟩
  unfold fX10_warmthOf
  rcases x3 with ⟨rfl, -⟩ | ⟨rfl, -⟩
  · refine Or.inl ⟨x1, x2, ?_⟩
    simp (disch := omega) only [x2, br_some, lit_nI, if_true, gd_ix, cl_nI, ew]
  · refine Or.inr ⟨x1, x2, ?_⟩
    simp only [x2, br_some, lit_nI, n10, if_false]
theorem levy_all {H O N : Nat} {c m : St} {p1 p2 : Int32} (hH : H ≤ 8) (hr : RowOK H O N (c.1 122) m) (l1 : c.1 134 4 = nI H) (l2 : m.1 502 3 = nI H) : ∀ (d i k1 k2 a : Nat), i + d = H → d < k1 → d < k2 → ∃ A, A ≤ a + 999 * d ∧ fX9_allWarmth_L4 c k1 (nI a) (nI i) = some (nI A) ∧ fX10_levy_L27 p1 p2 m k2 (nI a) (nI i) = (if nI A = 0 then (some (0 : Int32)) else (br (fX10_isFrozen m p2) (fun x5 => if x5 = 0 then (fX10_levy_L76 p1 p2 m 10000 (nI A) p1 (0 : Int32) (0 : Int32)) else (some (0 : Int32))))) := by
  intro d
  induction d with
  | zero =>
    intro i k1 k2 a hi h1 h2
    obtain ⟨k1, rfl⟩ : ∃ j, k1 = j + 1 := ⟨k1 - 1, by omega⟩
    obtain ⟨k2, rfl⟩ : ∃ j, k2 = j + 1 := ⟨k2 - 1, by omega⟩
    refine ⟨a, by omega, ?_, ?_⟩
    · rw [fX9_allWarmth_L4, l1, if_pos (by rw [le_nI (by omega) (by omega)]; omega)]
    · rw [fX10_levy_L27, l2, if_pos (by rw [le_nI (by omega) (by omega)]; omega)]
  | succ d ih =>
    intro i k1 k2 a hi h1 h2
    obtain ⟨k1, rfl⟩ : ∃ j, k1 = j + 1 := ⟨k1 - 1, by omega⟩
    obtain ⟨k2, rfl⟩ : ∃ j, k2 = j + 1 := ⟨k2 - 1, by omega⟩
    obtain ⟨w, w9, ec, em, q⟩ := warmthOf_v hH hr (show i < H by omega)
    rw [fX9_allWarmth_L4, fX10_levy_L27, l1, l2, if_neg (show ¬ nI H ≤ nI i by rw [le_nI (by omega) (by omega)]; omega), if_neg (show ¬ nI H ≤ nI i by rw [le_nI (by omega) (by omega)]; omega)]
    unfold fX9_allWarmth_B42
    rcases q with ⟨q1, q2, q3⟩ | ⟨q1, q2, q3⟩
    · simp (disch := omega) only [q1, q3, br_some, lit_nI, if_true, nI_add, Nat.zero_add, gd_ix, cl_nI, nm_eq, ec]
      obtain ⟨A, A1, A2, A3⟩ := ih (i + 1) k1 k2 (a + w) (by omega) (by omega) (by omega)
      simp only [lit_nI] at A3
      exact ⟨A, by omega, A2, A3⟩
    · simp (disch := omega) only [q1, q3, br_some, lit_nI, n10, if_false, nI_add, nm_eq, Nat.add_zero]
      obtain ⟨A, A1, A2, A3⟩ := ih (i + 1) k1 k2 a (by omega) (by omega) (by omega)
      simp only [lit_nI] at A3
      exact ⟨A, by omega, A2, A3⟩
theorem levy_L {H O N M A h0 w0 : Nat} {c m : St} (hH : H ≤ 8) (hr : RowOK H O N (c.1 122) m) (l1 : c.1 134 4 = nI H) (l2 : m.1 502 3 = nI H) (hM : M ≤ 9999) (hA : 1 ≤ A) (hA2 : A ≤ 10000) (hh : h0 < H) (w09 : w0 ≤ 999) (ec0 : c.1 122 h0 = nI w0) (e0 : fX10_warmthOf m (nI h0) = some (nI w0)) : ∀ (d i k1 k2 : Nat) (y4 y5 : Int32), i + d = H → d < k1 → d < k2 → ∃ r, fX9_levy_L67 (nI M) (nI h0) c k1 (nI A) y4 y5 (nI (M * w0 % A)) (nI i) = some r ∧ fX10_levy_L76 (nI M) (nI h0) m k2 (nI A) y4 y5 (nI i) = some r := by
  have hb0 : M * w0 ≤ 9999 * 999 := Nat.mul_le_mul hM w09
  intro d
  induction d with
  | zero =>
    intro i k1 k2 y4 y5 hi h1 h2
    obtain ⟨k1, rfl⟩ : ∃ j, k1 = j + 1 := ⟨k1 - 1, by omega⟩
    obtain ⟨k2, rfl⟩ : ∃ j, k2 = j + 1 := ⟨k2 - 1, by omega⟩
    rw [fX9_levy_L67, fX10_levy_L76, l1, l2, if_pos (show nI H ≤ nI i by rw [le_nI (by omega) (by omega)]; omega), if_pos (show nI H ≤ nI i by rw [le_nI (by omega) (by omega)]; omega)]
    simp (disch := omega) only [lit_nI, nI_add, Nat.zero_add, gd_ix, cl_nI, gd_nz, nm_eq, ec0, e0, br_some, pk_mul, pk_div, Nat.add_zero]
    by_cases q : y4 ≤ y5
    · rw [if_pos q]
      exact ⟨_, rfl, rfl⟩
    · rw [if_neg q]
      exact ⟨_, rfl, rfl⟩
  | succ d ih =>
    intro i k1 k2 y4 y5 hi h1 h2
    obtain ⟨k1, rfl⟩ : ∃ j, k1 = j + 1 := ⟨k1 - 1, by omega⟩
    obtain ⟨k2, rfl⟩ : ∃ j, k2 = j + 1 := ⟨k2 - 1, by omega⟩
    obtain ⟨w, w9, ec, em, q⟩ := warmthOf_v hH hr (show i < H by omega)
    have hb : M * w ≤ 9999 * 999 := Nat.mul_le_mul hM w9
    have hm1 := Nat.mod_lt (M * w) (show A > 0 by omega)
    have hm0 := Nat.mod_lt (M * w0) (show A > 0 by omega)
    rw [fX9_levy_L67, fX10_levy_L76, l1, l2, if_neg (show ¬ nI H ≤ nI i by rw [le_nI (by omega) (by omega)]; omega), if_neg (show ¬ nI H ≤ nI i by rw [le_nI (by omega) (by omega)]; omega)]
    unfold fX10_levy_B151 fX10_levy_B155 fX10_levy_B156
    rcases q with ⟨q1, q2, q3⟩ | ⟨q1, q2, q3⟩
    · simp (disch := omega) only [q1, q2, q3, br_some, lit_nI, if_true, nI_add, Nat.zero_add, gd_ix, cl_nI, nm_eq, ec, e0, gd_nz, pk_mul, pk_div, irm_n, lt_nI, eq_nI, le_nI, sub_pos, sub_zr, add0_nI]
      have go := fun y4' y5' => ih (i + 1) k1 k2 y4' y5' (by omega) (by omega) (by omega)
      by_cases z1 : M * w0 % A < M * w % A
      · simp only [if_pos z1]
        exact go _ _
      · simp only [if_neg z1]
        by_cases z2 : M * w % A = M * w0 % A
        · simp only [if_pos z2]
          by_cases z3 : h0 ≤ i
          · simp only [if_pos z3]
            exact go _ _
          · simp only [if_neg z3]
            exact go _ _
        · simp only [if_neg z2]
          exact go _ _
    · simp (disch := omega) only [q1, q2, br_some, lit_nI, n10, if_false, nm_eq, nI_add]
      exact ih (i + 1) k1 k2 y4 y5 (by omega) (by omega) (by omega)
theorem sk_20 : Sk_20 Rel := by
  rintro L c m ⟨R, H, O, h⟩ p1 p2
  have hR : Rel L c m := ⟨R, H, O, h⟩
  obtain ⟨h8, h3, l1, l2, l3, l4⟩ := h.land
  obtain ⟨N, N9, -, -, hrow⟩ := h.nr
  unfold fX9_levy fX10_levy
  rcases isHouse_v h8 l1 l2 p2 with ⟨k, hk, rfl, e1, e2⟩ | ⟨e1, e2⟩
  · rcases in_v p1 0 9999 (A := 0) (B := 9999) rfl rfl (by omega) (by omega) with ⟨M, M1, M2, rfl, M3, M4, M5, M6⟩ | ⟨M1, M2⟩
    · obtain ⟨A, A1, A2, A3⟩ := levy_all (p1 := nI M) (p2 := nI k) h8 hrow l1 l2 H 0 10000 10000 0 (by omega) (by omega) (by omega)
      have A2' : fX9_allWarmth c = some (nI A) := A2
      simp only [lit_nI] at A3
      obtain ⟨w, w9, ec, em, q⟩ := warmthOf_v h8 hrow hk
      have hb : M * w ≤ 9999 * 999 := Nat.mul_le_mul M2 w9
      rcases q with ⟨q1, q2, q3⟩ | ⟨q1, q2, q3⟩
      · by_cases hA : A = 0
        · subst hA
          simp only [e1, e2, M3, M4, M6, br_some, lit_nI, n10, if_false, if_true, A2', A3, q1]
          rw [if_neg (by decide)]
          exact ⟨_, rfl, rfl, hR⟩
        · obtain ⟨r, r1, r2⟩ := levy_L h8 hrow l1 l2 M2 (show 1 ≤ A by omega) (by omega) hk w9 ec q3 H 0 10000 10000 (nI M) (nI 0) (by omega) (by omega) (by omega)
          simp (disch := omega) only [e1, e2, M3, M4, M6, br_some, lit_nI, n10, if_false, if_true, A2', A3, q1, q2, le_nI, eq_nI, nI_add, Nat.zero_add, gd_ix, cl_nI, ec, gd_nz, pk_mul, irm_n, nm_eq]
          rw [if_pos (show 1 ≤ A by omega), if_neg hA]
          exact ⟨r, r1, r2, hR⟩
      · simp only [e1, e2, M3, M4, M6, br_some, lit_nI, n10, if_false, if_true, A2', A3, q1, q2]
        refine ⟨_, rfl, ?_, hR⟩
        split <;> rfl
    · simp only [e1, e2, M1, br_some, lit_nI, n10, if_false, if_true]
      rcases M2 with q | ⟨q1, q2, q3⟩
      · rw [if_pos q]
        exact ⟨_, rfl, rfl, hR⟩
      · rw [if_neg q1, if_neg q3]
        exact ⟨_, rfl, rfl, hR⟩
  · simp only [e1, e2, br_some, lit_nI, if_true]
    exact ⟨_, rfl, rfl, hR⟩
theorem lanes_in {H O : Nat} {c m : St} {p1 p2 bf : Int32} {K J : Int32 → Int32 → Option Int32} {l : Nat} (hl : LandR H O c 134 m) : ∀ (d i k1 k2 : Nat) (acc : Int32), i + d = H → d < k1 → d < k2 → ∃ acc', fX9_lanesBetween_L31 p1 p2 c K k1 acc (nI l) bf (nI i) = K acc' (nI (l + 1)) ∧ fX10_lanesTo_L31 p1 p2 m J k2 bf (nI l) acc (nI i) = J acc' (nI (l + 1)) := by
  obtain ⟨h8, -, -, -, l1, l2, -, -, -, hs, -⟩ := hl
  intro d
  induction d with
  | zero =>
    intro i k1 k2 acc hi h1 h2
    obtain ⟨k1, rfl⟩ : ∃ j, k1 = j + 1 := ⟨k1 - 1, by omega⟩
    obtain ⟨k2, rfl⟩ : ∃ j, k2 = j + 1 := ⟨k2 - 1, by omega⟩
    rw [fX9_lanesBetween_L31, fX10_lanesTo_L31, l1, l2, if_pos (show nI H ≤ nI i by rw [le_nI (by omega) (by omega)]; omega), if_pos (show nI H ≤ nI i by rw [le_nI (by omega) (by omega)]; omega)]
    simp only [nm_eq, lit_nI, nI_add]
    exact ⟨acc, rfl, rfl⟩
  | succ d ih =>
    intro i k1 k2 acc hi h1 h2
    obtain ⟨k1, rfl⟩ : ∃ j, k1 = j + 1 := ⟨k1 - 1, by omega⟩
    obtain ⟨k2, rfl⟩ : ∃ j, k2 = j + 1 := ⟨k2 - 1, by omega⟩
    have g : c.1 144 i = m.1 507 i := (hs i (by omega)).2
    rw [fX9_lanesBetween_L31, fX10_lanesTo_L31, l1, l2, if_neg (show ¬ nI H ≤ nI i by rw [le_nI (by omega) (by omega)]; omega), if_neg (show ¬ nI H ≤ nI i by rw [le_nI (by omega) (by omega)]; omega), has_v, br_some]
    unfold fX9_lanesBetween_B74 fX10_lanesTo_B64
    simp (disch := omega) only [lit_nI, nm_eq, nI_add, gd_ix, cl_nI, g]
    rcases and1n (bf >>> (nI i &&& nI 31)) with f | f
    · simp only [f, if_true, n01, if_false]
      exact ih (i + 1) k1 k2 _ (by omega) (by omega) (by omega)
    · simp only [f, if_true, n10, if_false]
      exact ih (i + 1) k1 k2 _ (by omega) (by omega) (by omega)
theorem lanes_L {H O : Nat} {c m : St} {p1 p2 : Int32} (hl : LandR H O c 134 m) : ∀ (d l k1 k2 : Nat) (s : Int32), l + d = 8 → d < k1 → d < k2 → ∃ x, x ≤ 8 ∧ fX9_lanesBetween_L7 p1 p2 c k1 s (nI l) = some (nI x) ∧ fX10_lanesTo_L7 p1 p2 m k2 s (nI l) = some (if x = 8 then -nI 1 else nI x) := by
  have h8 := hl.1
  intro d
  induction d with
  | zero =>
    intro l k1 k2 s hi h1 h2
    obtain ⟨k1, rfl⟩ : ∃ j, k1 = j + 1 := ⟨k1 - 1, by omega⟩
    obtain ⟨k2, rfl⟩ : ∃ j, k2 = j + 1 := ⟨k2 - 1, by omega⟩
    have e : l = 8 := by omega
    subst e
    rw [fX9_lanesBetween_L7, fX10_lanesTo_L7]
    refine ⟨8, by omega, ?_, ?_⟩
    · simp only [lit_nI]
      rw [if_pos (by decide)]
    · simp only [lit_nI, if_true]
      rw [if_pos (by decide)]
  | succ d ih =>
    intro l k1 k2 s hi h1 h2
    obtain ⟨k1, rfl⟩ : ∃ j, k1 = j + 1 := ⟨k1 - 1, by omega⟩
    obtain ⟨k2, rfl⟩ : ∃ j, k2 = j + 1 := ⟨k2 - 1, by omega⟩
    rw [fX9_lanesBetween_L7, fX10_lanesTo_L7, has_v, br_some]
    simp (disch := omega) only [lit_nI, le_nI]
    rw [if_neg (show ¬ 8 ≤ l by omega), if_neg (show ¬ 8 ≤ l by omega)]
    rcases and1n (s >>> (p2 &&& nI 31)) with f | f
    · simp only [f, if_true, n01, if_false]
      obtain ⟨acc', a1, a2⟩ := lanes_in (p1 := p1) (p2 := p2) (bf := s) (K := fX9_lanesBetween_L7 p1 p2 c k1) (J := fX10_lanesTo_L7 p1 p2 m k2) (l := l) hl H 0 10000 10000 s (by omega) (by omega) (by omega)
      rw [a1, a2]
      exact ih (l + 1) k1 k2 acc' (by omega) (by omega) (by omega)
    · simp only [f, if_true, n10, if_false]
      exact ⟨l, by omega, rfl, by rw [if_neg (by omega)]⟩
theorem district_L {H O N : Nat} {c m : St} {p1 p2 : Int32} (hl : LandR H O c 134 m) (hr : RowR H O (c.1 122) m) : ∀ (d q k1 k2 : Nat) (y3 y4 z3 z4 : Int32), q + d = O → d < k1 → d < k2 → ((y3 = -nI 1 ∧ y4 = nI 8 ∧ z3 = -nI 2 ∧ z4 = -nI 2) ∨ ∃ o x, o < 3 ∧ x < 8 ∧ y3 = nI o ∧ y4 = nI x ∧ z3 = nI o ∧ z4 = nI x) → ∃ r, fX9_district_L28 p1 p2 c k1 y3 y4 (nI q) = some r ∧ fX10_district_L30 p1 p2 m k2 z3 z4 (nI q) = some r := by
  have hO := hl.2.1
  have l3 := hl.2.2.2.2.2.2.2.1
  have l4 := hl.2.2.2.2.2.2.2.2.1
  intro d
  induction d with
  | zero =>
    intro q k1 k2 y3 y4 z3 z4 hi h1 h2 hy
    obtain ⟨k1, rfl⟩ : ∃ j, k1 = j + 1 := ⟨k1 - 1, by omega⟩
    obtain ⟨k2, rfl⟩ : ∃ j, k2 = j + 1 := ⟨k2 - 1, by omega⟩
    rw [fX9_district_L28, fX10_district_L30, l3, l4, if_pos (show nI O ≤ nI q by rw [le_nI (by omega) (by omega)]; omega), if_pos (show nI O ≤ nI q by rw [le_nI (by omega) (by omega)]; omega)]
    rcases hy with ⟨rfl, rfl, rfl, rfl⟩ | ⟨o, x, ho, hx, rfl, rfl, rfl, rfl⟩
    · rw [if_neg (show ¬ (0 : Int32) ≤ -nI 1 by decide)]
      refine ⟨_, rfl, ?_⟩
      split <;> rfl
    · rw [if_pos (show (0 : Int32) ≤ nI o by simp only [lit_nI]; rw [le_nI (by omega) (by omega)]; omega)]
      by_cases q : p2 = 0
      · rw [if_pos q]
        exact ⟨_, rfl, rfl⟩
      · rw [if_neg q]
        exact ⟨_, rfl, rfl⟩
  | succ d ih =>
    intro q k1 k2 y3 y4 z3 z4 hi h1 h2 hy
    obtain ⟨k1, rfl⟩ : ∃ j, k1 = j + 1 := ⟨k1 - 1, by omega⟩
    obtain ⟨k2, rfl⟩ : ∃ j, k2 = j + 1 := ⟨k2 - 1, by omega⟩
    have g := (hr.2.1 q (by omega)).1
    obtain ⟨x, x8, x1, x2⟩ := lanes_L (p1 := m.1 509 q) (p2 := p1) hl 8 0 10000 10000 (nI 1 <<< (m.1 509 q &&& nI 31)) (by omega) (by omega) (by omega)
    have x1' : fX9_lanesBetween c (m.1 509 q) p1 = some (nI x) := by
      unfold fX9_lanesBetween
      simp only [nm_eq, lit_nI]
      exact x1
    have x2' : fX10_lanesTo m (m.1 509 q) p1 = some (if x = 8 then -nI 1 else nI x) := by
      unfold fX10_lanesTo
      simp only [nm_eq, lit_nI]
      exact x2
    rw [fX9_district_L28, fX10_district_L30, l3, l4, if_neg (show ¬ nI O ≤ nI q by rw [le_nI (by omega) (by omega)]; omega), if_neg (show ¬ nI O ≤ nI q by rw [le_nI (by omega) (by omega)]; omega)]
    unfold fX10_district_B74
    simp (disch := omega) only [lit_nI, nI_add, gd_ix, cl_nI, g, x1', x2', br_some, nm_eq]
    have go := fun y3' y4' z3' z4' => ih (q + 1) k1 k2 y3' y4' z3' z4' (by omega) (by omega) (by omega)
    by_cases e8 : x = 8
    · subst e8
      simp only [if_true]
      have hle : y4 ≤ nI 8 := by
        rcases hy with ⟨-, rfl, -⟩ | ⟨o, x, ho, hx, -, rfl, -⟩
        · decide
        · rw [le_nI (by omega) (by omega)]
          omega
      rw [if_pos hle]
      exact go _ _ _ _ hy
    · rw [if_neg e8]
      simp (disch := omega) only [ne_m1, if_false]
      rcases hy with ⟨rfl, rfl, rfl, rfl⟩ | ⟨o, x', ho, hx, rfl, rfl, rfl, rfl⟩
      · simp (disch := omega) only [if_true, le_nI]
        rw [if_neg (show ¬ 8 ≤ x by omega)]
        exact go _ _ _ _ (Or.inr ⟨q, x, by omega, by omega, rfl, rfl, rfl, rfl⟩)
      · simp (disch := omega) only [ne_m2, if_false, le_nI]
        by_cases z : x' ≤ x
        · rw [if_pos z, if_pos z]
          exact go _ _ _ _ (Or.inr ⟨o, x', ho, hx, rfl, rfl, rfl, rfl⟩)
        · rw [if_neg z, if_neg z]
          exact go _ _ _ _ (Or.inr ⟨q, x, by omega, by omega, rfl, rfl, rfl, rfl⟩)
theorem sk_21 : Sk_21 Rel := by
  rintro L c m ⟨R, H, O, h⟩ p1 p2
  have hR : Rel L c m := ⟨R, H, O, h⟩
  obtain ⟨h8, h3, l1, l2, l3, l4⟩ := h.land
  obtain ⟨N, N9, hl, -, hrow⟩ := h.nr
  unfold fX9_district fX10_district
  rcases isHouse_v h8 l1 l2 p1 with ⟨k, hk, e, e1, e2⟩ | ⟨e1, e2⟩
  · rcases in_v p2 0 1 (A := 0) (B := 1) rfl rfl (by omega) (by omega) with ⟨w, W1, W2, eW, W3, W4, W5, W6⟩ | ⟨W1, W2⟩
    · obtain ⟨r, r1, r2⟩ := district_L (N := N) (p1 := p1) (p2 := p2) hl hrow.1 O 0 10000 10000 (-nI 1) (nI 8) (-nI 2) (-nI 2) (by omega) (by omega) (by omega) (Or.inl ⟨rfl, rfl, rfl, rfl⟩)
      simp only [e1, e2, W3, W4, W6, br_some, lit_nI, n10, if_false, if_true]
      exact ⟨r, r1, r2, hR⟩
    · simp only [e1, e2, W1, br_some, lit_nI, n10, if_false, if_true]
      rcases W2 with q | ⟨q1, q2, q3⟩
      · rw [if_pos q]
        exact ⟨_, rfl, rfl, hR⟩
      · rw [if_neg q1, if_neg q3]
        exact ⟨_, rfl, rfl, hR⟩
  · simp only [e1, e2, br_some, lit_nI, if_true]
    exact ⟨_, rfl, rfl, hR⟩
theorem hid_L {H O N : Nat} {c m : St} {p1 p2 s b : Int32} {K : Int32 → Int32 → Option Int32} (hl : LandR H O c 134 m) (hr : RowR H O (c.1 122) m) : ∀ (d i k1 k2 : Nat) (y : Int32), i + d = H → d < k1 → d < k2 → ∃ S, fX9_hiddenIn_L4 s c k1 y (nI i) = some S ∧ fX10_hats_L56 p1 p2 m K k2 b s y (nI i) = (if S < p1 then (fX10_hats_B128 p1 p2 m K b s) else (if b = (-2 : Int32) then (fX10_hats_B123 p1 p2 m K s) else (br (fX10_bits s) (fun x6 => br (fX10_bits b) (fun x8 => if x8 ≤ x6 then (fX10_hats_B128 p1 p2 m K b s) else (fX10_hats_B123 p1 p2 m K s)))))) := by
  have h8 := hl.1
  have l1 : c.1 134 4 = nI H := hl.2.2.2.2.1
  have l2 := hl.2.2.2.2.2.1
  intro d
  induction d with
  | zero =>
    intro i k1 k2 y hi h1 h2
    obtain ⟨k1, rfl⟩ : ∃ j, k1 = j + 1 := ⟨k1 - 1, by omega⟩
    obtain ⟨k2, rfl⟩ : ∃ j, k2 = j + 1 := ⟨k2 - 1, by omega⟩
    rw [fX9_hiddenIn_L4, fX10_hats_L56, l1, l2, if_pos (show nI H ≤ nI i by rw [le_nI (by omega) (by omega)]; omega), if_pos (show nI H ≤ nI i by rw [le_nI (by omega) (by omega)]; omega)]
    exact ⟨y, rfl, rfl⟩
  | succ d ih =>
    intro i k1 k2 y hi h1 h2
    obtain ⟨k1, rfl⟩ : ∃ j, k1 = j + 1 := ⟨k1 - 1, by omega⟩
    obtain ⟨k2, rfl⟩ : ∃ j, k2 = j + 1 := ⟨k2 - 1, by omega⟩
    have g := (hr.1 i (by omega)).2.2.1
    rw [fX9_hiddenIn_L4, fX10_hats_L56, l1, l2, if_neg (show ¬ nI H ≤ nI i by rw [le_nI (by omega) (by omega)]; omega), if_neg (show ¬ nI H ≤ nI i by rw [le_nI (by omega) (by omega)]; omega), has_v, br_some]
    unfold fX9_hiddenIn_B43 fX10_hats_B90
    simp (disch := omega) only [lit_nI, nm_eq, nI_add, gd_ix, cl_nI, g]
    have go := fun y' => ih (i + 1) k1 k2 y' (by omega) (by omega) (by omega)
    simp only [lit_nI] at go
    rcases and1n (s >>> (nI i &&& nI 31)) with f | f
    · simp only [f, if_true, n01, if_false]
      exact go _
    · simp only [f, if_true, n10, if_false]
      exact go _
theorem shl_H : ∀ H, H ≤ 8 → nI 1 <<< (nI H &&& nI 31) = nI (2 ^ H) ∧ 2 ^ H ≤ 256 := by decide
theorem popc_8 : ∀ s, s < 256 → popc s ≤ 8 := by decide +kernel
theorem hats_L {H O N M : Nat} {c m : St} {p2 : Int32} (hM : 1 ≤ M) (hM2 : M ≤ 400) (hp : p2 = nI 0 ∨ p2 = nI 1) (hl : LandR H O c 134 m) (hr : RowR H O (c.1 122) m) : ∀ (d s k1 k2 : Nat) (y3 y4 z3 : Int32), s + d = 2 ^ H → 1 ≤ s → d < k1 → d < k2 → ((y3 = nI 0 ∧ y4 = nI 9 ∧ z3 = -nI 2) ∨ ∃ b, 1 ≤ b ∧ b < 256 ∧ y3 = nI b ∧ y4 = nI (popc b) ∧ z3 = nI b) → ∃ r, fX9_hats_L45 (nI M) p2 c k1 y3 y4 (nI s) = some r ∧ fX10_hats_L37 (nI M) p2 m k2 z3 (nI s) = some r := by
  have h8 := hl.1
  have l1 : c.1 134 4 = nI H := hl.2.2.2.2.1
  have l2 := hl.2.2.2.2.2.1
  obtain ⟨e2, e256⟩ := shl_H H h8
  intro d
  induction d with
  | zero =>
    intro s k1 k2 y3 y4 z3 hi h1s h1 h2 hy
    obtain ⟨k1, rfl⟩ : ∃ j, k1 = j + 1 := ⟨k1 - 1, by omega⟩
    obtain ⟨k2, rfl⟩ : ∃ j, k2 = j + 1 := ⟨k2 - 1, by omega⟩
    rw [fX9_hats_L45, fX10_hats_L37, l1, l2]
    simp only [lit_nI, e2]
    rw [if_pos (show nI (2 ^ H) ≤ nI s by rw [le_nI (by omega) (by omega)]; omega), if_pos (show nI (2 ^ H) ≤ nI s by rw [le_nI (by omega) (by omega)]; omega)]
    rcases hy with ⟨rfl, rfl, rfl⟩ | ⟨b, b1, b2, rfl, rfl, rfl⟩
    · rw [if_pos rfl, if_pos rfl]
      exact ⟨_, rfl, rfl⟩
    · rw [if_neg (show ¬ nI b = nI 0 by rw [eq_nI (by omega) (by omega)]; omega), if_neg (show ¬ nI b = -nI 2 from fun q => by rw [ne_m2 (by omega)] at q; exact q)]
      rcases hp with rfl | rfl
      · rw [if_pos rfl, if_neg (by decide), (bits_v b b2).1, br_some]
        exact ⟨_, rfl, rfl⟩
      · rw [if_neg (by decide), if_pos rfl]
        exact ⟨_, rfl, rfl⟩
  | succ d ih =>
    intro s k1 k2 y3 y4 z3 hi h1s h1 h2 hy
    obtain ⟨k1, rfl⟩ : ∃ j, k1 = j + 1 := ⟨k1 - 1, by omega⟩
    obtain ⟨k2, rfl⟩ : ∃ j, k2 = j + 1 := ⟨k2 - 1, by omega⟩
    have hs : s < 256 := by omega
    have hp8 := popc_8 s hs
    obtain ⟨bs1, bs2⟩ := bits_v s hs
    obtain ⟨S, S1, S2⟩ := hid_L (N := N) (p1 := nI M) (p2 := p2) (s := nI s) (b := z3) (K := fX10_hats_L37 (nI M) p2 m k2) hl hr H 0 10000 10000 (nI 0) (by omega) (by omega) (by omega)
    have S1' : fX9_hiddenIn c (nI s) = some S := S1
    have S2' : fX10_hats_L56 (nI M) p2 m (fX10_hats_L37 (nI M) p2 m k2) 10000 z3 (nI s) (0 : Int32) (0 : Int32) = _ := S2
    rw [fX9_hats_L45, fX10_hats_L37, l1, l2]
    simp only [lit_nI, e2] at S2' ⊢
    rw [if_neg (show ¬ nI (2 ^ H) ≤ nI s by rw [le_nI (by omega) (by omega)]; omega), if_neg (show ¬ nI (2 ^ H) ≤ nI s by rw [le_nI (by omega) (by omega)]; omega), S2']
    unfold fX10_hats_B128 fX10_hats_B123
    simp only [bs1, bs2, br_some, S1', nm_eq, lit_nI, nI_add]
    have go := fun y3' y4' z3' => ih (s + 1) k1 k2 y3' y4' z3' (by omega) (by omega) (by omega) (by omega)
    rcases hy with ⟨rfl, rfl, rfl⟩ | ⟨b, b1, b2, rfl, rfl, rfl⟩
    · rw [if_neg (show ¬ nI 9 ≤ nI (popc s) by rw [le_nI (by omega) (by omega)]; omega), if_pos rfl]
      by_cases z : S < nI M
      · rw [if_pos z, if_pos z]
        exact go _ _ _ (Or.inl ⟨rfl, rfl, rfl⟩)
      · rw [if_neg z, if_neg z]
        exact go _ _ _ (Or.inr ⟨s, by omega, hs, rfl, rfl, rfl⟩)
    · have hpb := popc_8 b b2
      rw [if_neg (show ¬ nI b = -nI 2 from fun q => by rw [ne_m2 (by omega)] at q; exact q), (bits_v b b2).1, br_some]
      simp (disch := omega) only [le_nI]
      by_cases z : S < nI M
      · rw [if_pos z, if_pos z]
        by_cases z2 : popc b ≤ popc s
        · rw [if_pos z2]
          exact go _ _ _ (Or.inr ⟨b, b1, b2, rfl, rfl, rfl⟩)
        · rw [if_neg z2]
          exact go _ _ _ (Or.inr ⟨b, b1, b2, rfl, rfl, rfl⟩)
      · rw [if_neg z, if_neg z]
        by_cases z2 : popc b ≤ popc s
        · rw [if_pos z2, if_pos z2]
          exact go _ _ _ (Or.inr ⟨b, b1, b2, rfl, rfl, rfl⟩)
        · rw [if_neg z2, if_neg z2]
          exact go _ _ _ (Or.inr ⟨s, by omega, hs, rfl, rfl, rfl⟩)
theorem sk_22 : Sk_22 Rel := by
  rintro L c m ⟨R, H, O, h⟩ p1 p2
  have hR : Rel L c m := ⟨R, H, O, h⟩
  obtain ⟨h8, h3, l1, l2, l3, l4⟩ := h.land
  obtain ⟨N, N9, hl, -, hrow⟩ := h.nr
  obtain ⟨t1, t2⟩ := told_v h
  obtain ⟨e2, e256⟩ := shl_H H h8
  have hpos : 1 ≤ 2 ^ H := Nat.one_le_two_pow
  unfold fX9_hats fX10_hats
  simp only [lit_nI, t1]
  by_cases ht : m.1 500 28 = nI 0
  · rw [if_pos ht, if_pos ht]
    exact ⟨_, rfl, rfl, hR⟩
  · rw [if_neg ht, if_neg ht]
    rcases in_v p1 1 400 (A := 1) (B := 400) rfl rfl (by omega) (by omega) with ⟨M, M1, M2, rfl, M3, M4, M5, -⟩ | ⟨M1, M2⟩
    · rcases in_v p2 0 1 (A := 0) (B := 1) rfl rfl (by omega) (by omega) with ⟨w, W1, W2, eW, W3, W4, W5, W6⟩ | ⟨W1, W2⟩
      · have hp : p2 = nI 0 ∨ p2 = nI 1 := by
          rcases (show w = 0 ∨ w = 1 by omega) with rfl | rfl
          · exact Or.inl eW
          · exact Or.inr eW
        obtain ⟨r, r1, r2⟩ := hats_L (N := N) M1 M2 hp hl hrow.1 (2 ^ H - 1) 1 10000 9999 (nI 0) (nI 9) (-nI 2) (by omega) (by omega) (by omega) (by omega) (Or.inl ⟨rfl, rfl, rfl⟩)
        obtain ⟨S, S1, S2⟩ := hid_L (N := N) (p1 := nI M) (p2 := p2) (s := nI 0) (b := -nI 2) (K := fX10_hats_L37 (nI M) p2 m 9999) hl hrow.1 H 0 10000 10000 (nI 0) (by omega) (by omega) (by omega)
        have hS : S = nI 0 := by
          have key : ∀ (d i k : Nat), i + d = H → d < k → fX9_hiddenIn_L4 (nI 0) c k (nI 0) (nI i) = some (nI 0) := by
            intro d
            induction d with
            | zero =>
              intro i k hi hk
              obtain ⟨k, rfl⟩ : ∃ j, k = j + 1 := ⟨k - 1, by omega⟩
              rw [fX9_hiddenIn_L4, l1, if_pos (show nI H ≤ nI i by rw [le_nI (by omega) (by omega)]; omega)]
            | succ d ih =>
              intro i k hi hk
              obtain ⟨k, rfl⟩ : ∃ j, k = j + 1 := ⟨k - 1, by omega⟩
              rw [fX9_hiddenIn_L4, l1, if_neg (show ¬ nI H ≤ nI i by rw [le_nI (by omega) (by omega)]; omega)]
              unfold fX9_hiddenIn_B43
              have hb := bit_v 0 (by omega) i (by omega)
              rw [Nat.zero_div, Nat.zero_mod] at hb
              simp only [lit_nI, hb, if_true, nm_eq, nI_add, Nat.add_zero]
              exact ih (i + 1) k (by omega) (by omega)
          rw [key H 0 10000 (by omega) (by omega)] at S1
          exact (Option.some.inj S1).symm
        have first : fX10_hats_L37 (nI M) p2 m 10000 (-nI 2) (nI 0) = fX10_hats_L37 (nI M) p2 m 9999 (-nI 2) (nI 1) := by
          rw [show (10000 : Nat) = 9999 + 1 by rfl, fX10_hats_L37, l2]
          simp only [lit_nI, e2]
          rw [if_neg (show ¬ nI (2 ^ H) ≤ nI 0 by rw [le_nI (by omega) (by omega)]; omega), S2, hS, if_pos (by rw [lt_nI (by omega) (by omega)]; omega)]
          unfold fX10_hats_B128
          simp only [nm_eq, lit_nI, nI_add]
        simp only [M3, M4, M5, W3, W4, W6, br_some, n10, if_false, if_true]
        rw [first]
        exact ⟨r, r1, r2, hR⟩
      · simp only [M3, M4, M5, W1, br_some, n10, if_false, if_true]
        rcases W2 with q | ⟨q1, q2, q3⟩
        · rw [if_pos q]
          exact ⟨_, rfl, rfl, hR⟩
        · rw [if_neg q1, if_neg q3]
          exact ⟨_, rfl, rfl, hR⟩
    · simp only [M1, br_some, if_true]
      rcases M2 with q | ⟨q1, q2, q3⟩
      · rw [if_pos q]
        exact ⟨_, rfl, rfl, hR⟩
      · rw [if_neg q1, if_pos q2]
        exact ⟨_, rfl, rfl, hR⟩
