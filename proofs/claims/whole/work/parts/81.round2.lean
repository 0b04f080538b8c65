theorem rowsOf_L {H n : Nat} {m : St} (hn : n ≤ 4) (l2 : m.1 502 3 = nI H) : ∀ (d i k : Nat), i + d = n → d < k → fX10_rowsOf_L4 (nI n) m k (nI (H ^ i)) (nI i) = some (nI (H ^ n)) := by
  intro d
  induction d with
  | zero =>
    intro i k hi hk
    obtain ⟨k, rfl⟩ : ∃ j, k = j + 1 := ⟨k - 1, by omega⟩
    rw [fX10_rowsOf_L4, if_pos (by rw [le_nI (by omega) (by omega)]; omega), show i = n by omega]
  | succ d ih =>
    intro i k hi hk
    obtain ⟨k, rfl⟩ : ∃ j, k = j + 1 := ⟨k - 1, by omega⟩
    rw [fX10_rowsOf_L4, if_neg (by rw [le_nI (by omega) (by omega)]; omega)]
    simp only [nm_eq, l2, pk_mul, lit_nI, nI_add]
    rw [← Nat.pow_succ]
    exact ih (i + 1) k (by omega) (by omega)
theorem rowsOf_v {H n : Nat} {m : St} (hn : n ≤ 4) (l2 : m.1 502 3 = nI H) : fX10_rowsOf m (nI n) = some (nI (H ^ n)) := by
  have := rowsOf_L hn l2 n 0 10000 (by omega) (by omega)
  rw [Nat.pow_zero] at this
  exact this
/-- the best round so far, on both sides -/
def Rd (H n : Nat) (c : St) (y4 y5 : Int32) : Prop := (c.1 60 8 = -nI 1 ∧ y4 = -nI 2 ∧ y5 = -nI 2) ∨ ∃ b s, b < H ^ n ∧ s ≤ 1000 ∧ c.1 60 8 = nI s ∧ y4 = nI b ∧ y5 = nI s ∧ ∀ j, j < n → c.1 68 j = nI (b / H ^ (n - 1 - j) % H)
/-- the least and the most so far, on both sides -/
def Sn (c : St) (y4 y5 : Int32) : Prop := (c.1 60 9 = -nI 1 ∧ c.1 60 10 = -nI 1 ∧ y4 = -nI 2 ∧ y5 = -nI 2) ∨ ∃ a b, a ≤ 1000 ∧ b ≤ 1000 ∧ c.1 60 9 = nI a ∧ c.1 60 10 = nI b ∧ y4 = nI a ∧ y5 = nI b
/-- the class went from c to c' where the reference goes through the codes from lo on, cnt of them -/
def Prog (H q n : Nat) (m0 : St) (lo cnt : Nat) (c c' : St) : Prop := (∀ p3 y4 y5 m j, Rd H n c y4 y5 → SV m0 m → ME m0 m → ∃ y4' y5' m1, fX10_round_L52 (nI q) (nI n) p3 (j + cnt) y4 y5 (nI lo) m = fX10_round_L52 (nI q) (nI n) p3 j y4' y5' (nI (lo + cnt)) m1 ∧ Rd H n c' y4' y5' ∧ SV m0 m1 ∧ ME m0 m1) ∧ (∀ p3 y4 y5 m j, Sn c y4 y5 → SV m0 m → ME m0 m → ∃ y4' y5' m1, fX10_span_L47 (nI q) (nI n) p3 (j + cnt) y4 y5 (nI lo) m = fX10_span_L47 (nI q) (nI n) p3 j y4' y5' (nI (lo + cnt)) m1 ∧ Sn c' y4' y5' ∧ SV m0 m1 ∧ ME m0 m1)
theorem Prog.tr {H q n lo a b : Nat} {m0 c c1 c2 : St} (h1 : Prog H q n m0 lo a c c1) (h2 : Prog H q n m0 (lo + a) b c1 c2) : Prog H q n m0 lo (a + b) c c2 := by
  refine ⟨fun p3 y4 y5 m j hy hs hm => ?_, fun p3 y4 y5 m j hy hs hm => ?_⟩
  · obtain ⟨u4, u5, m1, e1, e2, e3, e4⟩ := h1.1 p3 y4 y5 m (j + b) hy hs hm
    obtain ⟨v4, v5, m2, f1, f2, f3, f4⟩ := h2.1 p3 u4 u5 m1 j e2 e3 e4
    refine ⟨v4, v5, m2, ?_, f2, f3, f4⟩
    rw [show j + (a + b) = j + b + a by omega, e1, f1, Nat.add_assoc]
  · obtain ⟨u4, u5, m1, e1, e2, e3, e4⟩ := h1.2 p3 y4 y5 m (j + b) hy hs hm
    obtain ⟨v4, v5, m2, f1, f2, f3, f4⟩ := h2.2 p3 u4 u5 m1 j e2 e3 e4
    refine ⟨v4, v5, m2, ?_, f2, f3, f4⟩
    rw [show j + (a + b) = j + b + a by omega, e1, f1, Nat.add_assoc]
theorem Prog.ac {H q n lo : Nat} {m0 c c1 : St} (h8 : c1.1 60 8 = c.1 60 8) (h9 : c1.1 60 9 = c.1 60 9) (h10 : c1.1 60 10 = c.1 60 10) (h68 : c1.1 68 = c.1 68) : Prog H q n m0 lo 0 c c1 := by
  refine ⟨fun p3 y4 y5 m j hy hs hm => ⟨y4, y5, m, rfl, ?_, hs, hm⟩, fun p3 y4 y5 m j hy hs hm => ⟨y4, y5, m, rfl, ?_, hs, hm⟩⟩
  · unfold Rd
    rw [h8, h68]
    exact hy
  · unfold Sn
    rw [h9, h10]
    exact hy
theorem ME.h {R H O : Nat} {L : List Nat} {c0 m0 m : St} (hR : RelP R H O L c0 m0) (hme : ME m0 m) : m.1 502 3 = nI H := by
  rw [hme.1.2.2 502 3 (show 3 < 12 by omega)]
  exact hR.land.2.2.2.1
theorem Prog.no {R H O q n : Nat} {L : List Nat} {c0 m0 c : St} (hR : RelP R H O L c0 m0) (hn : n ≤ 4) : ∀ (cnt lo : Nat), lo + cnt ≤ H ^ n → (∀ b, lo ≤ b → b < lo + cnt → OutI q n m0 b) → Prog H q n m0 lo cnt c c := by
  have hH := hR.land.1
  have hb := pow_b (n := n) hH hn
  intro cnt
  induction cnt with
  | zero => exact fun lo _ _ => Prog.ac rfl rfl rfl rfl
  | succ cnt ih =>
    intro lo hlo ho
    have h1 : Prog H q n m0 lo 1 c c := by
      refine ⟨fun p3 y4 y5 m j hy hs hm => ?_, fun p3 y4 y5 m j hy hs hm => ?_⟩
      · obtain ⟨m1, a1, a2, a3⟩ := ho lo (by omega) (by omega) m hs hm
        refine ⟨y4, y5, m1, ?_, hy, a2, a3⟩
        rw [fX10_round_L52, rowsOf_v hn (ME.h hR hm), br_some, if_neg (by rw [le_nI (by omega) (by omega)]; omega), a1, bw_some]
        simp only [nm_eq, lit_nI, nI_add, if_true]
        split <;> rfl
      · obtain ⟨m1, a1, a2, a3⟩ := ho lo (by omega) (by omega) m hs hm
        refine ⟨y4, y5, m1, ?_, hy, a2, a3⟩
        rw [fX10_span_L47, rowsOf_v hn (ME.h hR hm), br_some, if_neg (by rw [le_nI (by omega) (by omega)]; omega), a1, bw_some]
        simp only [nm_eq, lit_nI, nI_add, if_true]
    have h2 := ih (lo + 1) (by omega) (fun b b1 b2 => ho b (by omega) (by omega))
    rw [show cnt + 1 = 1 + cnt by omega]
    exact h1.tr h2
theorem weigh_c {n S : Nat} {c : St} (hn : n ≤ 4) (e : c.1 64 n = nI S) : ∃ c', fX3_weigh (nI n) c = some c' ∧ c'.1 60 9 = (if nI 0 ≤ c.1 60 9 then (if nI S < c.1 60 9 then nI S else c.1 60 9) else nI S) ∧ c'.1 60 10 = (if c.1 60 10 < nI S then nI S else c.1 60 10) ∧ ((c.1 (72 + n) 38 = c.1 72 38 ∧ ¬ nI S ≤ c.1 60 8 ∧ c'.1 60 8 = nI S ∧ ∀ j, j < 4 → c'.1 68 j = c.1 65 j) ∨ (¬ (c.1 (72 + n) 38 = c.1 72 38 ∧ ¬ nI S ≤ c.1 60 8) ∧ c'.1 60 8 = c.1 60 8 ∧ c'.1 68 = c.1 68)) ∧ (∀ k, k ≠ 60 → k ≠ 68 → c'.1 k = c.1 k) ∧ (∀ i, i < 8 → c'.1 60 i = c.1 60 i) ∧ c'.2 = c.2 := by
  have key : ∀ z0, ∃ c', fX3_weigh_B27 (nI n) (nI S) z0 c = some c' ∧ c'.1 60 9 = z0 ∧ c'.1 60 10 = (if c.1 60 10 < nI S then nI S else c.1 60 10) ∧ ((c.1 (72 + n) 38 = c.1 72 38 ∧ ¬ nI S ≤ c.1 60 8 ∧ c'.1 60 8 = nI S ∧ ∀ j, j < 4 → c'.1 68 j = c.1 65 j) ∨ (¬ (c.1 (72 + n) 38 = c.1 72 38 ∧ ¬ nI S ≤ c.1 60 8) ∧ c'.1 60 8 = c.1 60 8 ∧ c'.1 68 = c.1 68)) ∧ (∀ k, k ≠ 60 → k ≠ 68 → c'.1 k = c.1 k) ∧ (∀ i, i < 8 → c'.1 60 i = c.1 60 i) ∧ c'.2 = c.2 := by
    intro z0
    have hne : ¬ 72 + n = 60 := by omega
    obtain ⟨s2, es⟩ : ∃ s, s = ui (ui c 60 9 z0) 60 10 (if c.1 60 10 < nI S then nI S else c.1 60 10) := ⟨_, rfl⟩
    have e1 : (ui c 60 9 z0).1 60 10 = c.1 60 10 := by rw [ui_rd, if_pos rfl, if_neg (by omega)]
    have s60 : ∀ i, i ≠ 9 → i ≠ 10 → s2.1 60 i = c.1 60 i := fun i i1 i2 => by rw [es, ui_rd, if_pos rfl, if_neg i2, ui_rd, if_pos rfl, if_neg i1]
    have sk : ∀ k, k ≠ 60 → s2.1 k = c.1 k := fun k hk => by rw [es, ui_ne hk, ui_ne hk]
    have s9 : s2.1 60 9 = z0 := by rw [es, ui_rd, if_pos rfl, if_neg (by omega), ui_rd, if_pos rfl, if_pos rfl]
    have s10 : s2.1 60 10 = (if c.1 60 10 < nI S then nI S else c.1 60 10) := by rw [es, ui_rd, if_pos rfl, if_pos rfl]
    have hf : fX3_weigh_B27 (nI n) (nI S) z0 c = (if c.1 (72 + n) 38 = c.1 72 38 then fX3_weigh_B68 (nI n) (nI S) (nI 1) s2 else fX3_weigh_B68 (nI n) (nI S) (nI 0) s2) := by
      unfold fX3_weigh_B27
      rw [nm_eq, e1, nm_eq, ← es]
      simp (disch := omega) only [lit_nI, gd_ix, cl_nI, Nat.reduceAdd, sk]
    rw [hf]
    unfold fX3_weigh_B68
    simp only [lit_nI, if_true, n10, if_false, s60 8 (by omega) (by omega)]
    by_cases z : c.1 (72 + n) 38 = c.1 72 38
    · rw [if_pos z]
      by_cases z2 : nI S ≤ c.1 60 8
      · rw [if_pos z2]
        exact ⟨s2, rfl, s9, s10, Or.inr ⟨fun q => q.2 z2, s60 8 (by omega) (by omega), sk 68 (by omega)⟩, fun k k1 _ => sk k k1, fun i hi => s60 i (by omega) (by omega), by rw [es]; rfl⟩
      · rw [if_neg z2]
        simp only [nm_eq]
        refine ⟨ur (ui s2 60 8 (nI S)) 68 (va_cpy ((ui s2 60 8 (nI S)).1 65) ((ui s2 60 8 (nI S)).1 68) 0 0 4), rfl, ?_, ?_, Or.inl ⟨z, z2, ?_, fun j hj => ?_⟩, fun k k1 k2 => ?_, fun i hi => ?_, ?_⟩
        · rw [ur_ne (by omega), ui_rd, if_pos rfl, if_neg (by omega)]
          exact s9
        · rw [ur_ne (by omega), ui_rd, if_pos rfl, if_neg (by omega)]
          exact s10
        · rw [ur_ne (by omega), ui_rd, if_pos rfl, if_pos rfl]
        · rw [ur_eq, pk_cpy_in (by omega) (by omega), ui_ne (by omega), sk 65 (by omega), show 0 + (j - 0) = j by omega]
        · rw [ur_ne k2, ui_ne k1, sk k k1]
        · rw [ur_ne (by omega), ui_rd, if_pos rfl, if_neg (by omega)]
          exact s60 i (by omega) (by omega)
        · show s2.2 = c.2
          rw [es]
          rfl
    · rw [if_neg z]
      exact ⟨s2, rfl, s9, s10, Or.inr ⟨fun q => z q.1, s60 8 (by omega) (by omega), sk 68 (by omega)⟩, fun k k1 _ => sk k k1, fun i hi => s60 i (by omega) (by omega), by rw [es]; rfl⟩
  unfold fX3_weigh
  simp (disch := omega) only [lit_nI, gd_ix, cl_nI, nm_eq, e]
  by_cases q : nI 0 ≤ c.1 60 9
  · rw [if_pos q, if_pos q]
    exact key _
  · rw [if_neg q, if_neg q]
    exact key _
theorem m1_le (k : Nat) (h : k < 2147483648) : (nI k ≤ -nI 1) = False := by
  refine eq_false (fun q => ?_)
  rw [Int32.le_iff_toInt_le, nI_toInt (by omega), show (-nI 1).toInt = -1 by decide] at q
  omega
theorem m2_le (k : Nat) (h : k < 2147483648) : (nI k ≤ -nI 2) = False := by
  refine eq_false (fun q => ?_)
  rw [Int32.le_iff_toInt_le, nI_toInt (by omega), show (-nI 2).toInt = -2 by decide] at q
  omega
theorem Prog.yes {R H O q n b S : Nat} {L : List Nat} {c0 m0 c c' : St} (hR : RelP R H O L c0 m0) (hn : n ≤ 4) (hb : b < H ^ n) (hS : S ≤ 1000) (ho : OutF q n m0 b S (c.1 (72 + n) 38 = c.1 72 38)) (hp : ∀ j, j < n → c.1 65 j = nI (b / H ^ (n - 1 - j) % H)) (h9 : c'.1 60 9 = (if nI 0 ≤ c.1 60 9 then (if nI S < c.1 60 9 then nI S else c.1 60 9) else nI S)) (h10 : c'.1 60 10 = (if c.1 60 10 < nI S then nI S else c.1 60 10)) (h8 : (c.1 (72 + n) 38 = c.1 72 38 ∧ ¬ nI S ≤ c.1 60 8 ∧ c'.1 60 8 = nI S ∧ ∀ j, j < 4 → c'.1 68 j = c.1 65 j) ∨ (¬ (c.1 (72 + n) 38 = c.1 72 38 ∧ ¬ nI S ≤ c.1 60 8) ∧ c'.1 60 8 = c.1 60 8 ∧ c'.1 68 = c.1 68)) : Prog H q n m0 b 1 c c' := by
  have hH := hR.land.1
  have hbb := pow_b (n := n) hH hn
  refine ⟨fun p3 y4 y5 m j hy hs hm => ?_, fun p3 y4 y5 m j hy hs hm => ?_⟩
  · obtain ⟨m1, a1, a2, a3, a4⟩ := ho m hs hm
    have hle : (nI S ≤ y5) ↔ nI S ≤ c.1 60 8 := by
      rcases hy with ⟨z1, -, z3⟩ | ⟨b', s, -, s9, z1, -, z3, -⟩
      · rw [z1, z3, m1_le S (by omega), m2_le S (by omega)]
      · rw [z1, z3]
    have hst : fX10_round_L52 (nI q) (nI n) p3 (j + 1) y4 y5 (nI b) m = (if nI S ≤ y5 then fX10_round_L52 (nI q) (nI n) p3 j y4 y5 (nI (b + 1)) m1 else (if m1.1 500 55 = nI 0 then fX10_round_L52 (nI q) (nI n) p3 j (nI b) (nI S) (nI (b + 1)) m1 else fX10_round_L52 (nI q) (nI n) p3 j y4 y5 (nI (b + 1)) m1)) := by
      rw [fX10_round_L52, rowsOf_v hn (ME.h hR hm), br_some, if_neg (by rw [le_nI (by omega) (by omega)]; omega), a1, bw_some]
      simp (disch := omega) only [nm_eq, lit_nI, nI_add, ne_m1, if_false]
    rcases h8 with ⟨q1, q2, q3, q4⟩ | ⟨q1, q2, q3⟩
    · refine ⟨nI b, nI S, m1, ?_, Or.inr ⟨b, S, hb, hS, q3, rfl, rfl, fun j hj => by rw [q4 j (by omega)]; exact hp j hj⟩, a2, a3⟩
      rw [hst, if_neg (fun z => q2 (hle.mp z)), if_pos (a4.mpr q1)]
    · refine ⟨y4, y5, m1, ?_, ?_, a2, a3⟩
      · rw [hst]
        by_cases z : nI S ≤ y5
        · rw [if_pos z]
        · rw [if_neg z, if_neg (fun w => q1 ⟨a4.mp w, fun w2 => z (hle.mpr w2)⟩)]
      · unfold Rd
        rw [q2, q3]
        exact hy
  · obtain ⟨m1, a1, a2, a3, -⟩ := ho m hs hm
    rcases hy with ⟨z1, z2, z3, z4⟩ | ⟨u, v, u9, v9, z1, z2, z3, z4⟩
    · refine ⟨nI S, nI S, m1, ?_, Or.inr ⟨S, S, hS, hS, ?_, ?_, rfl, rfl⟩, a2, a3⟩
      · rw [fX10_span_L47, rowsOf_v hn (ME.h hR hm), br_some, if_neg (by rw [le_nI (by omega) (by omega)]; omega), a1, bw_some]
        unfold fX10_span_B87 fX10_span_B94
        subst z3
        subst z4
        simp (disch := omega) only [nm_eq, lit_nI, nI_add, ne_m1, if_false, if_true, m2_le]
      · rw [h9, z1, if_neg (by decide)]
      · rw [h10, z2, if_pos (by rw [Int32.lt_iff_toInt_lt, nI_toInt (by omega), show (-nI 1).toInt = -1 by decide]; omega)]
    · refine ⟨nI (min u S), nI (max v S), m1, ?_, Or.inr ⟨min u S, max v S, by omega, by omega, ?_, ?_, rfl, rfl⟩, a2, a3⟩
      · rw [fX10_span_L47, rowsOf_v hn (ME.h hR hm), br_some, if_neg (by rw [le_nI (by omega) (by omega)]; omega), a1, bw_some]
        unfold fX10_span_B87 fX10_span_B94
        subst z3
        subst z4
        simp (disch := omega) only [nm_eq, lit_nI, nI_add, ne_m1, ne_m2, if_false, le_nI]
        by_cases w1 : u ≤ S
        · rw [if_pos w1, Nat.min_eq_left w1]
          by_cases w2 : S ≤ v
          · rw [if_pos w2, Nat.max_eq_left w2]
          · rw [if_neg w2, Nat.max_eq_right (by omega)]
        · rw [if_neg w1, Nat.min_eq_right (by omega)]
          by_cases w2 : S ≤ v
          · rw [if_pos w2, Nat.max_eq_left w2]
          · rw [if_neg w2, Nat.max_eq_right (by omega)]
      · rw [h9, z1, if_pos (by rw [le_nI (by omega) (by omega)]; omega)]
        by_cases w1 : S < u
        · rw [if_pos (by rw [lt_nI (by omega) (by omega)]; exact w1), Nat.min_eq_right (by omega)]
        · rw [if_neg (by rw [lt_nI (by omega) (by omega)]; exact w1), Nat.min_eq_left (by omega)]
      · rw [h10, z2]
        by_cases w1 : v < S
        · rw [if_pos (by rw [lt_nI (by omega) (by omega)]; exact w1), Nat.max_eq_right (by omega)]
        · rw [if_neg (by rw [lt_nI (by omega) (by omega)]; exact w1), Nat.max_eq_left (by omega)]
