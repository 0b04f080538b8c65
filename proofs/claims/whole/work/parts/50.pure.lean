/-! pure rows: small numbers, guards, memories -/
theorem lit_nI (n : Nat) : (OfNat.ofNat n : Int32) = nI n := Eq.trans (b := nI n) rfl rfl
theorem cl_nI {k : Nat} (h : k < 2147483648) : (nI k).toNatClampNeg = k := nI_clamp h
theorem gd_ix {α : Type} {k n : Nat} {x : Option α} (h : k < n) (hn : n < 100000) : gd (ix (nI k) n) x = x := by
  have h1 : ix (nI k) n = true := by
    unfold ix
    refine decide_eq_true ?_
    exact vp_in_nI h (by omega)
  unfold gd
  rw [if_pos h1]
theorem gd_tt {α : Type} {x : Option α} : gd true x = x := if_pos rfl
theorem gd_bz0 {α : Type} {x : Option α} : gd (bz 0) x = x := rfl
theorem gd_bz1 {α : Type} {x : Option α} : gd (bz 1) x = x := rfl
theorem br_some {α β : Type} {a : α} {k : α → Option β} : br (some a) k = k a := Eq.trans (b := k a) rfl rfl
theorem bw_some {α σ β : Type} {a : α} {t : σ} {k : α → σ → Option β} : bw (some (a, t)) k = k a t := Eq.trans (b := k a t) rfl rfl
theorem nm_eq {α β : Type} {v : α} {k : α → Option β} : nm v k = k v := Eq.trans (b := k v) rfl rfl
theorem ui_rd {s : St} {k i k' i' : Nat} {v : Int32} : (ui s k i v).1 k' i' = if k' = k then (if i' = i then v else s.1 k' i') else s.1 k' i' := by
  by_cases h : k' = k
  · subst h
    rw [if_pos rfl, ui_eq]
    rfl
  · rw [if_neg h, ui_ne h]
theorem le_nI {a b : Nat} (ha : a < 2147483648) (hb : b < 2147483648) : (nI a ≤ nI b) = (a ≤ b) := propext (nI_leI ha hb)
theorem lt_nI {a b : Nat} (ha : a < 2147483648) (hb : b < 2147483648) : (nI a < nI b) = (a < b) := propext (nI_ltI ha hb)
theorem eq_nI {a b : Nat} (ha : a < 2147483648) (hb : b < 2147483648) : (nI a = nI b) = (a = b) := propext (nI_eq ha hb)
/-- a bit -/
def bt8 (x : Int32) (k : Nat) : Prop := ¬ ((x >>> (nI k &&& nI 31)) &&& nI 1) = nI 0
/-- the rows of class and reference agree -/
def RowR (H O : Nat) (r : Nat → Int32) (m : St) : Prop :=
  (∀ h, h < H → r h = m.1 503 h ∧ r (8 + h) = m.1 504 h ∧ r (16 + h) = m.1 506 h ∧ r (24 + h) = m.1 508 h) ∧ (∀ q, q < O → r (32 + q) = m.1 509 q ∧ r (35 + q) = m.1 511 q) ∧ r 38 = m.1 502 7 ∧ r 39 = m.1 502 6 ∧ r 40 = m.1 502 8 ∧ ∀ q, O ≤ q → q < 3 → r (35 + q) = nI 0
def LandR (H O : Nat) (c : St) (b : Nat) (m : St) : Prop :=
  H ≤ 8 ∧ O ≤ 3 ∧ c.1 b 2 = m.1 502 1 ∧ c.1 b 3 = m.1 502 2 ∧ c.1 b 4 = nI H ∧ m.1 502 3 = nI H ∧ c.1 b 5 = m.1 502 4 ∧ c.1 b 6 = nI O ∧ m.1 502 5 = nI O ∧ (∀ h, h < H → c.1 (b + 9) h = m.1 505 h ∧ c.1 (b + 10) h = m.1 507 h) ∧ ∀ q, q < O → c.1 (b + 11) q = m.1 510 q
theorem has_v (x y : Int32) : fX10_has x y = some (if ((x >>> (y &&& 31)) &&& (1 : Int32)) = (1 : Int32) then 1 else 0) := by
  unfold fX10_has
  split <;> rfl
theorem isFrozen_v (m : St) (h : Int32) : fX10_isFrozen m h = some (if ((m.1 502 7 >>> (h &&& 31)) &&& (1 : Int32)) = (1 : Int32) then 1 else 0) := by
  unfold fX10_isFrozen
  rw [has_v]
  show gd _ _ = _
  split <;> rfl
theorem min_le (x t : Int32) : (if x ≤ t then x else t) = (if x < t then x else t) := by
  by_cases h : x < t
  · rw [if_pos h, if_pos (Int32.le_of_lt h)]
  · rw [if_neg h]
    by_cases h2 : x ≤ t
    · rw [if_pos h2]
      rw [Int32.lt_iff_toInt_lt] at h
      rw [Int32.le_iff_toInt_le] at h2
      exact Int32.toInt_inj.mp (by omega)
    · rw [if_neg h2]
theorem and1 (x : Int32) : x &&& 1 = 0 ∨ x &&& 1 = 1 := by
  obtain ⟨j, hj, e⟩ := pk_andE x (m := 1) 1 rfl
  rw [e]
  rcases (show j = 0 ∨ j = 1 by omega) with rfl | rfl
  · exact Or.inl rfl
  · exact Or.inr rfl
theorem and1_ne (x : Int32) : (¬ x &&& 1 = 0) = (x &&& 1 = 1) := by
  rcases and1 x with h | h <;> rw [h] <;> decide
theorem share_v {H O : Nat} {c m : St} {a q h : Nat} (hl : LandR H O c 134 m) (hr : RowR H O (c.1 a) m) (ht : c.1 50 3 = m.1 502 0) (hq : q < O) (hh : h < H) : ∃ x, fX8_share a 41 c (nI q) (nI h) = some x ∧ fX10_tenthOf m (nI q) (nI h) = some x := by
  obtain ⟨h8, h3, -, -, -, -, -, -, -, -, hs⟩ := hl
  obtain ⟨r1, r2, -⟩ := hr
  have e1 := (r1 h hh).1
  have e2 := (r2 q hq).2
  have e3 := hs q hq
  unfold fX8_share fX8_room fX10_tenthOf
  simp (disch := omega) only [lit_nI, nI_add, cl_nI, gd_ix, nm_eq, br_some, Nat.zero_add, Nat.reduceAdd]
  rw [ht, e1, e2, e3, Int32.mul_comm (m.1 502 0)]
  refine ⟨_, rfl, ?_⟩
  rw [← min_le]
  split <;> rfl
/-- bit k of x -/
def tb (x : Int32) (k : Nat) : Prop := ((x >>> (nI k &&& nI 31)) &&& nI 1) = nI 1
theorem and1n (x : Int32) : x &&& nI 1 = nI 0 ∨ x &&& nI 1 = nI 1 := and1 x
theorem n10 : (nI 1 = nI 0) = False := by decide
theorem n01 : (nI 0 = nI 1) = False := by decide
/-- lanes lead both ways, officers stand at houses -/
def Way (H O : Nat) (m : St) : Prop := (∀ h k, h < H → k < H → (tb (m.1 507 h) k ↔ tb (m.1 507 k) h)) ∧ ∀ q, q < O → ∃ k, k < H ∧ m.1 509 q = nI k
theorem canCall_v {H O : Nat} {c m : St} {a q h : Nat} (hl : LandR H O c 134 m) (hr : RowR H O (c.1 a) m) (hw : Way H O m) (hq : q < O) (hh : h < H) : ∃ x, fX8_canCall a 41 c (nI q) (nI h) = some x ∧ fX10_canCall m (nI q) (nI h) = some x := by
  obtain ⟨h8, h3, -, -, -, -, -, -, -, hs, -⟩ := hl
  obtain ⟨r1, r2, r3, r4, -⟩ := hr
  obtain ⟨w1, w2⟩ := hw
  obtain ⟨k, hk, ek⟩ := w2 q hq
  have e1 := (r1 h hh).2.2.2
  have e2 := (r2 q hq).1
  have e3 := (hs h hh).2
  have e4 := w1 h k hh hk
  unfold fX8_canCall fX8_canCall_B31 fX8_canCall_B36 fX10_canCall fX10_canCall_B36
  rw [isFrozen_v]
  simp (disch := omega) only [lit_nI, nI_add, cl_nI, gd_ix, nm_eq, br_some, Nat.zero_add, Nat.reduceAdd, has_v, e1, e2, e3, r3, r4, ek]
  unfold tb at e4
  rcases and1n (m.1 502 7 >>> (nI h &&& nI 31)) with f | f <;> rcases and1n (m.1 507 h >>> (nI k &&& nI 31)) with g | g <;> rcases and1n (m.1 507 k >>> (nI h &&& nI 31)) with j | j <;> rw [g, j] at e4 <;> simp only [f, g, j, n10, n01, if_true, if_false, true_iff, iff_true, false_iff] at e4 ⊢ <;> by_cases e5 : nI k = nI h <;> simp [e5] <;> split <;> simp_all
/-- what a night may change on either side -/
def CF (a : Nat) (c c1 : St) : Prop := (∀ k, k ≠ a → c1.1 k = c.1 k) ∧ c1.2.2 = c.2.2
def MF (m m1 : St) : Prop := (∀ k i, k ≠ 503 → k ≠ 504 → k ≠ 508 → k ≠ 509 → k ≠ 511 → (k = 502 → i ≠ 6 ∧ i ≠ 7) → m1.1 k i = m.1 k i) ∧ m1.2.2 = m.2.2
theorem callAt_v {H O : Nat} {c m : St} {a q h : Nat} (hl : LandR H O c 134 m) (hr : RowR H O (c.1 a) m) (hw : Way H O m) (ht : c.1 50 3 = m.1 502 0) (hq : q < O) (hh : h < H) : ∃ x c1 m1, fX8_callAt a 41 (nI q) (nI h) c = some (x, c1) ∧ fX10_calls (nI q) (nI h) m = some (x, m1) ∧ RowR H O (c1.1 a) m1 ∧ Way H O m1 ∧ CF a c c1 ∧ MF m m1 := by
  obtain ⟨x, s1, s2⟩ := share_v hl hr ht hq hh
  obtain ⟨h8, h3, -⟩ := hl
  unfold fX8_callAt fX10_calls
  rw [s1, s2]
  simp (disch := omega) only [lit_nI, nI_add, cl_nI, gd_ix, nm_eq, br_some, Nat.zero_add, Nat.reduceAdd]
  refine ⟨x, _, _, rfl, rfl, ?_, ?_, ?_, ?_⟩
  · obtain ⟨r1, r2, r3, r4, r5, r6⟩ := hr
    have e1 := r1 h hh
    have e2 := r2 q hq
    simp only [RowR, ui_rd]
    refine ⟨fun h' hh' => ?_, fun q' hq' => ?_, ?_, ?_, ?_, fun q' hq' hq3 => ?_⟩
    · have e := r1 h' hh'
      clear r1 r2 r6 hw s1 s2 ht
      refine ⟨?_, ?_, ?_, ?_⟩ <;> grind (splits := 25)
    · have e := r2 q' hq'
      clear r1 r2 r6 hw
      grind
    · clear r1 r2 r6 hw
      grind
    · clear r1 r2 r6 hw
      grind
    · clear r1 r2 r6 hw
      grind
    · have e := r6 q' hq' hq3
      clear r1 r2 r6 hw
      grind
  · obtain ⟨w1, w2⟩ := hw
    simp only [Way, ui_rd]
    grind
  · refine ⟨fun k hk => ?_, rfl⟩
    rw [ui_ne hk, ui_ne hk, ui_ne hk, ui_ne hk]
  · refine ⟨fun k i h1 h2 h3 h4 h5 h6 => ?_, rfl⟩
    simp only [ui_rd]
    grind
theorem hasSnow_L {b S : Nat} {c : St} {x : Int32} (hS : c.1 b 7 = nI S) (h6 : S ≤ 6) : ∀ (d i n : Nat), i + d = S → d < n → ∃ r, fX1_hasSnow_L2 b x c n (nI i) = some r ∧ (r = nI 0 ∨ r = nI 1) ∧ (r = nI 1 ↔ ∃ j, i ≤ j ∧ j < S ∧ c.1 (b + 12) j = x) := by
  intro d
  induction d with
  | zero =>
    intro i n hi hn
    obtain ⟨n, rfl⟩ : ∃ k, n = k + 1 := ⟨n - 1, by omega⟩
    rw [fX1_hasSnow_L2, hS]
    simp (disch := omega) only [le_nI, lit_nI]
    rw [if_pos (by omega)]
    refine ⟨nI 0, rfl, Or.inl rfl, ?_⟩
    simp only [n01, false_iff]
    rintro ⟨j, h1, h2, -⟩
    omega
  | succ d ih =>
    intro i n hi hn
    obtain ⟨n, rfl⟩ : ∃ k, n = k + 1 := ⟨n - 1, by omega⟩
    rw [fX1_hasSnow_L2, hS]
    simp (disch := omega) only [le_nI, lit_nI, gd_ix, cl_nI, nm_eq, nI_add]
    rw [if_neg (by omega)]
    by_cases e : c.1 (b + 12) i = x
    · rw [if_pos e]
      refine ⟨nI 1, rfl, Or.inr rfl, ?_⟩
      simp only [true_iff]
      exact ⟨i, Nat.le_refl i, by omega, e⟩
    · rw [if_neg e]
      obtain ⟨r, h1, h2, h3⟩ := ih (i + 1) n (by omega) (by omega)
      refine ⟨r, h1, h2, h3.trans ?_⟩
      constructor
      · rintro ⟨j, a1, a2, a3⟩
        exact ⟨j, by omega, a2, a3⟩
      · rintro ⟨j, a1, a2, a3⟩
        refine ⟨j, ?_, a2, a3⟩
        rcases Nat.lt_or_ge i j with q | q
        · omega
        · exact absurd (by rw [show i = j by omega]; exact a3) e
/-- the nights of snow agree; the night is a small number -/
def SnowR (c : St) (b : Nat) (m : St) : Prop := ∃ S : Nat, S ≤ 6 ∧ c.1 b 7 = nI S ∧ ∀ k : Nat, k < 100000 → ((∃ j, j < S ∧ c.1 (b + 12) j = nI k) ↔ k < 100 ∧ m.1 512 k = nI 1)
theorem snow_v {c m : St} {N : Nat} (hs : SnowR c 134 m) (hN : m.1 502 6 = nI N) (hb : N < 100000) : ∃ r, fX1_hasSnow 134 c (nI N) = some r ∧ fX10_isSnowTold m = some r := by
  obtain ⟨S, h6, hS, hk⟩ := hs
  obtain ⟨r, h1, h2, h3⟩ := hasSnow_L (x := nI N) hS h6 S 0 10000 (by omega) (by omega)
  refine ⟨r, h1, ?_⟩
  have h4 : r = nI 1 ↔ N < 100 ∧ m.1 512 N = nI 1 := by
    rw [h3, ← hk N hb]
    constructor
    · rintro ⟨j, -, a2, a3⟩
      exact ⟨j, a2, a3⟩
    · rintro ⟨j, a2, a3⟩
      exact ⟨j, Nat.zero_le j, a2, a3⟩
  unfold fX10_isSnowTold
  rw [hN]
  by_cases hl : N < 100
  · simp (disch := omega) only [lit_nI, le_nI, gd_ix, cl_nI]
    rw [if_neg (by omega)]
    by_cases e : m.1 512 N = nI 1
    · rw [if_pos e, h4.mpr ⟨hl, e⟩]
    · rw [if_neg e]
      rcases h2 with h2 | h2
      · rw [h2]
      · exact absurd (h4.mp h2).2 e
  · simp (disch := omega) only [lit_nI, le_nI]
    rw [if_pos (by omega)]
    rcases h2 with h2 | h2
    · rw [h2]
    · exact absurd (h4.mp h2).1 hl
/-- a slot that holds a row of the class -/
def RS (a : Nat) : Prop := a = 122 ∨ a = 13 ∨ a = 83 ∨ (72 ≤ a ∧ a ≤ 76)
/-- warmth and heat are small -/
def Wm (H : Nat) (m : St) : Prop := ∀ h, h < H → (∃ w, w ≤ 999 ∧ m.1 503 h = nI w) ∧ ∃ t, t ≤ 20 ∧ m.1 505 h = nI t
theorem LandR.keep {H O : Nat} {c c1 m m1 : St} {a : Nat} (ha : RS a) (hl : LandR H O c 134 m) (hc : CF a c c1) (hm : MF m m1) : LandR H O c1 134 m1 := by
  unfold RS at ha
  unfold LandR at hl ⊢
  rw [hc.1 134 (by omega), hc.1 (134 + 9) (by omega), hc.1 (134 + 10) (by omega), hc.1 (134 + 11) (by omega)]
  have hm1 := hm.1
  simp (disch := simp) only [hm1]
  exact hl
theorem MF.rf {m : St} : MF m m := ⟨fun _ _ _ _ _ _ _ _ => rfl, rfl⟩
theorem CF.rf {a : Nat} {c : St} : CF a c c := ⟨fun _ _ => rfl, rfl⟩
theorem MF.tr {m m1 m2 : St} (h1 : MF m m1) (h2 : MF m1 m2) : MF m m2 := ⟨fun k i a1 a2 a3 a4 a5 a6 => (h2.1 k i a1 a2 a3 a4 a5 a6).trans (h1.1 k i a1 a2 a3 a4 a5 a6), h2.2.trans h1.2⟩
theorem CF.tr {a : Nat} {c c1 c2 : St} (h1 : CF a c c1) (h2 : CF a c1 c2) : CF a c c2 := ⟨fun k hk => (h2.1 k hk).trans (h1.1 k hk), h2.2.trans h1.2⟩
theorem sub_cl2 {a b : Nat} {d : Decidable (nI 0 ≤ nI a - nI b)} (ha : a ≤ 100000) (hb : b ≤ 100000) : (@ite _ (nI 0 ≤ nI a - nI b) d (nI a - nI b) (nI 0)) = nI (a - b) := by
  have h1 : (nI a - nI b).toInt = (a : Int) - b := pk_sub_toInt (by omega) (by omega)
  have h0 : (nI 0).toInt = 0 := rfl
  by_cases h : b ≤ a
  · rw [if_pos (by rw [Int32.le_iff_toInt_le, h1, h0]; omega)]
    exact pk_sub (by omega)
  · rw [if_neg (by rw [Int32.le_iff_toInt_le, h1, h0]; omega), show a - b = 0 by omega]
theorem lt0_nI (x : Int32) : (if nI 0 ≤ x then x else nI 0) = (if nI 0 < x then x else nI 0) := by
  by_cases h : nI 0 < x
  · rw [if_pos h, if_pos (Int32.le_of_lt h)]
  · rw [if_neg h]
    by_cases h2 : nI 0 ≤ x
    · rw [if_pos h2]
      rw [Int32.lt_iff_toInt_lt] at h
      rw [Int32.le_iff_toInt_le] at h2
      exact Int32.toInt_inj.mp (by omega)
    · rw [if_neg h2]
theorem sub_cl {a b : Nat} {d : Decidable (nI 0 < nI a - nI b)} (ha : a ≤ 100000) (hb : b ≤ 100000) : (@ite _ (nI 0 < nI a - nI b) d (nI a - nI b) (nI 0)) = nI (a - b) := by
  have h1 : (nI a - nI b).toInt = (a : Int) - b := pk_sub_toInt (by omega) (by omega)
  have h0 : (nI 0).toInt = 0 := rfl
  by_cases h : b < a
  · rw [if_pos (by rw [Int32.lt_iff_toInt_lt, h1, h0]; omega)]
    exact pk_sub (by omega)
  · rw [if_neg (by rw [Int32.lt_iff_toInt_lt, h1, h0]; omega), show a - b = 0 by omega]
