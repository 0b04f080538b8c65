/-! books: by which rule they can have been so -/
theorem TR.stepf {H O N a : Nat} {L : List Nat} {c0 m0 c m : St} (ha : RT a) (hN : N < 99999) (h : TR H O L c0 m0 N a c m) : ∃ x c1 m1, fX8_pass L a 41 (nI 0) c = some (x, c1) ∧ fX10_goes m = some (x, m1) ∧ TR H O L c0 m0 (N + 1) a c1 m1 ∧ CF a c c1 ∧ MF m m1 := by
  obtain ⟨h1, h2, h3, h4, h5, h6⟩ := h
  obtain ⟨x, c1, m1, f1, f2, f3, f4, f5, f6⟩ := pass_v ha.rs hN h1 h2 h3 h4
  have ha' := ha
  unfold RT at ha'
  refine ⟨x, c1, m1, f1, f2, ⟨f3, ?_, h3.keep ha.rs f4 f5, ?_, h5.tr (f4.ce (by omega)), h6.mf f5⟩, f4, f5⟩
  · rw [f4.1 50 (by omega), f5.1 502 0 (by omega) (by omega) (by omega) (by omega) (by omega) (by omega)]
    exact h2
  · rw [f5.1 500 49 (by omega) (by omega) (by omega) (by omega) (by omega) (by omega)]
    exact h4
theorem TR.c557 {H O N a : Nat} {L : List Nat} {c0 m0 c m m1 : St} (h : TR H O L c0 m0 N a c m) (hm : ∀ s x, s ≠ 557 → m1.1 s x = m.1 s x) : TR H O L c0 m0 N a c m1 := by
  obtain ⟨h1, h2, h3, h4, h5, h6⟩ := h
  refine ⟨h1.cgm (fun s s1 s2 => funext (fun x => hm s x (by omega))) (fun i _ => hm 502 i (by omega)), ?_, h3.cgm (hm 502 11 (by omega)) (fun s s1 s2 => funext (fun x => hm s x (by omega))), ?_, h5, ⟨fun t ht j hj => ?_, fun s x ht => ?_⟩⟩
  · rw [hm 502 0 (by omega)]
    exact h2
  · rw [hm 500 49 (by omega)]
    exact h4
  · rw [hm 559 _ (by omega)]
    exact h6.1 t ht j hj
  · rw [← h6.2 s x ht]
    unfold tS at ht
    exact hm s x (by omega)
def cpS (t : St) : St := match fX10_copies 503 8 557 8 t with
  | some u => u
  | none => t
theorem cpS_v (t : St) : fX10_copies 503 8 557 8 t = some (cpS t) ∧ (∀ j, j < 8 → (cpS t).1 557 j = t.1 503 j) ∧ ∀ s x, s ≠ 557 → (cpS t).1 s x = t.1 s x := by
  obtain ⟨u, a1, a2, a3, a4⟩ := copies_v (a := 503) (b := 557) (n := 8) (by omega) (by omega) 8 0 10000 t (by omega) (by omega)
  have a1' : fX10_copies 503 8 557 8 t = some u := a1
  have e : cpS t = u := by
    unfold cpS
    rw [a1']
  rw [e]
  exact ⟨a1', fun j hj => a2 j (by omega) hj, fun s x hs => a3 s x (by omega)⟩
/-- the reference's nights behind a beginning, shown at night s -/
def Mq (s : Int32) (M : St) : Nat → St
  | 0 => M
  | n + 1 => match fX10_goes (Mq s M n) with
    | some p => if nI n = s then cpS p.2 else p.2
    | none => Mq s M n
theorem Mq_step {H O n : Nat} {s : Int32} {L : List Nat} {c0 m0 M c : St} (hn : n < 9000) (h : TR H O L c0 m0 n 83 c (Mq s M n)) : ∃ x c1 t, fX8_pass L 83 41 (nI 0) c = some (x, c1) ∧ fX10_goes (Mq s M n) = some (x, t) ∧ Mq s M (n + 1) = (if nI n = s then cpS t else t) ∧ TR H O L c0 m0 (n + 1) 83 c1 (Mq s M (n + 1)) ∧ (∀ k x, k ≠ 557 → (Mq s M (n + 1)).1 k x = t.1 k x) ∧ CF 83 c c1 ∧ MF (Mq s M n) t := by
  obtain ⟨x, c1, t, f1, f2, f3, f4, f5⟩ := h.stepf (Or.inr (Or.inl rfl)) (by omega)
  have e : Mq s M (n + 1) = (if nI n = s then cpS t else t) := by
    rw [Mq, f2]
  have hk : ∀ k x, k ≠ 557 → (Mq s M (n + 1)).1 k x = t.1 k x := by
    intro k x hk
    rw [e]
    split
    · exact (cpS_v t).2.2 k x hk
    · rfl
  exact ⟨x, c1, t, f1, f2, e, f3.c557 hk, hk, f4, f5⟩
theorem Mq_runs {H O : Nat} {s : Int32} {L : List Nat} {c0 m0 M c : St} (h : TR H O L c0 m0 0 83 c M) : ∀ n, n ≤ 61 → ∃ c1, TR H O L c0 m0 n 83 c1 (Mq s M n) := by
  intro n
  induction n with
  | zero => exact fun _ => ⟨c, h⟩
  | succ n ih =>
    intro hn
    obtain ⟨c1, h1⟩ := ih (by omega)
    obtain ⟨x, c2, t, f1, f2, f3, f4, -⟩ := Mq_step (by omega) h1
    exact ⟨c2, f4⟩
theorem Mq_books {H O : Nat} {s : Int32} {L : List Nat} {c0 m0 M c : St} (h : TR H O L c0 m0 0 83 c M) : ∀ n, n ≤ 61 → (Mq s M n).1 502 9 = M.1 502 9 := by
  intro n
  induction n with
  | zero => exact fun _ => rfl
  | succ n ih =>
    intro hn
    obtain ⟨c1, h1⟩ := Mq_runs (s := s) h n (by omega)
    obtain ⟨x, c2, t, f1, f2, f3, f4, f5, f6, f7⟩ := Mq_step (by omega) h1
    rw [f5 502 9 (by omega), f7.1 502 9 (by omega) (by omega) (by omega) (by omega) (by omega) (by omega)]
    exact ih (by omega)
theorem Mq_shown {H O k : Nat} {L : List Nat} {c0 m0 M c : St} (hk : k ≤ 60) (h : TR H O L c0 m0 0 83 c M) {j : Nat} (hj : j < 8) : ∀ d, k + 1 + d ≤ 61 → (Mq (nI k) M (k + 1 + d)).1 557 j = (Mq (nI k) M (k + 1)).1 503 j := by
  intro d
  induction d with
  | zero =>
    intro hd
    obtain ⟨c1, h1⟩ := Mq_runs (s := nI k) h k (by omega)
    obtain ⟨x, c2, t, f1, f2, f3, f4, f5, f6, f7⟩ := Mq_step (by omega) h1
    rw [Nat.add_zero, f5 503 j (by omega), f3, if_pos rfl, (cpS_v t).2.1 j hj]
  | succ d ih =>
    intro hd
    obtain ⟨c1, h1⟩ := Mq_runs (s := nI k) h (k + 1 + d) (by omega)
    obtain ⟨x, c2, t, f1, f2, f3, f4, f5, f6, f7⟩ := Mq_step (by omega) h1
    rw [show k + 1 + (d + 1) = k + 1 + d + 1 by omega, f3, if_neg (by rw [eq_nI (by omega) (by omega)]; omega), f7.1 557 j (by omega) (by omega) (by omega) (by omega) (by omega) (by omega)]
    exact ih (by omega)
/-- the books of both sides -/
def BK (H B : Nat) (c m : St) : Prop := B ≤ 10 ∧ c.1 120 7 = nI B ∧ m.1 502 9 = nI B ∧ ∀ i, i < B → (c.1 125 i = m.1 513 i ∧ c.1 126 i = m.1 514 i ∧ c.1 127 i = m.1 515 i) ∧ (∃ n, n ≤ 60 ∧ m.1 513 i = nI n) ∧ ∃ h, h < H ∧ m.1 514 i = nI h
/-- the books of night n, from the i-th on, are so -/
def Ag (B : Nat) (m : St) (n i : Nat) : Prop := ∀ j, i ≤ j → j < B → m.1 513 j = nI n → m.1 503 (m.1 514 j).toNatClampNeg = m.1 515 j
theorem Ag.nx {B n i : Nat} {m : St} (hi : i < B) : Ag B m n i ↔ (m.1 513 i = nI n → m.1 503 (m.1 514 i).toNatClampNeg = m.1 515 i) ∧ Ag B m n (i + 1) := by
  constructor
  · intro h
    exact ⟨h i (Nat.le_refl i) hi, fun j j1 j2 => h j (by omega) j2⟩
  · rintro ⟨h1, h2⟩ j j1 j2
    by_cases e : j = i
    · subst e
      exact h1
    · exact h2 j (by omega) j2
theorem agrees_L {H O n B : Nat} {c m : St} (hH : H ≤ 8) (hr : RowR H O (c.1 83) m) (hb : BK H B c m) (hn : n < 1000) : ∀ (d i k : Nat), i + d = B → d < k → ∃ x, fX6_agrees_L2 (nI n) c k (nI i) = some x ∧ ((x = nI 1 ∧ Ag B m n i) ∨ (x = nI 0 ∧ ¬ Ag B m n i)) := by
  obtain ⟨B9, b1, b2, b3⟩ := hb
  intro d
  induction d with
  | zero =>
    intro i k hi hk
    obtain ⟨k, rfl⟩ : ∃ j, k = j + 1 := ⟨k - 1, by omega⟩
    refine ⟨nI 1, ?_, Or.inl ⟨rfl, fun j j1 j2 => by omega⟩⟩
    rw [fX6_agrees_L2, b1, if_pos (by rw [le_nI (by omega) (by omega)]; omega)]
    rfl
  | succ d ih =>
    intro i k hi hk
    obtain ⟨k, rfl⟩ : ∃ j, k = j + 1 := ⟨k - 1, by omega⟩
    obtain ⟨⟨e1, e2, e3⟩, ⟨q, q9, eq⟩, h, hh, eh⟩ := b3 i (by omega)
    obtain ⟨x, x1, x2⟩ := ih (i + 1) k (by omega) (by omega)
    rw [Ag.nx (show i < B by omega), eh, cl_nI (by omega)]
    rw [eh] at e2
    have e4 := (hr.1 h hh).1
    rw [fX6_agrees_L2, b1, if_neg (by rw [le_nI (by omega) (by omega)]; omega)]
    simp (disch := omega) only [lit_nI, gd_ix, cl_nI, nm_eq, nI_add, Nat.zero_add, e1, e2, e3, e4]
    by_cases z : m.1 513 i = nI n
    · rw [if_pos z]
      by_cases z2 : m.1 503 h = m.1 515 i
      · rw [if_pos z2]
        refine ⟨x, x1, ?_⟩
        rcases x2 with ⟨y1, y2⟩ | ⟨y1, y2⟩
        · exact Or.inl ⟨y1, fun _ => z2, y2⟩
        · exact Or.inr ⟨y1, fun q => y2 q.2⟩
      · rw [if_neg z2]
        exact ⟨nI 0, rfl, Or.inr ⟨rfl, fun q => z2 (q.1 z)⟩⟩
    · rw [if_neg z]
      refine ⟨x, x1, ?_⟩
      rcases x2 with ⟨y1, y2⟩ | ⟨y1, y2⟩
      · exact Or.inl ⟨y1, fun q => absurd q z, y2⟩
      · exact Or.inr ⟨y1, fun q => y2 q.2⟩
theorem could_32 {H n B : Nat} {m : St} {p1 s : Int32} {K : Int32 → Int32 → St → Option (Int32 × St)} (hH : H ≤ 8) (B9 : B ≤ 10) (b2 : m.1 502 9 = nI B) (b3 : ∀ i, i < B → ∃ h, h < H ∧ m.1 514 i = nI h) : ∀ (d i k : Nat) (y : Int32), i + d = B → d < k → (y = nI 0 ∨ y = nI 1) → ∃ y', (y' = nI 0 ∨ y' = nI 1) ∧ fX10_couldRule_L32 p1 s K k y (nI n) (nI i) m = (if nI n = s then K y' (nI (n + 1)) (cpS m) else K y' (nI (n + 1)) m) ∧ (y' = nI 1 ↔ y = nI 1 ∧ Ag B m n i) := by
  intro d
  induction d with
  | zero =>
    intro i k y hi hk hy
    obtain ⟨k, rfl⟩ : ∃ j, k = j + 1 := ⟨k - 1, by omega⟩
    refine ⟨y, hy, ?_, ⟨fun q => ⟨q, fun j j1 j2 => by omega⟩, fun q => q.1⟩⟩
    rw [fX10_couldRule_L32, b2, if_pos (by rw [le_nI (by omega) (by omega)]; omega), (cpS_v m).1, br_some]
    simp only [nm_eq, lit_nI, nI_add]
  | succ d ih =>
    intro i k y hi hk hy
    obtain ⟨k, rfl⟩ : ∃ j, k = j + 1 := ⟨k - 1, by omega⟩
    obtain ⟨h, hh, eh⟩ := b3 i (by omega)
    rw [Ag.nx (show i < B by omega), eh, cl_nI (by omega)]
    rw [fX10_couldRule_L32, b2, if_neg (by rw [le_nI (by omega) (by omega)]; omega)]
    unfold fX10_couldRule_B82 fX10_couldRule_B86
    simp (disch := omega) only [lit_nI, gd_ix, cl_nI, nm_eq, nI_add, eh]
    obtain ⟨u, u1, u2, u3⟩ := ih (i + 1) k (nI 0) (by omega) (by omega) (Or.inl rfl)
    obtain ⟨v, v1, v2, v3⟩ := ih (i + 1) k (nI 1) (by omega) (by omega) (Or.inr rfl)
    have u0 : ¬ u = nI 1 := fun q => by
      have := (u3.mp q).1
      rw [n01] at this
      exact this
    rcases hy with rfl | rfl
    · rw [if_pos rfl]
      exact ⟨u, u1, u2, fun q => absurd q u0, fun q => by rw [n01] at q; exact q.1.elim⟩
    · rw [if_neg (by rw [n10]; exact id)]
      by_cases z : m.1 513 i = nI n
      · rw [if_pos z]
        by_cases z2 : m.1 503 h = m.1 515 i
        · rw [if_pos z2]
          exact ⟨v, v1, v2, fun q => ⟨rfl, fun _ => z2, (v3.mp q).2⟩, fun q => v3.mpr ⟨rfl, q.2.2⟩⟩
        · rw [if_neg z2]
          exact ⟨u, u1, u2, fun q => absurd q u0, fun q => absurd (q.2.1 z) z2⟩
      · rw [if_neg z]
        exact ⟨v, v1, v2, fun q => ⟨rfl, fun q => absurd q z, (v3.mp q).2⟩, fun q => v3.mpr ⟨rfl, q.2.2⟩⟩
theorem could_L {H O B : Nat} {s p1 : Int32} {L : List Nat} {c0 m0 M c : St} (h : TR H O L c0 m0 0 83 c M) (hH : H ≤ 8) (B9 : B ≤ 10) (b2 : M.1 502 9 = nI B) (b3 : ∀ i, i < B → ∃ h, h < H ∧ m0.1 514 i = nI h) : ∀ (d n k : Nat) (y : Int32), n + d = 61 → d < k → (y = nI 0 ∨ y = nI 1) → ∃ y', (y' = nI 0 ∨ y' = nI 1) ∧ fX10_couldRule_L17 p1 s k y (nI n) (Mq s M n) = br (fX10_laysBack (Mq s M 61)) (fun s3 => gd (bz y') (some (y', s3))) ∧ (y' = nI 1 ↔ y = nI 1 ∧ ∀ j, n ≤ j → j < 61 → Ag B (Mq s M (j + 1)) j 0) := by
  intro d
  induction d with
  | zero =>
    intro n k y hi hk hy
    obtain ⟨k, rfl⟩ : ∃ j, k = j + 1 := ⟨k - 1, by omega⟩
    have e : n = 61 := by omega
    subst e
    refine ⟨y, hy, ?_, fun q => ⟨q, fun j j1 j2 => by omega⟩, fun q => q.1⟩
    rw [fX10_couldRule_L17]
    simp only [lit_nI]
    rw [if_pos (by decide)]
  | succ d ih =>
    intro n k y hi hk hy
    obtain ⟨k, rfl⟩ : ∃ j, k = j + 1 := ⟨k - 1, by omega⟩
    obtain ⟨c1, h1⟩ := Mq_runs (s := s) h n (by omega)
    obtain ⟨x, c2, t, f1, f2, f3, f4, f5, f6, f7⟩ := Mq_step (by omega) h1
    have eb : t.1 502 9 = nI B := by
      rw [← f5 502 9 (by omega), Mq_books h (n + 1) (by omega)]
      exact b2
    have e14 : ∀ i, t.1 514 i = m0.1 514 i := fun i => by
      rw [← f5 514 i (by omega)]
      exact f4.2.2.2.2.2.2 514 i (by unfold tS; omega)
    obtain ⟨y1, g1, g2, g3⟩ := could_32 (p1 := p1) (s := s) (K := fX10_couldRule_L17 p1 s k) (n := n) hH B9 eb (fun i hi => by rw [e14]; exact b3 i hi) B 0 10000 y (by omega) (by omega) hy
    obtain ⟨y2, k1, k2, k3⟩ := ih (n + 1) k y1 (by omega) (by omega) g1
    have ag : Ag B t n 0 ↔ Ag B (Mq s M (n + 1)) n 0 := by
      unfold Ag
      constructor
      · intro q j j1 j2 j3
        rw [f5 503 _ (by omega), f5 514 j (by omega), f5 515 j (by omega)]
        rw [f5 513 j (by omega)] at j3
        exact q j j1 j2 j3
      · intro q j j1 j2 j3
        have := q j j1 j2 (by rw [f5 513 j (by omega)]; exact j3)
        rw [f5 503 _ (by omega), f5 514 j (by omega), f5 515 j (by omega)] at this
        exact this
    refine ⟨y2, k1, ?_, ?_⟩
    · rw [fX10_couldRule_L17]
      simp only [lit_nI]
      rw [if_neg (by rw [lt_nI (by omega) (by omega)]; omega), f2, bw_some]
      rw [g2, ← k2, f3]
      split <;> rfl
    · rw [k3, g3, ag]
      constructor
      · rintro ⟨⟨q1, q2⟩, q3⟩
        refine ⟨q1, fun j j1 j2 => ?_⟩
        by_cases e : j = n
        · subst e
          exact q2
        · exact q3 j (by omega) j2
      · rintro ⟨q1, q2⟩
        exact ⟨⟨q1, q2 n (by omega) (by omega)⟩, fun j j1 j2 => q2 j (by omega) j2⟩
/-- rules from none on -/
def ri : Nat → Int32
  | 0 => -nI 1
  | i + 1 => nI i
theorem ri_add (i : Nat) : ri i + nI 1 = ri (i + 1) := by
  cases i with
  | zero => decide
  | succ i => exact nI_add i 1
theorem ri_toInt {i : Nat} (h : i < 1000) : (ri i).toInt = (i : Int) - 1 := by
  cases i with
  | zero => decide
  | succ i =>
    show (nI i).toInt = _
    rw [nI_toInt (by omega)]
    omega
theorem last_L {B W0 : Nat} {c : St} (B9 : B ≤ 10) (b1 : c.1 120 7 = nI B) (b3 : ∀ i, i < B → ∃ n, n ≤ 60 ∧ c.1 125 i = nI n) : ∀ (d i k W : Nat), i + d = B → d < k → W ≤ 61 → ∃ W', W ≤ W' ∧ W' ≤ 61 ∧ fX6_lastBookNight_L4 c k (ri W) (nI i) = some (ri W') ∧ ∀ j n, i ≤ j → j < B → n ≤ 60 → c.1 125 j = nI n → n < W' := by
  intro d
  induction d with
  | zero =>
    intro i k W hi hk hW
    obtain ⟨k, rfl⟩ : ∃ j, k = j + 1 := ⟨k - 1, by omega⟩
    refine ⟨W, Nat.le_refl W, hW, ?_, fun j n j1 j2 => by omega⟩
    rw [fX6_lastBookNight_L4, b1, if_pos (by rw [le_nI (by omega) (by omega)]; omega)]
  | succ d ih =>
    intro i k W hi hk hW
    obtain ⟨k, rfl⟩ : ∃ j, k = j + 1 := ⟨k - 1, by omega⟩
    obtain ⟨n, n9, en⟩ := b3 i (by omega)
    have hc : (if ri W < nI n then nI n else ri W) = ri (max W (n + 1)) := by
      by_cases q : W < n + 1
      · rw [if_pos (by rw [Int32.lt_iff_toInt_lt, ri_toInt (by omega), nI_toInt (by omega)]; omega), Nat.max_eq_right (by omega)]
        rfl
      · rw [if_neg (by rw [Int32.lt_iff_toInt_lt, ri_toInt (by omega), nI_toInt (by omega)]; omega), Nat.max_eq_left (by omega)]
    obtain ⟨W', w1, w2, w3, w4⟩ := ih (i + 1) k (max W (n + 1)) (by omega) (by omega) (by omega)
    refine ⟨W', by omega, w2, ?_, fun j n' j1 j2 j3 j4 => ?_⟩
    · rw [fX6_lastBookNight_L4, b1, if_neg (by rw [le_nI (by omega) (by omega)]; omega)]
      simp (disch := omega) only [lit_nI, gd_ix, cl_nI, nm_eq, nI_add, en, hc]
      exact w3
    · by_cases e : j = i
      · subst e
        rw [en, eq_nI (by omega) (by omega)] at j4
        omega
      · exact w4 j n' (by omega) j2 j3 j4
theorem fits_L {H O B W : Nat} {s : Int32} {L : List Nat} {o : Option Nat} {c0 m0 M : St} (hH : H ≤ 8) (hW : W ≤ 61) (hb : ∀ n c, n ≤ 61 → TR H O L c0 m0 n 83 c (Mq s M n) → BK H B c (Mq s M n)) : ∀ (d n k : Nat) (c : St), n + d = W → d < k → TR H O L c0 m0 n 83 c (Mq s M n) → ∃ x c1, fX6_fits_L12 L o k (ri W) (nI n) c = some (x, c1) ∧ CE c0 c1 ∧ c1.1 80 = c.1 80 ∧ c1.1 84 = c.1 84 ∧ ((x = nI 1 ∧ ∀ j, n ≤ j → j < W → Ag B (Mq s M (j + 1)) j 0) ∨ (x = nI 0 ∧ ∃ j, n ≤ j ∧ j < W ∧ ¬ Ag B (Mq s M (j + 1)) j 0)) := by
  intro d
  induction d with
  | zero =>
    intro n k c hi hk h
    obtain ⟨k, rfl⟩ : ∃ j, k = j + 1 := ⟨k - 1, by omega⟩
    refine ⟨nI 1, c, ?_, h.2.2.2.2.1, rfl, rfl, Or.inl ⟨rfl, fun j j1 j2 => by omega⟩⟩
    rw [fX6_fits_L12, if_pos (by rw [Int32.lt_iff_toInt_lt, ri_toInt (by omega), nI_toInt (by omega)]; omega)]
    rfl
  | succ d ih =>
    intro n k c hi hk h
    obtain ⟨k, rfl⟩ : ∃ j, k = j + 1 := ⟨k - 1, by omega⟩
    obtain ⟨x, c2, t, f1, f2, f3, f4, f5, f6, f7⟩ := Mq_step (by omega) h
    obtain ⟨y, y1, y2⟩ := agrees_L (n := n) hH f4.1.2.2.1 (hb (n + 1) c2 (by omega) f4) (by omega) B 0 10000 (by omega) (by have := (hb (n + 1) c2 (by omega) f4).1; omega)
    have y1' : fX6_agrees c2 (nI n) = some y := y1
    rw [fX6_fits_L12, if_neg (by rw [Int32.lt_iff_toInt_lt, ri_toInt (by omega), nI_toInt (by omega)]; omega)]
    simp only [lit_nI, f1, bw_some, y1', br_some, nm_eq, nI_add]
    rcases y2 with ⟨rfl, q⟩ | ⟨rfl, q⟩
    · rw [if_neg (by rw [n10]; exact id)]
      obtain ⟨x', c3, g1, g2, g3, g4, g5⟩ := ih (n + 1) k c2 (by omega) (by omega) f4
      refine ⟨x', c3, g1, g2, by rw [g3, f6.1 80 (by omega)], by rw [g4, f6.1 84 (by omega)], ?_⟩
      rcases g5 with ⟨r1, r2⟩ | ⟨r1, j, j1, j2, j3⟩
      · refine Or.inl ⟨r1, fun j j1 j2 => ?_⟩
        by_cases e : j = n
        · subst e
          exact q
        · exact r2 j (by omega) j2
      · exact Or.inr ⟨r1, j, by omega, j2, j3⟩
    · rw [if_pos rfl]
      exact ⟨nI 0, c2, rfl, f4.2.2.2.2.1, f6.1 80 (by omega), f6.1 84 (by omega), Or.inr ⟨rfl, n, Nat.le_refl n, by omega, q⟩⟩
theorem add_L {H O k0 z : Nat} {s : Int32} {L : List Nat} {o : Option Nat} {c0 m0 M : St} (hk : k0 ≤ 60) (hz : z ≤ 6) : ∀ (d n k : Nat) (c : St), n + d = k0 + 1 → d < k → TR H O L c0 m0 n 83 c (Mq s M n) → c.1 80 4 = nI z → ∃ c1, fX6_add_L17 L o (nI k0) k (nI n) c = some c1 ∧ CE c0 c1 ∧ c1.1 80 4 = nI (z + 1) ∧ (∀ h, h < H → c1.1 84 (8 * z + h) = (Mq s M (k0 + 1)).1 503 h) ∧ (∀ j, j < 8 * z → c1.1 84 j = c.1 84 j) := by
  intro d
  induction d with
  | zero =>
    intro n k c hi hk' h e4
    obtain ⟨k, rfl⟩ : ∃ j, k = j + 1 := ⟨k - 1, by omega⟩
    have en : n = k0 + 1 := by omega
    subst en
    have hH := h.1.1.1
    refine ⟨ui (ur c 84 (va_cpy (c.1 83) (c.1 84) 0 (8 * z) 8)) 80 4 (nI (z + 1)), ?_, ?_, ?_, fun j hj => ?_, fun j hj => ?_⟩
    · rw [fX6_add_L17, if_pos (by rw [lt_nI (by omega) (by omega)]; omega)]
      simp (disch := omega) only [lit_nI, e4, pk_mul, cpk_n, gd_tt, cl_nI, ↓nm_eq, ur_rd, Nat.reduceEqDiff, if_false, nI_add]
      rw [Nat.mul_comm z 8]
    · refine h.2.2.2.2.1.tr ⟨fun j hj => ?_, fun _ _ => rfl, fun i r e => ⟨50, i, e⟩⟩
      rw [ui_ne (by omega), ur_ne (by omega)]
    · rw [ui_rd, if_pos rfl, if_pos rfl]
    · rw [ui_ne (by omega), ur_eq, pk_cpy_in (by omega) (by omega), show 0 + (8 * z + j - 8 * z) = j by omega]
      exact (h.1.2.2.1.1 j hj).1
    · rw [ui_ne (by omega), ur_eq, pk_cpy_out (by omega)]
  | succ d ih =>
    intro n k c hi hk' h e4
    obtain ⟨k, rfl⟩ : ∃ j, k = j + 1 := ⟨k - 1, by omega⟩
    obtain ⟨x, c2, t, f1, f2, f3, f4, f5, f6, f7⟩ := Mq_step (by omega) h
    obtain ⟨c3, g1, g2, g3, g4, g5⟩ := ih (n + 1) k c2 (by omega) (by omega) f4 (by rw [f6.1 80 (by omega)]; exact e4)
    refine ⟨c3, ?_, g2, g3, g4, fun j hj => by rw [g5 j hj, f6.1 84 (by omega)]⟩
    rw [fX6_add_L17, if_neg (by rw [lt_nI (by omega) (by omega)]; omega)]
    simp only [lit_nI, f1, bw_some, nm_eq, nI_add]
    exact g1
