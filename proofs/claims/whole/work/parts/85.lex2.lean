theorem stood_63 {t : Nat → Nat} {T p j : Nat} {m : St} (h : TM t T m) (hp : m.1 500 30 = nI p) (p9 : p < 100000) (hj : j < 23) (hw : p + slN j ≤ T) : ∀ (d k n : Nat), k + d = slN j → d < n → ∃ x, fX10_stood_L63 j m n (nI 1) (nI k) = some x ∧ ((x = nI 1 ∧ ∀ i, k ≤ i → i < slN j → t (p + i) = chN j i) ∨ (x = nI 0 ∧ ¬ ∀ i, k ≤ i → i < slN j → t (p + i) = chN j i)) := by
  obtain ⟨l1, l2⟩ := len_v j hj
  intro d
  induction d with
  | zero =>
    intro k n hk hn
    obtain ⟨n, rfl⟩ : ∃ j, n = j + 1 := ⟨n - 1, by omega⟩
    refine ⟨nI 1, ?_, Or.inl ⟨rfl, fun i h1 h2 => by omega⟩⟩
    rw [fX10_stood_L63, l1, br_some, if_pos (by rw [le_nI (by omega) (by omega)]; omega)]
    rfl
  | succ d ih =>
    intro k n hk hn
    obtain ⟨n, rfl⟩ : ∃ j, n = j + 1 := ⟨n - 1, by omega⟩
    have hT := h.1
    obtain ⟨b1, b2⟩ := h.2.2 (p + k) (by omega)
    obtain ⟨c1, c2⟩ := char_v j hj k (by omega)
    have heq : (sgn (t (p + k)) = nI (chN j k)) ↔ t (p + k) = chN j k := by
      unfold sgn
      by_cases q : t (p + k) < 128
      · rw [if_pos q, eq_nI (by omega) (by omega)]
      · rw [if_neg q]
        constructor
        · intro z
          have z2 := congrArg Int32.toInt z
          rw [← Int32.zero_sub, show (0 : Int32) = nI 0 from rfl, pk_sub_toInt (by omega) (by omega), nI_toInt (by omega)] at z2
          omega
        · intro z
          omega
    rw [fX10_stood_L63, l1, br_some, if_neg (by rw [le_nI (by omega) (by omega)]; omega)]
    simp (disch := omega) only [lit_nI, n10, if_false, hp, nI_add, gd_ix, cl_nI, c1, br_some, b2, nm_eq]
    by_cases z : t (p + k) = chN j k
    · rw [if_pos (heq.mpr z)]
      obtain ⟨x, x1, x2⟩ := ih (k + 1) n (by omega) (by omega)
      refine ⟨x, x1, ?_⟩
      rcases x2 with ⟨y1, y2⟩ | ⟨y1, y2⟩
      · refine Or.inl ⟨y1, fun i i1 i2 => ?_⟩
        by_cases e : i = k
        · subst e
          exact z
        · exact y2 i (by omega) i2
      · exact Or.inr ⟨y1, fun q => y2 (fun i i1 i2 => q i (by omega) i2)⟩
    · rw [if_neg (fun q => z (heq.mp q))]
      obtain ⟨n, rfl⟩ : ∃ j, n = j + 1 := ⟨n - 1, by omega⟩
      refine ⟨nI 0, ?_, Or.inr ⟨rfl, fun q => z (q k (by omega) (by omega))⟩⟩
      rw [fX10_stood_L63, l1, br_some]
      simp only [lit_nI, if_true]
      split <;> rfl
theorem stood_L {t : Nat → Nat} {T p j : Nat} {m : St} (h : TM t T m) (hp : m.1 500 30 = nI p) (p9 : p < 100000) (hj : j < 23) : ∀ (d e n : Nat), T - e = d → d < n → p ≤ e → e < 100000 → fX10_stood_L5 j m n (nI e) = fX10_stood_B41 j m (nI (rE (isL t) T e)) := by
  have hT := h.1
  intro d
  induction d with
  | zero =>
    intro e n hd hn he e9
    obtain ⟨n, rfl⟩ : ∃ j, n = j + 1 := ⟨n - 1, by omega⟩
    rw [fX10_stood_L5, h.2.1, if_pos (by rw [le_nI (by omega) (by omega)]; omega), rE_st (by omega)]
  | succ d ih =>
    intro e n hd hn he e9
    obtain ⟨n, rfl⟩ : ∃ j, n = j + 1 := ⟨n - 1, by omega⟩
    obtain ⟨b1, b2⟩ := h.2.2 e (by omega)
    obtain ⟨s1, s2⟩ := sgn_lt (t e) b1
    rw [fX10_stood_L5, h.2.1, if_neg (by rw [le_nI (by omega) (by omega)]; omega)]
    simp (disch := omega) only [lit_nI, gd_ix, cl_nI, b2, nm_eq, nI_add]
    by_cases z1 : t e < 97 ∨ 128 ≤ t e
    · rw [if_pos (s1.mpr z1), rE_st (fun q => by have := of_decide_eq_true q.2; omega)]
    · rw [if_neg (fun q => z1 (s1.mp q))]
      by_cases z2 : 122 < t e ∧ t e < 128
      · rw [if_pos (s2.mpr z2), rE_st (fun q => by have := of_decide_eq_true q.2; omega)]
      · rw [if_neg (fun q => z2 (s2.mp q)), ih (e + 1) n (by omega) (by omega) (by omega) (by omega), rE_go (Q := isL t) (p := e) (by omega) (decide_eq_true (by omega))]
theorem stood_v {t : Nat → Nat} {T p j : Nat} {m : St} (h : TM t T m) (hp : m.1 500 30 = nI p) (p9 : p < 90000) (hj : j < 23) (hs : 1 ≤ slN j) : ∃ x, fX10_stood j m = some x ∧ ((x = nI 1 ∧ WI t T j p) ∨ (x = nI 0 ∧ ¬ WI t T j p)) := by
  have hT := h.1
  obtain ⟨l1, l2⟩ := len_v j hj
  have hge := rE_ge (Q := isL t) (T := T) (p := p)
  have hle : rE (isL t) T p ≤ 90000 := by
    by_cases z : p ≤ T
    · have := rE_le (Q := isL t) z
      omega
    · rw [rE_st (by omega)]
      omega
  unfold fX10_stood
  rw [nm_eq, hp, stood_L h hp (by omega) hj (T - p) p 10000 rfl (by omega) (Nat.le_refl p) (by omega)]
  unfold fX10_stood_B41 WI we
  rw [l1, br_some, hp, pk_sub hge]
  by_cases z : rE (isL t) T p - p = slN j
  · rw [if_pos (show nI (rE (isL t) T p - p) = nI (slN j) by rw [z])]
    have hpT : p ≤ T := by
      refine Decidable.byContradiction (fun q => ?_)
      rw [rE_st (by omega)] at z
      omega
    have := rE_le (Q := isL t) hpT
    obtain ⟨x, x1, x2⟩ := stood_63 h hp (by omega) hj (by omega) (slN j) 0 10000 (by omega) (by omega)
    refine ⟨x, x1, ?_⟩
    rcases x2 with ⟨y1, y2⟩ | ⟨y1, y2⟩
    · exact Or.inl ⟨y1, z, fun k hk => y2 k (by omega) hk⟩
    · exact Or.inr ⟨y1, fun q => y2 (fun i _ hi => q.2 i hi)⟩
  · rw [if_neg (show ¬ nI (rE (isL t) T p - p) = nI (slN j) from fun q => by rw [eq_nI (by omega) (by omega)] at q; exact z q)]
    refine ⟨nI 0, ?_, Or.inr ⟨rfl, fun q => z q.1⟩⟩
    rw [show (10000 : Nat) = 9999 + 1 from rfl, fX10_stood_L63, l1, br_some]
    simp only [lit_nI, if_true]
    split <;> rfl
/-- where the digits at p end -/
def de (t : Nat → Nat) (T p : Nat) : Nat := rE (isD t) T p
/-- the number of the first five digits from b on -/
def nv (t : Nat → Nat) (T b : Nat) : Nat → Nat → Nat → Nat
  | 0, _, v => v
  | d + 1, p, v => if p < T ∧ isD t p = true then nv t T b d (p + 1) (if p - b < 5 then v * 10 + (t p - 48) else v) else v
def nV (t : Nat → Nat) (T b p v : Nat) : Nat := nv t T b (T - p) p v
theorem nV_go {t : Nat → Nat} {T b p v : Nat} (h1 : p < T) (h2 : isD t p = true) : nV t T b p v = nV t T b (p + 1) (if p - b < 5 then v * 10 + (t p - 48) else v) := by
  unfold nV
  rw [show T - p = T - (p + 1) + 1 by omega, nv, if_pos ⟨h1, h2⟩]
theorem nV_st {t : Nat → Nat} {T b p v : Nat} (h : ¬ (p < T ∧ isD t p = true)) : nV t T b p v = v := by
  unfold nV
  by_cases h1 : p < T
  · rw [show T - p = T - (p + 1) + 1 by omega, nv, if_neg h]
  · rw [show T - p = 0 by omega, nv]
theorem pow10 : ∀ k, k ≤ 5 → 10 ^ k ≤ 100000 := by decide
theorem nV_b {t : Nat → Nat} {T b : Nat} : ∀ (d p v : Nat), T - p = d → b ≤ p → v < 10 ^ (min (p - b) 5) → nV t T b p v < 100000 := by
  intro d
  induction d with
  | zero =>
    intro p v hd hb hv
    rw [nV_st (by omega)]
    have := pow10 (min (p - b) 5) (by omega)
    omega
  | succ d ih =>
    intro p v hd hb hv
    by_cases h : isD t p = true
    · rw [nV_go (by omega) h]
      have hd' := of_decide_eq_true h
      refine ih (p + 1) _ (by omega) (by omega) ?_
      by_cases z : p - b < 5
      · rw [if_pos z, show min (p + 1 - b) 5 = min (p - b) 5 + 1 by omega, Nat.pow_succ]
        omega
      · rw [if_neg z, show min (p + 1 - b) 5 = min (p - b) 5 by omega]
        exact hv
    · rw [nV_st (fun q => h q.2)]
      have := pow10 (min (p - b) 5) (by omega)
      omega
theorem digits_L {t : Nat → Nat} {T b : Nat} {p1 : Int32} : ∀ (d p n v : Nat) (m : St), T - p = d → d < n → b ≤ p → p ≤ T → v < 10 ^ (min (p - b) 5) → TM t T m → m.1 500 30 = nI p → fX10_digits_L25 p1 n (nI b) (nI v) m = (if nI 5 < nI (de t T p - b) then fX10_digits_B87 p1 (nI b) (nI (nV t T b p v)) (ui m 500 30 (nI (de t T p))) else (if nI (nV t T b p v) ≤ p1 then some (nI (nV t T b p v), ui m 500 30 (nI (de t T p))) else fX10_digits_B87 p1 (nI b) (nI (nV t T b p v)) (ui m 500 30 (nI (de t T p))))) := by
  intro d
  induction d with
  | zero =>
    intro p n v m hd hn hb hpT hv h hp
    obtain ⟨n, rfl⟩ : ∃ j, n = j + 1 := ⟨n - 1, by omega⟩
    have hT := h.1
    have e1 : de t T p = p := rE_st (by omega)
    rw [fX10_digits_L25, isDigit_v h hp (by omega), br_some, if_neg (show ¬ (p < T ∧ isD t p = true) by omega), e1, nV_st (by omega), ui_same hp, hp]
    simp (disch := omega) only [lit_nI, if_true, pk_sub]
  | succ d ih =>
    intro p n v m hd hn hb hpT hv h hp
    obtain ⟨n, rfl⟩ : ∃ j, n = j + 1 := ⟨n - 1, by omega⟩
    have hT := h.1
    have hv5 := pow10 (min (p - b) 5) (by omega)
    rw [fX10_digits_L25, isDigit_v h hp (by omega), br_some]
    by_cases z : isD t p = true
    · have hd' := of_decide_eq_true z
      have e1 : de t T p = de t T (p + 1) := rE_go (by omega) z
      rw [if_pos (show p < T ∧ isD t p = true from ⟨by omega, z⟩), e1, nV_go (by omega) z]
      unfold fX10_digits_B58
      simp (disch := omega) only [lit_nI, n10, if_false, hp, pk_sub, nI_add, nm_eq, le_nI, sign_v h hp (by omega), br_some]
      rw [if_pos (show p < T by omega)]
      have hb2 : ∀ v', v' < 10 ^ (min (p + 1 - b) 5) → _ := fun v' hv' => ih (p + 1) n v' (ui m 500 30 (nI (p + 1))) (by omega) (by omega) (by omega) (by omega) hv' (h.ui (by omega) (by omega)) (by rw [ui_rd, if_pos rfl, if_pos rfl])
      simp only [ui_ui] at hb2
      by_cases z5 : p - b < 5
      · rw [if_neg (show ¬ 5 ≤ p - b by omega), if_pos z5]
        simp (disch := omega) only [pk_mul, nI_add, pk_sub]
        rw [show 10 * v + t p - 48 = v * 10 + (t p - 48) by omega]
        refine hb2 _ ?_
        rw [show min (p + 1 - b) 5 = min (p - b) 5 + 1 by omega, Nat.pow_succ]
        omega
      · rw [if_pos (show 5 ≤ p - b by omega), if_neg z5]
        refine hb2 _ ?_
        rw [show min (p + 1 - b) 5 = min (p - b) 5 by omega]
        exact hv
    · have e1 : de t T p = p := rE_st (fun q => z q.2)
      rw [if_neg (show ¬ (p < T ∧ isD t p = true) from fun q => z q.2), e1, nV_st (fun q => z q.2), ui_same hp, hp]
      simp (disch := omega) only [lit_nI, if_true, pk_sub]
