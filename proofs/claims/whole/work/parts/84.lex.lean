/-! texts: what lies where -/
def rn (Q : Nat → Bool) (T : Nat) : Nat → Nat → Nat
  | 0, p => p
  | d + 1, p => if p < T ∧ Q p = true then rn Q T d (p + 1) else p
/-- where a run that begins at p ends -/
def rE (Q : Nat → Bool) (T p : Nat) : Nat := rn Q T (T - p) p
theorem rE_go {Q : Nat → Bool} {T p : Nat} (h1 : p < T) (h2 : Q p = true) : rE Q T p = rE Q T (p + 1) := by
  unfold rE
  rw [show T - p = T - (p + 1) + 1 by omega, rn, if_pos ⟨h1, h2⟩]
theorem rE_st {Q : Nat → Bool} {T p : Nat} (h : ¬ (p < T ∧ Q p = true)) : rE Q T p = p := by
  unfold rE
  by_cases h1 : p < T
  · rw [show T - p = T - (p + 1) + 1 by omega, rn, if_neg h]
  · rw [show T - p = 0 by omega, rn]
theorem rE_all {Q : Nat → Bool} {T : Nat} : ∀ (d p : Nat), T - p = d → p ≤ rE Q T p ∧ (p ≤ T → rE Q T p ≤ T) ∧ (∀ i, p ≤ i → i < rE Q T p → i < T ∧ Q i = true) ∧ (rE Q T p < T → Q (rE Q T p) = false) := by
  intro d
  induction d with
  | zero =>
    intro p hp
    rw [rE_st (by omega)]
    exact ⟨Nat.le_refl p, fun h => h, fun i h1 h2 => by omega, fun h => by omega⟩
  | succ d ih =>
    intro p hp
    by_cases h : Q p = true
    · rw [rE_go (by omega) h]
      obtain ⟨a1, a2, a3, a4⟩ := ih (p + 1) (by omega)
      refine ⟨by omega, fun h => a2 (by omega), fun i h1 h2 => ?_, a4⟩
      by_cases e : i = p
      · subst e
        exact ⟨by omega, h⟩
      · exact a3 i (by omega) h2
    · rw [rE_st (fun q => h q.2)]
      refine ⟨Nat.le_refl p, fun h => h, fun i h1 h2 => by omega, fun _ => ?_⟩
      exact Bool.not_eq_true (Q p) ▸ h
theorem rE_ge {Q : Nat → Bool} {T p : Nat} : p ≤ rE Q T p := (rE_all _ p rfl).1
theorem rE_le {Q : Nat → Bool} {T p : Nat} (h : p ≤ T) : rE Q T p ≤ T := (rE_all _ p rfl).2.1 h
theorem rE_in {Q : Nat → Bool} {T p i : Nat} (h1 : p ≤ i) (h2 : i < rE Q T p) : i < T ∧ Q i = true := (rE_all _ p rfl).2.2.1 i h1 h2
theorem rE_end {Q : Nat → Bool} {T p : Nat} (h : rE Q T p < T) : Q (rE Q T p) = false := (rE_all _ p rfl).2.2.2 h
theorem rE_idem {Q : Nat → Bool} {T p : Nat} : rE Q T (rE Q T p) = rE Q T p := by
  refine rE_st (fun q => ?_)
  have := rE_end (Q := Q) (T := T) (p := p) q.1
  rw [this] at q
  exact nomatch q.2
def isB (t : Nat → Nat) (i : Nat) : Bool := decide (t i = 32)
def isL (t : Nat → Nat) (i : Nat) : Bool := decide (97 ≤ t i ∧ t i ≤ 122)
def isD (t : Nat → Nat) (i : Nat) : Bool := decide (48 ≤ t i ∧ t i ≤ 57)
/-- behind blanks -/
def sk (t : Nat → Nat) (T p : Nat) : Nat := rE (isB t) T p
/-- the tape of the reference -/
def TM (t : Nat → Nat) (T : Nat) (m : St) : Prop := T ≤ 400 ∧ m.1 500 29 = nI T ∧ ∀ i, i < T → t i < 256 ∧ m.1 540 i = sgn (t i)
theorem sgn_and : ∀ b, b < 256 → sgn b &&& nI 255 = nI b := by decide +kernel
theorem sgn_lt : ∀ b, b < 256 → ((sgn b < nI 97 ↔ (b < 97 ∨ 128 ≤ b)) ∧ (nI 122 < sgn b ↔ (122 < b ∧ b < 128))) := by decide +kernel
theorem ui_same {m : St} {k i : Nat} {v : Int32} (h : m.1 k i = v) : ui m k i v = m := by
  have e := ui_id h
  show ((ui m k i v).1, m.2.1, m.2.2) = m
  rw [e]
theorem ui_ui {m : St} {k i : Nat} {v w : Int32} : ui (ui m k i v) k i w = ui m k i w := by
  have e : (ui (ui m k i v) k i w).1 = (ui m k i w).1 := by
    funext a b
    rw [ui_rd, ui_rd, ui_rd]
    by_cases h : a = k
    · rw [if_pos h, if_pos h, if_pos h]
      by_cases h2 : b = i
      · rw [if_pos h2, if_pos h2]
      · rw [if_neg h2, if_neg h2, if_neg h2]
    · rw [if_neg h, if_neg h, if_neg h]
  show ((ui (ui m k i v) k i w).1, m.2.1, m.2.2) = ((ui m k i w).1, m.2.1, m.2.2)
  rw [e]
theorem ui_comm {m : St} {k i k' i' : Nat} {v w : Int32} (h : k ≠ k' ∨ i ≠ i') : ui (ui m k i v) k' i' w = ui (ui m k' i' w) k i v := by
  have e : (ui (ui m k i v) k' i' w).1 = (ui (ui m k' i' w) k i v).1 := by
    funext a b
    rw [ui_rd, ui_rd, ui_rd, ui_rd]
    grind
  show ((ui (ui m k i v) k' i' w).1, m.2.1, m.2.2) = ((ui (ui m k' i' w) k i v).1, m.2.1, m.2.2)
  rw [e]
theorem sign_v {t : Nat → Nat} {T p : Nat} {m : St} (h : TM t T m) (hp : m.1 500 30 = nI p) (p9 : p < 100000) : fX10_sign m = some (if p < T then nI (t p) else -nI 1) := by
  obtain ⟨T4, h1, h2⟩ := h
  unfold fX10_sign
  rw [h1, hp]
  by_cases hl : p < T
  · obtain ⟨b, e⟩ := h2 p hl
    rw [if_neg (by rw [le_nI (by omega) (by omega)]; omega), if_pos hl]
    simp (disch := omega) only [lit_nI, gd_ix, cl_nI, e, sgn_and _ b]
  · rw [if_pos (by rw [le_nI (by omega) (by omega)]; omega), if_neg hl]
    rfl
theorem TM.ui {t : Nat → Nat} {T k i : Nat} {v : Int32} {m : St} (h : TM t T m) (hk : k ≠ 540) (hk2 : ¬ (k = 500 ∧ i = 29)) : TM t T (ui m k i v) := by
  obtain ⟨T4, h1, h2⟩ := h
  refine ⟨T4, ?_, fun j hj => ?_⟩
  · rw [ui_rd]
    by_cases e : 500 = k
    · rw [if_pos e, if_neg (by omega)]
      exact h1
    · rw [if_neg e]
      exact h1
  · rw [ui_ne (by omega)]
    exact h2 j hj
theorem blanks_L {t : Nat → Nat} {T : Nat} : ∀ (d p n : Nat) (m : St), T - p = d → d < n → TM t T m → m.1 500 30 = nI p → p < 100000 → fX10_blanks_L0 n m = some (ui m 500 30 (nI (sk t T p))) := by
  intro d
  induction d with
  | zero =>
    intro p n m hd hn h hp p9
    obtain ⟨n, rfl⟩ : ∃ j, n = j + 1 := ⟨n - 1, by omega⟩
    rw [fX10_blanks_L0, sign_v h hp p9, br_some, if_neg (show ¬ p < T by omega)]
    simp only [lit_nI]
    rw [if_neg (by decide)]
    have e : sk t T p = p := rE_st (by omega)
    rw [e, ui_same hp]
  | succ d ih =>
    intro p n m hd hn h hp p9
    obtain ⟨n, rfl⟩ : ∃ j, n = j + 1 := ⟨n - 1, by omega⟩
    have hb := (h.2.2 p (by omega)).1
    rw [fX10_blanks_L0, sign_v h hp p9, br_some, if_pos (show p < T by omega)]
    simp (disch := omega) only [lit_nI, eq_nI, nm_eq, hp, nI_add]
    by_cases e : t p = 32
    · rw [if_pos e, ih (p + 1) n (ui m 500 30 (nI (p + 1))) (by omega) (by omega) (h.ui (by omega) (by omega)) (by rw [ui_rd, if_pos rfl, if_pos rfl]) (by have := h.1; omega), ui_ui]
      have e2 : sk t T p = sk t T (p + 1) := rE_go (by omega) (decide_eq_true e)
      rw [e2]
    · rw [if_neg e]
      have e2 : sk t T p = p := rE_st (fun q => e (of_decide_eq_true q.2))
      rw [e2, ui_same hp]
theorem blanks_v {t : Nat → Nat} {T p : Nat} {m : St} (h : TM t T m) (hp : m.1 500 30 = nI p) (p9 : p < 100000) : fX10_blanks m = some (ui m 500 30 (nI (sk t T p))) := blanks_L (T - p) p 10000 m rfl (by have := h.1; omega) h hp p9
theorem isDigit_v {t : Nat → Nat} {T p : Nat} {m : St} (h : TM t T m) (hp : m.1 500 30 = nI p) (p9 : p < 100000) : fX10_isDigit m = some (if p < T ∧ isD t p = true then nI 1 else nI 0) := by
  have eA : (48 : Int64).toInt = 48 := rfl
  have eB : (57 : Int64).toInt = 57 := rfl
  unfold fX10_isDigit
  rw [sign_v h hp p9, br_some, in_t eA eB, br_some]
  by_cases hl : p < T
  · have hb := (h.2.2 p hl).1
    rw [if_pos hl, nI_toInt (by omega)]
    by_cases hd : isD t p = true
    · have hd' := of_decide_eq_true hd
      rw [if_pos (by omega), if_pos ⟨hl, hd⟩]
      rfl
    · have hd' : ¬ (48 ≤ t p ∧ t p ≤ 57) := fun q => hd (decide_eq_true q)
      rw [if_neg (by omega), if_neg (fun q => hd q.2)]
      rfl
  · rw [if_neg hl, show (-nI 1).toInt = -1 by decide, if_neg (by omega), if_neg (fun q => hl q.1)]
    rfl
/-- the letters of text j -/
def chN (j k : Nat) : Nat := ((sbyt.getD j []).getD k 0).toNatClampNeg
def slN (j : Nat) : Nat := slen.getD j 0
theorem char_v : ∀ j, j < 23 → ∀ k, k < slN j → fJ0_charAt_5068e j (nI k) = some (nI (chN j k)) ∧ chN j k < 128 := by decide +kernel
theorem len_v : ∀ j, j < 23 → fJ0_length_8abf5 j = some (nI (slN j)) ∧ slN j ≤ 200 := by decide +kernel
/-- where the letters at p end -/
def we (t : Nat → Nat) (T p : Nat) : Nat := rE (isL t) T p
/-- the letters at p are text j -/
def WI (t : Nat → Nat) (T j p : Nat) : Prop := we t T p - p = slN j ∧ ∀ k, k < slN j → t (p + k) = chN j k
