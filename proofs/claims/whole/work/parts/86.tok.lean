/-! tokens of the class -/
def wS (w : Nat) : Nat := [0, 8, 14, 21, 26, 31, 37, 42, 47, 54, 60, 66, 73, 79, 84, 88, 93, 98, 101, 104, 108, 112].getD w 0
def wJ (w : Nat) : Nat := [2, 3, 4, 5, 6, 7, 8, 9, 10, 11, 12, 13, 17, 18, 19, 20, 21, 22, 16, 15, 14].getD w 0
theorem words_t : ∀ w, w < 21 → wS (w + 1) = wS w + slN (wJ w) + 1 ∧ (∀ k, k < slN (wJ w) → chN 1 (wS w + k) = chN (wJ w) k ∧ chN (wJ w) k ≠ 32) ∧ chN 1 (wS w + slN (wJ w)) = 32 ∧ wJ w < 23 ∧ 1 ≤ slN (wJ w) ∧ wS (w + 1) ≤ 112 := by decide +kernel
theorem words_u : ∀ w, w < 21 → ∀ w', w' < 21 → slN (wJ w) = slN (wJ w') → (∀ k, k < slN (wJ w) → chN (wJ w) k = chN (wJ w') k) → w = w' := by decide +kernel
theorem WI_u {t : Nat → Nat} {T p w w' : Nat} (hw : w < 21) (hw' : w' < 21) (h : WI t T (wJ w) p) (h' : WI t T (wJ w') p) : w = w' := by
  refine words_u w hw w' hw' (by rw [← h.1, ← h'.1]) (fun k hk => ?_)
  rw [← h.2 k hk, h'.2 k (by rw [← h'.1, h.1]; exact hk)]
/-- the tape of the class -/
def TC (t : Nat → Nat) (T : Nat) (c : St) : Prop := T ≤ 400 ∧ ∀ i, i < T → t i < 256 ∧ c.1 1 i = nI (t i)
theorem isWord_L {t : Nat → Nat} {T p s l : Nat} {c : St} (h : TC t T c) (hp : p + l ≤ T) (hs : s + l ≤ 112) : ∀ (d k n : Nat), k + d = l → d < n → ∃ x, fX7_isWord_L3 1 400 (nI p) (nI s) (nI (s + l)) c n (nI (s + k)) = some x ∧ ((x = nI 1 ∧ ∀ i, k ≤ i → i < l → t (p + i) = chN 1 (s + i)) ∨ (x = nI 0 ∧ ¬ ∀ i, k ≤ i → i < l → t (p + i) = chN 1 (s + i))) := by
  have hT := h.1
  intro d
  induction d with
  | zero =>
    intro k n hk hn
    obtain ⟨n, rfl⟩ : ∃ j, n = j + 1 := ⟨n - 1, by omega⟩
    refine ⟨nI 1, ?_, Or.inl ⟨rfl, fun i h1 h2 => by omega⟩⟩
    rw [fX7_isWord_L3, if_pos (by rw [le_nI (by omega) (by omega)]; omega)]
    rfl
  | succ d ih =>
    intro k n hk hn
    obtain ⟨n, rfl⟩ : ∃ j, n = j + 1 := ⟨n - 1, by omega⟩
    obtain ⟨b1, b2⟩ := h.2 (p + k) (by omega)
    obtain ⟨c1, c2⟩ := char_v 1 (by omega) (s + k) (show s + k < 112 by omega)
    rw [fX7_isWord_L3, if_neg (by rw [le_nI (by omega) (by omega)]; omega), nI_add, pk_sub (by omega), show p + (s + k) - s = p + k by omega, gd_ix (by omega) (by omega), c1, br_some, cl_nI (by omega), b2]
    simp (disch := omega) only [eq_nI, nm_eq, lit_nI, nI_add]
    by_cases z : t (p + k) = chN 1 (s + k)
    · rw [if_pos z]
      obtain ⟨x, x1, x2⟩ := ih (k + 1) n (by omega) (by omega)
      refine ⟨x, x1, ?_⟩
      rcases x2 with ⟨y1, y2⟩ | ⟨y1, y2⟩
      · refine Or.inl ⟨y1, fun i i1 i2 => ?_⟩
        by_cases e : i = k
        · subst e
          exact z
        · exact y2 i (by omega) i2
      · exact Or.inr ⟨y1, fun q => y2 (fun i i1 i2 => q i (by omega) i2)⟩
    · rw [if_neg z]
      exact ⟨nI 0, rfl, Or.inr ⟨rfl, fun q => z (q k (by omega) (by omega))⟩⟩
/-- within a word of the list -/
theorem wordOf_in {t : Nat → Nat} {T p e w : Nat} {c : St} (h : TC t T c) (hw : w < 21) (he : p ≤ e) (heT : e ≤ T) : ∀ (d k n : Nat), k + d = slN (wJ w) → fX7_wordOf_L8 1 400 (nI p) (nI e) c (n + 1 + d) (nI w) (nI (wS w)) (nI (wS w + k)) = fX7_wordOf_L8 1 400 (nI p) (nI e) c (n + 1) (nI w) (nI (wS w)) (nI (wS w + slN (wJ w))) := by
  obtain ⟨a1, a2, a3, a4, a5, a6⟩ := words_t w hw
  have l1 : fJ0_length_8abf5 1 = some (nI 112) := (len_v 1 (by omega)).1
  intro d
  induction d with
  | zero =>
    intro k n hk
    rw [show k = slN (wJ w) by omega]
  | succ d ih =>
    intro k n hk
    obtain ⟨c1, c2⟩ := char_v 1 (by omega) (wS w + k) (show wS w + k < 112 by omega)
    obtain ⟨b1, b2⟩ := a2 k (by omega)
    rw [show n + 1 + (d + 1) = n + 1 + d + 1 by omega, fX7_wordOf_L8, l1, br_some, if_neg (by rw [le_nI (by omega) (by omega)]; omega), c1, br_some]
    simp (disch := omega) only [lit_nI, eq_nI, nm_eq, nI_add]
    rw [if_neg (by rw [b1]; exact b2)]
    exact ih (k + 1) n (by omega)
theorem wordOf_L {t : Nat → Nat} {T p : Nat} {c : St} (h : TC t T c) (hp : p ≤ T) : ∀ (d w n : Nat), w + d = 21 → 200 * d < n → ∃ x, fX7_wordOf_L8 1 400 (nI p) (nI (we t T p)) c n (nI w) (nI (wS w)) (nI (wS w)) = some (nI x) ∧ ((x < 21 ∧ WI t T (wJ x) p) ∨ (x = 24 ∧ ∀ w', w ≤ w' → w' < 21 → ¬ WI t T (wJ w') p)) := by
  have hT := h.1
  have hge : p ≤ we t T p := rE_ge
  have hle : we t T p ≤ T := rE_le hp
  have l1 : fJ0_length_8abf5 1 = some (nI 112) := (len_v 1 (by omega)).1
  intro d
  induction d with
  | zero =>
    intro w n hw hn
    obtain ⟨n, rfl⟩ : ∃ j, n = j + 1 := ⟨n - 1, by omega⟩
    have e : w = 21 := by omega
    subst e
    refine ⟨24, ?_, Or.inr ⟨rfl, fun w' h1 h2 => by omega⟩⟩
    rw [fX7_wordOf_L8, l1, br_some, if_pos (by decide)]
    rfl
  | succ d ih =>
    intro w n hw hn
    obtain ⟨a1, a2, a3, a4, a5, a6⟩ := words_t w (by omega)
    have hsl := (len_v (wJ w) a4).2
    obtain ⟨n', en⟩ : ∃ n', n = n' + 1 + slN (wJ w) := ⟨n - 1 - slN (wJ w), by omega⟩
    subst en
    have := wordOf_in (w := w) h (by omega) hge hle (slN (wJ w)) 0 n' (by omega)
    simp only [Nat.add_zero] at this
    rw [this]
    obtain ⟨c1, c2⟩ := char_v 1 (by omega) (wS w + slN (wJ w)) (show wS w + slN (wJ w) < 112 by omega)
    have nxt : ∃ x, fX7_wordOf_B58 1 400 (nI p) (nI (we t T p)) c (fX7_wordOf_L8 1 400 (nI p) (nI (we t T p)) c n') (nI w) (nI (wS w + slN (wJ w))) = some (nI x) ∧ (¬ WI t T (wJ w) p → ((x < 21 ∧ WI t T (wJ x) p) ∨ (x = 24 ∧ ∀ w', w ≤ w' → w' < 21 → ¬ WI t T (wJ w') p))) := by
      obtain ⟨x, x1, x2⟩ := ih (w + 1) n' (by omega) (by omega)
      refine ⟨x, ?_, fun hn => ?_⟩
      · unfold fX7_wordOf_B58
        simp only [nm_eq, lit_nI, nI_add]
        rw [← a1]
        exact x1
      · rcases x2 with q | ⟨q1, q2⟩
        · exact Or.inl q
        · refine Or.inr ⟨q1, fun w' w1 w2 => ?_⟩
          by_cases e : w' = w
          · subst e
            exact hn
          · exact q2 w' (by omega) w2
    rw [fX7_wordOf_L8, l1, br_some, if_neg (by rw [le_nI (by omega) (by omega)]; omega), c1, br_some, a3]
    simp (disch := omega) only [lit_nI, if_true, pk_sub, eq_nI]
    rw [show wS w + slN (wJ w) - wS w = slN (wJ w) by omega]
    by_cases z : slN (wJ w) = we t T p - p
    · rw [if_pos z]
      obtain ⟨y, y1, y2⟩ := isWord_L (t := t) (p := p) (s := wS w) (l := slN (wJ w)) h (by omega) (by omega) (slN (wJ w)) 0 10000 (by omega) (by omega)
      have y1' : fX7_isWord 1 400 c (nI p) (nI (wS w)) (nI (wS w + slN (wJ w))) = some y := y1
      rw [y1', br_some]
      rcases y2 with ⟨rfl, q⟩ | ⟨rfl, q⟩
      · rw [if_neg (by rw [n10]; exact id)]
        refine ⟨w, rfl, Or.inl ⟨by omega, z.symm, fun k hk => ?_⟩⟩
        rw [q k (by omega) hk, (a2 k hk).1]
      · rw [if_pos rfl]
        obtain ⟨x, x1, x2⟩ := nxt
        refine ⟨x, x1, x2 (fun hw => q (fun i i1 i2 => ?_))⟩
        rw [hw.2 i i2, (a2 i i2).1]
    · rw [if_neg z]
      obtain ⟨x, x1, x2⟩ := nxt
      exact ⟨x, x1, x2 (fun hw => z hw.1.symm)⟩
/-- the kind of a sign -/
def sgK (b : Nat) : Nat := if b = 59 then 25 else if b = 43 then 26 else if b = 45 then 27 else if b = 42 then 28 else if b = 47 then 29 else if b = 37 then 30 else if b = 91 then 31 else if b = 93 then 32 else if b = 60 then 33 else if b = 61 then 34 else if b = 62 then 35 else 24
theorem sgK_v : ∀ b, b < 256 → fJ0_indexOf_0f7a4 0 (UInt32.toInt32 (Int32.toUInt32 (nI b) % 65536)) = some (if sgK b = 24 then -nI 1 else nI (sgK b - 25)) := by decide +kernel
theorem sgK_r : ∀ b, b < 256 → (sgK b = 24 ∨ (25 ≤ sgK b ∧ sgK b ≤ 35)) ∧ (sgK b = 33 ↔ b = 60) ∧ (sgK b = 35 ↔ b = 62) := by decide +kernel
/-- the token at a: its kind, where it ends, its number -/
def Tok (t : Nat → Nat) (T a k e v : Nat) : Prop := (T ≤ a ∧ k = 23 ∧ e = a ∧ v = 0) ∨ (a < T ∧ isL t a = true ∧ e = we t T a ∧ v = 0 ∧ ((k < 21 ∧ WI t T (wJ k) a) ∨ (k = 24 ∧ ∀ w, w < 21 → ¬ WI t T (wJ w) a))) ∨ (a < T ∧ isD t a = true ∧ e = de t T a ∧ v = nV t T a a 0 ∧ k = (if de t T a - a ≤ 5 then 21 else 22)) ∨ (a < T ∧ isL t a = false ∧ isD t a = false ∧ isB t a = false ∧ v = 0 ∧ (((t a = 60 ∨ t a = 62) ∧ a + 1 < T ∧ t (a + 1) = 61 ∧ e = a + 2 ∧ k = (if t a = 60 then 36 else 37)) ∨ (¬ ((t a = 60 ∨ t a = 62) ∧ a + 1 < T ∧ t (a + 1) = 61) ∧ e = a + 1 ∧ k = sgK (t a))))
/-- a token put behind those that are there -/
def adT (c : St) (S k a v : Nat) : St := ui (ui (ui (ui c 21 S (nI k)) 22 S (nI a)) 23 S (nI v)) 20 3 (nI (S + 1))
theorem add_v {c : St} {S k a v : Nat} (hS : S ≤ 400) (h : c.1 20 3 = nI S) : fX7_add (nI k) (nI a) (nI v) c = some (adT c S k a v) := by
  unfold fX7_add adT
  rw [h]
  simp (disch := omega) only [lit_nI, lt_nI, gd_ix, cl_nI, ↓nm_eq, ui_rd, Nat.reduceEqDiff, if_false, h, nI_add]
  rw [if_neg (by omega)]
theorem letter_v {b : Nat} (hb : b < 256) : fX7_isLetter (nI b) = some (if 97 ≤ b ∧ b ≤ 122 then nI 1 else nI 0) := by
  unfold fX7_isLetter
  simp (disch := omega) only [lit_nI, lt_nI]
  by_cases h1 : b < 97
  · rw [if_pos h1, if_neg (by omega)]
  · rw [if_neg h1]
    by_cases h2 : 122 < b
    · rw [if_pos h2, if_neg (by omega)]
    · rw [if_neg h2, if_pos (by omega)]
theorem digit_v {b : Nat} (hb : b < 256) : fX7_isDigit (nI b) = some (if 48 ≤ b ∧ b ≤ 57 then nI 1 else nI 0) := by
  unfold fX7_isDigit
  simp (disch := omega) only [lit_nI, lt_nI]
  by_cases h1 : b < 48
  · rw [if_pos h1, if_neg (by omega)]
  · rw [if_neg h1]
    by_cases h2 : 57 < b
    · rw [if_pos h2, if_neg (by omega)]
    · rw [if_neg h2, if_pos (by omega)]
theorem readWord_L {t : Nat → Nat} {T a : Nat} {c : St} (h : TC t T c) : ∀ (d e n : Nat), T - e = d → d < n → e ≤ T → fX7_readWord_L5 1 400 (nI T) (nI a) n (nI e) c = fX7_readWord_B27 1 400 (nI T) (nI a) (nI (rE (isL t) T e)) c := by
  have hT := h.1
  intro d
  induction d with
  | zero =>
    intro e n hd hn he
    obtain ⟨n, rfl⟩ : ∃ j, n = j + 1 := ⟨n - 1, by omega⟩
    rw [fX7_readWord_L5, if_pos (by rw [le_nI (by omega) (by omega)]; omega), rE_st (by omega)]
  | succ d ih =>
    intro e n hd hn he
    obtain ⟨n, rfl⟩ : ∃ j, n = j + 1 := ⟨n - 1, by omega⟩
    obtain ⟨b1, b2⟩ := h.2 e (by omega)
    rw [fX7_readWord_L5, if_neg (by rw [le_nI (by omega) (by omega)]; omega), gd_ix (by omega) (by omega), cl_nI (by omega), b2, letter_v b1, br_some]
    simp only [lit_nI, nm_eq, nI_add]
    by_cases z : 97 ≤ t e ∧ t e ≤ 122
    · rw [if_pos z, if_neg (by rw [n10]; exact id), ih (e + 1) n (by omega) (by omega) (by omega), rE_go (Q := isL t) (p := e) (by omega) (decide_eq_true z)]
    · rw [if_neg z, if_pos rfl, rE_st (fun q => z (of_decide_eq_true q.2))]
theorem readNumber_L {t : Nat → Nat} {T a : Nat} {c : St} (h : TC t T c) : ∀ (d e n v : Nat), T - e = d → d < n → a ≤ e → e ≤ T → v < 10 ^ (min (e - a) 5) → fX7_readNumber_L6 1 400 (nI T) (nI a) n (nI e) (nI v) c = fX7_readNumber_B51 1 400 (nI T) (nI a) (nI (de t T e)) (nI (nV t T a e v)) c := by
  have hT := h.1
  intro d
  induction d with
  | zero =>
    intro e n v hd hn ha he hv
    obtain ⟨n, rfl⟩ : ∃ j, n = j + 1 := ⟨n - 1, by omega⟩
    have e1 : de t T e = e := rE_st (by omega)
    rw [fX7_readNumber_L6, if_pos (by rw [le_nI (by omega) (by omega)]; omega), e1, nV_st (by omega)]
  | succ d ih =>
    intro e n v hd hn ha he hv
    obtain ⟨n, rfl⟩ : ∃ j, n = j + 1 := ⟨n - 1, by omega⟩
    obtain ⟨b1, b2⟩ := h.2 e (by omega)
    have hv5 := pow10 (min (e - a) 5) (by omega)
    rw [fX7_readNumber_L6, if_neg (by rw [le_nI (by omega) (by omega)]; omega), gd_ix (by omega) (by omega), cl_nI (by omega), b2, digit_v b1, br_some]
    simp (disch := omega) only [lit_nI, nm_eq, nI_add, pk_sub, le_nI, gd_ix, pk_mul]
    by_cases z : 48 ≤ t e ∧ t e ≤ 57
    · have z' : isD t e = true := decide_eq_true z
      have e1 : de t T e = de t T (e + 1) := rE_go (by omega) z'
      rw [if_pos z, if_neg (by rw [n10]; exact id), e1, nV_go (by omega) z']
      by_cases z5 : e - a < 5
      · rw [if_neg (show ¬ 5 ≤ e - a by omega), if_pos z5, pk_sub (by omega), show v * 10 + t e - 48 = v * 10 + (t e - 48) by omega]
        refine ih (e + 1) n _ (by omega) (by omega) (by omega) (by omega) ?_
        rw [show min (e + 1 - a) 5 = min (e - a) 5 + 1 by omega, Nat.pow_succ]
        omega
      · rw [if_pos (show 5 ≤ e - a by omega), if_neg z5]
        refine ih (e + 1) n _ (by omega) (by omega) (by omega) (by omega) ?_
        rw [show min (e + 1 - a) 5 = min (e - a) 5 by omega]
        exact hv
    · have z' : ¬ isD t e = true := fun q => z (of_decide_eq_true q)
      have e1 : de t T e = e := rE_st (fun q => z' q.2)
      rw [if_neg z, if_pos rfl, e1, nV_st (fun q => z' q.2)]
theorem TC.ad {t : Nat → Nat} {T S k a v : Nat} {c : St} (h : TC t T c) : TC t T (adT c S k a v) := by
  refine ⟨h.1, fun i hi => ?_⟩
  unfold adT
  rw [ui_ne (by omega), ui_ne (by omega), ui_ne (by omega), ui_ne (by omega)]
  exact h.2 i hi
theorem readOne_v {t : Nat → Nat} {T a S : Nat} {c : St} (h : TC t T c) (ha : a < T) (hb : isB t a = false) (hS : S ≤ 400) (h3 : c.1 20 3 = nI S) : ∃ k e v, fX7_readOne 1 400 (nI T) (nI a) c = some (nI e, adT c S k a v) ∧ Tok t T a k e v ∧ a < e ∧ e ≤ T := by
  have hT := h.1
  obtain ⟨b1, b2⟩ := h.2 a ha
  unfold fX7_readOne
  rw [gd_ix (by omega) (by omega), cl_nI (by omega), b2, letter_v b1, br_some]
  by_cases z : 97 ≤ t a ∧ t a ≤ 122
  · have z' : isL t a = true := decide_eq_true z
    have hwe : we t T a = rE (isL t) T (a + 1) := rE_go ha z'
    have hge : a + 1 ≤ rE (isL t) T (a + 1) := rE_ge
    have hle : we t T a ≤ T := rE_le (by omega)
    obtain ⟨x, x1, x2⟩ := wordOf_L h (show a ≤ T by omega) 21 0 10000 (by omega) (by omega)
    have x1' : fX7_wordOf 1 400 c (nI a) (nI (we t T a)) = some (nI x) := x1
    refine ⟨x, we t T a, 0, ?_, Or.inr (Or.inl ⟨ha, z', rfl, rfl, ?_⟩), by omega, hle⟩
    · rw [if_pos z]
      unfold fX7_readWord
      simp only [lit_nI, n10, if_false, nm_eq, nI_add]
      rw [readWord_L h (T - (a + 1)) (a + 1) 10000 rfl (by omega) (by omega), ← hwe]
      unfold fX7_readWord_B27
      simp only [lit_nI]
      rw [x1', br_some, add_v hS h3, br_some, bw_some]
    · rcases x2 with q | ⟨q1, q2⟩
      · exact Or.inl q
      · exact Or.inr ⟨q1, fun w hw => q2 w (by omega) hw⟩
  · have zl : isL t a = false := decide_eq_false z
    rw [if_neg z, if_pos (show nI 0 = (0 : Int32) from rfl), gd_ix (by omega) (by omega), digit_v b1, br_some]
    by_cases y : 48 ≤ t a ∧ t a ≤ 57
    · have y' : isD t a = true := decide_eq_true y
      have hde : de t T a = rE (isD t) T (a + 1) := rE_go ha y'
      have hge : a + 1 ≤ rE (isD t) T (a + 1) := rE_ge
      have hle : de t T a ≤ T := rE_le (by omega)
      refine ⟨if de t T a - a ≤ 5 then 21 else 22, de t T a, nV t T a a 0, ?_, Or.inr (Or.inr (Or.inl ⟨ha, y', rfl, rfl, rfl⟩)), by omega, hle⟩
      rw [if_pos y]
      unfold fX7_readNumber
      simp only [lit_nI, n10, if_false]
      rw [readNumber_L h (T - a) a 10000 0 rfl (by omega) (Nat.le_refl a) (by omega) (by rw [Nat.sub_self]; decide)]
      unfold fX7_readNumber_B51
      simp (disch := omega) only [lit_nI, pk_sub, le_nI]
      by_cases w : de t T a - a ≤ 5
      · rw [if_pos w, if_pos w, add_v hS h3, br_some, bw_some]
      · rw [if_neg w, if_neg w, add_v hS h3, br_some, bw_some]
    · have yd : isD t a = false := decide_eq_false y
      obtain ⟨g1, g2, g3⟩ := sgK_r (t a) b1
      rw [if_neg y, if_pos (show nI 0 = (0 : Int32) from rfl), gd_ix (by omega) (by omega), sgK_v (t a) b1, br_some]
      have hk : (if (0 : Int32) ≤ (if sgK (t a) = 24 then -nI 1 else nI (sgK (t a) - 25)) then fX7_readOne_B60 1 400 (nI T) (nI a) ((25 : Int32) + (if sgK (t a) = 24 then -nI 1 else nI (sgK (t a) - 25))) c else fX7_readOne_B60 1 400 (nI T) (nI a) (24 : Int32) c) = fX7_readOne_B60 1 400 (nI T) (nI a) (nI (sgK (t a))) c := by
        rcases g1 with q | q
        · rw [if_pos q, if_neg (by decide), q]
          rfl
        · rw [if_neg (show ¬ sgK (t a) = 24 by omega)]
          simp (disch := omega) only [lit_nI, le_nI, nI_add]
          rw [if_pos (by omega), show 25 + (sgK (t a) - 25) = sgK (t a) by omega]
      rw [hk]
      unfold fX7_readOne_B60 fX7_readOne_B83 fX7_readOne_B84 fX7_readOne_B105 fX7_readOne_B120 fX7_readOne_B129
      simp (disch := omega) only [lit_nI, nI_add, le_nI, if_true, n10, if_false, add_v hS h3, br_some]
      simp (disch := omega) only [eq_nI]
      by_cases w : (t a = 60 ∨ t a = 62) ∧ a + 1 < T ∧ t (a + 1) = 61
      · obtain ⟨w1, w2, w3⟩ := w
        obtain ⟨b3, b4⟩ := h.2 (a + 1) w2
        refine ⟨if t a = 60 then 36 else 37, a + 2, 0, ?_, Or.inr (Or.inr (Or.inr ⟨ha, zl, yd, hb, rfl, Or.inl ⟨w1, w2, w3, rfl, rfl⟩⟩)), by omega, by omega⟩
        rw [if_neg (show ¬ T ≤ a + 1 by omega), gd_ix (by omega) (by omega), cl_nI (by omega), b4, w3, if_pos rfl]
        rcases w1 with w1 | w1
        · rw [if_pos (g2.mpr w1), if_pos (g2.mpr w1), if_pos w1]
        · rw [if_neg (fun q => by have := g2.mp q; omega), if_pos (g3.mpr w1), if_neg (fun q => by have := g2.mp q; omega), if_neg (by omega)]
      · refine ⟨sgK (t a), a + 1, 0, ?_, Or.inr (Or.inr (Or.inr ⟨ha, zl, yd, hb, rfl, Or.inr ⟨w, rfl, rfl⟩⟩)), by omega, by omega⟩
        by_cases w2 : T ≤ a + 1
        · rw [if_pos w2]
        · obtain ⟨b3, b4⟩ := h.2 (a + 1) (by omega)
          rw [if_neg w2, gd_ix (by omega) (by omega), cl_nI (by omega), b4]
          simp (disch := omega) only [eq_nI]
          by_cases w3 : t (a + 1) = 61
          · rw [if_pos w3, if_neg (fun q => w ⟨Or.inl (g2.mp q), by omega, w3⟩), if_neg (fun q => w ⟨Or.inr (g3.mp q), by omega, w3⟩)]
          · rw [if_neg w3]
