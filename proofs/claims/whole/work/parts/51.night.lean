theorem or0_nI (x : Int32) : x ||| nI 0 = x := Int32.or_zero
theorem sub0_nI (x : Int32) : x - nI 0 = x := Int32.sub_zero x
theorem add0_nI (x : Int32) : x + nI 0 = x := Int32.add_zero x
theorem cap_lt {a : Nat} {d : Decidable (nI a < nI 999)} (ha : a ≤ 100000) : @ite _ (nI a < nI 999) d (nI a) (nI 999) = nI (min a 999) := by
  by_cases h : a < 999
  · rw [if_pos ((nI_ltI (by omega) (by omega)).mpr h), Nat.min_eq_left (by omega)]
  · rw [if_neg (fun q => h ((nI_ltI (by omega) (by omega)).mp q)), Nat.min_eq_right (by omega)]
/-- the class: one house that burns -/
theorem burn_c {H O lo h w W : Nat} {c m : St} {a : Nat} {p2 : Int32} (ha : RS a) (hl : LandR H O c 134 m) (hr : RowR H O (c.1 a) m) (hlo : lo ≤ 100) (hh : h < H) (f : m.1 502 7 >>> (nI h &&& nI 31) &&& nI 1 = nI 0) (w9 : w ≤ 999) (ew : m.1 503 h = nI w) (t : Nat) (t9 : t ≤ 20) (et : m.1 505 h = nI t) (hW : W = if m.1 504 h ≤ nI 0 then w else min (w + t) 999) (n : Nat) :
    fX8_burn_L41 a 41 p2 (n + 1) (nI lo) (nI h) c = fX8_burn_L41 a 41 p2 n (nI lo) (nI (h + 1)) (if m.1 502 2 ≤ nI (W - lo) then ui (if m.1 504 h ≤ nI 0 then c else ui c a (8 + h) (m.1 504 h - nI 1)) a h (nI (W - lo)) else ui (ui (if m.1 504 h ≤ nI 0 then c else ui c a (8 + h) (m.1 504 h - nI 1)) a h (nI (W - lo))) a 38 (m.1 502 7 ||| nI 1 <<< (nI h &&& nI 31))) := by
  obtain ⟨h8, h3, -, -, l3, l4, l5, -, -, -, l6, -⟩ := hl
  obtain ⟨r1, r2, r3, r4, r5⟩ := hr
  obtain ⟨e1, e2, e3, e4⟩ := r1 h hh
  have e5 : c.1 143 h = m.1 505 h := (l6 h hh).1
  have ha1 : ¬ 134 = a := fun q => ha.1 q.symm
  have ha2 : ¬ 143 = a := fun q => ha.2.1 q.symm
  have h38 : ¬ 38 = h := by omega
  have h39 : ¬ 38 = 8 + h := by omega
  have h40 : ¬ h = 8 + h := by omega
  rw [fX8_burn_L41]
  unfold fX8_burn_B118
  generalize fX8_burn_L41 a 41 p2 n = K
  simp (disch := omega) only [lit_nI, gd_ix, cl_nI, nm_eq, nI_add, Nat.zero_add, Nat.reduceAdd]
  simp (disch := omega) only [l4, le_nI, r3, f, e1, e2, ew, if_true]
  rw [if_neg (by omega)]
  by_cases hwd : m.1 504 h ≤ nI 0
  · rw [if_pos hwd] at hW
    subst hW
    simp only [if_pos hwd]
    simp (disch := omega) only [ui_rd, ha1, if_true, if_false, l3, sub_cl, h38, r3]
    split <;> rfl
  · rw [if_neg hwd] at hW
    subst hW
    simp only [if_neg hwd]
    simp (disch := omega) only [ui_rd, ha1, ha2, if_true, if_false, l3, e5, et, nI_add, h38, h39, r3, cap_lt]
    simp (disch := omega) only [sub_cl]
    split <;> rfl
