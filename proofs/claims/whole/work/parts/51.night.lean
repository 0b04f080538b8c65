theorem or0_nI (x : Int32) : x ||| nI 0 = x := Int32.or_zero
theorem sub0_nI (x : Int32) : x - nI 0 = x := Int32.sub_zero x
theorem add0_nI (x : Int32) : x + nI 0 = x := Int32.add_zero x
theorem cap_lt {a : Nat} {d : Decidable (nI a < nI 999)} (ha : a ≤ 100000) : @ite _ (nI a < nI 999) d (nI a) (nI 999) = nI (min a 999) := by
  by_cases h : a < 999
  · rw [if_pos ((nI_ltI (by omega) (by omega)).mpr h), Nat.min_eq_left (by omega)]
  · rw [if_neg (fun q => h ((nI_ltI (by omega) (by omega)).mp q)), Nat.min_eq_right (by omega)]
/-- the class: one house that burns -/
theorem burn_c {H O lo h w W : Nat} {c m : St} {a : Nat} {p2 : Int32} (ha : RS a) (hl : LandR H O c 134 m) (hr : RowR H O (c.1 a) m) (hlo : lo ≤ 100) (hh : h < H) (f : m.1 502 7 >>> (nI h &&& nI 31) &&& nI 1 = nI 0) (w9 : w ≤ 999) (ew : m.1 503 h = nI w) (t : Nat) (t9 : t ≤ 20) (et : m.1 505 h = nI t) (hW : W = if m.1 504 h ≤ nI 0 then w else min (w + t) 999) (n : Nat) :
    fX8_burn_L41 a 41 p2 (n + 1) (nI lo) (nI h) c = fX8_burn_L41 a 41 p2 n (nI lo) (nI (h + 1)) (if m.1 502 2 ≤ nI (W - lo) then ui (if m.1 504 h ≤ nI 0 then c else ui c a (8 + h) (m.1 504 h - nI 1)) a h (nI (W - lo)) else ui (ui (if m.1 504 h ≤ nI 0 then c else ui c a (8 + h) (m.1 504 h - nI 1)) a h (nI (W - lo))) a 38 (m.1 502 7 ||| nI 1 <<< (nI h &&& nI 31))) := by
  obtain ⟨h8, h3, -, l3, l4, l5, -, -, -, l6, -⟩ := hl
  obtain ⟨r1, r2, r3, r4, r5, -⟩ := hr
  obtain ⟨e1, e2, e3, e4⟩ := r1 h hh
  have e5 : c.1 143 h = m.1 505 h := (l6 h hh).1
  unfold RS at ha
  have ha1 : ¬ 134 = a := by omega
  have ha2 : ¬ 143 = a := by omega
  have h38 : ¬ 38 = h := by omega
  have h39 : ¬ 38 = 8 + h := by omega
  have h40 : ¬ h = 8 + h := by omega
  rw [fX8_burn_L41]
  unfold fX8_burn_B118
  generalize fX8_burn_L41 a 41 p2 n = K
  simp (disch := omega) only [lit_nI, gd_ix, cl_nI, nm_eq, nI_add, Nat.zero_add, Nat.reduceAdd]
  simp (disch := omega) only [l4, le_nI, r3, f, e1, e2, ew, if_true]
  rw [if_neg (by omega)]
  by_cases hwd : m.1 504 h ≤ nI 0
  · rw [if_pos hwd] at hW
    subst hW
    simp only [if_pos hwd]
    simp (disch := omega) only [ui_rd, ha1, if_true, if_false, l3, sub_cl, h38, r3]
    split <;> rfl
  · rw [if_neg hwd] at hW
    subst hW
    simp only [if_neg hwd]
    simp (disch := omega) only [ui_rd, ha1, ha2, if_true, if_false, l3, e5, et, nI_add, h38, h39, r3, cap_lt]
    simp (disch := omega) only [sub_cl]
    split <;> rfl
theorem burns_133 {K : Int32 → Int32 → St → Option St} {y1 z : Int32} {h : Nat} {m : St} (hh : h < 8) : fX10_burns_B133 K y1 (nI h) z (nI h) m = K y1 (nI (h + 1)) (ui (ui m 503 h z) 502 7 (if m.1 502 2 ≤ z then m.1 502 7 else m.1 502 7 ||| nI 1 <<< (nI h &&& nI 31))) := by
  unfold fX10_burns_B133 fX10_burns_B164
  simp (disch := omega) only [lit_nI, gd_ix, cl_nI, nm_eq, nI_add]
  simp only [ui_rd, Nat.reduceEqDiff, if_true, if_false, or0_nI]
  split <;> rfl
theorem burns_116 {K : Int32 → Int32 → St → Option St} {h lo z : Nat} {m : St} (hh : h < 8) (hl : lo ≤ 1000) (hz : z ≤ 10000) : fX10_burns_B116 K (nI lo) (nI h) (nI z) m = K (nI lo) (nI (h + 1)) (ui (ui m 503 h (nI (z - lo))) 502 7 (if m.1 502 2 ≤ nI (z - lo) then m.1 502 7 else m.1 502 7 ||| nI 1 <<< (nI h &&& nI 31))) := by
  unfold fX10_burns_B116
  simp only [nm_eq, burns_133 hh, lit_nI]
  have e := sub_cl2 (a := z) (b := lo) (d := inferInstance) (by omega) (by omega)
  by_cases hc : nI 0 ≤ nI z - nI lo
  · rw [if_pos hc] at e
    rw [if_pos hc, e]
  · rw [if_neg hc] at e
    rw [if_neg hc, e]
theorem burns_100 {K : Int32 → Int32 → St → Option St} {h lo y : Nat} {z0 z1 : Int32} {m : St} (hh : h < 8) (hl : lo ≤ 1000) (hy : y ≤ 10000) : fX10_burns_B100 K (nI lo) (nI h) (nI y) z0 z1 (nI h) m = K (nI lo) (nI (h + 1)) (ui (ui (ui m 504 h (z1 - z0)) 503 h (nI (min y 999 - lo))) 502 7 (if m.1 502 2 ≤ nI (min y 999 - lo) then m.1 502 7 else m.1 502 7 ||| nI 1 <<< (nI h &&& nI 31))) := by
  unfold fX10_burns_B100
  simp (disch := omega) only [lit_nI, gd_ix, cl_nI, nm_eq, le_nI]
  by_cases hc : y ≤ 999
  · rw [if_pos hc, burns_116 hh hl hy, Nat.min_eq_left hc]
    simp only [ui_rd, Nat.reduceEqDiff, if_false]
  · rw [if_neg hc, burns_116 hh hl (by omega), Nat.min_eq_right (by omega)]
    simp only [ui_rd, Nat.reduceEqDiff, if_false]
/-- the reference: one house that burns -/
theorem burn_m {H lo h w W : Nat} {m : St} (h8 : H ≤ 8) (l5 : m.1 502 3 = nI H) (hlo : lo ≤ 100) (hh : h < H) (f : m.1 502 7 >>> (nI h &&& nI 31) &&& nI 1 = nI 0) (w9 : w ≤ 999) (ew : m.1 503 h = nI w) (t : Nat) (t9 : t ≤ 20) (et : m.1 505 h = nI t) (hW : W = if m.1 504 h ≤ nI 0 then w else min (w + t) 999) (n : Nat) :
    fX10_burns_L34 (n + 1) (nI lo) (nI h) m = fX10_burns_L34 n (nI lo) (nI (h + 1)) (ui (ui (ui m 504 h (if m.1 504 h ≤ nI 0 then m.1 504 h else m.1 504 h - nI 1)) 503 h (nI (W - lo))) 502 7 (if m.1 502 2 ≤ nI (W - lo) then m.1 502 7 else m.1 502 7 ||| nI 1 <<< (nI h &&& nI 31))) := by
  rw [fX10_burns_L34, isFrozen_v]
  generalize fX10_burns_L34 n = K
  unfold fX10_burns_B77
  simp (disch := omega) only [lit_nI, gd_ix, cl_nI, nm_eq, br_some, l5, le_nI, f, n01, ew, et, if_true, if_false, nI_add, Nat.add_zero]
  rw [if_neg (by omega)]
  by_cases hwd : m.1 504 h ≤ nI 0
  · rw [if_pos hwd] at hW
    subst hW
    simp only [if_pos hwd]
    rw [burns_100 (by omega) (by omega) (by omega), Nat.min_eq_left w9, sub0_nI]
  · rw [if_neg hwd] at hW
    subst hW
    simp only [if_neg hwd]
    rw [burns_100 (by omega) (by omega) (by omega)]
/-- what a night's hearths leave, and how frozen houses grow -/
def MB (m m1 : St) : Prop := (∀ i, m1.1 508 i = m.1 508 i ∧ m1.1 511 i = m.1 511 i) ∧ (∃ g : Int32, m1.1 502 7 = m.1 502 7 ||| g) ∧ ((∃ f, f < 256 ∧ m.1 502 7 = nI f) → ∃ f, f < 256 ∧ m1.1 502 7 = nI f)
theorem MB.rf {m : St} : MB m m := ⟨fun _ => ⟨rfl, rfl⟩, ⟨nI 0, (or0_nI _).symm⟩, id⟩
theorem MB.tr {m m1 m2 : St} (h1 : MB m m1) (h2 : MB m1 m2) : MB m m2 := by
  obtain ⟨a1, ⟨g1, b1⟩, c1⟩ := h1
  obtain ⟨a2, ⟨g2, b2⟩, c2⟩ := h2
  exact ⟨fun i => ⟨(a2 i).1.trans (a1 i).1, (a2 i).2.trans (a1 i).2⟩, ⟨g1 ||| g2, by rw [b2, b1, Int32.or_assoc]⟩, fun q => c2 (c1 q)⟩
theorem or_bit : ∀ f, f < 256 → ∀ h, h < 8 → nI f ||| nI 1 <<< (nI h &&& nI 31) = nI (f ||| 2 ^ h) ∧ f ||| 2 ^ h < 256 := by
  decide +kernel
theorem RowR.up {H O h : Nat} {c m : St} {a : Nat} {wd w fz : Int32} (hr : RowR H O (c.1 a) m) (hH : H ≤ 8) (hO : O ≤ 3) (hh : h < H) {c1 : St} (h1 : ∀ i, c1.1 a i = if i = 38 then fz else if i = h then w else if i = 8 + h then wd else c.1 a i) : RowR H O (c1.1 a) (ui (ui (ui m 504 h wd) 503 h w) 502 7 fz) := by
  obtain ⟨r1, r2, r3, r4, r5, r6⟩ := hr
  simp only [RowR, ui_rd, h1, Nat.reduceEqDiff, if_true, if_false]
  refine ⟨fun h' hh' => ?_, fun q' hq' => ?_, trivial, ?_, ?_, fun q' hq' hq3 => ?_⟩
  · have e := r1 h' hh'
    clear r1 r2 r6 h1
    refine ⟨?_, ?_, ?_, ?_⟩ <;> grind (splits := 25)
  · have e := r2 q' hq'
    clear r1 r2 r6 h1
    grind (splits := 25)
  · clear r1 r2 r6 h1
    grind
  · clear r1 r2 r6 h1
    grind
  · have e := r6 q' hq' hq3
    clear r1 r2 r6 h1
    grind
theorem burn_step {H O lo h : Nat} {c m : St} {a : Nat} {p2 : Int32} (ha : RS a) (hl : LandR H O c 134 m) (hr : RowR H O (c.1 a) m) (hw : Way H O m) (hm : Wm H m) (hlo : lo ≤ 100) (hh : h < H) : ∃ c' m', (∀ n, fX8_burn_L41 a 41 p2 (n + 1) (nI lo) (nI h) c = fX8_burn_L41 a 41 p2 n (nI lo) (nI (h + 1)) c') ∧ (∀ n, fX10_burns_L34 (n + 1) (nI lo) (nI h) m = fX10_burns_L34 n (nI lo) (nI (h + 1)) m') ∧ RowR H O (c'.1 a) m' ∧ Way H O m' ∧ Wm H m' ∧ CF a c c' ∧ MF m m' ∧ m'.1 502 6 = m.1 502 6 ∧ MB m m' := by
  have hl0 := hl
  have hr0 := hr
  obtain ⟨h8, h3, -, l3, l4, l5, -, -, -, l6, -⟩ := hl
  obtain ⟨⟨w, w9, ew⟩, t, t9, et⟩ := hm h hh
  rcases and1n (m.1 502 7 >>> (nI h &&& nI 31)) with f | f
  · obtain ⟨W, hW⟩ : ∃ W, W = if m.1 504 h ≤ nI 0 then w else min (w + t) 999 := ⟨_, rfl⟩
    have hW9 : W ≤ 999 := by rw [hW]; split <;> omega
    refine ⟨_, _, burn_c ha hl0 hr0 hlo hh f w9 ew t t9 et hW, burn_m h8 l5 hlo hh f w9 ew t t9 et hW, ?_, ?_, ?_, ?_, ?_, ?_, ?_⟩
    · refine RowR.up hr0 h8 h3 hh (fun i => ?_)
      have e2 := (hr0.1 h hh).2.1
      have e38 := hr0.2.2.1
      by_cases h1 : m.1 504 h ≤ nI 0 <;> by_cases h2 : m.1 502 2 ≤ nI (W - lo) <;> simp only [h1, h2, if_true, if_false, ui_rd] <;> clear hr0 hl0 l6 hW hm hw <;> grind
    · obtain ⟨w1, w2⟩ := hw
      simp only [Way, ui_rd, Nat.reduceEqDiff, if_false]
      exact ⟨w1, w2⟩
    · intro h' hh'
      obtain ⟨⟨w', a1, a2⟩, b1⟩ := hm h' hh'
      simp only [ui_rd, Nat.reduceEqDiff, if_false, if_true]
      refine ⟨?_, b1⟩
      by_cases e : h' = h
      · rw [if_pos e]
        exact ⟨W - lo, by omega, rfl⟩
      · rw [if_neg e]
        exact ⟨w', a1, a2⟩
    · refine ⟨fun k hk => ?_, ?_⟩
      · split <;> split <;> simp only [ui_ne hk]
      · split <;> split <;> rfl
    · refine ⟨fun k i h1 h2 h3 h4 h5 h6 => ?_, rfl⟩
      simp only [ui_rd]
      grind
    · simp only [ui_rd, Nat.reduceEqDiff, if_false, if_true]
    · refine ⟨fun i => ?_, ?_, ?_⟩
      · simp only [ui_rd, Nat.reduceEqDiff, if_false, and_self]
      · simp only [ui_rd, if_true]
        by_cases h2 : m.1 502 2 ≤ nI (W - lo)
        · rw [if_pos h2]
          exact ⟨nI 0, (or0_nI _).symm⟩
        · rw [if_neg h2]
          exact ⟨_, rfl⟩
      · rintro ⟨f', f9, ef⟩
        simp only [ui_rd, if_true]
        by_cases h2 : m.1 502 2 ≤ nI (W - lo)
        · rw [if_pos h2]
          exact ⟨f', f9, ef⟩
        · rw [if_neg h2, ef]
          exact ⟨_, (or_bit f' f9 h (by omega)).2, (or_bit f' f9 h (by omega)).1⟩
  · refine ⟨c, m, fun n => ?_, fun n => ?_, hr0, hw, hm, CF.rf, MF.rf, rfl, MB.rf⟩
    · have r3 := hr0.2.2.1
      rw [fX8_burn_L41]
      generalize fX8_burn_L41 a 41 p2 n = K
      unfold fX8_burn_B118
      simp (disch := omega) only [lit_nI, gd_ix, cl_nI, nm_eq, nI_add]
      simp (disch := omega) only [l4, le_nI, r3, f, n10, if_false]
      rw [if_neg (by omega)]
    · rw [fX10_burns_L34, isFrozen_v]
      generalize fX10_burns_L34 n = K
      simp (disch := omega) only [l5, le_nI, lit_nI, gd_ix, cl_nI, nm_eq, nI_add, f, n10, br_some, if_true, if_false]
      rw [if_neg (by omega)]
theorem burn_loop {H O lo a : Nat} {p2 : Int32} (ha : RS a) (hlo : lo ≤ 100) : ∀ (d h n1 n2 : Nat) (c m : St), h + d = H → d < n1 → d < n2 → LandR H O c 134 m → RowR H O (c.1 a) m → Way H O m → Wm H m → ∃ c1 m1, fX8_burn_L41 a 41 p2 n1 (nI lo) (nI h) c = some c1 ∧ fX10_burns_L34 n2 (nI lo) (nI h) m = some m1 ∧ RowR H O (c1.1 a) m1 ∧ Way H O m1 ∧ Wm H m1 ∧ CF a c c1 ∧ MF m m1 ∧ m1.1 502 6 = m.1 502 6 + nI 1 ∧ MB m m1 := by
  intro d
  induction d with
  | zero =>
    intro h n1 n2 c m hd h1 h2 hl hr hw hm
    obtain ⟨n1, rfl⟩ : ∃ k, n1 = k + 1 := ⟨n1 - 1, by omega⟩
    obtain ⟨n2, rfl⟩ : ∃ k, n2 = k + 1 := ⟨n2 - 1, by omega⟩
    obtain ⟨h8, h3, -, l3, l4, l5, -, -, -, l6, -⟩ := hl
    have r4 := hr.2.2.2.1
    refine ⟨ui c a 39 (m.1 502 6 + nI 1), ui m 502 6 (m.1 502 6 + nI 1), ?_, ?_, ?_, ?_, ?_, ?_, ?_, ?_, ?_⟩
    · rw [fX8_burn_L41]
      simp (disch := omega) only [l4, le_nI, lit_nI, gd_ix, cl_nI, nm_eq, r4]
      rw [if_pos (by omega)]
    · rw [fX10_burns_L34]
      simp (disch := omega) only [l5, le_nI, lit_nI, nm_eq]
      rw [if_pos (by omega)]
    · obtain ⟨r1, r2, r3, r4, r5, r6⟩ := hr
      simp only [RowR, ui_rd, Nat.reduceEqDiff, if_true, if_false]
      refine ⟨fun h' hh' => ?_, fun q' hq' => ?_, r3, trivial, r5, fun q' hq' hq3 => ?_⟩
      · have e := r1 h' hh'
        clear r1 r2 r6
        refine ⟨?_, ?_, ?_, ?_⟩ <;> grind
      · have e := r2 q' hq'
        clear r1 r2 r6
        grind
      · have e := r6 q' hq' hq3
        clear r1 r2 r6
        grind
    · obtain ⟨w1, w2⟩ := hw
      simp only [Way, ui_rd, Nat.reduceEqDiff, if_false]
      exact ⟨w1, w2⟩
    · intro h' hh'
      simp only [ui_rd, Nat.reduceEqDiff, if_false]
      exact hm h' hh'
    · exact ⟨fun k hk => ui_ne hk, rfl⟩
    · refine ⟨fun k i h1 h2 h3 h4 h5 h6 => ?_, rfl⟩
      simp only [ui_rd]
      grind
    · simp only [ui_rd, if_true]
    · refine ⟨fun i => ?_, ⟨nI 0, ?_⟩, ?_⟩
      · simp only [ui_rd, Nat.reduceEqDiff, if_false, and_self]
      · simp only [ui_rd, Nat.reduceEqDiff, if_false, if_true, or0_nI]
      · simp only [ui_rd, Nat.reduceEqDiff, if_false, if_true]
        exact id
  | succ d ih =>
    intro h n1 n2 c m hd h1 h2 hl hr hw hm
    obtain ⟨n1, rfl⟩ : ∃ k, n1 = k + 1 := ⟨n1 - 1, by omega⟩
    obtain ⟨n2, rfl⟩ : ∃ k, n2 = k + 1 := ⟨n2 - 1, by omega⟩
    obtain ⟨c', m', s1, s2, s3, s4, s5, s6, s7, s8, s9⟩ := burn_step (p2 := p2) ha hl hr hw hm hlo (show h < H by omega)
    obtain ⟨c1, m1, t1, t2, t3, t4, t5, t6, t7, t8, t9⟩ := ih (h + 1) n1 n2 c' m' (by omega) (by omega) (by omega) (hl.keep ha s6 s7) s3 s4 s5
    exact ⟨c1, m1, by rw [s1, t1], by rw [s2, t2], t3, t4, t5, s6.tr t6, s7.tr t7, by rw [t8, s8], s9.tr t9⟩
/-- a night's hearths -/
theorem burn_v {H O lo a N : Nat} {p2 : Int32} {c m : St} (ha : RS a) (hlo : lo ≤ 50) (hlv : m.1 502 1 = nI lo) (hl : LandR H O c 134 m) (hr : RowR H O (c.1 a) m) (hw : Way H O m) (hm : Wm H m) (hs : SnowR c 134 m) (hN : m.1 502 6 = nI N) (hb : N < 100000) (hp : m.1 500 49 = p2) : ∃ c1 m1, fX8_burn a 41 p2 c = some c1 ∧ fX10_burns m = some m1 ∧ RowR H O (c1.1 a) m1 ∧ Way H O m1 ∧ Wm H m1 ∧ CF a c c1 ∧ MF m m1 ∧ m1.1 502 6 = nI (N + 1) ∧ MB m m1 := by
  have hc1 : c.1 134 2 = nI lo := hl.2.2.1.trans hlv
  have h39 : c.1 a 39 = nI N := hr.2.2.2.1.trans hN
  have hH := hl.1
  have go : ∀ lo2, lo2 ≤ 100 → ∃ c1 m1, fX8_burn_L41 a 41 p2 10000 (nI lo2) (nI 0) c = some c1 ∧ fX10_burns_L34 10000 (nI lo2) (nI 0) m = some m1 ∧ RowR H O (c1.1 a) m1 ∧ Way H O m1 ∧ Wm H m1 ∧ CF a c c1 ∧ MF m m1 ∧ m1.1 502 6 = nI (N + 1) ∧ MB m m1 := by
    intro lo2 h2
    obtain ⟨c1, m1, t1, t2, t3, t4, t5, t6, t7, t8, t9⟩ := burn_loop (p2 := p2) ha h2 H 0 10000 10000 c m (by omega) (by omega) (by omega) hl hr hw hm
    exact ⟨c1, m1, t1, t2, t3, t4, t5, t6, t7, by rw [t8, hN, nI_add], t9⟩
  obtain ⟨r, s1, s2⟩ := snow_v hs hN hb
  obtain ⟨c1, m1, t⟩ := go lo (by omega)
  obtain ⟨c2, m2, t'⟩ := go (2 * lo) (by omega)
  unfold fX8_burn fX10_burns fX8_burn_B18 fX10_burns_B14
  rw [hp]
  simp (disch := omega) only [lit_nI, gd_ix, cl_nI, nm_eq, hc1, hlv, h39, s1, s2, br_some, pk_mul]
  by_cases e1 : p2 = nI 0
  · simp only [e1, if_true]
    subst e1
    by_cases e2 : r = nI 0
    · simp only [e2, if_true]
      exact ⟨c1, m1, t⟩
    · simp only [e2, if_false]
      exact ⟨c2, m2, t'⟩
  · simp only [e1, if_false]
    exact ⟨c2, m2, t'⟩
