/-! rounds: codes of the reference against the class's search -/
theorem laysBack_55 {m m1 : St} (h : fX10_laysBack m = some m1) : m1.1 500 55 = m.1 500 55 := by
  obtain ⟨m2, a1, a2, a3, a4, a5⟩ := carK_l tR 4400 (ui (ui m 500 61 (nI 4400)) 500 62 (nI 1)) (by decide) (by decide) (by decide) (by simp only [ui_rd, if_true]) (by simp only [ui_rd, if_true, Nat.reduceEqDiff, if_false])
  have e : fX10_laysBack m = some m2 := by
    unfold fX10_laysBack
    simp only [lit_nI, carries_eq]
    rw [a1]
    rfl
  rw [h] at e
  have e2 : m1 = m2 := Option.some.inj e
  subst e2
  rw [a3 500 55 (fun t hm e => by
    have : t.1 = 502 ∨ t.1 = 503 ∨ t.1 = 504 ∨ t.1 = 506 ∨ t.1 = 508 ∨ t.1 = 509 ∨ t.1 = 511 := by
      revert hm
      simp only [tR, List.mem_cons, List.not_mem_nil, or_false]
      rintro (rfl | rfl | rfl | rfl | rfl | rfl | rfl) <;> simp
    omega) (by omega)]
  simp only [ui_rd, if_true, Nat.reduceEqDiff, if_false]
/-- nobody more is frozen -/
theorem more_v {f f1 : Int32} (h : Gr f f1) : f1 &&& (f ^^^ -nI 1) = nI 0 ↔ f1 = f := by
  obtain ⟨g, e⟩ := h
  subst e
  constructor
  · intro q
    refine Int32.toBitVec_inj.1 (BitVec.eq_of_getLsbD_eq (fun i hi => ?_))
    have q2 := congrArg (fun z : Int32 => z.toBitVec.getLsbD i) q
    have e1 : (-nI 1).toBitVec = BitVec.allOnes 32 := rfl
    have e0 : (nI 0).toBitVec = 0#32 := rfl
    simp only [Int32.toBitVec_and, Int32.toBitVec_or, Int32.toBitVec_xor, e1, e0, BitVec.getLsbD_and, BitVec.getLsbD_or, BitVec.getLsbD_xor, BitVec.getLsbD_allOnes, BitVec.getLsbD_zero] at q2 ⊢
    rw [show decide (i < 32) = true from decide_eq_true hi] at q2
    revert q2
    cases f.toBitVec.getLsbD i <;> cases g.toBitVec.getLsbD i <;> decide
  · intro q
    rw [q]
    refine Int32.toBitVec_inj.1 (BitVec.eq_of_getLsbD_eq (fun i hi => ?_))
    have e1 : (-nI 1).toBitVec = BitVec.allOnes 32 := rfl
    have e0 : (nI 0).toBitVec = 0#32 := rfl
    simp only [Int32.toBitVec_and, Int32.toBitVec_xor, e1, e0, BitVec.getLsbD_and, BitVec.getLsbD_xor, BitVec.getLsbD_allOnes, BitVec.getLsbD_zero]
    rw [show decide (i < 32) = true from decide_eq_true hi]
    cases f.toBitVec.getLsbD i <;> decide
def dv (H n e : Nat) : Nat := if e < n then H ^ (n - 1 - e) else 1
/-- the reference, taking any code with prefix p, comes to night e so -/
def Rch (H O q n : Nat) (c0 m0 : St) (p e : Nat) (r : Nat → Int32) (S N : Nat) : Prop := ∀ b m, b / H ^ (n - e) = p → b < 10000 → SV m0 m → ME m0 m → ∃ m', fX10_takenBy (nI q) (nI n) (nI b) m = fX10_takenBy_L47 (nI q) (nI n) (nI b) (10000 - e) (nI (dv H n e)) (m0.1 502 7) (nI S) (nI 1) (nI e) m' ∧ LandR H O c0 134 m' ∧ SnowR c0 134 m' ∧ RowOK H O N r m' ∧ m'.1 500 49 = nI 0 ∧ m'.1 502 0 = m0.1 502 0 ∧ SV m0 m' ∧ Gr (m0.1 502 7) (m'.1 502 7)
theorem pow_b {H n : Nat} (hH : H ≤ 8) (hn : n ≤ 4) : H ^ n ≤ 4096 := Nat.le_trans (Nat.pow_le_pow_left hH n) (Nat.le_trans (Nat.pow_le_pow_right (by omega) hn) (by decide))
theorem div_L {H n q : Nat} {m : St} {p3 : Int32} (hH : H ≤ 8) (hn : n ≤ 4) (l2 : m.1 502 3 = nI H) : ∀ (d i k : Nat), i + d = n → 1 ≤ i → d < k → fX10_takenBy_L6 (nI q) (nI n) p3 k (nI (H ^ (i - 1))) (nI i) m = fX10_takenBy_L47 (nI q) (nI n) p3 10000 (nI (H ^ (n - 1))) (m.1 502 7) (nI 0) (nI 1) (nI 0) m := by
  intro d
  induction d with
  | zero =>
    intro i k hi h1 hk
    obtain ⟨k, rfl⟩ : ∃ j, k = j + 1 := ⟨k - 1, by omega⟩
    rw [fX10_takenBy_L6, if_pos (by rw [le_nI (by omega) (by omega)]; omega)]
    simp only [nm_eq, lit_nI]
    rw [show i - 1 = n - 1 by omega]
  | succ d ih =>
    intro i k hi h1 hk
    obtain ⟨k, rfl⟩ : ∃ j, k = j + 1 := ⟨k - 1, by omega⟩
    rw [fX10_takenBy_L6, if_neg (by rw [le_nI (by omega) (by omega)]; omega)]
    simp only [nm_eq, lit_nI, l2, pk_mul, nI_add]
    have e : H ^ (i - 1) * H = H ^ (i + 1 - 1) := by
      rw [← Nat.pow_succ]
      congr 1
      omega
    rw [e]
    exact ih (i + 1) k (by omega) (by omega) (by omega)
theorem Rch.init {R H O q n N : Nat} {L : List Nat} {c0 m0 : St} {r : Nat → Int32} (hR : RelP R H O L c0 m0) (n1 : 1 ≤ n) (n4 : n ≤ 4) (hr : RowOK H O N (c0.1 122) m0) (hrr : ∀ i, i < 41 → r i = c0.1 122 i) : Rch H O q n c0 m0 0 0 r 0 N := by
  obtain ⟨h8, h3, l1, l2, -⟩ := hR.land
  obtain ⟨N0, N09, d1, d2, d3⟩ := hR.nr
  intro b m hb hb2 hsv hme
  have hp := hme.1.2.2
  have l2' : m.1 502 3 = nI H := by
    rw [hp 502 3 (show 3 < 12 by omega)]
    exact l2
  have hcg : RelP R H O L c0 m := hR.sc CE.rf hme
  obtain ⟨N', N9', g1, g2, g3⟩ := hcg.nr
  refine ⟨m, ?_, g1, g2, hr.pe h8 h3 hrr hme.1, hcg.2.1.1, hp 502 0 (show 0 < 12 by omega), hsv, ?_⟩
  · have e1 := div_L (q := q) (p3 := nI b) h8 n4 l2' (n - 1) 1 10000 (by omega) (by omega) (by omega)
    rw [hp 502 7 (show 7 < 12 by omega)] at e1
    unfold fX10_takenBy
    simp only [lit_nI]
    have ed : dv H n 0 = H ^ (n - 1) := by
      unfold dv
      rw [if_pos (by omega), Nat.sub_zero]
    rw [ed]
    exact e1
  · rw [hp 502 7 (show 7 < 12 by omega)]
    exact Gr.rf
theorem dv_step {H n e : Nat} (hH : 1 ≤ H) (hH8 : H ≤ 8) (hn : n ≤ 4) (he : e < n) : 1 ≤ dv H n e ∧ dv H n e ≤ 4096 ∧ (if dv H n e / H ≤ 0 then 1 else dv H n e / H) = dv H n (e + 1) := by
  have hb := pow_b (n := n - 1 - e) hH8 (by omega)
  have hpos : 1 ≤ H ^ (n - 1 - e) := Nat.one_le_pow _ _ (by omega)
  unfold dv
  rw [if_pos he]
  refine ⟨hpos, hb, ?_⟩
  by_cases h2 : e + 1 < n
  · have e1 : H ^ (n - 1 - e) = H ^ (n - 1 - (e + 1)) * H := by
      rw [← Nat.pow_succ]
      congr 1
      omega
    have hpos2 : 1 ≤ H ^ (n - 1 - (e + 1)) := Nat.one_le_pow _ _ (by omega)
    rw [if_pos h2, e1, Nat.mul_div_cancel _ (by omega), if_neg (by omega)]
  · rw [if_neg h2, show n - 1 - e = 0 by omega, Nat.pow_zero]
    by_cases h1 : H = 1
    · subst h1
      decide
    · rw [if_pos (by rw [Nat.div_eq_of_lt (by omega)]; omega)]
/-- one night of a code -/
theorem taken_step {H q n b e h S f : Nat} {was : Int32} {m : St} (hH : 1 ≤ H) (hH8 : H ≤ 8) (hn : n ≤ 4) (he : e < n) (l2 : m.1 502 3 = nI H) (hb : b < 10000) (hh : b / dv H n e % H = h) : fX10_takenBy_L47 (nI q) (nI n) (nI b) (f + 1) (nI (dv H n e)) was (nI S) (nI 1) (nI e) m = fX10_takenBy_B96 (nI q) (nI n) (nI b) (fX10_takenBy_L47 (nI q) (nI n) (nI b) f) was (nI S) (nI e) (nI h) (nI (dv H n (e + 1))) m := by
  obtain ⟨d1, d2, d3⟩ := dv_step hH hH8 hn he
  have hbd : b / dv H n e ≤ b := Nat.div_le_self _ _
  have hdd : dv H n e / H ≤ dv H n e := Nat.div_le_self _ _
  rw [fX10_takenBy_L47]
  simp (disch := omega) only [lit_nI, le_nI, l2, gd_nz, pk_div, irm_n, nm_eq, hh]
  rw [if_neg (show ¬ n ≤ e by omega), if_neg (by rw [n10]; exact id)]
  by_cases z : dv H n e / H ≤ 0
  · rw [if_pos z] at d3 ⊢
    rw [← d3]
  · rw [if_neg z] at d3 ⊢
    rw [d3]
def OutI (q n : Nat) (m0 : St) (b : Nat) : Prop := ∀ m, SV m0 m → ME m0 m → ∃ m1, fX10_takenBy (nI q) (nI n) (nI b) m = some (-nI 1, m1) ∧ SV m0 m1 ∧ ME m0 m1
def OutF (q n : Nat) (m0 : St) (b s : Nat) (z : Prop) : Prop := ∀ m, SV m0 m → ME m0 m → ∃ m1, fX10_takenBy (nI q) (nI n) (nI b) m = some (nI s, m1) ∧ SV m0 m1 ∧ ME m0 m1 ∧ (m1.1 500 55 = nI 0 ↔ z)
theorem taken_out {q n b S : Nat} {y7 : Int32} {m0 m : St} (hsv : SV m0 m) : ∃ m1, fX10_takenBy_B134 (nI q) (nI n) (nI b) (m0.1 502 7) (nI S) y7 m = (if y7 = nI 0 then some (-nI 1, m1) else some (nI S, m1)) ∧ SV m0 m1 ∧ ME m0 m1 ∧ m1.1 500 55 = m.1 502 7 &&& (m0.1 502 7 ^^^ -nI 1) := by
  obtain ⟨m1, a1, a2, a3⟩ := laysBack_v (hsv.ui (s := 500) (i := 55) (v := m.1 502 7 &&& (m0.1 502 7 ^^^ -nI 1)) (by omega))
  refine ⟨m1, ?_, a2, a3, ?_⟩
  · unfold fX10_takenBy_B134
    simp only [lit_nI, nm_eq, a1, br_some]
  · rw [laysBack_55 a1, ui_rd, if_pos rfl, if_pos rfl]
theorem Rch.leaf {H O q n p S N : Nat} {c0 m0 : St} {r : Nat → Int32} (h : Rch H O q n c0 m0 p n r S N) (hn : n ≤ 4) (hp : p < 10000) : OutF q n m0 p S (r 38 = m0.1 502 7) := by
  intro m hsv hme
  obtain ⟨m', a1, a2, a3, a4, a5, a6, a7, a8⟩ := h p m (by rw [Nat.sub_self, Nat.pow_zero, Nat.div_one]) hp hsv hme
  obtain ⟨m1, b1, b2, b3, b4⟩ := taken_out (q := q) (n := n) (b := p) (S := S) (y7 := nI 1) a7
  refine ⟨m1, ?_, b2, b3, ?_⟩
  · rw [a1, show 10000 - n = 9999 - n + 1 by omega, fX10_takenBy_L47, if_pos (by rw [le_nI (by omega) (by omega)]; omega), b1, if_neg (by rw [n10]; exact id)]
  · rw [b4, more_v a8, a4.1.2.2.1]
theorem can01 {a n : Nat} {c : St} {p q x : Int32} (h : fX8_canCall a n c p q = some x) : x = nI 0 ∨ x = nI 1 := by
  have key : ∀ z, fX8_canCall_B36 a n p q c z = some x → x = nI 0 ∨ x = nI 1 := by
    intro z h
    unfold fX8_canCall_B36 at h
    by_cases z0 : z = 0
    · rw [if_pos z0] at h
      exact Or.inl (Option.some.inj h).symm
    · rw [if_neg z0] at h
      have h2 := (gd_s h).2
      split at h2
      · have h3 := (gd_s (gd_s h2).2).2
        split at h3
        · exact Or.inl (Option.some.inj h3).symm
        · exact Or.inr (Option.some.inj h3).symm
      · exact Or.inl (Option.some.inj h2).symm
  unfold fX8_canCall fX8_canCall_B31 at h
  have h2 := (gd_s h).2
  rw [nm_eq] at h2
  split at h2
  · exact key _ h2
  · have h3 := (gd_s h2).2
    split at h3
    · exact key _ h3
    · exact key _ h3
/-- a digit by which nobody can call -/
theorem Rch.no {H O q n p e h S N a : Nat} {c0 m0 c : St} (hr : Rch H O q n c0 m0 p e (c.1 a) S N) (hce : CE c0 c) (hH : 1 ≤ H) (hn : n ≤ 4) (he : e < n) (hq : q < O) (hh : h < H) (hx : fX8_canCall a 41 c (nI q) (nI h) = some 0) (b : Nat) (hb : b < 10000) (hd : b / H ^ (n - (e + 1)) = p * H + h) : OutI q n m0 b := by
  intro m hsv hme
  have hbp : b / H ^ (n - e) = p := by
    rw [show n - e = n - (e + 1) + 1 by omega, Nat.pow_succ, ← Nat.div_div_eq_div_mul, hd, Nat.mul_comm, Nat.mul_add_div (by omega), Nat.div_eq_of_lt hh, Nat.add_zero]
  obtain ⟨m', a1, a2, a3, a4, a5, a6, a7, a8⟩ := hr b m hbp hb hsv hme
  have hH8 := a2.1
  have hl : LandR H O c 134 m' := by
    unfold LandR
    rw [hce.1 134 (by omega), hce.1 (134 + 9) (by omega), hce.1 (134 + 10) (by omega), hce.1 (134 + 11) (by omega)]
    exact a2
  obtain ⟨x, x1, x2⟩ := canCall_v hl a4.1 a4.2.1 hq hh
  have ex : x = nI 0 := by
    rw [hx] at x1
    exact (Option.some.inj x1).symm
  subst ex
  have hdig : b / dv H n e % H = h := by
    unfold dv
    rw [if_pos he, show n - 1 - e = n - (e + 1) by omega, hd, Nat.mul_comm, Nat.mul_add_mod, Nat.mod_eq_of_lt hh]
  obtain ⟨m1, b1, b2, b3, b4⟩ := taken_out (q := q) (n := n) (b := b) (S := S) (y7 := nI 0) a7
  refine ⟨m1, ?_, b2, b3⟩
  rw [a1, show 10000 - e = 9998 - e + 1 + 1 by omega, taken_step hH hH8 hn he a2.2.2.2.2.2.1 hb hdig]
  unfold fX10_takenBy_B96
  rw [x2, br_some]
  simp only [lit_nI, if_true, nm_eq]
  have b1' : fX10_takenBy_B134 (nI q) (nI n) (nI b) (m0.1 502 7) (nI S) (nI 0) m' = some (-nI 1, m1) := by
    rw [b1, if_pos rfl]
  rw [fX10_takenBy_L47, b1']
  by_cases hz : nI n ≤ nI e + nI 1
  · rw [if_pos hz]
  · rw [if_neg hz, if_pos (show nI 0 = (0 : Int32) from rfl)]
/-- a digit by which the officer calls -/
theorem Rch.yes {H O q n p e h S N a a' k : Nat} {c0 m0 c cA c1 c2 : St} {y : Int32} (hr : Rch H O q n c0 m0 p e (c.1 a) S N) (hce : CE c0 c) (hcA : CE c0 cA) (h50 : cA.1 50 3 = m0.1 502 0) (hrow : ∀ i, i < 41 → cA.1 a' i = c.1 a i) (ha' : RT a') (hH : 1 ≤ H) (hn : n ≤ 4) (he : e < n) (hq : q < O) (hh : h < H) (hN : N < 90000) (hx : fX8_canCall a 41 c (nI q) (nI h) = some y) (hy : ¬ y = nI 0) (hcall : fX8_callAt a' 41 (nI q) (nI h) cA = some (nI k, c1)) (c1' : St) (hc1 : ∀ j, j ≠ 64 → c1'.1 j = c1.1 j) (hc12 : c1'.2.2 = c1.2.2) (hburn : fX8_burn a' 41 (nI 0) c1' = some c2) : Rch H O q n c0 m0 (p * H + h) (e + 1) (c2.1 a') (S + k) (N + 1) := by
  intro b m hd hb hsv hme
  have hbp : b / H ^ (n - e) = p := by
    rw [show n - e = n - (e + 1) + 1 by omega, Nat.pow_succ, ← Nat.div_div_eq_div_mul, hd, Nat.mul_comm, Nat.mul_add_div (by omega), Nat.div_eq_of_lt hh, Nat.add_zero]
  obtain ⟨m', a1, a2, a3, a4, a5, a6, a7, a8⟩ := hr b m hbp hb hsv hme
  have hH8 := a2.1
  have hO3 := a2.2.1
  have lnd : ∀ c', CE c0 c' → ∀ m'', LandR H O c0 134 m'' → LandR H O c' 134 m'' := by
    intro c' hce m'' hl
    unfold LandR
    rw [hce.1 134 (by omega), hce.1 (134 + 9) (by omega), hce.1 (134 + 10) (by omega), hce.1 (134 + 11) (by omega)]
    exact hl
  have snw : ∀ c', CE c0 c' → ∀ m'', SnowR c0 134 m'' → SnowR c' 134 m'' := by
    intro c' hce m'' hl
    unfold SnowR
    rw [hce.1 134 (by omega), hce.1 (134 + 12) (by omega)]
    exact hl
  obtain ⟨x, x1, x2⟩ := canCall_v (lnd c hce m' a2) a4.1 a4.2.1 hq hh
  have ex : x = y := by
    rw [hx] at x1
    exact (Option.some.inj x1).symm
  subst ex
  have hdig : b / dv H n e % H = h := by
    unfold dv
    rw [if_pos he, show n - 1 - e = n - (e + 1) by omega, hd, Nat.mul_comm, Nat.mul_add_mod, Nat.mod_eq_of_lt hh]
  have hnr : NR H O N a' cA m' := ⟨lnd cA hcA m' a2, snw cA hcA m' a3, a4.eqv hH8 hO3 hrow (fun _ _ _ => rfl) (fun _ _ => rfl)⟩
  obtain ⟨t, cB, mB, g1, g2, g3, g4, g5, g6, -⟩ := callAt_w ha'.rs hnr (by omega) (by rw [h50, a6]) hq hh
  rw [hcall] at g1
  have et : nI k = t := congrArg Prod.fst (Option.some.inj g1)
  have ec : c1 = cB := congrArg Prod.snd (Option.some.inj g1)
  subst et
  subst ec
  have ha2 := ha'
  unfold RT at ha2
  have hnr2 : NR H O N a' c1' mB := by
    obtain ⟨k1, k2, k3⟩ := g3
    refine ⟨?_, ?_, ?_⟩
    · unfold LandR
      rw [hc1 134 (by omega), hc1 (134 + 9) (by omega), hc1 (134 + 10) (by omega), hc1 (134 + 11) (by omega)]
      exact k1
    · unfold SnowR
      rw [hc1 134 (by omega), hc1 (134 + 12) (by omega)]
      exact k2
    · rw [hc1 a' (by omega)]
      exact k3
  obtain ⟨cC, mC, u1, u2, u3, u4, u5, u6⟩ := burn_w (p2 := nI 0) ha'.rs hnr2 (by omega) (by rw [g5.1 500 49 (by omega) (by omega) (by omega) (by omega) (by omega) (by omega)]; exact a5)
  rw [hburn] at u1
  have ec2 : c2 = cC := Option.some.inj u1
  subst ec2
  have mf : MF m' mC := g5.tr u5
  have ck : ∀ j, 120 ≤ j → c2.1 j = c0.1 j := fun j hj => by rw [u4.1 j (by omega), hc1 j (by omega), g4.1 j (by omega), hcA.1 j (by omega)]
  refine ⟨mC, ?_, ?_, ?_, u3.2.2, ?_, ?_, a7.mf mf, ?_⟩
  · rw [a1, show 10000 - e = 10000 - (e + 1) + 1 by omega, taken_step hH hH8 hn he a2.2.2.2.2.2.1 hb hdig]
    unfold fX10_takenBy_B96
    rw [x2, br_some]
    simp only [lit_nI]
    rw [if_neg hy, g2, bw_some]
    simp only [nm_eq, u2, br_some, nI_add]
    rcases can01 x1 with rfl | rfl
    · exact absurd rfl hy
    · rfl
  · unfold LandR
    rw [← ck 134 (by omega), ← ck (134 + 9) (by omega), ← ck (134 + 10) (by omega), ← ck (134 + 11) (by omega)]
    exact u3.1
  · unfold SnowR
    rw [← ck 134 (by omega), ← ck (134 + 12) (by omega)]
    exact u3.2.1
  · rw [mf.1 500 49 (by omega) (by omega) (by omega) (by omega) (by omega) (by omega)]
    exact a5
  · rw [mf.1 502 0 (by omega) (by omega) (by omega) (by omega) (by omega) (by omega)]
    exact a6
  · rw [g6] at u6
    exact a8.tr u6
