/-! the tape -/
theorem sgn_toInt {t : Nat} (h : t < 256) : (sgn t).toInt = if t < 128 then (t : Int) else (t : Int) - 256 := by
  unfold sgn
  by_cases q : t < 128
  · rw [if_pos q, if_pos q, nI_toInt (by omega)]
  · rw [if_neg q, if_neg q, ← Int32.zero_sub]
    have := pk_sub_toInt (a := 0) (b := 256 - t) (by omega) (by omega)
    rw [show (0 : Int32) = nI 0 from rfl, this]
    omega
theorem byte_v (p s : Int32) (k : Nat) (hk : k = 0 ∨ k = 8 ∨ k = 16 ∨ k = 24) (h1 : ((s.toUInt32 &&& Int32.toUInt32 31).toBitVec % 32).toNat = k) (h2 : ((s &&& 31).toBitVec.smod 32).toNat = k) : ∃ t, t < 256 ∧ (((Int32.toUInt32 p) >>> ((Int32.toUInt32 s) &&& Int32.toUInt32 31)).toInt32) &&& (255 : Int32) = nI t ∧ vp_nar .byte (Int8.toInt32 (Int32.toInt8 (p >>> (s &&& 31)))) = sgn t := by
  have hn : p.toBitVec.toNat < 4294967296 := p.toBitVec.isLt
  have hi : p.toInt = if 2 * p.toBitVec.toNat < 4294967296 then (p.toBitVec.toNat : Int) else (p.toBitVec.toNat : Int) - 4294967296 := by
    show p.toBitVec.toInt = _
    rw [BitVec.toInt_eq_toNat_cond]
    rfl
  refine ⟨p.toBitVec.toNat / 2 ^ k % 256, Nat.mod_lt _ (by omega), ?_, ?_⟩
  · rw [pk_and _ 8 (by rfl), pk_ushr p s k h1]
  · rw [pk_vb]
    refine Int32.toInt_inj.mp ?_
    rw [sgn_toInt (Nat.mod_lt _ (by omega)), Int8.toInt_toInt32, Int32.toInt_toInt8, pk_shr p (s &&& 31) k h2, Int.shiftRight_eq_div_pow, Int.bmod_def, hi]
    rcases hk with rfl | rfl | rfl | rfl <;> split <;> split <;> omega
def TpR (T : Nat) (c m : St) : Prop := c.1 0 1 = nI T ∧ m.1 500 29 = nI T ∧ ∀ i, i < T → ∃ t, t < 256 ∧ c.1 1 i = nI t ∧ m.1 540 i = sgn t
/-- what feeding may change -/
def CT (c c1 : St) : Prop := (∀ k, k ≠ 0 → k ≠ 1 → c1.1 k = c.1 k) ∧ (∀ i, i ≠ 1 → c1.1 0 i = c.1 0 i) ∧ c1.2 = c.2
def MT (m m1 : St) : Prop := (∀ s x, s ≠ 540 → ¬ (s = 500 ∧ x = 29) → m1.1 s x = m.1 s x) ∧ m1.2 = m.2
theorem CT.rf {c : St} : CT c c := ⟨fun _ _ _ => rfl, fun _ _ => rfl, rfl⟩
theorem MT.rf {c : St} : MT c c := ⟨fun _ _ _ _ => rfl, rfl⟩
theorem CT.tr {c c1 c2 : St} (h1 : CT c c1) (h2 : CT c1 c2) : CT c c2 := ⟨fun k a b => (h2.1 k a b).trans (h1.1 k a b), fun i a => (h2.2.1 i a).trans (h1.2.1 i a), h2.2.2.trans h1.2.2⟩
theorem MT.tr {c c1 c2 : St} (h1 : MT c c1) (h2 : MT c1 c2) : MT c c2 := ⟨fun k x a b => (h2.1 k x a b).trans (h1.1 k x a b), h2.2.trans h1.2⟩
theorem put1 {T k n1 n2 : Nat} {p : Int32} {c m : St} (hk : k = 0 ∨ k = 8 ∨ k = 16 ∨ k = 24) (hT : T < 400) (h : TpR T c m) : ∃ c1 m1, fX9_putBytes_L3 p (n1 + 1) (nI k) c = fX9_putBytes_L3 p n1 (nI k + -nI 8) c1 ∧ fX10_put_L3 p (n2 + 1) (nI k) m = fX10_put_L3 p n2 (nI k + -nI 8) m1 ∧ TpR (T + 1) c1 m1 ∧ CT c c1 ∧ MT m m1 := by
  obtain ⟨a1, a2, a3⟩ := h
  obtain ⟨t, t9, b1, b2⟩ := byte_v p (nI k) k hk (by rcases hk with rfl | rfl | rfl | rfl <;> rfl) (by rcases hk with rfl | rfl | rfl | rfl <;> rfl)
  refine ⟨ui (ui c 1 T (nI t)) 0 1 (nI (T + 1)), ui (ui m 540 T (sgn t)) 500 29 (nI (T + 1)), ?_, ?_, ⟨?_, ?_, fun i hi => ?_⟩, ⟨fun k k0 k1 => by rw [ui_ne k0, ui_ne k1], fun i hi => ?_, rfl⟩, ⟨fun s x s1 s2 => ?_, rfl⟩⟩
  · rw [fX9_putBytes_L3, b1]
    simp (disch := omega) only [lit_nI, nI_lt0, if_false, a1, le_nI, gd_ix, cl_nI, ↓nm_eq, ui_rd, Nat.reduceEqDiff, nI_add]
    rw [if_neg (by omega)]
  · rw [fX10_put_L3, b2]
    simp (disch := omega) only [lit_nI, nI_lt0, if_false, a2, gd_ix, cl_nI, ↓nm_eq, ui_rd, Nat.reduceEqDiff, nI_add]
  · rw [ui_rd, if_pos rfl, if_pos rfl]
  · rw [ui_rd, if_pos rfl, if_pos rfl]
  · simp only [ui_rd, Nat.reduceEqDiff, if_false, if_true]
    by_cases e : i = T
    · rw [if_pos e, if_pos e]
      exact ⟨t, t9, rfl, rfl⟩
    · rw [if_neg e, if_neg e]
      exact a3 i (by omega)
  · rw [ui_rd, if_pos rfl, if_neg hi, ui_rd, if_neg (by omega)]
  · rw [ui_rd]
    by_cases e : s = 500
    · rw [if_pos e, if_neg (by omega), ui_rd, if_neg (by omega)]
    · rw [if_neg e, ui_rd, if_neg s1]
theorem put_v {T : Nat} {p : Int32} {c m : St} (hT : T + 4 ≤ 400) (h : TpR T c m) : ∃ c1 m1, fX9_putBytes p c = some c1 ∧ fX10_put p m = some m1 ∧ TpR (T + 4) c1 m1 ∧ CT c c1 ∧ MT m m1 := by
  obtain ⟨c1, m1, a1, a2, a3, a4, a5⟩ := put1 (n1 := 9999) (n2 := 9999) (p := p) (k := 24) (by omega) (by omega) h
  obtain ⟨c2, m2, b1, b2, b3, b4, b5⟩ := put1 (n1 := 9998) (n2 := 9998) (p := p) (k := 16) (by omega) (by omega) a3
  obtain ⟨c3, m3, d1, d2, d3, d4, d5⟩ := put1 (n1 := 9997) (n2 := 9997) (p := p) (k := 8) (by omega) (by omega) b3
  obtain ⟨c4, m4, e1, e2, e3, e4, e5⟩ := put1 (n1 := 9996) (n2 := 9996) (p := p) (k := 0) (by omega) (by omega) d3
  have z1 : nI 24 + -nI 8 = nI 16 := by decide
  have z2 : nI 16 + -nI 8 = nI 8 := by decide
  have z3 : nI 8 + -nI 8 = nI 0 := by decide
  refine ⟨c4, m4, ?_, ?_, e3, ((a4.tr b4).tr d4).tr e4, ((a5.tr b5).tr d5).tr e5⟩
  · unfold fX9_putBytes
    simp only [lit_nI]
    rw [show (10000 : Nat) = 9999 + 1 by rfl, a1, z1, b1, z2, d1, z3, e1, fX9_putBytes_L3]
    simp only [lit_nI]
    rw [if_pos (by decide)]
  · unfold fX10_put
    simp only [lit_nI]
    rw [show (10000 : Nat) = 9999 + 1 by rfl, a2, z1, b2, z2, d2, z3, e2, fX10_put_L3]
    simp only [lit_nI]
    rw [if_pos (by decide)]
theorem RelP.tape {R H O : Nat} {L : List Nat} {c m c1 m1 : St} (h : RelP R H O L c m) (hc : CT c c1) (hm : MT m m1) (ht : TapeR c1 m1) : RelP R H O L c1 m1 := by
  obtain ⟨-, ⟨z1, z2⟩, ⟨r1, r2, r3, r4, r5, r6⟩, hp, hi, hr, hL⟩ := h
  obtain ⟨a1, a2, a3⟩ := hc
  obtain ⟨b1, b2⟩ := hm
  have hs : ∀ s, s ≠ 540 → s ≠ 500 → m1.1 s = m.1 s := fun s s1 s2 => funext (fun x => b1 s x s1 (by omega))
  have c22 : c1.2.2 = c.2.2 := by rw [a3]
  refine ⟨ht, ⟨?_, ?_⟩, ⟨r1, ?_, ?_, fun r hr' => ⟨?_, ?_⟩, ?_, r6⟩, ?_, fun k hk => ?_, fun k i r e => ?_, ?_⟩
  · rw [b1 500 49 (by omega) (by omega)]
    exact z1
  · rw [b1 500 38 (by omega) (by omega)]
    exact z2
  · rw [a2 6 (by omega)]
    exact r2
  · rw [b1 500 33 (by omega) (by omega)]
    exact r3
  · rw [c22]
    exact (r4 r hr').1
  · refine (r4 r hr').2.cg (fun k h1 h2 => a1 k (by omega) (by omega)) ?_ (fun i _ => ⟨?_, ?_, ?_⟩) (fun j _ => ⟨?_, ?_⟩) <;> rw [hs _ (by omega) (by omega)]
  · rw [c22]
    exact r5
  · refine hp.cg (PC.same (fun k h1 h2 => a1 k (by omega) (by omega))) ⟨b1 500 28 (by omega) (by omega), b1 500 52 (by omega) (by omega), fun s i hi => ?_⟩
    refine b1 s i (fun e => ?_) (fun e => ?_)
    · subst e
      exact absurd hi (Nat.not_lt_zero i)
    · obtain ⟨e, -⟩ := e
      subst e
      exact absurd hi (Nat.not_lt_zero i)
  · rw [c22, hs 560 (by omega) (by omega)]
    rcases hi k hk with q | ⟨q1, q2, q3, H'', O'', q4⟩
    · exact Or.inl q
    · exact Or.inr ⟨q1, q2, q3, H'', O'', q4.cg (PC.same (fun k h1 h2 => a1 k (by omega) (by omega))) (vw_pe hk (fun i _ => by rw [hs 559 (by omega) (by omega)]) (hs 561 (by omega) (by omega)))⟩
  · rw [hs 560 (by omega) (by omega)]
    rw [c22] at e
    exact hr k i r e
  · unfold LOK
    rw [hs 560 (by omega) (by omega)]
    exact hL
theorem sk_0 : Sk_0 Rel := by
  rintro L c m ⟨R, H, O, h⟩ p1 p2 p3 p4 p5
  have hR : Rel L c m := ⟨R, H, O, h⟩
  obtain ⟨T, T4, t1, t2, t3⟩ := h.1
  unfold fX9_feed fX10_feed
  simp (disch := omega) only [lit_nI, t1, t2, nI_add, le_nI]
  by_cases hT : T + 20 ≤ 400
  · rw [if_pos (show T ≤ 380 by omega), if_pos hT]
    obtain ⟨c1, m1, a1, a2, a3, a4, a5⟩ := put_v (p := p1) (T := T) (by omega) ⟨t1, t2, t3⟩
    obtain ⟨c2, m2, b1, b2, b3, b4, b5⟩ := put_v (p := p2) (by omega) a3
    obtain ⟨c3, m3, d1, d2, d3, d4, d5⟩ := put_v (p := p3) (by omega) b3
    obtain ⟨c4, m4, e1, e2, e3, e4, e5⟩ := put_v (p := p4) (by omega) d3
    obtain ⟨c5, m5, f1, f2, f3, f4, f5⟩ := put_v (p := p5) (by omega) e3
    simp only [a1, a2, b1, b2, d1, d2, e1, e2, f1, f2, br_some, f3.1, f3.2.1]
    exact ⟨_, _, _, rfl, rfl, R, H, O, h.tape ((((a4.tr b4).tr d4).tr e4).tr f4) ((((a5.tr b5).tr d5).tr e5).tr f5) ⟨_, by omega, f3⟩⟩
  · rw [if_neg (show ¬ T ≤ 380 by omega), if_neg hT]
    exact ⟨_, c, m, rfl, rfl, hR⟩
theorem sk_1 : Sk_1 Rel := by
  rintro L c m ⟨R, H, O, h⟩ p1
  have hR : Rel L c m := ⟨R, H, O, h⟩
  obtain ⟨T, T4, t1, t2, t3⟩ := h.1
  unfold fX9_end fX10_end
  rw [t1, t2]
  simp only [lit_nI, nm_eq]
  by_cases h0 : p1 < nI 0
  · rw [if_pos h0, if_pos h0]
    exact ⟨_, c, m, rfl, rfl, hR⟩
  · rw [if_neg h0, if_neg h0]
    by_cases h1 : p1 ≤ nI T
    · rw [if_pos h1, if_pos h1]
      obtain ⟨k, hk, ek⟩ : ∃ k, k ≤ T ∧ p1 = nI k := by
        rcases pk_ix p1 (n := T + 1) (by omega) with q | q | ⟨j, j1, j2⟩
        · exact absurd q h0
        · rw [Int32.le_iff_toInt_le] at h1 q
          rw [nI_toInt (by omega)] at h1 q
          omega
        · exact ⟨j, by omega, j2⟩
      subst ek
      refine ⟨_, _, _, rfl, rfl, R, H, O, h.tape ⟨fun j j0 j1 => ui_ne j0, fun i hi => by rw [ui_rd, if_pos rfl, if_neg hi], rfl⟩ ⟨fun s x s1 s2 => ?_, rfl⟩ ⟨k, by omega, by rw [ui_rd, if_pos rfl, if_pos rfl], by rw [ui_rd, if_pos rfl, if_pos rfl], fun i hi => ?_⟩⟩
      · rw [ui_rd]
        by_cases e : s = 500
        · rw [if_pos e, if_neg (by omega)]
        · rw [if_neg e]
      · rw [ui_ne (by omega), ui_ne (by omega)]
        exact t3 i (by omega)
    · rw [if_neg h1, if_neg h1]
      exact ⟨_, c, m, rfl, rfl, hR⟩
