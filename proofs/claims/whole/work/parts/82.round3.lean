/-- the class's search at depth e -/
def DI (H O q n : Nat) (c0 m0 : St) (e p S N : Nat) (c : St) : Prop := CE c0 c ∧ c.1 60 5 = nI n ∧ c.1 60 6 = nI q ∧ c.1 50 3 = m0.1 502 0 ∧ c.1 64 e = nI S ∧ S ≤ 200 * e ∧ N ≤ 1000 + e ∧ c.1 72 38 = m0.1 502 7 ∧ Rch H O q n c0 m0 p e (c.1 (72 + e)) S N ∧ (∀ j, j < e → c.1 65 j = nI (p / H ^ (e - 1 - j) % H)) ∧ p < H ^ e
/-- what the search below depth e leaves -/
def DF (e : Nat) (c c' : St) : Prop := (∀ j, j ≤ e → c'.1 (72 + j) = c.1 (72 + j) ∧ c'.1 64 j = c.1 64 j) ∧ (∀ j, j < e → c'.1 65 j = c.1 65 j) ∧ (∀ i, i < 8 → c'.1 60 i = c.1 60 i) ∧ c'.1 50 = c.1 50 ∧ CE c c'
theorem DF.rf {e : Nat} {c : St} : DF e c c := ⟨fun _ _ => ⟨rfl, rfl⟩, fun _ _ => rfl, fun _ _ => rfl, rfl, CE.rf⟩
theorem DF.tr {e : Nat} {c c1 c2 : St} (h1 : DF e c c1) (h2 : DF e c1 c2) : DF e c c2 := ⟨fun j hj => ⟨(h2.1 j hj).1.trans (h1.1 j hj).1, (h2.1 j hj).2.trans (h1.1 j hj).2⟩, fun j hj => (h2.2.1 j hj).trans (h1.2.1 j hj), fun i hi => (h2.2.2.1 i hi).trans (h1.2.2.1 i hi), h2.2.2.2.1.trans h1.2.2.2.1, h1.2.2.2.2.tr h2.2.2.2.2⟩
theorem DI.df {H O q n e p S N : Nat} {c0 m0 c c' : St} (h : DI H O q n c0 m0 e p S N c) (hd : DF e c c') : DI H O q n c0 m0 e p S N c' := by
  obtain ⟨a1, a2, a3, a4, a5, a6, a7, a8, a9, a10, a11⟩ := h
  obtain ⟨b1, b2, b3, b4, b5⟩ := hd
  refine ⟨a1.tr b5, by rw [b3 5 (by omega)]; exact a2, by rw [b3 6 (by omega)]; exact a3, by rw [b4]; exact a4, by rw [(b1 e (by omega)).2]; exact a5, a6, a7, ?_, by rw [(b1 e (by omega)).1]; exact a9, fun j hj => by rw [b2 j hj]; exact a10 j hj, a11⟩
  have := (b1 0 (by omega)).1
  rw [Nat.add_zero] at this
  rw [this]
  exact a8
theorem path_up {H p i e j : Nat} (hH : 1 ≤ H) (hi : i < H) (hj : j < e) : (p * H + i) / H ^ (e + 1 - 1 - j) % H = p / H ^ (e - 1 - j) % H := by
  have e1 : e + 1 - 1 - j = e - 1 - j + 1 := by omega
  have e2 : (p * H + i) / H = p := by
    rw [Nat.mul_comm, Nat.mul_add_div (by omega), Nat.div_eq_of_lt hi, Nat.add_zero]
  rw [e1, Nat.pow_succ, Nat.mul_comm (H ^ (e - 1 - j)) H, ← Nat.div_div_eq_div_mul, e2]
theorem goOn_v {R H O q n : Nat} {L : List Nat} {c0 m0 mK : St} (hR : RelP R H O L c0 m0) (hH1 : 1 ≤ H) (n4 : n ≤ 4) (hq : q < O) (hsK : SV m0 mK) (hmK : ME m0 mK) : ∀ (k e p S N f : Nat) (c : St), e + k = n → k < f → DI H O q n c0 m0 e p S N c → ∃ c', fX3_goOn f (nI e) c = some c' ∧ DF e c c' ∧ Prog H q n m0 (p * H ^ k) (H ^ k) c c' := by
  obtain ⟨h8, h3, l1, l2, l3, l4⟩ := hR.land
  have hbn := pow_b (n := n) h8 n4
  intro k
  induction k with
  | zero =>
    intro e p S N f c he hf h
    obtain ⟨f, rfl⟩ : ∃ j, f = j + 1 := ⟨f - 1, by omega⟩
    have een : e = n := by omega
    subst een
    obtain ⟨a1, a2, a3, a4, a5, a6, a7, a8, a9, a10, a11⟩ := h
    have ho := a9.leaf n4 (by omega)
    rw [← a8] at ho
    obtain ⟨c', w1, w2, w3, w4, w5, w6, w7⟩ := weigh_c n4 a5
    refine ⟨c', ?_, ⟨fun j hj => ⟨w5 _ (by omega) (by omega), by rw [w5 64 (by omega) (by omega)]⟩, fun j hj => by rw [w5 65 (by omega) (by omega)], w6, w5 50 (by omega) (by omega), ⟨fun k hk => w5 k (by omega) (by omega), fun k _ => by rw [w7], fun i r z => ⟨50, i, by rw [w7] at z; exact z⟩⟩⟩, ?_⟩
    · rw [fX3_goOn]
      unfold fX3_goOn_body
      rw [a2, if_pos (by rw [le_nI (by omega) (by omega)]; omega), w1, br_some]
    · rw [Nat.pow_zero, Nat.mul_one]
      exact Prog.yes hR n4 a11 (by omega) ho a10 w2 w3 w4
  | succ k ih =>
    intro e p S N f c he hf h
    obtain ⟨f, rfl⟩ : ∃ j, f = j + 1 := ⟨f - 1, by omega⟩
    have hHk := Nat.one_le_pow k H (by omega)
    have loop : ∀ (d i kk : Nat) (c : St), i + d = H → d < kk → DI H O q n c0 m0 e p S N c → ∃ c', fX3_goOn_L38 (fX3_goOn f) (nI e) kk (nI i) c = some c' ∧ DF e c c' ∧ Prog H q n m0 ((p * H + i) * H ^ k) (d * H ^ k) c c' := by
      intro d
      induction d with
      | zero =>
        intro i kk c hi hk h
        obtain ⟨kk, rfl⟩ : ∃ j, kk = j + 1 := ⟨kk - 1, by omega⟩
        have hl1 : c.1 134 4 = nI H := by
          rw [h.1.1 134 (by omega)]
          exact l1
        refine ⟨c, ?_, DF.rf, ?_⟩
        · rw [fX3_goOn_L38, hl1, if_pos (by rw [le_nI (by omega) (by omega)]; omega)]
        · rw [Nat.zero_mul]
          exact Prog.ac rfl rfl rfl rfl
      | succ d ihd =>
        intro i kk c hi hk h
        obtain ⟨kk, rfl⟩ : ∃ j, kk = j + 1 := ⟨kk - 1, by omega⟩
        have h0 := h
        obtain ⟨a1, a2, a3, a4, a5, a6, a7, a8, a9, a10, a11⟩ := h
        have hl1 : c.1 134 4 = nI H := by
          rw [a1.1 134 (by omega)]
          exact l1
        -- bounds of codes
        have hpow : H ^ e * (H * H ^ k) = H ^ n := by
          rw [Nat.mul_comm H (H ^ k), ← Nat.pow_succ, ← Nat.pow_add, show e + (k + 1) = n by omega]
        have hpi : p * H + i + 1 ≤ H ^ e * H := by
          have : (p + 1) * H ≤ H ^ e * H := Nat.mul_le_mul_right H a11
          rw [Nat.add_mul, Nat.one_mul] at this
          omega
        have hcode : (p * H + i + 1) * H ^ k ≤ H ^ n := by
          have := Nat.mul_le_mul_right (H ^ k) hpi
          rw [Nat.mul_assoc, hpow] at this
          exact this
        have hcode2 : (p * H + i + 1) * H ^ k = (p * H + i) * H ^ k + H ^ k := by
          rw [Nat.add_mul, Nat.one_mul]
        -- a code of this prefix, to see what the class does
        obtain ⟨m', b1, b2, b3, b4, b5, b6, b7, b8⟩ := a9 (p * H ^ (n - e)) mK (Nat.mul_div_cancel _ (Nat.one_le_pow _ _ (by omega))) (by
          have : p * H ^ (n - e) ≤ H ^ n := by
            have := Nat.mul_le_mul_right (H ^ (n - e)) (Nat.le_of_lt a11)
            rw [← Nat.pow_add, show e + (n - e) = n by omega] at this
            exact this
          omega) hsK hmK
        have lnd : LandR H O c 134 m' := by
          unfold LandR
          rw [a1.1 134 (by omega), a1.1 (134 + 9) (by omega), a1.1 (134 + 10) (by omega), a1.1 (134 + 11) (by omega)]
          exact b2
        obtain ⟨x, x1, x2⟩ := canCall_v lnd b4.1 b4.2.1 hq (show i < H by omega)
        rw [fX3_goOn_L38, hl1, if_neg (by rw [le_nI (by omega) (by omega)]; omega)]
        simp (disch := omega) only [lit_nI, cl_nI, nI_add, Nat.reduceAdd, a3, x1, br_some]
        have hadd : (d + 1) * H ^ k = H ^ k + d * H ^ k := by
          rw [Nat.add_mul, Nat.one_mul, Nat.add_comm]
        rw [hadd]
        by_cases hx : x = nI 0
        · subst hx
          simp only [if_true, nm_eq]
          obtain ⟨c', g1, g2, g3⟩ := ihd (i + 1) kk c (by omega) (by omega) h0
          refine ⟨c', g1, g2, ?_⟩
          have hno : Prog H q n m0 ((p * H + i) * H ^ k) (H ^ k) c c := by
            refine Prog.no hR n4 _ _ (by omega) (fun b bl bh => ?_)
            refine Rch.no a9 a1 hH1 n4 (by omega) hq (show i < H by omega) x1 b (by omega) ?_
            rw [show n - (e + 1) = k by omega]
            exact Nat.div_eq_of_lt_le bl (by omega)
          refine hno.tr ?_
          rw [← hcode2, show p * H + i + 1 = p * H + (i + 1) by omega]
          exact g3
        · rw [if_neg hx]
          obtain ⟨cA, eA⟩ : ∃ s, s = ur c (72 + (e + 1)) (va_cpy (c.1 (72 + e)) (c.1 (72 + (e + 1))) 0 0 41) := ⟨_, rfl⟩
          have fA : ∀ j, j ≠ 72 + (e + 1) → cA.1 j = c.1 j := fun j hj => by rw [eA, ur_ne hj]
          have rA : ∀ j, j < 41 → cA.1 (72 + (e + 1)) j = c.1 (72 + e) j := fun j hj => by rw [eA, ur_eq, pk_cpy_in (by omega) (by omega), show 0 + (j - 0) = j by omega]
          have ceA : CE c cA := ⟨fun j hj => fA j (by omega), fun j _ => by rw [eA]; rfl, fun j r z => ⟨50, j, by rw [eA] at z; exact z⟩⟩
          have hRT : RT (72 + (e + 1)) := Or.inr (Or.inr ⟨by omega, by omega⟩)
          have hnr : NR H O N (72 + (e + 1)) cA m' := by
            refine ⟨?_, ?_, b4.eqv h8 h3 rA (fun _ _ _ => rfl) (fun _ _ => rfl)⟩
            · unfold LandR
              rw [fA 134 (by omega), fA (134 + 9) (by omega), fA (134 + 10) (by omega), fA (134 + 11) (by omega)]
              exact lnd
            · unfold SnowR
              rw [fA 134 (by omega), fA (134 + 12) (by omega), a1.1 134 (by omega), a1.1 (134 + 12) (by omega)]
              exact b3
          obtain ⟨t, c1, mB, g1, g2, g3, g4, g5, g6, k0, k09, ek⟩ := callAt_w hRT.rs hnr (by omega) (by rw [fA 50 (by omega), a4, b6]) hq (show i < H by omega)
          subst ek
          obtain ⟨cD, eD⟩ : ∃ s, s = ui c1 64 (e + 1) (nI (S + k0)) := ⟨_, rfl⟩
          have fD : ∀ j, j ≠ 64 → cD.1 j = c1.1 j := fun j hj => by rw [eD, ui_ne hj]
          have hnr2 : NR H O N (72 + (e + 1)) cD mB := by
            obtain ⟨u1, u2, u3⟩ := g3
            refine ⟨?_, ?_, ?_⟩
            · unfold LandR
              rw [fD 134 (by omega), fD (134 + 9) (by omega), fD (134 + 10) (by omega), fD (134 + 11) (by omega)]
              exact u1
            · unfold SnowR
              rw [fD 134 (by omega), fD (134 + 12) (by omega)]
              exact u2
            · rw [fD _ (by omega)]
              exact u3
          obtain ⟨c2, mC, v1, v2, v3, v4, v5, v6⟩ := burn_w (p2 := nI 0) hRT.rs hnr2 (by omega) (by rw [g5.1 500 49 (by omega) (by omega) (by omega) (by omega) (by omega) (by omega)]; exact b5)
          obtain ⟨c3, e3⟩ : ∃ s, s = ui c2 65 e (nI i) := ⟨_, rfl⟩
          have e64 : cA.1 64 e = nI S := by
            rw [fA 64 (by omega)]
            exact a5
          -- what c3 holds
          have c3k : ∀ j, j ≠ 65 → j ≠ 64 → j ≠ 72 + (e + 1) → c3.1 j = c.1 j := fun j j1 j2 j3 => by rw [e3, ui_ne j1, v4.1 j j3, fD j j2, g4.1 j j3, fA j j3]
          have c364 : ∀ j, j ≠ e + 1 → c3.1 64 j = c.1 64 j := fun j hj => by rw [e3, ui_ne (by omega), v4.1 64 (by omega), eD, row1, if_neg hj, g4.1 64 (by omega), fA 64 (by omega)]
          have c365 : ∀ j, j ≠ e → c3.1 65 j = c.1 65 j := fun j hj => by rw [e3, row1, if_neg hj, v4.1 65 (by omega), fD 65 (by omega), g4.1 65 (by omega), fA 65 (by omega)]
          have ce3 : CE c c3 := by
            refine ⟨fun j hj => c3k j (by omega) (by omega) (by omega), fun j _ => ?_, fun j r z => ?_⟩
            · rw [e3]
              show c2.2.2 j = _
              rw [v4.2, eD]
              show c1.2.2 j = _
              rw [g4.2, eA]
              rfl
            · rw [e3] at z
              have z' : c2.2.2 50 j = some r := z
              rw [v4.2, eD] at z'
              have z2 : c1.2.2 50 j = some r := z'
              rw [g4.2, eA] at z2
              exact ⟨50, j, z2⟩
          have hDI : DI H O q n c0 m0 (e + 1) (p * H + i) (S + k0) (N + 1) c3 := by
            refine ⟨a1.tr ce3, ?_, ?_, ?_, ?_, by omega, by omega, ?_, ?_, fun j hj => ?_, ?_⟩
            · rw [c3k 60 (by omega) (by omega) (by omega)]
              exact a2
            · rw [c3k 60 (by omega) (by omega) (by omega)]
              exact a3
            · rw [c3k 50 (by omega) (by omega) (by omega)]
              exact a4
            · rw [e3, ui_ne (by omega), v4.1 64 (by omega), eD, row1, if_pos rfl]
            · rw [c3k 72 (by omega) (by omega) (by omega)]
              exact a8
            · have er : c3.1 (72 + (e + 1)) = c2.1 (72 + (e + 1)) := by rw [e3, ui_ne (by omega)]
              rw [er]
              exact Rch.yes a9 a1 (a1.tr ceA) (by rw [fA 50 (by omega)]; exact a4) rA hRT hH1 n4 (by omega) hq (show i < H by omega) (by omega) x1 hx g1 cD fD (by rw [eD]; rfl) v1
            · by_cases ej : j = e
              · subst ej
                rw [e3, row1, if_pos rfl, show j + 1 - 1 - j = 0 by omega, Nat.pow_zero, Nat.div_one, Nat.mul_comm, Nat.mul_add_mod, Nat.mod_eq_of_lt (show i < H by omega)]
              · rw [c365 j ej, path_up hH1 (show i < H by omega) (show j < e by omega)]
                exact a10 j (by omega)
            · rw [Nat.pow_succ]
              omega
          obtain ⟨c4, r1, r2, r3⟩ := ih (e + 1) (p * H + i) (S + k0) (N + 1) f c3 (by omega) (by omega) hDI
          have hDF : DF e c c4 := by
            obtain ⟨s1, s2, s3, s4, s5⟩ := r2
            refine ⟨fun j hj => ⟨?_, ?_⟩, fun j hj => ?_, fun j hj => ?_, ?_, ce3.tr s5⟩
            · rw [(s1 j (by omega)).1, c3k _ (by omega) (by omega) (by omega)]
            · rw [(s1 j (by omega)).2, c364 j (by omega)]
            · rw [s2 j (by omega), c365 j (by omega)]
            · rw [s3 j hj, c3k 60 (by omega) (by omega) (by omega)]
            · rw [s4, c3k 50 (by omega) (by omega) (by omega)]
          obtain ⟨c5, t1, t2, t3⟩ := ihd (i + 1) kk c4 (by omega) (by omega) (h0.df hDF)
          refine ⟨c5, ?_, hDF.tr t2, ?_⟩
          · have eA60 : cA.1 60 6 = nI q := by
              rw [fA 60 (by omega)]
              exact a3
            rw [nm_eq, ← eA, gd_ix (by omega) (by omega), eA60, g1, bw_some, gd_ix (by omega) (by omega), nm_eq, e64, nI_add, ← eD, v1, br_some, gd_ix (by omega) (by omega), nm_eq, ← e3, r1, br_some, nm_eq]
            exact t1
          · have p0 : Prog H q n m0 ((p * H + i) * H ^ k) 0 c c3 := Prog.ac (by rw [c3k 60 (by omega) (by omega) (by omega)]) (by rw [c3k 60 (by omega) (by omega) (by omega)]) (by rw [c3k 60 (by omega) (by omega) (by omega)]) (c3k 68 (by omega) (by omega) (by omega))
            have p1 := p0.tr (by rw [Nat.add_zero]; exact r3)
            rw [Nat.zero_add] at p1
            refine p1.tr ?_
            rw [← hcode2, show p * H + i + 1 = p * H + (i + 1) by omega]
            exact t3
    obtain ⟨c', g1, g2, g3⟩ := loop H 0 10000 c (by omega) (by omega) h
    refine ⟨c', ?_, g2, ?_⟩
    · rw [fX3_goOn]
      unfold fX3_goOn_body
      rw [h.2.1]
      simp (disch := omega) only [lit_nI, le_nI, lt_nI, gd_ix, nI_add]
      rw [if_neg (by omega), if_pos (by omega)]
      exact g1
    · rw [Nat.add_zero, Nat.mul_assoc] at g3
      rw [Nat.pow_succ, Nat.mul_comm (H ^ k) H]
      exact g3
/-- the search of the class, and the reference's ways through all codes -/
theorem explore_v {R H O q n : Nat} {L : List Nat} {c m mK : St} (h : RelP R H O L c m) (n1 : 1 ≤ n) (n4 : n ≤ 4) (hq : q < O) (hsK : SV m mK) (hmK : ME m mK) : ∃ c1, fX3_explore 122 41 (nI q) (nI n) c = some c1 ∧ CE c c1 ∧ (∀ p3 j, ∃ y4 y5 m1, fX10_round_L52 (nI q) (nI n) p3 (j + H ^ n) (-nI 2) (-nI 2) (nI 0) mK = fX10_round_L52 (nI q) (nI n) p3 j y4 y5 (nI (H ^ n)) m1 ∧ Rd H n c1 y4 y5 ∧ SV m m1 ∧ ME m m1) ∧ (∀ p3 j, ∃ y4 y5 m1, fX10_span_L47 (nI q) (nI n) p3 (j + H ^ n) (-nI 2) (-nI 2) (nI 0) mK = fX10_span_L47 (nI q) (nI n) p3 j y4 y5 (nI (H ^ n)) m1 ∧ Sn c1 y4 y5 ∧ SV m m1 ∧ ME m m1) := by
  obtain ⟨h8, h3, l1, l2, l3, l4⟩ := h.land
  obtain ⟨N, N9, d1, d2, d3⟩ := h.nr
  have d3' : RowOK H O N (c.1 122) m := d3
  have hH1 : 1 ≤ H := by
    obtain ⟨k, hk, -⟩ := d3'.2.1.2 q hq
    omega
  obtain ⟨s3, e3⟩ : ∃ s, s = ur c 72 (va_cpy (c.1 122) (c.1 72) 0 0 41) := ⟨_, rfl⟩
  obtain ⟨s5, e5⟩ : ∃ s, s = ui s3 64 0 (nI 0) := ⟨_, rfl⟩
  obtain ⟨s6, e6⟩ : ∃ s, s = ui s5 60 5 (nI n) := ⟨_, rfl⟩
  obtain ⟨s7, e7⟩ : ∃ s, s = ui s6 60 6 (nI q) := ⟨_, rfl⟩
  obtain ⟨s8, e8⟩ : ∃ s, s = ui s7 60 8 (-nI 1) := ⟨_, rfl⟩
  obtain ⟨s9, e9⟩ : ∃ s, s = ui s8 60 9 (-nI 1) := ⟨_, rfl⟩
  obtain ⟨s10, e10⟩ : ∃ s, s = ui s9 60 10 (-nI 1) := ⟨_, rfl⟩
  obtain ⟨s12, e12⟩ : ∃ s, s = ui (uq s10 50 2 none) 50 3 (s10.1 134 1) := ⟨_, rfl⟩
  have f10 : ∀ k, k ≠ 72 → k ≠ 64 → k ≠ 60 → s10.1 k = c.1 k := fun k k1 k2 k3 => by rw [e10, ui_ne k3, e9, ui_ne k3, e8, ui_ne k3, e7, ui_ne k3, e6, ui_ne k3, e5, ui_ne k2, e3, ur_ne k1]
  have f12 : ∀ k, k ≠ 50 → s12.1 k = s10.1 k := fun k hk => by rw [e12, ui_ne hk]; rfl
  have f : ∀ k, k ≠ 50 → k ≠ 72 → k ≠ 64 → k ≠ 60 → s12.1 k = c.1 k := fun k k0 k1 k2 k3 => by rw [f12 k k0, f10 k k1 k2 k3]
  have r72 : ∀ i, i < 41 → s12.1 72 i = c.1 122 i := fun i hi => by rw [f12 72 (by omega), e10, ui_ne (by omega), e9, ui_ne (by omega), e8, ui_ne (by omega), e7, ui_ne (by omega), e6, ui_ne (by omega), e5, ui_ne (by omega), e3, ur_eq, pk_cpy_in (by omega) (by omega), show 0 + (i - 0) = i by omega]
  have r60 : ∀ i, i ≠ 8 → i ≠ 9 → i ≠ 10 → s12.1 60 i = s7.1 60 i := fun i i1 i2 i3 => by rw [f12 60 (by omega), e10, row1, if_neg i3, e9, row1, if_neg i2, e8, row1, if_neg i1]
  have ce : CE c s12 := by
    refine ⟨fun k hk => f k (by omega) (by omega) (by omega) (by omega), fun k hk => ?_, fun i r z => ?_⟩
    · rw [e12]
      show (uq s10 50 2 none).2.2 k = _
      funext i
      rw [uq_rd, if_neg hk, e10, e9, e8, e7, e6, e5, e3]
      rfl
    · rw [e12] at z
      have z' : (uq s10 50 2 none).2.2 50 i = some r := z
      rw [uq_rd, if_pos rfl] at z'
      by_cases hi : i = 2
      · rw [if_pos hi] at z'
        exact nomatch z'
      · rw [if_neg hi, e10, e9, e8, e7, e6, e5, e3] at z'
        exact ⟨50, i, z'⟩
  have hDI : DI H O q n c m 0 0 0 N s12 := by
    refine ⟨ce, ?_, ?_, ?_, ?_, by omega, by omega, ?_, Rch.init h n1 n4 d3' r72, fun j hj => by omega, by rw [Nat.pow_zero]; omega⟩
    · rw [r60 5 (by omega) (by omega) (by omega), e7, row1, if_neg (by omega), e6, row1, if_pos rfl]
    · rw [r60 6 (by omega) (by omega) (by omega), e7, row1, if_pos rfl]
    · rw [e12, row1, if_pos rfl, f10 134 (by omega) (by omega) (by omega)]
      exact h.2.2.2.1.1.2.1
    · rw [f12 64 (by omega), e10, ui_ne (by omega), e9, ui_ne (by omega), e8, ui_ne (by omega), e7, ui_ne (by omega), e6, ui_ne (by omega), e5, row1, if_pos rfl]
    · rw [r72 38 (by omega)]
      exact d3'.1.2.2.1
  obtain ⟨c1, g1, g2, g3⟩ := goOn_v h hH1 n4 hq hsK hmK n 0 0 0 N 6 s12 (by omega) (by omega) hDI
  rw [Nat.zero_mul] at g3
  have a8 : s12.1 60 8 = -nI 1 := by rw [f12 60 (by omega), e10, row1, if_neg (by omega), e9, row1, if_neg (by omega), e8, row1, if_pos rfl]
  have a9 : s12.1 60 9 = -nI 1 := by rw [f12 60 (by omega), e10, row1, if_neg (by omega), e9, row1, if_pos rfl]
  have a10 : s12.1 60 10 = -nI 1 := by rw [f12 60 (by omega), e10, row1, if_pos rfl]
  refine ⟨c1, ?_, ce.tr g2.2.2.2.2, fun p3 j => ?_, fun p3 j => ?_⟩
  · unfold fX3_explore fX8_follow
    have hcp : cpk (nI 0) (nI 0) (nI 41) 41 41 = true := cpk_n (by omega) (by omega) (by omega) (by omega)
    have c0 : (nI 0).toNatClampNeg = 0 := cl_nI (by omega)
    have c41 : (nI 41).toNatClampNeg = 41 := cl_nI (by omega)
    simp only [lit_nI, hcp, gd_tt, c0, c41, Nat.reduceAdd]
    rw [gd_ix (by omega) (by omega), nm_eq, ← e3, nm_eq, ← e5, nm_eq, ← e6, nm_eq, ← e7, nm_eq, ← e8, nm_eq, ← e9, nm_eq, ← e10, nm_eq]
    have e12' : ui (uq s10 50 2 none) 50 3 ((uq s10 50 2 none).1 134 1) = s12 := e12.symm
    rw [e12', nm_eq, br_some, g1, br_some]
  · obtain ⟨y4, y5, m1, z1, z2, z3, z4⟩ := g3.1 p3 (-nI 2) (-nI 2) mK j (Or.inl ⟨a8, rfl, rfl⟩) hsK hmK
    rw [Nat.zero_add] at z1
    exact ⟨y4, y5, m1, z1, z2, z3, z4⟩
  · obtain ⟨y4, y5, m1, z1, z2, z3, z4⟩ := g3.2 p3 (-nI 2) (-nI 2) mK j (Or.inl ⟨a9, a10, rfl, rfl⟩) hsK hmK
    rw [Nat.zero_add] at z1
    exact ⟨y4, y5, m1, z1, z2, z3, z4⟩
