theorem cap_le {a : Nat} (ha : a ≤ 100000) : (if nI a ≤ nI 999 then nI a else nI 999) = nI (min a 999) := by
  by_cases h : a ≤ 999
  · rw [if_pos (by rw [le_nI (by omega) (by omega)]; exact h), Nat.min_eq_left h]
  · rw [if_neg (by rw [le_nI (by omega) (by omega)]; exact h), Nat.min_eq_right (by omega)]
theorem held_v {a : Nat} (ha : a ≤ 100000) : fX10_held (nI a) = some (nI (min a 999)) := by
  unfold fX10_held
  rw [← cap_le ha]
  simp only [lit_nI]
  split <;> rfl
theorem sk_11 : Sk_11 Rel := by
  rintro L c m ⟨R, H, O, h⟩ p1
  have hR : Rel L c m := ⟨R, H, O, h⟩
  obtain ⟨h8, h3, l1, l2, l3, l4⟩ := h.land
  obtain ⟨N, N9, hland, -, hrow⟩ := h.nr
  unfold fX9_lift fX10_lift
  rcases isOfficer_v h3 l3 l4 p1 with ⟨q, hq, rfl, e1, e2⟩ | ⟨e1, e2⟩
  · obtain ⟨e, s, es, s9, ee, ess⟩ := hrow.2.2.2.1.2.1 q hq
    obtain ⟨g1, g2⟩ := hrow.1.2.1 q hq
    obtain ⟨k, hk, ek⟩ := hrow.2.1.2 q hq
    obtain ⟨⟨w, w9, ew⟩, -⟩ := hrow.2.2.1 k hk
    obtain ⟨⟨v, v9, ev⟩, -⟩ := hrow.2.2.2.1.1 k hk
    obtain ⟨g3, -, g4, -⟩ := hrow.1.1 k hk
    have hst : c.1 145 q = m.1 510 q := hland.2.2.2.2.2.2.2.2.2.2 q hq
    rw [ee] at g2
    rw [ek] at g1
    rw [ew] at g3
    rw [ev] at g4
    rw [ess] at hst
    have hh : fX9_isHouse c (nI k) = some (nI 1) := by
      unfold fX9_isHouse
      simp (disch := omega) only [lit_nI, l1, lt_nI, le_nI]
      rw [if_neg (by omega), if_neg (by omega)]
    simp (disch := omega) only [e1, e2, br_some, lit_nI, n10, if_false, nI_add, Nat.zero_add, gd_ix, cl_nI, ↓nm_eq, g1, ek, hh, g4, ev, le_nI, eq_nI]
    by_cases hl : v = 0
    · rw [if_neg (show ¬ 1 ≤ v by omega), if_pos hl]
      exact ⟨_, c, m, rfl, rfl, hR⟩
    · rw [if_pos (show 1 ≤ v by omega), if_neg hl]
      obtain ⟨c1, m1, a1, a2, a3, a4, a5, a6, a7, a8⟩ := remember_v h
      obtain ⟨N', N9', -, -, hrow'⟩ := a3.nr
      have c35 : c1.1 122 (35 + q) = nI e := by rw [a5 122 (by omega) (by omega)]; exact g2
      have c0 : c1.1 122 k = nI w := by rw [a5 122 (by omega) (by omega)]; exact g3
      have c16 : c1.1 122 (16 + k) = nI v := by rw [a5 122 (by omega) (by omega)]; exact g4
      have c145 : c1.1 145 q = nI s := by rw [a5 145 (by omega) (by omega)]; exact hst
      have m9 : m1.1 509 q = nI k := by rw [a7 509 q (by omega) (by omega)]; exact ek
      have m11 : m1.1 511 q = nI e := by rw [a7 511 q (by omega) (by omega)]; exact ee
      have m10 : m1.1 510 q = nI s := by rw [a7 510 q (by omega) (by omega)]; exact ess
      have m3 : m1.1 503 k = nI w := by rw [a7 503 k (by omega) (by omega)]; exact ew
      have m6 : m1.1 506 k = nI v := by rw [a7 506 k (by omega) (by omega)]; exact ev
      have hroom : fX8_room 122 41 c1 (nI q) = some (nI (s - e)) := by
        unfold fX8_room
        simp (disch := omega) only [lit_nI, nI_add, cl_nI, gd_ix, c145, c35, pk_sub]
      have hne : ¬ k = 35 + q := by omega
      have hne2 : ¬ 16 + k = k := by omega
      have hne3 : ¬ 16 + k = 35 + q := by omega
      obtain ⟨t, et⟩ : ∃ t, t = min (v / 2) (s - e) := ⟨_, rfl⟩
      have key : ∀ t, t ≤ v / 2 → t ≤ s - e → fX10_lift_B73 (nI q) (nI k) (nI t) m1 = some (nI t, ui (ui (ui m1 511 q (nI (e + t))) 503 k (nI (min (w + v - t) 999))) 506 k (nI 0)) := by
        intro t t1 t2
        unfold fX10_lift_B73
        simp (disch := omega) only [lit_nI, gd_ix, cl_nI, ↓nm_eq, m11, nI_add, ui_rd, Nat.reduceEqDiff, if_false, m3, m6, pk_sub, held_v, br_some]
      have kc : (if nI (s - e) < nI (v / 2) then nI (s - e) else nI (v / 2)) = nI t := by
        rw [et]
        by_cases q1 : s - e < v / 2
        · rw [if_pos (by rw [lt_nI (by omega) (by omega)]; exact q1), Nat.min_eq_right (by omega)]
        · rw [if_neg (by rw [lt_nI (by omega) (by omega)]; exact q1), Nat.min_eq_left (by omega)]
      have km : (if s - e ≤ v / 2 then fX10_lift_B73 (nI q) (nI k) (nI (s - e)) m1 else fX10_lift_B73 (nI q) (nI k) (nI (v / 2)) m1) = some (nI t, ui (ui (ui m1 511 q (nI (e + t))) 503 k (nI (min (w + v - t) 999))) 506 k (nI 0)) := by
        rw [et]
        by_cases q1 : s - e ≤ v / 2
        · rw [if_pos q1, Nat.min_eq_right q1]
          exact key _ q1 (by omega)
        · rw [if_neg q1, Nat.min_eq_left (by omega)]
          exact key _ (by omega) (by omega)
      simp (disch := omega) only [a1, a2, br_some, ↓nm_eq, c16, hroom, m9, m10, m11, m6, pk_sub, pk_div, gd_ix, cl_nI, le_nI, kc, km, c35, nI_add, ui_rd, if_true, if_false, hne, c0, cap_lt, Nat.zero_add]
      have r1 := RowOK.has (v := e + t) (s := s) hq (by omega) s9 m10 h8 h3 hrow' (row1 (c := c1) (a := 122) (i := 35 + q) (v := nI (e + t)))
      have r2 := RowOK.warm (v := min (w + v - t) 999) hk (by omega) h8 h3 r1 (row1 (a := 122) (i := k) (v := nI (min (w + v - t) 999)))
      have r3 := RowOK.hid (v := 0) hk (by omega) h8 h3 r2 (row1 (a := 122) (i := 16 + k) (v := nI 0))
      exact ⟨_, _, _, rfl, rfl, R, H, O, a3.one N9' (fun k hk => by rw [ui_ne hk, ui_ne hk, ui_ne hk]) rfl (((MR.ui (by omega)).tr (MR.ui (by omega))).tr (MR.ui (by omega))) r3⟩
  · simp only [e1, e2, br_some, lit_nI, if_true]
    exact ⟨_, c, m, rfl, rfl, hR⟩
theorem sk_7 : Sk_7 Rel := by
  rintro L c m ⟨R, H, O, h⟩
  have hR : Rel L c m := ⟨R, H, O, h⟩
  obtain ⟨N, N9, -, -, hrow⟩ := h.nr
  have ht : c.1 134 0 = m.1 500 28 := h.2.2.2.1.1.1
  have e39 : c.1 122 39 = m.1 502 6 := hrow.1.2.2.2.1
  have eN : m.1 502 6 = nI N := hrow.2.2.2.2
  unfold fX9_night fX10_night
  rw [ht, e39, eN]
  simp (disch := omega) only [lit_nI, lt_nI, eq_nI]
  by_cases h0 : m.1 500 28 = nI 0
  · rw [if_pos h0, if_pos h0]
    exact ⟨_, c, m, rfl, rfl, hR⟩
  · rw [if_neg h0, if_neg h0]
    by_cases hl : N < 999
    · rw [if_pos hl, if_neg (by omega)]
      obtain ⟨c1, m1, a1, a2, a3, a4, a5, a6, a7, a8⟩ := remember_v h
      have hp := a3.2.2.2.1
      obtain ⟨-, -, -, -, -, -, -, ⟨a13, a14⟩, -⟩ := hp
      obtain ⟨o, c2, b1, b2, b3, b4, b5, b6⟩ := follow_v a3 (m1.1 502 11) a14 (a := 122) (Or.inl rfl)
      obtain ⟨N', N9', d1, d2, d3⟩ := a3.nr
      have eN' : N' = N := by
        have q := d3.2.2.2.2
        rw [a7 502 6 (by omega) (by omega), eN, eq_nI (by omega) (by omega)] at q
        exact q.symm
      subst eN'
      have hn : NR H O N' 122 c2 m1 := by
        refine ⟨?_, ?_, ?_⟩
        · unfold LandR
          rw [b5 134 (by omega), b5 (134 + 9) (by omega), b5 (134 + 10) (by omega), b5 (134 + 11) (by omega)]
          exact d1
        · unfold SnowR
          rw [b5 134 (by omega), b5 (134 + 12) (by omega)]
          exact d2
        · rw [b5 122 (by omega)]
          exact d3
      obtain ⟨x, c3, m3, f1, f2, f3, f4, f5, f6⟩ := pass_v (Or.inl rfl) (by omega) hn b3 (b4 m1 rfl (fun _ _ _ => rfl)) a3.2.1.1
      rw [a1, a2, br_some, br_some, a13, b1, br_some, b2, br_some, f1, f2, bw_some, bw_some]
      refine ⟨_, _, _, rfl, rfl, R, H, O, a3.now (N := N' + 1) (b6.cp.tr (CP.of (fun k hk => f4.1 k (by omega)) f4.2)) (fun k k1 k2 k3 => ?_) f5.mr (by omega) f3.2.2⟩
      rw [f4.1 k k3, b5 k (by omega)]
    · rw [if_neg hl, if_pos (by omega)]
      exact ⟨_, c, m, rfl, rfl, hR⟩
/-- lending, on any row -/
theorem lend_v {H O N a h t k w : Nat} {c m : St} (hH : H ≤ 8) (hO : O ≤ 3) (hr : RowOK H O N (c.1 a) m) (hh : h < H) (ht : t < H) (ew : m.1 503 h = nI w) (w9 : w ≤ 999) (hk : k ≤ w) : ∃ c1 m1 w', fX9_moveWarmth a 41 (nI h) (nI t) (nI k) c = some c1 ∧ w' ≤ 999 ∧ c1.1 a t = nI w' ∧ m1.1 503 t = nI w' ∧ RowOK H O N (c1.1 a) m1 ∧ (∀ j, j ≠ a → c1.1 j = c.1 j) ∧ c1.2 = c.2 ∧ (∀ s, s ≠ 503 → m1.1 s = m.1 s) ∧ m1.2 = m.2 ∧ fX10_lends (nI h) (nI t) (nI k) m = br (fX10_isFrozen m1 (nI t)) (fun x => if x = nI 0 then some m1 else if nI w' < m1.1 502 2 then some m1 else some (ui m1 502 7 (m1.1 502 7 &&& ((nI 1 <<< (nI t &&& nI 31)) ^^^ -nI 1)))) := by
  have r1 := RowOK.warm (v := w - k) hh (by omega) hH hO hr (row1 (c := c) (a := a) (i := h) (v := nI (w - k)))
  obtain ⟨⟨u, u9, eu⟩, -⟩ := r1.2.2.1 t ht
  have cu : (ui c a h (nI (w - k))).1 a t = nI u := by rw [(r1.1.1 t ht).1]; exact eu
  have ch : c.1 a h = nI w := by rw [(hr.1.1 h hh).1]; exact ew
  have r2 := RowOK.warm (v := min (u + k) 999) ht (by omega) hH hO r1 (row1 (a := a) (i := t) (v := nI (min (u + k) 999)))
  refine ⟨ui (ui c a h (nI (w - k))) a t (nI (min (u + k) 999)), ui (ui m 503 h (nI (w - k))) 503 t (nI (min (u + k) 999)), min (u + k) 999, ?_, by omega, ?_, ?_, r2, fun j hj => by rw [ui_ne hj, ui_ne hj], rfl, fun s hs => by rw [ui_ne hs, ui_ne hs], rfl, ?_⟩
  · unfold fX9_moveWarmth
    simp (disch := omega) only [lit_nI, nI_add, Nat.zero_add, gd_ix, cl_nI, ↓nm_eq, ch, pk_sub, cu, cap_lt]
  · rw [ui_rd, if_pos rfl, if_pos rfl]
  · rw [ui_rd, if_pos rfl, if_pos rfl]
  · unfold fX10_lends
    simp (disch := omega) only [lit_nI, gd_ix, cl_nI, ↓nm_eq, ew, pk_sub, eu, nI_add, held_v, br_some]
    congr 1
    funext x
    congr 1
    rw [ui_rd, if_pos rfl, if_pos rfl]
theorem beside_v {R H O : Nat} {L : List Nat} {c m : St} (h : RelP R H O L c m) (p1 p2 : Int32) : (∃ a b, a < H ∧ b < H ∧ p1 = nI a ∧ p2 = nI b ∧ fX9_areBeside c p1 p2 = some (nI 1) ∧ fX10_isHouse m p1 = some (nI 1) ∧ fX10_isHouse m p2 = some (nI 1) ∧ fX10_has (m.1 507 a) p2 = some (nI 1)) ∨ (fX9_areBeside c p1 p2 = some (nI 0) ∧ (fX10_isHouse m p1 = some (nI 0) ∨ (fX10_isHouse m p1 = some (nI 1) ∧ fX10_isHouse m p2 = some (nI 0)) ∨ ∃ a b, a < H ∧ b < H ∧ p1 = nI a ∧ p2 = nI b ∧ fX10_isHouse m p1 = some (nI 1) ∧ fX10_isHouse m p2 = some (nI 1) ∧ fX10_has (m.1 507 a) p2 = some (nI 0))) := by
  obtain ⟨h8, h3, l1, l2, l3, l4⟩ := h.land
  obtain ⟨N, N9, hland, -, hrow⟩ := h.nr
  unfold fX9_areBeside
  rcases isHouse_v h8 l1 l2 p1 with ⟨a, ha, rfl, e1, e2⟩ | ⟨e1, e2⟩
  · rcases isHouse_v h8 l1 l2 p2 with ⟨b, hb, rfl, e3, e4⟩ | ⟨e3, e4⟩
    · have g : c.1 144 a = m.1 507 a := (hland.2.2.2.2.2.2.2.2.2.1 a ha).2
      have hv := has_v (m.1 507 a) (nI b)
      simp only [lit_nI] at hv
      simp (disch := omega) only [e1, e3, br_some, lit_nI, n10, if_false, gd_ix, cl_nI, g]
      rcases and1n (m.1 507 a >>> (nI b &&& nI 31)) with f | f
      · refine Or.inr ⟨by rw [f, if_pos rfl], Or.inr (Or.inr ⟨a, b, ha, hb, rfl, rfl, e2, e4, by rw [hv, f, if_neg (by decide)]⟩)⟩
      · refine Or.inl ⟨a, b, ha, hb, rfl, rfl, by rw [f, if_neg (by decide)], e2, e4, by rw [hv, f, if_pos rfl]⟩
    · refine Or.inr ⟨?_, Or.inr (Or.inl ⟨e2, e4⟩)⟩
      simp only [e1, e3, br_some, lit_nI, n10, if_false, if_true]
  · refine Or.inr ⟨?_, Or.inl e2⟩
    simp only [e1, br_some, lit_nI, if_true]
theorem sk_9 : Sk_9 Rel := by
  rintro L c m ⟨R, H, O, h⟩ p1 p2 p3
  have hR : Rel L c m := ⟨R, H, O, h⟩
  obtain ⟨h8, h3, l1, l2, l3, l4⟩ := h.land
  obtain ⟨N, N9, hland, -, hrow⟩ := h.nr
  unfold fX9_lend fX10_lend
  rcases beside_v h p1 p2 with ⟨a, b, ha, hb, rfl, rfl, e1, e2, e3, e4⟩ | ⟨e1, e2⟩
  · obtain ⟨x, x1, x2, x3⟩ := frozen_v hrow.1.2.2.1 (nI a)
    rcases x3 with ⟨rfl, -⟩ | ⟨rfl, -⟩
    · obtain ⟨⟨w, w9, ew⟩, -⟩ := hrow.2.2.1 a ha
      obtain ⟨g1, -⟩ := hrow.1.1 a ha
      rw [ew] at g1
      have hB : (Int32.toInt64 (nI w)).toInt = (w : Int) := by
        rw [t64]
        exact nI_toInt (by omega)
      rcases in_v p3 1 w (A := 1) (B := Int32.toInt64 (nI w)) rfl hB (by omega) (by omega) with ⟨q, q1, q2, eq, q3, q4, q5, q6⟩ | ⟨q1, q2⟩
      · simp (disch := omega) only [e1, e2, e3, e4, br_some, lit_nI, n10, if_false, if_true, x1, x2, nI_add, Nat.zero_add, gd_ix, cl_nI, g1, ew, q3, q4, q6]
        subst eq
        obtain ⟨c1, m1, a1, a2, a3, a4, a5, a6, a7, a8⟩ := remember_v h
        obtain ⟨N', N9', d1, -, hrow'⟩ := a3.nr
        obtain ⟨c2, m2, w', f1, f2, f3, f4, f5, f6, f7, f8, f9, f10⟩ := lend_v (k := q) h8 h3 hrow' ha hb (by rw [a7 503 a (by omega) (by omega)]; exact ew) w9 q2
        have efz : c2.1 134 3 = m2.1 502 2 := by
          rw [f6 134 (by omega), f8 502 (by omega)]
          exact d1.2.2.2.1
        obtain ⟨fz, fz9, ef⟩ := f5.2.2.2.1.2.2.1
        have ef2 : c2.1 122 38 = nI fz := by rw [f5.1.2.2.1]; exact ef
        obtain ⟨k1, k2⟩ := clr_v fz fz9 b (by omega)
        have bv := bit_v fz fz9 b (by omega)
        have hmr : MR m1 m2 := fun k i h1 _ _ _ _ _ _ => by rw [f8 k h1]
        rw [a1, a2, br_some, br_some, f1, br_some, f10, isFrozen_v]
        unfold fX9_lend_B88 fX9_lend_B113
        simp (disch := omega) only [lit_nI, gd_ix, cl_nI, nI_add, Nat.zero_add, f3, efz, n10, if_true, if_false, br_some, nm_eq, ef, ef2, k1, bv]
        have same : RelP R H O L c2 m2 := a3.one N9' f6 (by rw [f7]) hmr f5
        have clrd : RelP R H O L (ui c2 122 38 (nI (clr fz b))) (ui m2 502 7 (nI (clr fz b))) := same.one N9' (fun k hk => ui_ne hk) rfl (MR.ui (by omega)) (RowOK.frz k2 h8 h3 f5 row1)
        have hb38 : ¬ b = 38 := by omega
        by_cases hw : nI w' < m2.1 502 2
        · simp only [if_pos hw, f3]
          have hm2 : (if (if nI (fz / 2 ^ b % 2) = nI 1 then nI 1 else nI 0) = nI 0 then some m2 else some m2) = some m2 := by
            split <;> rfl
          rw [hm2, br_some]
          simp only [f4]
          exact ⟨_, _, _, rfl, rfl, R, H, O, same⟩
        · simp only [if_neg hw, ui_rd, if_true, hb38, if_false, f3]
          rcases (show fz / 2 ^ b % 2 = 0 ∨ fz / 2 ^ b % 2 = 1 by omega) with z | z
          · have hcl : clr fz b = fz := by
              unfold clr
              rw [if_neg (by omega)]
            simp only [z, n01, if_false, if_true, br_some, f4]
            rw [hcl] at clrd ⊢
            refine ⟨_, _, _, rfl, rfl, R, H, O, ?_⟩
            refine same.one N9' (fun k hk => ui_ne hk) rfl (fun _ _ _ _ _ _ _ _ _ => rfl) ?_
            refine f5.cg h8 h3 (fun i hi => ?_) (fun _ _ => ⟨rfl, rfl, rfl, rfl⟩) (fun _ _ => ⟨rfl, rfl⟩) (fun _ _ _ => rfl) (fun _ _ => ⟨rfl, rfl⟩) (fun _ _ => rfl) rfl rfl
            rw [ui_rd, if_pos rfl]
            by_cases hi8 : i = 38
            · rw [if_pos hi8, hi8]
              exact ef2.symm
            · rw [if_neg hi8]
          · simp only [z, if_true, n10, if_false, br_some, ui_rd, Nat.reduceEqDiff, f4]
            exact ⟨_, _, _, rfl, rfl, R, H, O, clrd⟩
      · simp (disch := omega) only [e1, e2, e3, e4, br_some, lit_nI, n10, if_false, if_true, x1, x2, nI_add, Nat.zero_add, gd_ix, cl_nI, g1, ew, q1]
        rcases q2 with q | ⟨q1, q2, q3⟩
        · rw [if_pos q]
          exact ⟨_, c, m, rfl, rfl, hR⟩
        · rw [if_neg q1, if_neg q3]
          exact ⟨_, c, m, rfl, rfl, hR⟩
    · simp only [e1, e2, e3, br_some, lit_nI, n10, if_false, x1, x2]
      exact ⟨_, c, m, rfl, rfl, hR⟩
  · rcases e2 with e2 | ⟨e2, e3⟩ | ⟨a, b, ha, hb, rfl, rfl, e2, e3, e4⟩
    · simp only [e1, e2, br_some, lit_nI, if_true]
      exact ⟨_, c, m, rfl, rfl, hR⟩
    · simp only [e1, e2, e3, br_some, lit_nI, n10, if_true, if_false]
      exact ⟨_, c, m, rfl, rfl, hR⟩
    · obtain ⟨x, x1, x2, x3⟩ := frozen_v hrow.1.2.2.1 (nI a)
      rcases x3 with ⟨rfl, -⟩ | ⟨rfl, -⟩
      · simp (disch := omega) only [e1, e2, e3, e4, br_some, lit_nI, n10, if_true, if_false, x2, gd_ix, cl_nI]
        exact ⟨_, c, m, rfl, rfl, hR⟩
      · simp only [e1, e2, e3, br_some, lit_nI, n10, if_true, if_false, x2]
        exact ⟨_, c, m, rfl, rfl, hR⟩
