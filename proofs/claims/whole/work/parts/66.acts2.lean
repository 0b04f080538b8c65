/-! acts -/
/-- a bit cleared -/
def clr (f t : Nat) : Nat := if f / 2 ^ t % 2 = 1 then f - 2 ^ t else f
theorem clr_v : ∀ f, f < 256 → ∀ t, t < 8 → nI f &&& ((nI 1 <<< (nI t &&& nI 31)) ^^^ -nI 1) = nI (clr f t) ∧ clr f t < 256 := by
  decide +kernel
theorem bit_v : ∀ f, f < 256 → ∀ t, t < 8 → (nI f >>> (nI t &&& nI 31)) &&& nI 1 = nI (f / 2 ^ t % 2) := by
  decide +kernel
theorem row1 {c : St} {a i : Nat} {v : Int32} : ∀ j, (ui c a i v).1 a j = if j = i then v else c.1 a j := fun j => by
  rw [ui_rd, if_pos rfl]
/-- one number of the row that is now changes, on both sides -/
theorem RelP.one {R H O N : Nat} {L : List Nat} {c m c1 m1 : St} (h : RelP R H O L c m) (hN : N ≤ 999) (hc : ∀ k, k ≠ 122 → c1.1 k = c.1 k) (hc2 : c1.2.2 = c.2.2) (hm : MR m m1) (hr : RowOK H O N (c1.1 122) m1) : RelP R H O L c1 m1 :=
  h.now (CP.of (fun k hk => hc k (by omega)) hc2) (fun k k1 k2 k3 => hc k k3) hm hN hr
theorem MR.ui {m : St} {s i : Nat} {v : Int32} (hs : s = 503 ∨ s = 504 ∨ s = 506 ∨ s = 508 ∨ s = 509 ∨ s = 511 ∨ (s = 502 ∧ (i = 6 ∨ i = 7 ∨ i = 8))) : MR m (ui m s i v) := by
  intro k x h1 h2 h3 h4 h5 h6 h7
  rw [ui_rd]
  by_cases hk : k = s
  · rw [if_pos hk, if_neg (by omega)]
  · rw [if_neg hk]
theorem sk_8 : Sk_8 Rel := by
  rintro L c m ⟨R, H, O, h⟩ p1 p2
  have hR : Rel L c m := ⟨R, H, O, h⟩
  obtain ⟨h8, h3, l1, l2, l3, l4⟩ := h.land
  obtain ⟨N, N9, -, -, hrow⟩ := h.nr
  unfold fX9_fell fX10_fell
  rcases isHouse_v h8 l1 l2 p1 with ⟨k, hk, rfl, e1, e2⟩ | ⟨e1, e2⟩
  · rcases in_v p2 1 9 (A := 1) (B := 9) rfl rfl (by omega) (by omega) with ⟨w, w1, w2, ew, w3, w4, w5, -⟩ | ⟨w1, w2⟩
    · have g := (hrow.1.1 k hk).2.1
      simp (disch := omega) only [e1, e2, br_some, lit_nI, n10, if_false, w3, w4, w5, nI_add, gd_ix, cl_nI, g]
      by_cases hl : m.1 504 k + p2 ≤ nI 99
      · rw [if_pos hl, if_pos hl]
        obtain ⟨c1, m1, a1, a2, a3, a4, a5, a6, a7, a8⟩ := remember_v h
        have ec : c1.1 122 (8 + k) = m.1 504 k := by rw [a5 122 (by omega) (by omega)]; exact g
        have em : m1.1 504 k = m.1 504 k := a7 504 k (by omega) (by omega)
        simp only [a1, a2, br_some, nm_eq, ec, em, ui_rd, if_true]
        obtain ⟨N', N9', -, -, hrow'⟩ := a3.nr
        exact ⟨_, _, _, rfl, rfl, R, H, O, a3.one N9' (fun k hk => ui_ne hk) rfl (MR.ui (by omega)) (RowOK.wood hk h8 h3 hrow' row1)⟩
      · rw [if_neg hl, if_neg hl]
        exact ⟨_, c, m, rfl, rfl, hR⟩
    · simp only [e1, e2, br_some, lit_nI, n10, if_false, w1, if_true]
      rcases w2 with q | ⟨q1, q2, -⟩
      · rw [if_pos q]
        exact ⟨_, c, m, rfl, rfl, hR⟩
      · rw [if_neg q1, if_pos q2]
        exact ⟨_, c, m, rfl, rfl, hR⟩
  · simp only [e1, e2, br_some, lit_nI, if_true]
    exact ⟨_, c, m, rfl, rfl, hR⟩
theorem sk_10 : Sk_10 Rel := by
  rintro L c m ⟨R, H, O, h⟩ p1 p2
  have hR : Rel L c m := ⟨R, H, O, h⟩
  obtain ⟨h8, h3, l1, l2, l3, l4⟩ := h.land
  obtain ⟨N, N9, -, -, hrow⟩ := h.nr
  unfold fX9_hide fX10_hide
  rcases isHouse_v h8 l1 l2 p1 with ⟨k, hk, rfl, e1, e2⟩ | ⟨e1, e2⟩
  · obtain ⟨x, x1, x2, x3⟩ := frozen_v hrow.1.2.2.1 (nI k)
    rcases x3 with ⟨rfl, -⟩ | ⟨rfl, -⟩
    · obtain ⟨⟨w, w9, ew⟩, -⟩ := hrow.2.2.1 k hk
      obtain ⟨⟨v, v9, ev⟩, -⟩ := hrow.2.2.2.1.1 k hk
      obtain ⟨g1, g2, g3, g4⟩ := hrow.1.1 k hk
      rw [ew] at g1
      rw [ev] at g3
      have hB : (Int32.toInt64 (nI w)).toInt = (w : Int) := by
        rw [t64]
        exact nI_toInt (by omega)
      rcases in_v p2 1 w (A := 1) (B := Int32.toInt64 (nI w)) rfl hB (by omega) (by omega) with ⟨q, q1, q2, eq, q3, q4, q5, -⟩ | ⟨q1, q2⟩
      · simp (disch := omega) only [e1, e2, br_some, lit_nI, n10, if_false, if_true, x1, x2, nI_add, Nat.zero_add, gd_ix, cl_nI, g1, g3, ew, ev, q3, q4, q5, pk_sub]
        subst eq
        simp (disch := omega) only [le_nI, nI_add]
        by_cases hl : v + q ≤ 99
        · rw [if_pos (show q ≤ 99 - v by omega), if_pos hl]
          obtain ⟨c1, m1, a1, a2, a3, a4, a5, a6, a7, a8⟩ := remember_v h
          have ec : c1.1 122 k = nI w := by rw [a5 122 (by omega) (by omega)]; exact g1
          have ec2 : c1.1 122 (16 + k) = nI v := by rw [a5 122 (by omega) (by omega)]; exact g3
          have em : m1.1 503 k = nI w := by rw [a7 503 k (by omega) (by omega)]; exact ew
          have em2 : m1.1 506 k = nI v := by rw [a7 506 k (by omega) (by omega)]; exact ev
          have hne : ¬ 16 + k = k := by omega
          simp (disch := omega) only [a1, a2, br_some, nm_eq, ec, ec2, em, em2, ui_rd, if_true, pk_sub, hne, if_false, Nat.reduceEqDiff, nI_add]
          obtain ⟨N', N9', -, -, hrow'⟩ := a3.nr
          have r1 := RowOK.warm (v := w - q) hk (by omega) h8 h3 hrow' (row1 (c := c1) (a := 122) (i := k) (v := nI (w - q)))
          have r2 := RowOK.hid (v := v + q) hk (by omega) h8 h3 r1 (row1 (a := 122) (i := 16 + k) (v := nI (v + q)))
          exact ⟨_, _, _, rfl, rfl, R, H, O, a3.one N9' (fun k hk => by rw [ui_ne hk, ui_ne hk]) rfl ((MR.ui (by omega)).tr (MR.ui (by omega))) r2⟩
        · rw [if_neg (show ¬ q ≤ 99 - v by omega), if_neg hl]
          exact ⟨_, c, m, rfl, rfl, hR⟩
      · simp (disch := omega) only [e1, e2, br_some, lit_nI, n10, if_false, if_true, x1, x2, nI_add, Nat.zero_add, gd_ix, cl_nI, g1, g3, ew, ev, q1]
        rcases q2 with q | ⟨q1, q2, -⟩
        · rw [if_pos q]
          exact ⟨_, c, m, rfl, rfl, hR⟩
        · rw [if_neg q1, if_pos q2]
          exact ⟨_, c, m, rfl, rfl, hR⟩
    · simp only [e1, e2, br_some, lit_nI, n10, if_false, x1, x2]
      exact ⟨_, c, m, rfl, rfl, hR⟩
  · simp only [e1, e2, br_some, lit_nI, if_true]
    exact ⟨_, c, m, rfl, rfl, hR⟩
theorem sk_12 : Sk_12 Rel := by
  rintro L c m ⟨R, H, O, h⟩ p1
  have hR : Rel L c m := ⟨R, H, O, h⟩
  obtain ⟨h8, h3, l1, l2, l3, l4⟩ := h.land
  obtain ⟨N, N9, -, -, hrow⟩ := h.nr
  unfold fX9_spit fX10_spit
  rcases isOfficer_v h3 l3 l4 p1 with ⟨k, hk, rfl, e1, e2⟩ | ⟨e1, e2⟩
  · obtain ⟨e, s, es, s9, ee, ess⟩ := hrow.2.2.2.1.2.1 k hk
    obtain ⟨g1, g2⟩ := hrow.1.2.1 k hk
    rw [ee] at g2
    simp (disch := omega) only [e1, e2, br_some, lit_nI, n10, if_false, if_true, nI_add, gd_ix, cl_nI, g2, ee, le_nI, eq_nI]
    by_cases hl : e = 0
    · rw [if_neg (show ¬ 1 ≤ e by omega), if_pos hl]
      exact ⟨_, c, m, rfl, rfl, hR⟩
    · rw [if_pos (show 1 ≤ e by omega), if_neg hl]
      obtain ⟨c1, m1, a1, a2, a3, a4, a5, a6, a7, a8⟩ := remember_v h
      obtain ⟨N', N9', -, -, hrow'⟩ := a3.nr
      have ec : c1.1 122 (35 + k) = nI e := by rw [a5 122 (by omega) (by omega)]; exact g2
      have ec2 : c1.1 122 40 = m.1 502 8 := by rw [a5 122 (by omega) (by omega)]; exact hrow.1.2.2.2.2.1
      have em : m1.1 511 k = nI e := by rw [a7 511 k (by omega) (by omega)]; exact ee
      have em2 : m1.1 502 8 = m.1 502 8 := a7 502 8 (by omega) (by omega)
      have em3 : m1.1 510 k = nI s := by rw [a7 510 k (by omega) (by omega)]; exact ess
      unfold fX10_spit_B56
      have hne : ¬ 40 = 35 + k := by omega
      simp (disch := omega) only [a1, a2, br_some, nm_eq, ec, ec2, em, em2, ui_rd, if_true, hne, if_false, Nat.reduceEqDiff, lit_nI, gd_ix, cl_nI]
      have hmin := min_le (m.1 502 8 + nI e) (nI 99999)
      have r1 : ∀ v, RowOK H O N' ((ui (ui c1 122 40 v) 122 (35 + k) (nI 0)).1 122) (ui (ui m1 502 8 v) 511 k (nI 0)) := fun v => RowOK.has (v := 0) (s := s) hk (by omega) s9 (by simp only [ui_rd, Nat.reduceEqDiff, if_false]; exact em3) h8 h3 (RowOK.hill h8 h3 hrow' row1) row1
      by_cases hc : m.1 502 8 + nI e ≤ nI 99999
      · rw [if_pos hc] at hmin ⊢
        rw [← hmin]
        exact ⟨_, _, _, rfl, rfl, R, H, O, a3.one N9' (fun k hk => by rw [ui_ne hk, ui_ne hk]) rfl ((MR.ui (by omega)).tr (MR.ui (by omega))) (r1 _)⟩
      · rw [if_neg hc] at hmin ⊢
        rw [← hmin]
        exact ⟨_, _, _, rfl, rfl, R, H, O, a3.one N9' (fun k hk => by rw [ui_ne hk, ui_ne hk]) rfl ((MR.ui (by omega)).tr (MR.ui (by omega))) (r1 _)⟩
  · simp only [e1, e2, br_some, lit_nI, if_true]
    exact ⟨_, c, m, rfl, rfl, hR⟩
