theorem okPb_mono {L L' : List Nat} {b : Nat} (hL : ∀ x, x ∈ L → x ∈ L') (h : okPb L b = true) : okPb L' b = true := by
  unfold okPb at h ⊢
  rw [List.all_eq_true] at h ⊢
  intro j hj
  have h1 := h j hj
  rw [Bool.and_eq_true, Bool.or_eq_true, decide_eq_true_iff] at h1 ⊢
  refine ⟨h1.1, ?_⟩
  rcases h1.2 with q | q
  · exact Or.inl q
  · exact Or.inr (hL _ q)
theorem okRb_mono {L L' : List Nat} {b : Nat} (hL : ∀ x, x ∈ L → x ∈ L') (h : okRb L b = true) : okRb L' b = true := by
  unfold okRb at h ⊢
  rw [List.all_eq_true] at h ⊢
  intro j hj
  have h1 := h j hj
  rw [Bool.and_eq_true, Bool.or_eq_true, decide_eq_true_iff] at h1 ⊢
  refine ⟨h1.1, ?_⟩
  rcases h1.2 with q | q
  · exact Or.inl q
  · exact Or.inr (hL _ q)
theorem okPb_new : ∀ k, k < 4 → okPb (nP (160 + 40 * k)) (160 + 40 * k) = true := by decide +kernel
theorem uq_rd {s : St} {k i k' i' : Nat} {v : Option Nat} : (uq s k i v).2.2 k' i' = if k' = k then (if i' = i then v else s.2.2 k' i') else s.2.2 k' i' := by
  show (va_up s.2.2 k (va_up (s.2.2 k) i v)) k' i' = _
  by_cases h : k' = k
  · subst h
    rw [va_up_self, if_pos rfl]
    rfl
  · rw [va_up_ne _ _ h, if_neg h]
theorem zp_22 {c : St} {nb s : Nat} : (zp c nb).2.2 s = if nb ≤ s ∧ s < nb + 28 then (fun _ => none) else c.2.2 s := rfl
theorem image_fin {R H O k : Nat} {L L' : List Nat} {c m sA : St} (hk : k < 4) (h : RelP R H O L c m) (hs : ∀ j, j < 160 + 40 * k ∨ 160 + 40 * k + 28 ≤ j → sA.1 j = c.1 j) (h9 : sA.2.2 9 k = some (160 + 40 * k)) (h9' : ∀ j, j ≠ k → sA.2.2 9 j = c.2.2 9 j) (h6 : sA.2.2 6 = c.2.2 6) (h40 : sA.2.2 40 = c.2.2 40) (hra : ∀ s i r, sA.2.2 s i = some r → c.2.2 s i = some r ∨ r = 160 + 40 * k) (hL : ∀ x, x ∈ L → x ∈ L') (hok : okPb L' (160 + 40 * k) = true) (hL2 : ∀ x, x ∈ L' → x ∈ L ∨ (160 + 40 * k ≤ x ∧ x < 160 + 40 * k + 28)) : ∃ c1 m1, fX2_copyFrom (160 + 40 * k) 120 sA = some c1 ∧ fX10_carriesAll (nI k) (nI 0) (ui (ui m 560 k (nI 1)) 561 k (m.1 500 28)) = some m1 ∧ c1.1 122 39 = m1.1 502 6 ∧ RelP R H O L' c1 m1 := by
  obtain ⟨⟨T, T4, t1, t2, t3⟩, ⟨z1, z2⟩, ⟨r1, r2, r3, r4, r5, r6⟩, hp, hi, hr, hLk⟩ := h
  have hsA : PageR H O R 120 sA m := hp.cg (PC.same (fun j j1 j2 => hs j (by omega))) PE.rf
  have ht : sA.1 (120 + 14) 0 = nI 0 ∨ sA.1 (120 + 14) 0 = nI 1 := by
    rw [hsA.1.1]
    rcases hsA.1.2.2 with z | z
    · exact Or.inl z.1
    · exact Or.inr z
  obtain ⟨c1, a1, a2, a3, a4⟩ := page_copy (b := 160 + 40 * k) (o := 120) (c := sA) (by omega) ht
  obtain ⟨m1, b1, b2, b3, b4, b5⟩ := image_s hk (ui (ui m 560 k (nI 1)) 561 k (m.1 500 28))
  have hts : ∀ t, t ∈ offs (1100 * k) tR → t.1 ≠ 560 ∧ t.1 ≠ 561 := by
    intro t ht
    have h7 := offs_of tR _ ht
    revert h7
    simp only [tR, List.mem_cons, List.not_mem_nil, or_false, Prod.mk.injEq]
    omega
  have hti : ∀ t, t ∈ offs (1100 * k + 51) tI → t.1 ≠ 560 ∧ t.1 ≠ 561 := by
    intro t ht
    have h7 := offs_of tI _ ht
    revert h7
    simp only [tI, List.mem_cons, List.not_mem_nil, or_false, Prod.mk.injEq]
    omega
  have f0 : ∀ s x, s ≠ 560 → s ≠ 561 → (ui (ui m 560 k (nI 1)) 561 k (m.1 500 28)).1 s x = m.1 s x := fun s x s1 s2 => by rw [ui_ne s2, ui_ne s1]
  have f1 : ∀ s x, s ≠ 560 → s ≠ 561 → ¬ (s = 559 ∧ 1100 * k ≤ x ∧ x < 1100 * k + 1100) → s ≠ 552 → ¬ (s = 500 ∧ (x = 61 ∨ x = 62)) → m1.1 s x = m.1 s x := fun s x s1 s2 s3 s4 s5 => by rw [b5 s x s3 s4 s5, f0 s x s1 s2]
  have e561 : ∀ j, m1.1 561 j = if j = k then m.1 500 28 else m.1 561 j := fun j => by
    rw [b5 561 j (by omega) (by omega) (by omega), ui_rd, if_pos rfl, ui_ne (by omega)]
  have e560 : ∀ j, m1.1 560 j = if j = k then nI 1 else m.1 560 j := fun j => by
    rw [b5 560 j (by omega) (by omega) (by omega), ui_ne (by omega), ui_rd, if_pos rfl]
  have made : ∀ j, m.1 560 j = nI 1 → m1.1 560 j = nI 1 := fun j hj => by
    rw [e560]
    split
    · rfl
    · exact hj
  have hpe : PE m m1 := by
    refine ⟨f1 500 28 (by omega) (by omega) (by omega) (by omega) (by omega), f1 500 52 (by omega) (by omega) (by omega) (by omega) (by omega), fun s i hi => ?_⟩
    have := lenM_s hi
    exact f1 s i (by omega) (by omega) (by omega) (by omega) (by omega)
  have hvw : PE m (vw m1 k) := vw_of (fun t ht j hj => by rw [b2 t ht j hj, f0 _ _ (hts t ht).1 (hts t ht).2]) (by rw [b3, f0 _ _ (by omega) (by omega)]) (fun t ht j hj => by rw [b4 t ht j hj, f0 _ _ (hti t ht).1 (hti t ht).2]) (by rw [e561, if_pos rfl])
  have c22 : c1.2.2 = sA.2.2 := by rw [a4]
  have hc : ∀ j, j < 160 + 40 * k ∨ 160 + 40 * k + 28 ≤ j → c1.1 j = c.1 j := fun j hj => by rw [a3 j hj, hs j hj]
  have hmain : PageR H O R 120 c1 m1 := hp.cg (PC.same (fun j j1 j2 => hc j (by omega))) hpe
  refine ⟨c1, m1, a1, b1, ?_, ⟨T, T4, ?_, ?_, fun i hT => ?_⟩, ⟨?_, ?_⟩, ⟨r1, ?_, ?_, fun r hr' => ⟨?_, ?_⟩, ?_, fun r hr' => okRb_mono hL (r6 r hr')⟩, hmain, fun j hj => ?_, fun s i r e => ?_, fun x hx => ?_⟩
  · obtain ⟨-, -, -, ⟨N, N9, hrow⟩, -⟩ := hmain
    exact hrow.1.2.2.2.1
  · rw [hc 0 (by omega)]
    exact t1
  · rw [f1 500 29 (by omega) (by omega) (by omega) (by omega) (by omega)]
    exact t2
  · rw [hc 1 (by omega), f1 540 i (by omega) (by omega) (by omega) (by omega) (by omega)]
    exact t3 i hT
  · rw [f1 500 49 (by omega) (by omega) (by omega) (by omega) (by omega)]
    exact z1
  · rw [f1 500 38 (by omega) (by omega) (by omega) (by omega) (by omega)]
    exact z2
  · rw [hc 0 (by omega)]
    exact r2
  · rw [f1 500 33 (by omega) (by omega) (by omega) (by omega) (by omega)]
    exact r3
  · rw [c22, h6]
    exact (r4 r hr').1
  · refine (r4 r hr').2.cg (fun j h1 h2 => hc j (by omega)) ?_ (fun i _ => ⟨?_, ?_, ?_⟩) (fun j _ => ⟨?_, ?_⟩) <;> exact f1 _ _ (by omega) (by omega) (by omega) (by omega) (by omega)
  · rw [c22, h40]
    exact r5
  · by_cases ejk : j = k
    · subst ejk
      refine Or.inr ⟨by rw [e560, if_pos rfl], by rw [c22]; exact h9, hok, H, O, hsA.cg a2 hvw⟩
    · rw [c22, h9' j ejk, e560, if_neg ejk]
      rcases hi j hj with q | ⟨q1, q2, q3, H', O', q4⟩
      · exact Or.inl q
      · refine Or.inr ⟨q1, q2, okPb_mono hL q3, H', O', q4.cg (PC.same (fun j' j1 j2 => hc j' (by omega))) (vw_pe2 (fun i i1 i2 => f1 559 i (by omega) (by omega) (by omega) (by omega) (by omega)) (by rw [e561, if_neg ejk]))⟩
  · rw [c22] at e
    rcases hra s i r e with q | q
    · rcases hr s i r q with ⟨j, j1, j2, j3⟩ | ⟨j, j1, j2⟩
      · exact Or.inl ⟨j, j1, j2, made j j3⟩
      · exact Or.inr ⟨j, j1, j2⟩
    · exact Or.inl ⟨k, hk, q, by rw [e560, if_pos rfl]⟩
  · rcases hL2 x hx with q | q
    · rcases hLk x q with q | ⟨j, j1, j2, j3⟩ | q
      · exact Or.inl q
      · exact Or.inr (Or.inl ⟨j, j1, made j j2, j3⟩)
      · exact Or.inr (Or.inr q)
    · exact Or.inr (Or.inl ⟨k, hk, by rw [e560, if_pos rfl], q⟩)
theorem sk_30 : Sk_30 Rel := by
  rintro L c m ⟨R, H, O, h⟩ p1
  have hR : Rel L c m := ⟨R, H, O, h⟩
  unfold fX9_image fX10_image
  rcases in_v p1 0 3 (A := 0) (B := 3) rfl rfl (by omega) (by omega) with ⟨k, k1, k2, rfl, k3, k4, k5, k6⟩ | ⟨k1, k2⟩
  · have k7 : nI k < nI 4 := by
      rw [lt_nI (by omega) (by omega)]
      omega
    have n1 : vp_nar .boolean (nI 1) = nI 1 := rfl
    have n2 : vp_nar .boolean (m.1 500 28) = m.1 500 28 := by
      rcases h.2.2.2.1.1.2.2 with z | z
      · rw [z.1]
        rfl
      · rw [z]
        rfl
    have e5 : (ui m 560 k (nI 1)).1 500 28 = m.1 500 28 := by rw [ui_ne (by omega)]
    rcases h.2.2.2.2.1 k (by omega) with ⟨q1, q2⟩ | ⟨q1, q2, q3, H', O', q4⟩
    · have hnm : ∀ j, m.1 560 j = nI 1 → j ≠ k := by
        intro j hj e
        subst e
        rw [q1, n01] at hj
        exact hj
      have hfr : FrP L c (160 + 40 * k) := by
        refine ⟨?_, fun x hx => ?_, fun s i r e => ?_⟩
        · rcases (show k = 0 ∨ k = 1 ∨ k = 2 ∨ k = 3 by omega) with rfl | rfl | rfl | rfl <;> decide
        · rcases h.2.2.2.2.2.2 x hx with q | ⟨j, j1, j2, j3, j4⟩ | ⟨j, j1, j2, j3⟩
          · omega
          · have := hnm j j2
            omega
          · have := h.2.2.1.1
            omega
        · rcases h.2.2.2.2.2.1 s i r e with ⟨j, j1, j2, j3⟩ | ⟨j, j1, j2⟩
          · have := hnm j j3
            omega
          · omega
      have g1 : ∀ j, j < 160 + 40 * k ∨ 160 + 40 * k + 28 ≤ j → (uq (zp c (160 + 40 * k)) 9 k (some (160 + 40 * k))).1 j = c.1 j := by
        intro j hj
        show (ui (zr c (160 + 40 * k) 28) (160 + 40 * k) 8 (-1)).1 j = c.1 j
        rw [ui_ne (by omega), (zr_out (by omega)).1]
      have g2 : (uq (zp c (160 + 40 * k)) 9 k (some (160 + 40 * k))).2.2 9 k = some (160 + 40 * k) := by
        rw [uq_rd, if_pos rfl, if_pos rfl]
      have g3 : ∀ j, j ≠ k → (uq (zp c (160 + 40 * k)) 9 k (some (160 + 40 * k))).2.2 9 j = c.2.2 9 j := by
        intro j hj
        rw [uq_rd, if_pos rfl, if_neg hj, zp_22, if_neg (by omega)]
      have g4 : ∀ s, s ≠ 9 → s < 160 → (uq (zp c (160 + 40 * k)) 9 k (some (160 + 40 * k))).2.2 s = c.2.2 s := by
        intro s s1 s2
        funext i
        rw [uq_rd, if_neg s1, zp_22, if_neg (by omega)]
      have g5 : ∀ s i r, (uq (zp c (160 + 40 * k)) 9 k (some (160 + 40 * k))).2.2 s i = some r → c.2.2 s i = some r ∨ r = 160 + 40 * k := by
        intro s i r e
        have hz : (zp c (160 + 40 * k)).2.2 s i = some r → c.2.2 s i = some r := by
          intro e
          rw [zp_22] at e
          by_cases hs : 160 + 40 * k ≤ s ∧ s < 160 + 40 * k + 28
          · rw [if_pos hs] at e
            exact nomatch e
          · rw [if_neg hs] at e
            exact e
        rw [uq_rd] at e
        by_cases s9 : s = 9
        · rw [if_pos s9] at e
          by_cases ik : i = k
          · rw [if_pos ik] at e
            exact Or.inr (Option.some.inj e).symm
          · rw [if_neg ik] at e
            exact Or.inl (hz e)
        · rw [if_neg s9] at e
          exact Or.inl (hz e)
      obtain ⟨c1, m1, a1, a2, a3, a4⟩ := image_fin (L' := L ++ nP (160 + 40 * k)) (show k < 4 by omega) h g1 g2 g3 (g4 6 (by omega) (by omega)) (g4 40 (by omega) (by omega)) g5 (fun x hx => List.mem_append_left _ hx) (okPb_mono (fun x hx => List.mem_append_right _ hx) (okPb_new k (by omega))) (fun x hx => by
          rcases List.mem_append.mp hx with q | q
          · exact Or.inl q
          · refine Or.inr ?_
            revert q
            simp only [nP, List.mem_cons, List.not_mem_nil, or_false]
            omega)
      have hok : okPb (L ++ nP (160 + 40 * k)) (160 + 40 * k) = true := okPb_mono (fun x hx => List.mem_append_right _ hx) (okPb_new k (by omega))
      simp (disch := omega) only [lit_nI, k3, k4, if_false, if_true, k7, br_some, n10, gd_ix, cl_nI, q2, gp_t hfr, hok, gd_tt, ↓nm_eq, g2, a1, n1, n2, e5, a2]
      rw [a3]
      exact ⟨_, _, _, _, rfl, rfl, R, H, O, a4⟩
    · obtain ⟨c1, m1, a1, a2, a3, a4⟩ := image_fin (L' := L) (sA := c) (show k < 4 by omega) h (fun _ _ => rfl) q2 (fun _ _ => rfl) rfl rfl (fun _ _ _ e => Or.inl e) (fun _ hx => hx) q3 (fun x hx => Or.inl hx)
      simp (disch := omega) only [lit_nI, k3, k4, if_false, if_true, k7, br_some, n10, gd_ix, cl_nI, q2, q3, gd_tt, ↓nm_eq, a1, n1, n2, e5, a2]
      rw [if_neg (fun q => nomatch q), a3]
      exact ⟨_, _, _, _, rfl, rfl, R, H, O, a4⟩
  · simp only [lit_nI, k1, br_some, if_true]
    rcases k2 with q | ⟨q1, q2, q3⟩
    · rw [if_pos q]
      exact ⟨_, L, c, m, rfl, rfl, hR⟩
    · have q4 : ¬ p1 < nI 4 := by
        rw [Int32.lt_iff_toInt_lt, nI_toInt (by omega)] at q2
        rw [Int32.lt_iff_toInt_lt, nI_toInt (by omega)]
        omega
      rw [if_neg q1, if_neg q4]
      exact ⟨_, L, c, m, rfl, rfl, hR⟩
