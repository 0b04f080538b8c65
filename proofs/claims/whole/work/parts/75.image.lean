theorem lenM_s {s i : Nat} (h : i < lenM s) : s = 502 ∨ s = 503 ∨ s = 504 ∨ s = 505 ∨ s = 506 ∨ s = 507 ∨ s = 508 ∨ s = 509 ∨ s = 510 ∨ s = 511 ∨ s = 512 ∨ s = 513 ∨ s = 514 ∨ s = 515 ∨ s = 516 ∨ s = 517 ∨ s = 518 ∨ s = 519 ∨ s = 551 := by
  refine Decidable.byContradiction (fun hc => ?_)
  unfold lenM at h
  (repeat' split at h) <;> omega
theorem vw_pe2 {m m1 : St} {k : Nat} (h1 : ∀ i, 1100 * k ≤ i → i < 1100 * k + 1100 → m1.1 559 i = m.1 559 i) (h2 : m1.1 561 k = m.1 561 k) : PE (vw m k) (vw m1 k) := by
  refine ⟨h2, h1 _ (by omega) (by omega), fun s j hj => ?_⟩
  rcases lenM_s hj with rfl | rfl | rfl | rfl | rfl | rfl | rfl | rfl | rfl | rfl | rfl | rfl | rfl | rfl | rfl | rfl | rfl | rfl | rfl <;> simp only [lenM, Nat.reduceEqDiff, Nat.reduceLT, Nat.reduceLeDiff, if_true, if_false] at hj <;> simp only [vw, Nat.reduceEqDiff, if_true, if_false] <;> exact h1 _ (by omega) (by omega)
/-- an image that was made shows the page -/
theorem vw_of {m m1 : St} {k : Nat} (h1 : ∀ t, t ∈ offs (1100 * k) tR → ∀ j, j < t.2.1 → m1.1 559 (t.2.2 + j) = m.1 t.1 j) (h2 : m1.1 559 (1100 * k + 50) = m.1 500 52) (h3 : ∀ t, t ∈ offs (1100 * k + 51) tI → ∀ j, j < t.2.1 → m1.1 559 (t.2.2 + j) = m.1 t.1 j) (h4 : m1.1 561 k = m.1 500 28) : PE m (vw m1 k) := by
  refine ⟨h4, h2, fun s j hj => ?_⟩
  rcases lenM_s hj with rfl | rfl | rfl | rfl | rfl | rfl | rfl | rfl | rfl | rfl | rfl | rfl | rfl | rfl | rfl | rfl | rfl | rfl | rfl
  · exact h1 (502, 12, 1100 * k) (by simp [offs, tR]) j hj
  · exact h1 (503, 8, 1100 * k + 12) (by simp [offs, tR]) j hj
  · exact h1 (504, 8, 1100 * k + 20) (by simp [offs, tR]) j hj
  · exact h3 (505, 8, 1100 * k + 51) (by simp [offs, tI]) j hj
  · exact h1 (506, 8, 1100 * k + 28) (by simp [offs, tR]) j hj
  · exact h3 (507, 8, 1100 * k + 59) (by simp [offs, tI]) j hj
  · exact h1 (508, 8, 1100 * k + 36) (by simp [offs, tR]) j hj
  · exact h1 (509, 3, 1100 * k + 44) (by simp [offs, tR]) j hj
  · exact h3 (510, 3, 1100 * k + 67) (by simp [offs, tI]) j hj
  · exact h1 (511, 3, 1100 * k + 47) (by simp [offs, tR]) j hj
  · exact h3 (512, 100, 1100 * k + 70) (by simp [offs, tI]) j hj
  · exact h3 (513, 10, 1100 * k + 170) (by simp [offs, tI]) j hj
  · exact h3 (514, 10, 1100 * k + 180) (by simp [offs, tI]) j hj
  · exact h3 (515, 10, 1100 * k + 190) (by simp [offs, tI]) j hj
  · exact h3 (516, 8, 1100 * k + 200) (by simp [offs, tI]) j hj
  · exact h3 (517, 8, 1100 * k + 208) (by simp [offs, tI]) j hj
  · exact h3 (518, 8, 1100 * k + 216) (by simp [offs, tI]) j hj
  · exact h3 (519, 3, 1100 * k + 224) (by simp [offs, tI]) j hj
  · exact h3 (551, 820, 1100 * k + 227) (by simp [offs, tI]) j hj
/-- a page that was gone back to shows the image -/
theorem vw_to {m m1 : St} {k : Nat} (h1 : ∀ t, t ∈ offs (1100 * k) tR → ∀ j, j < t.2.1 → m1.1 t.1 j = m.1 559 (t.2.2 + j)) (h2 : m1.1 500 52 = m.1 559 (1100 * k + 50)) (h3 : ∀ t, t ∈ offs (1100 * k + 51) tI → ∀ j, j < t.2.1 → m1.1 t.1 j = m.1 559 (t.2.2 + j)) (h4 : m1.1 500 28 = m.1 561 k) : PE (vw m k) m1 := by
  refine ⟨h4, h2, fun s j hj => ?_⟩
  rcases lenM_s hj with rfl | rfl | rfl | rfl | rfl | rfl | rfl | rfl | rfl | rfl | rfl | rfl | rfl | rfl | rfl | rfl | rfl | rfl | rfl
  · exact h1 (502, 12, 1100 * k) (by simp [offs, tR]) j hj
  · exact h1 (503, 8, 1100 * k + 12) (by simp [offs, tR]) j hj
  · exact h1 (504, 8, 1100 * k + 20) (by simp [offs, tR]) j hj
  · exact h3 (505, 8, 1100 * k + 51) (by simp [offs, tI]) j hj
  · exact h1 (506, 8, 1100 * k + 28) (by simp [offs, tR]) j hj
  · exact h3 (507, 8, 1100 * k + 59) (by simp [offs, tI]) j hj
  · exact h1 (508, 8, 1100 * k + 36) (by simp [offs, tR]) j hj
  · exact h1 (509, 3, 1100 * k + 44) (by simp [offs, tR]) j hj
  · exact h3 (510, 3, 1100 * k + 67) (by simp [offs, tI]) j hj
  · exact h1 (511, 3, 1100 * k + 47) (by simp [offs, tR]) j hj
  · exact h3 (512, 100, 1100 * k + 70) (by simp [offs, tI]) j hj
  · exact h3 (513, 10, 1100 * k + 170) (by simp [offs, tI]) j hj
  · exact h3 (514, 10, 1100 * k + 180) (by simp [offs, tI]) j hj
  · exact h3 (515, 10, 1100 * k + 190) (by simp [offs, tI]) j hj
  · exact h3 (516, 8, 1100 * k + 200) (by simp [offs, tI]) j hj
  · exact h3 (517, 8, 1100 * k + 208) (by simp [offs, tI]) j hj
  · exact h3 (518, 8, 1100 * k + 216) (by simp [offs, tI]) j hj
  · exact h3 (519, 3, 1100 * k + 224) (by simp [offs, tI]) j hj
  · exact h3 (551, 820, 1100 * k + 227) (by simp [offs, tI]) j hj
theorem sk_31 : Sk_31 Rel := by
  rintro L c m ⟨R, H, O, h⟩ p1
  have hR : Rel L c m := ⟨R, H, O, h⟩
  unfold fX9_back fX10_back
  rcases in_v p1 0 3 (A := 0) (B := 3) rfl rfl (by omega) (by omega) with ⟨k, k1, k2, rfl, k3, k4, k5, k6⟩ | ⟨k1, k2⟩
  · have k7 : ¬ nI 4 ≤ nI k := by
      rw [le_nI (by omega) (by omega)]
      omega
    rcases h.2.2.2.2.1 k (by omega) with ⟨q1, q2⟩ | ⟨q1, q2, q3, H', O', q4⟩
    · simp (disch := omega) only [lit_nI, k3, k4, if_false, k7, br_some, n10, gd_ix, cl_nI, q1, q2, if_true]
      exact ⟨_, c, m, rfl, rfl, hR⟩
    · have ht := q4.1.2.2
      have ht2 : m.1 561 k = nI 0 ∨ m.1 561 k = nI 1 := by
        rcases ht with z | z
        · exact Or.inl z.1
        · exact Or.inr z
      have ht3 : c.1 (160 + 40 * k + 14) 0 = nI 0 ∨ c.1 (160 + 40 * k + 14) 0 = nI 1 := by
        rw [q4.1.1]
        exact ht2
      obtain ⟨c1, a1, a2, a3, a4⟩ := page_copy (b := 120) (o := 160 + 40 * k) (c := c) (by omega) ht3
      obtain ⟨m1, b1, b2, b3, b4, b5⟩ := image_l (show k < 4 by omega) (ui m 500 28 (m.1 561 k))
      have hpe : PE (vw m k) m1 := vw_to (fun t ht j hj => by rw [b2 t ht j hj, ui_ne (by omega)]) (by rw [b3, ui_ne (by omega)]) (fun t ht j hj => by rw [b4 t ht j hj, ui_ne (by omega)]) (by rw [b5 500 28 (by omega) (by omega) (by omega) (by omega) (by omega), ui_rd, if_pos rfl, if_pos rfl])
      have hp : PageR H' O' R 120 c1 m1 := q4.cg a2 hpe
      have hf : ∀ s x, s ≠ 500 → s ≠ 502 → s ≠ 551 → s ≠ 552 → ¬ (503 ≤ s ∧ s ≤ 519) → m1.1 s x = m.1 s x := fun s x s1 s2 s3 s4 s5 => by rw [b5 s x s2 s3 s4 s5 (by omega), ui_ne s1]
      have hf5 : ∀ x, x ≠ 28 → x ≠ 52 → x ≠ 61 → x ≠ 62 → m1.1 500 x = m.1 500 x := fun x x1 x2 x3 x4 => by rw [b5 500 x (by omega) (by omega) (by omega) (by omega) (by omega), ui_rd, if_pos rfl, if_neg x1]
      have hrel : RelP R H' O' L c1 m1 := h.page (CP.of (fun j hj => a3 j (by omega)) (by rw [a4])) ⟨⟨hf5 29 (by omega) (by omega) (by omega) (by omega), hf5 33 (by omega) (by omega) (by omega) (by omega), hf5 38 (by omega) (by omega) (by omega) (by omega), hf5 49 (by omega) (by omega) (by omega) (by omega)⟩, fun s s1 s2 => funext (fun x => hf s x (by omega) (by omega) (by omega) (by omega) (by omega)), fun i _ => hf 559 i (by omega) (by omega) (by omega) (by omega) (by omega), funext (fun x => hf 560 x (by omega) (by omega) (by omega) (by omega) (by omega)), funext (fun x => hf 561 x (by omega) (by omega) (by omega) (by omega) (by omega))⟩ hp
      have e39 : c1.1 122 39 = m1.1 502 6 := by
        obtain ⟨N, N9, -, -, hrow⟩ := hrel.nr
        exact hrow.1.2.2.2.1
      simp (disch := omega) only [lit_nI, k3, k4, if_false, k7, br_some, n10, gd_ix, cl_nI, q1, q2, q3, gd_tt, a1, gd_b01 ht2, nm_eq, b1]
      rw [if_neg (fun q => nomatch q), e39]
      exact ⟨_, _, _, rfl, rfl, R, H', O', hrel⟩
  · simp only [lit_nI, k1, br_some, if_true]
    rcases k2 with q | ⟨q1, q2, q3⟩
    · rw [if_pos q]
      exact ⟨_, c, m, rfl, rfl, hR⟩
    · have q4 : nI 4 ≤ p1 := by
        rw [Int32.lt_iff_toInt_lt, nI_toInt (by omega)] at q2
        rw [Int32.le_iff_toInt_le, nI_toInt (by omega)]
        omega
      rw [if_neg q1, if_pos q4]
      exact ⟨_, c, m, rfl, rfl, hR⟩
