theorem RowOK.eqv {H O N : Nat} {r r1 : Nat → Int32} {m m1 : St} (hH : H ≤ 8) (hO : O ≤ 3) (h : RowOK H O N r m) (hr : ∀ i, i < 41 → r1 i = r i) (hs : ∀ s, 503 ≤ s → s ≤ 511 → m1.1 s = m.1 s) (h2 : ∀ i, i < 9 → m1.1 502 i = m.1 502 i) : RowOK H O N r1 m1 := by
  refine h.cg hH hO hr (fun k hk => ⟨?_, ?_, ?_, ?_⟩) (fun q hq => ⟨?_, ?_⟩) (fun j j1 j2 => h2 j (by omega)) (fun k hk => ⟨?_, ?_⟩) (fun q hq => ?_) (h2 0 (by omega)) (h2 1 (by omega)) <;> rw [hs _ (by omega) (by omega)]
theorem RowOK.pvq {H O N i : Nat} {r r1 : Nat → Int32} {m m1 : St} (hH : H ≤ 8) (hO : O ≤ 3) (h : RowOK H O N r (pv m i)) (hr : ∀ i, i < 41 → r1 i = r i) (h5 : m1.1 551 = m.1 551) (h6 : m1.1 505 = m.1 505) (h7 : m1.1 507 = m.1 507) (h8 : m1.1 510 = m.1 510) (h0 : m1.1 502 0 = m.1 502 0) (h1 : m1.1 502 1 = m.1 502 1) : RowOK H O N r1 (pv m1 i) := by
  refine h.cg hH hO hr (fun k hk => ⟨?_, ?_, ?_, ?_⟩) (fun q hq => ⟨?_, ?_⟩) (fun j j1 j2 => ?_) (fun k hk => ⟨?_, ?_⟩) (fun q hq => ?_) ?_ ?_
  · simp only [pv, Nat.reduceEqDiff, if_true, if_false, h5]
  · simp only [pv, Nat.reduceEqDiff, if_true, if_false, h5]
  · simp only [pv, Nat.reduceEqDiff, if_true, if_false, h5]
  · simp only [pv, Nat.reduceEqDiff, if_true, if_false, h5]
  · simp only [pv, Nat.reduceEqDiff, if_true, if_false, h5]
  · simp only [pv, Nat.reduceEqDiff, if_true, if_false, h5]
  · rcases (show j = 6 ∨ j = 7 ∨ j = 8 by omega) with rfl | rfl | rfl <;> simp only [pv, Nat.reduceEqDiff, if_true, if_false, h5]
  · simp only [pv, Nat.reduceEqDiff, if_false, h6]
  · simp only [pv, Nat.reduceEqDiff, if_false, h7]
  · simp only [pv, Nat.reduceEqDiff, if_false, h8]
  · simp only [pv, Nat.reduceEqDiff, if_true, if_false, h0]
  · simp only [pv, Nat.reduceEqDiff, if_true, if_false, h1]
theorem RowOK.bvq {H O N : Nat} {r r1 : Nat → Int32} {m m1 : St} (hH : H ≤ 8) (hO : O ≤ 3) (h : RowOK H O N r (bv m)) (hr : ∀ i, i < 41 → r1 i = r i) (h5 : ∀ s, 516 ≤ s → s ≤ 519 → m1.1 s = m.1 s) (h6 : m1.1 505 = m.1 505) (h7 : m1.1 507 = m.1 507) (h8 : m1.1 510 = m.1 510) (h0 : m1.1 502 0 = m.1 502 0) (h1 : m1.1 502 1 = m.1 502 1) : RowOK H O N r1 (bv m1) := by
  refine h.cg hH hO hr (fun k hk => ⟨?_, ?_, ?_, ?_⟩) (fun q hq => ⟨?_, ?_⟩) (fun j j1 j2 => ?_) (fun k hk => ⟨?_, ?_⟩) (fun q hq => ?_) ?_ ?_
  · simp only [bv, Nat.reduceEqDiff, if_true, if_false, h5 516 (by omega) (by omega)]
  · simp only [bv, Nat.reduceEqDiff, if_true, if_false, h5 517 (by omega) (by omega)]
  · simp only [bv, Nat.reduceEqDiff, if_true, if_false, h5 518 (by omega) (by omega)]
  · simp only [bv, Nat.reduceEqDiff, if_true, if_false]
  · simp only [bv, Nat.reduceEqDiff, if_true, if_false, h5 519 (by omega) (by omega)]
  · simp only [bv, Nat.reduceEqDiff, if_true, if_false]
  · rcases (show j = 6 ∨ j = 7 ∨ j = 8 by omega) with rfl | rfl | rfl <;> simp only [bv, Nat.reduceEqDiff, if_true, if_false]
  · simp only [bv, Nat.reduceEqDiff, if_false, h6]
  · simp only [bv, Nat.reduceEqDiff, if_false, h7]
  · simp only [bv, Nat.reduceEqDiff, if_false, h8]
  · simp only [bv, Nat.reduceEqDiff, if_true, if_false, h0]
  · simp only [bv, Nat.reduceEqDiff, if_true, if_false, h1]
/-- what the text told, where nothing of it changes -/
theorem PageR.base {H O R : Nat} {c m c1 m1 : St} (h : PageR H O R 120 c m) (hc : ∀ k, 134 ≤ k → k < 160 → c1.1 k = c.1 k) (h2 : ∀ i, i < 6 → m1.1 502 i = m.1 502 i) (h0 : m1.1 500 28 = m.1 500 28) (hs : ∀ s, s = 505 ∨ s = 507 ∨ s = 510 ∨ s = 512 ∨ (516 ≤ s ∧ s ≤ 519) → m1.1 s = m.1 s) : (c1.1 (120 + 14) 0 = m1.1 500 28 ∧ c1.1 (120 + 14) 1 = m1.1 502 0 ∧ ((m1.1 500 28 = nI 0 ∧ H = 0 ∧ O = 0) ∨ m1.1 500 28 = nI 1)) ∧ LandR H O c1 (120 + 14) m1 ∧ SnowR c1 (120 + 14) m1 ∧ RowOK H O 0 (c1.1 (120 + 27)) (bv m1) := by
  obtain ⟨⟨a1, a2, a2b⟩, a3, ⟨S, S6, s1, s2⟩, -, -, a9, -⟩ := h
  have hH := a3.1
  have hO := a3.2.1
  refine ⟨⟨?_, ?_, ?_⟩, ?_, ⟨S, S6, ?_, ?_⟩, a9.bvq hH hO (fun i _ => by rw [hc (120 + 27) (by omega) (by omega)]) (fun s s1 s2 => hs s (by omega)) (hs 505 (by omega)) (hs 507 (by omega)) (hs 510 (by omega)) (h2 0 (by omega)) (h2 1 (by omega))⟩
  · rw [hc (120 + 14) (by omega) (by omega), h0]
    exact a1
  · rw [hc (120 + 14) (by omega) (by omega), h2 0 (by omega)]
    exact a2
  · rw [h0]
    exact a2b
  · unfold LandR
    rw [hc (120 + 14) (by omega) (by omega), hc (120 + 14 + 9) (by omega) (by omega), hc (120 + 14 + 10) (by omega) (by omega), hc (120 + 14 + 11) (by omega) (by omega), h2 1 (by omega), h2 2 (by omega), h2 3 (by omega), h2 4 (by omega), h2 5 (by omega), hs 505 (by omega), hs 507 (by omega), hs 510 (by omega)]
    exact a3
  · rw [hc (120 + 14) (by omega) (by omega)]
    exact s1
  · rw [hc (120 + 14 + 12) (by omega) (by omega), hs 512 (by omega)]
    exact s2
/-- where only books, the rule in force and the draw change -/
theorem PageR.misc {H O R : Nat} {c m c1 m1 : St} (h : PageR H O R 120 c m) (hc : ∀ k, 121 ≤ k → k < 160 → ¬ (125 ≤ k ∧ k ≤ 127) → c1.1 k = c.1 k) (hc3 : c1.1 120 3 = c.1 120 3) (hm : ∀ k i, ¬ (513 ≤ k ∧ k ≤ 515) → ¬ (k = 502 ∧ 9 ≤ i) → m1.1 k i = m.1 k i) (hB : ∃ B, B ≤ 10 ∧ c1.1 120 7 = nI B ∧ m1.1 502 9 = nI B ∧ ∀ i, i < B → (c1.1 (120 + 5) i = m1.1 513 i ∧ c1.1 (120 + 6) i = m1.1 514 i ∧ c1.1 (120 + 7) i = m1.1 515 i) ∧ (∃ n, n ≤ 60 ∧ m1.1 513 i = nI n) ∧ ∃ h, h < H ∧ m1.1 514 i = nI h) (hF : c1.1 120 8 = m1.1 502 11 ∧ (m1.1 502 11 = -nI 1 ∨ ∃ r, r < R ∧ m1.1 502 11 = nI r)) (hX : c1.1 120 9 = m1.1 502 10 ∧ ∃ x, x < 2147483648 ∧ m1.1 502 10 = nI x) : PageR H O R 120 c1 m1 := by
  have h2 : ∀ i, i < 9 → m1.1 502 i = m.1 502 i := fun i hi => hm 502 i (by omega) (by omega)
  have hs : ∀ s, s ≠ 502 → ¬ (513 ≤ s ∧ s ≤ 515) → m1.1 s = m.1 s := fun s s1 s2 => funext (fun x => hm s x s2 (by omega))
  obtain ⟨b1, b2, b3, b4⟩ := h.base (c1 := c1) (m1 := m1) (fun k k1 k2 => hc k (by omega) k2 (by omega)) (fun i hi => h2 i (by omega)) (hm 500 28 (by omega) (by omega)) (fun s hs' => hs s (by omega) (by omega))
  obtain ⟨-, a3, -, ⟨N, N9, a5⟩, ⟨P, P9, a6, a7, a8⟩, -⟩ := h
  have hH := a3.1
  have hO := a3.2.1
  refine ⟨b1, b2, b3, ⟨N, N9, a5.eqv hH hO (fun i _ => by rw [hc (120 + 2) (by omega) (by omega) (by omega)]) (fun s s1 s2 => hs s (by omega) (by omega)) h2⟩, ⟨P, P9, ?_, ?_, fun i hi => ?_⟩, b4, hB, hF, hX⟩
  · rw [hc3]
    exact a6
  · rw [hs 500 (by omega) (by omega)]
    exact a7
  · obtain ⟨N', n9, hN'⟩ := a8 i hi
    exact ⟨N', n9, hN'.pvq hH hO (fun i _ => by rw [hc (120 + 3) (by omega) (by omega) (by omega)]) (hs 551 (by omega) (by omega)) (hs 505 (by omega) (by omega)) (hs 507 (by omega) (by omega)) (hs 510 (by omega) (by omega)) (h2 0 (by omega)) (h2 1 (by omega))⟩
/-- an act is kept -/
theorem remember_v {R H O : Nat} {L : List Nat} {c m : St} (h : RelP R H O L c m) : ∃ c1 m1, fX2_remember 120 c = some c1 ∧ fX10_keepsAct m = some m1 ∧ RelP R H O L c1 m1 ∧ (∀ i, i ≠ 3 → c1.1 120 i = c.1 120 i) ∧ (∀ k, k ≠ 120 → k ≠ 123 → c1.1 k = c.1 k) ∧ c1.2 = c.2 ∧ (∀ s x, s ≠ 551 → ¬ (s = 500 ∧ (x = 52 ∨ x = 53 ∨ x = 54)) → m1.1 s x = m.1 s x) ∧ m1.2 = m.2 := by
  have hp := h.2.2.2.1
  have hp0 := hp
  obtain ⟨-, a3, -, ⟨N, N9, a5⟩, ⟨P, P9, a6, a7, a8⟩, -, ⟨B, B9, a10, a11, a12⟩, ⟨a13, a14⟩, a15, a16⟩ := hp
  have hH := a3.1
  have hO := a3.2.1
  obtain ⟨P', c1, eP, c1e, c1p, c1r, c1o, c10, c1f, c12⟩ := remember_c P9 a6
  obtain ⟨P'', m1, eP2, m1e, m1p, m1s, m1r, m1o, m1f, m12⟩ := keeps_m P9 a7
  have ePP : P'' = P' := by rw [eP2, eP]
  subst ePP
  have hP20 : P'' < 20 := by
    rw [eP2]
    split <;> omega
  have h2 : ∀ i, m1.1 502 i = m.1 502 i := fun i => m1f 502 i (by omega) (by omega)
  have hs : ∀ s, s ≠ 551 → s ≠ 500 → m1.1 s = m.1 s := fun s s1 s2 => funext (fun x => m1f s x s1 (by omega))
  obtain ⟨b1, b2, b3, b4⟩ := hp0.base (c1 := c1) (m1 := m1) (fun k k1 k2 => c1f k (by omega) (by omega)) (fun i _ => h2 i) (m1f 500 28 (by omega) (by omega)) (fun s hs' => hs s (by omega) (by omega))
  refine ⟨c1, m1, c1e, m1e, ?_, c10, c1f, c12, m1f, m12⟩
  refine h.page (CP.of (fun k hk => c1f k (by omega) (by omega)) (by rw [c12])) ⟨⟨m1f _ _ (by omega) (by omega), m1f _ _ (by omega) (by omega), m1f _ _ (by omega) (by omega), m1f _ _ (by omega) (by omega)⟩, fun s s1 s2 => hs s (by omega) (by omega), fun i _ => by rw [hs 559 (by omega) (by omega)], hs 560 (by omega) (by omega), hs 561 (by omega) (by omega)⟩ ?_
  refine ⟨b1, b2, b3, ⟨N, N9, a5.eqv hH hO (fun i _ => by rw [c1f (120 + 2) (by omega) (by omega)]) (fun s s1 s2 => hs s (by omega) (by omega)) (fun i _ => h2 i)⟩, ⟨P'' + 1, by omega, c1p, m1p, fun i hi => ?_⟩, b4, ⟨B, B9, ?_, ?_, ?_⟩, ⟨?_, ?_⟩, ?_, ?_⟩
  · by_cases hl : i = P''
    · subst hl
      refine ⟨N, N9, a5.cg hH hO (fun j hj => c1r j hj) (fun k hk => ⟨?_, ?_, ?_, ?_⟩) (fun q hq => ⟨?_, ?_⟩) (fun j j1 j2 => ?_) (fun k hk => ⟨?_, ?_⟩) (fun q hq => ?_) ?_ ?_⟩
      · exact m1r (503, 8, 41 * i + 3) (by simp [mR, offs]) k hk
      · exact m1r (504, 8, 41 * i + 11) (by simp [mR, offs]) k hk
      · exact m1r (506, 8, 41 * i + 19) (by simp [mR, offs]) k hk
      · exact m1r (508, 8, 41 * i + 27) (by simp [mR, offs]) k hk
      · exact m1r (509, 3, 41 * i + 35) (by simp [mR, offs]) q hq
      · exact m1r (511, 3, 41 * i + 38) (by simp [mR, offs]) q hq
      · rcases (show j = 6 ∨ j = 7 ∨ j = 8 by omega) with rfl | rfl | rfl
        · exact m1s 0 (by omega)
        · exact m1s 1 (by omega)
        · exact m1s 2 (by omega)
      · simp only [pv, Nat.reduceEqDiff, if_false, hs 505 (by omega) (by omega)]
      · simp only [pv, Nat.reduceEqDiff, if_false, hs 507 (by omega) (by omega)]
      · simp only [pv, Nat.reduceEqDiff, if_false, hs 510 (by omega) (by omega)]
      · simp only [pv, Nat.reduceEqDiff, if_true, if_false, h2]
      · simp only [pv, Nat.reduceEqDiff, if_true, if_false, h2]
    · have hi' : i < P'' := by omega
      obtain ⟨j0, hj0, hj1⟩ : ∃ j0, j0 < P ∧ ∀ x, x < 41 → (c1.1 123 (41 * i + x) = c.1 123 (41 * j0 + x) ∧ m1.1 551 (41 * i + x) = m.1 551 (41 * j0 + x)) := by
        by_cases hP : P < 20
        · rw [if_pos hP] at eP2
          refine ⟨i, by omega, fun x hx => ?_⟩
          have q1 := c1o (41 * i + x) (by omega)
          have q2 := m1o (41 * i + x) (by omega)
          rw [if_pos hP] at q1 q2
          exact ⟨q1, q2⟩
        · rw [if_neg hP] at eP2
          refine ⟨i + 1, by omega, fun x hx => ?_⟩
          have q1 := c1o (41 * i + x) (by omega)
          have q2 := m1o (41 * i + x) (by omega)
          rw [if_neg hP] at q1 q2
          rw [show 41 * (i + 1) + x = 41 * i + x + 41 by omega]
          exact ⟨q1, q2⟩
      obtain ⟨N', n9, hN'⟩ := a8 j0 hj0
      refine ⟨N', n9, hN'.cg hH hO (fun j hj => (hj1 j hj).1) (fun k hk => ⟨?_, ?_, ?_, ?_⟩) (fun q hq => ⟨?_, ?_⟩) (fun j j1 j2 => ?_) (fun k hk => ⟨?_, ?_⟩) (fun q hq => ?_) ?_ ?_⟩
      · have := (hj1 (3 + k) (by omega)).2
        simp only [pv, Nat.reduceEqDiff, if_true, if_false, Nat.add_assoc]
        exact this
      · have := (hj1 (11 + k) (by omega)).2
        simp only [pv, Nat.reduceEqDiff, if_true, if_false, Nat.add_assoc]
        exact this
      · have := (hj1 (19 + k) (by omega)).2
        simp only [pv, Nat.reduceEqDiff, if_true, if_false, Nat.add_assoc]
        exact this
      · have := (hj1 (27 + k) (by omega)).2
        simp only [pv, Nat.reduceEqDiff, if_true, if_false, Nat.add_assoc]
        exact this
      · have := (hj1 (35 + q) (by omega)).2
        simp only [pv, Nat.reduceEqDiff, if_true, if_false, Nat.add_assoc]
        exact this
      · have := (hj1 (38 + q) (by omega)).2
        simp only [pv, Nat.reduceEqDiff, if_true, if_false, Nat.add_assoc]
        exact this
      · rcases (show j = 6 ∨ j = 7 ∨ j = 8 by omega) with rfl | rfl | rfl
        · exact (hj1 0 (by omega)).2
        · exact (hj1 1 (by omega)).2
        · exact (hj1 2 (by omega)).2
      · simp only [pv, Nat.reduceEqDiff, if_false, hs 505 (by omega) (by omega)]
      · simp only [pv, Nat.reduceEqDiff, if_false, hs 507 (by omega) (by omega)]
      · simp only [pv, Nat.reduceEqDiff, if_false, hs 510 (by omega) (by omega)]
      · simp only [pv, Nat.reduceEqDiff, if_true, if_false, h2]
      · simp only [pv, Nat.reduceEqDiff, if_true, if_false, h2]
  · rw [c10 7 (by omega)]
    exact a10
  · rw [h2]
    exact a11
  · rw [c1f (120 + 5) (by omega) (by omega), c1f (120 + 6) (by omega) (by omega), c1f (120 + 7) (by omega) (by omega), hs 513 (by omega) (by omega), hs 514 (by omega) (by omega), hs 515 (by omega) (by omega)]
    exact a12
  · rw [c10 8 (by omega), h2]
    exact a13
  · rw [h2]
    exact a14
  · rw [c10 9 (by omega), h2]
    exact a15
  · rw [h2]
    exact a16
theorem sk_13 : Sk_13 Rel := by
  rintro L c m ⟨R, H, O, h⟩
  have hp := h.2.2.2.1
  have hp0 := hp
  obtain ⟨-, a3, -, -, ⟨P, P9, a6, a7, a8⟩, -, ⟨B, B9, a10, a11, a12⟩, ⟨a13, a14⟩, a15, a16⟩ := hp
  have hH := a3.1
  have hO := a3.2.1
  unfold fX9_undo fX2_takeBack fX10_undo
  simp only [lit_nI, a6, a7]
  by_cases hP : P = 0
  · subst hP
    rw [if_neg (by decide), if_pos rfl, bw_some, if_pos rfl]
    exact ⟨_, c, m, rfl, rfl, R, H, O, h⟩
  · obtain ⟨p, rfl⟩ : ∃ p, P = p + 1 := ⟨P - 1, by omega⟩
    rw [if_pos (by rw [le_nI (by omega) (by omega)]; omega), if_neg (by rw [eq_nI (by omega) (by omega)]; omega)]
    simp (disch := omega) only [sub1_nI, nm_eq, ui_rd, if_true, pk_mul, cpk_n, gd_tt, cl_nI]
    obtain ⟨m1, b1, b2, b3, b4, b5⟩ := movesAll_l (show p < 20 by omega) (ui m 500 52 (nI p))
    rw [b1, br_some, bw_some, if_neg (by decide)]
    have e52 : m1.1 500 52 = nI p := by
      rw [b4 500 52 (by omega) (fun t hm e => by
        exfalso
        revert hm
        simp only [mR, List.mem_cons, List.not_mem_nil, or_false, Prod.ext_iff]
        omega) (by omega), ui_rd, if_pos rfl, if_pos rfl]
    refine ⟨_, _, m1, rfl, by rw [e52]; simp only [ur_rd, ui_rd, Nat.reduceAdd, Nat.reduceEqDiff, if_true, if_false], R, H, O, ?_⟩
    obtain ⟨N, N9, hN⟩ := a8 p (by omega)
    have mf : ∀ s x, s ≠ 503 → s ≠ 504 → s ≠ 506 → s ≠ 508 → s ≠ 509 → s ≠ 511 → ¬ (s = 502 ∧ 6 ≤ x ∧ x < 9) → ¬ (s = 500 ∧ (x = 52 ∨ x = 53 ∨ x = 54)) → m1.1 s x = m.1 s x := by
      intro s x s1 s2 s3 s4 s5 s6 s7 s8
      rw [b4 s x s7 (fun t hm e => by
        exfalso
        revert hm
        simp only [mR, List.mem_cons, List.not_mem_nil, or_false, Prod.ext_iff]
        omega) (by omega), ui_rd]
      by_cases s9 : s = 500
      · rw [if_pos s9, if_neg (by omega)]
      · rw [if_neg s9]
    have h2 : ∀ i, i < 6 ∨ 9 ≤ i → m1.1 502 i = m.1 502 i := fun i hi => mf 502 i (by omega) (by omega) (by omega) (by omega) (by omega) (by omega) (by omega) (by omega)
    have hs : ∀ s, s ≠ 502 → s ≠ 500 → s ≠ 503 → s ≠ 504 → s ≠ 506 → s ≠ 508 → s ≠ 509 → s ≠ 511 → m1.1 s = m.1 s := fun s s1 s2 s3 s4 s5 s6 s7 s8 => funext (fun x => mf s x (by omega) (by omega) (by omega) (by omega) (by omega) (by omega) (by omega) (by omega))
    have cf : ∀ k, k ≠ 120 → k ≠ 122 → (ur (ui c 120 3 (nI p)) (120 + 2) (va_cpy ((ui c 120 3 (nI p)).1 (120 + 3)) ((ui c 120 3 (nI p)).1 (120 + 2)) (p * 41) 0 41)).1 k = c.1 k := by
      intro k k1 k2
      funext i
      simp only [ur_rd, ui_rd, Nat.reduceAdd, k1, k2, if_false]
    have cf0 : ∀ i, i ≠ 3 → (ur (ui c 120 3 (nI p)) (120 + 2) (va_cpy ((ui c 120 3 (nI p)).1 (120 + 3)) ((ui c 120 3 (nI p)).1 (120 + 2)) (p * 41) 0 41)).1 120 i = c.1 120 i := by
      intro i hi
      simp only [ur_rd, ui_rd, Nat.reduceAdd, Nat.reduceEqDiff, if_true, if_false, hi]
    obtain ⟨d1, d2, d3, d4⟩ := hp0.base (m1 := m1) (fun k k1 k2 => cf k (by omega) (by omega)) (fun i hi => h2 i (by omega)) (mf 500 28 (by omega) (by omega) (by omega) (by omega) (by omega) (by omega) (by omega) (by omega)) (fun s hs' => hs s (by omega) (by omega) (by omega) (by omega) (by omega) (by omega) (by omega) (by omega))
    refine h.page (CP.of (fun k hk => cf k (by omega) (by omega)) rfl) ⟨⟨mf _ _ (by omega) (by omega) (by omega) (by omega) (by omega) (by omega) (by omega) (by omega), mf _ _ (by omega) (by omega) (by omega) (by omega) (by omega) (by omega) (by omega) (by omega), mf _ _ (by omega) (by omega) (by omega) (by omega) (by omega) (by omega) (by omega) (by omega), mf _ _ (by omega) (by omega) (by omega) (by omega) (by omega) (by omega) (by omega) (by omega)⟩, fun s s1 s2 => hs s (by omega) (by omega) (by omega) (by omega) (by omega) (by omega) (by omega) (by omega), fun i _ => by rw [hs 559 (by omega) (by omega) (by omega) (by omega) (by omega) (by omega) (by omega) (by omega)], hs 560 (by omega) (by omega) (by omega) (by omega) (by omega) (by omega) (by omega) (by omega), hs 561 (by omega) (by omega) (by omega) (by omega) (by omega) (by omega) (by omega) (by omega)⟩ ?_
    refine ⟨d1, d2, d3, ⟨N, N9, ?_⟩, ⟨p, by omega, ?_, e52, fun i hi => ?_⟩, d4, ⟨B, B9, ?_, ?_, ?_⟩, ⟨?_, ?_⟩, ?_, ?_⟩
    · refine hN.cg hH hO (fun j hj => ?_) (fun k hk => ⟨?_, ?_, ?_, ?_⟩) (fun q hq => ⟨?_, ?_⟩) (fun j j1 j2 => ?_) (fun k hk => ⟨?_, ?_⟩) (fun q hq => ?_) ?_ ?_
      · simp only [ur_rd, ui_rd, Nat.reduceAdd, Nat.reduceEqDiff, if_true, if_false]
        rw [pk_cpy_in (by omega) (by omega), show p * 41 + (j - 0) = 41 * p + j by omega]
        simp only [ui_rd, Nat.reduceEqDiff, if_false]
      · exact b3 (503, 8, 41 * p + 3) (by simp [mR, offs]) k hk
      · exact b3 (504, 8, 41 * p + 11) (by simp [mR, offs]) k hk
      · exact b3 (506, 8, 41 * p + 19) (by simp [mR, offs]) k hk
      · exact b3 (508, 8, 41 * p + 27) (by simp [mR, offs]) k hk
      · exact b3 (509, 3, 41 * p + 35) (by simp [mR, offs]) q hq
      · exact b3 (511, 3, 41 * p + 38) (by simp [mR, offs]) q hq
      · rcases (show j = 6 ∨ j = 7 ∨ j = 8 by omega) with rfl | rfl | rfl
        · exact b2 0 (by omega)
        · exact b2 1 (by omega)
        · exact b2 2 (by omega)
      · simp only [pv, Nat.reduceEqDiff, if_false, hs 505 (by omega) (by omega) (by omega) (by omega) (by omega) (by omega) (by omega) (by omega)]
      · simp only [pv, Nat.reduceEqDiff, if_false, hs 507 (by omega) (by omega) (by omega) (by omega) (by omega) (by omega) (by omega) (by omega)]
      · simp only [pv, Nat.reduceEqDiff, if_false, hs 510 (by omega) (by omega) (by omega) (by omega) (by omega) (by omega) (by omega) (by omega)]
      · simp only [pv, Nat.reduceEqDiff, if_true, if_false, h2 0 (by omega)]
      · simp only [pv, Nat.reduceEqDiff, if_true, if_false, h2 1 (by omega)]
    · simp only [ur_rd, ui_rd, Nat.reduceAdd, Nat.reduceEqDiff, if_true, if_false]
    · obtain ⟨N', n9, hN'⟩ := a8 i (by omega)
      exact ⟨N', n9, hN'.pvq hH hO (fun j _ => by rw [cf (120 + 3) (by omega) (by omega)]) (hs 551 (by omega) (by omega) (by omega) (by omega) (by omega) (by omega) (by omega) (by omega)) (hs 505 (by omega) (by omega) (by omega) (by omega) (by omega) (by omega) (by omega) (by omega)) (hs 507 (by omega) (by omega) (by omega) (by omega) (by omega) (by omega) (by omega) (by omega)) (hs 510 (by omega) (by omega) (by omega) (by omega) (by omega) (by omega) (by omega) (by omega)) (h2 0 (by omega)) (h2 1 (by omega))⟩
    · rw [cf0 7 (by omega)]
      exact a10
    · rw [h2 9 (by omega)]
      exact a11
    · rw [cf (120 + 5) (by omega) (by omega), cf (120 + 6) (by omega) (by omega), cf (120 + 7) (by omega) (by omega), hs 513 (by omega) (by omega) (by omega) (by omega) (by omega) (by omega) (by omega) (by omega), hs 514 (by omega) (by omega) (by omega) (by omega) (by omega) (by omega) (by omega) (by omega), hs 515 (by omega) (by omega) (by omega) (by omega) (by omega) (by omega) (by omega) (by omega)]
      exact a12
    · rw [cf0 8 (by omega), h2 11 (by omega)]
      exact a13
    · rw [h2 11 (by omega)]
      exact a14
    · rw [cf0 9 (by omega), h2 10 (by omega)]
      exact a15
    · rw [h2 10 (by omega)]
      exact a16
