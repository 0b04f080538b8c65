/-! pages: what an image holds -/
/-- a row and what bounds it -/
def RowOK (H O N : Nat) (r : Nat → Int32) (w : St) : Prop := RowR H O r w ∧ Way H O w ∧ Wm H w ∧ Bd H O w ∧ w.1 502 6 = nI N
theorem NR.mk {H O N a : Nat} {c m : St} (h1 : LandR H O c 134 m) (h2 : SnowR c 134 m) (h3 : RowOK H O N (c.1 a) m) : NR H O N a c m := ⟨h1, h2, h3⟩
/-- how many places of a slot of the reference belong to a page -/
def lenM (s : Nat) : Nat := if s = 502 then 12 else if s < 503 then 0 else if s ≤ 508 then 8 else if s ≤ 511 then 3 else if s = 512 then 100 else if s ≤ 515 then 10 else if s ≤ 518 then 8 else if s = 519 then 3 else if s = 551 then 820 else 0
/-- two memories of the reference show the same page -/
def PE (v v1 : St) : Prop := v1.1 500 28 = v.1 500 28 ∧ v1.1 500 52 = v.1 500 52 ∧ ∀ s i, i < lenM s → v1.1 s i = v.1 s i
theorem PE.rf {v : St} : PE v v := ⟨rfl, rfl, fun _ _ _ => rfl⟩
theorem PE.tr {v v1 v2 : St} (h1 : PE v v1) (h2 : PE v1 v2) : PE v v2 := ⟨h2.1.trans h1.1, h2.2.1.trans h1.2.1, fun s i hi => (h2.2.2 s i hi).trans (h1.2.2 s i hi)⟩
theorem PE.sy {v v1 : St} (h1 : PE v v1) : PE v1 v := ⟨h1.1.symm, h1.2.1.symm, fun s i hi => (h1.2.2 s i hi).symm⟩
/-- row i of the past, as the reference keeps it -/
def pv (v : St) (i : Nat) : St := (fun s j => if s = 502 then (if j = 6 then v.1 551 (41 * i) else if j = 7 then v.1 551 (41 * i + 1) else if j = 8 then v.1 551 (41 * i + 2) else v.1 502 j) else if s = 503 then v.1 551 (41 * i + 3 + j) else if s = 504 then v.1 551 (41 * i + 11 + j) else if s = 506 then v.1 551 (41 * i + 19 + j) else if s = 508 then v.1 551 (41 * i + 27 + j) else if s = 509 then v.1 551 (41 * i + 35 + j) else if s = 511 then v.1 551 (41 * i + 38 + j) else v.1 s j, v.2)
/-- the row as the text told it -/
def bv (v : St) : St := (fun s j => if s = 502 then (if j = 6 then nI 0 else if j = 7 then nI 0 else if j = 8 then nI 0 else v.1 502 j) else if s = 503 then v.1 516 j else if s = 504 then v.1 517 j else if s = 506 then v.1 518 j else if s = 508 then -nI 1 else if s = 509 then v.1 519 j else if s = 511 then nI 0 else v.1 s j, v.2)
/-- the two sides' page -/
def PageR (H O R b : Nat) (c v : St) : Prop :=
  (c.1 (b + 14) 0 = v.1 500 28 ∧ c.1 (b + 14) 1 = v.1 502 0 ∧ ((v.1 500 28 = nI 0 ∧ H = 0 ∧ O = 0) ∨ v.1 500 28 = nI 1)) ∧ LandR H O c (b + 14) v ∧ SnowR c (b + 14) v ∧ (∃ N, N ≤ 999 ∧ RowOK H O N (c.1 (b + 2)) v) ∧ (∃ P, P ≤ 20 ∧ c.1 b 3 = nI P ∧ v.1 500 52 = nI P ∧ ∀ i, i < P → ∃ N, N ≤ 999 ∧ RowOK H O N (fun j => c.1 (b + 3) (41 * i + j)) (pv v i)) ∧ RowOK H O 0 (c.1 (b + 27)) (bv v) ∧ (∃ B, B ≤ 10 ∧ c.1 b 7 = nI B ∧ v.1 502 9 = nI B ∧ ∀ i, i < B → (c.1 (b + 5) i = v.1 513 i ∧ c.1 (b + 6) i = v.1 514 i ∧ c.1 (b + 7) i = v.1 515 i) ∧ (∃ n, n ≤ 60 ∧ v.1 513 i = nI n) ∧ ∃ h, h < H ∧ v.1 514 i = nI h) ∧ (c.1 b 8 = v.1 502 11 ∧ (v.1 502 11 = -nI 1 ∨ ∃ r, r < R ∧ v.1 502 11 = nI r)) ∧ c.1 b 9 = v.1 502 10 ∧ ∃ x, x < 2147483648 ∧ v.1 502 10 = nI x
theorem RowR.cg {H O : Nat} {r r1 : Nat → Int32} {w w1 : St} (hH : H ≤ 8) (hO : O ≤ 3) (h : RowR H O r w) (hr : ∀ i, i < 41 → r1 i = r i) (h8 : ∀ k, k < 8 → w1.1 503 k = w.1 503 k ∧ w1.1 504 k = w.1 504 k ∧ w1.1 506 k = w.1 506 k ∧ w1.1 508 k = w.1 508 k) (h3 : ∀ q, q < 3 → w1.1 509 q = w.1 509 q ∧ w1.1 511 q = w.1 511 q) (hs : ∀ j, 6 ≤ j → j ≤ 8 → w1.1 502 j = w.1 502 j) : RowR H O r1 w1 := by
  obtain ⟨r1', r2, r3, r4, r5, r6⟩ := h
  refine ⟨fun k hk => ?_, fun q hq => ?_, ?_, ?_, ?_, fun q h1 h2 => ?_⟩
  · obtain ⟨a1, a2, a3, a4⟩ := h8 k (by omega)
    rw [hr _ (by omega), hr _ (by omega), hr _ (by omega), hr _ (by omega), a1, a2, a3, a4]
    exact r1' k hk
  · obtain ⟨a1, a2⟩ := h3 q (by omega)
    rw [hr _ (by omega), hr _ (by omega), a1, a2]
    exact r2 q hq
  · rw [hr _ (by omega), hs _ (by omega) (by omega)]
    exact r3
  · rw [hr _ (by omega), hs _ (by omega) (by omega)]
    exact r4
  · rw [hr _ (by omega), hs _ (by omega) (by omega)]
    exact r5
  · rw [hr _ (by omega)]
    exact r6 q h1 h2
theorem RowOK.cg {H O N : Nat} {r r1 : Nat → Int32} {w w1 : St} (hH : H ≤ 8) (hO : O ≤ 3) (h : RowOK H O N r w) (hr : ∀ i, i < 41 → r1 i = r i) (h8 : ∀ k, k < 8 → w1.1 503 k = w.1 503 k ∧ w1.1 504 k = w.1 504 k ∧ w1.1 506 k = w.1 506 k ∧ w1.1 508 k = w.1 508 k) (h3 : ∀ q, q < 3 → w1.1 509 q = w.1 509 q ∧ w1.1 511 q = w.1 511 q) (hs : ∀ j, 6 ≤ j → j ≤ 8 → w1.1 502 j = w.1 502 j) (g8 : ∀ k, k < 8 → w1.1 505 k = w.1 505 k ∧ w1.1 507 k = w.1 507 k) (g3 : ∀ q, q < 3 → w1.1 510 q = w.1 510 q) (g0 : w1.1 502 0 = w.1 502 0) (g1 : w1.1 502 1 = w.1 502 1) : RowOK H O N r1 w1 := by
  obtain ⟨a1, ⟨w1', w2⟩, a3, ⟨b1, b2, b3, b4, b5⟩, a5⟩ := h
  refine ⟨a1.cg hH hO hr h8 h3 hs, ⟨fun h k hh hk => ?_, fun q hq => ?_⟩, fun h hh => ?_, ⟨fun h hh => ?_, fun q hq => ?_, ?_, ?_, ?_⟩, ?_⟩
  · rw [(g8 h (by omega)).2, (g8 k (by omega)).2]
    exact w1' h k hh hk
  · rw [(h3 q (by omega)).1]
    exact w2 q hq
  · rw [(h8 h (by omega)).1, (g8 h (by omega)).1]
    exact a3 h hh
  · obtain ⟨c1, c2, c3, c4⟩ := h8 h (by omega)
    rw [c3, c4, (g8 h (by omega)).2]
    exact b1 h hh
  · rw [(h3 q (by omega)).2, g3 q (by omega)]
    exact b2 q hq
  · rw [hs 7 (by omega) (by omega)]
    exact b3
  · rw [g0]
    exact b4
  · rw [g1]
    exact b5
  · rw [hs 6 (by omega) (by omega)]
    exact a5
/-- the class's two pages at b and o agree -/
def PC (b o : Nat) (c c1 : St) : Prop := (∀ i, i = 3 ∨ i = 7 ∨ i = 8 ∨ i = 9 → c1.1 b i = c.1 o i) ∧ (∀ i, i < 41 → c1.1 (b + 2) i = c.1 (o + 2) i) ∧ (∀ i, i < 820 → c1.1 (b + 3) i = c.1 (o + 3) i) ∧ (∀ i, i < 10 → c1.1 (b + 5) i = c.1 (o + 5) i ∧ c1.1 (b + 6) i = c.1 (o + 6) i ∧ c1.1 (b + 7) i = c.1 (o + 7) i) ∧ (∀ i, i < 8 → c1.1 (b + 14) i = c.1 (o + 14) i ∧ c1.1 (b + 23) i = c.1 (o + 23) i ∧ c1.1 (b + 24) i = c.1 (o + 24) i) ∧ (∀ i, i < 3 → c1.1 (b + 25) i = c.1 (o + 25) i) ∧ (∀ i, i < 6 → c1.1 (b + 26) i = c.1 (o + 26) i) ∧ ∀ i, i < 41 → c1.1 (b + 27) i = c.1 (o + 27) i
theorem PC.same {b : Nat} {c c1 : St} (h : ∀ k, b ≤ k → k < b + 28 → c1.1 k = c.1 k) : PC b b c c1 := by
  refine ⟨fun i _ => ?_, fun i _ => ?_, fun i _ => ?_, fun i _ => ⟨?_, ?_, ?_⟩, fun i _ => ⟨?_, ?_, ?_⟩, fun i _ => ?_, fun i _ => ?_, fun i _ => ?_⟩ <;> rw [h _ (by omega) (by omega)]
theorem LandR.cg {H O b o : Nat} {c c1 v v1 : St} (h : LandR H O c (o + 14) v) (hc : PC b o c c1) (hv : PE v v1) : LandR H O c1 (b + 14) v1 := by
  obtain ⟨-, -, -, -, q8, q3, -, -⟩ := hc
  obtain ⟨-, -, p⟩ := hv
  obtain ⟨h8, h3, a1, a2, a3, a4, a5, a6, a7, a8, a9⟩ := h
  have p2 : ∀ i, i < 12 → v1.1 502 i = v.1 502 i := fun i hi => p 502 i hi
  refine ⟨h8, h3, ?_, ?_, ?_, ?_, ?_, ?_, ?_, fun h hh => ⟨?_, ?_⟩, fun q hq => ?_⟩
  · rw [(q8 2 (by omega)).1, p2 1 (by omega)]
    exact a1
  · rw [(q8 3 (by omega)).1, p2 2 (by omega)]
    exact a2
  · rw [(q8 4 (by omega)).1]
    exact a3
  · rw [p2 3 (by omega)]
    exact a4
  · rw [(q8 5 (by omega)).1, p2 4 (by omega)]
    exact a5
  · rw [(q8 6 (by omega)).1]
    exact a6
  · rw [p2 5 (by omega)]
    exact a7
  · rw [show b + 14 + 9 = b + 23 by omega, (q8 h (by omega)).2.1, p 505 h (show h < 8 by omega)]
    exact (a8 h hh).1
  · rw [show b + 14 + 10 = b + 24 by omega, (q8 h (by omega)).2.2, p 507 h (show h < 8 by omega)]
    exact (a8 h hh).2
  · rw [show b + 14 + 11 = b + 25 by omega, q3 q (by omega), p 510 q (show q < 3 by omega)]
    exact a9 q hq
theorem SnowR.cg {b o : Nat} {c c1 v v1 : St} (h : SnowR c (o + 14) v) (hc : PC b o c c1) (hv : PE v v1) : SnowR c1 (b + 14) v1 := by
  obtain ⟨-, -, -, -, q8, -, q6, -⟩ := hc
  obtain ⟨-, -, p⟩ := hv
  obtain ⟨S, s6, e, hk⟩ := h
  refine ⟨S, s6, ?_, fun k hk9 => ?_⟩
  · rw [(q8 7 (by omega)).1]
    exact e
  · refine Iff.trans ?_ ((hk k hk9).trans ?_)
    · constructor
      · rintro ⟨j, j1, j2⟩
        refine ⟨j, j1, ?_⟩
        rw [show b + 14 + 12 = b + 26 by omega, q6 j (by omega)] at j2
        exact j2
      · rintro ⟨j, j1, j2⟩
        refine ⟨j, j1, ?_⟩
        rw [show b + 14 + 12 = b + 26 by omega, q6 j (by omega)]
        exact j2
    · constructor
      · rintro ⟨j1, j2⟩
        refine ⟨j1, ?_⟩
        rw [p 512 k j1]
        exact j2
      · rintro ⟨j1, j2⟩
        refine ⟨j1, ?_⟩
        rw [p 512 k j1] at j2
        exact j2
theorem RowOK.pe {H O N : Nat} {r r1 : Nat → Int32} {v v1 : St} (hH : H ≤ 8) (hO : O ≤ 3) (h : RowOK H O N r v) (hr : ∀ i, i < 41 → r1 i = r i) (hv : PE v v1) : RowOK H O N r1 v1 := by
  have p := hv.2.2
  refine h.cg hH hO hr (fun k hk => ⟨p 503 k hk, p 504 k hk, p 506 k hk, p 508 k hk⟩) (fun q hq => ⟨p 509 q hq, p 511 q hq⟩) (fun j j1 j2 => p 502 j (show j < 12 by omega)) (fun k hk => ⟨p 505 k hk, p 507 k hk⟩) (fun q hq => p 510 q hq) (p 502 0 (show 0 < 12 by omega)) (p 502 1 (show 1 < 12 by omega))
theorem PE.pvw {v v1 : St} {i : Nat} (hi : i < 20) (hv : PE v v1) : PE (pv v i) (pv v1 i) := by
  obtain ⟨p0, p1, p⟩ := hv
  have q : ∀ j, j < 820 → v1.1 551 j = v.1 551 j := fun j hj => p 551 j hj
  refine ⟨p0, p1, fun s j hj => ?_⟩
  have hp := p s j hj
  unfold pv
  simp only
  by_cases s2 : s = 502
  · subst s2
    simp only [if_true]
    rw [q _ (by omega), q _ (by omega), q _ (by omega), hp]
  · simp only [s2, if_false]
    by_cases s3 : s = 503
    · subst s3
      have hj' : j < 8 := hj
      exact q _ (by omega)
    · by_cases s4 : s = 504
      · subst s4
        have hj' : j < 8 := hj
        exact q _ (by omega)
      · by_cases s6 : s = 506
        · subst s6
          have hj' : j < 8 := hj
          exact q _ (by omega)
        · by_cases s8 : s = 508
          · subst s8
            have hj' : j < 8 := hj
            exact q _ (by omega)
          · by_cases s9 : s = 509
            · subst s9
              have hj' : j < 3 := hj
              exact q _ (by omega)
            · by_cases s11 : s = 511
              · subst s11
                have hj' : j < 3 := hj
                exact q _ (by omega)
              · simp only [s3, s4, s6, s8, s9, s11, if_false]
                exact hp
theorem PE.bvw {v v1 : St} (hv : PE v v1) : PE (bv v) (bv v1) := by
  obtain ⟨p0, p1, p⟩ := hv
  refine ⟨p0, p1, fun s j hj => ?_⟩
  have hp := p s j hj
  unfold bv
  simp only
  by_cases s2 : s = 502
  · subst s2
    simp only [if_true]
    rw [hp]
  · simp only [s2, if_false]
    by_cases s3 : s = 503
    · subst s3
      exact p 516 j hj
    · by_cases s4 : s = 504
      · subst s4
        exact p 517 j hj
      · by_cases s6 : s = 506
        · subst s6
          exact p 518 j hj
        · by_cases s8 : s = 508
          · subst s8
            rfl
          · by_cases s9 : s = 509
            · subst s9
              exact p 519 j hj
            · by_cases s11 : s = 511
              · subst s11
                rfl
              · simp only [s3, s4, s6, s8, s9, s11, if_false]
                exact hp
theorem PageR.cg {H O R b o : Nat} {c c1 v v1 : St} (h : PageR H O R o c v) (hc : PC b o c c1) (hv : PE v v1) : PageR H O R b c1 v1 := by
  obtain ⟨⟨a1, a2, a2b⟩, a3, a4, ⟨N, N9, a5⟩, ⟨P, P9, a6, a7, a8⟩, a9, ⟨B, B9, a10, a11, a12⟩, ⟨a13, a14⟩, a15, a16⟩ := h
  have hH := a3.1
  have hO := a3.2.1
  have hc0 := hc
  have hv0 := hv
  obtain ⟨c0, c2, c3, c5, c14, -, -, c27⟩ := hc
  obtain ⟨p0, p1, p⟩ := hv
  have p2 : ∀ i, i < 12 → v1.1 502 i = v.1 502 i := fun i hi => p 502 i hi
  refine ⟨⟨?_, ?_, ?_⟩, a3.cg hc0 hv0, a4.cg hc0 hv0, ⟨N, N9, a5.pe hH hO c2 hv0⟩, ⟨P, P9, ?_, ?_, fun i hi => ?_⟩, a9.pe hH hO c27 hv0.bvw, ⟨B, B9, ?_, ?_, fun i hi => ?_⟩, ⟨?_, ?_⟩, ?_, ?_⟩
  · rw [(c14 0 (by omega)).1, p0]
    exact a1
  · rw [(c14 1 (by omega)).1, p2 0 (by omega)]
    exact a2
  · rw [p0]
    exact a2b
  · rw [c0 3 (by omega)]
    exact a6
  · rw [p1]
    exact a7
  · obtain ⟨N', n9, hr⟩ := a8 i hi
    exact ⟨N', n9, hr.pe hH hO (fun j hj => c3 _ (by omega)) (hv0.pvw (by omega))⟩
  · rw [c0 7 (by omega)]
    exact a10
  · rw [p2 9 (by omega)]
    exact a11
  · obtain ⟨b1, b2, b3⟩ := a12 i hi
    obtain ⟨d1, d2, d3⟩ := c5 i (by omega)
    rw [d1, d2, d3, p 513 i (show i < 10 by omega), p 514 i (show i < 10 by omega), p 515 i (show i < 10 by omega)]
    exact ⟨b1, b2, b3⟩
  · rw [c0 8 (by omega), p2 11 (by omega)]
    exact a13
  · rw [p2 11 (by omega)]
    exact a14
  · rw [c0 9 (by omega), p2 10 (by omega)]
    exact a15
  · rw [p2 10 (by omega)]
    exact a16
