/-! one number of a row changes -/
theorem RowR.warm {H O : Nat} {r r1 : Nat → Int32} {m : St} {v : Int32} {h : Nat} (hh : h < H) (hH : H ≤ 8) (hO : O ≤ 3) (hr : RowR H O r m) (h1 : ∀ i, r1 i = if i = h then v else r i) : RowR H O r1 (ui m 503 h v) := by
  obtain ⟨r1', r2, r3, r4, r5, r6⟩ := hr
  simp only [RowR, ui_rd, h1, Nat.reduceEqDiff, if_true, if_false]
  refine ⟨fun h' hh' => ?_, fun q' hq' => ?_, ?_, ?_, ?_, fun q' hq' hq3 => ?_⟩
  · have e := r1' h' hh'
    clear r1' r2 r6 h1
    refine ⟨?_, ?_, ?_, ?_⟩ <;> grind
  · have e := r2 q' hq'
    clear r1' r2 r6 h1
    grind
  · clear r1' r2 r6 h1
    grind
  · clear r1' r2 r6 h1
    grind
  · clear r1' r2 r6 h1
    grind
  · have e := r6 q' hq' hq3
    clear r1' r2 r6 h1
    grind
theorem RowR.wood {H O : Nat} {r r1 : Nat → Int32} {m : St} {v : Int32} {h : Nat} (hh : h < H) (hH : H ≤ 8) (hO : O ≤ 3) (hr : RowR H O r m) (h1 : ∀ i, r1 i = if i = 8 + h then v else r i) : RowR H O r1 (ui m 504 h v) := by
  obtain ⟨r1', r2, r3, r4, r5, r6⟩ := hr
  simp only [RowR, ui_rd, h1, Nat.reduceEqDiff, if_true, if_false]
  refine ⟨fun h' hh' => ?_, fun q' hq' => ?_, ?_, ?_, ?_, fun q' hq' hq3 => ?_⟩
  · have e := r1' h' hh'
    clear r1' r2 r6 h1
    refine ⟨?_, ?_, ?_, ?_⟩ <;> grind
  · have e := r2 q' hq'
    clear r1' r2 r6 h1
    grind
  · clear r1' r2 r6 h1
    grind
  · clear r1' r2 r6 h1
    grind
  · clear r1' r2 r6 h1
    grind
  · have e := r6 q' hq' hq3
    clear r1' r2 r6 h1
    grind
theorem RowR.hid {H O : Nat} {r r1 : Nat → Int32} {m : St} {v : Int32} {h : Nat} (hh : h < H) (hH : H ≤ 8) (hO : O ≤ 3) (hr : RowR H O r m) (h1 : ∀ i, r1 i = if i = 16 + h then v else r i) : RowR H O r1 (ui m 506 h v) := by
  obtain ⟨r1', r2, r3, r4, r5, r6⟩ := hr
  simp only [RowR, ui_rd, h1, Nat.reduceEqDiff, if_true, if_false]
  refine ⟨fun h' hh' => ?_, fun q' hq' => ?_, ?_, ?_, ?_, fun q' hq' hq3 => ?_⟩
  · have e := r1' h' hh'
    clear r1' r2 r6 h1
    refine ⟨?_, ?_, ?_, ?_⟩ <;> grind
  · have e := r2 q' hq'
    clear r1' r2 r6 h1
    grind
  · clear r1' r2 r6 h1
    grind
  · clear r1' r2 r6 h1
    grind
  · clear r1' r2 r6 h1
    grind
  · have e := r6 q' hq' hq3
    clear r1' r2 r6 h1
    grind
theorem RowR.has {H O : Nat} {r r1 : Nat → Int32} {m : St} {v : Int32} {q : Nat} (hq : q < O) (hH : H ≤ 8) (hO : O ≤ 3) (hr : RowR H O r m) (h1 : ∀ i, r1 i = if i = 35 + q then v else r i) : RowR H O r1 (ui m 511 q v) := by
  obtain ⟨r1', r2, r3, r4, r5, r6⟩ := hr
  simp only [RowR, ui_rd, h1, Nat.reduceEqDiff, if_true, if_false]
  refine ⟨fun h' hh' => ?_, fun q' hq' => ?_, ?_, ?_, ?_, fun q' hq' hq3 => ?_⟩
  · have e := r1' h' hh'
    clear r1' r2 r6 h1
    refine ⟨?_, ?_, ?_, ?_⟩ <;> grind
  · have e := r2 q' hq'
    clear r1' r2 r6 h1
    grind
  · clear r1' r2 r6 h1
    grind
  · clear r1' r2 r6 h1
    grind
  · clear r1' r2 r6 h1
    grind
  · have e := r6 q' hq' hq3
    clear r1' r2 r6 h1
    grind
theorem RowR.frz {H O : Nat} {r r1 : Nat → Int32} {m : St} {v : Int32} (hH : H ≤ 8) (hO : O ≤ 3) (hr : RowR H O r m) (h1 : ∀ i, r1 i = if i = 38 then v else r i) : RowR H O r1 (ui m 502 7 v) := by
  obtain ⟨r1', r2, r3, r4, r5, r6⟩ := hr
  simp only [RowR, ui_rd, h1, Nat.reduceEqDiff, if_true, if_false]
  refine ⟨fun h' hh' => ?_, fun q' hq' => ?_, ?_, ?_, ?_, fun q' hq' hq3 => ?_⟩
  · have e := r1' h' hh'
    clear r1' r2 r6 h1
    refine ⟨?_, ?_, ?_, ?_⟩ <;> grind
  · have e := r2 q' hq'
    clear r1' r2 r6 h1
    grind
  · clear r1' r2 r6 h1
    grind
  · clear r1' r2 r6 h1
    grind
  · clear r1' r2 r6 h1
    grind
  · have e := r6 q' hq' hq3
    clear r1' r2 r6 h1
    grind
theorem RowR.hill {H O : Nat} {r r1 : Nat → Int32} {m : St} {v : Int32} (hH : H ≤ 8) (hO : O ≤ 3) (hr : RowR H O r m) (h1 : ∀ i, r1 i = if i = 40 then v else r i) : RowR H O r1 (ui m 502 8 v) := by
  obtain ⟨r1', r2, r3, r4, r5, r6⟩ := hr
  simp only [RowR, ui_rd, h1, Nat.reduceEqDiff, if_true, if_false]
  refine ⟨fun h' hh' => ?_, fun q' hq' => ?_, ?_, ?_, ?_, fun q' hq' hq3 => ?_⟩
  · have e := r1' h' hh'
    clear r1' r2 r6 h1
    refine ⟨?_, ?_, ?_, ?_⟩ <;> grind
  · have e := r2 q' hq'
    clear r1' r2 r6 h1
    grind
  · clear r1' r2 r6 h1
    grind
  · clear r1' r2 r6 h1
    grind
  · clear r1' r2 r6 h1
    grind
  · have e := r6 q' hq' hq3
    clear r1' r2 r6 h1
    grind
theorem RowOK.warm {H O N : Nat} {r r1 : Nat → Int32} {m : St} {h v : Nat} (hh : h < H) (hv : v ≤ 999) (hH : H ≤ 8) (hO : O ≤ 3) (hk : RowOK H O N r m) (h1 : ∀ i, r1 i = if i = h then nI v else r i) : RowOK H O N r1 (ui m 503 h (nI v)) := by
  obtain ⟨a1, ⟨w1, w2⟩, a3, ⟨b1, b2, b3, b4, b5⟩, a5⟩ := hk
  refine ⟨a1.warm hh hH hO h1, ⟨fun h' k' hh' hk' => ?_, fun q' hq' => ?_⟩, fun h' hh' => ?_, ⟨fun h' hh' => ?_, fun q' hq' => ?_, ?_, ?_, ?_⟩, ?_⟩
  · simp only [ui_rd, Nat.reduceEqDiff, if_false]
    exact w1 h' k' hh' hk'
  · simp only [ui_rd, Nat.reduceEqDiff, if_false]
    exact w2 q' hq'
  · obtain ⟨⟨w, w9, ew⟩, et⟩ := a3 h' hh'
    simp only [ui_rd, Nat.reduceEqDiff, if_true, if_false]
    refine ⟨?_, et⟩
    by_cases e : h' = h
    · rw [if_pos e]
      exact ⟨v, hv, rfl⟩
    · rw [if_neg e]
      exact ⟨w, w9, ew⟩
  · simp only [ui_rd, Nat.reduceEqDiff, if_true, if_false]
    exact b1 h' hh'
  · simp only [ui_rd, Nat.reduceEqDiff, if_true, if_false]
    exact b2 q' hq'
  · simp only [ui_rd, Nat.reduceEqDiff, if_true, if_false]
    exact b3
  · simp only [ui_rd, Nat.reduceEqDiff, if_true, if_false]
    exact b4
  · simp only [ui_rd, Nat.reduceEqDiff, if_true, if_false]
    exact b5
  · simp only [ui_rd, Nat.reduceEqDiff, if_true, if_false]
    exact a5
theorem RowOK.wood {H O N : Nat} {r r1 : Nat → Int32} {m : St} {h : Nat} {v : Int32} (hh : h < H) (hH : H ≤ 8) (hO : O ≤ 3) (hk : RowOK H O N r m) (h1 : ∀ i, r1 i = if i = 8 + h then v else r i) : RowOK H O N r1 (ui m 504 h (v)) := by
  obtain ⟨a1, ⟨w1, w2⟩, a3, ⟨b1, b2, b3, b4, b5⟩, a5⟩ := hk
  refine ⟨a1.wood hh hH hO h1, ⟨fun h' k' hh' hk' => ?_, fun q' hq' => ?_⟩, fun h' hh' => ?_, ⟨fun h' hh' => ?_, fun q' hq' => ?_, ?_, ?_, ?_⟩, ?_⟩
  · simp only [ui_rd, Nat.reduceEqDiff, if_false]
    exact w1 h' k' hh' hk'
  · simp only [ui_rd, Nat.reduceEqDiff, if_false]
    exact w2 q' hq'
  · simp only [ui_rd, Nat.reduceEqDiff, if_true, if_false]
    exact a3 h' hh'
  · simp only [ui_rd, Nat.reduceEqDiff, if_true, if_false]
    exact b1 h' hh'
  · simp only [ui_rd, Nat.reduceEqDiff, if_true, if_false]
    exact b2 q' hq'
  · simp only [ui_rd, Nat.reduceEqDiff, if_true, if_false]
    exact b3
  · simp only [ui_rd, Nat.reduceEqDiff, if_true, if_false]
    exact b4
  · simp only [ui_rd, Nat.reduceEqDiff, if_true, if_false]
    exact b5
  · simp only [ui_rd, Nat.reduceEqDiff, if_true, if_false]
    exact a5
theorem RowOK.hid {H O N : Nat} {r r1 : Nat → Int32} {m : St} {h v : Nat} (hh : h < H) (hv : v ≤ 99) (hH : H ≤ 8) (hO : O ≤ 3) (hk : RowOK H O N r m) (h1 : ∀ i, r1 i = if i = 16 + h then nI v else r i) : RowOK H O N r1 (ui m 506 h (nI v)) := by
  obtain ⟨a1, ⟨w1, w2⟩, a3, ⟨b1, b2, b3, b4, b5⟩, a5⟩ := hk
  refine ⟨a1.hid hh hH hO h1, ⟨fun h' k' hh' hk' => ?_, fun q' hq' => ?_⟩, fun h' hh' => ?_, ⟨fun h' hh' => ?_, fun q' hq' => ?_, ?_, ?_, ?_⟩, ?_⟩
  · simp only [ui_rd, Nat.reduceEqDiff, if_false]
    exact w1 h' k' hh' hk'
  · simp only [ui_rd, Nat.reduceEqDiff, if_false]
    exact w2 q' hq'
  · simp only [ui_rd, Nat.reduceEqDiff, if_true, if_false]
    exact a3 h' hh'
  · obtain ⟨c1, c2⟩ := b1 h' hh'
    simp only [ui_rd, Nat.reduceEqDiff, if_true, if_false]
    refine ⟨?_, c2⟩
    by_cases e : h' = h
    · rw [if_pos e]
      exact ⟨v, hv, rfl⟩
    · rw [if_neg e]
      exact c1
  · simp only [ui_rd, Nat.reduceEqDiff, if_true, if_false]
    exact b2 q' hq'
  · simp only [ui_rd, Nat.reduceEqDiff, if_true, if_false]
    exact b3
  · simp only [ui_rd, Nat.reduceEqDiff, if_true, if_false]
    exact b4
  · simp only [ui_rd, Nat.reduceEqDiff, if_true, if_false]
    exact b5
  · simp only [ui_rd, Nat.reduceEqDiff, if_true, if_false]
    exact a5
theorem RowOK.has {H O N : Nat} {r r1 : Nat → Int32} {m : St} {q v s : Nat} (hq : q < O) (hv : v ≤ s) (hs : s ≤ 200) (es : m.1 510 q = nI s) (hH : H ≤ 8) (hO : O ≤ 3) (hk : RowOK H O N r m) (h1 : ∀ i, r1 i = if i = 35 + q then nI v else r i) : RowOK H O N r1 (ui m 511 q (nI v)) := by
  obtain ⟨a1, ⟨w1, w2⟩, a3, ⟨b1, b2, b3, b4, b5⟩, a5⟩ := hk
  refine ⟨a1.has hq hH hO h1, ⟨fun h' k' hh' hk' => ?_, fun q' hq' => ?_⟩, fun h' hh' => ?_, ⟨fun h' hh' => ?_, fun q' hq' => ?_, ?_, ?_, ?_⟩, ?_⟩
  · simp only [ui_rd, Nat.reduceEqDiff, if_false]
    exact w1 h' k' hh' hk'
  · simp only [ui_rd, Nat.reduceEqDiff, if_false]
    exact w2 q' hq'
  · simp only [ui_rd, Nat.reduceEqDiff, if_true, if_false]
    exact a3 h' hh'
  · simp only [ui_rd, Nat.reduceEqDiff, if_true, if_false]
    exact b1 h' hh'
  · simp only [ui_rd, Nat.reduceEqDiff, if_true, if_false]
    by_cases e : q' = q
    · subst e
      rw [if_pos rfl]
      exact ⟨v, s, hv, hs, rfl, es⟩
    · rw [if_neg e]
      exact b2 q' hq'
  · simp only [ui_rd, Nat.reduceEqDiff, if_true, if_false]
    exact b3
  · simp only [ui_rd, Nat.reduceEqDiff, if_true, if_false]
    exact b4
  · simp only [ui_rd, Nat.reduceEqDiff, if_true, if_false]
    exact b5
  · simp only [ui_rd, Nat.reduceEqDiff, if_true, if_false]
    exact a5
theorem RowOK.frz {H O N : Nat} {r r1 : Nat → Int32} {m : St} {f : Nat} (hf : f < 256) (hH : H ≤ 8) (hO : O ≤ 3) (hk : RowOK H O N r m) (h1 : ∀ i, r1 i = if i = 38 then nI f else r i) : RowOK H O N r1 (ui m 502 7 (nI f)) := by
  obtain ⟨a1, ⟨w1, w2⟩, a3, ⟨b1, b2, b3, b4, b5⟩, a5⟩ := hk
  refine ⟨a1.frz hH hO h1, ⟨fun h' k' hh' hk' => ?_, fun q' hq' => ?_⟩, fun h' hh' => ?_, ⟨fun h' hh' => ?_, fun q' hq' => ?_, ?_, ?_, ?_⟩, ?_⟩
  · simp only [ui_rd, Nat.reduceEqDiff, if_false]
    exact w1 h' k' hh' hk'
  · simp only [ui_rd, Nat.reduceEqDiff, if_false]
    exact w2 q' hq'
  · simp only [ui_rd, Nat.reduceEqDiff, if_true, if_false]
    exact a3 h' hh'
  · simp only [ui_rd, Nat.reduceEqDiff, if_true, if_false]
    exact b1 h' hh'
  · simp only [ui_rd, Nat.reduceEqDiff, if_true, if_false]
    exact b2 q' hq'
  · simp only [ui_rd, Nat.reduceEqDiff, if_true, if_false]
    exact ⟨f, hf, rfl⟩
  · simp only [ui_rd, Nat.reduceEqDiff, if_true, if_false]
    exact b4
  · simp only [ui_rd, Nat.reduceEqDiff, if_true, if_false]
    exact b5
  · simp only [ui_rd, Nat.reduceEqDiff, if_true, if_false]
    exact a5
theorem RowOK.hill {H O N : Nat} {r r1 : Nat → Int32} {m : St} {v : Int32} (hH : H ≤ 8) (hO : O ≤ 3) (hk : RowOK H O N r m) (h1 : ∀ i, r1 i = if i = 40 then v else r i) : RowOK H O N r1 (ui m 502 8 (v)) := by
  obtain ⟨a1, ⟨w1, w2⟩, a3, ⟨b1, b2, b3, b4, b5⟩, a5⟩ := hk
  refine ⟨a1.hill hH hO h1, ⟨fun h' k' hh' hk' => ?_, fun q' hq' => ?_⟩, fun h' hh' => ?_, ⟨fun h' hh' => ?_, fun q' hq' => ?_, ?_, ?_, ?_⟩, ?_⟩
  · simp only [ui_rd, Nat.reduceEqDiff, if_false]
    exact w1 h' k' hh' hk'
  · simp only [ui_rd, Nat.reduceEqDiff, if_false]
    exact w2 q' hq'
  · simp only [ui_rd, Nat.reduceEqDiff, if_true, if_false]
    exact a3 h' hh'
  · simp only [ui_rd, Nat.reduceEqDiff, if_true, if_false]
    exact b1 h' hh'
  · simp only [ui_rd, Nat.reduceEqDiff, if_true, if_false]
    exact b2 q' hq'
  · simp only [ui_rd, Nat.reduceEqDiff, if_true, if_false]
    exact b3
  · simp only [ui_rd, Nat.reduceEqDiff, if_true, if_false]
    exact b4
  · simp only [ui_rd, Nat.reduceEqDiff, if_true, if_false]
    exact b5
  · simp only [ui_rd, Nat.reduceEqDiff, if_true, if_false]
    exact a5
