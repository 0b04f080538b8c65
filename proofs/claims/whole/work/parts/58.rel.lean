/-- image k, as the reference keeps it -/
def vw (m : St) (k : Nat) : St := (fun s j => if s = 502 then m.1 559 (1100 * k + j) else if s = 503 then m.1 559 (1100 * k + 12 + j) else if s = 504 then m.1 559 (1100 * k + 20 + j) else if s = 506 then m.1 559 (1100 * k + 28 + j) else if s = 508 then m.1 559 (1100 * k + 36 + j) else if s = 509 then m.1 559 (1100 * k + 44 + j) else if s = 511 then m.1 559 (1100 * k + 47 + j) else if s = 505 then m.1 559 (1100 * k + 51 + j) else if s = 507 then m.1 559 (1100 * k + 59 + j) else if s = 510 then m.1 559 (1100 * k + 67 + j) else if s = 512 then m.1 559 (1100 * k + 70 + j) else if s = 513 then m.1 559 (1100 * k + 170 + j) else if s = 514 then m.1 559 (1100 * k + 180 + j) else if s = 515 then m.1 559 (1100 * k + 190 + j) else if s = 516 then m.1 559 (1100 * k + 200 + j) else if s = 517 then m.1 559 (1100 * k + 208 + j) else if s = 518 then m.1 559 (1100 * k + 216 + j) else if s = 519 then m.1 559 (1100 * k + 224 + j) else if s = 551 then m.1 559 (1100 * k + 227 + j) else if s = 500 then (if j = 28 then m.1 561 k else if j = 52 then m.1 559 (1100 * k + 50) else m.1 500 j) else m.1 s j, m.2)
/-- a byte as the reference keeps it -/
def sgn (t : Nat) : Int32 := if t < 128 then nI t else -nI (256 - t)
/-- what refers to pages and rules, and which slots stand -/
def RefOK (R : Nat) (c m : St) : Prop := ∀ k i r, c.2.2 k i = some r → (∃ j, j < 4 ∧ r = 160 + 40 * j ∧ m.1 560 j = nI 1) ∨ ∃ j, j ≤ R ∧ r = 400 + 10 * j
def LOK (R : Nat) (m : St) (L : List Nat) : Prop := ∀ k, k ∈ L → k < 160 ∨ (∃ j, j < 4 ∧ m.1 560 j = nI 1 ∧ 160 + 40 * j ≤ k ∧ k < 160 + 40 * j + 28) ∨ ∃ j, j ≤ R ∧ 400 + 10 * j ≤ k ∧ k < 400 + 10 * j + 8
def TapeR (c m : St) : Prop := ∃ T, T ≤ 400 ∧ c.1 0 1 = nI T ∧ m.1 500 29 = nI T ∧ ∀ i, i < T → ∃ t, t < 256 ∧ c.1 1 i = nI t ∧ m.1 540 i = sgn t
def RulesR (R : Nat) (L : List Nat) (c m : St) : Prop := R ≤ 6 ∧ c.1 0 6 = nI R ∧ m.1 500 33 = nI R ∧ (∀ r, r < R → c.2.2 6 r = some (400 + 10 * r) ∧ RuleR r c m) ∧ c.2.2 40 1 = some (400 + 10 * R) ∧ ∀ r, r ≤ R → okRb L (400 + 10 * r) = true
def ImgR (R : Nat) (L : List Nat) (c m : St) : Prop := ∀ k, k < 4 → (m.1 560 k = nI 0 ∧ c.2.2 9 k = none) ∨ (m.1 560 k = nI 1 ∧ c.2.2 9 k = some (160 + 40 * k) ∧ okPb L (160 + 40 * k) = true ∧ ∃ H O, PageR H O R (160 + 40 * k) c (vw m k))
def RelP (R H O : Nat) (L : List Nat) (c m : St) : Prop := TapeR c m ∧ (m.1 500 49 = nI 0 ∧ m.1 500 38 = nI 12) ∧ RulesR R L c m ∧ PageR H O R 120 c m ∧ ImgR R L c m ∧ RefOK R c m ∧ LOK R m L
def Rel (L : List Nat) (c m : St) : Prop := ∃ R H O, RelP R H O L c m
/-- what a trial leaves -/
def CE (c c1 : St) : Prop := (∀ k, k ≤ 1 ∨ 120 ≤ k → c1.1 k = c.1 k) ∧ (∀ k, k ≠ 50 → c1.2.2 k = c.2.2 k) ∧ ∀ i r, c1.2.2 50 i = some r → ∃ k j, c.2.2 k j = some r
def ME (m m1 : St) : Prop := PE m m1 ∧ (m1.1 500 29 = m.1 500 29 ∧ m1.1 500 33 = m.1 500 33 ∧ m1.1 500 38 = m.1 500 38 ∧ m1.1 500 49 = m.1 500 49) ∧ (∀ s, 540 ≤ s → s ≤ 546 → m1.1 s = m.1 s) ∧ (∀ i, i < 4400 → m1.1 559 i = m.1 559 i) ∧ m1.1 560 = m.1 560 ∧ m1.1 561 = m.1 561
theorem CE.rf {c : St} : CE c c := ⟨fun _ _ => rfl, fun _ _ => rfl, fun i r h => ⟨50, i, h⟩⟩
theorem CE.tr {c c1 c2 : St} (h1 : CE c c1) (h2 : CE c1 c2) : CE c c2 := by
  obtain ⟨a1, a2, a3⟩ := h1
  obtain ⟨b1, b2, b3⟩ := h2
  refine ⟨fun k hk => (b1 k hk).trans (a1 k hk), fun k hk => (b2 k hk).trans (a2 k hk), fun i r h => ?_⟩
  obtain ⟨k, j, e⟩ := b3 i r h
  by_cases hk : k = 50
  · subst hk
    exact a3 j r e
  · rw [a2 k hk] at e
    exact ⟨k, j, e⟩
theorem ME.rf {m : St} : ME m m := ⟨PE.rf, ⟨rfl, rfl, rfl, rfl⟩, fun _ _ _ => rfl, fun _ _ => rfl, rfl, rfl⟩
theorem vw_pe {m m1 : St} {k : Nat} (hk : k < 4) (h1 : ∀ i, i < 4400 → m1.1 559 i = m.1 559 i) (h2 : m1.1 561 = m.1 561) : PE (vw m k) (vw m1 k) := by
  refine ⟨?_, ?_, fun s j hj => ?_⟩
  · show m1.1 561 k = m.1 561 k
    rw [h2]
  · show m1.1 559 (1100 * k + 50) = m.1 559 (1100 * k + 50)
    exact h1 _ (by omega)
  · have hs : s = 502 ∨ s = 503 ∨ s = 504 ∨ s = 505 ∨ s = 506 ∨ s = 507 ∨ s = 508 ∨ s = 509 ∨ s = 510 ∨ s = 511 ∨ s = 512 ∨ s = 513 ∨ s = 514 ∨ s = 515 ∨ s = 516 ∨ s = 517 ∨ s = 518 ∨ s = 519 ∨ s = 551 := by
      refine Decidable.byContradiction (fun hc => ?_)
      unfold lenM at hj
      (repeat' split at hj) <;> omega
    rcases hs with rfl | rfl | rfl | rfl | rfl | rfl | rfl | rfl | rfl | rfl | rfl | rfl | rfl | rfl | rfl | rfl | rfl | rfl | rfl <;> simp only [lenM, Nat.reduceEqDiff, Nat.reduceLT, Nat.reduceLeDiff, if_true, if_false] at hj <;> simp only [vw, Nat.reduceEqDiff, if_true, if_false] <;> exact h1 _ (by omega)
theorem RelP.sc {R H O : Nat} {L : List Nat} {c m c1 m1 : St} (h : RelP R H O L c m) (hc : CE c c1) (hm : ME m m1) : RelP R H O L c1 m1 := by
  obtain ⟨⟨T, T4, t1, t2, t3⟩, ⟨z1, z2⟩, ⟨r1, r2, r3, r4, r5, r6⟩, hp, hi, hr, hL⟩ := h
  obtain ⟨a1, a2, a3⟩ := hc
  obtain ⟨b1, ⟨b2, b3, b4, b5⟩, b6, b7, b8, b9⟩ := hm
  refine ⟨⟨T, T4, ?_, ?_, fun i hT => ?_⟩, ⟨?_, ?_⟩, ⟨r1, ?_, ?_, fun r hr' => ⟨?_, ?_⟩, ?_, r6⟩, ?_, fun k hk => ?_, fun k i r e => ?_, ?_⟩
  · rw [a1 0 (by omega)]
    exact t1
  · rw [b2]
    exact t2
  · rw [a1 1 (by omega), b6 540 (by omega) (by omega)]
    exact t3 i hT
  · rw [b5]
    exact z1
  · rw [b4]
    exact z2
  · rw [a1 0 (by omega)]
    exact r2
  · rw [b3]
    exact r3
  · rw [a2 6 (by omega)]
    exact (r4 r hr').1
  · refine (r4 r hr').2.cg (fun k h1 h2 => a1 k (by omega)) ?_ (fun i _ => ⟨?_, ?_, ?_⟩) (fun j _ => ⟨?_, ?_⟩) <;> rw [b6 _ (by omega) (by omega)]
  · rw [a2 40 (by omega)]
    exact r5
  · exact hp.cg (PC.same (fun k h1 h2 => a1 k (by omega))) b1
  · rw [a2 9 (by omega), b8]
    rcases hi k hk with q | ⟨q1, q2, q3, H', O', q4⟩
    · exact Or.inl q
    · exact Or.inr ⟨q1, q2, q3, H', O', q4.cg (PC.same (fun k h1 h2 => a1 k (by omega))) (vw_pe hk b7 b9)⟩
  · rw [b8]
    by_cases hk : k = 50
    · subst hk
      obtain ⟨k', j', e'⟩ := a3 i r e
      exact hr k' j' r e'
    · rw [a2 k hk] at e
      exact hr k i r e
  · unfold LOK
    rw [b8]
    exact hL
