/-! trials: what is kept, and laid back -/
def tR : List (Nat × Nat) := [(502, 12), (503, 8), (504, 8), (506, 8), (508, 8), (509, 3), (511, 3)]
/-- what a trial may change of the reference -/
def tS (s x : Nat) : Prop := s = 502 ∨ s = 503 ∨ s = 504 ∨ s = 506 ∨ s = 508 ∨ s = 509 ∨ s = 511 ∨ (s = 559 ∧ 4400 ≤ x) ∨ (s = 500 ∧ (x = 55 ∨ x = 61 ∨ x = 62)) ∨ s = 557 ∨ s = 558
/-- m is a trial of m0 -/
def SV (m0 m : St) : Prop := (∀ t, t ∈ offs 4400 tR → ∀ j, j < t.2.1 → m.1 559 (t.2.2 + j) = m0.1 t.1 j) ∧ ∀ s x, ¬ tS s x → m.1 s x = m0.1 s x
theorem carries_eq (p2 : Int32) (m : St) : fX10_carriesAll (nI 4) p2 m = gd (bz p2) (carK tR (ui (ui m 500 61 (nI 4400)) 500 62 p2) (fun s => some s)) := by
  unfold fX10_carriesAll
  simp only [lit_nI, pk_mul, nm_eq, if_true]
  rfl
theorem SV.me {m0 m : St} (h : SV m0 m) (hr : ∀ s x, x < lenM s → m.1 s x = m0.1 s x) : ME m0 m := by
  obtain ⟨-, h2⟩ := h
  refine ⟨⟨h2 500 28 (by unfold tS; omega), h2 500 52 (by unfold tS; omega), hr⟩, ⟨h2 500 29 (by unfold tS; omega), h2 500 33 (by unfold tS; omega), h2 500 38 (by unfold tS; omega), h2 500 49 (by unfold tS; omega)⟩, fun s s1 s2 => funext (fun x => h2 s x (by unfold tS; omega)), fun i hi => h2 559 i (by unfold tS; omega), funext (fun x => h2 560 x (by unfold tS; omega)), funext (fun x => h2 561 x (by unfold tS; omega))⟩
theorem keepsAll_v (m : St) : ∃ m1, fX10_keepsAll m = some m1 ∧ SV m m1 ∧ (∀ s x, s ≠ 559 → s ≠ 500 → m1.1 s x = m.1 s x) ∧ m1.2 = m.2 := by
  obtain ⟨m1, a1, a2, a3, a4, a5⟩ := carK_s tR 4400 (ui (ui m 500 61 (nI 4400)) 500 62 (nI 0)) (by decide) (by decide) (by simp only [ui_rd, if_true]) (by simp only [ui_rd, if_true, Nat.reduceEqDiff, if_false])
  have hf : ∀ s x, s ≠ 559 → s ≠ 500 → m1.1 s x = m.1 s x := by
    intro s x h1 h2
    rw [a3 s x (by omega) (by omega)]
    simp only [ui_rd, h2, if_false]
  refine ⟨m1, ?_, ⟨?_, ?_⟩, hf, ?_⟩
  · unfold fX10_keepsAll
    simp only [lit_nI, carries_eq]
    rw [a1]
    rfl
  · intro t ht j hj
    rw [a2 t ht j hj]
    have := offs_of tR 4400 ht
    have h5 : t.1 ≠ 500 := by
      intro e
      rw [e] at this
      simp [tR] at this
    simp only [ui_rd, h5, if_false]
  · intro s x ht
    unfold tS at ht
    by_cases s9 : s = 559
    · subst s9
      rw [a3 559 x (by omega) (by omega)]
      simp only [ui_rd, Nat.reduceEqDiff, if_false]
    · by_cases s5 : s = 500
      · subst s5
        rw [a3 500 x (by omega) (by omega)]
        simp only [ui_rd, if_true]
        rw [if_neg (by omega), if_neg (by omega)]
      · exact hf s x s9 s5
  · rw [a5]
    rfl
theorem laysBack_v {m0 m : St} (h : SV m0 m) : ∃ m1, fX10_laysBack m = some m1 ∧ SV m0 m1 ∧ ME m0 m1 := by
  obtain ⟨h1, h2⟩ := h
  obtain ⟨m1, a1, a2, a3, a4, a5⟩ := carK_l tR 4400 (ui (ui m 500 61 (nI 4400)) 500 62 (nI 1)) (by decide) (by decide) (by decide) (by simp only [ui_rd, if_true]) (by simp only [ui_rd, if_true, Nat.reduceEqDiff, if_false])
  have hr : ∀ t, t ∈ offs 4400 tR → ∀ j, j < t.2.1 → m1.1 t.1 j = m0.1 t.1 j := by
    intro t ht j hj
    rw [a2 t ht j hj]
    simp only [ui_rd, Nat.reduceEqDiff, if_false]
    exact h1 t ht j hj
  have hf : ∀ s x, ¬ tS s x → m1.1 s x = m0.1 s x := by
    intro s x ht
    have ht' := ht
    unfold tS at ht'
    rw [a3 s x (fun t hm e => by
      subst e
      have : t.1 = 502 ∨ t.1 = 503 ∨ t.1 = 504 ∨ t.1 = 506 ∨ t.1 = 508 ∨ t.1 = 509 ∨ t.1 = 511 := by
        revert hm
        simp only [tR, List.mem_cons, List.not_mem_nil, or_false]
        rintro (rfl | rfl | rfl | rfl | rfl | rfl | rfl) <;> simp
      omega) (by omega)]
    rw [← h2 s x ht]
    by_cases s5 : s = 500
    · subst s5
      simp only [ui_rd, if_true]
      rw [if_neg (by omega), if_neg (by omega)]
    · simp only [ui_rd, s5, if_false]
  have hS : SV m0 m1 := by
    refine ⟨fun t ht j hj => ?_, hf⟩
    rw [a3 559 _ (fun t hm e => by
      have : t.1 = 502 ∨ t.1 = 503 ∨ t.1 = 504 ∨ t.1 = 506 ∨ t.1 = 508 ∨ t.1 = 509 ∨ t.1 = 511 := by
        revert hm
        simp only [tR, List.mem_cons, List.not_mem_nil, or_false]
        rintro (rfl | rfl | rfl | rfl | rfl | rfl | rfl) <;> simp
      omega) (by omega)]
    simp only [ui_rd, Nat.reduceEqDiff, if_false]
    exact h1 t ht j hj
  refine ⟨m1, ?_, hS, hS.me (fun s x hx => ?_)⟩
  · unfold fX10_laysBack
    simp only [lit_nI, carries_eq]
    rw [a1]
    rfl
  · by_cases ht : tS s x
    · have key : ∀ (a n o : Nat), (a, n, o) ∈ offs 4400 tR → x < n → m1.1 a x = m0.1 a x := fun a n o hm hx => hr (a, n, o) hm x hx
      unfold tS at ht
      unfold lenM at hx
      rcases ht with rfl | rfl | rfl | rfl | rfl | rfl | rfl | ⟨rfl, -⟩ | ⟨rfl, -⟩ | rfl | rfl
      · exact key 502 12 4400 (by decide) hx
      · exact key 503 8 4412 (by decide) hx
      · exact key 504 8 4420 (by decide) hx
      · exact key 506 8 4428 (by decide) hx
      · exact key 508 8 4436 (by decide) hx
      · exact key 509 3 4444 (by decide) hx
      · exact key 511 3 4447 (by decide) hx
      · exact absurd hx (Nat.not_lt_zero x)
      · exact absurd hx (Nat.not_lt_zero x)
      · exact absurd hx (Nat.not_lt_zero x)
      · exact absurd hx (Nat.not_lt_zero x)
    · exact hf s x ht
theorem SV.mf {m0 m m1 : St} (h : SV m0 m) (hm : MF m m1) : SV m0 m1 := by
  obtain ⟨h1, h2⟩ := h
  refine ⟨fun t ht j hj => ?_, fun s x ht => ?_⟩
  · rw [hm.1 559 _ (by omega) (by omega) (by omega) (by omega) (by omega) (by omega)]
    exact h1 t ht j hj
  · rw [← h2 s x ht]
    unfold tS at ht
    exact hm.1 s x (by omega) (by omega) (by omega) (by omega) (by omega) (by omega)
theorem SV.ui {m0 m : St} {s i : Nat} {v : Int32} (h : SV m0 m) (hs : s = 502 ∨ s = 503 ∨ s = 504 ∨ s = 506 ∨ s = 508 ∨ s = 509 ∨ s = 511 ∨ s = 557 ∨ s = 558 ∨ (s = 500 ∧ i = 55)) : SV m0 (ui m s i v) := by
  obtain ⟨h1, h2⟩ := h
  refine ⟨fun t ht j hj => ?_, fun k x ht => ?_⟩
  · rw [ui_rd, if_neg (by omega)]
    exact h1 t ht j hj
  · rw [ui_rd, ← h2 k x ht]
    unfold tS at ht
    by_cases hk : k = s
    · subst hk
      rw [if_pos rfl, if_neg (by omega)]
    · rw [if_neg hk]
/-- what the class's trials change -/
theorem CF.ce {a : Nat} {c c1 : St} (ha : 2 ≤ a ∧ a < 120) (h : CF a c c1) : CE c c1 := by
  refine ⟨fun k hk => h.1 k (by omega), fun k _ => by rw [h.2], fun i r e => ?_⟩
  rw [h.2] at e
  exact ⟨50, i, e⟩
theorem ruleAt_v {R H O : Nat} {L : List Nat} {c m : St} (h : RelP R H O L c m) (r : Int32) (hr : r = -nI 1 ∨ ∃ k, k < R ∧ r = nI k) : ∃ o, fX9_ruleAt c r = some o ∧ ((o = none ∧ r = -nI 1) ∨ ∃ k, k < R ∧ k < 6 ∧ o = some (400 + 10 * k) ∧ r = nI k ∧ RuleR k c m ∧ okRb L (400 + 10 * k) = true) ∧ ∀ s, o = some s → ∃ k j, c.2.2 k j = some s := by
  obtain ⟨-, -, ⟨r1, r2, r3, r4, r5, r6⟩, -⟩ := h
  unfold fX9_ruleAt
  rcases hr with e | ⟨k, hk, e⟩
  · subst e
    exact ⟨none, if_pos (by decide), Or.inl ⟨rfl, rfl⟩, fun s q => nomatch q⟩
  · subst e
    obtain ⟨g1, g2⟩ := r4 k hk
    refine ⟨some (400 + 10 * k), ?_, Or.inr ⟨k, hk, by omega, rfl, rfl, g2, r6 k (by omega)⟩, fun s q => ⟨6, k, by rw [g1]; exact q⟩⟩
    simp (disch := omega) only [lit_nI, r2, lt_nI, le_nI, gd_ix, cl_nI, g1]
    rw [if_neg (by omega), if_neg (by omega)]
/-- the rule is followed: what the class's walk then holds -/
theorem follow_v {R H O : Nat} {L : List Nat} {c m : St} (h : RelP R H O L c m) (r : Int32) (hr : r = -nI 1 ∨ ∃ k, k < R ∧ r = nI k) {a : Nat} (ha : RS a) : ∃ o c1, fX9_ruleAt c r = some o ∧ fX8_follow o c = some c1 ∧ c1.1 50 3 = m.1 502 0 ∧ (∀ m1 : St, m1.1 502 11 = r → (∀ s, 541 ≤ s → s ≤ 546 → m1.1 s = m.1 s) → Law L c1 m1) ∧ (∀ k, k ≠ 50 → c1.1 k = c.1 k) ∧ CE c c1 := by
  obtain ⟨o, h1, h2, h3⟩ := ruleAt_v h r hr
  have ht : c.1 134 1 = m.1 502 0 := h.2.2.2.1.1.2.1
  have hc : ∀ k, k ≠ 50 → (ui (uq c 50 2 o) 50 3 (c.1 134 1)).1 k = c.1 k := fun k hk => ui_ne hk
  refine ⟨o, ui (uq c 50 2 o) 50 3 (c.1 134 1), h1, rfl, ?_, ?_, hc, ⟨fun k hk => hc k (by omega), fun k hk => ?_, fun i r e => ?_⟩⟩
  · rw [ui_rd, if_pos rfl, if_pos rfl]
    exact ht
  · intro m1 em es
    rcases h2 with ⟨q1, q2⟩ | ⟨k, k1, k2, k3, k4, k5, k6⟩
    · refine Or.inl ⟨?_, ?_⟩
      · subst q1
        rfl
      · rw [em, q2]
    · refine Or.inr ⟨k, k2, ?_, ?_, ?_, k6⟩
      · subst k3
        rfl
      · rw [em, k4]
      · exact k5.cg (fun k h1 h2 => hc k (by omega)) (by rw [es _ (by omega) (by omega)]) (fun i _ => ⟨by rw [es _ (by omega) (by omega)], by rw [es _ (by omega) (by omega)], by rw [es _ (by omega) (by omega)]⟩) (fun j _ => ⟨by rw [es _ (by omega) (by omega)], by rw [es _ (by omega) (by omega)]⟩)
  · show (va_up c.2.2 50 (va_up (c.2.2 50) 2 o)) k = c.2.2 k
    unfold va_up
    rw [if_neg hk]
  · have e' : (va_up c.2.2 50 (va_up (c.2.2 50) 2 o)) 50 i = some r := e
    unfold va_up at e'
    rw [if_pos rfl] at e'
    by_cases hi : i = 2
    · subst hi
      rw [if_pos rfl] at e'
      exact h3 r e'
    · rw [if_neg hi] at e'
      exact ⟨50, i, e'⟩
