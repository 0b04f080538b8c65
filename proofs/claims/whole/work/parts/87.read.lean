theorem Tok.bd {t : Nat → Nat} {T a k e v : Nat} (h : Tok t T a k e v) (hb : a < T → t a < 256) : k < 40 ∧ v < 100000 := by
  rcases h with ⟨-, rfl, -, rfl⟩ | ⟨-, -, -, rfl, q⟩ | ⟨h1, -, -, rfl, rfl⟩ | ⟨h1, -, -, -, rfl, q⟩
  · omega
  · rcases q with q | q <;> omega
  · refine ⟨?_, nV_b (T - a) a 0 rfl (Nat.le_refl a) (by rw [Nat.sub_self]; decide)⟩
    split <;> omega
  · rcases q with ⟨-, -, -, -, rfl⟩ | ⟨-, -, rfl⟩
    · refine ⟨?_, by omega⟩
      split <;> omega
    · have := (sgK_r (t a) (hb h1)).1
      omega
/-- what reading tokens may change -/
def CK (c c1 : St) : Prop := (∀ k, k < 20 ∨ 24 ≤ k → c1.1 k = c.1 k) ∧ c1.2 = c.2
theorem CK.rf {c : St} : CK c c := ⟨fun _ _ => rfl, rfl⟩
theorem CK.tr {c c1 c2 : St} (h1 : CK c c1) (h2 : CK c1 c2) : CK c c2 := ⟨fun k hk => (h2.1 k hk).trans (h1.1 k hk), h2.2.trans h1.2⟩
theorem CK.ad {c : St} {S k a v : Nat} : CK c (adT c S k a v) := by
  refine ⟨fun j hj => ?_, rfl⟩
  unfold adT
  rw [ui_ne (by omega), ui_ne (by omega), ui_ne (by omega), ui_ne (by omega)]
theorem ad_rd {c : St} {S k a v j : Nat} : (adT c S k a v).1 21 j = (if j = S then nI k else c.1 21 j) ∧ (adT c S k a v).1 22 j = (if j = S then nI a else c.1 22 j) ∧ (adT c S k a v).1 23 j = (if j = S then nI v else c.1 23 j) ∧ (adT c S k a v).1 20 3 = nI (S + 1) := by
  unfold adT
  simp only [ui_rd, Nat.reduceEqDiff, if_true, if_false, and_self]
/-- tokens as far as place a -/
def TKp (t : Nat → Nat) (T : Nat) (c : St) (S : Nat) (pos : Nat → Nat) (a : Nat) : Prop := S ≤ a ∧ c.1 20 3 = nI S ∧ pos 0 = sk t T 0 ∧ pos S = sk t T a ∧ ∀ j, j < S → pos j < T ∧ ∃ k e v, c.1 21 j = nI k ∧ c.1 22 j = nI (pos j) ∧ c.1 23 j = nI v ∧ Tok t T (pos j) k e v ∧ pos (j + 1) = sk t T e
theorem read_L {t : Nat → Nat} {T : Nat} : ∀ (D a i n S : Nat) (c : St) (pos : Nat → Nat), T - a ≤ D → D < n → a ≤ T → i ≤ a → TC t T c → TKp t T c S pos a → ∃ c1 S1 pos1, fX7_read_L10 1 400 (nI T) n (nI a) (nI i) c = fX7_read_B51 1 400 (nI T) c1 ∧ TC t T c1 ∧ TKp t T c1 S1 pos1 T ∧ CK c c1 := by
  intro D
  induction D with
  | zero =>
    intro a i n S c pos hD hn ha hi h hk
    obtain ⟨n, rfl⟩ : ∃ j, n = j + 1 := ⟨n - 1, by omega⟩
    have hT := h.1
    have e : a = T := by omega
    subst e
    refine ⟨c, S, pos, ?_, h, hk, CK.rf⟩
    rw [fX7_read_L10]
    simp (disch := omega) only [lit_nI, le_nI, Nat.le_refl, if_true]
    split <;> rfl
  | succ D ih =>
    intro a i n S c pos hD hn ha hi h hk
    obtain ⟨n, rfl⟩ : ∃ j, n = j + 1 := ⟨n - 1, by omega⟩
    have hT := h.1
    by_cases eT : a = T
    · subst eT
      refine ⟨c, S, pos, ?_, h, hk, CK.rf⟩
      rw [fX7_read_L10]
      simp (disch := omega) only [lit_nI, le_nI, Nat.le_refl, if_true]
      split <;> rfl
    · obtain ⟨b1, b2⟩ := h.2 a (by omega)
      obtain ⟨k1, k2, k3, k4, k5⟩ := hk
      rw [fX7_read_L10]
      simp (disch := omega) only [lit_nI, le_nI, gd_ix, cl_nI, b2, eq_nI, nm_eq, nI_add]
      rw [if_neg (show ¬ 400 ≤ i by omega), if_neg (show ¬ T ≤ a by omega)]
      by_cases z : t a = 32
      · rw [if_pos z]
        have hs : sk t T a = sk t T (a + 1) := rE_go (by omega) (decide_eq_true z)
        exact ih (a + 1) (i + 1) n S c pos (by omega) (by omega) (by omega) (by omega) h ⟨by omega, k2, k3, by rw [← hs]; exact k4, k5⟩
      · rw [if_neg z]
        have hs : sk t T a = a := rE_st (fun q => z (of_decide_eq_true q.2))
        obtain ⟨k, e, v, r1, r2, r3, r4⟩ := readOne_v h (show a < T by omega) (decide_eq_false z) (show S ≤ 400 by omega) k2
        rw [r1, bw_some]
        have hS : ∀ j, j ≠ S → (adT c S k a v).1 21 j = c.1 21 j ∧ (adT c S k a v).1 22 j = c.1 22 j ∧ (adT c S k a v).1 23 j = c.1 23 j := by
          intro j hj
          obtain ⟨q1, q2, q3, -⟩ := ad_rd (c := c) (S := S) (k := k) (a := a) (v := v) (j := j)
          rw [if_neg hj] at q1 q2 q3
          exact ⟨q1, q2, q3⟩
        obtain ⟨q1, q2, q3, q4⟩ := ad_rd (c := c) (S := S) (k := k) (a := a) (v := v) (j := S)
        rw [if_pos rfl] at q1 q2 q3
        have hk' : TKp t T (adT c S k a v) (S + 1) (fun j => if j ≤ S then pos j else sk t T e) e := by
          refine ⟨by omega, q4, ?_, ?_, fun j hj => ?_⟩
          · show (if 0 ≤ S then pos 0 else sk t T e) = sk t T 0
            rw [if_pos (Nat.zero_le S)]
            exact k3
          · show (if S + 1 ≤ S then pos (S + 1) else sk t T e) = sk t T e
            rw [if_neg (by omega)]
          · simp only
            rw [if_pos (show j ≤ S by omega)]
            by_cases ej : j = S
            · subst ej
              rw [k4, hs, if_neg (by omega)]
              exact ⟨by omega, k, e, v, q1, q2, q3, r2, rfl⟩
            · obtain ⟨u1, k', e', v', u2, u3, u4, u5, u6⟩ := k5 j (by omega)
              obtain ⟨w1, w2, w3⟩ := hS j ej
              rw [if_pos (show j + 1 ≤ S by omega), w1, w2, w3]
              exact ⟨u1, k', e', v', u2, u3, u4, u5, u6⟩
        obtain ⟨c1, S1, pos1, g1, g2, g3, g4⟩ := ih e (i + 1) n (S + 1) (adT c S k a v) (fun j => if j ≤ S then pos j else sk t T e) (by omega) (by omega) (by omega) (by omega) h.ad hk'
        exact ⟨c1, S1, pos1, g1, g2, g3, CK.ad.tr g4⟩
/-- all tokens of a text -/
def TK (t : Nat → Nat) (T : Nat) (c : St) (S : Nat) (pos : Nat → Nat) : Prop := S ≤ T ∧ T ≤ 400 ∧ c.1 20 3 = nI (S + 1) ∧ pos 0 = sk t T 0 ∧ pos S = T ∧ ∀ j, j ≤ S → ∃ k e v, k < 40 ∧ v < 100000 ∧ c.1 21 j = nI k ∧ c.1 22 j = nI (pos j) ∧ c.1 23 j = nI v ∧ Tok t T (pos j) k e v ∧ (j < S → pos j < T ∧ pos (j + 1) = sk t T e)
/-- token j is looked at -/
def Cu (c : St) (j : Nat) : Prop := c.1 20 4 = nI j ∧ c.1 20 5 = c.1 21 j ∧ c.1 20 6 = c.1 22 j ∧ c.1 20 7 = c.1 23 j
def CS1 (c c1 : St) : Prop := (∀ k, k ≠ 20 → c1.1 k = c.1 k) ∧ c1.1 20 3 = c.1 20 3 ∧ c1.2 = c.2
theorem TK.cs {t : Nat → Nat} {T S : Nat} {pos : Nat → Nat} {c c1 : St} (h : TK t T c S pos) (h1 : ∀ k, 21 ≤ k → k ≤ 23 → c1.1 k = c.1 k) (h2 : c1.1 20 3 = c.1 20 3) : TK t T c1 S pos := by
  obtain ⟨a1, a2, a3, a4, a5, a6⟩ := h
  refine ⟨a1, a2, by rw [h2]; exact a3, a4, a5, fun j hj => ?_⟩
  rw [h1 21 (by omega) (by omega), h1 22 (by omega) (by omega), h1 23 (by omega) (by omega)]
  exact a6 j hj
theorem step_v {t : Nat → Nat} {T S j : Nat} {pos : Nat → Nat} {c : St} (h : TK t T c S pos) (hc : c.1 20 4 = nI j) (hj : j < S) : ∃ c1, fX7_step c = some c1 ∧ TK t T c1 S pos ∧ Cu c1 (j + 1) ∧ CS1 c c1 := by
  have hT := h.2.1
  have hS := h.1
  have h3 := h.2.2.1
  have hne : ¬ nI (S + 1) ≤ nI (j + 1) := by
    rw [le_nI (by omega) (by omega)]
    omega
  refine ⟨ui (ui (ui (ui c 20 4 (nI (j + 1))) 20 5 (c.1 21 (j + 1))) 20 6 (c.1 22 (j + 1))) 20 7 (c.1 23 (j + 1)), ?_, ?_, ?_, ?_⟩
  · unfold fX7_step
    rw [h3, hc]
    simp (disch := omega) only [lit_nI, nI_add, ↓nm_eq, ui_rd, Nat.reduceEqDiff, if_true, if_false, gd_ix, cl_nI]
    rw [if_neg hne]
  · refine h.cs (fun k k1 k2 => ?_) ?_
    · rw [ui_ne (by omega), ui_ne (by omega), ui_ne (by omega), ui_ne (by omega)]
    · simp only [ui_rd, Nat.reduceEqDiff, if_true, if_false]
  · unfold Cu
    simp only [ui_rd, Nat.reduceEqDiff, if_true, if_false, and_self]
  · refine ⟨fun k hk => ?_, ?_, rfl⟩
    · rw [ui_ne hk, ui_ne hk, ui_ne hk, ui_ne hk]
    · simp only [ui_rd, Nat.reduceEqDiff, if_true, if_false]
theorem read_v {t : Nat → Nat} {T : Nat} {c : St} (h : TC t T c) : ∃ c1 S pos, fX7_read 1 400 (nI T) c = some c1 ∧ TK t T c1 S pos ∧ Cu c1 0 ∧ CK c c1 := by
  have hT := h.1
  have h0 : TC t T (ui c 20 3 (nI 0)) := ⟨hT, fun i hi => by rw [ui_ne (by omega)]; exact h.2 i hi⟩
  obtain ⟨c1, S, pos, a1, a2, a3, a4⟩ := read_L T 0 0 10000 0 (ui c 20 3 (nI 0)) (fun _ => sk t T 0) (by omega) (by omega) (by omega) (by omega) h0 ⟨Nat.le_refl 0, by rw [ui_rd, if_pos rfl, if_pos rfl], rfl, rfl, fun j hj => by omega⟩
  obtain ⟨k1, k2, k3, k4, k5⟩ := a3
  have hsT : sk t T T = T := rE_st (by omega)
  rw [hsT] at k4
  obtain ⟨c2, e2⟩ : ∃ s, s = ui (adT c1 S 23 T 0) 20 4 (-nI 1) := ⟨_, rfl⟩
  have hS : ∀ j, c2.1 21 j = (if j = S then nI 23 else c1.1 21 j) ∧ c2.1 22 j = (if j = S then nI T else c1.1 22 j) ∧ c2.1 23 j = (if j = S then nI 0 else c1.1 23 j) := by
    intro j
    obtain ⟨q1, q2, q3, -⟩ := ad_rd (c := c1) (S := S) (k := 23) (a := T) (v := 0) (j := j)
    rw [e2, ui_ne (by omega), ui_ne (by omega), ui_ne (by omega)]
    exact ⟨q1, q2, q3⟩
  have tk2 : TK t T c2 S pos := by
    refine ⟨by omega, hT, ?_, k3, k4, fun j hj => ?_⟩
    · rw [e2, ui_rd, if_pos rfl, if_neg (by omega)]
      exact (ad_rd (j := 0)).2.2.2
    · obtain ⟨q1, q2, q3⟩ := hS j
      by_cases ej : j = S
      · subst ej
        rw [if_pos rfl] at q1 q2 q3
        refine ⟨23, T, 0, by omega, by omega, q1, by rw [k4]; exact q2, q3, Or.inl ⟨by omega, rfl, by rw [k4], rfl⟩, fun q => by omega⟩
      · rw [if_neg ej] at q1 q2 q3
        obtain ⟨u1, k, e, v, u2, u3, u4, u5, u6⟩ := k5 j (by omega)
        obtain ⟨w1, w2⟩ := u5.bd (fun _ => (h.2 _ u1).1)
        exact ⟨k, e, v, w1, w2, by rw [q1]; exact u2, by rw [q2]; exact u3, by rw [q3]; exact u4, u5, fun _ => ⟨u1, u6⟩⟩
  -- the first step
  obtain ⟨c3, e3⟩ : ∃ s, s = ui (ui (ui (ui c2 20 4 (nI 0)) 20 5 (c2.1 21 0)) 20 6 (c2.1 22 0)) 20 7 (c2.1 23 0) := ⟨_, rfl⟩
  have h24 : c2.1 20 4 = -nI 1 := by rw [e2, ui_rd, if_pos rfl, if_pos rfl]
  have hm : -nI 1 + nI 1 = nI 0 := by decide
  have hst : fX7_step c2 = some c3 := by
    unfold fX7_step
    rw [tk2.2.2.1, h24]
    simp (disch := omega) only [lit_nI, hm, ↓nm_eq, ui_rd, Nat.reduceEqDiff, if_true, if_false, gd_ix, cl_nI]
    rw [if_neg (by rw [le_nI (by omega) (by omega)]; omega), e3]
  refine ⟨c3, S, pos, ?_, tk2.cs (fun k g1 g2 => by rw [e3, ui_ne (by omega), ui_ne (by omega), ui_ne (by omega), ui_ne (by omega)]) (by rw [e3]; simp only [ui_rd, Nat.reduceEqDiff, if_true, if_false]), ?_, ?_⟩
  · unfold fX7_read
    simp only [nm_eq, lit_nI]
    rw [a1]
    unfold fX7_read_B51
    simp only [lit_nI]
    rw [add_v (by omega) k2, br_some, nm_eq, ← e2, hst, br_some]
  · unfold Cu
    rw [e3]
    simp only [ui_rd, Nat.reduceEqDiff, if_true, if_false, and_self]
  · refine ⟨fun k hk => ?_, ?_⟩
    · rw [e3, ui_ne (by omega), ui_ne (by omega), ui_ne (by omega), ui_ne (by omega), e2, ui_ne (by omega), CK.ad.1 k hk, a4.1 k hk, ui_ne (by omega)]
    · rw [e3]
      show c2.2 = c.2
      rw [e2]
      show (adT c1 S 23 T 0).2 = c.2
      rw [CK.ad.2, a4.2]
      rfl
