/-- feed -/
def Sk_0 (Rel : List Nat → St → St → Prop) : Prop := ∀ (L : List Nat) (c m : St), Rel L c m → ∀ a1 a2 a3 a4 a5 : Int32, ∃ (r : Int32) (c1 : St) (m1 : St), fX9_feed a1 a2 a3 a4 a5 c = some (r, c1) ∧ fX10_feed a1 a2 a3 a4 a5 m = some (r, m1) ∧ Rel L c1 m1
/-- end -/
def Sk_1 (Rel : List Nat → St → St → Prop) : Prop := ∀ (L : List Nat) (c m : St), Rel L c m → ∀ a1 : Int32, ∃ (r : Int32) (c1 : St) (m1 : St), fX9_end a1 c = some (r, c1) ∧ fX10_end a1 m = some (r, m1) ∧ Rel L c1 m1
/-- duchy -/
def Sk_2 (Rel : List Nat → St → St → Prop) : Prop := ∀ (L : List Nat) (c m : St), Rel L c m → ∃ (r : Int32) (c1 : St) (m1 : St), fX9_duchy c = some (r, c1) ∧ fX10_duchy m = some (r, m1) ∧ Rel L c1 m1
/-- rule -/
def Sk_3 (Rel : List Nat → St → St → Prop) : Prop := ∀ (L : List Nat) (c m : St), Rel L c m → ∃ (r : Int32) (L1 : List Nat) (c1 : St) (m1 : St), fX9_rule L c = some (r, L1, c1) ∧ fX10_rule m = some (r, m1) ∧ Rel L1 c1 m1
/-- force -/
def Sk_4 (Rel : List Nat → St → St → Prop) : Prop := ∀ (L : List Nat) (c m : St), Rel L c m → ∀ a1 : Int32, ∃ (r : Int32) (c1 : St) (m1 : St), fX9_force a1 c = some (r, c1) ∧ fX10_force a1 m = some (r, m1) ∧ Rel L c1 m1
/-- house -/
def Sk_5 (Rel : List Nat → St → St → Prop) : Prop := ∀ (L : List Nat) (c m : St), Rel L c m → ∀ a1 a2 : Int32, ∃ (r : Int32), fX9_house c a1 a2 = some r ∧ fX10_house m a1 a2 = some r ∧ Rel L c m
/-- officer -/
def Sk_6 (Rel : List Nat → St → St → Prop) : Prop := ∀ (L : List Nat) (c m : St), Rel L c m → ∀ a1 a2 : Int32, ∃ (r : Int32), fX9_officer c a1 a2 = some r ∧ fX10_officer m a1 a2 = some r ∧ Rel L c m
/-- night -/
def Sk_7 (Rel : List Nat → St → St → Prop) : Prop := ∀ (L : List Nat) (c m : St), Rel L c m → ∃ (r : Int32) (c1 : St) (m1 : St), fX9_night L c = some (r, c1) ∧ fX10_night m = some (r, m1) ∧ Rel L c1 m1
/-- fell -/
def Sk_8 (Rel : List Nat → St → St → Prop) : Prop := ∀ (L : List Nat) (c m : St), Rel L c m → ∀ a1 a2 : Int32, ∃ (r : Int32) (c1 : St) (m1 : St), fX9_fell a1 a2 c = some (r, c1) ∧ fX10_fell a1 a2 m = some (r, m1) ∧ Rel L c1 m1
/-- lend -/
def Sk_9 (Rel : List Nat → St → St → Prop) : Prop := ∀ (L : List Nat) (c m : St), Rel L c m → ∀ a1 a2 a3 : Int32, ∃ (r : Int32) (c1 : St) (m1 : St), fX9_lend a1 a2 a3 c = some (r, c1) ∧ fX10_lend a1 a2 a3 m = some (r, m1) ∧ Rel L c1 m1
/-- hide -/
def Sk_10 (Rel : List Nat → St → St → Prop) : Prop := ∀ (L : List Nat) (c m : St), Rel L c m → ∀ a1 a2 : Int32, ∃ (r : Int32) (c1 : St) (m1 : St), fX9_hide a1 a2 c = some (r, c1) ∧ fX10_hide a1 a2 m = some (r, m1) ∧ Rel L c1 m1
/-- lift -/
def Sk_11 (Rel : List Nat → St → St → Prop) : Prop := ∀ (L : List Nat) (c m : St), Rel L c m → ∀ a1 : Int32, ∃ (r : Int32) (c1 : St) (m1 : St), fX9_lift a1 c = some (r, c1) ∧ fX10_lift a1 m = some (r, m1) ∧ Rel L c1 m1
/-- spit -/
def Sk_12 (Rel : List Nat → St → St → Prop) : Prop := ∀ (L : List Nat) (c m : St), Rel L c m → ∀ a1 : Int32, ∃ (r : Int32) (c1 : St) (m1 : St), fX9_spit a1 c = some (r, c1) ∧ fX10_spit a1 m = some (r, m1) ∧ Rel L c1 m1
/-- undo -/
def Sk_13 (Rel : List Nat → St → St → Prop) : Prop := ∀ (L : List Nat) (c m : St), Rel L c m → ∃ (r : Int32) (c1 : St) (m1 : St), fX9_undo c = some (r, c1) ∧ fX10_undo m = some (r, m1) ∧ Rel L c1 m1
/-- ahead -/
def Sk_14 (Rel : List Nat → St → St → Prop) : Prop := ∀ (L : List Nat) (c m : St), Rel L c m → ∀ a1 a2 a3 : Int32, ∃ (r : Int32) (c1 : St) (m1 : St), fX9_ahead L a1 a2 a3 c = some (r, c1) ∧ fX10_ahead a1 a2 a3 m = some (r, m1) ∧ Rel L c1 m1
/-- freezes -/
def Sk_15 (Rel : List Nat → St → St → Prop) : Prop := ∀ (L : List Nat) (c m : St), Rel L c m → ∀ a1 : Int32, ∃ (r : Int32) (c1 : St) (m1 : St), fX9_freezes L a1 c = some (r, c1) ∧ fX10_freezes a1 m = some (r, m1) ∧ Rel L c1 m1
/-- round -/
def Sk_16 (Rel : List Nat → St → St → Prop) : Prop := ∀ (L : List Nat) (c m : St), Rel L c m → ∀ a1 a2 a3 : Int32, ∃ (r : Int32) (c1 : St) (m1 : St), fX9_round a1 a2 a3 c = some (r, c1) ∧ fX10_round a1 a2 a3 m = some (r, m1) ∧ Rel L c1 m1
/-- span -/
def Sk_17 (Rel : List Nat → St → St → Prop) : Prop := ∀ (L : List Nat) (c m : St), Rel L c m → ∀ a1 a2 a3 : Int32, ∃ (r : Int32) (c1 : St) (m1 : St), fX9_span a1 a2 a3 c = some (r, c1) ∧ fX10_span a1 a2 a3 m = some (r, m1) ∧ Rel L c1 m1
/-- logs -/
def Sk_18 (Rel : List Nat → St → St → Prop) : Prop := ∀ (L : List Nat) (c m : St), Rel L c m → ∀ a1 a2 : Int32, ∃ (r : Int32) (c1 : St) (m1 : St), fX9_logs L a1 a2 c = some (r, c1) ∧ fX10_logs a1 a2 m = some (r, m1) ∧ Rel L c1 m1
/-- rate -/
def Sk_19 (Rel : List Nat → St → St → Prop) : Prop := ∀ (L : List Nat) (c m : St), Rel L c m → ∀ a1 : Int32, ∃ (r : Int32) (c1 : St) (m1 : St), fX9_rate L a1 c = some (r, c1) ∧ fX10_rate a1 m = some (r, m1) ∧ Rel L c1 m1
/-- levy -/
def Sk_20 (Rel : List Nat → St → St → Prop) : Prop := ∀ (L : List Nat) (c m : St), Rel L c m → ∀ a1 a2 : Int32, ∃ (r : Int32), fX9_levy c a1 a2 = some r ∧ fX10_levy m a1 a2 = some r ∧ Rel L c m
/-- district -/
def Sk_21 (Rel : List Nat → St → St → Prop) : Prop := ∀ (L : List Nat) (c m : St), Rel L c m → ∀ a1 a2 : Int32, ∃ (r : Int32), fX9_district c a1 a2 = some r ∧ fX10_district m a1 a2 = some r ∧ Rel L c m
/-- hats -/
def Sk_22 (Rel : List Nat → St → St → Prop) : Prop := ∀ (L : List Nat) (c m : St), Rel L c m → ∀ a1 a2 : Int32, ∃ (r : Int32), fX9_hats c a1 a2 = some r ∧ fX10_hats m a1 a2 = some r ∧ Rel L c m
/-- loan -/
def Sk_23 (Rel : List Nat → St → St → Prop) : Prop := ∀ (L : List Nat) (c m : St), Rel L c m → ∀ a1 a2 a3 : Int32, ∃ (r : Int32) (c1 : St) (m1 : St), fX9_loan L a1 a2 a3 c = some (r, c1) ∧ fX10_loan a1 a2 a3 m = some (r, m1) ∧ Rel L c1 m1
/-- book -/
def Sk_24 (Rel : List Nat → St → St → Prop) : Prop := ∀ (L : List Nat) (c m : St), Rel L c m → ∀ a1 a2 a3 : Int32, ∃ (r : Int32) (c1 : St) (m1 : St), fX9_book a1 a2 a3 c = some (r, c1) ∧ fX10_book a1 a2 a3 m = some (r, m1) ∧ Rel L c1 m1
/-- ruled -/
def Sk_25 (Rel : List Nat → St → St → Prop) : Prop := ∀ (L : List Nat) (c m : St), Rel L c m → ∀ a1 : Int32, ∃ (r : Int32) (c1 : St) (m1 : St), fX9_ruled L a1 c = some (r, c1) ∧ fX10_ruled a1 m = some (r, m1) ∧ Rel L c1 m1
/-- look -/
def Sk_26 (Rel : List Nat → St → St → Prop) : Prop := ∀ (L : List Nat) (c m : St), Rel L c m → ∀ a1 a2 : Int32, ∃ (r : Int32) (c1 : St) (m1 : St), fX9_look L a1 a2 c = some (r, c1) ∧ fX10_look a1 a2 m = some (r, m1) ∧ Rel L c1 m1
/-- seed -/
def Sk_27 (Rel : List Nat → St → St → Prop) : Prop := ∀ (L : List Nat) (c m : St), Rel L c m → ∀ a1 : Int32, ∃ (r : Int32) (c1 : St) (m1 : St), fX9_seed a1 c = some (r, c1) ∧ fX10_seed a1 m = some (r, m1) ∧ Rel L c1 m1
/-- winters -/
def Sk_28 (Rel : List Nat → St → St → Prop) : Prop := ∀ (L : List Nat) (c m : St), Rel L c m → ∀ a1 a2 a3 a4 : Int32, ∃ (r : Int32) (c1 : St) (m1 : St), fX9_winters L a1 a2 a3 a4 c = some (r, c1) ∧ fX10_winters a1 a2 a3 a4 m = some (r, m1) ∧ Rel L c1 m1
/-- count -/
def Sk_29 (Rel : List Nat → St → St → Prop) : Prop := ∀ (L : List Nat) (c m : St), Rel L c m → ∀ a1 : Int32, ∃ (r : Int32), fX9_count c a1 = some r ∧ fX10_count m a1 = some r ∧ Rel L c m
/-- image -/
def Sk_30 (Rel : List Nat → St → St → Prop) : Prop := ∀ (L : List Nat) (c m : St), Rel L c m → ∀ a1 : Int32, ∃ (r : Int32) (L1 : List Nat) (c1 : St) (m1 : St), fX9_image L a1 c = some (r, L1, c1) ∧ fX10_image a1 m = some (r, m1) ∧ Rel L1 c1 m1
/-- back -/
def Sk_31 (Rel : List Nat → St → St → Prop) : Prop := ∀ (L : List Nat) (c m : St), Rel L c m → ∀ a1 : Int32, ∃ (r : Int32) (c1 : St) (m1 : St), fX9_back L a1 c = some (r, c1) ∧ fX10_back a1 m = some (r, m1) ∧ Rel L c1 m1
theorem gt6 {L i : Nat} (hL : L ≤ 3072) (hi : i ≤ 4000) (h : ¬ nI L - 6 < nI i) : i + 6 ≤ L := by
  have h1 : (nI L - 6).toInt = (L : Int) - 6 := by
    have := pk_sub_toInt (a := L) (b := 6) (by omega) (by omega)
    exact this
  have h2 : (nI i).toInt = (i : Int) := nI_toInt (by omega)
  rw [Int32.lt_iff_toInt_lt, h1, h2] at h
  omega
set_option maxRecDepth 100000 in
theorem law_loop {Rel : List Nat → St → St → Prop} (hk0 : Sk_0 Rel) (hk1 : Sk_1 Rel) (hk2 : Sk_2 Rel) (hk3 : Sk_3 Rel) (hk4 : Sk_4 Rel) (hk5 : Sk_5 Rel) (hk6 : Sk_6 Rel) (hk7 : Sk_7 Rel) (hk8 : Sk_8 Rel) (hk9 : Sk_9 Rel) (hk10 : Sk_10 Rel) (hk11 : Sk_11 Rel) (hk12 : Sk_12 Rel) (hk13 : Sk_13 Rel) (hk14 : Sk_14 Rel) (hk15 : Sk_15 Rel) (hk16 : Sk_16 Rel) (hk17 : Sk_17 Rel) (hk18 : Sk_18 Rel) (hk19 : Sk_19 Rel) (hk20 : Sk_20 Rel) (hk21 : Sk_21 Rel) (hk22 : Sk_22 Rel) (hk23 : Sk_23 Rel) (hk24 : Sk_24 Rel) (hk25 : Sk_25 Rel) (hk26 : Sk_26 Rel) (hk27 : Sk_27 Rel) (hk28 : Sk_28 Rel) (hk29 : Sk_29 Rel) (hk30 : Sk_30 Rel) (hk31 : Sk_31 Rel) {p : Program} {l : Launch} {e : Env} {s : State} {m : MethodId} {below : List Frame} {meth : Method} {c : Code} {b L : Nat} {xs : Nat → Int32} (hL : L ≤ 3072) (C0 : lw_At p s m meth c b L xs) (hN : KN s) {Em : Ev} (Xm : CX p s m #[Value.ref b] c Em R_law code 4 (fun q => s.heap.size ≤ q)) (hLm : ∀ k, fxM k = true → k ∈ eL Em) :
    ∀ (n i : Nat) (x3 : Int32), L + 6 ≤ i + n → i ≤ 4000 → x3 = nI i → ∀ (Ec : Ev), CX p s m #[Value.ref b] c Ec R_law code 4 (fun q => s.heap.size ≤ q) → (∀ k, fxC k = true → k ∈ eL Ec) → ∀ (c0 m0 : St), Rel (eL Ec) c0 m0 → ∀ (H : Heap) (locs : List Loc), G2 Ec Em c0 m0 (fun q => s.heap.size ≤ q) s H locs → ∀ (ls : Array Slot), lv_has ls 4 [(0, .ref b), (1, .ref (eq Ec 0)), (2, .ref (eq Em 500)), (3, .int x3)] → W p l e room_1 s m #[Value.ref b] below meth c H locs (200 + 2 * i) (20000 + 164 * i) (lw_Z below #[Value.ref b] s) (F0 m 18 ls []) := by
  obtain ⟨hx, hb, hr, hml, hown, hts, hX, hbl, hlocks, hgv⟩ := C0
  have hbA : ¬ (fun q : Nat => s.heap.size ≤ q) b := Nat.not_le.mpr hbl
  intro n
  induction n with
  | zero =>
    intro i x3 h1 h2 ex Ec Xc hLc c0 m0 hR H locs G ls hl
    refine lv_iload_n hx hb dL_law_18 rfl (lv_at hl 3 rfl) ?_
    refine lv_aload_n hx hb dL_law_19 rfl (lv_at hl 0 rfl) ?_
    refine va_slen hx hb hX hbl hbA G.2.2.2 dL_law_20 ?_
    refine lv_bipush (v := (6 : Int32)) hx hb dL_law_21 (by decide) ?_
    refine lv_isub hx hb dL_law_23 ?_
    refine lv_icmp_gt (tgt := 1158) hx hb dL_law_24 (by decide) (fun c_10 => ?_) (fun c_10 => ?_)
    · refine lv_iconst (v := 1) hx hb dL_law_1158 (by decide) ?_
      refine va_forget (fun q hq => G.2.2.2.2.2 q hq) ?_
      refine W.widen (k := 600000) (n := 7302250) (by omega) (by omega) ?_
      exact lw_ret hx hb hr hlocks dL_law_1159
    · rw [ex] at c_10
      have := gt6 hL h2 c_10
      omega
  | succ n ih =>
    intro i x3 h1 h2 ex Ec Xc hLc c0 m0 hR H locs G ls hl
    refine lv_iload_n hx hb dL_law_18 rfl (lv_at hl 3 rfl) ?_
    refine lv_aload_n hx hb dL_law_19 rfl (lv_at hl 0 rfl) ?_
    refine va_slen hx hb hX hbl hbA G.2.2.2 dL_law_20 ?_
    refine lv_bipush (v := (6 : Int32)) hx hb dL_law_21 (by decide) ?_
    refine lv_isub hx hb dL_law_23 ?_
    refine lv_icmp_gt (tgt := 1158) hx hb dL_law_24 (by decide) (fun c_10 => ?_) (fun c_10 => ?_)
    · refine lv_iconst (v := 1) hx hb dL_law_1158 (by decide) ?_
      refine va_forget (fun q hq => G.2.2.2.2.2 q hq) ?_
      refine W.widen (k := 600000) (n := 7302250) (by omega) (by omega) ?_
      exact lw_ret hx hb hr hlocks dL_law_1159
    · rw [ex] at c_10
      have hi6 := gt6 hL h2 c_10
      refine lv_aload_n hx hb dL_law_27 rfl (lv_at hl 0 rfl) ?_
      refine lv_iload_n hx hb dL_law_28 rfl (lv_at hl 3 rfl) ?_
      refine va_sld hx hb hX hbl hbA G.2.2.2 (by rw [ex]; exact vp_in_nI (show i < L by omega) (by omega)) dL_law_29 ?_
      refine lv_bipush (v := (31 : Int32)) hx hb dL_law_30 (by decide) ?_
      refine lv_iand hx hb dL_law_32 ?_
      refine lv_topi (fun z ez => ?_)
      have cont : ∀ (L1 : List Nat) (c1 m1 : St), Rel L1 c1 m1 → ∀ (E2 : Ev) (H : Heap) (locs : List Loc), Ext Ec E2 L1 → G2 E2 Em c1 m1 (fun q => s.heap.size ≤ q) s H locs → W p l e room_1 s m #[Value.ref b] below meth c H locs (200 + 2 * i + 12) (20000 + 164 * i + 980) (lw_Z below #[Value.ref b] s) (F0 m 1152 ls []) := by
        intro L1 c1 m1 hR1 E2 H locs hE G
        obtain ⟨x4, e4⟩ : ∃ y : Int32, y = x3 + (6 : Int32) := ⟨_, rfl⟩
        refine lv_iinc (k := 3) (v := x4) (lv' := [(3, .int x4), (0, .ref b), (1, .ref (eq Ec 0)), (2, .ref (eq Em 500))]) hx hb dL_law_1152 hl rfl (by rw [e4]; rfl) (by decide) rfl (fun ls hl => ?_)
        refine lv_goto (tgt := 18) hx hb dL_law_1155 (by decide) ?_
        refine W.widen (k := 200 + 2 * (i + 6)) (n := 20000 + 164 * (i + 6)) (by omega) (by omega) ?_
        have hl2 : lv_has ls 4 [(3, .int x4), (0, .ref b), (1, .ref (eq E2 0)), (2, .ref (eq Em 500))] := by rw [hE.2.1 0 (hLc 0 rfl)]; exact hl
        refine ih (i + 6) x4 (by omega) (by omega) (by rw [e4, ex]; exact nI_add i 6) E2 (CX_ext hE Xc) (hL_ext hE hLc) c1 m1 (by rw [← Ext_L hE]; exact hR1) H locs G ls (lv_sub hl2 [1, 2, 3, 0] rfl)
      by_cases cs0 : z = 0
      · obtain ⟨r, c1, m1, hC, hM, hR1⟩ := hk0 (eL Ec) c0 m0 hR (xs (i + 1)) (xs (i + 2)) (xs (i + 3)) (xs (i + 4)) (xs (i + 5))
        refine tbl_in hx hb dL_law_33 cs0 (by decide) (by decide) rfl (tgt := 176) (by decide) ?_
        exact lw_case_0 (L1 := (eL Ec)) (c1 := c1) (m1 := m1) hL hX hbl hbA ex hi6 Xc Xm hN hLc hLm rfl G hC hM (by omega) (by omega) hl (cont (eL Ec) c1 m1 hR1)
      by_cases cs1 : z = 1
      · obtain ⟨r, c1, m1, hC, hM, hR1⟩ := hk1 (eL Ec) c0 m0 hR (xs (i + 1))
        refine tbl_in hx hb dL_law_33 cs1 (by decide) (by decide) rfl (tgt := 239) (by decide) ?_
        exact lw_case_1 (L1 := (eL Ec)) (c1 := c1) (m1 := m1) hL hX hbl hbA ex hi6 Xc Xm hN hLc hLm rfl G hC hM (by omega) (by omega) hl (cont (eL Ec) c1 m1 hR1)
      by_cases cs2 : z = 2
      · obtain ⟨r, c1, m1, hC, hM, hR1⟩ := hk2 (eL Ec) c0 m0 hR 
        refine tbl_in hx hb dL_law_33 cs2 (by decide) (by decide) rfl (tgt := 262) (by decide) ?_
        exact lw_case_2 (L1 := (eL Ec)) (c1 := c1) (m1 := m1) hL hX hbl hbA ex hi6 Xc Xm hN hLc hLm rfl G hC hM (by omega) (by omega) hl (cont (eL Ec) c1 m1 hR1)
      by_cases cs3 : z = 3
      · obtain ⟨r, L1, c1, m1, hC, hM, hR1⟩ := hk3 (eL Ec) c0 m0 hR 
        refine tbl_in hx hb dL_law_33 cs3 (by decide) (by decide) rfl (tgt := 275) (by decide) ?_
        exact lw_case_3 (L1 := L1) (c1 := c1) (m1 := m1) hL hX hbl hbA ex hi6 Xc Xm hN hLc hLm rfl G hC hM (by omega) (by omega) hl (cont L1 c1 m1 hR1)
      by_cases cs4 : z = 4
      · obtain ⟨r, c1, m1, hC, hM, hR1⟩ := hk4 (eL Ec) c0 m0 hR (xs (i + 1))
        refine tbl_in hx hb dL_law_33 cs4 (by decide) (by decide) rfl (tgt := 288) (by decide) ?_
        exact lw_case_4 (L1 := (eL Ec)) (c1 := c1) (m1 := m1) hL hX hbl hbA ex hi6 Xc Xm hN hLc hLm rfl G hC hM (by omega) (by omega) hl (cont (eL Ec) c1 m1 hR1)
      by_cases cs5 : z = 5
      · obtain ⟨r, hC, hM, hR1⟩ := hk5 (eL Ec) c0 m0 hR (xs (i + 1)) (xs (i + 2))
        refine tbl_in hx hb dL_law_33 cs5 (by decide) (by decide) rfl (tgt := 311) (by decide) ?_
        exact lw_case_5 (L1 := (eL Ec)) (c1 := c0) (m1 := m0) hL hX hbl hbA ex hi6 Xc Xm hN hLc hLm rfl G hC hM (by omega) (by omega) hl (cont (eL Ec) c0 m0 hR1)
      by_cases cs6 : z = 6
      · obtain ⟨r, hC, hM, hR1⟩ := hk6 (eL Ec) c0 m0 hR (xs (i + 1)) (xs (i + 2))
        refine tbl_in hx hb dL_law_33 cs6 (by decide) (by decide) rfl (tgt := 344) (by decide) ?_
        exact lw_case_6 (L1 := (eL Ec)) (c1 := c0) (m1 := m0) hL hX hbl hbA ex hi6 Xc Xm hN hLc hLm rfl G hC hM (by omega) (by omega) hl (cont (eL Ec) c0 m0 hR1)
      by_cases cs7 : z = 7
      · obtain ⟨r, c1, m1, hC, hM, hR1⟩ := hk7 (eL Ec) c0 m0 hR 
        refine tbl_in hx hb dL_law_33 cs7 (by decide) (by decide) rfl (tgt := 377) (by decide) ?_
        exact lw_case_7 (L1 := (eL Ec)) (c1 := c1) (m1 := m1) hL hX hbl hbA ex hi6 Xc Xm hN hLc hLm rfl G hC hM (by omega) (by omega) hl (cont (eL Ec) c1 m1 hR1)
      by_cases cs8 : z = 8
      · obtain ⟨r, c1, m1, hC, hM, hR1⟩ := hk8 (eL Ec) c0 m0 hR (xs (i + 1)) (xs (i + 2))
        refine tbl_in hx hb dL_law_33 cs8 (by decide) (by decide) rfl (tgt := 390) (by decide) ?_
        exact lw_case_8 (L1 := (eL Ec)) (c1 := c1) (m1 := m1) hL hX hbl hbA ex hi6 Xc Xm hN hLc hLm rfl G hC hM (by omega) (by omega) hl (cont (eL Ec) c1 m1 hR1)
      by_cases cs9 : z = 9
      · obtain ⟨r, c1, m1, hC, hM, hR1⟩ := hk9 (eL Ec) c0 m0 hR (xs (i + 1)) (xs (i + 2)) (xs (i + 3))
        refine tbl_in hx hb dL_law_33 cs9 (by decide) (by decide) rfl (tgt := 423) (by decide) ?_
        exact lw_case_9 (L1 := (eL Ec)) (c1 := c1) (m1 := m1) hL hX hbl hbA ex hi6 Xc Xm hN hLc hLm rfl G hC hM (by omega) (by omega) hl (cont (eL Ec) c1 m1 hR1)
      by_cases cs10 : z = 10
      · obtain ⟨r, c1, m1, hC, hM, hR1⟩ := hk10 (eL Ec) c0 m0 hR (xs (i + 1)) (xs (i + 2))
        refine tbl_in hx hb dL_law_33 cs10 (by decide) (by decide) rfl (tgt := 466) (by decide) ?_
        exact lw_case_10 (L1 := (eL Ec)) (c1 := c1) (m1 := m1) hL hX hbl hbA ex hi6 Xc Xm hN hLc hLm rfl G hC hM (by omega) (by omega) hl (cont (eL Ec) c1 m1 hR1)
      by_cases cs11 : z = 11
      · obtain ⟨r, c1, m1, hC, hM, hR1⟩ := hk11 (eL Ec) c0 m0 hR (xs (i + 1))
        refine tbl_in hx hb dL_law_33 cs11 (by decide) (by decide) rfl (tgt := 499) (by decide) ?_
        exact lw_case_11 (L1 := (eL Ec)) (c1 := c1) (m1 := m1) hL hX hbl hbA ex hi6 Xc Xm hN hLc hLm rfl G hC hM (by omega) (by omega) hl (cont (eL Ec) c1 m1 hR1)
      by_cases cs12 : z = 12
      · obtain ⟨r, c1, m1, hC, hM, hR1⟩ := hk12 (eL Ec) c0 m0 hR (xs (i + 1))
        refine tbl_in hx hb dL_law_33 cs12 (by decide) (by decide) rfl (tgt := 522) (by decide) ?_
        exact lw_case_12 (L1 := (eL Ec)) (c1 := c1) (m1 := m1) hL hX hbl hbA ex hi6 Xc Xm hN hLc hLm rfl G hC hM (by omega) (by omega) hl (cont (eL Ec) c1 m1 hR1)
      by_cases cs13 : z = 13
      · obtain ⟨r, c1, m1, hC, hM, hR1⟩ := hk13 (eL Ec) c0 m0 hR 
        refine tbl_in hx hb dL_law_33 cs13 (by decide) (by decide) rfl (tgt := 545) (by decide) ?_
        exact lw_case_13 (L1 := (eL Ec)) (c1 := c1) (m1 := m1) hL hX hbl hbA ex hi6 Xc Xm hN hLc hLm rfl G hC hM (by omega) (by omega) hl (cont (eL Ec) c1 m1 hR1)
      by_cases cs14 : z = 14
      · obtain ⟨r, c1, m1, hC, hM, hR1⟩ := hk14 (eL Ec) c0 m0 hR (xs (i + 1)) (xs (i + 2)) (xs (i + 3))
        refine tbl_in hx hb dL_law_33 cs14 (by decide) (by decide) rfl (tgt := 558) (by decide) ?_
        exact lw_case_14 (L1 := (eL Ec)) (c1 := c1) (m1 := m1) hL hX hbl hbA ex hi6 Xc Xm hN hLc hLm rfl G hC hM (by omega) (by omega) hl (cont (eL Ec) c1 m1 hR1)
      by_cases cs15 : z = 15
      · obtain ⟨r, c1, m1, hC, hM, hR1⟩ := hk15 (eL Ec) c0 m0 hR (xs (i + 1))
        refine tbl_in hx hb dL_law_33 cs15 (by decide) (by decide) rfl (tgt := 601) (by decide) ?_
        exact lw_case_15 (L1 := (eL Ec)) (c1 := c1) (m1 := m1) hL hX hbl hbA ex hi6 Xc Xm hN hLc hLm rfl G hC hM (by omega) (by omega) hl (cont (eL Ec) c1 m1 hR1)
      by_cases cs16 : z = 16
      · obtain ⟨r, c1, m1, hC, hM, hR1⟩ := hk16 (eL Ec) c0 m0 hR (xs (i + 1)) (xs (i + 2)) (xs (i + 3))
        refine tbl_in hx hb dL_law_33 cs16 (by decide) (by decide) rfl (tgt := 624) (by decide) ?_
        exact lw_case_16 (L1 := (eL Ec)) (c1 := c1) (m1 := m1) hL hX hbl hbA ex hi6 Xc Xm hN hLc hLm rfl G hC hM (by omega) (by omega) hl (cont (eL Ec) c1 m1 hR1)
      by_cases cs17 : z = 17
      · obtain ⟨r, c1, m1, hC, hM, hR1⟩ := hk17 (eL Ec) c0 m0 hR (xs (i + 1)) (xs (i + 2)) (xs (i + 3))
        refine tbl_in hx hb dL_law_33 cs17 (by decide) (by decide) rfl (tgt := 667) (by decide) ?_
        exact lw_case_17 (L1 := (eL Ec)) (c1 := c1) (m1 := m1) hL hX hbl hbA ex hi6 Xc Xm hN hLc hLm rfl G hC hM (by omega) (by omega) hl (cont (eL Ec) c1 m1 hR1)
      by_cases cs18 : z = 18
      · obtain ⟨r, c1, m1, hC, hM, hR1⟩ := hk18 (eL Ec) c0 m0 hR (xs (i + 1)) (xs (i + 2))
        refine tbl_in hx hb dL_law_33 cs18 (by decide) (by decide) rfl (tgt := 710) (by decide) ?_
        exact lw_case_18 (L1 := (eL Ec)) (c1 := c1) (m1 := m1) hL hX hbl hbA ex hi6 Xc Xm hN hLc hLm rfl G hC hM (by omega) (by omega) hl (cont (eL Ec) c1 m1 hR1)
      by_cases cs19 : z = 19
      · obtain ⟨r, c1, m1, hC, hM, hR1⟩ := hk19 (eL Ec) c0 m0 hR (xs (i + 1))
        refine tbl_in hx hb dL_law_33 cs19 (by decide) (by decide) rfl (tgt := 743) (by decide) ?_
        exact lw_case_19 (L1 := (eL Ec)) (c1 := c1) (m1 := m1) hL hX hbl hbA ex hi6 Xc Xm hN hLc hLm rfl G hC hM (by omega) (by omega) hl (cont (eL Ec) c1 m1 hR1)
      by_cases cs20 : z = 20
      · obtain ⟨r, hC, hM, hR1⟩ := hk20 (eL Ec) c0 m0 hR (xs (i + 1)) (xs (i + 2))
        refine tbl_in hx hb dL_law_33 cs20 (by decide) (by decide) rfl (tgt := 766) (by decide) ?_
        exact lw_case_20 (L1 := (eL Ec)) (c1 := c0) (m1 := m0) hL hX hbl hbA ex hi6 Xc Xm hN hLc hLm rfl G hC hM (by omega) (by omega) hl (cont (eL Ec) c0 m0 hR1)
      by_cases cs21 : z = 21
      · obtain ⟨r, hC, hM, hR1⟩ := hk21 (eL Ec) c0 m0 hR (xs (i + 1)) (xs (i + 2))
        refine tbl_in hx hb dL_law_33 cs21 (by decide) (by decide) rfl (tgt := 799) (by decide) ?_
        exact lw_case_21 (L1 := (eL Ec)) (c1 := c0) (m1 := m0) hL hX hbl hbA ex hi6 Xc Xm hN hLc hLm rfl G hC hM (by omega) (by omega) hl (cont (eL Ec) c0 m0 hR1)
      by_cases cs22 : z = 22
      · obtain ⟨r, hC, hM, hR1⟩ := hk22 (eL Ec) c0 m0 hR (xs (i + 1)) (xs (i + 2))
        refine tbl_in hx hb dL_law_33 cs22 (by decide) (by decide) rfl (tgt := 832) (by decide) ?_
        exact lw_case_22 (L1 := (eL Ec)) (c1 := c0) (m1 := m0) hL hX hbl hbA ex hi6 Xc Xm hN hLc hLm rfl G hC hM (by omega) (by omega) hl (cont (eL Ec) c0 m0 hR1)
      by_cases cs23 : z = 23
      · obtain ⟨r, c1, m1, hC, hM, hR1⟩ := hk23 (eL Ec) c0 m0 hR (xs (i + 1)) (xs (i + 2)) (xs (i + 3))
        refine tbl_in hx hb dL_law_33 cs23 (by decide) (by decide) rfl (tgt := 865) (by decide) ?_
        exact lw_case_23 (L1 := (eL Ec)) (c1 := c1) (m1 := m1) hL hX hbl hbA ex hi6 Xc Xm hN hLc hLm rfl G hC hM (by omega) (by omega) hl (cont (eL Ec) c1 m1 hR1)
      by_cases cs24 : z = 24
      · obtain ⟨r, c1, m1, hC, hM, hR1⟩ := hk24 (eL Ec) c0 m0 hR (xs (i + 1)) (xs (i + 2)) (xs (i + 3))
        refine tbl_in hx hb dL_law_33 cs24 (by decide) (by decide) rfl (tgt := 908) (by decide) ?_
        exact lw_case_24 (L1 := (eL Ec)) (c1 := c1) (m1 := m1) hL hX hbl hbA ex hi6 Xc Xm hN hLc hLm rfl G hC hM (by omega) (by omega) hl (cont (eL Ec) c1 m1 hR1)
      by_cases cs25 : z = 25
      · obtain ⟨r, c1, m1, hC, hM, hR1⟩ := hk25 (eL Ec) c0 m0 hR (xs (i + 1))
        refine tbl_in hx hb dL_law_33 cs25 (by decide) (by decide) rfl (tgt := 951) (by decide) ?_
        exact lw_case_25 (L1 := (eL Ec)) (c1 := c1) (m1 := m1) hL hX hbl hbA ex hi6 Xc Xm hN hLc hLm rfl G hC hM (by omega) (by omega) hl (cont (eL Ec) c1 m1 hR1)
      by_cases cs26 : z = 26
      · obtain ⟨r, c1, m1, hC, hM, hR1⟩ := hk26 (eL Ec) c0 m0 hR (xs (i + 1)) (xs (i + 2))
        refine tbl_in hx hb dL_law_33 cs26 (by decide) (by decide) rfl (tgt := 974) (by decide) ?_
        exact lw_case_26 (L1 := (eL Ec)) (c1 := c1) (m1 := m1) hL hX hbl hbA ex hi6 Xc Xm hN hLc hLm rfl G hC hM (by omega) (by omega) hl (cont (eL Ec) c1 m1 hR1)
      by_cases cs27 : z = 27
      · obtain ⟨r, c1, m1, hC, hM, hR1⟩ := hk27 (eL Ec) c0 m0 hR (xs (i + 1))
        refine tbl_in hx hb dL_law_33 cs27 (by decide) (by decide) rfl (tgt := 1007) (by decide) ?_
        exact lw_case_27 (L1 := (eL Ec)) (c1 := c1) (m1 := m1) hL hX hbl hbA ex hi6 Xc Xm hN hLc hLm rfl G hC hM (by omega) (by omega) hl (cont (eL Ec) c1 m1 hR1)
      by_cases cs28 : z = 28
      · obtain ⟨r, c1, m1, hC, hM, hR1⟩ := hk28 (eL Ec) c0 m0 hR (xs (i + 1)) (xs (i + 2)) (xs (i + 3)) (xs (i + 4))
        refine tbl_in hx hb dL_law_33 cs28 (by decide) (by decide) rfl (tgt := 1030) (by decide) ?_
        exact lw_case_28 (L1 := (eL Ec)) (c1 := c1) (m1 := m1) hL hX hbl hbA ex hi6 Xc Xm hN hLc hLm rfl G hC hM (by omega) (by omega) hl (cont (eL Ec) c1 m1 hR1)
      by_cases cs29 : z = 29
      · obtain ⟨r, hC, hM, hR1⟩ := hk29 (eL Ec) c0 m0 hR (xs (i + 1))
        refine tbl_in hx hb dL_law_33 cs29 (by decide) (by decide) rfl (tgt := 1083) (by decide) ?_
        exact lw_case_29 (L1 := (eL Ec)) (c1 := c0) (m1 := m0) hL hX hbl hbA ex hi6 Xc Xm hN hLc hLm rfl G hC hM (by omega) (by omega) hl (cont (eL Ec) c0 m0 hR1)
      by_cases cs30 : z = 30
      · obtain ⟨r, L1, c1, m1, hC, hM, hR1⟩ := hk30 (eL Ec) c0 m0 hR (xs (i + 1))
        refine tbl_in hx hb dL_law_33 cs30 (by decide) (by decide) rfl (tgt := 1106) (by decide) ?_
        exact lw_case_30 (L1 := L1) (c1 := c1) (m1 := m1) hL hX hbl hbA ex hi6 Xc Xm hN hLc hLm rfl G hC hM (by omega) (by omega) hl (cont L1 c1 m1 hR1)
      by_cases cs31 : z = 31
      · obtain ⟨r, c1, m1, hC, hM, hR1⟩ := hk31 (eL Ec) c0 m0 hR (xs (i + 1))
        refine tbl_in hx hb dL_law_33 cs31 (by decide) (by decide) rfl (tgt := 1129) (by decide) ?_
        exact lw_case_31 (L1 := (eL Ec)) (c1 := c1) (m1 := m1) hL hX hbl hbA ex hi6 Xc Xm hN hLc hLm rfl G hC hM (by omega) (by omega) hl (cont (eL Ec) c1 m1 hR1)
      refine lv_tableOut (tgt := 1152) hx hb dL_law_33 (sw_out (fun v h1 h2 => ?_)) (by decide) ?_
      · rcases (show v = 0 ∨ v = 1 ∨ v = 2 ∨ v = 3 ∨ v = 4 ∨ v = 5 ∨ v = 6 ∨ v = 7 ∨ v = 8 ∨ v = 9 ∨ v = 10 ∨ v = 11 ∨ v = 12 ∨ v = 13 ∨ v = 14 ∨ v = 15 ∨ v = 16 ∨ v = 17 ∨ v = 18 ∨ v = 19 ∨ v = 20 ∨ v = 21 ∨ v = 22 ∨ v = 23 ∨ v = 24 ∨ v = 25 ∨ v = 26 ∨ v = 27 ∨ v = 28 ∨ v = 29 ∨ v = 30 ∨ v = 31 by omega) with rfl | rfl | rfl | rfl | rfl | rfl | rfl | rfl | rfl | rfl | rfl | rfl | rfl | rfl | rfl | rfl | rfl | rfl | rfl | rfl | rfl | rfl | rfl | rfl | rfl | rfl | rfl | rfl | rfl | rfl | rfl | rfl
        · exact cs0
        · exact cs1
        · exact cs2
        · exact cs3
        · exact cs4
        · exact cs5
        · exact cs6
        · exact cs7
        · exact cs8
        · exact cs9
        · exact cs10
        · exact cs11
        · exact cs12
        · exact cs13
        · exact cs14
        · exact cs15
        · exact cs16
        · exact cs17
        · exact cs18
        · exact cs19
        · exact cs20
        · exact cs21
        · exact cs22
        · exact cs23
        · exact cs24
        · exact cs25
        · exact cs26
        · exact cs27
        · exact cs28
        · exact cs29
        · exact cs30
        · exact cs31
      · exact W.widen (by omega) (by omega) (cont (eL Ec) c0 m0 hR Ec H locs ⟨rfl, fun _ _ => rfl, fun k hk => hk⟩ G)
