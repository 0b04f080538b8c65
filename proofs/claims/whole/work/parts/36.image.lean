abbrev nP (nb : Nat) : List Nat := [nb, nb + 14, nb + 23, nb + 24, nb + 25, nb + 26, nb + 27, nb + 2, nb + 3, nb + 5, nb + 6, nb + 7]
def qP (E : Ev) (nb a : Nat) (u : Nat → Nat) : Nat → Nat := fun k => if k = nb then a else if k = nb + 14 then u 0 else if k = nb + 23 then u 1 else if k = nb + 24 then u 2 else if k = nb + 25 then u 3 else if k = nb + 26 then u 4 else if k = nb + 27 then u 5 else if k = nb + 2 then u 6 else if k = nb + 3 then u 7 else if k = nb + 5 then u 8 else if k = nb + 6 then u 9 else if k = nb + 7 then u 10 else eq E k
def zp (s : St) (nb : Nat) : St := ui (zr s nb 28) nb 8 (-1)
/-- a page may be made at slot nb -/
def FrP (L : List Nat) (st : St) (nb : Nat) : Prop := nb ∈ [160, 200, 240, 280] ∧ (∀ k ∈ L, k < 562 ∧ (k < nb ∨ nb + 28 ≤ k)) ∧ ∀ k i r, st.2.2 k i = some r → r < nb ∨ nb + 28 ≤ r
theorem chl_P : ∀ nb, nb ∈ [160, 200, 240, 280] → ∀ k, k < 562 → (k < nb ∨ nb + 28 ≤ k) → ty k < 70000 → ∀ c ∈ chl k (ty k), c < nb ∨ nb + 28 ≤ c := by decide +kernel
theorem ty_P : ∀ nb, nb ∈ [160, 200, 240, 280] → ty nb = 3 ∧ ty (nb + 14) = 2 ∧ ty (nb + 23) = 10000 + 8 ∧ ty (nb + 24) = 10000 + 8 ∧ ty (nb + 25) = 10000 + 3 ∧ ty (nb + 26) = 10000 + 6 ∧ ty (nb + 27) = 10000 + 41 ∧ ty (nb + 2) = 10000 + 41 ∧ ty (nb + 3) = 10000 + 820 ∧ ty (nb + 5) = 10000 + 10 ∧ ty (nb + 6) = 10000 + 10 ∧ ty (nb + 7) = 10000 + 10 := by decide +kernel
theorem qP_o {E : Ev} {nb a k : Nat} {u : Nat → Nat} (h : k < nb ∨ nb + 28 ≤ k) : qP E nb a u k = eq E k := by
  unfold qP
  rw [if_neg (by omega), if_neg (by omega), if_neg (by omega), if_neg (by omega), if_neg (by omega), if_neg (by omega), if_neg (by omega), if_neg (by omega), if_neg (by omega), if_neg (by omega), if_neg (by omega), if_neg (by omega)]
theorem grow_P {E : Ev} {st : St} {A : Nat → Prop} {s : State} {H : Heap} {locs : List Loc} {nb a : Nat} {u : Nat → Nat} (G : Gx E (cw E st ++ ckX2 E a u) A s H locs) (hf : FrP (eL E) st nb) : Gd (eX E (qP E nb a u) (eL E ++ nP nb)) (zp st nb) A s H locs := by
  obtain ⟨hnb, hL, hq⟩ := hf
  have hlt : ∀ k ∈ eL E, k < nb ∨ nb + 28 ≤ k := fun k hk => (hL k hk).2
  have hnb2 : 160 ≤ nb ∧ nb ≤ 280 := by
    have : ∀ x, x ∈ [160, 200, 240, 280] → 160 ≤ x ∧ x ≤ 280 := by decide
    exact this nb hnb
  refine grow G (fun k hk => qP_o (hlt k hk)) (fun k hk => ?_) ?_
  · have hk2 := hlt k hk
    obtain ⟨z1, z2, z3⟩ := zr_out (s := st) (a := nb) (n := 28) (k := k) (by omega)
    have z1' : (zp st nb).1 k = st.1 k := by unfold zp; rw [ui_ne (by omega), z1]
    by_cases hII : ty k < 70000
    · rw [cell_q z1' z2 z3 (fun i => ?_) hII (fun c hc => qP_o (chl_P nb hnb k (hL k hk).1 hk2 hII c hc))]
      · exact fun h => h
      · cases h : st.2.2 k i with
        | none => rfl
        | some r => exact congrArg some (qP_o (hq k i r h))
    · have e63 : k = 63 := ty_II k (hL k hk).1 hII
      subst e63
      rw [cII (n := 5) rfl (by decide), cII (n := 5) rfl (by decide)]
      intro h9
      have h10 : H[eq E 63]? = some (vp_cell (E.1 6) (5, .inr (.inr (.inr (.inr (fun i => some (E.2.2.2.1 (63 + 9 + i)))))))) := h9
      show H[eq E 63]? = some (vp_cell (E.1 6) (5, .inr (.inr (.inr (.inr (fun i => some (qP E nb a u (63 + 9 + i))))))))
      rw [h10, vp_cell_q, vp_cell_q]
      refine congrArg some (arrV_cong ?_)
      intro j hj
      show va_rf (some _) = va_rf (some _)
      rw [qP_o (by omega)]
  · obtain ⟨t0, t14, t23, t24, t25, t26, t27, t2, t3, t5, t6, t7⟩ := ty_P nb hnb
    have z : ∀ k, nb < k ∧ k < nb + 28 → (zp st nb).1 k = (fun _ => 0) := fun k hk => by unfold zp; rw [ui_ne (by omega)]; exact (zr_in (by omega)).1
    have z0 : (zp st nb).1 nb = upd (fun _ => 0) 8 (-1) := by unfold zp; rw [ui_eq, (zr_in (by omega)).1]
    have q0 : qP E nb a u nb = a := by unfold qP; rw [if_pos rfl]
    have q14 : qP E nb a u (nb + 14) = u 0 := by unfold qP; rw [if_neg (by omega), if_pos rfl]
    have q23 : qP E nb a u (nb + 23) = u 1 := by unfold qP; rw [if_neg (by omega), if_neg (by omega), if_pos rfl]
    have q24 : qP E nb a u (nb + 24) = u 2 := by unfold qP; rw [if_neg (by omega), if_neg (by omega), if_neg (by omega), if_pos rfl]
    have q25 : qP E nb a u (nb + 25) = u 3 := by unfold qP; rw [if_neg (by omega), if_neg (by omega), if_neg (by omega), if_neg (by omega), if_pos rfl]
    have q26 : qP E nb a u (nb + 26) = u 4 := by unfold qP; rw [if_neg (by omega), if_neg (by omega), if_neg (by omega), if_neg (by omega), if_neg (by omega), if_pos rfl]
    have q27 : qP E nb a u (nb + 27) = u 5 := by unfold qP; rw [if_neg (by omega), if_neg (by omega), if_neg (by omega), if_neg (by omega), if_neg (by omega), if_neg (by omega), if_pos rfl]
    have q2 : qP E nb a u (nb + 2) = u 6 := by unfold qP; rw [if_neg (by omega), if_neg (by omega), if_neg (by omega), if_neg (by omega), if_neg (by omega), if_neg (by omega), if_neg (by omega), if_pos rfl]
    have q3 : qP E nb a u (nb + 3) = u 7 := by unfold qP; rw [if_neg (by omega), if_neg (by omega), if_neg (by omega), if_neg (by omega), if_neg (by omega), if_neg (by omega), if_neg (by omega), if_neg (by omega), if_pos rfl]
    have q5 : qP E nb a u (nb + 5) = u 8 := by unfold qP; rw [if_neg (by omega), if_neg (by omega), if_neg (by omega), if_neg (by omega), if_neg (by omega), if_neg (by omega), if_neg (by omega), if_neg (by omega), if_neg (by omega), if_pos rfl]
    have q6 : qP E nb a u (nb + 6) = u 9 := by unfold qP; rw [if_neg (by omega), if_neg (by omega), if_neg (by omega), if_neg (by omega), if_neg (by omega), if_neg (by omega), if_neg (by omega), if_neg (by omega), if_neg (by omega), if_neg (by omega), if_pos rfl]
    have q7 : qP E nb a u (nb + 7) = u 10 := by unfold qP; rw [if_neg (by omega), if_neg (by omega), if_neg (by omega), if_neg (by omega), if_neg (by omega), if_neg (by omega), if_neg (by omega), if_neg (by omega), if_neg (by omega), if_neg (by omega), if_neg (by omega), if_pos rfl]
    simp only [List.map_cons, List.map_nil, q0, q14, q23, q24, q25, q26, q27, q2, q3, q5, q6, q7]
    rw [cO2 t0, cO1 t14, cI t23 (by decide), cI t24 (by decide), cI t25 (by decide), cI t26 (by decide), cI t27 (by decide), cI t2 (by decide), cI t3 (by decide), cI t5 (by decide), cI t6 (by decide), cI t7 (by decide)]
    have a1 : nb + 14 + 9 = nb + 23 := by omega
    have a2 : nb + 14 + 10 = nb + 24 := by omega
    have a3 : nb + 14 + 11 = nb + 25 := by omega
    have a4 : nb + 14 + 12 = nb + 26 := by omega
    have a5 : nb + 14 + 13 = nb + 27 := by omega
    simp only [flX2, flX1, eX, z0, a1, a2, a3, a4, a5, z (nb + 14) (by omega), z (nb + 23) (by omega), z (nb + 24) (by omega), z (nb + 25) (by omega), z (nb + 26) (by omega), z (nb + 27) (by omega), z (nb + 2) (by omega), z (nb + 3) (by omega), z (nb + 5) (by omega), z (nb + 6) (by omega), z (nb + 7) (by omega), q0, q14, q23, q24, q25, q26, q27, q2, q3, q5, q6, q7, ckX2]
    simp [upd]
theorem Ext_P {E : Ev} {st : St} {nb a : Nat} {u : Nat → Nat} (hf : FrP (eL E) st nb) : Ext E (eX E (qP E nb a u) (eL E ++ nP nb)) (eL E ++ nP nb) := ⟨rfl, fun k hk => qP_o ((hf.2.1 k hk).2), fun k hk => List.mem_append_left _ hk⟩
theorem dX9_image_0 : decode cX9_image 0 = .ok (.iload_n 1, 1) := by decide +kernel
theorem dX9_image_1 : decode cX9_image 1 = .ok (.ifCond .lt 8, 3) := by decide +kernel
theorem dX9_image_4 : decode cX9_image 4 = .ok (.iload_n 1, 1) := by decide +kernel
theorem dX9_image_5 : decode cX9_image 5 = .ok (.iconst 4, 1) := by decide +kernel
theorem dX9_image_6 : decode cX9_image 6 = .ok (.if_icmp .lt 5, 3) := by decide +kernel
theorem dX9_image_9 : decode cX9_image 9 = .ok (.iconst (-1), 1) := by decide +kernel
theorem dX9_image_10 : decode cX9_image 10 = .ok (.ireturn, 1) := by decide +kernel
theorem dX9_image_11 : decode cX9_image 11 = .ok (.aload_n 0, 1) := by decide +kernel
theorem dX9_image_12 : decode cX9_image 12 = .ok (.getfield 56, 3) := by decide +kernel
theorem dX9_image_15 : decode cX9_image 15 = .ok (.iload_n 1, 1) := by decide +kernel
theorem dX9_image_16 : decode cX9_image 16 = .ok (.aaload, 1) := by decide +kernel
theorem dX9_image_17 : decode cX9_image 17 = .ok (.ifnonnull 16, 3) := by decide +kernel
theorem dX9_image_20 : decode cX9_image 20 = .ok (.aload_n 0, 1) := by decide +kernel
theorem dX9_image_21 : decode cX9_image 21 = .ok (.getfield 56, 3) := by decide +kernel
theorem dX9_image_24 : decode cX9_image 24 = .ok (.iload_n 1, 1) := by decide +kernel
theorem dX9_image_25 : decode cX9_image 25 = .ok (.new 49, 3) := by decide +kernel
theorem dX9_image_28 : decode cX9_image 28 = .ok (.dup, 1) := by decide +kernel
theorem dX9_image_29 : decode cX9_image 29 = .ok (.invokespecial 51, 3) := by decide +kernel
theorem dX9_image_32 : decode cX9_image 32 = .ok (.aastore, 1) := by decide +kernel
theorem dX9_image_33 : decode cX9_image 33 = .ok (.aload_n 0, 1) := by decide +kernel
theorem dX9_image_34 : decode cX9_image 34 = .ok (.getfield 56, 3) := by decide +kernel
theorem dX9_image_37 : decode cX9_image 37 = .ok (.iload_n 1, 1) := by decide +kernel
theorem dX9_image_38 : decode cX9_image 38 = .ok (.aaload, 1) := by decide +kernel
theorem dX9_image_39 : decode cX9_image 39 = .ok (.aload_n 0, 1) := by decide +kernel
theorem dX9_image_40 : decode cX9_image 40 = .ok (.getfield 52, 3) := by decide +kernel
theorem dX9_image_43 : decode cX9_image 43 = .ok (.invokevirtual 288, 3) := by decide +kernel
theorem dX9_image_46 : decode cX9_image 46 = .ok (.aload_n 0, 1) := by decide +kernel
theorem dX9_image_47 : decode cX9_image 47 = .ok (.getfield 52, 3) := by decide +kernel
theorem dX9_image_50 : decode cX9_image 50 = .ok (.getfield 128, 3) := by decide +kernel
theorem dX9_image_53 : decode cX9_image 53 = .ok (.bipush 39, 2) := by decide +kernel
theorem dX9_image_55 : decode cX9_image 55 = .ok (.iaload, 1) := by decide +kernel
theorem dX9_image_56 : decode cX9_image 56 = .ok (.ireturn, 1) := by decide +kernel
noncomputable def fX9_image (L : List Nat) (p1 : Int32) (st : St) : Option (Int32 × List Nat × St) := if p1 < 0 then (some ((-1 : Int32), L, st)) else (if p1 < (4 : Int32) then (gd (ix p1 4) (if (st.2.2 9 p1.toNatClampNeg) = none then (gd (ix p1 4) (gp (FrP L st (160 + 40 * p1.toNatClampNeg)) (gd (okPb (L ++ nP (160 + 40 * p1.toNatClampNeg)) (160 + 40 * p1.toNatClampNeg)) (nm (uq (zp st (160 + 40 * p1.toNatClampNeg)) 9 p1.toNatClampNeg (some (160 + 40 * p1.toNatClampNeg))) (fun sA => gd (ix p1 4) (br (sA.2.2 9 p1.toNatClampNeg) (fun r6 => gd (okPb (L ++ nP (160 + 40 * p1.toNatClampNeg)) r6) (br (fX2_copyFrom r6 120 sA) (fun s10 => some ((s10.1 122 39), (L ++ nP (160 + 40 * p1.toNatClampNeg)), s10)))))))))) else (gd (ix p1 4) (br (st.2.2 9 p1.toNatClampNeg) (fun r6 => gd (okPb L r6) (br (fX2_copyFrom r6 120 st) (fun s10 => some ((s10.1 122 39), L, s10)))))))) else (some ((-1 : Int32), L, st)))
set_option maxRecDepth 100000 in
theorem tX9_image (l : Launch) (E : Ev) (st : St) (sz : Nat) (hL : ∀ k, fxC k = true → k ∈ eL E) {L : List Nat} (hLL : L = eL E) (p1 : Int32) {res : (Int32 × List Nat × St)} (hf : fX9_image L p1 st = some res) : Met l yX9_image (.code yX9_image cX9_image 2 (some .int) :: uW) (rmx 10 12 980) (va_Pc [.ref (eq E 0), .int p1] (Pre2 E st sz)) (QAi E sz res) 12 980 (Af E sz) := by
  refine Met_in2 (by decide) (Nat.le_of_ble_eq_true rfl) ?_
  intro p e s m below meth c X hN hr hlk hz G ls hl
  have hx := X.1.1
  have hb := X.1.2.1
  have hl : lv_has ls 2 [(0, .ref (eq E 0)), (1, .int p1)] := hl
  unfold fX9_image at hf
  refine lv_iload_n hx hb dX9_image_0 rfl (lv_at hl 1 rfl) ?_
  refine lv_if_lt (tgt := 9) hx hb dX9_image_1 (by decide) (fun c1 => ?_) (fun c1 => ?_)
  · have hf := it_t hf c1
    refine lv_iconst (v := (-1 : Int32)) hx hb dX9_image_9 (by decide) ?_
    refine W.widen (k := 12) (n := 980) (by omega) (by omega) ?_
    exact rtAi X hlk G hLL hr (so_i hf) dX9_image_10
  · have hf := it_f hf c1
    refine lv_iload_n hx hb dX9_image_4 rfl (lv_at hl 1 rfl) ?_
    refine lv_iconst (v := (4 : Int32)) hx hb dX9_image_5 (by decide) ?_
    refine lv_icmp_lt (tgt := 11) hx hb dX9_image_6 (by decide) (fun c2 => ?_) (fun c2 => ?_)
    · have hf := it_t hf c2
      refine lv_aload_n hx hb dX9_image_11 rfl (lv_at hl 0 rfl) ?_
      refine gf9 X G (hL 0 rfl) rfl 8 (by decide) rfl kf_X9_56 iwX9 dX9_image_12 ?_
      refine lv_iload_n hx hb dX9_image_15 rfl (lv_at hl 1 rfl) ?_
      obtain ⟨h3, hf⟩ := gd_s hf
      refine pg_ld (k := 9) (n := 4) X G (hL 9 rfl) rfl (by decide) (ix_in h3) dX9_image_16 ?_
      refine lv_ifnn (tgt := 33) hx hb dX9_image_17 (by decide) (fun c4 => ?_) (fun c4 => ?_)
      · have hf := it_t hf c4
        refine lv_aload_n hx hb dX9_image_20 rfl (lv_at hl 0 rfl) ?_
        refine gf9 X G (hL 0 rfl) rfl 8 (by decide) rfl kf_X9_56 iwX9 dX9_image_21 ?_
        refine lv_iload_n hx hb dX9_image_24 rfl (lv_at hl 1 rfl) ?_
        obtain ⟨h8, hf⟩ := gd_s hf
        obtain ⟨h9, hf⟩ := gp_s hf
        have Y : CY p s m [Value.ref (eq E 0), .int p1].toArray c E RX9 cX9_image 2 (Af E sz) := ⟨X.1, X.2.1, X.2.2.1, hN⟩
        have Gq : Gx E (cw E st) (Af E sz) s _ _ := G
        refine xn2 Y Gq kx_cl_X9_49 kx_in_X2 kx_it_X2 (c2 := 1) (n2 := 10) (by omega) (by omega) (Nat.le_of_ble_eq_true rfl) (Nat.le_of_ble_eq_true rfl) dX9_image_25 (fun q9 H Gq => ?_)
        refine lv_dup hx hb dX9_image_28 rfl ?_
        refine xcN_last (As := []) (rest := [.ref q9, .int p1, .ref (eq E 9)]) Y Gq kn_X2 hN.2.2.2.1 (tX2_init l E q9 _) rfl rfl ⟨(Nat.le_of_ble_eq_true rfl), (Nat.le_of_ble_eq_true rfl)⟩ rfl hl.1 rfl (Nat.le_of_ble_eq_true rfl) dX9_image_29 (c2 := 12) (n2 := 980) (by omega) (by omega) (Nat.le_of_ble_eq_true rfl) (Nat.le_of_ble_eq_true rfl) (fun u9 H locs Gq => ?_)
        have G := grow_P (nb := 160 + 40 * p1.toNatClampNeg) Gq (hLL ▸ h9)
        have hE := Ext_P (a := q9) (u := u9) (hLL ▸ h9)
        have e1 : eq (eX E (qP E (160 + 40 * p1.toNatClampNeg) q9 u9) (eL E ++ nP (160 + 40 * p1.toNatClampNeg))) (160 + 40 * p1.toNatClampNeg) = q9 := if_pos rfl
        generalize eX E (qP E (160 + 40 * p1.toNatClampNeg) q9 u9) (eL E ++ nP (160 + 40 * p1.toNatClampNeg)) = E2 at G hE e1
        have X2 := CX_ext hE X
        have hL2 := hL_ext hE hL
        have hLL2 := Ext_L hE
        rw [← hLL] at hLL2 hE
        have q0 : eq E 0 = eq E2 0 := (hE.2.1 0 (hL 0 rfl)).symm
        have q6 : eq E 9 = eq E2 9 := (hE.2.1 9 (hL 9 rfl)).symm
        have hl : lv_has ls 2 [(0, .ref (eq E2 0)), (1, .int p1)] := by rw [← q0]; exact hl
        obtain ⟨hk9, hf⟩ := gd_s hf
        have ok9 := okPb_s hLL2 hk9
        refine W.eq (g2 := F0 m 32 ls [.ref (eq E2 (160 + 40 * p1.toNatClampNeg)), .int p1, .ref (eq E2 9)]) (by rw [← q6, e1]) ?_
        refine pg_st (k := 9) (n := 4) (r := 160 + 40 * p1.toNatClampNeg) X2 G (hL2 9 rfl) rfl (by decide) (ix_in h8) ((ok9 0 (by decide)).2 (by decide)) (ok9 0 (by decide)).1 dX9_image_32 (fun sA esA H locs G => ?_)
        have hf := nm_s hf sA esA
        refine lv_aload_n hx hb dX9_image_33 rfl (lv_at hl 0 rfl) ?_
        refine gf9 X2 G (hL2 0 rfl) rfl 8 (by decide) rfl kf_X9_56 iwX9 dX9_image_34 ?_
        refine lv_iload_n hx hb dX9_image_37 rfl (lv_at hl 1 rfl) ?_
        obtain ⟨h5, hf⟩ := gd_s hf
        refine pg_ld (k := 9) (n := 4) X2 G (hL2 9 rfl) rfl (by decide) (ix_in h5) dX9_image_38 ?_
        obtain ⟨r6, h7, hf⟩ := br_s hf
        obtain ⟨h8, hf⟩ := gd_s hf
        rw [h7]
        refine lv_aload_n hx hb dX9_image_39 rfl (lv_at hl 0 rfl) ?_
        refine gf9 X2 G (hL2 0 rfl) rfl 7 (by decide) rfl kf_X9_52 iwX9 dX9_image_40 ?_
        obtain ⟨s10, h9, hf⟩ := br_s hf
        refine cVWv (As := [.ref (eq E2 120)]) (rest := []) X2 G kc_X9_288 (tX2_copyFrom l E2 sA _ hL2 (okPb_s hLL2 h8) (ok_120 hL2)  h9) (rcv X2 G (((okPb_s hLL2 h8) 0 (by decide)).2 (by decide)) (cO2 ((okPb_s hLL2 h8) 0 (by decide)).1) rfl) rfl rfl (rmk_le (by omega) (by decide)) rfl hl.1 rfl (Nat.le_of_ble_eq_true rfl) dX9_image_43 ⟨(Nat.le_of_ble_eq_true rfl), (Nat.le_of_ble_eq_true rfl)⟩ (fun H locs G => ?_)
        refine lv_aload_n hx hb dX9_image_46 rfl (lv_at hl 0 rfl) ?_
        refine gf9 X2 G (hL2 0 rfl) rfl 7 (by decide) rfl kf_X9_52 iwX9 dX9_image_47 ?_
        refine gf2 X2 G (hL2 120 rfl) rfl 1 (by decide) rfl kf_X9_128 iwX2 dX9_image_50 ?_
        refine lv_bipush (v := (39 : Int32)) hx hb dX9_image_53 (by decide) ?_
        refine ia_ldc (k := 122) (n := 41) X2 G (hL2 122 rfl) rfl (by decide) 39 (by decide) dX9_image_55 ?_
        refine W.widen (k := 12) (n := 980) (by omega) (by omega) ?_
        exact rtAi2 X2 hlk G hE hr (so_i hf) dX9_image_56
      · have hf := it_f hf c4
        refine lv_aload_n hx hb dX9_image_33 rfl (lv_at hl 0 rfl) ?_
        refine gf9 X G (hL 0 rfl) rfl 8 (by decide) rfl kf_X9_56 iwX9 dX9_image_34 ?_
        refine lv_iload_n hx hb dX9_image_37 rfl (lv_at hl 1 rfl) ?_
        obtain ⟨h5, hf⟩ := gd_s hf
        refine pg_ld (k := 9) (n := 4) X G (hL 9 rfl) rfl (by decide) (ix_in h5) dX9_image_38 ?_
        obtain ⟨r6, h7, hf⟩ := br_s hf
        obtain ⟨h8, hf⟩ := gd_s hf
        rw [h7]
        refine lv_aload_n hx hb dX9_image_39 rfl (lv_at hl 0 rfl) ?_
        refine gf9 X G (hL 0 rfl) rfl 7 (by decide) rfl kf_X9_52 iwX9 dX9_image_40 ?_
        obtain ⟨s10, h9, hf⟩ := br_s hf
        refine cVWv (As := [.ref (eq E 120)]) (rest := []) X G kc_X9_288 (tX2_copyFrom l E st _ hL (okPb_s hLL h8) (ok_120 hL)  h9) (rcv X G (((okPb_s hLL h8) 0 (by decide)).2 (by decide)) (cO2 ((okPb_s hLL h8) 0 (by decide)).1) rfl) rfl rfl (rmk_le (by omega) (by decide)) rfl hl.1 rfl (Nat.le_of_ble_eq_true rfl) dX9_image_43 ⟨Nat.zero_le _, Nat.zero_le _⟩ (fun H locs G => ?_)
        refine lv_aload_n hx hb dX9_image_46 rfl (lv_at hl 0 rfl) ?_
        refine gf9 X G (hL 0 rfl) rfl 7 (by decide) rfl kf_X9_52 iwX9 dX9_image_47 ?_
        refine gf2 X G (hL 120 rfl) rfl 1 (by decide) rfl kf_X9_128 iwX2 dX9_image_50 ?_
        refine lv_bipush (v := (39 : Int32)) hx hb dX9_image_53 (by decide) ?_
        refine ia_ldc (k := 122) (n := 41) X G (hL 122 rfl) rfl (by decide) 39 (by decide) dX9_image_55 ?_
        refine W.widen (k := 12) (n := 980) (by omega) (by omega) ?_
        exact rtAi X hlk G hLL hr (so_i hf) dX9_image_56
    · have hf := it_f hf c2
      refine lv_iconst (v := (-1 : Int32)) hx hb dX9_image_9 (by decide) ?_
      refine W.widen (k := 12) (n := 980) (by omega) (by omega) ?_
      exact rtAi X hlk G hLL hr (so_i hf) dX9_image_10
