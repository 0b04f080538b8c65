def b3 {α β γ δ : Type} (x : Option (α × β × γ)) (k : α → β → γ → Option δ) : Option δ := match x with
  | none => none
  | some a => k a.1 a.2.1 a.2.2
theorem b3_s {α β γ δ : Type} {x : Option (α × β × γ)} {k : α → β → γ → Option δ} {r : δ} (h : b3 x k = some r) : ∃ a b c, x = some (a, b, c) ∧ k a b c = some r := by
  cases x with
  | none => exact absurd h (by simp [b3])
  | some a => exact ⟨a.1, a.2.1, a.2.2, rfl, h⟩
theorem Ext_L {E E2 : Ev} {L : List Nat} (h : Ext E E2 L) : L = eL E2 := by rw [h.1]; rfl
section AL
variable {p : Program} {l : Launch} {e : Env} {R : Room} {s : State} {m : MethodId} {args : Array Value} {below : List Frame} {meth : Method} {c : Code} {H : Heap} {locs : List Loc} {cells slots : Nat} {Q : State → Prop} {cc : ByteArray} {pc : Nat} {ls : Array Slot} {rest : List Value} {nL : Nat}
variable {E E2 : Ev} {st st' : St} {A : Nat → Prop} {own : String} {sz : Nat} {y : MethodName} {bytes : ByteArray} {maxL n index : Nat} {ret : Option FieldType} {rm : Room} {As st0 : List Value} {a : Nat}
theorem runV2 {Qc : Array Value → State → Outcome → State → Prop} {mc ms : Nat} {free : Addr → Prop} (X : CX p s m args c E own cc nL A) (hN : KN s) (G : Gd E st A s H locs) (K : LV own index y bytes maxL ret n) (hM : Met l y (.code y bytes maxL ret :: uW) rm (va_Pc (.ref a :: As) (Pre2 E st H.size)) Qc mc ms free) (hrv : ∃ cell : Cell, H[a]? = some cell ∧ cell.vm.isStatics = false ∧ s.vm.findClass y.cls = some cell.cls) (hrc : rm.cells = mc) (hrs : rm.slots = ms)
    (hR : rm.frames + 1 ≤ R.frames ∧ 8 + (maxL + 11) + rm.locals ≤ R.locals) (hn : As.length = n) (hsz : ls.size = nL) (hst : st0 = As.reverse ++ .ref a :: rest) (hW : (rest.map fun v => v.category).sum ≤ 8) (hdg : decode cc pc = .ok (.invokevirtual index, 3)) (hf : cells + mc ≤ R.cells ∧ slots + ms ≤ R.slots) :
    va_Run p l e R s m args below meth c H locs cells slots mc ms (F0 m pc ls st0) rest (Qc (Value.ref a :: As).toArray) free := by
  obtain ⟨K1, K2, K3, K4, K5, K6⟩ := K
  have hts := X.1.2.2.2.2
  exact va_runV (Ts := uW) (own := own) (C := y.cls) X.1 hM ⟨callB_of n hts (uW_c K1) rfl hrc hrs (hts _ K5) (hts _ K2) K6 hR, hts _ K3, hts _ K4⟩ ⟨Pre2_blind, hrv, Pre2_call X hN G⟩ rfl hn hsz hst (lv_room hW) hdg hf
theorem Gd_callA {H1 : Heap} {locs1 : List Loc} {t : State} (X : CX p s m args c E own cc nL A) (G : Gd E st A s H locs) (hB : Post E2 st' (Af E H.size) t) (ht : t.heap = H1) (hS : va_S A s.heap H1 locs1) : Gd E2 st' A s H1 locs1 := ⟨by rw [← ht]; exact hB.1, hB.2.2.weaken (fun _ q _ h => Gd_free X G q.1 h), hS⟩
theorem CX_ext {L : List Nat} (hE : Ext E E2 L) (X : CX p s m args c E own cc nL A) : CX p s m args c E2 own cc nL A := by rw [hE.1]; exact X
theorem hL_ext {L : List Nat} (hE : Ext E E2 L) (hL : ∀ k, fxC k = true → k ∈ eL E) : ∀ k, fxC k = true → k ∈ eL E2 := fun k h => by rw [← Ext_L hE]; exact hE.2.2 k (hL k h)
theorem rtAi {L : List Nat} (X : CX p s m args c E own cc nL (Af E sz)) (hlk : meth.locks = false) (G : Gd E st (Af E sz) s H locs) (hLL : L = eL E) (hr : meth.sig.returnType = some .int) {v : Int32} {res : Int32 × List Nat × St} (ev : (v, L, st) = res) (hdg : decode cc pc = .ok (.ireturn, 1)) : W p l e R s m args below meth c H locs cells slots (MQ below (QAi E sz res) args s cells slots (Af E sz)) (F0 m pc ls [.int v]) := by
  subst ev
  exact W.iret X.1.1 X.1.2.1 hr (fun t ht hW => ⟨⟨v, E, rfl, ⟨rfl, by rw [hLL]; rfl, fun _ _ => rfl, fun k hk => by rw [hLL]; exact hk⟩, by rw [ht]; exact G.1, va_K.moved hW.alike X.2.1, G.2.1⟩, G.2.2.F ht⟩) G.2.2.2.2 hdg hlk
theorem rtAi2 {L : List Nat} (X : CX p s m args c E2 own cc nL (Af E sz)) (hlk : meth.locks = false) (G : Gd E2 st (Af E sz) s H locs) (hE : Ext E E2 L) (hr : meth.sig.returnType = some .int) {v : Int32} {res : Int32 × List Nat × St} (ev : (v, L, st) = res) (hdg : decode cc pc = .ok (.ireturn, 1)) : W p l e R s m args below meth c H locs cells slots (MQ below (QAi E sz res) args s cells slots (Af E sz)) (F0 m pc ls [.int v]) := by
  subst ev
  exact W.iret X.1.1 X.1.2.1 hr (fun t ht hW => ⟨⟨v, E2, rfl, ⟨rfl, hE⟩, by rw [ht]; exact G.1, va_K.moved hW.alike X.2.1, G.2.1⟩, G.2.2.F ht⟩) G.2.2.2.2 hdg hlk
theorem pg_st (X : CX p s m args c E own cc nL A) (G : Gd E st A s H locs) {k n r : Nat} (hk : k ∈ eL E) (ht : ty k = 50000 + n) (hn : n < 10000) {i : Int32} (hin : vp_in i n) (hr : r ∈ eL E) (htr : ty r = 3) (hdg : decode cc pc = .ok (.aastore, 1))
    (kk : ∀ (s2 : St), s2 = uq st k i.toNatClampNeg (some r) → ∀ (H : Heap) (locs : List Loc), Gd E s2 A s H locs → W p l e R s m args below meth c H locs cells slots Q (F0 m (pc + 1) ls rest)) : W p l e R s m args below meth c H locs cells slots Q (F0 m pc ls (.ref (eq E r) :: .int i :: .ref (eq E k) :: rest)) := by
  obtain ⟨⟨hx, hb, hml, hown, hts⟩, hK, hA, hC, hR⟩ := X
  obtain ⟨j, hi, hw⟩ := cw_at (s := st) hk
  rw [cPg ht hn] at hw
  obtain ⟨j2, hi2, hw2⟩ := cw_at (s := st) hr
  rw [cO2 htr] at hw2
  refine va_astq (r := (RX2, TX2, 10)) hx hb hK G.1 G.2.1 G.2.2 j 4 j2 2 hw rfl hw2 rfl hin hdg (fun H1 locs1 hP hD hS => kk _ rfl H1 locs1 ?_)
  have ef : (va_up (fun i => (st.2.2 k i).map E.2.2.2.1) i.toNatClampNeg (some (eq E r))) = (fun b => ((uq st k i.toNatClampNeg (some r)).2.2 k b).map E.2.2.2.1) := by
    funext b
    rw [uq_eq]
    unfold va_up
    by_cases hb : b = i.toNatClampNeg
    · rw [if_pos hb, if_pos hb]; rfl
    · rw [if_neg hb, if_neg hb]
  rw [ef, cw_set (t := uq st k i.toNatClampNeg (some r)) G.2.1 hi (fun b hb => cell_congr rfl rfl (uq_ne hb)) (by rw [cPg ht hn])] at hP hD
  exact ⟨hP, hD, hS⟩
theorem rl_st (X : CX p s m args c E own cc nL A) (G : Gd E st A s H locs) {k n r : Nat} (hk : k ∈ eL E) (ht : ty k = 60000 + n) (hn : n < 10000) {i : Int32} (hin : vp_in i n) (hr : r ∈ eL E) (htr : ty r = 5) (hdg : decode cc pc = .ok (.aastore, 1))
    (kk : ∀ (s2 : St), s2 = uq st k i.toNatClampNeg (some r) → ∀ (H : Heap) (locs : List Loc), Gd E s2 A s H locs → W p l e R s m args below meth c H locs cells slots Q (F0 m (pc + 1) ls rest)) : W p l e R s m args below meth c H locs cells slots Q (F0 m pc ls (.ref (eq E r) :: .int i :: .ref (eq E k) :: rest)) := by
  obtain ⟨⟨hx, hb, hml, hown, hts⟩, hK, hA, hC, hR⟩ := X
  obtain ⟨j, hi, hw⟩ := cw_at (s := st) hk
  rw [cRl ht hn] at hw
  obtain ⟨j2, hi2, hw2⟩ := cw_at (s := st) hr
  rw [cO4 htr] at hw2
  refine va_astq (r := (RX4, TX4, 7)) hx hb hK G.1 G.2.1 G.2.2 j 5 j2 4 hw rfl hw2 rfl hin hdg (fun H1 locs1 hP hD hS => kk _ rfl H1 locs1 ?_)
  have ef : (va_up (fun i => (st.2.2 k i).map E.2.2.2.1) i.toNatClampNeg (some (eq E r))) = (fun b => ((uq st k i.toNatClampNeg (some r)).2.2 k b).map E.2.2.2.1) := by
    funext b
    rw [uq_eq]
    unfold va_up
    by_cases hb : b = i.toNatClampNeg
    · rw [if_pos hb, if_pos hb]; rfl
    · rw [if_neg hb, if_neg hb]
  rw [ef, cw_set (t := uq st k i.toNatClampNeg (some r)) G.2.1 hi (fun b hb => cell_congr rfl rfl (uq_ne hb)) (by rw [cRl ht hn])] at hP hD
  exact ⟨hP, hD, hS⟩
end AL
theorem kf_X9_36 : Cond.fieldLink "FireTax" 36 "FireTax" "ruleReader" "LFireTax$RuleReader;" ∈ uW := uW_2 (i := 116) rfl rfl
theorem kc_X9_116 : LV RX9 116 yX5_read cX5_read 2 (some .int) 0 := ⟨uW_3 (i := 145) rfl rfl, uW_3 (i := 142) rfl rfl, uW_3 (i := 143) rfl rfl, uW_3 (i := 144) rfl rfl, uW_1 (i := 5) rfl rfl, ⟨by decide +kernel, by decide +kernel, by decide +kernel⟩⟩
theorem kc_X9_117 : LV RX9 117 yX5_handOver cX5_handOver 2 (some (.object "FireTax$Rule")) 0 := ⟨uW_3 (i := 202) rfl rfl, uW_3 (i := 199) rfl rfl, uW_3 (i := 200) rfl rfl, uW_3 (i := 201) rfl rfl, uW_1 (i := 5) rfl rfl, ⟨by decide +kernel, by decide +kernel, by decide +kernel⟩⟩
theorem dX9_rule_0 : decode cX9_rule 0 = .ok (.aload_n 0, 1) := by decide +kernel
theorem dX9_rule_1 : decode cX9_rule 1 = .ok (.getfield 46, 3) := by decide +kernel
theorem dX9_rule_4 : decode cX9_rule 4 = .ok (.bipush 6, 2) := by decide +kernel
theorem dX9_rule_6 : decode cX9_rule 6 = .ok (.if_icmp .lt 5, 3) := by decide +kernel
theorem dX9_rule_9 : decode cX9_rule 9 = .ok (.iconst (-1), 1) := by decide +kernel
theorem dX9_rule_10 : decode cX9_rule 10 = .ok (.ireturn, 1) := by decide +kernel
theorem dX9_rule_11 : decode cX9_rule 11 = .ok (.aload_n 0, 1) := by decide +kernel
theorem dX9_rule_12 : decode cX9_rule 12 = .ok (.getfield 20, 3) := by decide +kernel
theorem dX9_rule_15 : decode cX9_rule 15 = .ok (.aload_n 0, 1) := by decide +kernel
theorem dX9_rule_16 : decode cX9_rule 16 = .ok (.getfield 9, 3) := by decide +kernel
theorem dX9_rule_19 : decode cX9_rule 19 = .ok (.aload_n 0, 1) := by decide +kernel
theorem dX9_rule_20 : decode cX9_rule 20 = .ok (.getfield 13, 3) := by decide +kernel
theorem dX9_rule_23 : decode cX9_rule 23 = .ok (.invokevirtual 98, 3) := by decide +kernel
theorem dX9_rule_26 : decode cX9_rule 26 = .ok (.aload_n 0, 1) := by decide +kernel
theorem dX9_rule_27 : decode cX9_rule 27 = .ok (.iconst 0, 1) := by decide +kernel
theorem dX9_rule_28 : decode cX9_rule 28 = .ok (.putfield 13, 3) := by decide +kernel
theorem dX9_rule_31 : decode cX9_rule 31 = .ok (.aload_n 0, 1) := by decide +kernel
theorem dX9_rule_32 : decode cX9_rule 32 = .ok (.getfield 36, 3) := by decide +kernel
theorem dX9_rule_35 : decode cX9_rule 35 = .ok (.invokevirtual 116, 3) := by decide +kernel
theorem dX9_rule_38 : decode cX9_rule 38 = .ok (.istore_n 1, 1) := by decide +kernel
theorem dX9_rule_39 : decode cX9_rule 39 = .ok (.iload_n 1, 1) := by decide +kernel
theorem dX9_rule_40 : decode cX9_rule 40 = .ok (.ifCond .eq 8, 3) := by decide +kernel
theorem dX9_rule_43 : decode cX9_rule 43 = .ok (.bipush (-2), 2) := by decide +kernel
theorem dX9_rule_45 : decode cX9_rule 45 = .ok (.iload_n 1, 1) := by decide +kernel
theorem dX9_rule_46 : decode cX9_rule 46 = .ok (.isub, 1) := by decide +kernel
theorem dX9_rule_47 : decode cX9_rule 47 = .ok (.ireturn, 1) := by decide +kernel
theorem dX9_rule_48 : decode cX9_rule 48 = .ok (.aload_n 0, 1) := by decide +kernel
theorem dX9_rule_49 : decode cX9_rule 49 = .ok (.getfield 42, 3) := by decide +kernel
theorem dX9_rule_52 : decode cX9_rule 52 = .ok (.aload_n 0, 1) := by decide +kernel
theorem dX9_rule_53 : decode cX9_rule 53 = .ok (.getfield 46, 3) := by decide +kernel
theorem dX9_rule_56 : decode cX9_rule 56 = .ok (.aload_n 0, 1) := by decide +kernel
theorem dX9_rule_57 : decode cX9_rule 57 = .ok (.getfield 36, 3) := by decide +kernel
theorem dX9_rule_60 : decode cX9_rule 60 = .ok (.invokevirtual 117, 3) := by decide +kernel
theorem dX9_rule_63 : decode cX9_rule 63 = .ok (.aastore, 1) := by decide +kernel
theorem dX9_rule_64 : decode cX9_rule 64 = .ok (.aload_n 0, 1) := by decide +kernel
theorem dX9_rule_65 : decode cX9_rule 65 = .ok (.dup, 1) := by decide +kernel
theorem dX9_rule_66 : decode cX9_rule 66 = .ok (.getfield 46, 3) := by decide +kernel
theorem dX9_rule_69 : decode cX9_rule 69 = .ok (.iconst 1, 1) := by decide +kernel
theorem dX9_rule_70 : decode cX9_rule 70 = .ok (.iadd, 1) := by decide +kernel
theorem dX9_rule_71 : decode cX9_rule 71 = .ok (.putfield 46, 3) := by decide +kernel
theorem dX9_rule_74 : decode cX9_rule 74 = .ok (.aload_n 0, 1) := by decide +kernel
theorem dX9_rule_75 : decode cX9_rule 75 = .ok (.getfield 46, 3) := by decide +kernel
theorem dX9_rule_78 : decode cX9_rule 78 = .ok (.iconst 1, 1) := by decide +kernel
theorem dX9_rule_79 : decode cX9_rule 79 = .ok (.isub, 1) := by decide +kernel
theorem dX9_rule_80 : decode cX9_rule 80 = .ok (.ireturn, 1) := by decide +kernel
noncomputable def fX9_rule (L : List Nat)  (st : St) : Option (Int32 × List Nat × St) := if (st.1 0 6) < (6 : Int32) then (br (fX7_read 1 400 (st.1 0 1) st) (fun s3 => nm (ui s3 0 1 (0 : Int32)) (fun s4 => bw (fX5_read L s4) (fun x7 s6 => if x7 = 0 then (b3 (fX5_handOver L s6) (fun o9 L2 s9 => br o9 (fun r9 => gd (okRb L2 r9) (gd (ix (s6.1 0 6) 6) (nm (uq s9 6 (s6.1 0 6).toNatClampNeg (some r9)) (fun sA => nm (ui sA 0 6 ((sA.1 0 6) + (1 : Int32))) (fun s9 => some (((s9.1 0 6) - (1 : Int32)), L2, s9)))))))) else (some (((-2 : Int32) - x7), L, s6)))))) else (some ((-1 : Int32), L, st))
set_option maxRecDepth 100000 in
theorem tX9_rule (l : Launch) (E : Ev) (st : St) (sz : Nat) (hL : ∀ k, fxC k = true → k ∈ eL E) {L : List Nat} (hLL : L = eL E)  {res : (Int32 × List Nat × St)} (hf : fX9_rule L  st = some res) : Met l yX9_rule (.code yX9_rule cX9_rule 2 (some .int) :: uW) (rmx 140 6 507) (va_Pc [.ref (eq E 0)] (Pre2 E st sz)) (QAi E sz res) 6 507 (Af E sz) := by
  refine Met_in2 (by decide) (Nat.le_of_ble_eq_true rfl) ?_
  intro p e s m below meth c X hN hr hlk hz G ls hl
  have hx := X.1.1
  have hb := X.1.2.1
  have hl : lv_has ls 2 [(0, .ref (eq E 0))] := hl
  unfold fX9_rule at hf
  refine lv_aload_n hx hb dX9_rule_0 rfl (lv_at hl 0 rfl) ?_
  refine gf9 X G (hL 0 rfl) rfl 6 (by decide) rfl kf_X9_46 iwX9 dX9_rule_1 ?_
  refine lv_bipush (v := (6 : Int32)) hx hb dX9_rule_4 (by decide) ?_
  refine lv_icmp_lt (tgt := 11) hx hb dX9_rule_6 (by decide) (fun c1 => ?_) (fun c1 => ?_)
  · have hf := it_t hf c1
    refine lv_aload_n hx hb dX9_rule_11 rfl (lv_at hl 0 rfl) ?_
    refine gf9 X G (hL 0 rfl) rfl 2 (by decide) rfl kf_X9_20 iwX9 dX9_rule_12 ?_
    refine lv_aload_n hx hb dX9_rule_15 rfl (lv_at hl 0 rfl) ?_
    refine gf9 X G (hL 0 rfl) rfl 0 (by decide) rfl kf_X9_9 iwX9 dX9_rule_16 ?_
    refine lv_aload_n hx hb dX9_rule_19 rfl (lv_at hl 0 rfl) ?_
    refine gf9 X G (hL 0 rfl) rfl 1 (by decide) rfl kf_X9_13 iwX9 dX9_rule_20 ?_
    obtain ⟨s3, h2, hf⟩ := br_s hf
    refine cVWv (As := [.ref (eq E 1), .int (st.1 0 1)]) (rest := []) X G kc_X9_98 (tX7_read l E st _ hL (hL 1 rfl) rfl (by decide) (st.1 0 1) h2) (rcv X G (hL 20 rfl) (cO7 rfl) rfl) rfl rfl (rmk_le (by omega) (by decide)) rfl hl.1 rfl (Nat.le_of_ble_eq_true rfl) dX9_rule_23 ⟨Nat.zero_le _, Nat.zero_le _⟩ (fun H locs G => ?_)
    refine lv_aload_n hx hb dX9_rule_26 rfl (lv_at hl 0 rfl) ?_
    refine lv_iconst (v := (0 : Int32)) hx hb dX9_rule_27 (by decide) ?_
    refine pf9 X G (hL 0 rfl) rfl 1 (by decide) ps9_1 uio kf_X9_13 iwX9 rfl (ty := .int) (by decide +kernel) rfl rfl dX9_rule_28 (fun s4 es4 H locs G => ?_)
    have hf := nm_s hf s4 es4
    refine lv_aload_n hx hb dX9_rule_31 rfl (lv_at hl 0 rfl) ?_
    refine gf9 X G (hL 0 rfl) rfl 4 (by decide) rfl kf_X9_36 iwX9 dX9_rule_32 ?_
    obtain ⟨x7, s6, h5, hf⟩ := bw_s hf
    refine cVWi (As := []) (rest := []) X G kc_X9_116 (tX5_read l E s4 _ hL hLL  h5) (rcv X G (hL 40 rfl) (cO5 rfl) rfl) rfl rfl (rmk_le (by omega) (by decide)) rfl hl.1 rfl (Nat.le_of_ble_eq_true rfl) dX9_rule_35 ⟨Nat.zero_le _, Nat.zero_le _⟩ (fun H locs G => ?_)
    refine lv_istore_n (lv' := [(1, .int x7), (0, .ref (eq E 0))]) hx hb dX9_rule_38 rfl hl (by decide) rfl (fun ls hl => ?_)
    refine lv_iload_n hx hb dX9_rule_39 rfl (lv_at hl 0 rfl) ?_
    refine lv_if_eq (tgt := 48) hx hb dX9_rule_40 (by decide) (fun c8 => ?_) (fun c8 => ?_)
    · have hf := it_t hf c8
      refine lv_aload_n hx hb dX9_rule_48 rfl (lv_at hl 1 rfl) ?_
      refine gf9 X G (hL 0 rfl) rfl 5 (by decide) rfl kf_X9_42 iwX9 dX9_rule_49 ?_
      refine lv_aload_n hx hb dX9_rule_52 rfl (lv_at hl 1 rfl) ?_
      refine gf9 X G (hL 0 rfl) rfl 6 (by decide) rfl kf_X9_46 iwX9 dX9_rule_53 ?_
      refine lv_aload_n hx hb dX9_rule_56 rfl (lv_at hl 1 rfl) ?_
      refine gf9 X G (hL 0 rfl) rfl 4 (by decide) rfl kf_X9_36 iwX9 dX9_rule_57 ?_
      obtain ⟨o9, L2, s9, h9, hf⟩ := b3_s hf
      refine va_callq (runV2 (As := []) (rest := [.int (s6.1 0 6), .ref (eq E 6)]) X hN G kc_X9_117 (tX5_handOver l E s6 _ hL hLL h9) (rcv X G (hL 40 rfl) (cO5 rfl) rfl) rfl rfl ⟨(Nat.le_of_ble_eq_true rfl), (Nat.le_of_ble_eq_true rfl)⟩ rfl hl.1 rfl (Nat.le_of_ble_eq_true rfl) dX9_rule_60 ⟨(Nat.le_of_ble_eq_true rfl), (Nat.le_of_ble_eq_true rfl)⟩) G.2.2 (fun q _ h => Gd_free X G q h) (Gd_free X G) (fun x9 E2 t9 H9 locs9 ht9 hvm9 hw9 hB9 hz9 hk9 hS9 => ?_)
      obtain ⟨hw9, hE⟩ := hw9
      subst hw9
      have G := Gd_callA X G hB9 ht9 hS9
      have X2 := CX_ext hE X
      have hL2 := hL_ext hE hL
      have hLL2 := Ext_L hE
      have q0 : eq E 0 = eq E2 0 := (hE.2.1 0 (hL 0 rfl)).symm
      have q6 : eq E 6 = eq E2 6 := (hE.2.1 6 (hL 6 rfl)).symm
      have hl : lv_has ls 2 [(1, .int x7), (0, .ref (eq E2 0))] := by rw [← q0]; exact hl
      obtain ⟨r9, hr9, hf⟩ := br_s hf
      obtain ⟨hk9, hf⟩ := gd_s hf
      obtain ⟨hi9, hf⟩ := gd_s hf
      rw [hr9]
      have ok9 := okRb_s hLL2 hk9
      refine W.eq (g2 := F0 m 63 ls [.ref (eq E2 r9), .int (s6.1 0 6), .ref (eq E2 6)]) (by rw [← q6]; rfl) ?_
      refine rl_st (k := 6) (n := 6) (r := r9) X2 G (hL2 6 rfl) rfl (by decide) (ix_in hi9) ((ok9 0 (by decide)).2 (by decide)) (ok9 0 (by decide)).1 dX9_rule_63 (fun sA esA H locs G => ?_)
      have hf := nm_s hf sA esA
      refine lv_aload_n hx hb dX9_rule_64 rfl (lv_at hl 1 rfl) ?_
      refine lv_dup hx hb dX9_rule_65 rfl ?_
      refine gf9 X2 G (hL2 0 rfl) rfl 6 (by decide) rfl kf_X9_46 iwX9 dX9_rule_66 ?_
      refine lv_iconst (v := (1 : Int32)) hx hb dX9_rule_69 (by decide) ?_
      refine lv_iadd hx hb dX9_rule_70 ?_
      refine pf9 X2 G (hL2 0 rfl) rfl 6 (by decide) ps9_6 uio kf_X9_46 iwX9 rfl (ty := .int) (by decide +kernel) rfl rfl dX9_rule_71 (fun s9 es9 H locs G => ?_)
      have hf := nm_s hf s9 es9
      refine lv_aload_n hx hb dX9_rule_74 rfl (lv_at hl 1 rfl) ?_
      refine gf9 X2 G (hL2 0 rfl) rfl 6 (by decide) rfl kf_X9_46 iwX9 dX9_rule_75 ?_
      refine lv_iconst (v := (1 : Int32)) hx hb dX9_rule_78 (by decide) ?_
      refine lv_isub hx hb dX9_rule_79 ?_
      refine W.widen (k := 6) (n := 507) (by omega) (by omega) ?_
      exact rtAi2 X2 hlk G hE hr (so_i hf) dX9_rule_80
    · have hf := it_f hf c8
      refine lv_bipush (v := (-2 : Int32)) hx hb dX9_rule_43 (by decide) ?_
      refine lv_iload_n hx hb dX9_rule_45 rfl (lv_at hl 0 rfl) ?_
      refine lv_isub hx hb dX9_rule_46 ?_
      refine W.widen (k := 6) (n := 507) (by omega) (by omega) ?_
      exact rtAi X hlk G hLL hr (so_i hf) dX9_rule_47
  · have hf := it_f hf c1
    refine lv_iconst (v := (-1 : Int32)) hx hb dX9_rule_9 (by decide) ?_
    refine W.widen (k := 6) (n := 507) (by omega) (by omega) ?_
    exact rtAi X hlk G hLL hr (so_i hf) dX9_rule_10
