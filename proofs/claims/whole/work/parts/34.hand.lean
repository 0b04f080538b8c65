theorem va_nd_of : ∀ l : List Nat, l.Nodup → va_nd l = true
  | [], _ => rfl
  | a :: l, h => by
    have h1 := List.nodup_cons.mp h
    show (decide (a ∉ l) && va_nd l) = true
    rw [va_nd_of l h1.2, decide_eq_true h1.1]
    rfl
abbrev QAq (E : Ev) (sz : Nat) (res : Option Nat × List Nat × St) := va_Qq (S := Ev) (fun x E2 => x = res.1.map (eq E2) ∧ Ext E E2 res.2.1) (fun E2 t => Post E2 res.2.2 (Af E sz) t) (Af E sz)
abbrev QAi (E : Ev) (sz : Nat) (res : Int32 × List Nat × St) := va_Qi (S := Ev) (fun x E2 => x = res.1 ∧ Ext E E2 res.2.1) (fun E2 t => Post E2 res.2.2 (Af E sz) t) (Af E sz)
section HO
variable {p : Program} {l : Launch} {e : Env} {R : Room} {s : State} {m : MethodId} {args : Array Value} {below : List Frame} {meth : Method} {c : Code} {H : Heap} {locs : List Loc} {cells slots : Nat} {Q : State → Prop} {cc : ByteArray} {pc : Nat} {ls : Array Slot} {rest : List Value} {nL : Nat}
variable {E : Ev} {st : St} {A : Nat → Prop} {own : String} {sz : Nat}
theorem Met_in2 {y : MethodName} {cc : ByteArray} {maxL : Nat} {ret : Option FieldType} {rm : Room} {av : List Value} {Qc : Array Value → State → Outcome → State → Prop} {mc ms : Nat} {free : Addr → Prop} (hy : plainName y.cls = true) (hlen : (lg_sl av).length ≤ maxL)
    (body : ∀ (p : Program) (e : Env) (s : State) (m : MethodId) (below : List Frame) (meth : Method) (c : Code), CX p s m av.toArray c E y.cls cc maxL (Af E sz) → KN s → meth.sig.returnType = ret → meth.locks = false → s.heap.size = sz → Gd E st (Af E sz) s s.heap [] → ∀ ls : Array Slot, lv_has ls maxL (lv_args 0 av) → W p l e rm s m av.toArray below meth c s.heap [] 0 0 (MQ below Qc av.toArray s mc ms free) (F0 m 0 ls [])) :
    Met l y (.code y cc maxL ret :: uW) rm (va_Pc av (Pre2 E st sz)) Qc mc ms free := by
  refine Met.ofW (cc := cc) (maxL := maxL) (ret := ret) hy rfl ?_
  intro p e s m args below meth c s₁ B hml hv
  obtain ⟨rfl, ⟨hsz, hP, hK, hD0, hC, hR⟩, hN⟩ := hv
  have hts := atoms_spec (ws := .code y cc maxL ret :: uW) B.pre
  have hown : s.vm.findClass y.cls = some m.cls := findClass_of_methodNamed B.named
  have hD : va_D (Af E sz) (cw E st) := cw_self hD0
  have hl := lv_entry av (n := maxL) hlen
  rw [lg_entry_eq]
  generalize (lg_sl av ++ List.replicate (maxL - (lg_sl av).length) Slot.unset).toArray = ls at hl ⊢
  exact body p e s m below meth c ⟨⟨B.exec, B.bytes, hml, hown, fun w hw => hts w (List.mem_cons_of_mem _ hw)⟩, hK, fun q h => Or.inr (by rw [← hsz]; exact h), hC, hR⟩ hN B.returns B.notSynchronized hsz ⟨hP, hD, va_S.rf⟩ ls hl
theorem Pre2_blind {av : List Value} : FrameBlind (va_Pc av (Pre2 E st sz)) := by
  intro a U g mk q
  obtain ⟨q0, q1, q2⟩ := q
  have h := Pre_blind (E := E) (st := st) (sz := sz) (av := av) a U g mk ⟨q0, q1⟩
  exact ⟨h.1, h.2, KN.same (u := U) (U := U.calling g mk a) rfl q2⟩
theorem Pre2_call {av : List Value} (X : CX p s m args c E own cc nL A) (hN : KN s) (G : Gd E st A s H locs) : ∀ U : State, U.heap = H → s.WarmedH U.vm → va_Pc av (Pre2 E st H.size) av.toArray U := fun U hU hW => by
  have h := Pre_call (av := av) X G U hU hW
  exact ⟨h.1, h.2, KN.warm hW hN⟩
theorem xcN_last {host : String} {w : va_W} {a : Nat} {e0 : va_E} {w1 : (Nat → Nat) → va_W} {y : MethodName} {bytes : ByteArray} {maxL n index mc ms c2 n2 : Nat} {rm : Room} {As st0 : List Value} (Y : CY p s m args c E own cc nL A) (G : Gx E (w ++ [(a, e0)]) A s H locs) (K : LN y bytes maxL n) (hl : va_Nw (.methodLinkNest own index y host) s) (hM : Met l y (.code y bytes maxL none :: uW) rm (va_Pc (.ref a :: As) (PreX E [(a, e0)] H.size)) (QX E w1 (va_A [(a, e0)] H.size)) mc ms (va_A [(a, e0)] H.size)) (hrc : rm.cells = mc) (hrs : rm.slots = ms)
    (hRm : rm.frames + 1 ≤ R.frames ∧ 8 + (maxL + 11) + rm.locals ≤ R.locals) (hn : As.length = n) (hsz : ls.size = nL) (hst : st0 = As.reverse ++ .ref a :: rest) (hW : (rest.map fun v => v.category).sum ≤ 8) (hdg : decode cc pc = .ok (.invokespecial index, 3)) (hc : cells + mc ≤ c2) (hs : slots + ms ≤ n2) (hc2 : c2 ≤ R.cells) (hn2 : n2 ≤ R.slots)
    (kk : ∀ (u : Nat → Nat) (H : Heap) (locs : List Loc), Gx E (w ++ w1 u) A s H locs → W p l e R s m args below meth c H locs c2 n2 Q (F0 m (pc + 3) ls rest)) : W p l e R s m args below meth c H locs cells slots Q (F0 m pc ls st0) := by
  have hlast : (w ++ [(a, e0)])[w.length]? = some (a, e0) := by rw [List.getElem?_append_right (Nat.le_refl _), Nat.sub_self]; rfl
  refine xcN Y G K hl hM [w.length] (List.range w.length) (by simp [hlast]) rfl (by simp [hlast]) (wr := w) ?_ (va_nd_of _ List.nodup_range) (fun i hi hc => ?_) hrc hrs hRm hn hsz hst hW hdg hc hs hc2 hn2 kk
  · apply List.ext_getElem?
    intro i
    rw [List.getElem?_map, List.getElem?_map]
    by_cases hi : i < w.length
    · rw [List.getElem?_range hi]
      show some ((w ++ [(a, e0)])[i]?) = _
      rw [List.getElem?_append_left hi, List.getElem?_eq_getElem hi]
      rfl
    · rw [List.getElem?_eq_none (by rw [List.length_range]; omega), List.getElem?_eq_none (by omega)]
      rfl
  · have h1 := List.mem_range.mp hi
    have h2 := List.mem_singleton.mp hc
    omega
end HO
theorem dX5_handOver_0 : decode cX5_handOver 0 = .ok (.aload_n 0, 1) := by decide +kernel
theorem dX5_handOver_1 : decode cX5_handOver 1 = .ok (.getfield 12, 3) := by decide +kernel
theorem dX5_handOver_4 : decode cX5_handOver 4 = .ok (.astore_n 1, 1) := by decide +kernel
theorem dX5_handOver_5 : decode cX5_handOver 5 = .ok (.aload_n 0, 1) := by decide +kernel
theorem dX5_handOver_6 : decode cX5_handOver 6 = .ok (.new 9, 3) := by decide +kernel
theorem dX5_handOver_9 : decode cX5_handOver 9 = .ok (.dup, 1) := by decide +kernel
theorem dX5_handOver_10 : decode cX5_handOver 10 = .ok (.invokespecial 11, 3) := by decide +kernel
theorem dX5_handOver_13 : decode cX5_handOver 13 = .ok (.putfield 12, 3) := by decide +kernel
theorem dX5_handOver_16 : decode cX5_handOver 16 = .ok (.aload_n 1, 1) := by decide +kernel
theorem dX5_handOver_17 : decode cX5_handOver 17 = .ok (.areturn, 1) := by decide +kernel
theorem kh_12 : Cond.fieldLink RX5 12 (TX5 1).1 (TX5 1).2.1 (TX5 1).2.2.1 ∈ uW := uW_1 (i := 198) rfl rfl
noncomputable def fX5_handOver (L : List Nat) (st : St) : Option (Option Nat × List Nat × St) := br (st.2.2 40 1) (fun r => gd (okRb L r) (gp (FrR L st (r + 10)) (some (some r, L ++ nR (r + 10), uq (zr st (r + 10) 8) 40 1 (some (r + 10))))))
theorem Ext_R {E : Ev} {st : St} {nb a : Nat} {u : Nat → Nat} (hf : FrR (eL E) st nb) : Ext E (eX E (qR E nb a u) (eL E ++ nR nb)) (eL E ++ nR nb) := ⟨rfl, fun k hk => qR_lt ((hf.2.1 k hk).1), fun k hk => List.mem_append_left _ hk⟩
set_option maxRecDepth 100000 in
theorem tX5_handOver (l : Launch) (E : Ev) (st : St) (sz : Nat) (hL : ∀ k, fxC k = true → k ∈ eL E) {L : List Nat} (hLL : L = eL E) {res : Option Nat × List Nat × St} (hf : fX5_handOver L st = some res) : Met l yX5_handOver (.code yX5_handOver cX5_handOver 2 (some (.object "FireTax$Rule")) :: uW) (rmx 2 6 507) (va_Pc [.ref (eq E 40)] (Pre2 E st sz)) (QAq E sz res) 6 507 (Af E sz) := by
  refine Met_in2 (by decide) (Nat.le_of_ble_eq_true rfl) ?_
  intro p e s m below meth c X hN hr hlk hz G ls hl
  have hx := X.1.1
  have hb := X.1.2.1
  have hl : lv_has ls 2 [(0, .ref (eq E 40))] := hl
  unfold fX5_handOver at hf
  subst hLL
  have Y : CY p s m [Value.ref (eq E 40)].toArray c E RX5 cX5_handOver 2 (Af E sz) := ⟨X.1, X.2.1, X.2.2.1, hN⟩
  refine lv_aload_n hx hb dX5_handOver_0 rfl (lv_at hl 0 rfl) ?_
  refine gf5 X G (hL 40 rfl) rfl 1 (by decide) rfl kh_12 iwX5 dX5_handOver_1 ?_
  obtain ⟨r, h1, hf⟩ := br_s hf
  obtain ⟨h2, hf⟩ := gd_s hf
  obtain ⟨h3, hf⟩ := gp_s hf
  rw [h1]
  refine lv_astore_n (x := eq E r) (lv' := [(1, .ref (eq E r)), (0, .ref (eq E 40))]) hx hb dX5_handOver_4 rfl hl (by decide) rfl (fun ls hl => ?_)
  refine lv_aload_n hx hb dX5_handOver_5 rfl (lv_at hl 1 rfl) ?_
  have G : Gx E (cw E st) (Af E sz) s _ _ := G
  refine xn4 Y G kx_cl_X5_9 kx_in_X4 kx_it_X4 (c2 := 1) (n2 := 7) (by omega) (by omega) (Nat.le_of_ble_eq_true rfl) (Nat.le_of_ble_eq_true rfl) dX5_handOver_6 (fun q H G => ?_)
  refine lv_dup hx hb dX5_handOver_9 rfl ?_
  refine xcN_last (As := []) (rest := [.ref q, .ref (eq E 40)]) Y G kn_X4 hN.2.2.1 (tX4_init l E q _) rfl rfl (rmx_le (by omega) (by decide)) rfl hl.1 rfl (Nat.le_of_ble_eq_true rfl) dX5_handOver_10 (c2 := 6) (n2 := 507) (by omega) (by omega) (Nat.le_of_ble_eq_true rfl) (Nat.le_of_ble_eq_true rfl) (fun u H locs G => ?_)
  have G := grow_R (nb := r + 10) G h3
  obtain ⟨E2, eE2⟩ : ∃ x, x = eX E (qR E (r + 10) q u) (eL E ++ nR (r + 10)) := ⟨_, rfl⟩
  have hE := Ext_R (a := q) (u := u) h3
  have e1 : eq (eX E (qR E (r + 10) q u) (eL E ++ nR (r + 10))) (r + 10) = q := if_pos rfl
  rw [← eE2] at G hE e1
  have X2 : CX p s m [Value.ref (eq E 40)].toArray c E2 RX5 cX5_handOver 2 (Af E sz) := by rw [eE2]; exact X
  have e2 : eq E2 40 = eq E 40 := hE.2.1 40 (hL 40 rfl)
  have e3 : eq E2 r = eq E r := hE.2.1 r (by have := (okRb_s rfl h2 0 (by decide)).2 (by decide); exact this)
  have hk40 : 40 ∈ eL E2 := by rw [eE2]; exact List.mem_append_left _ (hL 40 rfl)
  refine W.eq (g2 := F0 m 13 ls [va_rf ((some (r + 10)).map E2.2.2.2.1), .ref (eq E2 40)]) ?_ ?_
  · show F0 m (10 + 3) ls [.ref q, .ref (eq E 40)] = F0 m 13 ls [.ref (eq E2 (r + 10)), .ref (eq E2 40)]
    rw [e1, e2]
  refine pf5 X2 G hk40 rfl 1 (by decide) (v := va_rf ((some (r + 10)).map E2.2.2.2.1)) pq5_1 uqo kh_12 iwX5 rfl (ty := .object "FireTax$Rule") (by decide +kernel) nar_q fit_q dX5_handOver_13 (fun s2 es2 H locs G => ?_)
  refine lv_aload_n hx hb dX5_handOver_16 rfl (lv_at hl 0 rfl) ?_
  have hres := so_i hf
  subst hres
  rw [es2] at G
  exact W.aret X.1.1 X.1.2.1 hr (Or.inl ⟨_, rfl⟩) (Or.inr ⟨_, rfl⟩) (fun t ht hW => ⟨⟨some (eq E r), E2, rfl, ⟨by show some (eq E r) = some (eq E2 r); rw [e3], hE⟩, by rw [ht]; exact G.1, va_K.moved hW.alike X2.2.1, G.2.1⟩, G.2.2.F ht⟩) G.2.2.2.2 dX5_handOver_17 hlk
