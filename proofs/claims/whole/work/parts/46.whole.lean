def LC0 : List Nat := [0, 1, 20, 21, 22, 23, 30, 32, 100, 109, 110, 111, 112, 113, 40, 400, 401, 403, 404, 405, 407, 6, 120, 134, 143, 144, 145, 146, 147, 122, 123, 125, 126, 127, 9, 50, 52, 60, 63, 72, 73, 74, 75, 76, 64, 65, 68, 80, 83, 84, 13]
def LM0 : List Nat := [500, 502, 503, 504, 505, 506, 507, 508, 509, 510, 511, 512, 513, 514, 515, 516, 517, 518, 519, 520, 521, 522, 523, 524, 525, 526, 527, 528, 540, 541, 542, 543, 544, 545, 546, 547, 548, 549, 551, 552, 557, 558, 559, 560, 561]
def qC0 (h0 : Nat) (u : Nat → Nat) : Nat → Nat := fun k => match k with
  | 0 => h0
  | 1 => (u 0)
  | 20 => (u 1)
  | 21 => (u 2)
  | 22 => (u 3)
  | 23 => (u 4)
  | 30 => (u 5)
  | 32 => (u 6)
  | 100 => (u 7)
  | 109 => (u 8)
  | 110 => (u 9)
  | 111 => (u 10)
  | 112 => (u 11)
  | 113 => (u 12)
  | 40 => (u 13)
  | 400 => (u 14)
  | 401 => (u 15)
  | 403 => (u 16)
  | 404 => (u 17)
  | 405 => (u 18)
  | 407 => (u 19)
  | 6 => (u 20)
  | 120 => (u 21)
  | 134 => (u 22)
  | 143 => (u 23)
  | 144 => (u 24)
  | 145 => (u 25)
  | 146 => (u 26)
  | 147 => (u 27)
  | 122 => (u 28)
  | 123 => (u 29)
  | 125 => (u 30)
  | 126 => (u 31)
  | 127 => (u 32)
  | 9 => (u 33)
  | 50 => (u 34)
  | 52 => (u 35)
  | 60 => (u 36)
  | 63 => (u 37)
  | 72 => (u 38)
  | 73 => (u 39)
  | 74 => (u 40)
  | 75 => (u 41)
  | 76 => (u 42)
  | 64 => (u 43)
  | 65 => (u 44)
  | 68 => (u 45)
  | 80 => (u 46)
  | 83 => (u 47)
  | 84 => (u 48)
  | 13 => (u 49)
  | _ => 0
def qM0 (h0 : Nat) (u : Nat → Nat) : Nat → Nat := fun k => match k with
  | 500 => h0
  | 502 => (u 0)
  | 503 => (u 1)
  | 504 => (u 2)
  | 505 => (u 3)
  | 506 => (u 4)
  | 507 => (u 5)
  | 508 => (u 6)
  | 509 => (u 7)
  | 510 => (u 8)
  | 511 => (u 9)
  | 512 => (u 10)
  | 513 => (u 11)
  | 514 => (u 12)
  | 515 => (u 13)
  | 516 => (u 14)
  | 517 => (u 15)
  | 518 => (u 16)
  | 519 => (u 17)
  | 520 => (u 18)
  | 521 => (u 19)
  | 522 => (u 20)
  | 523 => (u 21)
  | 524 => (u 22)
  | 525 => (u 23)
  | 526 => (u 24)
  | 527 => (u 25)
  | 528 => (u 26)
  | 540 => (u 27)
  | 541 => (u 28)
  | 542 => (u 29)
  | 543 => (u 30)
  | 544 => (u 31)
  | 545 => (u 32)
  | 546 => (u 33)
  | 547 => (u 34)
  | 548 => (u 35)
  | 549 => (u 36)
  | 551 => (u 37)
  | 552 => (u 38)
  | 557 => (u 39)
  | 558 => (u 40)
  | 559 => (u 41)
  | 560 => (u 42)
  | 561 => (u 43)
  | _ => 0
/-- the class's memory at first -/
def c00 : St := (fun k => match k with
  | 20 => (fun i => if i = 5 then 23 else 0)
  | 60 => (fun i => if i = 8 then -1 else if i = 9 then -1 else if i = 10 then -1 else 0)
  | 120 => (fun i => if i = 8 then -1 else 0)
  | _ => (fun _ => 0), fun _ _ => 0, fun k => match k with
  | 40 => (fun i => if i = 1 then some 400 else none)
  | _ => (fun _ => none))
/-- the reference's memory at first -/
def m00 : St := (fun k => match k with
  | 500 => (fun i => if i = 38 then 12 else 0)
  | 502 => upd (fun _ => 0) 11 (-1)
  | _ => (fun _ => 0), fun _ _ => 0, fun _ _ => none)
def cC0 (E : Ev) (h0 : Nat) (u : Nat → Nat) : va_W := (ckX9 E h0 u).set 38 ((u 37), .inl (E.1 6, 5, .inr (.inr (.inr (.inr (fun i => some (qC0 h0 u (63 + 9 + i))))))))
set_option maxRecDepth 1000000 in
set_option maxHeartbeats 10000000 in
theorem cw_C0 (E : Ev) (h0 : Nat) (u : Nat → Nat) : cw (eX E (qC0 h0 u) LC0) c00 = cC0 E h0 u := rfl
theorem G_C0 {E : Ev} {h0 : Nat} {u : Nat → Nat} {A : Nat → Prop} {s : State} {H : Heap} {locs : List Loc} (G : Gx E (ckX9 E h0 u) A s H locs) : Gx E (cC0 E h0 u) A s H locs := by
  refine Gx_repl G 38 rfl (fun h9 => ?_)
  have h10 : H[(u 37)]? = some (vp_cell (E.1 6) (5, .inr (.inr (.inr (.inr (fun i => some ([(u 38), (u 39), (u 40), (u 41), (u 42)].getD i 0))))))) := h9
  show H[(u 37)]? = some (vp_cell (E.1 6) (5, .inr (.inr (.inr (.inr (fun i => some (qC0 h0 u (63 + 9 + i))))))))
  rw [h10, vp_cell_q, vp_cell_q]
  refine congrArg some (arrV_cong ?_)
  intro j hj
  rcases (show j = 0 ∨ j = 1 ∨ j = 2 ∨ j = 3 ∨ j = 4 by omega) with rfl | rfl | rfl | rfl | rfl <;> rfl
set_option maxRecDepth 1000000 in
set_option maxHeartbeats 10000000 in
theorem cw_M0 (E : Ev) (h0 : Nat) (u : Nat → Nat) : cw (eX E (qM0 h0 u) LM0) m00 = ckX10 E h0 u := rfl
theorem fx_C0 : ∀ k, fxC k = true → k ∈ LC0 := by
  intro k h
  have h1 : ∀ k, k < 148 → fxC k = true → k ∈ LC0 := by decide +kernel
  refine h1 k ?_ h
  unfold fxC at h
  have h2 := (Bool.and_eq_true _ _).mp h
  have h3 := Nat.le_of_ble_eq_true h2.1
  omega
theorem fx_M0 : ∀ k, fxM k = true → k ∈ LM0 := by
  intro k h
  have h1 : ∀ k, k < 562 → fxM k = true → k ∈ LM0 := by decide +kernel
  refine h1 k ?_ h
  unfold fxM at h
  have h2 := (Bool.and_eq_true _ _).mp h
  rcases Nat.lt_or_ge k 562 with q | q
  · exact q
  · exfalso
    have e : ty k = 0 := by
      unfold ty
      have h9 : tyL.length = 562 := by decide +kernel
      rw [List.getD_eq_getElem?_getD, List.getElem?_eq_none (by omega)]
      rfl
    rw [e] at h2
    exact absurd h2.2 (by decide)
theorem va_P_l {D : va_G} {cl : List vw_C} {a b : va_W} {H : Heap} (h : va_P D cl (a ++ b) H) : va_P D cl a H := fun i x hx => h i x (by rw [List.getElem?_append_left (List.getElem?_eq_some_iff.mp hx).1]; exact hx)
theorem va_P_r {D : va_G} {cl : List vw_C} {a b : va_W} {H : Heap} (h : va_P D cl (a ++ b) H) : va_P D cl b H := fun i x hx => h (a.length + i) x (by rw [List.getElem?_append_right (by omega), Nat.add_sub_cancel_left]; exact hx)
section WS
variable {p : Program} {l : Launch} {e : Env} {R : Room} {s : State} {m : MethodId} {args : Array Value} {below : List Frame} {meth : Method} {c : Code} {H : Heap} {locs : List Loc} {cells slots : Nat} {Q : State → Prop} {cc : ByteArray} {pc : Nat} {ls : Array Slot} {rest : List Value} {nL : Nat}
variable {E : Ev} {A : Nat → Prop} {own : String}
theorem xcI_last {w : va_W} {a : Nat} {e0 : va_E} {w1 : (Nat → Nat) → va_W} {y : MethodName} {bytes : ByteArray} {maxL n index mc ms c2 n2 : Nat} {rm : Room} {As st0 : List Value} (Y : CY p s m args c E own cc nL A) (G : Gx E (w ++ [(a, e0)]) A s H locs) (K : LI own index y bytes maxL n) (hM : Met l y (.code y bytes maxL none :: uW) rm (va_Pc (.ref a :: As) (PreX E [(a, e0)] H.size)) (QX E w1 (va_A [(a, e0)] H.size)) mc ms (va_A [(a, e0)] H.size)) (hrc : rm.cells = mc) (hrs : rm.slots = ms)
    (hRm : rm.frames + 1 ≤ R.frames ∧ 8 + (maxL + 11) + rm.locals ≤ R.locals) (hn : As.length = n) (hsz : ls.size = nL) (hst : st0 = As.reverse ++ .ref a :: rest) (hW : (rest.map fun v => v.category).sum ≤ 8) (hdg : decode cc pc = .ok (.invokespecial index, 3)) (hc : cells + mc ≤ c2) (hs : slots + ms ≤ n2) (hc2 : c2 ≤ R.cells) (hn2 : n2 ≤ R.slots)
    (kk : ∀ (u : Nat → Nat) (H : Heap) (locs : List Loc), Gx E (w ++ w1 u) A s H locs → W p l e R s m args below meth c H locs c2 n2 Q (F0 m (pc + 3) ls rest)) : W p l e R s m args below meth c H locs cells slots Q (F0 m pc ls st0) := by
  have hlast : (w ++ [(a, e0)])[w.length]? = some (a, e0) := by rw [List.getElem?_append_right (Nat.le_refl _), Nat.sub_self]; rfl
  refine xcI Y G K hM [w.length] (List.range w.length) (by simp [hlast]) rfl (by simp [hlast]) (wr := w) ?_ (va_nd_of _ List.nodup_range) (fun i hi hc => ?_) hrc hrs hRm hn hsz hst hW hdg hc hs hc2 hn2 kk
  · apply List.ext_getElem?
    intro i
    rw [List.getElem?_map, List.getElem?_map]
    by_cases hi : i < w.length
    · rw [List.getElem?_range hi]
      show some ((w ++ [(a, e0)])[i]?) = _
      rw [List.getElem?_append_left hi, List.getElem?_eq_getElem hi]
      rfl
    · rw [List.getElem?_eq_none (by rw [List.length_range]; omega), List.getElem?_eq_none (by omega)]
      rfl
  · have h1 := List.mem_range.mp hi
    have h2 := List.mem_singleton.mp hc
    omega
end WS
theorem kl_X9 : LI R_law 9 yX9_init cX9_init 1 0 := ⟨uW_1 (i := 24) rfl rfl, uW_1 (i := 22) rfl rfl, uW_1 (i := 23) rfl rfl, uW_1 (i := 1) rfl rfl, ⟨by decide +kernel, by decide +kernel, by decide +kernel⟩, rfl⟩
theorem kl_X10 : LI R_law 12 yX10_init cX10_init 1 0 := ⟨uW_5 (i := 29) rfl rfl, uW_5 (i := 27) rfl rfl, uW_5 (i := 28) rfl rfl, uW_1 (i := 11) rfl rfl, ⟨by decide +kernel, by decide +kernel, by decide +kernel⟩, rfl⟩
set_option maxRecDepth 100000 in
theorem whole_of {Rel : List Nat → St → St → Prop} (hk0 : Sk_0 Rel) (hk1 : Sk_1 Rel) (hk2 : Sk_2 Rel) (hk3 : Sk_3 Rel) (hk4 : Sk_4 Rel) (hk5 : Sk_5 Rel) (hk6 : Sk_6 Rel) (hk7 : Sk_7 Rel) (hk8 : Sk_8 Rel) (hk9 : Sk_9 Rel) (hk10 : Sk_10 Rel) (hk11 : Sk_11 Rel) (hk12 : Sk_12 Rel) (hk13 : Sk_13 Rel) (hk14 : Sk_14 Rel) (hk15 : Sk_15 Rel) (hk16 : Sk_16 Rel) (hk17 : Sk_17 Rel) (hk18 : Sk_18 Rel) (hk19 : Sk_19 Rel) (hk20 : Sk_20 Rel) (hk21 : Sk_21 Rel) (hk22 : Sk_22 Rel) (hk23 : Sk_23 Rel) (hk24 : Sk_24 Rel) (hk25 : Sk_25 Rel) (hk26 : Sk_26 Rel) (hk27 : Sk_27 Rel) (hk28 : Sk_28 Rel) (hk29 : Sk_29 Rel) (hk30 : Sk_30 Rel) (hk31 : Sk_31 Rel) (hR0 : Rel LC0 c00 m00) {p : Program} {e : Env} {s : State} {m : MethodId} {below : List Frame} {meth : Method} {c : Code} (l : Launch) {b L : Nat} {xs : Nat → Int32} (hL : L ≤ 3072) (C0 : lw_At p s m meth c b L xs) : W p l e room_1 s m #[Value.ref b] below meth c s.heap [] 0 0 (lw_Z below #[Value.ref b] s) (entryFrame m ([Value.ref b] : List Value).toArray 4) := by
  obtain ⟨hx, hb, hr, hml, hown, hts, hX, hbl, hlocks, hgv⟩ := id C0
  have hA : ∀ q : Nat, s.heap.size ≤ q → (fun q : Nat => s.heap.size ≤ q) q := fun _ h => h
  have hA2 : ∀ q : Nat, q < s.heap.size → ¬ (fun q : Nat => s.heap.size ≤ q) q := fun q h h2 => by have h3 : s.heap.size ≤ q := h2; omega
  have hU : ∀ w ∈ uW, w.before #[Value.ref b] s = true := fun w hw => hts w (List.mem_filter.mp hw).1
  have hN := KN_start hts
  obtain ⟨adK, adV, adS, hKX⟩ := KX_start hgv hts hA2
  obtain ⟨Z, dC, dI, hK⟩ := K_start hts
  obtain ⟨E0, eE0⟩ : ∃ E : Ev, E = (Z, dC, dI, (fun _ => 0), [], adK, adV, adS) := ⟨_, rfl⟩
  have hF : CallFix p m c code 4 s #[Value.ref b] uW R_law := ⟨hx, hb, hml, hown, hU⟩
  have hKE : ∀ (q : Nat → Nat) (L : List Nat), va_K (eD (eX E0 q L)) vwCl (eT (eX E0 q L)) s := fun q L => by rw [eE0]; exact hK q L adK adV adS
  have hCX : ∀ (q : Nat → Nat) (L : List Nat), CX p s m #[Value.ref b] c (eX E0 q L) R_law code 4 (fun q : Nat => s.heap.size ≤ q) := fun q L => ⟨hF, hKE q L, hA, by rw [eE0]; exact (hKX Z dC dI q L).1, by rw [eE0]; exact (hKX Z dC dI q L).2⟩
  have Y : CY p s m #[Value.ref b] c E0 R_law code 4 (fun q : Nat => s.heap.size ≤ q) := ⟨hF, by rw [eE0]; exact hK _ _ adK adV adS, hA, hN⟩
  have G : Gx E0 [] (fun q : Nat => s.heap.size ≤ q) s s.heap [] := ⟨fun k q h => by simp at h, ⟨fun i j p q h => by simp at h, fun k q h => by simp at h⟩, va_S.rf⟩
  have hl := lv_entry ([.ref b]) (n := 4) (Nat.le_of_ble_eq_true rfl)
  rw [lg_entry_eq]
  generalize (lg_sl ([.ref b]) ++ List.replicate (4 - (lg_sl ([.ref b])).length) Slot.unset).toArray = ls at hl ⊢
  have hl : lv_has ls 4 [(0, .ref b)] := hl
  refine xn9 Y G (uW_1 (i := 20) rfl rfl) (uW_1 (i := 21) rfl rfl) (uW_1 (i := 1) rfl rfl) (c2 := 1) (n2 := 13) (by omega) (by omega) (Nat.le_of_ble_eq_true rfl) (Nat.le_of_ble_eq_true rfl) dL_law_0 (fun q0 H G => ?_)
  refine lv_dup hx hb dL_law_3 rfl ?_
  refine xcI_last (w := []) (As := []) (rest := [.ref q0]) Y G kl_X9 (tX9_init l E0 q0 _) rfl rfl ⟨Nat.le_of_ble_eq_true rfl, Nat.le_of_ble_eq_true rfl⟩ rfl hl.1 rfl (Nat.le_of_ble_eq_true rfl) dL_law_4 (c2 := 51) (n2 := 3604) (by omega) (by omega) (Nat.le_of_ble_eq_true rfl) (Nat.le_of_ble_eq_true rfl) (fun u0 H locs G => ?_)
  have G : Gx E0 (cC0 E0 q0 u0) (fun q : Nat => s.heap.size ≤ q) s H locs := G_C0 G
  refine lv_astore_n (lv' := [(1, .ref q0), (0, .ref b)]) hx hb dL_law_7 rfl hl (by decide) rfl (fun ls hl => ?_)
  refine xn10 Y G (uW_5 (i := 25) rfl rfl) (uW_5 (i := 26) rfl rfl) (uW_1 (i := 11) rfl rfl) (c2 := 52) (n2 := 3667) (by omega) (by omega) (Nat.le_of_ble_eq_true rfl) (Nat.le_of_ble_eq_true rfl) dL_law_8 (fun q1 H G => ?_)
  refine lv_dup hx hb dL_law_11 rfl ?_
  refine xcI_last (w := cC0 E0 q0 u0) (As := []) (rest := [.ref q1]) Y G kl_X10 (tX10_init l E0 q1 _) rfl rfl ⟨Nat.le_of_ble_eq_true rfl, Nat.le_of_ble_eq_true rfl⟩ rfl hl.1 rfl (Nat.le_of_ble_eq_true rfl) dL_law_12 (c2 := 96) (n2 := 15375) (by omega) (by omega) (Nat.le_of_ble_eq_true rfl) (Nat.le_of_ble_eq_true rfl) (fun u1 H locs G => ?_)
  refine lv_astore_n (lv' := [(2, .ref q1), (1, .ref q0), (0, .ref b)]) hx hb dL_law_15 rfl hl (by decide) rfl (fun ls hl => ?_)
  refine lv_iconst (v := 0) hx hb dL_law_16 (by decide) ?_
  refine lv_istore_n (lv' := [(3, .int 0), (2, .ref q1), (1, .ref q0), (0, .ref b)]) hx hb dL_law_17 rfl hl (by decide) rfl (fun ls hl => ?_)
  have G' : G2 (eX E0 (qC0 q0 u0) LC0) (eX E0 (qM0 q1 u1) LM0) c00 m00 (fun q : Nat => s.heap.size ≤ q) s H locs := by
    refine ⟨?_, ?_, ?_, G.2.2⟩
    · rw [cw_C0]; exact va_P_l G.1
    · rw [cw_M0]; exact va_P_r G.1
    · rw [cw_C0, cw_M0]; exact G.2.1
  refine W.widen (k := 200 + 2 * 0) (n := 20000 + 164 * 0) (by omega) (by omega) ?_
  exact law_loop hk0 hk1 hk2 hk3 hk4 hk5 hk6 hk7 hk8 hk9 hk10 hk11 hk12 hk13 hk14 hk15 hk16 hk17 hk18 hk19 hk20 hk21 hk22 hk23 hk24 hk25 hk26 hk27 hk28 hk29 hk30 hk31 hL C0 hN (Em := eX E0 (qM0 q1 u1) LM0) (hCX _ _) fx_M0 (L + 6) 0 0 (by omega) (by omega) nI_0.symm (eX E0 (qC0 q0 u0) LC0) (hCX _ _) fx_C0 c00 m00 hR0 H locs G' ls (lv_sub hl [3, 2, 1, 0] rfl)
