theorem dX10_in_0 : decode cX10_in 0 = .ok (.lload_n 0, 1) := by decide +kernel
theorem dX10_in_1 : decode cX10_in 1 = .ok (.lload_n 2, 1) := by decide +kernel
theorem dX10_in_2 : decode cX10_in 2 = .ok (.lcmp, 1) := by decide +kernel
theorem dX10_in_3 : decode cX10_in 3 = .ok (.ifCond .lt 14, 3) := by decide +kernel
theorem dX10_in_6 : decode cX10_in 6 = .ok (.lload_n 0, 1) := by decide +kernel
theorem dX10_in_7 : decode cX10_in 7 = .ok (.lload 4, 2) := by decide +kernel
theorem dX10_in_9 : decode cX10_in 9 = .ok (.lcmp, 1) := by decide +kernel
theorem dX10_in_10 : decode cX10_in 10 = .ok (.ifCond .gt 7, 3) := by decide +kernel
theorem dX10_in_13 : decode cX10_in 13 = .ok (.iconst 1, 1) := by decide +kernel
theorem dX10_in_14 : decode cX10_in 14 = .ok (.goto 4, 3) := by decide +kernel
theorem dX10_in_17 : decode cX10_in 17 = .ok (.iconst 0, 1) := by decide +kernel
theorem dX10_in_18 : decode cX10_in 18 = .ok (.ireturn, 1) := by decide +kernel
theorem dX10_isHouse_0 : decode cX10_isHouse 0 = .ok (.iload_n 1, 1) := by decide +kernel
theorem dX10_isHouse_1 : decode cX10_isHouse 1 = .ok (.i2l, 1) := by decide +kernel
theorem dX10_isHouse_2 : decode cX10_isHouse 2 = .ok (.lconst 0, 1) := by decide +kernel
theorem dX10_isHouse_3 : decode cX10_isHouse 3 = .ok (.aload_n 0, 1) := by decide +kernel
theorem dX10_isHouse_4 : decode cX10_isHouse 4 = .ok (.getfield 9, 3) := by decide +kernel
theorem dX10_isHouse_7 : decode cX10_isHouse 7 = .ok (.iconst 3, 1) := by decide +kernel
theorem dX10_isHouse_8 : decode cX10_isHouse 8 = .ok (.iaload, 1) := by decide +kernel
theorem dX10_isHouse_9 : decode cX10_isHouse 9 = .ok (.iconst 1, 1) := by decide +kernel
theorem dX10_isHouse_10 : decode cX10_isHouse 10 = .ok (.isub, 1) := by decide +kernel
theorem dX10_isHouse_11 : decode cX10_isHouse 11 = .ok (.i2l, 1) := by decide +kernel
theorem dX10_isHouse_12 : decode cX10_isHouse 12 = .ok (.invokestatic 152, 3) := by decide +kernel
theorem dX10_isHouse_15 : decode cX10_isHouse 15 = .ok (.ireturn, 1) := by decide +kernel
theorem dX10_has_0 : decode cX10_has 0 = .ok (.iload_n 0, 1) := by decide +kernel
theorem dX10_has_1 : decode cX10_has 1 = .ok (.iload_n 1, 1) := by decide +kernel
theorem dX10_has_2 : decode cX10_has 2 = .ok (.ishr, 1) := by decide +kernel
theorem dX10_has_3 : decode cX10_has 3 = .ok (.iconst 1, 1) := by decide +kernel
theorem dX10_has_4 : decode cX10_has 4 = .ok (.iand, 1) := by decide +kernel
theorem dX10_has_5 : decode cX10_has 5 = .ok (.iconst 1, 1) := by decide +kernel
theorem dX10_has_6 : decode cX10_has 6 = .ok (.if_icmp .ne 7, 3) := by decide +kernel
theorem dX10_has_9 : decode cX10_has 9 = .ok (.iconst 1, 1) := by decide +kernel
theorem dX10_has_10 : decode cX10_has 10 = .ok (.goto 4, 3) := by decide +kernel
theorem dX10_has_13 : decode cX10_has 13 = .ok (.iconst 0, 1) := by decide +kernel
theorem dX10_has_14 : decode cX10_has 14 = .ok (.ireturn, 1) := by decide +kernel
theorem dX10_isFrozen_0 : decode cX10_isFrozen 0 = .ok (.aload_n 0, 1) := by decide +kernel
theorem dX10_isFrozen_1 : decode cX10_isFrozen 1 = .ok (.getfield 9, 3) := by decide +kernel
theorem dX10_isFrozen_4 : decode cX10_isFrozen 4 = .ok (.bipush 7, 2) := by decide +kernel
theorem dX10_isFrozen_6 : decode cX10_isFrozen 6 = .ok (.iaload, 1) := by decide +kernel
theorem dX10_isFrozen_7 : decode cX10_isFrozen 7 = .ok (.iload_n 1, 1) := by decide +kernel
theorem dX10_isFrozen_8 : decode cX10_isFrozen 8 = .ok (.invokestatic 156, 3) := by decide +kernel
theorem dX10_isFrozen_11 : decode cX10_isFrozen 11 = .ok (.ireturn, 1) := by decide +kernel
theorem dX10_bits_0 : decode cX10_bits 0 = .ok (.iconst 0, 1) := by decide +kernel
theorem dX10_bits_1 : decode cX10_bits 1 = .ok (.istore_n 1, 1) := by decide +kernel
theorem dX10_bits_2 : decode cX10_bits 2 = .ok (.iconst 0, 1) := by decide +kernel
theorem dX10_bits_3 : decode cX10_bits 3 = .ok (.istore_n 2, 1) := by decide +kernel
theorem dX10_bits_4 : decode cX10_bits 4 = .ok (.iload_n 2, 1) := by decide +kernel
theorem dX10_bits_5 : decode cX10_bits 5 = .ok (.bipush 16, 2) := by decide +kernel
theorem dX10_bits_7 : decode cX10_bits 7 = .ok (.if_icmp .ge 17, 3) := by decide +kernel
theorem dX10_bits_10 : decode cX10_bits 10 = .ok (.iload_n 1, 1) := by decide +kernel
theorem dX10_bits_11 : decode cX10_bits 11 = .ok (.iload_n 0, 1) := by decide +kernel
theorem dX10_bits_12 : decode cX10_bits 12 = .ok (.iload_n 2, 1) := by decide +kernel
theorem dX10_bits_13 : decode cX10_bits 13 = .ok (.ishr, 1) := by decide +kernel
theorem dX10_bits_14 : decode cX10_bits 14 = .ok (.iconst 1, 1) := by decide +kernel
theorem dX10_bits_15 : decode cX10_bits 15 = .ok (.iand, 1) := by decide +kernel
theorem dX10_bits_16 : decode cX10_bits 16 = .ok (.iadd, 1) := by decide +kernel
theorem dX10_bits_17 : decode cX10_bits 17 = .ok (.istore_n 1, 1) := by decide +kernel
theorem dX10_bits_18 : decode cX10_bits 18 = .ok (.iinc 2 1, 3) := by decide +kernel
theorem dX10_bits_21 : decode cX10_bits 21 = .ok (.goto (-17), 3) := by decide +kernel
theorem dX10_bits_24 : decode cX10_bits 24 = .ok (.iload_n 1, 1) := by decide +kernel
theorem dX10_bits_25 : decode cX10_bits 25 = .ok (.ireturn, 1) := by decide +kernel
def fX10_in (p1 : Int64) (p2 : Int64) (p3 : Int64) : Option Int32 := if (lg_cmp p1 p2) < 0 then (some (0 : Int32)) else (if 0 < (lg_cmp p1 p3) then (some (0 : Int32)) else (some (1 : Int32)))
set_option maxRecDepth 100000 in
theorem tX10_in (l : Launch) (E : Ev) (st : St) (sz : Nat) (p1 : Int64) (p2 : Int64) (p3 : Int64) {res : Int32} (hf : fX10_in  p1 p2 p3 = some res) : Met l yX10_in (.code yX10_in cX10_in 6 (some .boolean) :: uW) (rmk 0) (va_Pc [.long p1, .long p2, .long p3] (Pre E st sz)) (QRi res) 0 0 (NoF) := by
  refine Met_in (by decide) (Nat.le_of_ble_eq_true rfl) ?_
  intro p e s m below meth c X hr hlk hz G ls hl
  have hx := X.1.1
  have hb := X.1.2.1
  have hl : lv_has ls 6 [(0, .long p1), (2, .long p2), (4, .long p3)] := hl
  unfold fX10_in at hf
  refine lv_lload_n hx hb dX10_in_0 rfl (lv_at hl 0 rfl) ?_
  refine lv_lload_n hx hb dX10_in_1 rfl (lv_at hl 1 rfl) ?_
  refine W.lcmp hx hb dX10_in_2 ?_
  refine lv_if_lt (tgt := 17) hx hb dX10_in_3 (by decide) (fun c1 => ?_) (fun c1 => ?_)
  · have hf := it_t hf c1
    refine lv_iconst (v := (0 : Int32)) hx hb dX10_in_17 (by decide) ?_
    exact rtRz X hlk hr rfl (so_i hf) dX10_in_18
  · have hf := it_f hf c1
    refine lv_lload_n hx hb dX10_in_6 rfl (lv_at hl 0 rfl) ?_
    refine lv_lload hx hb dX10_in_7 (lv_at hl 2 rfl) ?_
    refine W.lcmp hx hb dX10_in_9 ?_
    refine lv_if_gt (tgt := 17) hx hb dX10_in_10 (by decide) (fun c2 => ?_) (fun c2 => ?_)
    · have hf := it_t hf c2
      refine lv_iconst (v := (0 : Int32)) hx hb dX10_in_17 (by decide) ?_
      exact rtRz X hlk hr rfl (so_i hf) dX10_in_18
    · have hf := it_f hf c2
      refine lv_iconst (v := (1 : Int32)) hx hb dX10_in_13 (by decide) ?_
      refine lv_goto (tgt := 18) hx hb dX10_in_14 (by decide) ?_
      exact rtRz X hlk hr rfl (so_i hf) dX10_in_18
def fX10_isHouse (st : St) (p1 : Int32) : Option Int32 := br (fX10_in (Int32.toInt64 p1) (0 : Int64) (Int32.toInt64 ((st.1 502 3) - (1 : Int32)))) (fun x3 => gd (bz x3) (some x3))
set_option maxRecDepth 100000 in
theorem tX10_isHouse (l : Launch) (E : Ev) (st : St) (sz : Nat) (hL : ∀ k, fxM k = true → k ∈ eL E) (p1 : Int32) {res : Int32} (hf : fX10_isHouse st p1 = some res) : Met l yX10_isHouse (.code yX10_isHouse cX10_isHouse 2 (some .boolean) :: uW) (rmk 1) (va_Pc [.ref (eq E 500), .int p1] (Pre E st sz)) (QRi res) 0 0 (NoF) := by
  refine Met_in (by decide) (Nat.le_of_ble_eq_true rfl) ?_
  intro p e s m below meth c X hr hlk hz G ls hl
  have hx := X.1.1
  have hb := X.1.2.1
  have hl : lv_has ls 2 [(0, .ref (eq E 500)), (1, .int p1)] := hl
  unfold fX10_isHouse at hf
  refine lv_iload_n hx hb dX10_isHouse_0 rfl (lv_at hl 1 rfl) ?_
  refine lv_i2l hx hb dX10_isHouse_1 rfl ?_
  refine lv_lconst (v := (0 : Int64)) hx hb dX10_isHouse_2 (by decide) ?_
  refine lv_aload_n hx hb dX10_isHouse_3 rfl (lv_at hl 0 rfl) ?_
  refine g10 X G (hL 500 rfl) rfl 1 (by decide) rfl kf_X10_9 iwX10 dX10_isHouse_4 ?_
  refine lv_iconst (v := (3 : Int32)) hx hb dX10_isHouse_7 (by decide) ?_
  refine ia_ldc (k := 502) (n := 12) X G (hL 502 rfl) rfl (by decide) 3 (by decide) dX10_isHouse_8 ?_
  refine lv_iconst (v := (1 : Int32)) hx hb dX10_isHouse_9 (by decide) ?_
  refine lv_isub hx hb dX10_isHouse_10 ?_
  refine lv_i2l hx hb dX10_isHouse_11 rfl ?_
  obtain ⟨x3, h2, hf⟩ := br_s hf
  refine cSRi (As := [.long (Int32.toInt64 p1), .long (0 : Int64), .long (Int32.toInt64 ((st.1 502 3) - (1 : Int32)))]) (rest := []) X G kc_X10_152 (tX10_in l E st _  (Int32.toInt64 p1) (0 : Int64) (Int32.toInt64 ((st.1 502 3) - (1 : Int32))) h2) rfl rfl ⟨(Nat.le_of_ble_eq_true rfl), (Nat.le_of_ble_eq_true rfl)⟩ rfl hl.1 rfl (Nat.le_of_ble_eq_true rfl) dX10_isHouse_12 ⟨Nat.zero_le _, Nat.zero_le _⟩ ?_
  obtain ⟨h4, hf⟩ := gd_s hf
  exact rtRz X hlk hr (bz_n h4) (so_i hf) dX10_isHouse_15
def fX10_has (p1 : Int32) (p2 : Int32) : Option Int32 := if ((p1 >>> (p2 &&& 31)) &&& (1 : Int32)) = (1 : Int32) then (some (1 : Int32)) else (some (0 : Int32))
set_option maxRecDepth 100000 in
theorem tX10_has (l : Launch) (E : Ev) (st : St) (sz : Nat) (p1 : Int32) (p2 : Int32) {res : Int32} (hf : fX10_has  p1 p2 = some res) : Met l yX10_has (.code yX10_has cX10_has 2 (some .boolean) :: uW) (rmk 0) (va_Pc [.int p1, .int p2] (Pre E st sz)) (QRi res) 0 0 (NoF) := by
  refine Met_in (by decide) (Nat.le_of_ble_eq_true rfl) ?_
  intro p e s m below meth c X hr hlk hz G ls hl
  have hx := X.1.1
  have hb := X.1.2.1
  have hl : lv_has ls 2 [(0, .int p1), (1, .int p2)] := hl
  unfold fX10_has at hf
  refine lv_iload_n hx hb dX10_has_0 rfl (lv_at hl 0 rfl) ?_
  refine lv_iload_n hx hb dX10_has_1 rfl (lv_at hl 1 rfl) ?_
  refine lv_ishr hx hb dX10_has_2 ?_
  refine lv_iconst (v := (1 : Int32)) hx hb dX10_has_3 (by decide) ?_
  refine lv_iand hx hb dX10_has_4 ?_
  refine lv_iconst (v := (1 : Int32)) hx hb dX10_has_5 (by decide) ?_
  refine lv_icmp_ne (tgt := 13) hx hb dX10_has_6 (by decide) (fun c1 => ?_) (fun c1 => ?_)
  · have hf := it_f hf c1
    refine lv_iconst (v := (0 : Int32)) hx hb dX10_has_13 (by decide) ?_
    exact rtRz X hlk hr rfl (so_i hf) dX10_has_14
  · have hf := it_t hf c1
    refine lv_iconst (v := (1 : Int32)) hx hb dX10_has_9 (by decide) ?_
    refine lv_goto (tgt := 14) hx hb dX10_has_10 (by decide) ?_
    exact rtRz X hlk hr rfl (so_i hf) dX10_has_14
def fX10_isFrozen (st : St) (p1 : Int32) : Option Int32 := br (fX10_has (st.1 502 7) p1) (fun x3 => gd (bz x3) (some x3))
set_option maxRecDepth 100000 in
theorem tX10_isFrozen (l : Launch) (E : Ev) (st : St) (sz : Nat) (hL : ∀ k, fxM k = true → k ∈ eL E) (p1 : Int32) {res : Int32} (hf : fX10_isFrozen st p1 = some res) : Met l yX10_isFrozen (.code yX10_isFrozen cX10_isFrozen 2 (some .boolean) :: uW) (rmk 1) (va_Pc [.ref (eq E 500), .int p1] (Pre E st sz)) (QRi res) 0 0 (NoF) := by
  refine Met_in (by decide) (Nat.le_of_ble_eq_true rfl) ?_
  intro p e s m below meth c X hr hlk hz G ls hl
  have hx := X.1.1
  have hb := X.1.2.1
  have hl : lv_has ls 2 [(0, .ref (eq E 500)), (1, .int p1)] := hl
  unfold fX10_isFrozen at hf
  refine lv_aload_n hx hb dX10_isFrozen_0 rfl (lv_at hl 0 rfl) ?_
  refine g10 X G (hL 500 rfl) rfl 1 (by decide) rfl kf_X10_9 iwX10 dX10_isFrozen_1 ?_
  refine lv_bipush (v := (7 : Int32)) hx hb dX10_isFrozen_4 (by decide) ?_
  refine ia_ldc (k := 502) (n := 12) X G (hL 502 rfl) rfl (by decide) 7 (by decide) dX10_isFrozen_6 ?_
  refine lv_iload_n hx hb dX10_isFrozen_7 rfl (lv_at hl 1 rfl) ?_
  obtain ⟨x3, h2, hf⟩ := br_s hf
  refine cSRi (As := [.int (st.1 502 7), .int p1]) (rest := []) X G kc_X10_156 (tX10_has l E st _  (st.1 502 7) p1 h2) rfl rfl ⟨(Nat.le_of_ble_eq_true rfl), (Nat.le_of_ble_eq_true rfl)⟩ rfl hl.1 rfl (Nat.le_of_ble_eq_true rfl) dX10_isFrozen_8 ⟨Nat.zero_le _, Nat.zero_le _⟩ ?_
  obtain ⟨h4, hf⟩ := gd_s hf
  exact rtRz X hlk hr (bz_n h4) (so_i hf) dX10_isFrozen_11
def fX10_bits_L4 : Nat → Int32 → Int32 → Int32 → Option Int32
  | 0, _, _, _ => none
  | n + 1, y0, y1, y2 => if (16 : Int32) ≤ y2 then (some y1) else (nm (y1 + ((y0 >>> (y2 &&& 31)) &&& (1 : Int32))) (fun x2 => nm (y2 + (1 : Int32)) (fun x3 => (fX10_bits_L4 n) y0 x2 x3)))
set_option maxRecDepth 100000 in
theorem wX10_bits_L4 {p : Program} {l : Launch} {e : Env} {s : State} {m : MethodId} {args : Array Value} {below : List Frame} {meth : Method} {c : Code} {E : Ev} {st : St} {sz : Nat} {res : Int32} (X : CX p s m args c E RX10 cX10_bits 3 (Af E sz)) (hr : meth.sig.returnType = (some .int)) (hlk : meth.locks = false) (G : Gd E st (Af E sz) s s.heap []) : ∀ (n : Nat) (y0 : Int32) (y1 : Int32) (y2 : Int32), fX10_bits_L4   n y0 y1 y2 = some res → ∀ ls : Array Slot, lv_has ls 3 [(0, .int y0), (1, .int y1), (2, .int y2)] → W p l e (rmk 0) s m args below meth c s.heap [] 0 0 (MQ below (QRi res) args s 0 0 (NoF)) (F0 m 4 ls []) := by
  have hx := X.1.1
  have hb := X.1.2.1
  intro n
  induction n with
  | zero =>
    intro y0 y1 y2 hf ls hl
    cases (show (none : Option Int32) = some res from hf)
  | succ n ih =>
    intro y0 y1 y2 hf ls hl
    rw [fX10_bits_L4] at hf
    refine lv_iload_n hx hb dX10_bits_4 rfl (lv_at hl 2 rfl) ?_
    refine lv_bipush (v := (16 : Int32)) hx hb dX10_bits_5 (by decide) ?_
    refine lv_icmp_ge (tgt := 24) hx hb dX10_bits_7 (by decide) (fun c1 => ?_) (fun c1 => ?_)
    · have hf := it_t hf c1
      refine lv_iload_n hx hb dX10_bits_24 rfl (lv_at hl 1 rfl) ?_
      exact rtRi X hlk hr (so_i hf) dX10_bits_25
    · have hf := it_f hf c1
      refine lv_iload_n hx hb dX10_bits_10 rfl (lv_at hl 1 rfl) ?_
      refine lv_iload_n hx hb dX10_bits_11 rfl (lv_at hl 0 rfl) ?_
      refine lv_iload_n hx hb dX10_bits_12 rfl (lv_at hl 2 rfl) ?_
      refine lv_ishr hx hb dX10_bits_13 ?_
      refine lv_iconst (v := (1 : Int32)) hx hb dX10_bits_14 (by decide) ?_
      refine lv_iand hx hb dX10_bits_15 ?_
      refine lv_iadd hx hb dX10_bits_16 ?_
      refine lv_topi (fun x2 ex2 => ?_)
      have hf := nm_s hf x2 ex2
      refine lv_istore_n (lv' := [(1, .int x2), (0, .int y0), (2, .int y2)]) hx hb dX10_bits_17 rfl hl (by decide) rfl (fun ls hl => ?_)
      obtain ⟨x3, ex3⟩ : ∃ y : Int32, y = (y2 + (1 : Int32)) := ⟨_, rfl⟩
      have hf := nm_s hf x3 ex3
      refine lv_iinc (k := 2) (v := x3) (lv' := [(2, .int x3), (1, .int x2), (0, .int y0)]) hx hb dX10_bits_18 hl rfl (by rw [ex3]; rfl) (by decide) rfl (fun ls hl => ?_)
      refine lv_goto (tgt := 4) hx hb dX10_bits_21 (by decide) ?_
      exact ih y0 x2 x3 hf _ (lv_sub hl [2, 1, 0] rfl)
def fX10_bits (p1 : Int32) : Option Int32 := fX10_bits_L4 10000 p1 (0 : Int32) (0 : Int32)
set_option maxRecDepth 100000 in
theorem tX10_bits (l : Launch) (E : Ev) (st : St) (sz : Nat) (p1 : Int32) {res : Int32} (hf : fX10_bits  p1 = some res) : Met l yX10_bits (.code yX10_bits cX10_bits 3 (some .int) :: uW) (rmk 0) (va_Pc [.int p1] (Pre E st sz)) (QRi res) 0 0 (NoF) := by
  refine Met_in (by decide) (Nat.le_of_ble_eq_true rfl) ?_
  intro p e s m below meth c X hr hlk hz G ls hl
  have hx := X.1.1
  have hb := X.1.2.1
  have hl : lv_has ls 3 [(0, .int p1)] := hl
  unfold fX10_bits at hf
  refine lv_iconst (v := (0 : Int32)) hx hb dX10_bits_0 (by decide) ?_
  refine lv_istore_n (lv' := [(1, .int (0 : Int32)), (0, .int p1)]) hx hb dX10_bits_1 rfl hl (by decide) rfl (fun ls hl => ?_)
  refine lv_iconst (v := (0 : Int32)) hx hb dX10_bits_2 (by decide) ?_
  refine lv_istore_n (lv' := [(2, .int (0 : Int32)), (1, .int (0 : Int32)), (0, .int p1)]) hx hb dX10_bits_3 rfl hl (by decide) rfl (fun ls hl => ?_)
  exact wX10_bits_L4 X hr hlk G 10000 p1 (0 : Int32) (0 : Int32) hf _ (lv_sub hl [2, 1, 0] rfl)
