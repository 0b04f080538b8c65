/-! pure words: guards, names, calls -/
def ix (i : Int32) (n : Nat) : Bool := decide (¬ (i < 0 ∨ n ≤ i.toNatClampNeg))
theorem ix_in {i : Int32} {n : Nat} (h : ix i n = true) : vp_in i n := (of_decide_eq_true h : ¬ (i < 0 ∨ n ≤ i.toNatClampNeg))
def bz (x : Int32) : Bool := decide (x = 0 ∨ x = 1)
theorem bz_n {x : Int32} (h : bz x = true) : narrow .boolean (.int x) = .int x := by
  rcases (of_decide_eq_true h : x = 0 ∨ x = 1) with rfl | rfl <;> rfl
theorem bz_f {x : Int32} (h : bz x = true) : fits .boolean (.int x) = true := by
  rcases (of_decide_eq_true h : x = 0 ∨ x = 1) with rfl | rfl <;> rfl
def nz (x : Int32) : Bool := decide (¬ x = 0)
theorem nz_n {x : Int32} (h : nz x = true) : ¬ x = 0 := (of_decide_eq_true h : ¬ x = 0)
def nzl (x : Int64) : Bool := decide (¬ x = 0)
theorem nzl_n {x : Int64} (h : nzl x = true) : ¬ x = 0 := (of_decide_eq_true h : ¬ x = 0)
def irm (x y : Int32) : Int32 := x - x / y * y
def lrm (x y : Int64) : Int64 := x - x / y * y
/-- a copy of n places from sp on to dp on may be made -/
def cpk (sp dp n : Int32) (n0 n1 : Nat) : Bool := decide (¬ sp < 0 ∧ ¬ dp < 0 ∧ ¬ n < 0 ∧ sp.toNatClampNeg + n.toNatClampNeg ≤ n0 ∧ dp.toNatClampNeg + n.toNatClampNeg ≤ n1)
theorem cpk_s {sp dp n : Int32} {n0 n1 : Nat} (h : cpk sp dp n n0 n1 = true) : ¬ sp < 0 ∧ ¬ dp < 0 ∧ ¬ n < 0 ∧ sp.toNatClampNeg + n.toNatClampNeg ≤ n0 ∧ dp.toNatClampNeg + n.toNatClampNeg ≤ n1 := of_decide_eq_true h
def bc (x : Int32) : Bool := decide (0 ≤ x.toInt ∧ x.toInt < 65536)
theorem bc_n {x : Int32} (h : bc x = true) : narrow .char (.int x) = .int x := by
  have h1 : 0 ≤ x.toInt ∧ x.toInt < 65536 := of_decide_eq_true h
  have h2 : x = nI x.toInt.toNat := by
    apply Int32.toInt_inj.mp
    rw [nI_toInt (by omega)]
    omega
  rw [h2]
  exact (pk_charN (by omega)).1
/-- slots that stand on each side from the start on -/
def fxC (k : Nat) : Bool := Nat.ble k 147 && !(Nat.beq (ty k) 0)
def fxM (k : Nat) : Bool := Nat.ble 500 k && !(Nat.beq (ty k) 0)
/-- a land, a page, a rule stands at b -/
def okL (E : Ev) (b : Nat) : Prop := ∀ j : Nat, j < 14 → ty (b + j) = ty (100 + j) ∧ (ty (100 + j) ≠ 0 → b + j ∈ eL E)
def okP (E : Ev) (b : Nat) : Prop := ∀ j : Nat, j < 28 → ty (b + j) = ty (120 + j) ∧ (ty (120 + j) ≠ 0 → b + j ∈ eL E)
def okR (E : Ev) (b : Nat) : Prop := ∀ j : Nat, j < 8 → ty (b + j) = ty (400 + j) ∧ (ty (400 + j) ≠ 0 → b + j ∈ eL E)
theorem okP_L {E : Ev} {b : Nat} (h : okP E b) : okL E (b + 14) := by
  intro j hj
  have h1 := h (14 + j) (by omega)
  have h2 : ∀ i, i < 14 → ty (120 + (14 + i)) = ty (100 + i) := by decide +kernel
  rw [h2 j hj, ← Nat.add_assoc] at h1
  exact h1
theorem fxC_in : ∀ j, j < 148 → ty j ≠ 0 → fxC j = true := by decide +kernel
theorem ok_100 {E : Ev} (h : ∀ k, fxC k = true → k ∈ eL E) : okL E 100 := fun j hj => ⟨rfl, fun hn => h _ (fxC_in _ (by omega) hn)⟩
theorem ok_120 {E : Ev} (h : ∀ k, fxC k = true → k ∈ eL E) : okP E 120 := fun j hj => ⟨rfl, fun hn => h _ (fxC_in _ (by omega) hn)⟩
theorem ok_134 {E : Ev} (h : ∀ k, fxC k = true → k ∈ eL E) : okL E 134 := okP_L (ok_120 h)
def gd {α : Type} (b : Bool) (x : Option α) : Option α := if b = true then x else none
theorem gd_s {α : Type} {b : Bool} {x : Option α} {r : α} (h : gd b x = some r) : b = true ∧ x = some r := by
  unfold gd at h
  by_cases hb : b = true
  · rw [if_pos hb] at h; exact ⟨hb, h⟩
  · rw [if_neg hb] at h; exact absurd h (by simp)
def nm {α β : Type} (v : α) (k : α → Option β) : Option β := k v
theorem nm_s {α β : Type} {v : α} {k : α → Option β} {r : β} (h : nm v k = some r) : ∀ x, x = v → k x = some r := fun _ e => e ▸ h
def br {α β : Type} (x : Option α) (k : α → Option β) : Option β := match x with
  | none => none
  | some a => k a
theorem br_s {α β : Type} {x : Option α} {k : α → Option β} {r : β} (h : br x k = some r) : ∃ a, x = some a ∧ k a = some r := by
  cases x with
  | none => exact absurd h (by simp [br])
  | some a => exact ⟨a, rfl, h⟩
def bw {α σ β : Type} (x : Option (α × σ)) (k : α → σ → Option β) : Option β := match x with
  | none => none
  | some a => k a.1 a.2
theorem bw_s {α σ β : Type} {x : Option (α × σ)} {k : α → σ → Option β} {r : β} (h : bw x k = some r) : ∃ a t, x = some (a, t) ∧ k a t = some r := by
  cases x with
  | none => exact absurd h (by simp [bw])
  | some a => exact ⟨a.1, a.2, rfl, h⟩
theorem it_t {α : Type} {c : Prop} {d : Decidable c} {a b : Option α} {r : α} (h : (@ite _ c d a b) = some r) (hc : c) : a = some r := (if_pos hc).symm.trans h
theorem it_f {α : Type} {c : Prop} {d : Decidable c} {a b : Option α} {r : α} (h : (@ite _ c d a b) = some r) (hc : ¬ c) : b = some r := (if_neg hc).symm.trans h
theorem so_i {α : Type} {a b : α} (h : some a = some b) : a = b := Option.some.inj h
theorem sw_out {x : Int32} {lo hi : Int} (h : ∀ v : Int, lo ≤ v → v ≤ hi → x ≠ Int32.ofInt v) : x.toInt < lo ∨ hi < x.toInt := by
  by_cases h1 : x.toInt < lo
  · exact Or.inl h1
  · by_cases h2 : hi < x.toInt
    · exact Or.inr h2
    · exact absurd (Int32.ofInt_toInt x).symm (h x.toInt (by omega) (by omega))
/-- the room of a method that makes nothing and calls k deep -/
abbrev rmk (k : Nat) : Room := { frames := k, cells := 0, slots := 0, locals := 40 * k }
theorem rmk_le {a b n : Nat} (h : a + 1 ≤ b) (hn : n ≤ 21) : (rmk a).frames + 1 ≤ (rmk b).frames ∧ 8 + (n + 11) + (rmk a).locals ≤ (rmk b).locals := ⟨h, by show 8 + (n + 11) + 40 * a ≤ 40 * b; omega⟩
theorem rmk_1 {b : Nat} (h : 1 ≤ b) : 1 ≤ (rmk b).frames := h
theorem rmk_l {b n : Nat} (h : 1 ≤ b) (hn : n ≤ 40) : n ≤ (rmk b).locals := by show n ≤ 40 * b; omega
theorem nar_q {C : String} {r : Option Nat} : narrow (.object C) (va_rf r) = va_rf r := by cases r <;> rfl
theorem fit_q {C : String} {r : Option Nat} : fits (.object C) (va_rf r) = true := by cases r <;> rfl
def LH (y : MethodName) (n : Nat) : Prop := y.cls ≠ "java/lang/invoke/MethodHandle" ∧ y.cls ≠ "java/lang/invoke/VarHandle" ∧ (parseMethodDescriptor y.desc).map (fun d => d.parameters.length) = some n
def LV (own : String) (index : Nat) (y : MethodName) (cc : ByteArray) (maxL : Nat) (ret : Option FieldType) (n : Nat) : Prop := Cond.code y cc maxL ret ∈ uW ∧ Cond.methodLink own index y ∈ uW ∧ Cond.instanceMethod y ∈ uW ∧ Cond.selects y.cls y y ∈ uW ∧ Cond.initialized y.cls ∈ uW ∧ LH y n
def LSt (own : String) (index : Nat) (y : MethodName) (cc : ByteArray) (maxL : Nat) (ret : Option FieldType) (n : Nat) : Prop := Cond.code y cc maxL ret ∈ uW ∧ Cond.methodLink own index y ∈ uW ∧ Cond.static y ∈ uW ∧ Cond.initialized y.cls ∈ uW ∧ LH y n
theorem uW_c {y : MethodName} {cc : ByteArray} {maxL : Nat} {ret : Option FieldType} (h : Cond.code y cc maxL ret ∈ uW) : GoodIn uW (Cond.code y cc maxL ret :: uW) := uW_G (fun w hw => (List.mem_cons.mp hw).elim (fun e => e ▸ h) (fun h2 => h2))
/-- the rows of a round -/
theorem row_fx {i : Int32} (h : ix i 5 = true) : fxC (63 + 9 + i.toNatClampNeg) = true := by
  have h1 : ¬ (i < 0 ∨ 5 ≤ i.toNatClampNeg) := of_decide_eq_true h
  have h2 : i.toNatClampNeg < 5 := by omega
  have h3 : ∀ j, j < 5 → fxC (63 + 9 + j) = true := by decide +kernel
  exact h3 _ h2
theorem row_ty {i : Int32} (h : ix i 5 = true) : ty (63 + 9 + i.toNatClampNeg) = 10000 + 41 := by
  have h1 : ¬ (i < 0 ∨ 5 ≤ i.toNatClampNeg) := of_decide_eq_true h
  have h2 : i.toNatClampNeg < 5 := by omega
  have h3 : ∀ j, j < 5 → ty (63 + 9 + j) = 10000 + 41 := by decide +kernel
  exact h3 _ h2
def okRb (L : List Nat) (b : Nat) : Bool := (List.range 8).all (fun j => Nat.beq (ty (b + j)) (ty (400 + j)) && (Nat.beq (ty (400 + j)) 0 || decide (b + j ∈ L)))
def okPb (L : List Nat) (b : Nat) : Bool := (List.range 28).all (fun j => Nat.beq (ty (b + j)) (ty (120 + j)) && (Nat.beq (ty (120 + j)) 0 || decide (b + j ∈ L)))
theorem okRb_s {E : Ev} {L : List Nat} {b : Nat} (hLL : L = eL E) (h : okRb L b = true) : okR E b := by
  subst hLL
  intro j hj
  have h1 := List.all_eq_true.mp h j (List.mem_range.mpr hj)
  simp only [Bool.and_eq_true, Bool.or_eq_true, decide_eq_true_eq] at h1
  refine ⟨Nat.eq_of_beq_eq_true h1.1, fun hn => ?_⟩
  rcases h1.2 with h2 | h2
  · exact absurd (Nat.eq_of_beq_eq_true h2) hn
  · exact h2
theorem okPb_s {E : Ev} {L : List Nat} {b : Nat} (hLL : L = eL E) (h : okPb L b = true) : okP E b := by
  subst hLL
  intro j hj
  have h1 := List.all_eq_true.mp h j (List.mem_range.mpr hj)
  simp only [Bool.and_eq_true, Bool.or_eq_true, decide_eq_true_eq] at h1
  refine ⟨Nat.eq_of_beq_eq_true h1.1, fun hn => ?_⟩
  rcases h1.2 with h2 | h2
  · exact absurd (Nat.eq_of_beq_eq_true h2) hn
  · exact h2
section CL
variable {p : Program} {l : Launch} {e : Env} {R : Room} {s : State} {m : MethodId} {args : Array Value} {below : List Frame} {meth : Method} {c : Code} {H : Heap} {locs : List Loc} {cells slots : Nat} {Q : State → Prop} {cc : ByteArray} {pc : Nat} {ls : Array Slot} {rest : List Value} {nL : Nat}
variable {E : Ev} {st st' : St} {A : Nat → Prop} {own : String} {sz : Nat} {y : MethodName} {bytes : ByteArray} {maxL n index : Nat} {ret : Option FieldType} {rm : Room} {As st0 : List Value} {a : Nat}
theorem runV {Qc : Array Value → State → Outcome → State → Prop} {mc ms : Nat} {free : Addr → Prop} (X : CX p s m args c E own cc nL A) (G : Gd E st A s H locs) (K : LV own index y bytes maxL ret n) (hM : Met l y (.code y bytes maxL ret :: uW) rm (va_Pc (.ref a :: As) (Pre E st H.size)) Qc mc ms free) (hrv : ∃ cell : Cell, H[a]? = some cell ∧ cell.vm.isStatics = false ∧ s.vm.findClass y.cls = some cell.cls) (hrc : rm.cells = mc) (hrs : rm.slots = ms)
    (hR : rm.frames + 1 ≤ R.frames ∧ 8 + (maxL + 11) + rm.locals ≤ R.locals) (hn : As.length = n) (hsz : ls.size = nL) (hst : st0 = As.reverse ++ .ref a :: rest) (hW : (rest.map fun v => v.category).sum ≤ 8) (hdg : decode cc pc = .ok (.invokevirtual index, 3)) (hf : cells + mc ≤ R.cells ∧ slots + ms ≤ R.slots) :
    va_Run p l e R s m args below meth c H locs cells slots mc ms (F0 m pc ls st0) rest (Qc (Value.ref a :: As).toArray) free := by
  obtain ⟨K1, K2, K3, K4, K5, K6⟩ := K
  have hts := X.1.2.2.2.2
  exact va_runV (Ts := uW) (own := own) (C := y.cls) X.1 hM ⟨callB_of n hts (uW_c K1) rfl hrc hrs (hts _ K5) (hts _ K2) K6 hR, hts _ K3, hts _ K4⟩ ⟨Pre_blind, hrv, Pre_call X G⟩ rfl hn hsz hst (lv_room hW) hdg hf
theorem runS {Qc : Array Value → State → Outcome → State → Prop} {mc ms : Nat} {free : Addr → Prop} (X : CX p s m args c E own cc nL A) (G : Gd E st A s H locs) (K : LSt own index y bytes maxL ret n) (hM : Met l y (.code y bytes maxL ret :: uW) rm (va_Pc As (Pre E st H.size)) Qc mc ms free) (hrc : rm.cells = mc) (hrs : rm.slots = ms)
    (hR : rm.frames + 1 ≤ R.frames ∧ 8 + (maxL + 11) + rm.locals ≤ R.locals) (hn : As.length = n) (hsz : ls.size = nL) (hst : st0 = As.reverse ++ rest) (hW : (rest.map fun v => v.category).sum ≤ 8) (hdg : decode cc pc = .ok (.invokestatic index, 3)) (hf : cells + mc ≤ R.cells ∧ slots + ms ≤ R.slots) :
    va_Run p l e R s m args below meth c H locs cells slots mc ms (F0 m pc ls st0) rest (Qc As.toArray) free := by
  obtain ⟨K1, K2, K3, K5, K6⟩ := K
  have hts := X.1.2.2.2.2
  exact va_runS (Ts := uW) (own := own) X.1 hM ⟨callB_of n hts (uW_c K1) rfl hrc hrs (hts _ K5) (hts _ K2) K6 hR, hts _ K3⟩ ⟨Pre_blind, Pre_call X G⟩ rfl hn hsz hst (lv_room hW) hdg hf
theorem rcv (X : CX p s m args c E own cc nL A) (G : Gd E st A s H locs) {k ci : Nat} {q : vw_C} {fs : List Value} (hk : k ∈ eL E) (hc : cell E st k = .inr (ci, fs)) (hq : vwCl[ci]? = some q) : ∃ cell : Cell, H[eq E k]? = some cell ∧ cell.vm.isStatics = false ∧ s.vm.findClass q.1 = some cell.cls := by
  obtain ⟨i, hi, hw⟩ := cw_at (s := st) hk
  rw [hc] at hw
  exact va_recv X.2.1 G.1 hq hw
theorem cVRi {r : Int32} (X : CX p s m args c E own cc nL A) (G : Gd E st A s H locs) (K : LV own index y bytes maxL ret n) (hM : Met l y (.code y bytes maxL ret :: uW) rm (va_Pc (.ref a :: As) (Pre E st H.size)) (QRi r) 0 0 (NoF)) (hrv : ∃ cell : Cell, H[a]? = some cell ∧ cell.vm.isStatics = false ∧ s.vm.findClass y.cls = some cell.cls) (hrc : rm.cells = 0) (hrs : rm.slots = 0)
    (hR : rm.frames + 1 ≤ R.frames ∧ 8 + (maxL + 11) + rm.locals ≤ R.locals) (hn : As.length = n) (hsz : ls.size = nL) (hst : st0 = As.reverse ++ .ref a :: rest) (hW : (rest.map fun v => v.category).sum ≤ 8) (hdg : decode cc pc = .ok (.invokevirtual index, 3)) (hf : cells ≤ R.cells ∧ slots ≤ R.slots)
    (kk : W p l e R s m args below meth c H locs cells slots Q (F0 m (pc + 3) ls (.int r :: rest))) : W p l e R s m args below meth c H locs cells slots Q (F0 m pc ls st0) :=
  vp_callSi (runV X G K hM hrv hrc hrs hR hn hsz hst hW hdg hf).run (fun x hx => by subst hx; exact kk)
theorem cVRl {r : Int64} (X : CX p s m args c E own cc nL A) (G : Gd E st A s H locs) (K : LV own index y bytes maxL ret n) (hM : Met l y (.code y bytes maxL ret :: uW) rm (va_Pc (.ref a :: As) (Pre E st H.size)) (QRl r) 0 0 (NoF)) (hrv : ∃ cell : Cell, H[a]? = some cell ∧ cell.vm.isStatics = false ∧ s.vm.findClass y.cls = some cell.cls) (hrc : rm.cells = 0) (hrs : rm.slots = 0)
    (hR : rm.frames + 1 ≤ R.frames ∧ 8 + (maxL + 11) + rm.locals ≤ R.locals) (hn : As.length = n) (hsz : ls.size = nL) (hst : st0 = As.reverse ++ .ref a :: rest) (hW : (rest.map fun v => v.category).sum ≤ 8) (hdg : decode cc pc = .ok (.invokevirtual index, 3)) (hf : cells ≤ R.cells ∧ slots ≤ R.slots)
    (kk : W p l e R s m args below meth c H locs cells slots Q (F0 m (pc + 3) ls (.long r :: rest))) : W p l e R s m args below meth c H locs cells slots Q (F0 m pc ls st0) :=
  vp_callSl (runV X G K hM hrv hrc hrs hR hn hsz hst hW hdg hf).run (fun x hx => by subst hx; exact kk)
theorem cVRq {r : Option Nat} (X : CX p s m args c E own cc nL A) (G : Gd E st A s H locs) (K : LV own index y bytes maxL ret n) (hM : Met l y (.code y bytes maxL ret :: uW) rm (va_Pc (.ref a :: As) (Pre E st H.size)) (QRq r) 0 0 (NoF)) (hrv : ∃ cell : Cell, H[a]? = some cell ∧ cell.vm.isStatics = false ∧ s.vm.findClass y.cls = some cell.cls) (hrc : rm.cells = 0) (hrs : rm.slots = 0)
    (hR : rm.frames + 1 ≤ R.frames ∧ 8 + (maxL + 11) + rm.locals ≤ R.locals) (hn : As.length = n) (hsz : ls.size = nL) (hst : st0 = As.reverse ++ .ref a :: rest) (hW : (rest.map fun v => v.category).sum ≤ 8) (hdg : decode cc pc = .ok (.invokevirtual index, 3)) (hf : cells ≤ R.cells ∧ slots ≤ R.slots)
    (kk : W p l e R s m args below meth c H locs cells slots Q (F0 m (pc + 3) ls (va_rf r :: rest))) : W p l e R s m args below meth c H locs cells slots Q (F0 m pc ls st0) :=
  va_csq (runV X G K hM hrv hrc hrs hR hn hsz hst hW hdg hf).run (fun x hx => by subst hx; exact kk)
theorem cVRu (X : CX p s m args c E own cc nL A) (G : Gd E st A s H locs) (K : LV own index y bytes maxL ret n) (hM : Met l y (.code y bytes maxL ret :: uW) rm (va_Pc (.ref a :: As) (Pre E st H.size)) (QRu) 0 0 (NoF)) (hrv : ∃ cell : Cell, H[a]? = some cell ∧ cell.vm.isStatics = false ∧ s.vm.findClass y.cls = some cell.cls) (hrc : rm.cells = 0) (hrs : rm.slots = 0)
    (hR : rm.frames + 1 ≤ R.frames ∧ 8 + (maxL + 11) + rm.locals ≤ R.locals) (hn : As.length = n) (hsz : ls.size = nL) (hst : st0 = As.reverse ++ .ref a :: rest) (hW : (rest.map fun v => v.category).sum ≤ 8) (hdg : decode cc pc = .ok (.invokevirtual index, 3)) (hf : cells ≤ R.cells ∧ slots ≤ R.slots)
    (kk : W p l e R s m args below meth c H locs cells slots Q (F0 m (pc + 3) ls rest)) : W p l e R s m args below meth c H locs cells slots Q (F0 m pc ls st0) :=
  va_csv (runV X G K hM hrv hrc hrs hR hn hsz hst hW hdg hf).run (fun _ => kk)
theorem cVWi {r : Int32} (X : CX p s m args c E own cc nL A) (G : Gd E st A s H locs) (K : LV own index y bytes maxL ret n) (hM : Met l y (.code y bytes maxL ret :: uW) rm (va_Pc (.ref a :: As) (Pre E st H.size)) (QWi E st' H.size r) 0 0 (Af E H.size)) (hrv : ∃ cell : Cell, H[a]? = some cell ∧ cell.vm.isStatics = false ∧ s.vm.findClass y.cls = some cell.cls) (hrc : rm.cells = 0) (hrs : rm.slots = 0)
    (hR : rm.frames + 1 ≤ R.frames ∧ 8 + (maxL + 11) + rm.locals ≤ R.locals) (hn : As.length = n) (hsz : ls.size = nL) (hst : st0 = As.reverse ++ .ref a :: rest) (hW : (rest.map fun v => v.category).sum ≤ 8) (hdg : decode cc pc = .ok (.invokevirtual index, 3)) (hf : cells ≤ R.cells ∧ slots ≤ R.slots)
    (kk : ∀ (H : Heap) (locs : List Loc), Gd E st' A s H locs → W p l e R s m args below meth c H locs cells slots Q (F0 m (pc + 3) ls (.int r :: rest))) : W p l e R s m args below meth c H locs cells slots Q (F0 m pc ls st0) :=
  va_calli (runV X G K hM hrv hrc hrs hR hn hsz hst hW hdg hf) G.2.2 (fun q _ h => Gd_free X G q h) (Gd_free X G) (fun x u t H1 locs1 ht hvm hw hB hz1 hk1 hS => by subst hw; exact kk H1 locs1 (Gd_call X G hB ht hS))
theorem cVWl {r : Int64} (X : CX p s m args c E own cc nL A) (G : Gd E st A s H locs) (K : LV own index y bytes maxL ret n) (hM : Met l y (.code y bytes maxL ret :: uW) rm (va_Pc (.ref a :: As) (Pre E st H.size)) (QWl E st' H.size r) 0 0 (Af E H.size)) (hrv : ∃ cell : Cell, H[a]? = some cell ∧ cell.vm.isStatics = false ∧ s.vm.findClass y.cls = some cell.cls) (hrc : rm.cells = 0) (hrs : rm.slots = 0)
    (hR : rm.frames + 1 ≤ R.frames ∧ 8 + (maxL + 11) + rm.locals ≤ R.locals) (hn : As.length = n) (hsz : ls.size = nL) (hst : st0 = As.reverse ++ .ref a :: rest) (hW : (rest.map fun v => v.category).sum ≤ 8) (hdg : decode cc pc = .ok (.invokevirtual index, 3)) (hf : cells ≤ R.cells ∧ slots ≤ R.slots)
    (kk : ∀ (H : Heap) (locs : List Loc), Gd E st' A s H locs → W p l e R s m args below meth c H locs cells slots Q (F0 m (pc + 3) ls (.long r :: rest))) : W p l e R s m args below meth c H locs cells slots Q (F0 m pc ls st0) :=
  va_calll (runV X G K hM hrv hrc hrs hR hn hsz hst hW hdg hf) G.2.2 (fun q _ h => Gd_free X G q h) (Gd_free X G) (fun x u t H1 locs1 ht hvm hw hB hz1 hk1 hS => by subst hw; exact kk H1 locs1 (Gd_call X G hB ht hS))
theorem cVWq {r : Option Nat} (X : CX p s m args c E own cc nL A) (G : Gd E st A s H locs) (K : LV own index y bytes maxL ret n) (hM : Met l y (.code y bytes maxL ret :: uW) rm (va_Pc (.ref a :: As) (Pre E st H.size)) (QWq E st' H.size r) 0 0 (Af E H.size)) (hrv : ∃ cell : Cell, H[a]? = some cell ∧ cell.vm.isStatics = false ∧ s.vm.findClass y.cls = some cell.cls) (hrc : rm.cells = 0) (hrs : rm.slots = 0)
    (hR : rm.frames + 1 ≤ R.frames ∧ 8 + (maxL + 11) + rm.locals ≤ R.locals) (hn : As.length = n) (hsz : ls.size = nL) (hst : st0 = As.reverse ++ .ref a :: rest) (hW : (rest.map fun v => v.category).sum ≤ 8) (hdg : decode cc pc = .ok (.invokevirtual index, 3)) (hf : cells ≤ R.cells ∧ slots ≤ R.slots)
    (kk : ∀ (H : Heap) (locs : List Loc), Gd E st' A s H locs → W p l e R s m args below meth c H locs cells slots Q (F0 m (pc + 3) ls (va_rf r :: rest))) : W p l e R s m args below meth c H locs cells slots Q (F0 m pc ls st0) :=
  va_callq (runV X G K hM hrv hrc hrs hR hn hsz hst hW hdg hf) G.2.2 (fun q _ h => Gd_free X G q h) (Gd_free X G) (fun x u t H1 locs1 ht hvm hw hB hz1 hk1 hS => by subst hw; exact kk H1 locs1 (Gd_call X G hB ht hS))
theorem cVWv (X : CX p s m args c E own cc nL A) (G : Gd E st A s H locs) (K : LV own index y bytes maxL ret n) (hM : Met l y (.code y bytes maxL ret :: uW) rm (va_Pc (.ref a :: As) (Pre E st H.size)) (QWv E st' H.size) 0 0 (Af E H.size)) (hrv : ∃ cell : Cell, H[a]? = some cell ∧ cell.vm.isStatics = false ∧ s.vm.findClass y.cls = some cell.cls) (hrc : rm.cells = 0) (hrs : rm.slots = 0)
    (hR : rm.frames + 1 ≤ R.frames ∧ 8 + (maxL + 11) + rm.locals ≤ R.locals) (hn : As.length = n) (hsz : ls.size = nL) (hst : st0 = As.reverse ++ .ref a :: rest) (hW : (rest.map fun v => v.category).sum ≤ 8) (hdg : decode cc pc = .ok (.invokevirtual index, 3)) (hf : cells ≤ R.cells ∧ slots ≤ R.slots)
    (kk : ∀ (H : Heap) (locs : List Loc), Gd E st' A s H locs → W p l e R s m args below meth c H locs cells slots Q (F0 m (pc + 3) ls rest)) : W p l e R s m args below meth c H locs cells slots Q (F0 m pc ls st0) :=
  va_callv (runV X G K hM hrv hrc hrs hR hn hsz hst hW hdg hf) G.2.2 (fun q _ h => Gd_free X G q h) (Gd_free X G) (fun u t H1 locs1 ht hvm hw hB hz1 hk1 hS => kk H1 locs1 (Gd_call X G hB ht hS))
theorem cSRi {r : Int32} (X : CX p s m args c E own cc nL A) (G : Gd E st A s H locs) (K : LSt own index y bytes maxL ret n) (hM : Met l y (.code y bytes maxL ret :: uW) rm (va_Pc As (Pre E st H.size)) (QRi r) 0 0 (NoF)) (hrc : rm.cells = 0) (hrs : rm.slots = 0)
    (hR : rm.frames + 1 ≤ R.frames ∧ 8 + (maxL + 11) + rm.locals ≤ R.locals) (hn : As.length = n) (hsz : ls.size = nL) (hst : st0 = As.reverse ++ rest) (hW : (rest.map fun v => v.category).sum ≤ 8) (hdg : decode cc pc = .ok (.invokestatic index, 3)) (hf : cells ≤ R.cells ∧ slots ≤ R.slots)
    (kk : W p l e R s m args below meth c H locs cells slots Q (F0 m (pc + 3) ls (.int r :: rest))) : W p l e R s m args below meth c H locs cells slots Q (F0 m pc ls st0) :=
  vp_callSi (runS X G K hM hrc hrs hR hn hsz hst hW hdg hf).run (fun x hx => by subst hx; exact kk)
theorem cSRl {r : Int64} (X : CX p s m args c E own cc nL A) (G : Gd E st A s H locs) (K : LSt own index y bytes maxL ret n) (hM : Met l y (.code y bytes maxL ret :: uW) rm (va_Pc As (Pre E st H.size)) (QRl r) 0 0 (NoF)) (hrc : rm.cells = 0) (hrs : rm.slots = 0)
    (hR : rm.frames + 1 ≤ R.frames ∧ 8 + (maxL + 11) + rm.locals ≤ R.locals) (hn : As.length = n) (hsz : ls.size = nL) (hst : st0 = As.reverse ++ rest) (hW : (rest.map fun v => v.category).sum ≤ 8) (hdg : decode cc pc = .ok (.invokestatic index, 3)) (hf : cells ≤ R.cells ∧ slots ≤ R.slots)
    (kk : W p l e R s m args below meth c H locs cells slots Q (F0 m (pc + 3) ls (.long r :: rest))) : W p l e R s m args below meth c H locs cells slots Q (F0 m pc ls st0) :=
  vp_callSl (runS X G K hM hrc hrs hR hn hsz hst hW hdg hf).run (fun x hx => by subst hx; exact kk)
theorem cSRq {r : Option Nat} (X : CX p s m args c E own cc nL A) (G : Gd E st A s H locs) (K : LSt own index y bytes maxL ret n) (hM : Met l y (.code y bytes maxL ret :: uW) rm (va_Pc As (Pre E st H.size)) (QRq r) 0 0 (NoF)) (hrc : rm.cells = 0) (hrs : rm.slots = 0)
    (hR : rm.frames + 1 ≤ R.frames ∧ 8 + (maxL + 11) + rm.locals ≤ R.locals) (hn : As.length = n) (hsz : ls.size = nL) (hst : st0 = As.reverse ++ rest) (hW : (rest.map fun v => v.category).sum ≤ 8) (hdg : decode cc pc = .ok (.invokestatic index, 3)) (hf : cells ≤ R.cells ∧ slots ≤ R.slots)
    (kk : W p l e R s m args below meth c H locs cells slots Q (F0 m (pc + 3) ls (va_rf r :: rest))) : W p l e R s m args below meth c H locs cells slots Q (F0 m pc ls st0) :=
  va_csq (runS X G K hM hrc hrs hR hn hsz hst hW hdg hf).run (fun x hx => by subst hx; exact kk)
theorem cSRu (X : CX p s m args c E own cc nL A) (G : Gd E st A s H locs) (K : LSt own index y bytes maxL ret n) (hM : Met l y (.code y bytes maxL ret :: uW) rm (va_Pc As (Pre E st H.size)) (QRu) 0 0 (NoF)) (hrc : rm.cells = 0) (hrs : rm.slots = 0)
    (hR : rm.frames + 1 ≤ R.frames ∧ 8 + (maxL + 11) + rm.locals ≤ R.locals) (hn : As.length = n) (hsz : ls.size = nL) (hst : st0 = As.reverse ++ rest) (hW : (rest.map fun v => v.category).sum ≤ 8) (hdg : decode cc pc = .ok (.invokestatic index, 3)) (hf : cells ≤ R.cells ∧ slots ≤ R.slots)
    (kk : W p l e R s m args below meth c H locs cells slots Q (F0 m (pc + 3) ls rest)) : W p l e R s m args below meth c H locs cells slots Q (F0 m pc ls st0) :=
  va_csv (runS X G K hM hrc hrs hR hn hsz hst hW hdg hf).run (fun _ => kk)
theorem cSWi {r : Int32} (X : CX p s m args c E own cc nL A) (G : Gd E st A s H locs) (K : LSt own index y bytes maxL ret n) (hM : Met l y (.code y bytes maxL ret :: uW) rm (va_Pc As (Pre E st H.size)) (QWi E st' H.size r) 0 0 (Af E H.size)) (hrc : rm.cells = 0) (hrs : rm.slots = 0)
    (hR : rm.frames + 1 ≤ R.frames ∧ 8 + (maxL + 11) + rm.locals ≤ R.locals) (hn : As.length = n) (hsz : ls.size = nL) (hst : st0 = As.reverse ++ rest) (hW : (rest.map fun v => v.category).sum ≤ 8) (hdg : decode cc pc = .ok (.invokestatic index, 3)) (hf : cells ≤ R.cells ∧ slots ≤ R.slots)
    (kk : ∀ (H : Heap) (locs : List Loc), Gd E st' A s H locs → W p l e R s m args below meth c H locs cells slots Q (F0 m (pc + 3) ls (.int r :: rest))) : W p l e R s m args below meth c H locs cells slots Q (F0 m pc ls st0) :=
  va_calli (runS X G K hM hrc hrs hR hn hsz hst hW hdg hf) G.2.2 (fun q _ h => Gd_free X G q h) (Gd_free X G) (fun x u t H1 locs1 ht hvm hw hB hz1 hk1 hS => by subst hw; exact kk H1 locs1 (Gd_call X G hB ht hS))
theorem cSWl {r : Int64} (X : CX p s m args c E own cc nL A) (G : Gd E st A s H locs) (K : LSt own index y bytes maxL ret n) (hM : Met l y (.code y bytes maxL ret :: uW) rm (va_Pc As (Pre E st H.size)) (QWl E st' H.size r) 0 0 (Af E H.size)) (hrc : rm.cells = 0) (hrs : rm.slots = 0)
    (hR : rm.frames + 1 ≤ R.frames ∧ 8 + (maxL + 11) + rm.locals ≤ R.locals) (hn : As.length = n) (hsz : ls.size = nL) (hst : st0 = As.reverse ++ rest) (hW : (rest.map fun v => v.category).sum ≤ 8) (hdg : decode cc pc = .ok (.invokestatic index, 3)) (hf : cells ≤ R.cells ∧ slots ≤ R.slots)
    (kk : ∀ (H : Heap) (locs : List Loc), Gd E st' A s H locs → W p l e R s m args below meth c H locs cells slots Q (F0 m (pc + 3) ls (.long r :: rest))) : W p l e R s m args below meth c H locs cells slots Q (F0 m pc ls st0) :=
  va_calll (runS X G K hM hrc hrs hR hn hsz hst hW hdg hf) G.2.2 (fun q _ h => Gd_free X G q h) (Gd_free X G) (fun x u t H1 locs1 ht hvm hw hB hz1 hk1 hS => by subst hw; exact kk H1 locs1 (Gd_call X G hB ht hS))
theorem cSWq {r : Option Nat} (X : CX p s m args c E own cc nL A) (G : Gd E st A s H locs) (K : LSt own index y bytes maxL ret n) (hM : Met l y (.code y bytes maxL ret :: uW) rm (va_Pc As (Pre E st H.size)) (QWq E st' H.size r) 0 0 (Af E H.size)) (hrc : rm.cells = 0) (hrs : rm.slots = 0)
    (hR : rm.frames + 1 ≤ R.frames ∧ 8 + (maxL + 11) + rm.locals ≤ R.locals) (hn : As.length = n) (hsz : ls.size = nL) (hst : st0 = As.reverse ++ rest) (hW : (rest.map fun v => v.category).sum ≤ 8) (hdg : decode cc pc = .ok (.invokestatic index, 3)) (hf : cells ≤ R.cells ∧ slots ≤ R.slots)
    (kk : ∀ (H : Heap) (locs : List Loc), Gd E st' A s H locs → W p l e R s m args below meth c H locs cells slots Q (F0 m (pc + 3) ls (va_rf r :: rest))) : W p l e R s m args below meth c H locs cells slots Q (F0 m pc ls st0) :=
  va_callq (runS X G K hM hrc hrs hR hn hsz hst hW hdg hf) G.2.2 (fun q _ h => Gd_free X G q h) (Gd_free X G) (fun x u t H1 locs1 ht hvm hw hB hz1 hk1 hS => by subst hw; exact kk H1 locs1 (Gd_call X G hB ht hS))
theorem cSWv (X : CX p s m args c E own cc nL A) (G : Gd E st A s H locs) (K : LSt own index y bytes maxL ret n) (hM : Met l y (.code y bytes maxL ret :: uW) rm (va_Pc As (Pre E st H.size)) (QWv E st' H.size) 0 0 (Af E H.size)) (hrc : rm.cells = 0) (hrs : rm.slots = 0)
    (hR : rm.frames + 1 ≤ R.frames ∧ 8 + (maxL + 11) + rm.locals ≤ R.locals) (hn : As.length = n) (hsz : ls.size = nL) (hst : st0 = As.reverse ++ rest) (hW : (rest.map fun v => v.category).sum ≤ 8) (hdg : decode cc pc = .ok (.invokestatic index, 3)) (hf : cells ≤ R.cells ∧ slots ≤ R.slots)
    (kk : ∀ (H : Heap) (locs : List Loc), Gd E st' A s H locs → W p l e R s m args below meth c H locs cells slots Q (F0 m (pc + 3) ls rest)) : W p l e R s m args below meth c H locs cells slots Q (F0 m pc ls st0) :=
  va_callv (runS X G K hM hrc hrs hR hn hsz hst hW hdg hf) G.2.2 (fun q _ h => Gd_free X G q h) (Gd_free X G) (fun u t H1 locs1 ht hvm hw hB hz1 hk1 hS => kk H1 locs1 (Gd_call X G hB ht hS))
theorem rtRi (X : CX p s m args c E own cc nL A) (hlk : meth.locks = false) (hr : meth.sig.returnType = some .int) {r v : Int32} (ev : v = r) (hdg : decode cc pc = .ok (.ireturn, 1)) : W p l e R s m args below meth c s.heap [] 0 0 (MQ below (QRi r) args s 0 0 NoF) (F0 m pc ls [.int v]) := by
  subst ev
  exact W.iret X.1.1 X.1.2.1 hr (fun t ht hW => ⟨v, rfl, rfl, ht⟩) (fun q h => absurd h List.not_mem_nil) hdg hlk
theorem rtRz (X : CX p s m args c E own cc nL A) (hlk : meth.locks = false) {ty : FieldType} (hr : meth.sig.returnType = some ty) {r v : Int32} (hn : narrow ty (.int v) = .int v) (ev : v = r) (hdg : decode cc pc = .ok (.ireturn, 1)) : W p l e R s m args below meth c s.heap [] 0 0 (MQ below (QRi r) args s 0 0 NoF) (F0 m pc ls [.int v]) := by
  subst ev
  exact W.zret X.1.1 X.1.2.1 hr hn (fun t ht hW => ⟨v, rfl, rfl, ht⟩) (fun q h => absurd h List.not_mem_nil) hdg hlk
theorem rtRl (X : CX p s m args c E own cc nL A) (hlk : meth.locks = false) (hr : meth.sig.returnType = some .long) {r v : Int64} (ev : v = r) (hdg : decode cc pc = .ok (.lreturn, 1)) : W p l e R s m args below meth c s.heap [] 0 0 (MQ below (QRl r) args s 0 0 NoF) (F0 m pc ls [.long v]) := by
  subst ev
  exact W.lret X.1.1 X.1.2.1 hr (fun t ht hW => ⟨v, rfl, rfl, ht⟩) (fun q h => absurd h List.not_mem_nil) hdg hlk
theorem rtRq (X : CX p s m args c E own cc nL A) (hlk : meth.locks = false) {rt : FieldType} (hr : meth.sig.returnType = some rt) (hrt : (∃ n, rt = .object n) ∨ ∃ t, rt = .array t) {r q : Option Nat} (ev : q = r) (hdg : decode cc pc = .ok (.areturn, 1)) : W p l e R s m args below meth c s.heap [] 0 0 (MQ below (QRq r) args s 0 0 NoF) (F0 m pc ls [va_rf q]) := by
  subst ev
  have hv : va_rf q = .null ∨ ∃ a, va_rf q = .ref a := by
    cases q with
    | none => exact Or.inl rfl
    | some x => exact Or.inr ⟨x, rfl⟩
  exact W.aret X.1.1 X.1.2.1 hr hrt hv (fun t ht hW => ⟨q, rfl, rfl, ht⟩) (fun q h => absurd h List.not_mem_nil) hdg hlk
theorem rtRu (X : CX p s m args c E own cc nL A) (hlk : meth.locks = false) (hr : meth.sig.returnType = none) (hdg : decode cc pc = .ok (.return_, 1)) : W p l e R s m args below meth c s.heap [] 0 0 (MQ below QRu args s 0 0 NoF) (F0 m pc ls []) := W.vret X.1.1 X.1.2.1 hr (fun t ht hW => ⟨rfl, trivial, ht⟩) (fun q h => absurd h List.not_mem_nil) hdg hlk
theorem rtWi (X : CX p s m args c E own cc nL (Af E sz)) (hlk : meth.locks = false) (G : Gd E st (Af E sz) s H locs) (hr : meth.sig.returnType = some .int) {v : Int32} {res : Int32 × St} (ev : (v, st) = res) (hdg : decode cc pc = .ok (.ireturn, 1)) : W p l e R s m args below meth c H locs cells slots (MQ below (QWi E res.2 sz res.1) args s cells slots (Af E sz)) (F0 m pc ls [.int v]) := by
  subst ev
  exact W.iret X.1.1 X.1.2.1 hr (fun t ht hW => ⟨⟨v, (), rfl, rfl, by rw [ht]; exact G.1, va_K.moved hW.alike X.2.1, G.2.1⟩, G.2.2.F ht⟩) G.2.2.2.2 hdg hlk
theorem rtWz (X : CX p s m args c E own cc nL (Af E sz)) (hlk : meth.locks = false) (G : Gd E st (Af E sz) s H locs) {ty : FieldType} (hr : meth.sig.returnType = some ty) {v : Int32} (hn : narrow ty (.int v) = .int v) {res : Int32 × St} (ev : (v, st) = res) (hdg : decode cc pc = .ok (.ireturn, 1)) : W p l e R s m args below meth c H locs cells slots (MQ below (QWi E res.2 sz res.1) args s cells slots (Af E sz)) (F0 m pc ls [.int v]) := by
  subst ev
  exact W.zret X.1.1 X.1.2.1 hr hn (fun t ht hW => ⟨⟨v, (), rfl, rfl, by rw [ht]; exact G.1, va_K.moved hW.alike X.2.1, G.2.1⟩, G.2.2.F ht⟩) G.2.2.2.2 hdg hlk
theorem rtWl (X : CX p s m args c E own cc nL (Af E sz)) (hlk : meth.locks = false) (G : Gd E st (Af E sz) s H locs) (hr : meth.sig.returnType = some .long) {v : Int64} {res : Int64 × St} (ev : (v, st) = res) (hdg : decode cc pc = .ok (.lreturn, 1)) : W p l e R s m args below meth c H locs cells slots (MQ below (QWl E res.2 sz res.1) args s cells slots (Af E sz)) (F0 m pc ls [.long v]) := by
  subst ev
  exact W.lret X.1.1 X.1.2.1 hr (fun t ht hW => ⟨⟨v, (), rfl, rfl, by rw [ht]; exact G.1, va_K.moved hW.alike X.2.1, G.2.1⟩, G.2.2.F ht⟩) G.2.2.2.2 hdg hlk
theorem rtWv (X : CX p s m args c E own cc nL (Af E sz)) (hlk : meth.locks = false) (G : Gd E st (Af E sz) s H locs) (hr : meth.sig.returnType = none) {res : St} (ev : st = res) (hdg : decode cc pc = .ok (.return_, 1)) : W p l e R s m args below meth c H locs cells slots (MQ below (QWv E res sz) args s cells slots (Af E sz)) (F0 m pc ls []) := by
  subst ev
  exact W.vret X.1.1 X.1.2.1 hr (fun t ht hW => ⟨⟨(), rfl, trivial, by rw [ht]; exact G.1, va_K.moved hW.alike X.2.1, G.2.1⟩, G.2.2.F ht⟩) G.2.2.2.2 hdg hlk
theorem tbl_in (hexec : p.tables.exec = Jvm.exec) (hb : c.code = cc) {dflt lo hi : Int} {offs : Array Int} {len : Nat} {x v : Int32} {off : Int} {tgt : Nat} (hdg : decode cc pc = .ok (.tableswitch dflt lo hi offs, len)) (hv : x = v) (h1 : ¬ v.toInt < lo) (h2 : ¬ hi < v.toInt) (ho : offs[(v.toInt - lo).toNat]? = some off) (ht : (pc : Int) + off = (tgt : Int))
    (k : W p l e R s m args below meth c H locs cells slots Q (F0 m tgt ls rest)) : W p l e R s m args below meth c H locs cells slots Q (F0 m pc ls (.int x :: rest)) := by
  subst hv
  exact lv_tableIn hexec hb hdg h1 h2 ho ht k
theorem va_ldcwS (hexec : p.tables.exec = Jvm.exec) (hb : c.code = cc) {own tx : String} {index q : Nat} (hown : s.vm.findClass own = some m.cls) (hZ : vk_R own index tx q s) (hdg : decode cc pc = .ok (.ldc_w index, 3))
    (k : W p l e R s m args below meth c H locs cells slots Q (F0 m (pc + 3) ls (.ref q :: rest))) : W p l e R s m args below meth c H locs cells slots Q (F0 m pc ls rest) := by
  intro T hT X
  obtain ⟨t, a1, b1⟩ := k T hT X
  refine ⟨t, ?_, b1⟩
  obtain ⟨k, cf, i, a', hk, hcf, hcp, -, hr, hev'⟩ := Cond.stringRef_spec hown hZ.1
  cases hZ.2.symm.trans hev'
  obtain ⟨k', hk', he⟩ := X.warmed.alike.2.2 _ _ hk
  have hr' : k'.resolved[index]? = some (some (.string q)) := by
    rcases X.warmed.entry hk hk' index with h | ⟨h, -⟩
    · rw [h]; exact hr
    · rw [hr] at h; cases h
  jvm_step X.here [hexec, hb, hdg, ldc_w.wp_string (e := e) (s := T) (f := F0 m pc ls rest) X.here.top hk' (by rw [he]; exact hcf) hcp hr']
  exact a1
end CL
