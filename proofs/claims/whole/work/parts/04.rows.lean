def slen : List Nat := [11, 112, 7, 5, 6, 4, 4, 5, 4, 4, 6, 5, 5, 6, 3, 3, 2, 5, 4, 3, 4, 4, 2]
def sbyt : List (List Int32) := [[59, 43, 45, 42, 47, 37, 91, 93, 60, 61, 62], [111, 102, 102, 105, 99, 101, 114, 32, 104, 111, 117, 115, 101, 32, 119, 97, 114, 109, 116, 104, 32, 119, 111, 111, 100, 32, 104, 101, 97, 116, 32, 116, 101, 110, 116, 104, 32, 114, 111, 111, 109, 32, 104, 101, 114, 101, 32, 98, 101, 115, 105, 100, 101, 32, 115, 105, 110, 99, 101, 32, 110, 105, 103, 104, 116, 32, 102, 114, 111, 122, 101, 110, 32, 100, 117, 99, 104, 121, 32, 108, 97, 110, 101, 32, 104, 97, 116, 32, 115, 110, 111, 119, 32, 99, 97, 108, 108, 32, 105, 102, 32, 111, 114, 32, 97, 110, 100, 32, 110, 111, 116, 32], [111, 102, 102, 105, 99, 101, 114], [104, 111, 117, 115, 101], [119, 97, 114, 109, 116, 104], [119, 111, 111, 100], [104, 101, 97, 116], [116, 101, 110, 116, 104], [114, 111, 111, 109], [104, 101, 114, 101], [98, 101, 115, 105, 100, 101], [115, 105, 110, 99, 101], [110, 105, 103, 104, 116], [102, 114, 111, 122, 101, 110], [110, 111, 116], [97, 110, 100], [111, 114], [100, 117, 99, 104, 121], [108, 97, 110, 101], [104, 97, 116], [115, 110, 111, 119], [99, 97, 108, 108], [105, 102]]
def sown : List String := ["FireTax$Tokens", "FireTax$Tokens", "FireTaxModel", "FireTaxModel", "FireTaxModel", "FireTaxModel", "FireTaxModel", "FireTaxModel", "FireTaxModel", "FireTaxModel", "FireTaxModel", "FireTaxModel", "FireTaxModel", "FireTaxModel", "FireTaxModel", "FireTaxModel", "FireTaxModel", "FireTaxModel", "FireTaxModel", "FireTaxModel", "FireTaxModel", "FireTaxModel", "FireTaxModel"]
def sidx : List Nat := [61, 72, 167, 169, 171, 172, 173, 174, 176, 178, 180, 181, 183, 185, 267, 281, 283, 285, 287, 289, 291, 337, 339]
def stxt : List String := [";+-*/%[]<=>", "officer house warmth wood heat tenth room here beside since night frozen duchy lane hat snow call if or and not ", "officer", "house", "warmth", "wood", "heat", "tenth", "room", "here", "beside", "since", "night", "frozen", "not", "and", "or", "duchy", "lane", "hat", "snow", "call", "if"]
def numT : List Int32 := [3, 3, 2, 2, 2, 1]
def mostT : List Int32 := [100, 20, 50, 99, 99, 20, -1, -1, 0, -1, 50, 0, -1, 200, 0, 99, 0, 0]
abbrev eK (E : Ev) : Nat → Nat := E.2.2.2.2.2.1
abbrev eV (E : Ev) : Nat → Nat := E.2.2.2.2.2.2.1
abbrev eS (E : Ev) : Nat → Nat := E.2.2.2.2.2.2.2
/-- the constants: texts, static arrays -/
def KX (E : Ev) (A : Nat → Prop) (U : State) (H : Heap) : Prop := vk_S 23 slen sbyt (eK E) (eV E) A U H ∧ va_Z "java/lang/String" "COMPACT_STRINGS" "Z" (.int 1) A U H ∧ va_Z "FireTax$DuchyReader" "NUMBERS" "[I" (.ref (eS E 0)) A U H ∧ va_T .int (eS E 0) 6 (fun j => .int (numT.getD j 0)) A U H ∧ va_Z "FireTax$DuchyReader" "MOST" "[I" (.ref (eS E 1)) A U H ∧ va_T .int (eS E 1) 18 (fun j => .int (mostT.getD j 0)) A U H ∧ va_Zq "jdk/internal/util/Preconditions" "SIOOBE_FORMATTER" "Ljava/util/function/BiFunction;" A U H
def KR (E : Ev) (U : State) : Prop := ∀ j : Nat, j < 23 → vk_R (sown.getD j "") (sidx.getD j 0) (stxt.getD j "") (eK E j) U
theorem KX.moved {E : Ev} {A : Nat → Prop} {u U : State} {H : Heap} (hvm : u.vm.Alike U.vm) (h : KX E A u H) : KX E A U H := by
  obtain ⟨h1, h2, h3, h4, h5, h6, h7⟩ := h
  exact ⟨h1.moved hvm, h2.moved hvm, h3.moved hvm, h4.moved hvm, h5.moved hvm, h6.moved hvm, h7.moved hvm⟩
theorem KX.kept {E : Ev} {A : Nat → Prop} {U : State} {H H1 : Heap} (h : KX E A U H) (hq : ∀ a : Nat, a < H.size → ¬ A a → H1[a]? = H[a]?) : KX E A U H1 := by
  obtain ⟨h1, h2, h3, h4, h5, h6, h7⟩ := h
  exact ⟨h1.kept hq, h2.kept hq, h3.kept hq, h4.kept hq, h5.kept hq, h6.kept hq, h7.kept hq⟩
theorem KX.narrow {E : Ev} {A B : Nat → Prop} {U : State} {H : Heap} (h : KX E A U H) (hAB : ∀ q, B q → A q) : KX E B U H := by
  obtain ⟨h1, h2, h3, h4, h5, h6, h7⟩ := h
  exact ⟨h1.narrow hAB, h2.narrow hAB, h3.narrow hAB, h4.narrow hAB, h5.narrow hAB, h6.narrow hAB, h7.narrow hAB⟩
/-- a method's start -/
def Pre (E : Ev) (st : St) (sz : Nat) (U : State) : Prop := U.heap.size = sz ∧ va_P (eD E) vwCl (cw E st) U.heap ∧ va_K (eD E) vwCl (eT E) U ∧ va_D (fun _ => True) (cw E st) ∧ KX E (Af E sz) U U.heap ∧ KR E U
/-- the world behind it -/
def Post (E : Ev) (st : St) (A : Nat → Prop) (t : State) : Prop := va_P (eD E) vwCl (cw E st) t.heap ∧ va_K (eD E) vwCl (eT E) t ∧ va_D A (cw E st)
abbrev QRi (r : Int32) := vp_Si (fun x => x = r)
abbrev QRl (r : Int64) := vp_Sl (fun x => x = r)
abbrev QRq (r : Option Nat) := va_Sq (fun x => x = r)
abbrev QRu := va_Sv (fun _ => True)
abbrev QWi (E : Ev) (st : St) (sz : Nat) (r : Int32) := va_Qi (S := Unit) (fun x _ => x = r) (fun _ t => Post E st (Af E sz) t) (Af E sz)
abbrev QWl (E : Ev) (st : St) (sz : Nat) (r : Int64) := va_Ql (S := Unit) (fun x _ => x = r) (fun _ t => Post E st (Af E sz) t) (Af E sz)
abbrev QWq (E : Ev) (st : St) (sz : Nat) (r : Option Nat) := va_Qq (S := Unit) (fun x _ => x = r) (fun _ t => Post E st (Af E sz) t) (Af E sz)
abbrev QWv (E : Ev) (st : St) (sz : Nat) := va_Qv (S := Unit) (fun _ => True) (fun _ t => Post E st (Af E sz) t) (Af E sz)
abbrev NoF : Addr → Prop := fun _ => False
/-- what stays while a method runs -/
def CX (p : Program) (s : State) (m : MethodId) (args : Array Value) (c : Code) (E : Ev) (own : String) (cc : ByteArray) (nL : Nat) (A : Nat → Prop) : Prop :=
  CallFix p m c cc nL s args uW own ∧ va_K (eD E) vwCl (eT E) s ∧ (∀ q, s.heap.size ≤ q → A q) ∧ KX E A s s.heap ∧ KR E s
/-- the heap now -/
def Gd (E : Ev) (st : St) (A : Nat → Prop) (s : State) (H : Heap) (locs : List Loc) : Prop := va_P (eD E) vwCl (cw E st) H ∧ va_D A (cw E st) ∧ va_S A s.heap H locs
section RW
variable {p : Program} {l : Launch} {e : Env} {R : Room} {s : State} {m : MethodId} {args : Array Value} {below : List Frame} {meth : Method} {c : Code} {H : Heap} {locs : List Loc} {cells slots : Nat} {Q : State → Prop} {cc : ByteArray} {pc : Nat} {ls : Array Slot} {rest : List Value} {nL : Nat}
variable {E : Ev} {st : St} {A : Nat → Prop} {own : String} {sz : Nat}
theorem Met_in {y : MethodName} {cc : ByteArray} {maxL : Nat} {ret : Option FieldType} {rm : Room} {av : List Value} {Qc : Array Value → State → Outcome → State → Prop} {mc ms : Nat} {free : Addr → Prop} (hy : plainName y.cls = true) (hlen : (lg_sl av).length ≤ maxL)
    (body : ∀ (p : Program) (e : Env) (s : State) (m : MethodId) (below : List Frame) (meth : Method) (c : Code), CX p s m av.toArray c E y.cls cc maxL (Af E sz) → meth.sig.returnType = ret → meth.locks = false → s.heap.size = sz → Gd E st (Af E sz) s s.heap [] → ∀ ls : Array Slot, lv_has ls maxL (lv_args 0 av) → W p l e rm s m av.toArray below meth c s.heap [] 0 0 (MQ below Qc av.toArray s mc ms free) (F0 m 0 ls [])) :
    Met l y (.code y cc maxL ret :: uW) rm (va_Pc av (Pre E st sz)) Qc mc ms free := by
  refine Met.ofW (cc := cc) (maxL := maxL) (ret := ret) hy rfl ?_
  intro p e s m args below meth c s₁ B hml hv
  obtain ⟨rfl, hsz, hP, hK, hD0, hC, hR⟩ := hv
  have hts := atoms_spec (ws := .code y cc maxL ret :: uW) B.pre
  have hown : s.vm.findClass y.cls = some m.cls := findClass_of_methodNamed B.named
  have hD : va_D (Af E sz) (cw E st) := cw_self hD0
  have hl := lv_entry av (n := maxL) hlen
  rw [lg_entry_eq]
  generalize (lg_sl av ++ List.replicate (maxL - (lg_sl av).length) Slot.unset).toArray = ls at hl ⊢
  exact body p e s m below meth c ⟨⟨B.exec, B.bytes, hml, hown, fun w hw => hts w (List.mem_cons_of_mem _ hw)⟩, hK, fun q h => Or.inr (by rw [← hsz]; exact h), hC, hR⟩ B.returns B.notSynchronized hsz ⟨hP, hD, va_S.rf⟩ ls hl
theorem Pre_blind {av : List Value} : FrameBlind (va_Pc av (Pre E st sz)) := by
  intro a U g mk q
  obtain ⟨q0, q1, q2, q3, q4, q5, q6⟩ := q
  exact ⟨q0, q1, q2, va_K.moved (u := U) (U := U.calling g mk a) (Vm.Alike.refl U.vm) q3, q4, KX.moved (u := U) (U := U.calling g mk a) (Vm.Alike.refl U.vm) q5, fun j hj => vk_R.same (u := U) (U := U.calling g mk a) rfl (q6 j hj)⟩
theorem Pre_call {av : List Value} (X : CX p s m args c E own cc nL A) (G : Gd E st A s H locs) : ∀ U : State, U.heap = H → s.WarmedH U.vm → va_Pc av (Pre E st H.size) av.toArray U := by
  intro U hU hW
  obtain ⟨-, hK, hA, hC, hR⟩ := X
  obtain ⟨hP, hD, hS⟩ := G
  refine ⟨rfl, by rw [hU], by rw [hU]; exact hP, va_K.moved hW.alike hK, ⟨hD.1, fun _ _ _ => trivial⟩, ?_, fun j hj => (hR j hj).warm hW⟩
  rw [hU]
  exact ((hC.kept hS.2.1).narrow (Af_of hD hA hS.1)).moved hW.alike
theorem Gd_call {st' : St} {H1 : Heap} {locs1 : List Loc} {t : State} (X : CX p s m args c E own cc nL A) (G : Gd E st A s H locs) (hB : Post E st' (Af E H.size) t) (ht : t.heap = H1) (hS : va_S A s.heap H1 locs1) : Gd E st' A s H1 locs1 := by
  obtain ⟨-, hK, hA, hC, hR⟩ := X
  obtain ⟨hP, hD, hS0⟩ := G
  exact ⟨by rw [← ht]; exact hB.1, hB.2.2.weaken (fun _ q _ h => Af_of hD hA hS0.1 q.1 h), hS⟩
theorem Gd_free (X : CX p s m args c E own cc nL A) (G : Gd E st A s H locs) : ∀ q, Af E H.size q → A q := Af_of G.2.1 X.2.2.1 G.2.2.1
theorem gf0 (X : CX p s m args c E own cc nL A) (G : Gd E st A s H locs) {k index : Nat} (hk : k ∈ eL E) (ht : ty k = 1) (j : Nat) (hj : j < 4) {v : Value} (hv : (flX0 E st k)[j]? = some v) (hl : Cond.fieldLink own index (TX0 j).1 (TX0 j).2.1 (TX0 j).2.2.1 ∈ uW) (hin : ∀ w ∈ u_ws RX0 TX0 4, w ∈ uW) (hdg : decode cc pc = .ok (.getfield index, 3))
    (kk : W p l e R s m args below meth c H locs cells slots Q (F0 m (pc + 3) ls (v :: rest))) : W p l e R s m args below meth c H locs cells slots Q (F0 m pc ls (.ref (eq E k) :: rest)) := by
  obtain ⟨⟨hx, hb, hml, hown, hts⟩, hK, hA, hC, hR⟩ := X
  obtain ⟨i, hi, hw⟩ := cw_at (s := st) hk
  rw [cO0 ht] at hw
  exact va_get (D := eD E) (ci := 0) (v := v) (C := RX0) (T := TX0) (N := 4) hx hb hts hin hown hK G.1 i hw rfl j hj (hts _ hl) (fun _ h9 => h9) hv hdg kk
theorem pf0 (X : CX p s m args c E own cc nL A) (G : Gd E st A s H locs) {k index : Nat} (hk : k ∈ eL E) (ht : ty k = 1) (j : Nat) (hj : j < 4) {v : Value} {st' : St} (hs : (flX0 E st k).set j v = flX0 E st' k) (ho : ∀ b, b ≠ k → cell E st' b = cell E st b) (hl : Cond.fieldLink own index (TX0 j).1 (TX0 j).2.1 (TX0 j).2.2.1 ∈ uW) (hin : ∀ w ∈ u_ws RX0 TX0 4, w ∈ uW) (hfin : (TX0 j).2.2.2 = false) {ty : FieldType} (hd : parseFieldDescriptor (TX0 j).2.2.1 = some ty) (hn : narrow ty v = v) (hfit : fits ty v = true) (hdg : decode cc pc = .ok (.putfield index, 3))
    (kk : ∀ (s2 : St), s2 = st' → ∀ (H : Heap) (locs : List Loc), Gd E s2 A s H locs → W p l e R s m args below meth c H locs cells slots Q (F0 m (pc + 3) ls rest)) : W p l e R s m args below meth c H locs cells slots Q (F0 m pc ls (v :: .ref (eq E k) :: rest)) := by
  obtain ⟨⟨hx, hb, hml, hown, hts⟩, hK, hA, hC, hR⟩ := X
  obtain ⟨i, hi, hw⟩ := cw_at (s := st) hk
  rw [cO0 ht] at hw
  refine va_put (D := eD E) (ci := 0) (v := v) (ty := ty) (C := RX0) (T := TX0) (N := 4) hx hb hts hin tyX0 tyX0_ok nmX0 hown hK G.1 G.2.1 G.2.2 i hw rfl j hj (hts _ hl) (fun _ h9 => h9) hfin hd hn hfit (show j < 4 from hj) hdg (fun H1 locs1 hP hD hS => kk st' rfl H1 locs1 ?_)
  rw [hs, cw_set G.2.1 hi ho (cO0 ht)] at hP hD
  exact ⟨hP, hD, hS⟩
theorem gf1 (X : CX p s m args c E own cc nL A) (G : Gd E st A s H locs) {k index : Nat} (hk : k ∈ eL E) (ht : ty k = 2) (j : Nat) (hj : j < 13) {v : Value} (hv : (flX1 E st k)[j]? = some v) (hl : Cond.fieldLink own index (TX1 j).1 (TX1 j).2.1 (TX1 j).2.2.1 ∈ uW) (hin : ∀ w ∈ u_ws RX1 TX1 13, w ∈ uW) (hdg : decode cc pc = .ok (.getfield index, 3))
    (kk : W p l e R s m args below meth c H locs cells slots Q (F0 m (pc + 3) ls (v :: rest))) : W p l e R s m args below meth c H locs cells slots Q (F0 m pc ls (.ref (eq E k) :: rest)) := by
  obtain ⟨⟨hx, hb, hml, hown, hts⟩, hK, hA, hC, hR⟩ := X
  obtain ⟨i, hi, hw⟩ := cw_at (s := st) hk
  rw [cO1 ht] at hw
  exact va_get (D := eD E) (ci := 1) (v := v) (C := RX1) (T := TX1) (N := 13) hx hb hts hin hown hK G.1 i hw rfl j hj (hts _ hl) (fun _ h9 => h9) hv hdg kk
theorem pf1 (X : CX p s m args c E own cc nL A) (G : Gd E st A s H locs) {k index : Nat} (hk : k ∈ eL E) (ht : ty k = 2) (j : Nat) (hj : j < 13) {v : Value} {st' : St} (hs : (flX1 E st k).set j v = flX1 E st' k) (ho : ∀ b, b ≠ k → cell E st' b = cell E st b) (hl : Cond.fieldLink own index (TX1 j).1 (TX1 j).2.1 (TX1 j).2.2.1 ∈ uW) (hin : ∀ w ∈ u_ws RX1 TX1 13, w ∈ uW) (hfin : (TX1 j).2.2.2 = false) {ty : FieldType} (hd : parseFieldDescriptor (TX1 j).2.2.1 = some ty) (hn : narrow ty v = v) (hfit : fits ty v = true) (hdg : decode cc pc = .ok (.putfield index, 3))
    (kk : ∀ (s2 : St), s2 = st' → ∀ (H : Heap) (locs : List Loc), Gd E s2 A s H locs → W p l e R s m args below meth c H locs cells slots Q (F0 m (pc + 3) ls rest)) : W p l e R s m args below meth c H locs cells slots Q (F0 m pc ls (v :: .ref (eq E k) :: rest)) := by
  obtain ⟨⟨hx, hb, hml, hown, hts⟩, hK, hA, hC, hR⟩ := X
  obtain ⟨i, hi, hw⟩ := cw_at (s := st) hk
  rw [cO1 ht] at hw
  refine va_put (D := eD E) (ci := 1) (v := v) (ty := ty) (C := RX1) (T := TX1) (N := 13) hx hb hts hin tyX1 tyX1_ok nmX1 hown hK G.1 G.2.1 G.2.2 i hw rfl j hj (hts _ hl) (fun _ h9 => h9) hfin hd hn hfit (show j < 13 from hj) hdg (fun H1 locs1 hP hD hS => kk st' rfl H1 locs1 ?_)
  rw [hs, cw_set G.2.1 hi ho (cO1 ht)] at hP hD
  exact ⟨hP, hD, hS⟩
theorem gf2 (X : CX p s m args c E own cc nL A) (G : Gd E st A s H locs) {k index : Nat} (hk : k ∈ eL E) (ht : ty k = 3) (j : Nat) (hj : j < 10) {v : Value} (hv : (flX2 E st k)[j]? = some v) (hl : Cond.fieldLink own index (TX2 j).1 (TX2 j).2.1 (TX2 j).2.2.1 ∈ uW) (hin : ∀ w ∈ u_ws RX2 TX2 10, w ∈ uW) (hdg : decode cc pc = .ok (.getfield index, 3))
    (kk : W p l e R s m args below meth c H locs cells slots Q (F0 m (pc + 3) ls (v :: rest))) : W p l e R s m args below meth c H locs cells slots Q (F0 m pc ls (.ref (eq E k) :: rest)) := by
  obtain ⟨⟨hx, hb, hml, hown, hts⟩, hK, hA, hC, hR⟩ := X
  obtain ⟨i, hi, hw⟩ := cw_at (s := st) hk
  rw [cO2 ht] at hw
  exact va_get (D := eD E) (ci := 2) (v := v) (C := RX2) (T := TX2) (N := 10) hx hb hts hin hown hK G.1 i hw rfl j hj (hts _ hl) (fun _ h9 => h9) hv hdg kk
theorem pf2 (X : CX p s m args c E own cc nL A) (G : Gd E st A s H locs) {k index : Nat} (hk : k ∈ eL E) (ht : ty k = 3) (j : Nat) (hj : j < 10) {v : Value} {st' : St} (hs : (flX2 E st k).set j v = flX2 E st' k) (ho : ∀ b, b ≠ k → cell E st' b = cell E st b) (hl : Cond.fieldLink own index (TX2 j).1 (TX2 j).2.1 (TX2 j).2.2.1 ∈ uW) (hin : ∀ w ∈ u_ws RX2 TX2 10, w ∈ uW) (hfin : (TX2 j).2.2.2 = false) {ty : FieldType} (hd : parseFieldDescriptor (TX2 j).2.2.1 = some ty) (hn : narrow ty v = v) (hfit : fits ty v = true) (hdg : decode cc pc = .ok (.putfield index, 3))
    (kk : ∀ (s2 : St), s2 = st' → ∀ (H : Heap) (locs : List Loc), Gd E s2 A s H locs → W p l e R s m args below meth c H locs cells slots Q (F0 m (pc + 3) ls rest)) : W p l e R s m args below meth c H locs cells slots Q (F0 m pc ls (v :: .ref (eq E k) :: rest)) := by
  obtain ⟨⟨hx, hb, hml, hown, hts⟩, hK, hA, hC, hR⟩ := X
  obtain ⟨i, hi, hw⟩ := cw_at (s := st) hk
  rw [cO2 ht] at hw
  refine va_put (D := eD E) (ci := 2) (v := v) (ty := ty) (C := RX2) (T := TX2) (N := 10) hx hb hts hin tyX2 tyX2_ok nmX2 hown hK G.1 G.2.1 G.2.2 i hw rfl j hj (hts _ hl) (fun _ h9 => h9) hfin hd hn hfit (show j < 10 from hj) hdg (fun H1 locs1 hP hD hS => kk st' rfl H1 locs1 ?_)
  rw [hs, cw_set G.2.1 hi ho (cO2 ht)] at hP hD
  exact ⟨hP, hD, hS⟩
theorem gf3 (X : CX p s m args c E own cc nL A) (G : Gd E st A s H locs) {k index : Nat} (hk : k ∈ eL E) (ht : ty k = 4) (j : Nat) (hj : j < 11) {v : Value} (hv : (flX3 E st k)[j]? = some v) (hl : Cond.fieldLink own index (TX3 j).1 (TX3 j).2.1 (TX3 j).2.2.1 ∈ uW) (hin : ∀ w ∈ u_ws RX3 TX3 11, w ∈ uW) (hdg : decode cc pc = .ok (.getfield index, 3))
    (kk : W p l e R s m args below meth c H locs cells slots Q (F0 m (pc + 3) ls (v :: rest))) : W p l e R s m args below meth c H locs cells slots Q (F0 m pc ls (.ref (eq E k) :: rest)) := by
  obtain ⟨⟨hx, hb, hml, hown, hts⟩, hK, hA, hC, hR⟩ := X
  obtain ⟨i, hi, hw⟩ := cw_at (s := st) hk
  rw [cO3 ht] at hw
  exact va_get (D := eD E) (ci := 3) (v := v) (C := RX3) (T := TX3) (N := 11) hx hb hts hin hown hK G.1 i hw rfl j hj (hts _ hl) (fun _ h9 => h9) hv hdg kk
theorem pf3 (X : CX p s m args c E own cc nL A) (G : Gd E st A s H locs) {k index : Nat} (hk : k ∈ eL E) (ht : ty k = 4) (j : Nat) (hj : j < 11) {v : Value} {st' : St} (hs : (flX3 E st k).set j v = flX3 E st' k) (ho : ∀ b, b ≠ k → cell E st' b = cell E st b) (hl : Cond.fieldLink own index (TX3 j).1 (TX3 j).2.1 (TX3 j).2.2.1 ∈ uW) (hin : ∀ w ∈ u_ws RX3 TX3 11, w ∈ uW) (hfin : (TX3 j).2.2.2 = false) {ty : FieldType} (hd : parseFieldDescriptor (TX3 j).2.2.1 = some ty) (hn : narrow ty v = v) (hfit : fits ty v = true) (hdg : decode cc pc = .ok (.putfield index, 3))
    (kk : ∀ (s2 : St), s2 = st' → ∀ (H : Heap) (locs : List Loc), Gd E s2 A s H locs → W p l e R s m args below meth c H locs cells slots Q (F0 m (pc + 3) ls rest)) : W p l e R s m args below meth c H locs cells slots Q (F0 m pc ls (v :: .ref (eq E k) :: rest)) := by
  obtain ⟨⟨hx, hb, hml, hown, hts⟩, hK, hA, hC, hR⟩ := X
  obtain ⟨i, hi, hw⟩ := cw_at (s := st) hk
  rw [cO3 ht] at hw
  refine va_put (D := eD E) (ci := 3) (v := v) (ty := ty) (C := RX3) (T := TX3) (N := 11) hx hb hts hin tyX3 tyX3_ok nmX3 hown hK G.1 G.2.1 G.2.2 i hw rfl j hj (hts _ hl) (fun _ h9 => h9) hfin hd hn hfit (show j < 11 from hj) hdg (fun H1 locs1 hP hD hS => kk st' rfl H1 locs1 ?_)
  rw [hs, cw_set G.2.1 hi ho (cO3 ht)] at hP hD
  exact ⟨hP, hD, hS⟩
theorem gf4 (X : CX p s m args c E own cc nL A) (G : Gd E st A s H locs) {k index : Nat} (hk : k ∈ eL E) (ht : ty k = 5) (j : Nat) (hj : j < 7) {v : Value} (hv : (flX4 E st k)[j]? = some v) (hl : Cond.fieldLink own index (TX4 j).1 (TX4 j).2.1 (TX4 j).2.2.1 ∈ uW) (hin : ∀ w ∈ u_ws RX4 TX4 7, w ∈ uW) (hdg : decode cc pc = .ok (.getfield index, 3))
    (kk : W p l e R s m args below meth c H locs cells slots Q (F0 m (pc + 3) ls (v :: rest))) : W p l e R s m args below meth c H locs cells slots Q (F0 m pc ls (.ref (eq E k) :: rest)) := by
  obtain ⟨⟨hx, hb, hml, hown, hts⟩, hK, hA, hC, hR⟩ := X
  obtain ⟨i, hi, hw⟩ := cw_at (s := st) hk
  rw [cO4 ht] at hw
  exact va_get (D := eD E) (ci := 4) (v := v) (C := RX4) (T := TX4) (N := 7) hx hb hts hin hown hK G.1 i hw rfl j hj (hts _ hl) (fun _ h9 => h9) hv hdg kk
theorem pf4 (X : CX p s m args c E own cc nL A) (G : Gd E st A s H locs) {k index : Nat} (hk : k ∈ eL E) (ht : ty k = 5) (j : Nat) (hj : j < 7) {v : Value} {st' : St} (hs : (flX4 E st k).set j v = flX4 E st' k) (ho : ∀ b, b ≠ k → cell E st' b = cell E st b) (hl : Cond.fieldLink own index (TX4 j).1 (TX4 j).2.1 (TX4 j).2.2.1 ∈ uW) (hin : ∀ w ∈ u_ws RX4 TX4 7, w ∈ uW) (hfin : (TX4 j).2.2.2 = false) {ty : FieldType} (hd : parseFieldDescriptor (TX4 j).2.2.1 = some ty) (hn : narrow ty v = v) (hfit : fits ty v = true) (hdg : decode cc pc = .ok (.putfield index, 3))
    (kk : ∀ (s2 : St), s2 = st' → ∀ (H : Heap) (locs : List Loc), Gd E s2 A s H locs → W p l e R s m args below meth c H locs cells slots Q (F0 m (pc + 3) ls rest)) : W p l e R s m args below meth c H locs cells slots Q (F0 m pc ls (v :: .ref (eq E k) :: rest)) := by
  obtain ⟨⟨hx, hb, hml, hown, hts⟩, hK, hA, hC, hR⟩ := X
  obtain ⟨i, hi, hw⟩ := cw_at (s := st) hk
  rw [cO4 ht] at hw
  refine va_put (D := eD E) (ci := 4) (v := v) (ty := ty) (C := RX4) (T := TX4) (N := 7) hx hb hts hin tyX4 tyX4_ok nmX4 hown hK G.1 G.2.1 G.2.2 i hw rfl j hj (hts _ hl) (fun _ h9 => h9) hfin hd hn hfit (show j < 7 from hj) hdg (fun H1 locs1 hP hD hS => kk st' rfl H1 locs1 ?_)
  rw [hs, cw_set G.2.1 hi ho (cO4 ht)] at hP hD
  exact ⟨hP, hD, hS⟩
theorem gf5 (X : CX p s m args c E own cc nL A) (G : Gd E st A s H locs) {k index : Nat} (hk : k ∈ eL E) (ht : ty k = 6) (j : Nat) (hj : j < 4) {v : Value} (hv : (flX5 E st k)[j]? = some v) (hl : Cond.fieldLink own index (TX5 j).1 (TX5 j).2.1 (TX5 j).2.2.1 ∈ uW) (hin : ∀ w ∈ u_ws RX5 TX5 4, w ∈ uW) (hdg : decode cc pc = .ok (.getfield index, 3))
    (kk : W p l e R s m args below meth c H locs cells slots Q (F0 m (pc + 3) ls (v :: rest))) : W p l e R s m args below meth c H locs cells slots Q (F0 m pc ls (.ref (eq E k) :: rest)) := by
  obtain ⟨⟨hx, hb, hml, hown, hts⟩, hK, hA, hC, hR⟩ := X
  obtain ⟨i, hi, hw⟩ := cw_at (s := st) hk
  rw [cO5 ht] at hw
  exact va_get (D := eD E) (ci := 5) (v := v) (C := RX5) (T := TX5) (N := 4) hx hb hts hin hown hK G.1 i hw rfl j hj (hts _ hl) (fun _ h9 => h9) hv hdg kk
theorem pf5 (X : CX p s m args c E own cc nL A) (G : Gd E st A s H locs) {k index : Nat} (hk : k ∈ eL E) (ht : ty k = 6) (j : Nat) (hj : j < 4) {v : Value} {st' : St} (hs : (flX5 E st k).set j v = flX5 E st' k) (ho : ∀ b, b ≠ k → cell E st' b = cell E st b) (hl : Cond.fieldLink own index (TX5 j).1 (TX5 j).2.1 (TX5 j).2.2.1 ∈ uW) (hin : ∀ w ∈ u_ws RX5 TX5 4, w ∈ uW) (hfin : (TX5 j).2.2.2 = false) {ty : FieldType} (hd : parseFieldDescriptor (TX5 j).2.2.1 = some ty) (hn : narrow ty v = v) (hfit : fits ty v = true) (hdg : decode cc pc = .ok (.putfield index, 3))
    (kk : ∀ (s2 : St), s2 = st' → ∀ (H : Heap) (locs : List Loc), Gd E s2 A s H locs → W p l e R s m args below meth c H locs cells slots Q (F0 m (pc + 3) ls rest)) : W p l e R s m args below meth c H locs cells slots Q (F0 m pc ls (v :: .ref (eq E k) :: rest)) := by
  obtain ⟨⟨hx, hb, hml, hown, hts⟩, hK, hA, hC, hR⟩ := X
  obtain ⟨i, hi, hw⟩ := cw_at (s := st) hk
  rw [cO5 ht] at hw
  refine va_put (D := eD E) (ci := 5) (v := v) (ty := ty) (C := RX5) (T := TX5) (N := 4) hx hb hts hin tyX5 tyX5_ok nmX5 hown hK G.1 G.2.1 G.2.2 i hw rfl j hj (hts _ hl) (fun _ h9 => h9) hfin hd hn hfit (show j < 4 from hj) hdg (fun H1 locs1 hP hD hS => kk st' rfl H1 locs1 ?_)
  rw [hs, cw_set G.2.1 hi ho (cO5 ht)] at hP hD
  exact ⟨hP, hD, hS⟩
theorem gf6 (X : CX p s m args c E own cc nL A) (G : Gd E st A s H locs) {k index : Nat} (hk : k ∈ eL E) (ht : ty k = 7) (j : Nat) (hj : j < 5) {v : Value} (hv : (flX6 E st k)[j]? = some v) (hl : Cond.fieldLink own index (TX6 j).1 (TX6 j).2.1 (TX6 j).2.2.1 ∈ uW) (hin : ∀ w ∈ u_ws RX6 TX6 5, w ∈ uW) (hdg : decode cc pc = .ok (.getfield index, 3))
    (kk : W p l e R s m args below meth c H locs cells slots Q (F0 m (pc + 3) ls (v :: rest))) : W p l e R s m args below meth c H locs cells slots Q (F0 m pc ls (.ref (eq E k) :: rest)) := by
  obtain ⟨⟨hx, hb, hml, hown, hts⟩, hK, hA, hC, hR⟩ := X
  obtain ⟨i, hi, hw⟩ := cw_at (s := st) hk
  rw [cO6 ht] at hw
  exact va_get (D := eD E) (ci := 6) (v := v) (C := RX6) (T := TX6) (N := 5) hx hb hts hin hown hK G.1 i hw rfl j hj (hts _ hl) (fun _ h9 => h9) hv hdg kk
theorem pf6 (X : CX p s m args c E own cc nL A) (G : Gd E st A s H locs) {k index : Nat} (hk : k ∈ eL E) (ht : ty k = 7) (j : Nat) (hj : j < 5) {v : Value} {st' : St} (hs : (flX6 E st k).set j v = flX6 E st' k) (ho : ∀ b, b ≠ k → cell E st' b = cell E st b) (hl : Cond.fieldLink own index (TX6 j).1 (TX6 j).2.1 (TX6 j).2.2.1 ∈ uW) (hin : ∀ w ∈ u_ws RX6 TX6 5, w ∈ uW) (hfin : (TX6 j).2.2.2 = false) {ty : FieldType} (hd : parseFieldDescriptor (TX6 j).2.2.1 = some ty) (hn : narrow ty v = v) (hfit : fits ty v = true) (hdg : decode cc pc = .ok (.putfield index, 3))
    (kk : ∀ (s2 : St), s2 = st' → ∀ (H : Heap) (locs : List Loc), Gd E s2 A s H locs → W p l e R s m args below meth c H locs cells slots Q (F0 m (pc + 3) ls rest)) : W p l e R s m args below meth c H locs cells slots Q (F0 m pc ls (v :: .ref (eq E k) :: rest)) := by
  obtain ⟨⟨hx, hb, hml, hown, hts⟩, hK, hA, hC, hR⟩ := X
  obtain ⟨i, hi, hw⟩ := cw_at (s := st) hk
  rw [cO6 ht] at hw
  refine va_put (D := eD E) (ci := 6) (v := v) (ty := ty) (C := RX6) (T := TX6) (N := 5) hx hb hts hin tyX6 tyX6_ok nmX6 hown hK G.1 G.2.1 G.2.2 i hw rfl j hj (hts _ hl) (fun _ h9 => h9) hfin hd hn hfit (show j < 5 from hj) hdg (fun H1 locs1 hP hD hS => kk st' rfl H1 locs1 ?_)
  rw [hs, cw_set G.2.1 hi ho (cO6 ht)] at hP hD
  exact ⟨hP, hD, hS⟩
theorem gf7 (X : CX p s m args c E own cc nL A) (G : Gd E st A s H locs) {k index : Nat} (hk : k ∈ eL E) (ht : ty k = 8) (j : Nat) (hj : j < 8) {v : Value} (hv : (flX7 E st k)[j]? = some v) (hl : Cond.fieldLink own index (TX7 j).1 (TX7 j).2.1 (TX7 j).2.2.1 ∈ uW) (hin : ∀ w ∈ u_ws RX7 TX7 8, w ∈ uW) (hdg : decode cc pc = .ok (.getfield index, 3))
    (kk : W p l e R s m args below meth c H locs cells slots Q (F0 m (pc + 3) ls (v :: rest))) : W p l e R s m args below meth c H locs cells slots Q (F0 m pc ls (.ref (eq E k) :: rest)) := by
  obtain ⟨⟨hx, hb, hml, hown, hts⟩, hK, hA, hC, hR⟩ := X
  obtain ⟨i, hi, hw⟩ := cw_at (s := st) hk
  rw [cO7 ht] at hw
  exact va_get (D := eD E) (ci := 7) (v := v) (C := RX7) (T := TX7) (N := 8) hx hb hts hin hown hK G.1 i hw rfl j hj (hts _ hl) (fun _ h9 => h9) hv hdg kk
theorem pf7 (X : CX p s m args c E own cc nL A) (G : Gd E st A s H locs) {k index : Nat} (hk : k ∈ eL E) (ht : ty k = 8) (j : Nat) (hj : j < 8) {v : Value} {st' : St} (hs : (flX7 E st k).set j v = flX7 E st' k) (ho : ∀ b, b ≠ k → cell E st' b = cell E st b) (hl : Cond.fieldLink own index (TX7 j).1 (TX7 j).2.1 (TX7 j).2.2.1 ∈ uW) (hin : ∀ w ∈ u_ws RX7 TX7 8, w ∈ uW) (hfin : (TX7 j).2.2.2 = false) {ty : FieldType} (hd : parseFieldDescriptor (TX7 j).2.2.1 = some ty) (hn : narrow ty v = v) (hfit : fits ty v = true) (hdg : decode cc pc = .ok (.putfield index, 3))
    (kk : ∀ (s2 : St), s2 = st' → ∀ (H : Heap) (locs : List Loc), Gd E s2 A s H locs → W p l e R s m args below meth c H locs cells slots Q (F0 m (pc + 3) ls rest)) : W p l e R s m args below meth c H locs cells slots Q (F0 m pc ls (v :: .ref (eq E k) :: rest)) := by
  obtain ⟨⟨hx, hb, hml, hown, hts⟩, hK, hA, hC, hR⟩ := X
  obtain ⟨i, hi, hw⟩ := cw_at (s := st) hk
  rw [cO7 ht] at hw
  refine va_put (D := eD E) (ci := 7) (v := v) (ty := ty) (C := RX7) (T := TX7) (N := 8) hx hb hts hin tyX7 tyX7_ok nmX7 hown hK G.1 G.2.1 G.2.2 i hw rfl j hj (hts _ hl) (fun _ h9 => h9) hfin hd hn hfit (show j < 8 from hj) hdg (fun H1 locs1 hP hD hS => kk st' rfl H1 locs1 ?_)
  rw [hs, cw_set G.2.1 hi ho (cO7 ht)] at hP hD
  exact ⟨hP, hD, hS⟩
theorem gf8 (X : CX p s m args c E own cc nL A) (G : Gd E st A s H locs) {k index : Nat} (hk : k ∈ eL E) (ht : ty k = 9) (j : Nat) (hj : j < 4) {v : Value} (hv : (flX8 E st k)[j]? = some v) (hl : Cond.fieldLink own index (TX8 j).1 (TX8 j).2.1 (TX8 j).2.2.1 ∈ uW) (hin : ∀ w ∈ u_ws RX8 TX8 4, w ∈ uW) (hdg : decode cc pc = .ok (.getfield index, 3))
    (kk : W p l e R s m args below meth c H locs cells slots Q (F0 m (pc + 3) ls (v :: rest))) : W p l e R s m args below meth c H locs cells slots Q (F0 m pc ls (.ref (eq E k) :: rest)) := by
  obtain ⟨⟨hx, hb, hml, hown, hts⟩, hK, hA, hC, hR⟩ := X
  obtain ⟨i, hi, hw⟩ := cw_at (s := st) hk
  rw [cO8 ht] at hw
  exact va_get (D := eD E) (ci := 8) (v := v) (C := RX8) (T := TX8) (N := 4) hx hb hts hin hown hK G.1 i hw rfl j hj (hts _ hl) (fun _ h9 => h9) hv hdg kk
theorem pf8 (X : CX p s m args c E own cc nL A) (G : Gd E st A s H locs) {k index : Nat} (hk : k ∈ eL E) (ht : ty k = 9) (j : Nat) (hj : j < 4) {v : Value} {st' : St} (hs : (flX8 E st k).set j v = flX8 E st' k) (ho : ∀ b, b ≠ k → cell E st' b = cell E st b) (hl : Cond.fieldLink own index (TX8 j).1 (TX8 j).2.1 (TX8 j).2.2.1 ∈ uW) (hin : ∀ w ∈ u_ws RX8 TX8 4, w ∈ uW) (hfin : (TX8 j).2.2.2 = false) {ty : FieldType} (hd : parseFieldDescriptor (TX8 j).2.2.1 = some ty) (hn : narrow ty v = v) (hfit : fits ty v = true) (hdg : decode cc pc = .ok (.putfield index, 3))
    (kk : ∀ (s2 : St), s2 = st' → ∀ (H : Heap) (locs : List Loc), Gd E s2 A s H locs → W p l e R s m args below meth c H locs cells slots Q (F0 m (pc + 3) ls rest)) : W p l e R s m args below meth c H locs cells slots Q (F0 m pc ls (v :: .ref (eq E k) :: rest)) := by
  obtain ⟨⟨hx, hb, hml, hown, hts⟩, hK, hA, hC, hR⟩ := X
  obtain ⟨i, hi, hw⟩ := cw_at (s := st) hk
  rw [cO8 ht] at hw
  refine va_put (D := eD E) (ci := 8) (v := v) (ty := ty) (C := RX8) (T := TX8) (N := 4) hx hb hts hin tyX8 tyX8_ok nmX8 hown hK G.1 G.2.1 G.2.2 i hw rfl j hj (hts _ hl) (fun _ h9 => h9) hfin hd hn hfit (show j < 4 from hj) hdg (fun H1 locs1 hP hD hS => kk st' rfl H1 locs1 ?_)
  rw [hs, cw_set G.2.1 hi ho (cO8 ht)] at hP hD
  exact ⟨hP, hD, hS⟩
theorem gf9 (X : CX p s m args c E own cc nL A) (G : Gd E st A s H locs) {k index : Nat} (hk : k ∈ eL E) (ht : ty k = 10) (j : Nat) (hj : j < 13) {v : Value} (hv : (flX9 E st k)[j]? = some v) (hl : Cond.fieldLink own index (TX9 j).1 (TX9 j).2.1 (TX9 j).2.2.1 ∈ uW) (hin : ∀ w ∈ u_ws RX9 TX9 13, w ∈ uW) (hdg : decode cc pc = .ok (.getfield index, 3))
    (kk : W p l e R s m args below meth c H locs cells slots Q (F0 m (pc + 3) ls (v :: rest))) : W p l e R s m args below meth c H locs cells slots Q (F0 m pc ls (.ref (eq E k) :: rest)) := by
  obtain ⟨⟨hx, hb, hml, hown, hts⟩, hK, hA, hC, hR⟩ := X
  obtain ⟨i, hi, hw⟩ := cw_at (s := st) hk
  rw [cO9 ht] at hw
  exact va_get (D := eD E) (ci := 9) (v := v) (C := RX9) (T := TX9) (N := 13) hx hb hts hin hown hK G.1 i hw rfl j hj (hts _ hl) (fun _ h9 => h9) hv hdg kk
theorem pf9 (X : CX p s m args c E own cc nL A) (G : Gd E st A s H locs) {k index : Nat} (hk : k ∈ eL E) (ht : ty k = 10) (j : Nat) (hj : j < 13) {v : Value} {st' : St} (hs : (flX9 E st k).set j v = flX9 E st' k) (ho : ∀ b, b ≠ k → cell E st' b = cell E st b) (hl : Cond.fieldLink own index (TX9 j).1 (TX9 j).2.1 (TX9 j).2.2.1 ∈ uW) (hin : ∀ w ∈ u_ws RX9 TX9 13, w ∈ uW) (hfin : (TX9 j).2.2.2 = false) {ty : FieldType} (hd : parseFieldDescriptor (TX9 j).2.2.1 = some ty) (hn : narrow ty v = v) (hfit : fits ty v = true) (hdg : decode cc pc = .ok (.putfield index, 3))
    (kk : ∀ (s2 : St), s2 = st' → ∀ (H : Heap) (locs : List Loc), Gd E s2 A s H locs → W p l e R s m args below meth c H locs cells slots Q (F0 m (pc + 3) ls rest)) : W p l e R s m args below meth c H locs cells slots Q (F0 m pc ls (v :: .ref (eq E k) :: rest)) := by
  obtain ⟨⟨hx, hb, hml, hown, hts⟩, hK, hA, hC, hR⟩ := X
  obtain ⟨i, hi, hw⟩ := cw_at (s := st) hk
  rw [cO9 ht] at hw
  refine va_put (D := eD E) (ci := 9) (v := v) (ty := ty) (C := RX9) (T := TX9) (N := 13) hx hb hts hin tyX9 tyX9_ok nmX9 hown hK G.1 G.2.1 G.2.2 i hw rfl j hj (hts _ hl) (fun _ h9 => h9) hfin hd hn hfit (show j < 13 from hj) hdg (fun H1 locs1 hP hD hS => kk st' rfl H1 locs1 ?_)
  rw [hs, cw_set G.2.1 hi ho (cO9 ht)] at hP hD
  exact ⟨hP, hD, hS⟩
theorem gf10 (X : CX p s m args c E own cc nL A) (G : Gd E st A s H locs) {k index : Nat} (hk : k ∈ eL E) (ht : ty k = 11) (j : Nat) (hj : j < 63) {v : Value} (hv : (flX10 E st k)[j]? = some v) (hl : Cond.fieldLink own index (TX10 j).1 (TX10 j).2.1 (TX10 j).2.2.1 ∈ uW) (hin : ∀ w ∈ u_ws RX10 TX10 63, w ∈ uW) (hdg : decode cc pc = .ok (.getfield index, 3))
    (kk : W p l e R s m args below meth c H locs cells slots Q (F0 m (pc + 3) ls (v :: rest))) : W p l e R s m args below meth c H locs cells slots Q (F0 m pc ls (.ref (eq E k) :: rest)) := by
  obtain ⟨⟨hx, hb, hml, hown, hts⟩, hK, hA, hC, hR⟩ := X
  obtain ⟨i, hi, hw⟩ := cw_at (s := st) hk
  rw [cO10 ht] at hw
  exact va_get (D := eD E) (ci := 10) (v := v) (C := RX10) (T := TX10) (N := 63) hx hb hts hin hown hK G.1 i hw rfl j hj (hts _ hl) (fun _ h9 => h9) hv hdg kk
theorem pf10 (X : CX p s m args c E own cc nL A) (G : Gd E st A s H locs) {k index : Nat} (hk : k ∈ eL E) (ht : ty k = 11) (j : Nat) (hj : j < 63) {v : Value} {st' : St} (hs : (flX10 E st k).set j v = flX10 E st' k) (ho : ∀ b, b ≠ k → cell E st' b = cell E st b) (hl : Cond.fieldLink own index (TX10 j).1 (TX10 j).2.1 (TX10 j).2.2.1 ∈ uW) (hin : ∀ w ∈ u_ws RX10 TX10 63, w ∈ uW) (hfin : (TX10 j).2.2.2 = false) {ty : FieldType} (hd : parseFieldDescriptor (TX10 j).2.2.1 = some ty) (hn : narrow ty v = v) (hfit : fits ty v = true) (hdg : decode cc pc = .ok (.putfield index, 3))
    (kk : ∀ (s2 : St), s2 = st' → ∀ (H : Heap) (locs : List Loc), Gd E s2 A s H locs → W p l e R s m args below meth c H locs cells slots Q (F0 m (pc + 3) ls rest)) : W p l e R s m args below meth c H locs cells slots Q (F0 m pc ls (v :: .ref (eq E k) :: rest)) := by
  obtain ⟨⟨hx, hb, hml, hown, hts⟩, hK, hA, hC, hR⟩ := X
  obtain ⟨i, hi, hw⟩ := cw_at (s := st) hk
  rw [cO10 ht] at hw
  refine va_put (D := eD E) (ci := 10) (v := v) (ty := ty) (C := RX10) (T := TX10) (N := 63) hx hb hts hin tyX10 tyX10_ok nmX10 hown hK G.1 G.2.1 G.2.2 i hw rfl j hj (hts _ hl) (fun _ h9 => h9) hfin hd hn hfit (show j < 63 from hj) hdg (fun H1 locs1 hP hD hS => kk st' rfl H1 locs1 ?_)
  rw [hs, cw_set G.2.1 hi ho (cO10 ht)] at hP hD
  exact ⟨hP, hD, hS⟩
theorem ia_ld (X : CX p s m args c E own cc nL A) (G : Gd E st A s H locs) {k n : Nat} (hk : k ∈ eL E) (ht : ty k = 10000 + n) (hn : n < 10000) {i : Int32} (hin : vp_in i n) (hdg : decode cc pc = .ok (.iaload, 1))
    (kk : W p l e R s m args below meth c H locs cells slots Q (F0 m (pc + 1) ls (.int (st.1 k i.toNatClampNeg) :: rest))) : W p l e R s m args below meth c H locs cells slots Q (F0 m pc ls (.int i :: .ref (eq E k) :: rest)) := by
  obtain ⟨⟨hx, hb, hml, hown, hts⟩, hK, hA, hC, hR⟩ := X
  obtain ⟨j, hi, hw⟩ := cw_at (s := st) hk
  rw [cI ht hn] at hw
  exact va_iald hx hb hK G.1 j 0 hw rfl hin hdg kk
theorem ia_st (X : CX p s m args c E own cc nL A) (G : Gd E st A s H locs) {k n : Nat} (hk : k ∈ eL E) (ht : ty k = 10000 + n) (hn : n < 10000) {i : Int32} {x : Int32} (hin : vp_in i n) (hdg : decode cc pc = .ok (.iastore, 1))
    (kk : ∀ (s2 : St), s2 = ui st k i.toNatClampNeg x → ∀ (H : Heap) (locs : List Loc), Gd E s2 A s H locs → W p l e R s m args below meth c H locs cells slots Q (F0 m (pc + 1) ls rest)) : W p l e R s m args below meth c H locs cells slots Q (F0 m pc ls (.int x :: .int i :: .ref (eq E k) :: rest)) := by
  obtain ⟨⟨hx, hb, hml, hown, hts⟩, hK, hA, hC, hR⟩ := X
  obtain ⟨j, hi, hw⟩ := cw_at (s := st) hk
  rw [cI ht hn] at hw
  refine va_iast hx hb hK G.1 G.2.1 G.2.2 j 0 hw rfl hin hdg (fun H1 locs1 hP hD hS => kk _ rfl H1 locs1 ?_)
  rw [cw_set (t := ui st k i.toNatClampNeg x) G.2.1 hi (fun b hb => cell_congr (ui_ne hb) rfl rfl) (by rw [cI ht hn, ui_eq])] at hP hD
  exact ⟨hP, hD, hS⟩
theorem ba_ld (X : CX p s m args c E own cc nL A) (G : Gd E st A s H locs) {k n : Nat} (hk : k ∈ eL E) (ht : ty k = 20000 + n) (hn : n < 10000) {i : Int32} (hin : vp_in i n) (hdg : decode cc pc = .ok (.baload, 1))
    (kk : W p l e R s m args below meth c H locs cells slots Q (F0 m (pc + 1) ls (.int (st.1 k i.toNatClampNeg) :: rest))) : W p l e R s m args below meth c H locs cells slots Q (F0 m pc ls (.int i :: .ref (eq E k) :: rest)) := by
  obtain ⟨⟨hx, hb, hml, hown, hts⟩, hK, hA, hC, hR⟩ := X
  obtain ⟨j, hi, hw⟩ := cw_at (s := st) hk
  rw [cB ht hn] at hw
  exact va_bald hx hb hK G.1 j 1 hw rfl hin hdg kk
theorem ba_st (X : CX p s m args c E own cc nL A) (G : Gd E st A s H locs) {k n : Nat} (hk : k ∈ eL E) (ht : ty k = 20000 + n) (hn : n < 10000) {i : Int32} {x : Int32} (hin : vp_in i n) (hdg : decode cc pc = .ok (.bastore, 1))
    (kk : ∀ (s2 : St), s2 = ui st k i.toNatClampNeg (vp_nar .byte x) → ∀ (H : Heap) (locs : List Loc), Gd E s2 A s H locs → W p l e R s m args below meth c H locs cells slots Q (F0 m (pc + 1) ls rest)) : W p l e R s m args below meth c H locs cells slots Q (F0 m pc ls (.int x :: .int i :: .ref (eq E k) :: rest)) := by
  obtain ⟨⟨hx, hb, hml, hown, hts⟩, hK, hA, hC, hR⟩ := X
  obtain ⟨j, hi, hw⟩ := cw_at (s := st) hk
  rw [cB ht hn] at hw
  refine va_bast hx hb hK G.1 G.2.1 G.2.2 j 1 hw rfl hin hdg (fun H1 locs1 hP hD hS => kk _ rfl H1 locs1 ?_)
  rw [cw_set (t := ui st k i.toNatClampNeg (vp_nar .byte x)) G.2.1 hi (fun b hb => cell_congr (ui_ne hb) rfl rfl) (by rw [cB ht hn, ui_eq])] at hP hD
  exact ⟨hP, hD, hS⟩
theorem za_ld (X : CX p s m args c E own cc nL A) (G : Gd E st A s H locs) {k n : Nat} (hk : k ∈ eL E) (ht : ty k = 30000 + n) (hn : n < 10000) {i : Int32} (hin : vp_in i n) (hdg : decode cc pc = .ok (.baload, 1))
    (kk : W p l e R s m args below meth c H locs cells slots Q (F0 m (pc + 1) ls (.int (st.1 k i.toNatClampNeg) :: rest))) : W p l e R s m args below meth c H locs cells slots Q (F0 m pc ls (.int i :: .ref (eq E k) :: rest)) := by
  obtain ⟨⟨hx, hb, hml, hown, hts⟩, hK, hA, hC, hR⟩ := X
  obtain ⟨j, hi, hw⟩ := cw_at (s := st) hk
  rw [cZ ht hn] at hw
  exact va_zald hx hb hK G.1 j 3 hw rfl hin hdg kk
theorem za_st (X : CX p s m args c E own cc nL A) (G : Gd E st A s H locs) {k n : Nat} (hk : k ∈ eL E) (ht : ty k = 30000 + n) (hn : n < 10000) {i : Int32} {x : Int32} (hin : vp_in i n) (hdg : decode cc pc = .ok (.bastore, 1))
    (kk : ∀ (s2 : St), s2 = ui st k i.toNatClampNeg (vp_nar .boolean x) → ∀ (H : Heap) (locs : List Loc), Gd E s2 A s H locs → W p l e R s m args below meth c H locs cells slots Q (F0 m (pc + 1) ls rest)) : W p l e R s m args below meth c H locs cells slots Q (F0 m pc ls (.int x :: .int i :: .ref (eq E k) :: rest)) := by
  obtain ⟨⟨hx, hb, hml, hown, hts⟩, hK, hA, hC, hR⟩ := X
  obtain ⟨j, hi, hw⟩ := cw_at (s := st) hk
  rw [cZ ht hn] at hw
  refine va_zast hx hb hK G.1 G.2.1 G.2.2 j 3 hw rfl hin hdg (fun H1 locs1 hP hD hS => kk _ rfl H1 locs1 ?_)
  rw [cw_set (t := ui st k i.toNatClampNeg (vp_nar .boolean x)) G.2.1 hi (fun b hb => cell_congr (ui_ne hb) rfl rfl) (by rw [cZ ht hn, ui_eq])] at hP hD
  exact ⟨hP, hD, hS⟩
theorem la_ld (X : CX p s m args c E own cc nL A) (G : Gd E st A s H locs) {k n : Nat} (hk : k ∈ eL E) (ht : ty k = 40000 + n) (hn : n < 10000) {i : Int32} (hin : vp_in i n) (hdg : decode cc pc = .ok (.laload, 1))
    (kk : W p l e R s m args below meth c H locs cells slots Q (F0 m (pc + 1) ls (.long (st.2.1 k i.toNatClampNeg) :: rest))) : W p l e R s m args below meth c H locs cells slots Q (F0 m pc ls (.int i :: .ref (eq E k) :: rest)) := by
  obtain ⟨⟨hx, hb, hml, hown, hts⟩, hK, hA, hC, hR⟩ := X
  obtain ⟨j, hi, hw⟩ := cw_at (s := st) hk
  rw [cJ ht hn] at hw
  exact va_lald hx hb hK G.1 j 2 hw rfl hin hdg kk
theorem la_st (X : CX p s m args c E own cc nL A) (G : Gd E st A s H locs) {k n : Nat} (hk : k ∈ eL E) (ht : ty k = 40000 + n) (hn : n < 10000) {i : Int32} {x : Int64} (hin : vp_in i n) (hdg : decode cc pc = .ok (.lastore, 1))
    (kk : ∀ (s2 : St), s2 = ul st k i.toNatClampNeg x → ∀ (H : Heap) (locs : List Loc), Gd E s2 A s H locs → W p l e R s m args below meth c H locs cells slots Q (F0 m (pc + 1) ls rest)) : W p l e R s m args below meth c H locs cells slots Q (F0 m pc ls (.long x :: .int i :: .ref (eq E k) :: rest)) := by
  obtain ⟨⟨hx, hb, hml, hown, hts⟩, hK, hA, hC, hR⟩ := X
  obtain ⟨j, hi, hw⟩ := cw_at (s := st) hk
  rw [cJ ht hn] at hw
  refine va_last hx hb hK G.1 G.2.1 G.2.2 j 2 hw rfl hin hdg (fun H1 locs1 hP hD hS => kk _ rfl H1 locs1 ?_)
  rw [cw_set (t := ul st k i.toNatClampNeg x) G.2.1 hi (fun b hb => cell_congr rfl (ul_ne hb) rfl) (by rw [cJ ht hn, ul_eq])] at hP hD
  exact ⟨hP, hD, hS⟩
theorem ia_ldc (X : CX p s m args c E own cc nL A) (G : Gd E st A s H locs) {k n : Nat} (hk : k ∈ eL E) (ht : ty k = 10000 + n) (hn : n < 10000) {i : Int32} (j : Nat) (hj : (decide (¬ (i < 0 ∨ n ≤ i.toNatClampNeg)) && Nat.beq i.toNatClampNeg j) = true) (hdg : decode cc pc = .ok (.iaload, 1))
    (kk : W p l e R s m args below meth c H locs cells slots Q (F0 m (pc + 1) ls (.int (st.1 k j) :: rest))) : W p l e R s m args below meth c H locs cells slots Q (F0 m pc ls (.int i :: .ref (eq E k) :: rest)) := by
  obtain ⟨h1, h2⟩ := (Bool.and_eq_true _ _).mp hj
  have h3 : i.toNatClampNeg = j := Nat.eq_of_beq_eq_true h2
  subst h3
  exact ia_ld X G hk ht hn (of_decide_eq_true h1 : ¬ (i < 0 ∨ n ≤ i.toNatClampNeg)) hdg kk
theorem ia_stc (X : CX p s m args c E own cc nL A) (G : Gd E st A s H locs) {k n : Nat} (hk : k ∈ eL E) (ht : ty k = 10000 + n) (hn : n < 10000) {i : Int32} {x : Int32} (j : Nat) (hj : (decide (¬ (i < 0 ∨ n ≤ i.toNatClampNeg)) && Nat.beq i.toNatClampNeg j) = true) (hdg : decode cc pc = .ok (.iastore, 1))
    (kk : ∀ (s2 : St), s2 = ui st k j x → ∀ (H : Heap) (locs : List Loc), Gd E s2 A s H locs → W p l e R s m args below meth c H locs cells slots Q (F0 m (pc + 1) ls rest)) : W p l e R s m args below meth c H locs cells slots Q (F0 m pc ls (.int x :: .int i :: .ref (eq E k) :: rest)) := by
  obtain ⟨h1, h2⟩ := (Bool.and_eq_true _ _).mp hj
  have h3 : i.toNatClampNeg = j := Nat.eq_of_beq_eq_true h2
  subst h3
  exact ia_st X G hk ht hn (of_decide_eq_true h1 : ¬ (i < 0 ∨ n ≤ i.toNatClampNeg)) hdg kk
theorem ba_ldc (X : CX p s m args c E own cc nL A) (G : Gd E st A s H locs) {k n : Nat} (hk : k ∈ eL E) (ht : ty k = 20000 + n) (hn : n < 10000) {i : Int32} (j : Nat) (hj : (decide (¬ (i < 0 ∨ n ≤ i.toNatClampNeg)) && Nat.beq i.toNatClampNeg j) = true) (hdg : decode cc pc = .ok (.baload, 1))
    (kk : W p l e R s m args below meth c H locs cells slots Q (F0 m (pc + 1) ls (.int (st.1 k j) :: rest))) : W p l e R s m args below meth c H locs cells slots Q (F0 m pc ls (.int i :: .ref (eq E k) :: rest)) := by
  obtain ⟨h1, h2⟩ := (Bool.and_eq_true _ _).mp hj
  have h3 : i.toNatClampNeg = j := Nat.eq_of_beq_eq_true h2
  subst h3
  exact ba_ld X G hk ht hn (of_decide_eq_true h1 : ¬ (i < 0 ∨ n ≤ i.toNatClampNeg)) hdg kk
theorem ba_stc (X : CX p s m args c E own cc nL A) (G : Gd E st A s H locs) {k n : Nat} (hk : k ∈ eL E) (ht : ty k = 20000 + n) (hn : n < 10000) {i : Int32} {x : Int32} (j : Nat) (hj : (decide (¬ (i < 0 ∨ n ≤ i.toNatClampNeg)) && Nat.beq i.toNatClampNeg j) = true) (hdg : decode cc pc = .ok (.bastore, 1))
    (kk : ∀ (s2 : St), s2 = ui st k j (vp_nar .byte x) → ∀ (H : Heap) (locs : List Loc), Gd E s2 A s H locs → W p l e R s m args below meth c H locs cells slots Q (F0 m (pc + 1) ls rest)) : W p l e R s m args below meth c H locs cells slots Q (F0 m pc ls (.int x :: .int i :: .ref (eq E k) :: rest)) := by
  obtain ⟨h1, h2⟩ := (Bool.and_eq_true _ _).mp hj
  have h3 : i.toNatClampNeg = j := Nat.eq_of_beq_eq_true h2
  subst h3
  exact ba_st X G hk ht hn (of_decide_eq_true h1 : ¬ (i < 0 ∨ n ≤ i.toNatClampNeg)) hdg kk
theorem za_ldc (X : CX p s m args c E own cc nL A) (G : Gd E st A s H locs) {k n : Nat} (hk : k ∈ eL E) (ht : ty k = 30000 + n) (hn : n < 10000) {i : Int32} (j : Nat) (hj : (decide (¬ (i < 0 ∨ n ≤ i.toNatClampNeg)) && Nat.beq i.toNatClampNeg j) = true) (hdg : decode cc pc = .ok (.baload, 1))
    (kk : W p l e R s m args below meth c H locs cells slots Q (F0 m (pc + 1) ls (.int (st.1 k j) :: rest))) : W p l e R s m args below meth c H locs cells slots Q (F0 m pc ls (.int i :: .ref (eq E k) :: rest)) := by
  obtain ⟨h1, h2⟩ := (Bool.and_eq_true _ _).mp hj
  have h3 : i.toNatClampNeg = j := Nat.eq_of_beq_eq_true h2
  subst h3
  exact za_ld X G hk ht hn (of_decide_eq_true h1 : ¬ (i < 0 ∨ n ≤ i.toNatClampNeg)) hdg kk
theorem za_stc (X : CX p s m args c E own cc nL A) (G : Gd E st A s H locs) {k n : Nat} (hk : k ∈ eL E) (ht : ty k = 30000 + n) (hn : n < 10000) {i : Int32} {x : Int32} (j : Nat) (hj : (decide (¬ (i < 0 ∨ n ≤ i.toNatClampNeg)) && Nat.beq i.toNatClampNeg j) = true) (hdg : decode cc pc = .ok (.bastore, 1))
    (kk : ∀ (s2 : St), s2 = ui st k j (vp_nar .boolean x) → ∀ (H : Heap) (locs : List Loc), Gd E s2 A s H locs → W p l e R s m args below meth c H locs cells slots Q (F0 m (pc + 1) ls rest)) : W p l e R s m args below meth c H locs cells slots Q (F0 m pc ls (.int x :: .int i :: .ref (eq E k) :: rest)) := by
  obtain ⟨h1, h2⟩ := (Bool.and_eq_true _ _).mp hj
  have h3 : i.toNatClampNeg = j := Nat.eq_of_beq_eq_true h2
  subst h3
  exact za_st X G hk ht hn (of_decide_eq_true h1 : ¬ (i < 0 ∨ n ≤ i.toNatClampNeg)) hdg kk
theorem la_ldc (X : CX p s m args c E own cc nL A) (G : Gd E st A s H locs) {k n : Nat} (hk : k ∈ eL E) (ht : ty k = 40000 + n) (hn : n < 10000) {i : Int32} (j : Nat) (hj : (decide (¬ (i < 0 ∨ n ≤ i.toNatClampNeg)) && Nat.beq i.toNatClampNeg j) = true) (hdg : decode cc pc = .ok (.laload, 1))
    (kk : W p l e R s m args below meth c H locs cells slots Q (F0 m (pc + 1) ls (.long (st.2.1 k j) :: rest))) : W p l e R s m args below meth c H locs cells slots Q (F0 m pc ls (.int i :: .ref (eq E k) :: rest)) := by
  obtain ⟨h1, h2⟩ := (Bool.and_eq_true _ _).mp hj
  have h3 : i.toNatClampNeg = j := Nat.eq_of_beq_eq_true h2
  subst h3
  exact la_ld X G hk ht hn (of_decide_eq_true h1 : ¬ (i < 0 ∨ n ≤ i.toNatClampNeg)) hdg kk
theorem la_stc (X : CX p s m args c E own cc nL A) (G : Gd E st A s H locs) {k n : Nat} (hk : k ∈ eL E) (ht : ty k = 40000 + n) (hn : n < 10000) {i : Int32} {x : Int64} (j : Nat) (hj : (decide (¬ (i < 0 ∨ n ≤ i.toNatClampNeg)) && Nat.beq i.toNatClampNeg j) = true) (hdg : decode cc pc = .ok (.lastore, 1))
    (kk : ∀ (s2 : St), s2 = ul st k j x → ∀ (H : Heap) (locs : List Loc), Gd E s2 A s H locs → W p l e R s m args below meth c H locs cells slots Q (F0 m (pc + 1) ls rest)) : W p l e R s m args below meth c H locs cells slots Q (F0 m pc ls (.long x :: .int i :: .ref (eq E k) :: rest)) := by
  obtain ⟨h1, h2⟩ := (Bool.and_eq_true _ _).mp hj
  have h3 : i.toNatClampNeg = j := Nat.eq_of_beq_eq_true h2
  subst h3
  exact la_st X G hk ht hn (of_decide_eq_true h1 : ¬ (i < 0 ∨ n ≤ i.toNatClampNeg)) hdg kk
theorem ia_len (X : CX p s m args c E own cc nL A) (G : Gd E st A s H locs) {k n : Nat} (hk : k ∈ eL E) (ht : ty k = 10000 + n) (hn : n < 10000) {v : Int32} (hv : Int32.ofNat n = v) (hdg : decode cc pc = .ok (.arraylength, 1))
    (kk : W p l e R s m args below meth c H locs cells slots Q (F0 m (pc + 1) ls (.int v :: rest))) : W p l e R s m args below meth c H locs cells slots Q (F0 m pc ls (.ref (eq E k) :: rest)) := by
  obtain ⟨⟨hx, hb, hml, hown, hts⟩, hK, hA, hC, hR⟩ := X
  obtain ⟨j, hi, hw⟩ := cw_at (s := st) hk
  rw [cI ht hn] at hw
  exact va_alen hx hb hK G.1 j 0 hw rfl hv hdg kk
theorem a_copy (X : CX p s m args c E own cc nL A) (G : Gd E st A s H locs) (hsz : ls.size = nL) {k0 k1 n0 n1 index : Nat} (hk0 : k0 ∈ eL E) (hk1 : k1 ∈ eL E) (ht0 : ty k0 = 10000 + n0) (hn0 : n0 < 10000) (ht1 : ty k1 = 10000 + n1) (hn1 : n1 < 10000)
    (hl1 : Cond.methodLink own index arraycopyName ∈ uW) (hl2 : Cond.native arraycopyName ∈ uW) (hl3 : Cond.static arraycopyName ∈ uW) (hl4 : Cond.initialized "java/lang/System" ∈ uW) {sp dp n : Int32} (h1 : ¬ sp < 0) (h2 : ¬ dp < 0) (h3 : ¬ n < 0) (h4 : sp.toNatClampNeg + n.toNatClampNeg ≤ n0) (h5 : dp.toNatClampNeg + n.toNatClampNeg ≤ n1)
    (hframes : 1 ≤ R.frames) (hlocals : (rest.map fun v => v.category).sum + (nativeFrameWords "java/lang/System" "arraycopy" 5 + 11) ≤ R.locals) (hdg : decode cc pc = .ok (.invokestatic index, 3))
    (kk : ∀ (s2 : St), s2 = ur st k1 (va_cpy (st.1 k0) (st.1 k1) sp.toNatClampNeg dp.toNatClampNeg n.toNatClampNeg) → ∀ (H : Heap) (locs : List Loc), Gd E s2 A s H locs → W p l e R s m args below meth c H locs cells slots Q (F0 m (pc + 3) ls rest)) : W p l e R s m args below meth c H locs cells slots Q (F0 m pc ls (.int n :: .int dp :: .ref (eq E k1) :: .int sp :: .ref (eq E k0) :: rest)) := by
  obtain ⟨⟨hx, hb, hml, hown, hts⟩, hK, hA, hC, hR⟩ := X
  obtain ⟨j0, hi0, hw0⟩ := cw_at (s := st) hk0
  rw [cI ht0 hn0] at hw0
  obtain ⟨j1, hi1, hw1⟩ := cw_at (s := st) hk1
  rw [cI ht1 hn1] at hw1
  refine va_copyi hx hb (by rw [hml, hsz]) hown (hts _ hl1) (hts _ hl2) (hts _ hl3) (hts _ hl4) hK G.1 G.2.1 G.2.2 j0 j1 0 0 hw0 hw1 rfl rfl rfl h1 h2 h3 h4 h5 (fun _ _ => rfl) hframes hlocals hdg (fun H1 locs1 hP hD hS => kk _ rfl H1 locs1 ?_)
  rw [cw_set (t := ur st k1 (va_cpy (st.1 k0) (st.1 k1) sp.toNatClampNeg dp.toNatClampNeg n.toNatClampNeg)) G.2.1 hi1 (fun b hb => cell_congr (ur_ne hb) rfl rfl) (by rw [cI ht1 hn1, ur_eq])] at hP hD
  exact ⟨hP, hD, hS⟩
theorem a_copyc (X : CX p s m args c E own cc nL A) (G : Gd E st A s H locs) (hsz : ls.size = nL) {k0 k1 n0 n1 index : Nat} (hk0 : k0 ∈ eL E) (hk1 : k1 ∈ eL E) (ht0 : ty k0 = 10000 + n0) (hn0 : n0 < 10000) (ht1 : ty k1 = 10000 + n1) (hn1 : n1 < 10000)
    (hl1 : Cond.methodLink own index arraycopyName ∈ uW) (hl2 : Cond.native arraycopyName ∈ uW) (hl3 : Cond.static arraycopyName ∈ uW) (hl4 : Cond.initialized "java/lang/System" ∈ uW) {sp dp n : Int32} (a b d : Nat) (h1 : decide (¬ sp < 0 ∧ ¬ dp < 0 ∧ ¬ n < 0 ∧ sp.toNatClampNeg + n.toNatClampNeg ≤ n0 ∧ dp.toNatClampNeg + n.toNatClampNeg ≤ n1 ∧ sp.toNatClampNeg = a ∧ dp.toNatClampNeg = b ∧ n.toNatClampNeg = d) = true)
    (hframes : 1 ≤ R.frames) (hlocals : (rest.map fun v => v.category).sum + (nativeFrameWords "java/lang/System" "arraycopy" 5 + 11) ≤ R.locals) (hdg : decode cc pc = .ok (.invokestatic index, 3))
    (kk : ∀ (s2 : St), s2 = ur st k1 (va_cpy (st.1 k0) (st.1 k1) a b d) → ∀ (H : Heap) (locs : List Loc), Gd E s2 A s H locs → W p l e R s m args below meth c H locs cells slots Q (F0 m (pc + 3) ls rest)) : W p l e R s m args below meth c H locs cells slots Q (F0 m pc ls (.int n :: .int dp :: .ref (eq E k1) :: .int sp :: .ref (eq E k0) :: rest)) := by
  obtain ⟨a1, a2, a3, a4, a5, rfl, rfl, rfl⟩ := of_decide_eq_true h1
  exact a_copy X G hsz hk0 hk1 ht0 hn0 ht1 hn1 hl1 hl2 hl3 hl4 a1 a2 a3 a4 a5 hframes hlocals hdg kk
theorem pg_ld (X : CX p s m args c E own cc nL A) (G : Gd E st A s H locs) {k n : Nat} (hk : k ∈ eL E) (ht : ty k = 50000 + n) (hn : n < 10000) {i : Int32} (hin : vp_in i n) (hdg : decode cc pc = .ok (.aaload, 1))
    (kk : W p l e R s m args below meth c H locs cells slots Q (F0 m (pc + 1) ls (va_rf ((st.2.2 k i.toNatClampNeg).map E.2.2.2.1) :: rest))) : W p l e R s m args below meth c H locs cells slots Q (F0 m pc ls (.int i :: .ref (eq E k) :: rest)) := by
  obtain ⟨⟨hx, hb, hml, hown, hts⟩, hK, hA, hC, hR⟩ := X
  obtain ⟨j, hi, hw⟩ := cw_at (s := st) hk
  rw [cPg ht hn] at hw
  exact va_aldq (C := "FireTax$Page") hx hb hK G.1 j 4 hw rfl hin hdg kk
theorem rl_ld (X : CX p s m args c E own cc nL A) (G : Gd E st A s H locs) {k n : Nat} (hk : k ∈ eL E) (ht : ty k = 60000 + n) (hn : n < 10000) {i : Int32} (hin : vp_in i n) (hdg : decode cc pc = .ok (.aaload, 1))
    (kk : W p l e R s m args below meth c H locs cells slots Q (F0 m (pc + 1) ls (va_rf ((st.2.2 k i.toNatClampNeg).map E.2.2.2.1) :: rest))) : W p l e R s m args below meth c H locs cells slots Q (F0 m pc ls (.int i :: .ref (eq E k) :: rest)) := by
  obtain ⟨⟨hx, hb, hml, hown, hts⟩, hK, hA, hC, hR⟩ := X
  obtain ⟨j, hi, hw⟩ := cw_at (s := st) hk
  rw [cRl ht hn] at hw
  exact va_aldq (C := "FireTax$Rule") hx hb hK G.1 j 5 hw rfl hin hdg kk
theorem ii_ld (X : CX p s m args c E own cc nL A) (G : Gd E st A s H locs) {k n : Nat} (hk : k ∈ eL E) (ht : ty k = 70000 + n) (hn : n < 10000) {i : Int32} (hin : vp_in i n) (hdg : decode cc pc = .ok (.aaload, 1))
    (kk : W p l e R s m args below meth c H locs cells slots Q (F0 m (pc + 1) ls (.ref (eq E (k + 9 + i.toNatClampNeg)) :: rest))) : W p l e R s m args below meth c H locs cells slots Q (F0 m pc ls (.int i :: .ref (eq E k) :: rest)) := by
  obtain ⟨⟨hx, hb, hml, hown, hts⟩, hK, hA, hC, hR⟩ := X
  obtain ⟨j, hi, hw⟩ := cw_at (s := st) hk
  rw [cII ht hn] at hw
  have hlt : i.toNatClampNeg < n := Nat.not_le.mp fun q => hin (Or.inr q)
  exact W.aald (v := .ref (eq E (k + 9 + i.toNatClampNeg))) (ty := .array .int) hx hb (G.1 j _ hw) ((hK.2 6 _ rfl).1 n (fun j => va_rf (some (E.2.2.2.1 (k + 9 + j))))) rfl (fun q => by cases q) (by show ¬ (i < 0 ∨ (arrV _ _ _).slots.size ≤ _); rw [arrV_size]; exact hin) (by show (arrV _ _ _).slots[_]? = _; rw [arrV_read _ _ hlt]; rfl) rfl rfl hdg kk
theorem lv_aload_q (hexec : p.tables.exec = Jvm.exec) (hb : c.code = cc) {k : Fin 4} {i : Nat} {r : Option Nat} (hdg : decode cc pc = .ok (.aload_n k, 1)) (hi : (k : Nat) = i) (hl : ls[i]? = some (.val (va_rf r)))
    (kk : W p l e R s m args below meth c H locs cells slots Q (F0 m (pc + 1) ls (va_rf r :: rest))) : W p l e R s m args below meth c H locs cells slots Q (F0 m pc ls rest) := by
  cases r with
  | none => exact lv_aload_nN hexec hb hdg hi hl kk
  | some x => exact lv_aload_n hexec hb hdg hi hl kk
theorem lv_ifnn (hexec : p.tables.exec = Jvm.exec) (hb : c.code = cc) {r : Option Nat} {f : Nat → Nat} {off : Int} {tgt : Nat} (hdg : decode cc pc = .ok (.ifnonnull off, 3)) (ht : (pc : Int) + off = (tgt : Int))
    (kf : r = none → W p l e R s m args below meth c H locs cells slots Q (F0 m (pc + 3) ls rest)) (kt : ¬ r = none → W p l e R s m args below meth c H locs cells slots Q (F0 m tgt ls rest)) : W p l e R s m args below meth c H locs cells slots Q (F0 m pc ls (va_rf (r.map f) :: rest)) := by
  cases r with
  | none => exact lv_ifnonnullN hexec hb hdg (kf rfl)
  | some x => exact lv_ifnonnull hexec hb hdg ht (kt (by simp))
theorem lk2 (hexec : p.tables.exec = Jvm.exec) (hb : c.code = cc) {dflt o0 o1 : Int} {t0 t1 td : Nat} {len : Nat} {x : Int32} (hdg : decode cc pc = .ok (.lookupswitch dflt #[(0, o0), (1, o1)], len)) (h0 : (pc : Int) + o0 = (t0 : Int)) (h1 : (pc : Int) + o1 = (t1 : Int)) (hd : (pc : Int) + dflt = (td : Int))
    (k0 : x = 0 → W p l e R s m args below meth c H locs cells slots Q (F0 m t0 ls rest)) (k1 : ¬ x = 0 → x = 1 → W p l e R s m args below meth c H locs cells slots Q (F0 m t1 ls rest)) (kd : ¬ x = 0 → ¬ x = 1 → W p l e R s m args below meth c H locs cells slots Q (F0 m td ls rest)) : W p l e R s m args below meth c H locs cells slots Q (F0 m pc ls (.int x :: rest)) := by
  by_cases c0 : x = 0
  · refine lv_lookup (off := o0) hexec hb hdg (by simp) ?_ h0 (k0 c0)
    rw [c0]
    rfl
  · by_cases c1 : x = 1
    · refine lv_lookup (off := o1) hexec hb hdg (by simp) ?_ h1 (k1 c0 c1)
      rw [c1]
      rfl
    · refine lv_lookup (off := dflt) hexec hb hdg (by simp) ?_ hd (kd c0 c1)
      have e0 : x.toInt ≠ 0 := fun h => c0 (Int32.toInt_inj.mp h)
      have e1 : x.toInt ≠ 1 := fun h => c1 (Int32.toInt_inj.mp h)
      simp [Op.lookupswitch.offset, e0, e1, Ne.symm e0, Ne.symm e1]
end RW
theorem ps0_2 {E : Ev} {s : St} {k : Nat} {v : Int32} : (flX0 E s k).set 2 (.int v) = flX0 E (ui s k 2 v) k := by simp [flX0, ui, va_up, upd]
theorem ps1_0 {E : Ev} {s : St} {k : Nat} {v : Int32} : (flX1 E s k).set 0 (.int v) = flX1 E (ui s k 0 v) k := by simp [flX1, ui, va_up, upd]
theorem ps1_1 {E : Ev} {s : St} {k : Nat} {v : Int32} : (flX1 E s k).set 1 (.int v) = flX1 E (ui s k 1 v) k := by simp [flX1, ui, va_up, upd]
theorem ps1_2 {E : Ev} {s : St} {k : Nat} {v : Int32} : (flX1 E s k).set 2 (.int v) = flX1 E (ui s k 2 v) k := by simp [flX1, ui, va_up, upd]
theorem ps1_3 {E : Ev} {s : St} {k : Nat} {v : Int32} : (flX1 E s k).set 3 (.int v) = flX1 E (ui s k 3 v) k := by simp [flX1, ui, va_up, upd]
theorem ps1_4 {E : Ev} {s : St} {k : Nat} {v : Int32} : (flX1 E s k).set 4 (.int v) = flX1 E (ui s k 4 v) k := by simp [flX1, ui, va_up, upd]
theorem ps1_5 {E : Ev} {s : St} {k : Nat} {v : Int32} : (flX1 E s k).set 5 (.int v) = flX1 E (ui s k 5 v) k := by simp [flX1, ui, va_up, upd]
theorem ps1_6 {E : Ev} {s : St} {k : Nat} {v : Int32} : (flX1 E s k).set 6 (.int v) = flX1 E (ui s k 6 v) k := by simp [flX1, ui, va_up, upd]
theorem ps1_7 {E : Ev} {s : St} {k : Nat} {v : Int32} : (flX1 E s k).set 7 (.int v) = flX1 E (ui s k 7 v) k := by simp [flX1, ui, va_up, upd]
theorem ps2_3 {E : Ev} {s : St} {k : Nat} {v : Int32} : (flX2 E s k).set 3 (.int v) = flX2 E (ui s k 3 v) k := by simp [flX2, ui, va_up, upd]
theorem ps2_7 {E : Ev} {s : St} {k : Nat} {v : Int32} : (flX2 E s k).set 7 (.int v) = flX2 E (ui s k 7 v) k := by simp [flX2, ui, va_up, upd]
theorem ps2_8 {E : Ev} {s : St} {k : Nat} {v : Int32} : (flX2 E s k).set 8 (.int v) = flX2 E (ui s k 8 v) k := by simp [flX2, ui, va_up, upd]
theorem ps2_9 {E : Ev} {s : St} {k : Nat} {v : Int32} : (flX2 E s k).set 9 (.int v) = flX2 E (ui s k 9 v) k := by simp [flX2, ui, va_up, upd]
theorem ps3_5 {E : Ev} {s : St} {k : Nat} {v : Int32} : (flX3 E s k).set 5 (.int v) = flX3 E (ui s k 5 v) k := by simp [flX3, ui, va_up, upd]
theorem ps3_6 {E : Ev} {s : St} {k : Nat} {v : Int32} : (flX3 E s k).set 6 (.int v) = flX3 E (ui s k 6 v) k := by simp [flX3, ui, va_up, upd]
theorem ps3_8 {E : Ev} {s : St} {k : Nat} {v : Int32} : (flX3 E s k).set 8 (.int v) = flX3 E (ui s k 8 v) k := by simp [flX3, ui, va_up, upd]
theorem ps3_9 {E : Ev} {s : St} {k : Nat} {v : Int32} : (flX3 E s k).set 9 (.int v) = flX3 E (ui s k 9 v) k := by simp [flX3, ui, va_up, upd]
theorem ps3_10 {E : Ev} {s : St} {k : Nat} {v : Int32} : (flX3 E s k).set 10 (.int v) = flX3 E (ui s k 10 v) k := by simp [flX3, ui, va_up, upd]
theorem ps4_1 {E : Ev} {s : St} {k : Nat} {v : Int32} : (flX4 E s k).set 1 (.int v) = flX4 E (ui s k 1 v) k := by simp [flX4, ui, va_up, upd]
theorem ps4_5 {E : Ev} {s : St} {k : Nat} {v : Int32} : (flX4 E s k).set 5 (.int v) = flX4 E (ui s k 5 v) k := by simp [flX4, ui, va_up, upd]
theorem pq5_1 {E : Ev} {s : St} {k : Nat} {v : Option Nat} : (flX5 E s k).set 1 (va_rf (v.map E.2.2.2.1)) = flX5 E (uq s k 1 v) k := by simp [flX5, uq, va_up]
theorem ps5_2 {E : Ev} {s : St} {k : Nat} {v : Int32} : (flX5 E s k).set 2 (.int v) = flX5 E (ui s k 2 v) k := by simp [flX5, ui, va_up, upd]
theorem ps5_3 {E : Ev} {s : St} {k : Nat} {v : Int32} : (flX5 E s k).set 3 (.int v) = flX5 E (ui s k 3 v) k := by simp [flX5, ui, va_up, upd]
theorem ps6_4 {E : Ev} {s : St} {k : Nat} {v : Int32} : (flX6 E s k).set 4 (.int v) = flX6 E (ui s k 4 v) k := by simp [flX6, ui, va_up, upd]
theorem ps7_3 {E : Ev} {s : St} {k : Nat} {v : Int32} : (flX7 E s k).set 3 (.int v) = flX7 E (ui s k 3 v) k := by simp [flX7, ui, va_up, upd]
theorem ps7_4 {E : Ev} {s : St} {k : Nat} {v : Int32} : (flX7 E s k).set 4 (.int v) = flX7 E (ui s k 4 v) k := by simp [flX7, ui, va_up, upd]
theorem ps7_5 {E : Ev} {s : St} {k : Nat} {v : Int32} : (flX7 E s k).set 5 (.int v) = flX7 E (ui s k 5 v) k := by simp [flX7, ui, va_up, upd]
theorem ps7_6 {E : Ev} {s : St} {k : Nat} {v : Int32} : (flX7 E s k).set 6 (.int v) = flX7 E (ui s k 6 v) k := by simp [flX7, ui, va_up, upd]
theorem ps7_7 {E : Ev} {s : St} {k : Nat} {v : Int32} : (flX7 E s k).set 7 (.int v) = flX7 E (ui s k 7 v) k := by simp [flX7, ui, va_up, upd]
theorem pq8_2 {E : Ev} {s : St} {k : Nat} {v : Option Nat} : (flX8 E s k).set 2 (va_rf (v.map E.2.2.2.1)) = flX8 E (uq s k 2 v) k := by simp [flX8, uq, va_up]
theorem ps8_3 {E : Ev} {s : St} {k : Nat} {v : Int32} : (flX8 E s k).set 3 (.int v) = flX8 E (ui s k 3 v) k := by simp [flX8, ui, va_up, upd]
theorem ps9_1 {E : Ev} {s : St} {k : Nat} {v : Int32} : (flX9 E s k).set 1 (.int v) = flX9 E (ui s k 1 v) k := by simp [flX9, ui, va_up, upd]
theorem ps9_6 {E : Ev} {s : St} {k : Nat} {v : Int32} : (flX9 E s k).set 6 (.int v) = flX9 E (ui s k 6 v) k := by simp [flX9, ui, va_up, upd]
theorem ps10_0 {E : Ev} {s : St} {k : Nat} {v : Int32} : (flX10 E s k).set 0 (.int v) = flX10 E (ui s k 0 v) k := by simp [flX10, ui, va_up, upd]
theorem ps10_28 {E : Ev} {s : St} {k : Nat} {v : Int32} : (flX10 E s k).set 28 (.int v) = flX10 E (ui s k 28 v) k := by simp [flX10, ui, va_up, upd]
theorem ps10_29 {E : Ev} {s : St} {k : Nat} {v : Int32} : (flX10 E s k).set 29 (.int v) = flX10 E (ui s k 29 v) k := by simp [flX10, ui, va_up, upd]
theorem ps10_30 {E : Ev} {s : St} {k : Nat} {v : Int32} : (flX10 E s k).set 30 (.int v) = flX10 E (ui s k 30 v) k := by simp [flX10, ui, va_up, upd]
theorem ps10_31 {E : Ev} {s : St} {k : Nat} {v : Int32} : (flX10 E s k).set 31 (.int v) = flX10 E (ui s k 31 v) k := by simp [flX10, ui, va_up, upd]
theorem ps10_32 {E : Ev} {s : St} {k : Nat} {v : Int32} : (flX10 E s k).set 32 (.int v) = flX10 E (ui s k 32 v) k := by simp [flX10, ui, va_up, upd]
theorem ps10_33 {E : Ev} {s : St} {k : Nat} {v : Int32} : (flX10 E s k).set 33 (.int v) = flX10 E (ui s k 33 v) k := by simp [flX10, ui, va_up, upd]
theorem ps10_34 {E : Ev} {s : St} {k : Nat} {v : Int32} : (flX10 E s k).set 34 (.int v) = flX10 E (ui s k 34 v) k := by simp [flX10, ui, va_up, upd]
theorem ps10_35 {E : Ev} {s : St} {k : Nat} {v : Int32} : (flX10 E s k).set 35 (.int v) = flX10 E (ui s k 35 v) k := by simp [flX10, ui, va_up, upd]
theorem ps10_36 {E : Ev} {s : St} {k : Nat} {v : Int32} : (flX10 E s k).set 36 (.int v) = flX10 E (ui s k 36 v) k := by simp [flX10, ui, va_up, upd]
theorem ps10_37 {E : Ev} {s : St} {k : Nat} {v : Int32} : (flX10 E s k).set 37 (.int v) = flX10 E (ui s k 37 v) k := by simp [flX10, ui, va_up, upd]
theorem ps10_38 {E : Ev} {s : St} {k : Nat} {v : Int32} : (flX10 E s k).set 38 (.int v) = flX10 E (ui s k 38 v) k := by simp [flX10, ui, va_up, upd]
theorem ps10_49 {E : Ev} {s : St} {k : Nat} {v : Int32} : (flX10 E s k).set 49 (.int v) = flX10 E (ui s k 49 v) k := by simp [flX10, ui, va_up, upd]
theorem ps10_52 {E : Ev} {s : St} {k : Nat} {v : Int32} : (flX10 E s k).set 52 (.int v) = flX10 E (ui s k 52 v) k := by simp [flX10, ui, va_up, upd]
theorem ps10_53 {E : Ev} {s : St} {k : Nat} {v : Int32} : (flX10 E s k).set 53 (.int v) = flX10 E (ui s k 53 v) k := by simp [flX10, ui, va_up, upd]
theorem ps10_54 {E : Ev} {s : St} {k : Nat} {v : Int32} : (flX10 E s k).set 54 (.int v) = flX10 E (ui s k 54 v) k := by simp [flX10, ui, va_up, upd]
theorem ps10_55 {E : Ev} {s : St} {k : Nat} {v : Int32} : (flX10 E s k).set 55 (.int v) = flX10 E (ui s k 55 v) k := by simp [flX10, ui, va_up, upd]
theorem ps10_61 {E : Ev} {s : St} {k : Nat} {v : Int32} : (flX10 E s k).set 61 (.int v) = flX10 E (ui s k 61 v) k := by simp [flX10, ui, va_up, upd]
theorem ps10_62 {E : Ev} {s : St} {k : Nat} {v : Int32} : (flX10 E s k).set 62 (.int v) = flX10 E (ui s k 62 v) k := by simp [flX10, ui, va_up, upd]
theorem uio {E : Ev} {s : St} {k i : Nat} {v : Int32} : ∀ b, b ≠ k → cell E (ui s k i v) b = cell E s b := fun _ hb => cell_congr (ui_ne hb) rfl rfl
theorem uqo {E : Ev} {s : St} {k i : Nat} {v : Option Nat} : ∀ b, b ≠ k → cell E (uq s k i v) b = cell E s b := fun _ hb => cell_congr rfl rfl (uq_ne hb)
