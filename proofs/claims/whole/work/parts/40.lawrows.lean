/-! THE CLAIM OUT OF ONE WALK OF THE LAW'S BODY. Your part is whole_start (and what it stands on); all else here is the same for every law, but numbers. -/
def R_law : String := "FireTaxLaw"
def lw_P (b : Addr) (xs : List Int32) (args : Array Value) (s : State) : Prop := args = #[.ref b] ∧ s.IntsAt b xs ∧ xs.length ≤ 3072 ∧ (Jvm.Cond.and given_1 narrow_1).before args s = true
def lw_Q (_ : Array Value) (s : State) (o : Outcome) (t : State) : Prop := o = .returned (some (.int 1)) ∧ Framed s o t [] 600000 7302250
def lw_Z (below : List Frame) (a : Array Value) (s : State) : State → Prop := fun t => ∃ o, t.status = .running ∧ Ended t below o ∧ lw_Q a s o t
/-- the law's own end, with 1 on the stack, nothing written that was there before, its room as the claim has it -/
theorem lw_ret {p : Program} {l : Launch} {e : Env} {s : State} {m : MethodId} {below : List Frame} {meth : Method} {c : Code} {b : Nat} (hx : p.tables.exec = Jvm.exec) (hb : c.code = code) (hr : meth.sig.returnType = ret) (hlocks : meth.locks = false) {pc : Nat} {H : Heap} {ls : Array Slot} (hdg : decode code pc = .ok (.ireturn, 1)) : W p l e room_1 s m #[Value.ref b] below meth c H [] 600000 7302250 (lw_Z below #[Value.ref b] s) (F0 m pc ls [.int 1]) := by
  intro T hT X
  obtain ⟨fs, hret, hrun, hended, hW, hframe⟩ := X.leave (v := some (.int 1)) (hlocks := hlocks) (fun h => by rw [hr] at h; cases h)
  have hmeth' : T.vm.method? m = some meth := X.method'
  refine ⟨T.setFrames fs, ?_, .returned (some (.int 1)), hrun, hended, rfl, ⟨_, rfl⟩, hW, hframe⟩
  jvm_step X.here [X.here.top, hx, hb, hdg, hmeth', hr, ret, narrow_b1]
  (try refine ⟨rfl, ?_⟩); (try refine ⟨rfl, ?_⟩)
  first | (intro acts; rw [hret _ acts rfl rfl rfl]) | rw [hret _ _ rfl rfl rfl]
  exact Steps.refl _
/-- what holds at the law's entry: the machine, the code, the tables' words (any of lw_tbl by 'hts w (by decide +kernel)'), the script of L ints xs at the cell b, what the Statement gives of the start (any of its parts by flat_of_before) -/
def lw_At (p : Program) (s : State) (m : MethodId) (meth : Method) (c : Code) (b L : Nat) (xs : Nat → Int32) : Prop :=
  p.tables.exec = Jvm.exec ∧ c.code = code ∧ meth.sig.returnType = ret ∧ c.maxLocals = 4 ∧ s.vm.findClass R_law = some m.cls ∧ (∀ w ∈ lw_tbl, w.before #[Value.ref b] s = true) ∧ va_X b L xs s s.heap ∧ b < s.heap.size ∧ meth.locks = false ∧ (Jvm.Cond.and given_1 narrow_1).before #[Value.ref b] s = true
theorem va_D_iff {A : Nat → Prop} {ws : va_W} : va_D A ws ↔ (ws.map (fun q => q.1)).Nodup ∧ ∀ q ∈ ws, A q.1 := by
  constructor
  · intro h
    refine ⟨?_, fun q hq => ?_⟩
    · refine List.pairwise_iff_getElem.mpr (fun i j hi hj hij he => ?_)
      rw [List.getElem_map, List.getElem_map] at he
      rw [List.length_map] at hi hj
      have := h.1 i j _ _ (List.getElem?_eq_getElem hi) (List.getElem?_eq_getElem hj) he
      omega
    · obtain ⟨i, hi⟩ := List.getElem?_of_mem hq
      exact h.2 i q hi
  · intro h
    refine ⟨fun i j x y hx hy he => ?_, fun i x hx => h.2 x (List.mem_of_getElem? hx)⟩
    have h1 := List.pairwise_iff_getElem.mp h.1
    obtain ⟨li, ei⟩ := List.getElem?_eq_some_iff.mp hx
    obtain ⟨lj, ej⟩ := List.getElem?_eq_some_iff.mp hy
    rcases Nat.lt_trichotomy i j with q | q | q
    · exact absurd (by rw [List.getElem_map, List.getElem_map, ei, ej]; exact he) (h1 i j (by rw [List.length_map]; exact li) (by rw [List.length_map]; exact lj) q)
    · exact q
    · exact absurd (by rw [List.getElem_map, List.getElem_map, ei, ej]; exact he.symm) (h1 j i (by rw [List.length_map]; exact lj) (by rw [List.length_map]; exact li) q)
theorem va_D_app {A : Nat → Prop} {a b : va_W} : va_D A (a ++ b) ↔ va_D A a ∧ va_D A b ∧ ∀ x ∈ a, ∀ y ∈ b, x.1 ≠ y.1 := by
  rw [va_D_iff, va_D_iff, va_D_iff, List.map_append, List.nodup_append]
  constructor
  · rintro ⟨⟨h1, h2, h3⟩, h4⟩
    exact ⟨⟨h1, fun q hq => h4 q (List.mem_append_left _ hq)⟩, ⟨h2, fun q hq => h4 q (List.mem_append_right _ hq)⟩, fun x hx y hy => h3 _ (List.mem_map_of_mem hx) _ (List.mem_map_of_mem hy)⟩
  · rintro ⟨⟨h1, h4⟩, ⟨h2, h5⟩, h3⟩
    refine ⟨⟨h1, h2, fun x hx y hy => ?_⟩, fun q hq => (List.mem_append.mp hq).elim (h4 q) (h5 q)⟩
    obtain ⟨x', hx', rfl⟩ := List.mem_map.mp hx
    obtain ⟨y', hy', rfl⟩ := List.mem_map.mp hy
    exact h3 x' hx' y' hy'
theorem va_D_comm {A : Nat → Prop} {a b : va_W} (h : va_D A (a ++ b)) : va_D A (b ++ a) := by
  obtain ⟨h1, h2, h3⟩ := va_D_app.mp h
  exact va_D_app.mpr ⟨h2, h1, fun x hx y hy e => h3 y hy x hx e.symm⟩
/-- a call changed the first world: the second stays -/
theorem join2 {D : va_G} {cl : List vw_C} {w1 w2 w3 : va_W} {A B : Nat → Prop} {H H1 : Heap} (hP2 : va_P D cl w2 H) (hD : va_D A (w1 ++ w2)) (hB : ∀ q, B q → (∃ x ∈ w1, x.1 = q) ∨ H.size ≤ q) (hk : ∀ q, q < H.size → ¬ B q → H1[q]? = H[q]?) (hD3 : va_D B w3) (hBA : ∀ q, B q → A q) : va_P D cl w2 H1 ∧ va_D A (w3 ++ w2) := by
  obtain ⟨-, h2, h3⟩ := va_D_app.mp hD
  have hno : ∀ x ∈ w2, x.1 < H.size ∧ ¬ B x.1 := by
    intro x hx
    obtain ⟨i, hi⟩ := List.getElem?_of_mem hx
    have hlt := va_at.lt (hP2 i x hi)
    refine ⟨hlt, fun hb => ?_⟩
    rcases hB _ hb with ⟨y, hy, e⟩ | h
    · exact h3 y hy x hx e
    · omega
  refine ⟨fun i x hx => ?_, va_D_app.mpr ⟨hD3.weaken (fun _ q _ h => hBA q.1 h), h2, fun x hx y hy e => ?_⟩⟩
  · have hm := hno x (List.mem_of_getElem? hx)
    exact va_at.kept (hP2 i x hx) (hk _ hm.1 hm.2)
  · have hb : B x.1 := (va_D_iff.mp hD3).2 x hx
    rw [e] at hb
    exact (hno y hy).2 hb
/-- both worlds -/
def G2 (Ec Em : Ev) (c m : St) (A : Nat → Prop) (s : State) (H : Heap) (locs : List Loc) : Prop := va_P (eD Ec) vwCl (cw Ec c) H ∧ va_P (eD Em) vwCl (cw Em m) H ∧ va_D A (cw Ec c ++ cw Em m) ∧ va_S A s.heap H locs
theorem G2.c {Ec Em : Ev} {c m : St} {A : Nat → Prop} {s : State} {H : Heap} {locs : List Loc} (G : G2 Ec Em c m A s H locs) : Gd Ec c A s H locs := ⟨G.1, (va_D_app.mp G.2.2.1).1, G.2.2.2⟩
theorem G2.m {Ec Em : Ev} {c m : St} {A : Nat → Prop} {s : State} {H : Heap} {locs : List Loc} (G : G2 Ec Em c m A s H locs) : Gd Em m A s H locs := ⟨G.2.1, (va_D_app.mp G.2.2.1).2.1, G.2.2.2⟩
theorem Af_w {E : Ev} {st : St} {sz : Nat} : ∀ q, Af E sz q → (∃ x ∈ cw E st, x.1 = q) ∨ sz ≤ q := by
  intro q h
  rcases h with ⟨k, hk, rfl⟩ | h
  · exact Or.inl ⟨(eq E k, cell E st k), List.mem_map_of_mem (f := fun k => (eq E k, cell E st k)) hk, rfl⟩
  · exact Or.inr h
section LW
variable {p : Program} {l : Launch} {e : Env} {R : Room} {s : State} {m : MethodId} {args : Array Value} {below : List Frame} {meth : Method} {c : Code} {H : Heap} {locs : List Loc} {cells slots : Nat} {Q : State → Prop} {cc : ByteArray} {pc : Nat} {ls : Array Slot} {rest : List Value} {nL : Nat}
variable {Ec Em E2 : Ev} {c0 m0 st' : St} {A : Nat → Prop} {own : String} {y : MethodName} {bytes : ByteArray} {maxL n index : Nat} {ret : Option FieldType} {rm : Room} {As st0 : List Value} {a : Nat}
theorem G2_c (X : CX p s m args c Ec own cc nL A) (G : G2 Ec Em c0 m0 A s H locs) {t : State} {H1 : Heap} {locs1 : List Loc} (hB : Post E2 st' (Af Ec H.size) t) (ht : t.heap = H1) (hk1 : ∀ q : Nat, q < H.size → ¬ Af Ec H.size q → H1[q]? = H[q]?) (hS : va_S A s.heap H1 locs1) : G2 E2 Em st' m0 A s H1 locs1 := by
  obtain ⟨h1, h2⟩ := join2 G.2.1 G.2.2.1 Af_w hk1 hB.2.2 (Gd_free X G.c)
  exact ⟨by rw [← ht]; exact hB.1, h1, h2, hS⟩
theorem G2_m (X : CX p s m args c Em own cc nL A) (G : G2 Ec Em c0 m0 A s H locs) {t : State} {H1 : Heap} {locs1 : List Loc} (hB : Post Em st' (Af Em H.size) t) (ht : t.heap = H1) (hk1 : ∀ q : Nat, q < H.size → ¬ Af Em H.size q → H1[q]? = H[q]?) (hS : va_S A s.heap H1 locs1) : G2 Ec Em c0 st' A s H1 locs1 := by
  obtain ⟨h1, h2⟩ := join2 G.1 (va_D_comm G.2.2.1) Af_w hk1 hB.2.2 (Gd_free X G.m)
  exact ⟨h1, by rw [← ht]; exact hB.1, va_D_comm h2, hS⟩
theorem lcW {r : Int32} (X : CX p s m args c Ec own cc nL A) (G : G2 Ec Em c0 m0 A s H locs) (K : LV own index y bytes maxL ret n) (hM : Met l y (.code y bytes maxL ret :: uW) rm (va_Pc (.ref a :: As) (Pre Ec c0 H.size)) (QWi Ec st' H.size r) 0 0 (Af Ec H.size)) (hrv : ∃ cell : Cell, H[a]? = some cell ∧ cell.vm.isStatics = false ∧ s.vm.findClass y.cls = some cell.cls) (hrc : rm.cells = 0) (hrs : rm.slots = 0)
    (hR : rm.frames + 1 ≤ R.frames ∧ 8 + (maxL + 11) + rm.locals ≤ R.locals) (hn : As.length = n) (hsz : ls.size = nL) (hst : st0 = As.reverse ++ .ref a :: rest) (hW : (rest.map fun v => v.category).sum ≤ 8) (hdg : decode cc pc = .ok (.invokevirtual index, 3)) (hf : cells ≤ R.cells ∧ slots ≤ R.slots)
    (kk : ∀ (H : Heap) (locs : List Loc), G2 Ec Em st' m0 A s H locs → W p l e R s m args below meth c H locs cells slots Q (F0 m (pc + 3) ls (.int r :: rest))) : W p l e R s m args below meth c H locs cells slots Q (F0 m pc ls st0) :=
  va_calli (runV X G.c K hM hrv hrc hrs hR hn hsz hst hW hdg hf) G.2.2.2 (fun q _ h => Gd_free X G.c q h) (Gd_free X G.c) (fun x u t H1 locs1 ht hvm hw hB hz1 hk1 hS => by subst hw; exact kk H1 locs1 (G2_c X G hB ht hk1 hS))
theorem lmW {r : Int32} (X : CX p s m args c Em own cc nL A) (G : G2 Ec Em c0 m0 A s H locs) (K : LV own index y bytes maxL ret n) (hM : Met l y (.code y bytes maxL ret :: uW) rm (va_Pc (.ref a :: As) (Pre Em m0 H.size)) (QWi Em st' H.size r) 0 0 (Af Em H.size)) (hrv : ∃ cell : Cell, H[a]? = some cell ∧ cell.vm.isStatics = false ∧ s.vm.findClass y.cls = some cell.cls) (hrc : rm.cells = 0) (hrs : rm.slots = 0)
    (hR : rm.frames + 1 ≤ R.frames ∧ 8 + (maxL + 11) + rm.locals ≤ R.locals) (hn : As.length = n) (hsz : ls.size = nL) (hst : st0 = As.reverse ++ .ref a :: rest) (hW : (rest.map fun v => v.category).sum ≤ 8) (hdg : decode cc pc = .ok (.invokevirtual index, 3)) (hf : cells ≤ R.cells ∧ slots ≤ R.slots)
    (kk : ∀ (H : Heap) (locs : List Loc), G2 Ec Em c0 st' A s H locs → W p l e R s m args below meth c H locs cells slots Q (F0 m (pc + 3) ls (.int r :: rest))) : W p l e R s m args below meth c H locs cells slots Q (F0 m pc ls st0) :=
  va_calli (runV X G.m K hM hrv hrc hrs hR hn hsz hst hW hdg hf) G.2.2.2 (fun q _ h => Gd_free X G.m q h) (Gd_free X G.m) (fun x u t H1 locs1 ht hvm hw hB hz1 hk1 hS => by subst hw; exact kk H1 locs1 (G2_m X G hB ht hk1 hS))
theorem lcA {res : Int32 × List Nat × St} {mc ms c2 n2 : Nat} (X : CX p s m args c Ec own cc nL A) (hN : KN s) (G : G2 Ec Em c0 m0 A s H locs) (K : LV own index y bytes maxL ret n) (hM : Met l y (.code y bytes maxL ret :: uW) rm (va_Pc (.ref a :: As) (Pre2 Ec c0 H.size)) (QAi Ec H.size res) mc ms (Af Ec H.size)) (hrv : ∃ cell : Cell, H[a]? = some cell ∧ cell.vm.isStatics = false ∧ s.vm.findClass y.cls = some cell.cls) (hrc : rm.cells = mc) (hrs : rm.slots = ms)
    (hR : rm.frames + 1 ≤ R.frames ∧ 8 + (maxL + 11) + rm.locals ≤ R.locals) (hn : As.length = n) (hsz : ls.size = nL) (hst : st0 = As.reverse ++ .ref a :: rest) (hW : (rest.map fun v => v.category).sum ≤ 8) (hdg : decode cc pc = .ok (.invokevirtual index, 3)) (hc : cells + mc ≤ c2) (hs : slots + ms ≤ n2) (hc2 : c2 ≤ R.cells) (hn2 : n2 ≤ R.slots)
    (kk : ∀ (E2 : Ev) (H : Heap) (locs : List Loc), Ext Ec E2 res.2.1 → G2 E2 Em res.2.2 m0 A s H locs → W p l e R s m args below meth c H locs c2 n2 Q (F0 m (pc + 3) ls (.int res.1 :: rest))) : W p l e R s m args below meth c H locs cells slots Q (F0 m pc ls st0) :=
  va_calli (runV2 X hN G.c K hM hrv hrc hrs hR hn hsz hst hW hdg ⟨Nat.le_trans hc hc2, Nat.le_trans hs hn2⟩) G.2.2.2 (fun q _ h => Gd_free X G.c q h) (Gd_free X G.c) (fun x E2 t H1 locs1 ht hvm hw hB hz1 hk1 hS => by obtain ⟨hw, hE⟩ := hw; subst hw; exact W.widen hc hs (kk E2 H1 locs1 hE (G2_c X G hB ht hk1 hS)))
theorem sld (hx : p.tables.exec = Jvm.exec) (hb : c.code = cc) {b L : Nat} {xs : Nat → Int32} (hX : va_X b L xs s s.heap) (hbl : b < s.heap.size) (hbA : ¬ A b) (hS : va_S A s.heap H locs) {x3 jv : Int32} {i j : Nat} (ex : x3 = nI i) (ej : jv = nI j) (hi : i + j < L) (hL : L ≤ 3072) (hdg : decode cc pc = .ok (.iaload, 1))
    (kk : W p l e R s m args below meth c H locs cells slots Q (F0 m (pc + 1) ls (.int (xs (i + j)) :: rest))) : W p l e R s m args below meth c H locs cells slots Q (F0 m pc ls (.int (x3 + jv) :: .ref b :: rest)) := by
  have e : x3 + jv = nI (i + j) := by rw [ex, ej, nI_add]
  rw [e]
  refine va_sld hx hb hX hbl hbA hS (vp_in_nI hi (by omega)) hdg ?_
  rw [nI_clamp (by omega)]
  exact kk
end LW
