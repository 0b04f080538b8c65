abbrev rmx (k c n : Nat) : Room := { frames := k, cells := c, slots := n, locals := 40 * k }
theorem rmx_le {a b n c1 n1 c2 n2 : Nat} (h : a + 1 ≤ b) (hn : n ≤ 21) : (rmx a c1 n1).frames + 1 ≤ (rmx b c2 n2).frames ∧ 8 + (n + 11) + (rmx a c1 n1).locals ≤ (rmx b c2 n2).locals := ⟨h, by show 8 + (n + 11) + 40 * a ≤ 40 * b; omega⟩
def LI (own : String) (index : Nat) (y : MethodName) (cc : ByteArray) (maxL n : Nat) : Prop := Cond.code y cc maxL none ∈ uW ∧ Cond.methodLink own index y ∈ uW ∧ Cond.instanceMethod y ∈ uW ∧ Cond.initialized y.cls ∈ uW ∧ LH y n ∧ y.name = "<init>"
def LN (y : MethodName) (cc : ByteArray) (maxL n : Nat) : Prop := Cond.code y cc maxL none ∈ uW ∧ Cond.instanceMethod y ∈ uW ∧ Cond.initialized y.cls ∈ uW ∧ LH y n ∧ y.name = "<init>"
section XC
variable {p : Program} {l : Launch} {e : Env} {R : Room} {s : State} {m : MethodId} {args : Array Value} {below : List Frame} {meth : Method} {c : Code} {H : Heap} {locs : List Loc} {cells slots : Nat} {Q : State → Prop} {cc : ByteArray} {pc : Nat} {ls : Array Slot} {rest : List Value} {nL : Nat}
variable {E : Ev} {ws wc wr w0 : va_W} {w1 : (Nat → Nat) → va_W} {A : Nat → Prop} {own : String} {sz : Nat} {y : MethodName} {bytes : ByteArray} {maxL n index : Nat} {rm : Room} {As st0 : List Value} {a mc ms c2 n2 : Nat}
theorem PreX_call {av : List Value} (Y : CY p s m args c E own cc nL A) (G : Gx E ws A s H locs) (isC : List Nat) (hC : isC.filterMap (fun i => ws[i]?) = wc) (hnd : va_nd isC = true) (hmc : isC.map (fun i => ws[i]?) = wc.map some) : ∀ U : State, U.heap = H → s.WarmedH U.vm → va_Pc av (PreX E wc H.size) av.toArray U := by
  intro U hU hW
  obtain ⟨-, hK, hA, hN⟩ := Y
  have hD : va_D (fun _ => True) wc := by
    refine ⟨fun i j x y hx hy he => ?_, fun _ _ _ => trivial⟩
    have gi : ∀ (i : Nat) (x : Nat × va_E), wc[i]? = some x → ∃ k, isC[i]? = some k ∧ ws[k]? = some x := by
      intro i x hx
      have h1 : (isC.map (fun i => ws[i]?))[i]? = some (some x) := by rw [hmc, List.getElem?_map, hx]; rfl
      rw [List.getElem?_map] at h1
      cases hk : isC[i]? with
      | none => rw [hk] at h1; cases h1
      | some k => rw [hk] at h1; exact ⟨k, rfl, Option.some.inj h1⟩
    obtain ⟨k1, e1, f1⟩ := gi i x hx
    obtain ⟨k2, e2, f2⟩ := gi j y hy
    have ek : k1 = k2 := G.2.1.1 k1 k2 x y f1 f2 he
    subst ek
    exact va_nd_inj isC hnd i j k1 e1 e2
  exact ⟨rfl, by rw [hU], by rw [hU]; exact G.1.sub isC hC, va_K.moved hW.alike hK, hD, KN.warm hW hN⟩
theorem xc_end (Y : CY p s m args c E own cc nL A) (G : Gx E ws A s H locs) (isC isR : List Nat) (hmc : isC.map (fun i => ws[i]?) = wc.map some) (hR : isR.map (fun i => ws[i]?) = wr.map some) (hnR : va_nd isR = true) (hdis : ∀ i ∈ isR, i ∉ isC) {u : Nat → Nat} {t : State} {H1 : Heap} {locs1 : List Loc} (ht : t.heap = H1) (hB : va_P (eD E) vwCl (w1 u) t.heap ∧ va_K (eD E) vwCl (eT E) t ∧ va_D (va_A wc H.size) (w1 u)) (hk1 : ∀ q : Nat, q < H.size → ¬ va_A wc H.size q → H1[q]? = H[q]?) (hS : va_S A s.heap H1 locs1) : Gx E (wr ++ w1 u) A s H1 locs1 := by
  obtain ⟨hP1, -, hD1⟩ := hB
  rw [ht] at hP1
  obtain ⟨hP, hD⟩ := va_join G.1 G.2.1 isC isR hmc hR hnR hdis hk1 (va_free G.2.1 G.2.2 Y.2.2.1 isC hmc) hP1 hD1
  exact ⟨hP, hD, hS⟩
theorem xcI (Y : CY p s m args c E own cc nL A) (G : Gx E ws A s H locs) (K : LI own index y bytes maxL n) (hM : Met l y (.code y bytes maxL none :: uW) rm (va_Pc (.ref a :: As) (PreX E wc H.size)) (QX E w1 (va_A wc H.size)) mc ms (va_A wc H.size)) (isC isR : List Nat) (hC : isC.filterMap (fun i => ws[i]?) = wc) (hnd : va_nd isC = true) (hmc : isC.map (fun i => ws[i]?) = wc.map some) (hR : isR.map (fun i => ws[i]?) = wr.map some) (hnR : va_nd isR = true) (hdis : ∀ i ∈ isR, i ∉ isC) (hrc : rm.cells = mc) (hrs : rm.slots = ms)
    (hRm : rm.frames + 1 ≤ R.frames ∧ 8 + (maxL + 11) + rm.locals ≤ R.locals) (hn : As.length = n) (hsz : ls.size = nL) (hst : st0 = As.reverse ++ .ref a :: rest) (hW : (rest.map fun v => v.category).sum ≤ 8) (hdg : decode cc pc = .ok (.invokespecial index, 3)) (hc : cells + mc ≤ c2) (hs : slots + ms ≤ n2) (hc2 : c2 ≤ R.cells) (hn2 : n2 ≤ R.slots)
    (kk : ∀ (u : Nat → Nat) (H : Heap) (locs : List Loc), Gx E (wr ++ w1 u) A s H locs → W p l e R s m args below meth c H locs c2 n2 Q (F0 m (pc + 3) ls rest)) : W p l e R s m args below meth c H locs cells slots Q (F0 m pc ls st0) := by
  obtain ⟨K1, K2, K3, K4, K5, K6⟩ := K
  have hts := Y.1.2.2.2.2
  have hF := va_free G.2.1 G.2.2 Y.2.2.1 isC hmc
  exact va_callv (va_runI (As := As) (rest := rest) Y.1 hM ⟨callB_of n hts (uW_c K1) rfl hrc hrs (hts _ K4) (hts _ K2) K5 hRm, K6, hts _ K3⟩ ⟨PreX_blind, PreX_call (av := .ref a :: As) Y G isC hC hnd hmc⟩ rfl hn hsz hst (lv_room hW) hdg ⟨Nat.le_trans hc hc2, Nat.le_trans hs hn2⟩) G.2.2 (fun q _ h => hF q h) hF (fun u t H1 locs1 ht hvm hw hB hz1 hk1 hS => W.widen hc hs (kk u H1 locs1 (xc_end Y G isC isR hmc hR hnR hdis ht hB hk1 hS)))
theorem xcN {host : String} (Y : CY p s m args c E own cc nL A) (G : Gx E ws A s H locs) (K : LN y bytes maxL n) (hl : va_Nw (.methodLinkNest own index y host) s) (hM : Met l y (.code y bytes maxL none :: uW) rm (va_Pc (.ref a :: As) (PreX E wc H.size)) (QX E w1 (va_A wc H.size)) mc ms (va_A wc H.size)) (isC isR : List Nat) (hC : isC.filterMap (fun i => ws[i]?) = wc) (hnd : va_nd isC = true) (hmc : isC.map (fun i => ws[i]?) = wc.map some) (hR : isR.map (fun i => ws[i]?) = wr.map some) (hnR : va_nd isR = true) (hdis : ∀ i ∈ isR, i ∉ isC) (hrc : rm.cells = mc) (hrs : rm.slots = ms)
    (hRm : rm.frames + 1 ≤ R.frames ∧ 8 + (maxL + 11) + rm.locals ≤ R.locals) (hn : As.length = n) (hsz : ls.size = nL) (hst : st0 = As.reverse ++ .ref a :: rest) (hW : (rest.map fun v => v.category).sum ≤ 8) (hdg : decode cc pc = .ok (.invokespecial index, 3)) (hc : cells + mc ≤ c2) (hs : slots + ms ≤ n2) (hc2 : c2 ≤ R.cells) (hn2 : n2 ≤ R.slots)
    (kk : ∀ (u : Nat → Nat) (H : Heap) (locs : List Loc), Gx E (wr ++ w1 u) A s H locs → W p l e R s m args below meth c H locs c2 n2 Q (F0 m (pc + 3) ls rest)) : W p l e R s m args below meth c H locs cells slots Q (F0 m pc ls st0) := by
  obtain ⟨K1, K3, K4, K5, K6⟩ := K
  have hts := Y.1.2.2.2.2
  have hF := va_free G.2.1 G.2.2 Y.2.2.1 isC hmc
  exact va_callv (va_runIN (As := As) (rest := rest) Y.1 hM ⟨va_cnB n hts (uW_c K1) rfl hrc hrs hl (hts _ K4) K5 hRm, K6, hts _ K3⟩ ⟨PreX_blind, PreX_call (av := .ref a :: As) Y G isC hC hnd hmc⟩ rfl hn hsz hst (lv_room hW) hdg ⟨Nat.le_trans hc hc2, Nat.le_trans hs hn2⟩) G.2.2 (fun q _ h => hF q h) hF (fun u t H1 locs1 ht hvm hw hB hz1 hk1 hS => W.widen hc hs (kk u H1 locs1 (xc_end Y G isC isR hmc hR hnR hdis ht hB hk1 hS)))
theorem x_ret (Y : CY p s m args c E own cc nL (va_A w0 sz)) (hlk : meth.locks = false) (hr : meth.sig.returnType = none) (G : Gx E ws (va_A w0 sz) s H locs) (u : Nat → Nat) (hw : w1 u = ws) (hdg : decode cc pc = .ok (.return_, 1)) : W p l e R s m args below meth c H locs cells slots (MQ below (QX E w1 (va_A w0 sz)) args s cells slots (va_A w0 sz)) (F0 m pc ls []) := by
  subst hw
  exact W.vret Y.1.1 Y.1.2.1 hr (fun t ht hW => ⟨⟨u, rfl, trivial, by rw [ht]; exact G.1, va_K.moved hW.alike Y.2.1, G.2.1⟩, G.2.2.F ht⟩) G.2.2.2.2 hdg hlk
theorem xia (Y : CY p s m args c E own cc nL A) (G : Gx E ws A s H locs) (q0 : Nat) {N : Nat} {f : Nat → Int32} (he : ws[q0]? = some (a, .inl (E.1 0, N, .inl f))) {i x : Int32} (j : Nat) (hj : (decide (¬ (i < 0 ∨ N ≤ i.toNatClampNeg)) && Nat.beq i.toNatClampNeg j) = true) (hdg : decode cc pc = .ok (.iastore, 1)) {ws' : va_W} {g : Nat → Int32} (hg : upd f j x = g) (hws : ws.set q0 (a, .inl (E.1 0, N, .inl g)) = ws')
    (kk : ∀ (H : Heap) (locs : List Loc), Gx E ws' A s H locs → W p l e R s m args below meth c H locs cells slots Q (F0 m (pc + 1) ls rest)) : W p l e R s m args below meth c H locs cells slots Q (F0 m pc ls (.int x :: .int i :: .ref a :: rest)) := by
  obtain ⟨h1, h2⟩ := (Bool.and_eq_true _ _).mp hj
  have h3 : i.toNatClampNeg = j := Nat.eq_of_beq_eq_true h2
  subst h3
  subst hg
  subst hws
  obtain ⟨⟨hx, hb, hml, hown, hts⟩, hK, hA, hC⟩ := Y
  exact va_iast hx hb hK G.1 G.2.1 G.2.2 q0 0 he rfl (of_decide_eq_true h1 : ¬ (i < 0 ∨ N ≤ i.toNatClampNeg)) hdg (fun H1 locs1 hP hD hS => kk H1 locs1 ⟨hP, hD, hS⟩)
end XC
theorem upd_00 (j : Nat) : upd (fun _ => 0) j 0 = (fun _ => 0) := by
  funext k
  simp [upd]
