def va_AOA (t : FieldType) (U : State) : Prop := (Cond.arrayOver (.array t)).before #[] U = true
theorem va_AOA.use {t : FieldType} {A : Array Value} {U : State} (h : va_AOA t U) : (Cond.arrayOver (.array t)).before A U = true := h
theorem va_AOA.spec {t : FieldType} {s : State} (h : va_AOA t s) : ∃ comp c k, s.vm.findClass (FieldType.array t).toString = some comp ∧ (s.vm.classes.findIdx? fun (x : Class) => match x.kind with | .array component _ => component == comp | _ => false) = some c ∧ s.vm.classes[c]? = some k ∧ k.kind = .array comp (.array t) ∧ s.vm.findClass ("[" ++ (FieldType.array t).toString) = some c := by
  unfold va_AOA Cond.before at h
  simp only [Cond.holds, Cond.value, beq_iff_eq] at h
  cases hc : s.vm.findClass (FieldType.array t).toString with
  | none => simp [hc] at h
  | some comp =>
    simp only [hc, Option.bind_some, Option.bind_eq_some_iff, Option.map_eq_some_iff] at h
    obtain ⟨c, hi, k, hk, hb⟩ := h
    obtain ⟨hlt, hp, -⟩ := Array.findIdx?_eq_some_iff_getElem.mp hi
    have hkk : s.vm.classes[c] = k := (Array.getElem?_eq_some_iff.mp hk).2
    rw [hkk] at hp
    cases hkind : k.kind with
    | array component ty =>
      rw [hkind] at hb hp
      simp at hb hp
      exact ⟨comp, c, k, rfl, hi, hk, by rw [hkind, hp, hb.1], hb.2⟩
    | _ => rw [hkind] at hb; simp at hb
theorem va_AOA.moved {t : FieldType} {u U : State} (hvm : u.vm.Alike U.vm) (h : va_AOA t u) : va_AOA t U := by
  obtain ⟨comp, c, k, h1, h2, h3, h4, h5⟩ := va_AOA.spec h
  obtain ⟨k', hk', he⟩ := hvm.2.2 _ _ h3
  have hi : (U.vm.classes.findIdx? fun (x : Class) => match x.kind with | .array component _ => component == comp | _ => false) = some c := by
    have e1 := va_idx_bare U.vm comp
    have e2 := va_idx_bare u.vm comp
    have e3 : U.vm.bare = u.vm.bare := by first | exact hvm.bare_eq | exact hvm.bare_eq.symm
    rw [e3] at e1
    exact (e1.symm.trans e2).trans h2
  have hkind : k'.kind = .array comp (.array t) := by rw [he]; exact h4
  have f1 : U.vm.findClass (FieldType.array t).toString = some comp := by rw [hvm.findClass]; exact h1
  have f2 : U.vm.findClass ("[" ++ (FieldType.array t).toString) = some c := by rw [hvm.findClass]; exact h5
  unfold va_AOA Cond.before Cond.holds
  simp only [Cond.value]
  rw [f1, Option.bind_some]
  refine (congrArg (fun o : Option Nat => (o.bind (fun c => (U.vm.classes[c]?).map fun (k : Class) => match k.kind with | .array _ ty => decide (ty = FieldType.array t) && decide (U.vm.findClass ("[" ++ (FieldType.array t).toString) = some c) | _ => false) == some true)) hi).trans ?_
  simp [hk', hkind, f2]
/-! ===== BEGIN new T[n][m]: the outer array a place, the inner ones among the pooled ===== -/
/-- f, but v at every address of l -/
def vr_up {α : Type} (f : Nat → α) (l : List Nat) (v : α) : Nat → α := fun a => if a ∈ l then v else f a
theorem vr_up_in {α : Type} {f : Nat → α} {l : List Nat} {v : α} {a : Nat} (h : a ∈ l) : vr_up f l v a = v := if_pos h
theorem vr_up_ne {α : Type} {f : Nat → α} {l : List Nat} {v : α} {a : Nat} (h : a ∉ l) : vr_up f l v a = f a := if_neg h
theorem vr_rows {L l : List Nat} {f : Nat → va_E} {e : va_E} (h : ∀ a, a ∈ l → a ∉ L) : va_pl L f ++ l.map (fun a => (a, e)) = va_pl (L ++ l) (vr_up f l e) := by
  unfold va_pl
  rw [List.map_append]
  congr 1
  · apply List.map_congr_left
    intro a ha
    rw [vr_up_ne (fun q => h a q ha)]
  · apply List.map_congr_left
    intro a ha
    rw [vr_up_in ha]
theorem vr_lay {X rows : va_W} {x : Nat × va_E} {pl : va_W} {D : va_G} {cl : List vw_C} {H : Heap} (hP : va_P D cl (((X ++ pl) ++ [x]) ++ rows) H) : va_P D cl ((X ++ [x]) ++ (pl ++ rows)) H := by
  rw [List.append_assoc (X ++ pl)] at hP
  have h := va_P.swap hP
  rw [← List.append_assoc X] at h
  have h2 := va_P.swap h
  rw [List.append_assoc (X ++ [x])] at h2
  exact h2
theorem vr_layD {X rows : va_W} {x : Nat × va_E} {pl : va_W} {A : Nat → Prop} (hD : va_D A (((X ++ pl) ++ [x]) ++ rows)) : va_D A ((X ++ [x]) ++ (pl ++ rows)) := by
  rw [List.append_assoc (X ++ pl)] at hD
  have h := va_D.swap hD
  rw [← List.append_assoc X] at h
  have h2 := va_D.swap h
  rw [List.append_assoc (X ++ [x])] at h2
  exact h2
theorem vr_outer (c : ClassId) (N h0 : Nat) : ∀ i : Nat, Jvm.Free.Multi.outerC c N h0 i = arrV c N (fun j => va_rf (if j < i then some (h0 + 1 + j) else none))
  | 0 => by
    show ({ cls := c, slots := Array.replicate N .null, vm := .none } : Cell) = _
    rw [arrV_new]
    refine congrArg (arrV c N) (funext fun j => ?_)
    simp [va_rf]
  | i + 1 => by
    show (Jvm.Free.Multi.outerC c N h0 i).setSlot i (.ref (h0 + 1 + i)) = _
    rw [vr_outer c N h0 i, arrV_store]
    refine congrArg (arrV c N) (funext fun j => ?_)
    by_cases e : j = i
    · subst e
      simp [updV, va_rf]
    · by_cases h : j < i
      · simp [updV, e, h, Nat.lt_succ_of_lt h]
      · simp [updV, e, h, show ¬ j < i + 1 by omega]
section VGM
variable {p : Program} {l : Launch} {e : Env} {R : Room} {s : State} {m : MethodId} {args : Array Value} {below : List Frame} {meth : Method} {c : Code} {H : Heap} {locs : List Loc} {cells slots : Nat} {Q : State → Prop}
variable {cc : ByteArray} {pc : Nat} {ls : Array Slot} {rest : List Value} {D : va_G} {cl : List vw_C} {A : Nat → Prop} {a : Nat} {tys : List (ClassId × FieldType)} {ws : va_W} {H0 : Heap}
theorem va_mna {X : va_W} {L : List Nat} {f : Nat → va_E} {cc : ByteArray} (hexec : p.tables.exec = Jvm.exec) (hb : c.code = cc) {own : String} {index : Nat} {ty : FieldType} {cy : ClassId} (hown : s.vm.findClass own = some m.cls) (hclink : (Cond.classLink own index ("[" ++ (FieldType.array ty).toString)).before args s = true) (hover : va_AOA ty s) (harr : (Cond.arrayClass ty).before args s = true) (hcy : s.vm.findClass (FieldType.array ty).toString = some cy)
    (hK : va_K D cl tys s) (hP : va_P D cl (X ++ va_pl L f) H) (hD : va_D A (X ++ va_pl L f)) (hS : va_S A H0 H locs) (hA : ∀ q, H0.size ≤ q → A q) {n k : Int32} {N' K' : Nat} {z : vp_A} (hn : ¬ n < 0) (hk : ¬ k < 0) (hN : n.toNatClampNeg = N') (hM : k.toNatClampNeg = K')
    (hb1 : N' * 4 ≤ 536870912) (hb2 : K' * componentBytes ty ≤ 536870912) (hb3 : K' ≤ 536870912) (hdf : fits ty (defaultValue ty) = true) (hdd : (defaultValue ty).isDefault = true) (hcells : cells + (1 + N') ≤ R.cells) (hslots : slots + (N' + N' * K') ≤ R.slots) (hz : ∀ c : ClassId, Jvm.Free.Multi.innerC c K' (defaultValue ty) = vp_cell c z) (hdg : decode cc pc = .ok (.multianewarray index 2, 4))
    (kk : ∀ (q : Nat) (r : Nat → Nat) (cA : ClassId) (H1 : Heap), (∀ i j : Nat, i < N' → j < N' → r i = r j → i = j) → (∀ i : Nat, i < N' → r i ∉ L) → va_K D cl (tys ++ [(cA, .array ty)]) s →
      va_P D cl ((X ++ [(q, .inl (cA, N', .inr (.inr (.inr (.inr (fun i => if i < N' then some (r i) else none))))))]) ++ va_pl (L ++ (List.range N').map r) (vr_up f ((List.range N').map r) (.inl (cy, z)))) H1 → va_D A ((X ++ [(q, .inl (cA, N', .inr (.inr (.inr (.inr (fun i => if i < N' then some (r i) else none))))))]) ++ va_pl (L ++ (List.range N').map r) (vr_up f ((List.range N').map r) (.inl (cy, z)))) → va_S A H0 H1 locs →
      W p l e R s m args below meth c H1 locs (cells + 1 + N') (slots + N' + N' * K') Q (F0 m (pc + 4) ls (.ref q :: rest))) : W p l e R s m args below meth c H locs cells slots Q (F0 m pc ls (.int k :: .int n :: rest)) := by
  subst hN
  subst hM
  intro T hT Xs
  obtain ⟨vm₁, cA, comp, -, fA, fC, hO, -, X', step⟩ := Xs.multianewarray2F hexec hown hclink (va_AOA.use hover) harr (g := F0 m pc ls (.int k :: .int n :: rest)) rfl (by rw [hb]; exact hdg) rfl hn hk hb1 hb2 hb3 hdf hdd hcells hslots
  have ec : some cy = some comp := hcy.symm.trans fC
  cases ec
  generalize hF : Jvm.Free.Multi.fill (T.setVm vm₁) cA cy n.toNatClampNeg k.toNatClampNeg (defaultValue ty) n.toNatClampNeg = F at X' step
  have hTh : (T.setVm vm₁).heap = H := hT
  obtain ⟨f1, f2, -, -⟩ := Jvm.Free.Multi.fill_facts (T.setVm vm₁) cA cy n.toNatClampNeg k.toNatClampNeg (defaultValue ty) n.toNatClampNeg
  rw [hF, hTh] at f1 f2
  have hold : ∀ x : Nat, x < H.size → F.heap[x]? = H[x]? := fun x hx => by
    have := Jvm.Free.Multi.fill_old (T.setVm vm₁) cA cy n.toNatClampNeg k.toNatClampNeg (defaultValue ty) (a := x) (by rw [hTh]; exact hx) n.toNatClampNeg
    rw [hF, hTh] at this
    exact this
  have hrow : ∀ j : Nat, j < n.toNatClampNeg → F.heap[H.size + 1 + j]? = some (vp_cell cy z) := fun j hj => by
    have := Jvm.Free.Multi.fill_inner (T.setVm vm₁) cA cy n.toNatClampNeg k.toNatClampNeg (defaultValue ty) n.toNatClampNeg j hj
    rw [hF, hTh, hz] at this
    exact this
  have hout : Jvm.Free.Multi.outerC cA n.toNatClampNeg H.size n.toNatClampNeg = vp_cell cA (n.toNatClampNeg, .inr (.inr (.inr (.inr (fun i => if i < n.toNatClampNeg then some (H.size + 1 + i) else none))))) := by
    rw [vp_cell_q]
    exact vr_outer cA n.toNatClampNeg H.size n.toNatClampNeg
  rw [hout] at f2
  have hlt : ∀ a, a ∈ L → a < H.size := fun a ha => by
    obtain ⟨k9, hk9⟩ := va_pl_get (X := X) (f := f) ha
    exact (hP k9 _ hk9).lt
  have hnl : ∀ i : Nat, i < n.toNatClampNeg → H.size + 1 + i ∉ L := fun i _ h => by
    have := hlt _ h
    omega
  have hnm : ∀ a, a ∈ (List.range n.toNatClampNeg).map (fun i => H.size + 1 + i) → a ∉ L := fun a ha h => by
    obtain ⟨i, -, rfl⟩ := List.mem_map.mp ha
    have := hlt _ h
    omega
  have hP0 : va_P D cl (X ++ va_pl L f) F.heap := hP.kept (fun k9 x hx => hold x.1 ((hP k9 x hx).lt))
  have hP1 : va_P D cl ((X ++ va_pl L f) ++ [(H.size, .inl (cA, n.toNatClampNeg, .inr (.inr (.inr (.inr (fun i => if i < n.toNatClampNeg then some (H.size + 1 + i) else none))))))]) F.heap := hP0.app (fun k9 x hx => by
    have h0 : k9 < 1 := (List.getElem?_eq_some_iff.mp hx).1
    rw [show k9 = 0 by omega] at hx
    cases hx
    exact f2)
  have hP2 : va_P D cl (((X ++ va_pl L f) ++ [(H.size, .inl (cA, n.toNatClampNeg, .inr (.inr (.inr (.inr (fun i => if i < n.toNatClampNeg then some (H.size + 1 + i) else none))))))]) ++ ((List.range n.toNatClampNeg).map (fun i => H.size + 1 + i)).map (fun a => (a, .inl (cy, z)))) F.heap := hP1.app (fun k9 x hx => by
    obtain ⟨a, ha, rfl⟩ := List.mem_map.mp (List.mem_of_getElem? hx)
    obtain ⟨i, hi, rfl⟩ := List.mem_map.mp ha
    exact hrow i (List.mem_range.mp hi))
  have hD2 : va_D A (((X ++ va_pl L f) ++ [(H.size, .inl (cA, n.toNatClampNeg, .inr (.inr (.inr (.inr (fun i => if i < n.toNatClampNeg then some (H.size + 1 + i) else none))))))]) ++ ((List.range n.toNatClampNeg).map (fun i => H.size + 1 + i)).map (fun a => (a, .inl (cy, z)))) := by
    have hD1 := hD.push (e := .inl (cA, n.toNatClampNeg, .inr (.inr (.inr (.inr (fun i => if i < n.toNatClampNeg then some (H.size + 1 + i) else none)))))) hP rfl (hA _ hS.1)
    generalize hW1 : (X ++ va_pl L f) ++ [(H.size, .inl (cA, n.toNatClampNeg, .inr (.inr (.inr (.inr (fun i => if i < n.toNatClampNeg then some (H.size + 1 + i) else none))))))] = W1 at hD1 hP1 ⊢
    have hle : ∀ (k9 : Nat) (x : Nat × va_E), W1[k9]? = some x → x.1 ≤ H.size := fun k9 x hx => by
      rw [← hW1] at hx
      by_cases hl : k9 < (X ++ va_pl L f).length
      · rw [List.getElem?_append_left hl] at hx
        exact Nat.le_of_lt ((hP k9 x hx).lt)
      · rw [List.getElem?_append_right (by omega)] at hx
        have h0 : k9 - (X ++ va_pl L f).length < 1 := (List.getElem?_eq_some_iff.mp hx).1
        rw [show k9 - (X ++ va_pl L f).length = 0 by omega] at hx
        cases hx
        exact Nat.le_refl _
    have hr : ∀ (k9 : Nat) (x : Nat × va_E), (((List.range n.toNatClampNeg).map (fun i => H.size + 1 + i)).map (fun a => ((a, .inl (cy, z)) : Nat × va_E)))[k9]? = some x → x.1 = H.size + 1 + k9 := fun k9 x hx => by
      rw [List.getElem?_map, List.getElem?_map] at hx
      by_cases h9 : k9 < n.toNatClampNeg
      · rw [List.getElem?_range h9] at hx
        cases hx
        rfl
      · have hn0 : (List.range n.toNatClampNeg)[k9]? = none := List.getElem?_eq_none (by rw [List.length_range]; omega)
        rw [hn0] at hx
        cases hx
    refine ⟨fun i j x y hi hj hxy => ?_, fun k9 x hx => ?_⟩
    · by_cases h1 : i < W1.length <;> by_cases h2 : j < W1.length
      · rw [List.getElem?_append_left h1] at hi
        rw [List.getElem?_append_left h2] at hj
        exact hD1.1 i j x y hi hj hxy
      · rw [List.getElem?_append_left h1] at hi
        rw [List.getElem?_append_right (by omega)] at hj
        have := hle _ _ hi
        have := hr _ _ hj
        omega
      · rw [List.getElem?_append_right (by omega)] at hi
        rw [List.getElem?_append_left h2] at hj
        have := hle _ _ hj
        have := hr _ _ hi
        omega
      · rw [List.getElem?_append_right (by omega)] at hi hj
        have := hr _ _ hi
        have := hr _ _ hj
        omega
    · by_cases h1 : k9 < W1.length
      · rw [List.getElem?_append_left h1] at hx
        exact hD1.2 k9 x hx
      · rw [List.getElem?_append_right (by omega)] at hx
        have := hr _ _ hx
        exact hA _ (by have := hS.1; omega)
  have hAr : ArrOfT s cA (.array ty) := fun N9 z9 => by
    obtain ⟨-, k9, hk9, cm9, hkk9⟩ := (hO 0 0 0).1
    exact ⟨(fun q hq => by cases hq), k9, hk9, cm9, hkk9⟩
  have hK2 : va_K D cl (tys ++ [(cA, .array ty)]) s := ⟨hK.1, fun k9 x hx => by
    by_cases hl : k9 < tys.length
    · rw [List.getElem?_append_left hl] at hx
      exact hK.2 k9 x hx
    · rw [List.getElem?_append_right (by omega)] at hx
      have h0 : k9 - tys.length < 1 := (List.getElem?_eq_some_iff.mp hx).1
      rw [show k9 - tys.length = 0 by omega] at hx
      cases hx
      exact ⟨hAr, fA⟩⟩
  obtain ⟨t, a1, b1⟩ := kk H.size (fun i => H.size + 1 + i) cA F.heap (fun i j _ _ h => by have h9 : H.size + 1 + i = H.size + 1 + j := h; omega) hnl hK2 (by rw [← vr_rows hnm]; exact vr_lay hP2) (by rw [← vr_rows hnm]; exact vr_layD hD2) ⟨by rw [f1]; have := hS.1; omega, fun x h1 h2 => (hold x (Nat.lt_of_lt_of_le h1 hS.1)).trans (hS.2.1 x h1 h2), hS.2.2⟩ F rfl X'
  refine ⟨t, step t ?_, b1⟩
  have e : T.heap.size = H.size := by rw [hT]
  rw [e]
  exact a1
end VGM
/-! ===== END ===== -/
/-- words that last, but of another kind: links of nest mates' constructors, classes of arrays of references -/
def KN (U : State) : Prop := va_Nw (.methodLinkNest "FireTax" 19 ⟨"FireTax$Tokens", "<init>", "()V"⟩ "FireTax") U ∧ va_Nw (.methodLinkNest "FireTax$DuchyReader" 21 ⟨"FireTax$Land", "<init>", "()V"⟩ "FireTax") U ∧ va_Nw (.methodLinkNest "FireTax$RuleReader" 11 ⟨"FireTax$Rule", "<init>", "()V"⟩ "FireTax") U ∧ va_Nw (.methodLinkNest "FireTax" 51 ⟨"FireTax$Page", "<init>", "()V"⟩ "FireTax") U ∧ va_Nw (.methodLinkNest "FireTax$Page" 11 ⟨"FireTax$Land", "<init>", "()V"⟩ "FireTax") U ∧ va_AO "FireTax$Page" U ∧ va_AO "FireTax$Rule" U ∧ va_AOA .int U
theorem KN.warm {s U : State} (hW : s.WarmedH U.vm) (h : KN s) : KN U := by
  obtain ⟨h0, h1, h2, h3, h4, ha, hb, hc⟩ := h
  exact ⟨h0.warmM hW, h1.warmM hW, h2.warmM hW, h3.warmM hW, h4.warmM hW, ha.moved hW.alike, hb.moved hW.alike, hc.moved hW.alike⟩
theorem KN.same {u U : State} (hv : u.vm = U.vm) (h : KN u) : KN U := by
  obtain ⟨h0, h1, h2, h3, h4, ha, hb, hc⟩ := h
  have hA : u.vm.Alike U.vm := hv ▸ Vm.Alike.refl u.vm
  exact ⟨va_Nw.same rfl hv h0, va_Nw.same rfl hv h1, va_Nw.same rfl hv h2, va_Nw.same rfl hv h3, va_Nw.same rfl hv h4, ha.moved hA, hb.moved hA, hc.moved hA⟩
def CY (p : Program) (s : State) (m : MethodId) (args : Array Value) (c : Code) (E : Ev) (own : String) (cc : ByteArray) (nL : Nat) (A : Nat → Prop) : Prop := CallFix p m c cc nL s args uW own ∧ va_K (eD E) vwCl (eT E) s ∧ (∀ q, s.heap.size ≤ q → A q) ∧ KN s
def Gx (E : Ev) (ws : va_W) (A : Nat → Prop) (s : State) (H : Heap) (locs : List Loc) : Prop := va_P (eD E) vwCl ws H ∧ va_D A ws ∧ va_S A s.heap H locs
def PreX (E : Ev) (ws : va_W) (sz : Nat) (U : State) : Prop := U.heap.size = sz ∧ va_P (eD E) vwCl ws U.heap ∧ va_K (eD E) vwCl (eT E) U ∧ va_D (fun _ => True) ws ∧ KN U
abbrev QX (E : Ev) (w1 : (Nat → Nat) → va_W) (A : Nat → Prop) := va_Qv (S := Nat → Nat) (fun _ => True) (fun u t => va_P (eD E) vwCl (w1 u) t.heap ∧ va_K (eD E) vwCl (eT E) t ∧ va_D A (w1 u)) A
theorem arrV_cong {c : ClassId} {N : Nat} {f g : Nat → Value} (h : ∀ j, j < N → f j = g j) : arrV c N f = arrV c N g := by
  unfold arrV
  congr 1
  congr 1
  funext j
  exact h j.val j.isLt
theorem Gx_repl {E : Ev} {ws : va_W} {A : Nat → Prop} {s : State} {H : Heap} {locs : List Loc} {a : Nat} {e e2 : va_E} (G : Gx E ws A s H locs) (k : Nat) (hk : ws[k]? = some (a, e)) (h : va_at (eD E) vwCl (a, e) H → va_at (eD E) vwCl (a, e2) H) : Gx E (ws.set k (a, e2)) A s H locs := by
  have key : ∀ (j : Nat) (x : Nat × va_E), (ws.set k (a, e2))[j]? = some x → ∃ y : Nat × va_E, y.1 = x.1 ∧ ws[j]? = some y ∧ (j = k → x = (a, e2)) ∧ (j ≠ k → x = y) := by
    intro j x hx
    rw [List.getElem?_set] at hx
    by_cases hj : k = j
    · subst hj
      rw [if_pos rfl] at hx
      have hlt : k < ws.length := (List.getElem?_eq_some_iff.mp hk).1
      rw [if_pos hlt] at hx
      cases hx
      exact ⟨(a, e), rfl, hk, fun _ => rfl, fun q => absurd rfl q⟩
    · rw [if_neg hj] at hx
      exact ⟨x, rfl, hx, fun q => absurd q.symm hj, fun _ => rfl⟩
  refine ⟨fun j x hx => ?_, ⟨fun i j x y hx hy he => ?_, fun j x hx => ?_⟩, G.2.2⟩
  · obtain ⟨y, h1, h2, h3, h4⟩ := key j x hx
    by_cases hj : j = k
    · rw [h3 hj]
      exact h (G.1 k _ hk)
    · rw [h4 hj]
      exact G.1 j y h2
  · obtain ⟨x', h1, h2, -, -⟩ := key i x hx
    obtain ⟨y', h3, h4, -, -⟩ := key j y hy
    exact G.2.1.1 i j x' y' h2 h4 (by rw [h1, h3]; exact he)
  · obtain ⟨y, h1, h2, -, -⟩ := key j x hx
    rw [← h1]
    exact G.2.1.2 j y h2
section XR
variable {p : Program} {l : Launch} {e : Env} {R : Room} {s : State} {m : MethodId} {args : Array Value} {below : List Frame} {meth : Method} {c : Code} {H : Heap} {locs : List Loc} {cells slots : Nat} {Q : State → Prop} {cc : ByteArray} {pc : Nat} {ls : Array Slot} {rest : List Value} {nL : Nat}
variable {E : Ev} {ws : va_W} {A : Nat → Prop} {own : String} {sz : Nat}
theorem Met_inX {y : MethodName} {cc : ByteArray} {maxL : Nat} {rm : Room} {av : List Value} {Qc : Array Value → State → Outcome → State → Prop} {mc ms : Nat} {free : Addr → Prop} (hy : plainName y.cls = true) (hyn : y.name = "<init>") (hlen : (lg_sl av).length ≤ maxL)
    (body : ∀ (p : Program) (e : Env) (s : State) (m : MethodId) (below : List Frame) (meth : Method) (c : Code), CY p s m av.toArray c E y.cls cc maxL (va_A ws sz) → meth.sig.returnType = none → meth.locks = false → meth.name = "<init>" → Gx E ws (va_A ws sz) s s.heap [] → ∀ ls : Array Slot, lv_has ls maxL (lv_args 0 av) → W p l e rm s m av.toArray below meth c s.heap [] 0 0 (MQ below Qc av.toArray s mc ms free) (F0 m 0 ls [])) :
    Met l y (.code y cc maxL none :: uW) rm (va_Pc av (PreX E ws sz)) Qc mc ms free := by
  refine Met.ofW (cc := cc) (maxL := maxL) (ret := none) hy rfl ?_
  intro p e s m args below meth c s₁ B hml hv
  obtain ⟨rfl, hsz, hP, hK, hD0, hC⟩ := hv
  have hts := atoms_spec (ws := .code y cc maxL none :: uW) B.pre
  have hown : s.vm.findClass y.cls = some m.cls := findClass_of_methodNamed B.named
  have hin : meth.name = "<init>" := ((name_of_methodNamed B.named B.method).1).trans hyn
  have hl := lv_entry av (n := maxL) hlen
  rw [lg_entry_eq]
  generalize (lg_sl av ++ List.replicate (maxL - (lg_sl av).length) Slot.unset).toArray = ls at hl ⊢
  exact body p e s m below meth c ⟨⟨B.exec, B.bytes, hml, hown, fun w hw => hts w (List.mem_cons_of_mem _ hw)⟩, hK, fun q h => Or.inr (by rw [← hsz]; exact h), hC⟩ B.returns B.notSynchronized hin ⟨hP, hD0.self, va_S.rf⟩ ls hl
theorem PreX_blind {av : List Value} : FrameBlind (va_Pc av (PreX E ws sz)) := by
  intro a U g mk q
  obtain ⟨q0, q1, q2, q3, q4, q5⟩ := q
  exact ⟨q0, q1, q2, va_K.moved (u := U) (U := U.calling g mk a) (Vm.Alike.refl U.vm) q3, q4, KN.same (u := U) (U := U.calling g mk a) rfl q5⟩
theorem x_obj (Y : CY p s m args c E own cc nL A) (hsz : ls.size = nL) {idx a : Nat} (h1 : Cond.methodLink own idx Lib.objectInit ∈ uW) (h2 : Cond.instanceMethod Lib.objectInit ∈ uW) (h3 : Cond.code Lib.objectInit ⟨#[0xb1]⟩ 1 none ∈ uW) (hframes : 1 ≤ R.frames) (hlocals : (rest.map fun v => v.category).sum + 12 ≤ R.locals) (hdg : decode cc pc = .ok (.invokespecial idx, 3)) (kk : W p l e R s m args below meth c H locs cells slots Q (F0 m (pc + 3) ls rest)) : W p l e R s m args below meth c H locs cells slots Q (F0 m pc ls (.ref a :: rest)) := by
  obtain ⟨⟨hx, hb, hml, hown, hts⟩, -⟩ := Y
  refine W.objInit hx hb hown (hts _ h1) (hts _ h2) (hts _ h3) rfl (by rw [hml]; exact hsz) rfl hdg hframes ?_ kk
  show 2 * 0 + _ + 12 ≤ R.locals
  omega
theorem xn0 (Y : CY p s m args c E own cc nL A) (G : Gx E ws A s H locs) {index c2 n2 : Nat} (h1 : Cond.classLink own index RX0 ∈ uW) (h2 : Cond.instantiable RX0 4 ∈ uW) (h3 : Cond.initialized RX0 ∈ uW) (hc : cells + 1 ≤ c2) (hn : slots + 4 ≤ n2) (hc2 : c2 ≤ R.cells) (hn2 : n2 ≤ R.slots) (hdg : decode cc pc = .ok (.new index, 3))
    (kk : ∀ (q : Nat) (H : Heap), Gx E (ws ++ [(q, .inr (0, [.null, .null, .int 0, .null]))]) A s H locs → W p l e R s m args below meth c H locs c2 n2 Q (F0 m (pc + 3) ls (.ref q :: rest))) : W p l e R s m args below meth c H locs cells slots Q (F0 m pc ls rest) := by
  obtain ⟨⟨hx, hb, hml, hown, hts⟩, hK, hA, hC⟩ := Y
  exact va_new (ci := 0) (fs := [.null, .null, .int 0, .null]) (C := RX0) (T := TX0) (N := 4) hx hb hts iwX0 tyX0 tyX0_ok hown (hts _ h1) (hts _ h2) (hts _ h3) hK G.1 G.2.1 G.2.2 hA rfl (by decide +kernel) (Nat.le_trans hc hc2) (Nat.le_trans hn hn2) hdg (fun q H1 hP hD hS => W.widen hc hn (kk q H1 ⟨hP, hD, hS⟩))
theorem xpF0 (Y : CY p s m args c E RX0 cc nL A) (G : Gx E ws A s H locs) (hm : meth.name = "<init>") (q0 : Nat) {a index : Nat} {fs : List Value} (he : ws[q0]? = some (a, .inr (0, fs))) (j : Nat) (hj : j < 4) {v : Value} (hl : Cond.fieldLink RX0 index (TX0 j).1 (TX0 j).2.1 (TX0 j).2.2.1 ∈ uW) (hfin : (TX0 j).2.2.2 = true) (hdc : (TX0 j).1 = RX0) {ty : FieldType} (hd : parseFieldDescriptor (TX0 j).2.2.1 = some ty) (hn : narrow ty v = v) (hfit : fits ty v = true) (hlen : j < fs.length) (hdg : decode cc pc = .ok (.putfield index, 3)) {ws' : va_W} (hws : ws.set q0 (a, .inr (0, fs.set j v)) = ws')
    (kk : ∀ (H : Heap) (locs : List Loc), Gx E ws' A s H locs → W p l e R s m args below meth c H locs cells slots Q (F0 m (pc + 3) ls rest)) : W p l e R s m args below meth c H locs cells slots Q (F0 m pc ls (v :: .ref a :: rest)) := by
  obtain ⟨⟨hx, hb, hml, hown, hts⟩, hK, hA, hC⟩ := Y
  subst hws
  exact va_putF (D := eD E) (ci := 0) (v := v) (ty := ty) (C := RX0) (T := TX0) (N := 4) hx hb hts iwX0 tyX0 tyX0_ok nmX0 hown hK G.1 G.2.1 G.2.2 q0 he rfl j hj (hts _ hl) (fun _ h9 => h9) hfin hm hdc hd hn hfit hlen hdg (fun H1 locs1 hP hD hS => kk H1 locs1 ⟨hP, hD, hS⟩)
theorem xpN0 (Y : CY p s m args c E own cc nL A) (G : Gx E ws A s H locs) (q0 : Nat) {a index : Nat} {fs : List Value} (he : ws[q0]? = some (a, .inr (0, fs))) (j : Nat) (hj : j < 4) {v : Value} (hl : Cond.fieldLink own index (TX0 j).1 (TX0 j).2.1 (TX0 j).2.2.1 ∈ uW) (hfin : (TX0 j).2.2.2 = false) {ty : FieldType} (hd : parseFieldDescriptor (TX0 j).2.2.1 = some ty) (hn : narrow ty v = v) (hfit : fits ty v = true) (hlen : j < fs.length) (hdg : decode cc pc = .ok (.putfield index, 3)) {ws' : va_W} (hws : ws.set q0 (a, .inr (0, fs.set j v)) = ws')
    (kk : ∀ (H : Heap) (locs : List Loc), Gx E ws' A s H locs → W p l e R s m args below meth c H locs cells slots Q (F0 m (pc + 3) ls rest)) : W p l e R s m args below meth c H locs cells slots Q (F0 m pc ls (v :: .ref a :: rest)) := by
  obtain ⟨⟨hx, hb, hml, hown, hts⟩, hK, hA, hC⟩ := Y
  subst hws
  exact va_put (D := eD E) (ci := 0) (v := v) (ty := ty) (C := RX0) (T := TX0) (N := 4) hx hb hts iwX0 tyX0 tyX0_ok nmX0 hown hK G.1 G.2.1 G.2.2 q0 he rfl j hj (hts _ hl) (fun _ h9 => h9) hfin hd hn hfit hlen hdg (fun H1 locs1 hP hD hS => kk H1 locs1 ⟨hP, hD, hS⟩)
theorem xn1 (Y : CY p s m args c E own cc nL A) (G : Gx E ws A s H locs) {index c2 n2 : Nat} (h1 : Cond.classLink own index RX1 ∈ uW) (h2 : Cond.instantiable RX1 13 ∈ uW) (h3 : Cond.initialized RX1 ∈ uW) (hc : cells + 1 ≤ c2) (hn : slots + 13 ≤ n2) (hc2 : c2 ≤ R.cells) (hn2 : n2 ≤ R.slots) (hdg : decode cc pc = .ok (.new index, 3))
    (kk : ∀ (q : Nat) (H : Heap), Gx E (ws ++ [(q, .inr (1, [.int 0, .int 0, .int 0, .int 0, .int 0, .int 0, .int 0, .int 0, .null, .null, .null, .null, .null]))]) A s H locs → W p l e R s m args below meth c H locs c2 n2 Q (F0 m (pc + 3) ls (.ref q :: rest))) : W p l e R s m args below meth c H locs cells slots Q (F0 m pc ls rest) := by
  obtain ⟨⟨hx, hb, hml, hown, hts⟩, hK, hA, hC⟩ := Y
  exact va_new (ci := 1) (fs := [.int 0, .int 0, .int 0, .int 0, .int 0, .int 0, .int 0, .int 0, .null, .null, .null, .null, .null]) (C := RX1) (T := TX1) (N := 13) hx hb hts iwX1 tyX1 tyX1_ok hown (hts _ h1) (hts _ h2) (hts _ h3) hK G.1 G.2.1 G.2.2 hA rfl (by decide +kernel) (Nat.le_trans hc hc2) (Nat.le_trans hn hn2) hdg (fun q H1 hP hD hS => W.widen hc hn (kk q H1 ⟨hP, hD, hS⟩))
theorem xpF1 (Y : CY p s m args c E RX1 cc nL A) (G : Gx E ws A s H locs) (hm : meth.name = "<init>") (q0 : Nat) {a index : Nat} {fs : List Value} (he : ws[q0]? = some (a, .inr (1, fs))) (j : Nat) (hj : j < 13) {v : Value} (hl : Cond.fieldLink RX1 index (TX1 j).1 (TX1 j).2.1 (TX1 j).2.2.1 ∈ uW) (hfin : (TX1 j).2.2.2 = true) (hdc : (TX1 j).1 = RX1) {ty : FieldType} (hd : parseFieldDescriptor (TX1 j).2.2.1 = some ty) (hn : narrow ty v = v) (hfit : fits ty v = true) (hlen : j < fs.length) (hdg : decode cc pc = .ok (.putfield index, 3)) {ws' : va_W} (hws : ws.set q0 (a, .inr (1, fs.set j v)) = ws')
    (kk : ∀ (H : Heap) (locs : List Loc), Gx E ws' A s H locs → W p l e R s m args below meth c H locs cells slots Q (F0 m (pc + 3) ls rest)) : W p l e R s m args below meth c H locs cells slots Q (F0 m pc ls (v :: .ref a :: rest)) := by
  obtain ⟨⟨hx, hb, hml, hown, hts⟩, hK, hA, hC⟩ := Y
  subst hws
  exact va_putF (D := eD E) (ci := 1) (v := v) (ty := ty) (C := RX1) (T := TX1) (N := 13) hx hb hts iwX1 tyX1 tyX1_ok nmX1 hown hK G.1 G.2.1 G.2.2 q0 he rfl j hj (hts _ hl) (fun _ h9 => h9) hfin hm hdc hd hn hfit hlen hdg (fun H1 locs1 hP hD hS => kk H1 locs1 ⟨hP, hD, hS⟩)
theorem xpN1 (Y : CY p s m args c E own cc nL A) (G : Gx E ws A s H locs) (q0 : Nat) {a index : Nat} {fs : List Value} (he : ws[q0]? = some (a, .inr (1, fs))) (j : Nat) (hj : j < 13) {v : Value} (hl : Cond.fieldLink own index (TX1 j).1 (TX1 j).2.1 (TX1 j).2.2.1 ∈ uW) (hfin : (TX1 j).2.2.2 = false) {ty : FieldType} (hd : parseFieldDescriptor (TX1 j).2.2.1 = some ty) (hn : narrow ty v = v) (hfit : fits ty v = true) (hlen : j < fs.length) (hdg : decode cc pc = .ok (.putfield index, 3)) {ws' : va_W} (hws : ws.set q0 (a, .inr (1, fs.set j v)) = ws')
    (kk : ∀ (H : Heap) (locs : List Loc), Gx E ws' A s H locs → W p l e R s m args below meth c H locs cells slots Q (F0 m (pc + 3) ls rest)) : W p l e R s m args below meth c H locs cells slots Q (F0 m pc ls (v :: .ref a :: rest)) := by
  obtain ⟨⟨hx, hb, hml, hown, hts⟩, hK, hA, hC⟩ := Y
  subst hws
  exact va_put (D := eD E) (ci := 1) (v := v) (ty := ty) (C := RX1) (T := TX1) (N := 13) hx hb hts iwX1 tyX1 tyX1_ok nmX1 hown hK G.1 G.2.1 G.2.2 q0 he rfl j hj (hts _ hl) (fun _ h9 => h9) hfin hd hn hfit hlen hdg (fun H1 locs1 hP hD hS => kk H1 locs1 ⟨hP, hD, hS⟩)
theorem xn2 (Y : CY p s m args c E own cc nL A) (G : Gx E ws A s H locs) {index c2 n2 : Nat} (h1 : Cond.classLink own index RX2 ∈ uW) (h2 : Cond.instantiable RX2 10 ∈ uW) (h3 : Cond.initialized RX2 ∈ uW) (hc : cells + 1 ≤ c2) (hn : slots + 10 ≤ n2) (hc2 : c2 ≤ R.cells) (hn2 : n2 ≤ R.slots) (hdg : decode cc pc = .ok (.new index, 3))
    (kk : ∀ (q : Nat) (H : Heap), Gx E (ws ++ [(q, .inr (2, [.null, .null, .null, .int 0, .null, .null, .null, .int 0, .int 0, .int 0]))]) A s H locs → W p l e R s m args below meth c H locs c2 n2 Q (F0 m (pc + 3) ls (.ref q :: rest))) : W p l e R s m args below meth c H locs cells slots Q (F0 m pc ls rest) := by
  obtain ⟨⟨hx, hb, hml, hown, hts⟩, hK, hA, hC⟩ := Y
  exact va_new (ci := 2) (fs := [.null, .null, .null, .int 0, .null, .null, .null, .int 0, .int 0, .int 0]) (C := RX2) (T := TX2) (N := 10) hx hb hts iwX2 tyX2 tyX2_ok hown (hts _ h1) (hts _ h2) (hts _ h3) hK G.1 G.2.1 G.2.2 hA rfl (by decide +kernel) (Nat.le_trans hc hc2) (Nat.le_trans hn hn2) hdg (fun q H1 hP hD hS => W.widen hc hn (kk q H1 ⟨hP, hD, hS⟩))
theorem xpF2 (Y : CY p s m args c E RX2 cc nL A) (G : Gx E ws A s H locs) (hm : meth.name = "<init>") (q0 : Nat) {a index : Nat} {fs : List Value} (he : ws[q0]? = some (a, .inr (2, fs))) (j : Nat) (hj : j < 10) {v : Value} (hl : Cond.fieldLink RX2 index (TX2 j).1 (TX2 j).2.1 (TX2 j).2.2.1 ∈ uW) (hfin : (TX2 j).2.2.2 = true) (hdc : (TX2 j).1 = RX2) {ty : FieldType} (hd : parseFieldDescriptor (TX2 j).2.2.1 = some ty) (hn : narrow ty v = v) (hfit : fits ty v = true) (hlen : j < fs.length) (hdg : decode cc pc = .ok (.putfield index, 3)) {ws' : va_W} (hws : ws.set q0 (a, .inr (2, fs.set j v)) = ws')
    (kk : ∀ (H : Heap) (locs : List Loc), Gx E ws' A s H locs → W p l e R s m args below meth c H locs cells slots Q (F0 m (pc + 3) ls rest)) : W p l e R s m args below meth c H locs cells slots Q (F0 m pc ls (v :: .ref a :: rest)) := by
  obtain ⟨⟨hx, hb, hml, hown, hts⟩, hK, hA, hC⟩ := Y
  subst hws
  exact va_putF (D := eD E) (ci := 2) (v := v) (ty := ty) (C := RX2) (T := TX2) (N := 10) hx hb hts iwX2 tyX2 tyX2_ok nmX2 hown hK G.1 G.2.1 G.2.2 q0 he rfl j hj (hts _ hl) (fun _ h9 => h9) hfin hm hdc hd hn hfit hlen hdg (fun H1 locs1 hP hD hS => kk H1 locs1 ⟨hP, hD, hS⟩)
theorem xpN2 (Y : CY p s m args c E own cc nL A) (G : Gx E ws A s H locs) (q0 : Nat) {a index : Nat} {fs : List Value} (he : ws[q0]? = some (a, .inr (2, fs))) (j : Nat) (hj : j < 10) {v : Value} (hl : Cond.fieldLink own index (TX2 j).1 (TX2 j).2.1 (TX2 j).2.2.1 ∈ uW) (hfin : (TX2 j).2.2.2 = false) {ty : FieldType} (hd : parseFieldDescriptor (TX2 j).2.2.1 = some ty) (hn : narrow ty v = v) (hfit : fits ty v = true) (hlen : j < fs.length) (hdg : decode cc pc = .ok (.putfield index, 3)) {ws' : va_W} (hws : ws.set q0 (a, .inr (2, fs.set j v)) = ws')
    (kk : ∀ (H : Heap) (locs : List Loc), Gx E ws' A s H locs → W p l e R s m args below meth c H locs cells slots Q (F0 m (pc + 3) ls rest)) : W p l e R s m args below meth c H locs cells slots Q (F0 m pc ls (v :: .ref a :: rest)) := by
  obtain ⟨⟨hx, hb, hml, hown, hts⟩, hK, hA, hC⟩ := Y
  subst hws
  exact va_put (D := eD E) (ci := 2) (v := v) (ty := ty) (C := RX2) (T := TX2) (N := 10) hx hb hts iwX2 tyX2 tyX2_ok nmX2 hown hK G.1 G.2.1 G.2.2 q0 he rfl j hj (hts _ hl) (fun _ h9 => h9) hfin hd hn hfit hlen hdg (fun H1 locs1 hP hD hS => kk H1 locs1 ⟨hP, hD, hS⟩)
theorem xg2 (Y : CY p s m args c E own cc nL A) (G : Gx E ws A s H locs) (q0 : Nat) {a index : Nat} {fs : List Value} (he : ws[q0]? = some (a, .inr (2, fs))) (j : Nat) (hj : j < 10) {v : Value} (hv : fs[j]? = some v) (hl : Cond.fieldLink own index (TX2 j).1 (TX2 j).2.1 (TX2 j).2.2.1 ∈ uW) (hdg : decode cc pc = .ok (.getfield index, 3))
    (kk : W p l e R s m args below meth c H locs cells slots Q (F0 m (pc + 3) ls (v :: rest))) : W p l e R s m args below meth c H locs cells slots Q (F0 m pc ls (.ref a :: rest)) := by
  obtain ⟨⟨hx, hb, hml, hown, hts⟩, hK, hA, hC⟩ := Y
  exact va_get (D := eD E) (ci := 2) (v := v) (C := RX2) (T := TX2) (N := 10) hx hb hts iwX2 hown hK G.1 q0 he rfl j hj (hts _ hl) (fun _ h9 => h9) hv hdg kk
theorem xn3 (Y : CY p s m args c E own cc nL A) (G : Gx E ws A s H locs) {index c2 n2 : Nat} (h1 : Cond.classLink own index RX3 ∈ uW) (h2 : Cond.instantiable RX3 11 ∈ uW) (h3 : Cond.initialized RX3 ∈ uW) (hc : cells + 1 ≤ c2) (hn : slots + 11 ≤ n2) (hc2 : c2 ≤ R.cells) (hn2 : n2 ≤ R.slots) (hdg : decode cc pc = .ok (.new index, 3))
    (kk : ∀ (q : Nat) (H : Heap), Gx E (ws ++ [(q, .inr (3, [.null, .null, .null, .null, .null, .int 0, .int 0, .null, .int 0, .int 0, .int 0]))]) A s H locs → W p l e R s m args below meth c H locs c2 n2 Q (F0 m (pc + 3) ls (.ref q :: rest))) : W p l e R s m args below meth c H locs cells slots Q (F0 m pc ls rest) := by
  obtain ⟨⟨hx, hb, hml, hown, hts⟩, hK, hA, hC⟩ := Y
  exact va_new (ci := 3) (fs := [.null, .null, .null, .null, .null, .int 0, .int 0, .null, .int 0, .int 0, .int 0]) (C := RX3) (T := TX3) (N := 11) hx hb hts iwX3 tyX3 tyX3_ok hown (hts _ h1) (hts _ h2) (hts _ h3) hK G.1 G.2.1 G.2.2 hA rfl (by decide +kernel) (Nat.le_trans hc hc2) (Nat.le_trans hn hn2) hdg (fun q H1 hP hD hS => W.widen hc hn (kk q H1 ⟨hP, hD, hS⟩))
theorem xpF3 (Y : CY p s m args c E RX3 cc nL A) (G : Gx E ws A s H locs) (hm : meth.name = "<init>") (q0 : Nat) {a index : Nat} {fs : List Value} (he : ws[q0]? = some (a, .inr (3, fs))) (j : Nat) (hj : j < 11) {v : Value} (hl : Cond.fieldLink RX3 index (TX3 j).1 (TX3 j).2.1 (TX3 j).2.2.1 ∈ uW) (hfin : (TX3 j).2.2.2 = true) (hdc : (TX3 j).1 = RX3) {ty : FieldType} (hd : parseFieldDescriptor (TX3 j).2.2.1 = some ty) (hn : narrow ty v = v) (hfit : fits ty v = true) (hlen : j < fs.length) (hdg : decode cc pc = .ok (.putfield index, 3)) {ws' : va_W} (hws : ws.set q0 (a, .inr (3, fs.set j v)) = ws')
    (kk : ∀ (H : Heap) (locs : List Loc), Gx E ws' A s H locs → W p l e R s m args below meth c H locs cells slots Q (F0 m (pc + 3) ls rest)) : W p l e R s m args below meth c H locs cells slots Q (F0 m pc ls (v :: .ref a :: rest)) := by
  obtain ⟨⟨hx, hb, hml, hown, hts⟩, hK, hA, hC⟩ := Y
  subst hws
  exact va_putF (D := eD E) (ci := 3) (v := v) (ty := ty) (C := RX3) (T := TX3) (N := 11) hx hb hts iwX3 tyX3 tyX3_ok nmX3 hown hK G.1 G.2.1 G.2.2 q0 he rfl j hj (hts _ hl) (fun _ h9 => h9) hfin hm hdc hd hn hfit hlen hdg (fun H1 locs1 hP hD hS => kk H1 locs1 ⟨hP, hD, hS⟩)
theorem xpN3 (Y : CY p s m args c E own cc nL A) (G : Gx E ws A s H locs) (q0 : Nat) {a index : Nat} {fs : List Value} (he : ws[q0]? = some (a, .inr (3, fs))) (j : Nat) (hj : j < 11) {v : Value} (hl : Cond.fieldLink own index (TX3 j).1 (TX3 j).2.1 (TX3 j).2.2.1 ∈ uW) (hfin : (TX3 j).2.2.2 = false) {ty : FieldType} (hd : parseFieldDescriptor (TX3 j).2.2.1 = some ty) (hn : narrow ty v = v) (hfit : fits ty v = true) (hlen : j < fs.length) (hdg : decode cc pc = .ok (.putfield index, 3)) {ws' : va_W} (hws : ws.set q0 (a, .inr (3, fs.set j v)) = ws')
    (kk : ∀ (H : Heap) (locs : List Loc), Gx E ws' A s H locs → W p l e R s m args below meth c H locs cells slots Q (F0 m (pc + 3) ls rest)) : W p l e R s m args below meth c H locs cells slots Q (F0 m pc ls (v :: .ref a :: rest)) := by
  obtain ⟨⟨hx, hb, hml, hown, hts⟩, hK, hA, hC⟩ := Y
  subst hws
  exact va_put (D := eD E) (ci := 3) (v := v) (ty := ty) (C := RX3) (T := TX3) (N := 11) hx hb hts iwX3 tyX3 tyX3_ok nmX3 hown hK G.1 G.2.1 G.2.2 q0 he rfl j hj (hts _ hl) (fun _ h9 => h9) hfin hd hn hfit hlen hdg (fun H1 locs1 hP hD hS => kk H1 locs1 ⟨hP, hD, hS⟩)
theorem xn4 (Y : CY p s m args c E own cc nL A) (G : Gx E ws A s H locs) {index c2 n2 : Nat} (h1 : Cond.classLink own index RX4 ∈ uW) (h2 : Cond.instantiable RX4 7 ∈ uW) (h3 : Cond.initialized RX4 ∈ uW) (hc : cells + 1 ≤ c2) (hn : slots + 7 ≤ n2) (hc2 : c2 ≤ R.cells) (hn2 : n2 ≤ R.slots) (hdg : decode cc pc = .ok (.new index, 3))
    (kk : ∀ (q : Nat) (H : Heap), Gx E (ws ++ [(q, .inr (4, [.null, .int 0, .null, .null, .null, .int 0, .null]))]) A s H locs → W p l e R s m args below meth c H locs c2 n2 Q (F0 m (pc + 3) ls (.ref q :: rest))) : W p l e R s m args below meth c H locs cells slots Q (F0 m pc ls rest) := by
  obtain ⟨⟨hx, hb, hml, hown, hts⟩, hK, hA, hC⟩ := Y
  exact va_new (ci := 4) (fs := [.null, .int 0, .null, .null, .null, .int 0, .null]) (C := RX4) (T := TX4) (N := 7) hx hb hts iwX4 tyX4 tyX4_ok hown (hts _ h1) (hts _ h2) (hts _ h3) hK G.1 G.2.1 G.2.2 hA rfl (by decide +kernel) (Nat.le_trans hc hc2) (Nat.le_trans hn hn2) hdg (fun q H1 hP hD hS => W.widen hc hn (kk q H1 ⟨hP, hD, hS⟩))
theorem xpF4 (Y : CY p s m args c E RX4 cc nL A) (G : Gx E ws A s H locs) (hm : meth.name = "<init>") (q0 : Nat) {a index : Nat} {fs : List Value} (he : ws[q0]? = some (a, .inr (4, fs))) (j : Nat) (hj : j < 7) {v : Value} (hl : Cond.fieldLink RX4 index (TX4 j).1 (TX4 j).2.1 (TX4 j).2.2.1 ∈ uW) (hfin : (TX4 j).2.2.2 = true) (hdc : (TX4 j).1 = RX4) {ty : FieldType} (hd : parseFieldDescriptor (TX4 j).2.2.1 = some ty) (hn : narrow ty v = v) (hfit : fits ty v = true) (hlen : j < fs.length) (hdg : decode cc pc = .ok (.putfield index, 3)) {ws' : va_W} (hws : ws.set q0 (a, .inr (4, fs.set j v)) = ws')
    (kk : ∀ (H : Heap) (locs : List Loc), Gx E ws' A s H locs → W p l e R s m args below meth c H locs cells slots Q (F0 m (pc + 3) ls rest)) : W p l e R s m args below meth c H locs cells slots Q (F0 m pc ls (v :: .ref a :: rest)) := by
  obtain ⟨⟨hx, hb, hml, hown, hts⟩, hK, hA, hC⟩ := Y
  subst hws
  exact va_putF (D := eD E) (ci := 4) (v := v) (ty := ty) (C := RX4) (T := TX4) (N := 7) hx hb hts iwX4 tyX4 tyX4_ok nmX4 hown hK G.1 G.2.1 G.2.2 q0 he rfl j hj (hts _ hl) (fun _ h9 => h9) hfin hm hdc hd hn hfit hlen hdg (fun H1 locs1 hP hD hS => kk H1 locs1 ⟨hP, hD, hS⟩)
theorem xpN4 (Y : CY p s m args c E own cc nL A) (G : Gx E ws A s H locs) (q0 : Nat) {a index : Nat} {fs : List Value} (he : ws[q0]? = some (a, .inr (4, fs))) (j : Nat) (hj : j < 7) {v : Value} (hl : Cond.fieldLink own index (TX4 j).1 (TX4 j).2.1 (TX4 j).2.2.1 ∈ uW) (hfin : (TX4 j).2.2.2 = false) {ty : FieldType} (hd : parseFieldDescriptor (TX4 j).2.2.1 = some ty) (hn : narrow ty v = v) (hfit : fits ty v = true) (hlen : j < fs.length) (hdg : decode cc pc = .ok (.putfield index, 3)) {ws' : va_W} (hws : ws.set q0 (a, .inr (4, fs.set j v)) = ws')
    (kk : ∀ (H : Heap) (locs : List Loc), Gx E ws' A s H locs → W p l e R s m args below meth c H locs cells slots Q (F0 m (pc + 3) ls rest)) : W p l e R s m args below meth c H locs cells slots Q (F0 m pc ls (v :: .ref a :: rest)) := by
  obtain ⟨⟨hx, hb, hml, hown, hts⟩, hK, hA, hC⟩ := Y
  subst hws
  exact va_put (D := eD E) (ci := 4) (v := v) (ty := ty) (C := RX4) (T := TX4) (N := 7) hx hb hts iwX4 tyX4 tyX4_ok nmX4 hown hK G.1 G.2.1 G.2.2 q0 he rfl j hj (hts _ hl) (fun _ h9 => h9) hfin hd hn hfit hlen hdg (fun H1 locs1 hP hD hS => kk H1 locs1 ⟨hP, hD, hS⟩)
theorem xn5 (Y : CY p s m args c E own cc nL A) (G : Gx E ws A s H locs) {index c2 n2 : Nat} (h1 : Cond.classLink own index RX5 ∈ uW) (h2 : Cond.instantiable RX5 4 ∈ uW) (h3 : Cond.initialized RX5 ∈ uW) (hc : cells + 1 ≤ c2) (hn : slots + 4 ≤ n2) (hc2 : c2 ≤ R.cells) (hn2 : n2 ≤ R.slots) (hdg : decode cc pc = .ok (.new index, 3))
    (kk : ∀ (q : Nat) (H : Heap), Gx E (ws ++ [(q, .inr (5, [.null, .null, .int 0, .int 0]))]) A s H locs → W p l e R s m args below meth c H locs c2 n2 Q (F0 m (pc + 3) ls (.ref q :: rest))) : W p l e R s m args below meth c H locs cells slots Q (F0 m pc ls rest) := by
  obtain ⟨⟨hx, hb, hml, hown, hts⟩, hK, hA, hC⟩ := Y
  exact va_new (ci := 5) (fs := [.null, .null, .int 0, .int 0]) (C := RX5) (T := TX5) (N := 4) hx hb hts iwX5 tyX5 tyX5_ok hown (hts _ h1) (hts _ h2) (hts _ h3) hK G.1 G.2.1 G.2.2 hA rfl (by decide +kernel) (Nat.le_trans hc hc2) (Nat.le_trans hn hn2) hdg (fun q H1 hP hD hS => W.widen hc hn (kk q H1 ⟨hP, hD, hS⟩))
theorem xpF5 (Y : CY p s m args c E RX5 cc nL A) (G : Gx E ws A s H locs) (hm : meth.name = "<init>") (q0 : Nat) {a index : Nat} {fs : List Value} (he : ws[q0]? = some (a, .inr (5, fs))) (j : Nat) (hj : j < 4) {v : Value} (hl : Cond.fieldLink RX5 index (TX5 j).1 (TX5 j).2.1 (TX5 j).2.2.1 ∈ uW) (hfin : (TX5 j).2.2.2 = true) (hdc : (TX5 j).1 = RX5) {ty : FieldType} (hd : parseFieldDescriptor (TX5 j).2.2.1 = some ty) (hn : narrow ty v = v) (hfit : fits ty v = true) (hlen : j < fs.length) (hdg : decode cc pc = .ok (.putfield index, 3)) {ws' : va_W} (hws : ws.set q0 (a, .inr (5, fs.set j v)) = ws')
    (kk : ∀ (H : Heap) (locs : List Loc), Gx E ws' A s H locs → W p l e R s m args below meth c H locs cells slots Q (F0 m (pc + 3) ls rest)) : W p l e R s m args below meth c H locs cells slots Q (F0 m pc ls (v :: .ref a :: rest)) := by
  obtain ⟨⟨hx, hb, hml, hown, hts⟩, hK, hA, hC⟩ := Y
  subst hws
  exact va_putF (D := eD E) (ci := 5) (v := v) (ty := ty) (C := RX5) (T := TX5) (N := 4) hx hb hts iwX5 tyX5 tyX5_ok nmX5 hown hK G.1 G.2.1 G.2.2 q0 he rfl j hj (hts _ hl) (fun _ h9 => h9) hfin hm hdc hd hn hfit hlen hdg (fun H1 locs1 hP hD hS => kk H1 locs1 ⟨hP, hD, hS⟩)
theorem xpN5 (Y : CY p s m args c E own cc nL A) (G : Gx E ws A s H locs) (q0 : Nat) {a index : Nat} {fs : List Value} (he : ws[q0]? = some (a, .inr (5, fs))) (j : Nat) (hj : j < 4) {v : Value} (hl : Cond.fieldLink own index (TX5 j).1 (TX5 j).2.1 (TX5 j).2.2.1 ∈ uW) (hfin : (TX5 j).2.2.2 = false) {ty : FieldType} (hd : parseFieldDescriptor (TX5 j).2.2.1 = some ty) (hn : narrow ty v = v) (hfit : fits ty v = true) (hlen : j < fs.length) (hdg : decode cc pc = .ok (.putfield index, 3)) {ws' : va_W} (hws : ws.set q0 (a, .inr (5, fs.set j v)) = ws')
    (kk : ∀ (H : Heap) (locs : List Loc), Gx E ws' A s H locs → W p l e R s m args below meth c H locs cells slots Q (F0 m (pc + 3) ls rest)) : W p l e R s m args below meth c H locs cells slots Q (F0 m pc ls (v :: .ref a :: rest)) := by
  obtain ⟨⟨hx, hb, hml, hown, hts⟩, hK, hA, hC⟩ := Y
  subst hws
  exact va_put (D := eD E) (ci := 5) (v := v) (ty := ty) (C := RX5) (T := TX5) (N := 4) hx hb hts iwX5 tyX5 tyX5_ok nmX5 hown hK G.1 G.2.1 G.2.2 q0 he rfl j hj (hts _ hl) (fun _ h9 => h9) hfin hd hn hfit hlen hdg (fun H1 locs1 hP hD hS => kk H1 locs1 ⟨hP, hD, hS⟩)
theorem xn6 (Y : CY p s m args c E own cc nL A) (G : Gx E ws A s H locs) {index c2 n2 : Nat} (h1 : Cond.classLink own index RX6 ∈ uW) (h2 : Cond.instantiable RX6 5 ∈ uW) (h3 : Cond.initialized RX6 ∈ uW) (hc : cells + 1 ≤ c2) (hn : slots + 5 ≤ n2) (hc2 : c2 ≤ R.cells) (hn2 : n2 ≤ R.slots) (hdg : decode cc pc = .ok (.new index, 3))
    (kk : ∀ (q : Nat) (H : Heap), Gx E (ws ++ [(q, .inr (6, [.null, .null, .null, .null, .int 0]))]) A s H locs → W p l e R s m args below meth c H locs c2 n2 Q (F0 m (pc + 3) ls (.ref q :: rest))) : W p l e R s m args below meth c H locs cells slots Q (F0 m pc ls rest) := by
  obtain ⟨⟨hx, hb, hml, hown, hts⟩, hK, hA, hC⟩ := Y
  exact va_new (ci := 6) (fs := [.null, .null, .null, .null, .int 0]) (C := RX6) (T := TX6) (N := 5) hx hb hts iwX6 tyX6 tyX6_ok hown (hts _ h1) (hts _ h2) (hts _ h3) hK G.1 G.2.1 G.2.2 hA rfl (by decide +kernel) (Nat.le_trans hc hc2) (Nat.le_trans hn hn2) hdg (fun q H1 hP hD hS => W.widen hc hn (kk q H1 ⟨hP, hD, hS⟩))
theorem xpF6 (Y : CY p s m args c E RX6 cc nL A) (G : Gx E ws A s H locs) (hm : meth.name = "<init>") (q0 : Nat) {a index : Nat} {fs : List Value} (he : ws[q0]? = some (a, .inr (6, fs))) (j : Nat) (hj : j < 5) {v : Value} (hl : Cond.fieldLink RX6 index (TX6 j).1 (TX6 j).2.1 (TX6 j).2.2.1 ∈ uW) (hfin : (TX6 j).2.2.2 = true) (hdc : (TX6 j).1 = RX6) {ty : FieldType} (hd : parseFieldDescriptor (TX6 j).2.2.1 = some ty) (hn : narrow ty v = v) (hfit : fits ty v = true) (hlen : j < fs.length) (hdg : decode cc pc = .ok (.putfield index, 3)) {ws' : va_W} (hws : ws.set q0 (a, .inr (6, fs.set j v)) = ws')
    (kk : ∀ (H : Heap) (locs : List Loc), Gx E ws' A s H locs → W p l e R s m args below meth c H locs cells slots Q (F0 m (pc + 3) ls rest)) : W p l e R s m args below meth c H locs cells slots Q (F0 m pc ls (v :: .ref a :: rest)) := by
  obtain ⟨⟨hx, hb, hml, hown, hts⟩, hK, hA, hC⟩ := Y
  subst hws
  exact va_putF (D := eD E) (ci := 6) (v := v) (ty := ty) (C := RX6) (T := TX6) (N := 5) hx hb hts iwX6 tyX6 tyX6_ok nmX6 hown hK G.1 G.2.1 G.2.2 q0 he rfl j hj (hts _ hl) (fun _ h9 => h9) hfin hm hdc hd hn hfit hlen hdg (fun H1 locs1 hP hD hS => kk H1 locs1 ⟨hP, hD, hS⟩)
theorem xpN6 (Y : CY p s m args c E own cc nL A) (G : Gx E ws A s H locs) (q0 : Nat) {a index : Nat} {fs : List Value} (he : ws[q0]? = some (a, .inr (6, fs))) (j : Nat) (hj : j < 5) {v : Value} (hl : Cond.fieldLink own index (TX6 j).1 (TX6 j).2.1 (TX6 j).2.2.1 ∈ uW) (hfin : (TX6 j).2.2.2 = false) {ty : FieldType} (hd : parseFieldDescriptor (TX6 j).2.2.1 = some ty) (hn : narrow ty v = v) (hfit : fits ty v = true) (hlen : j < fs.length) (hdg : decode cc pc = .ok (.putfield index, 3)) {ws' : va_W} (hws : ws.set q0 (a, .inr (6, fs.set j v)) = ws')
    (kk : ∀ (H : Heap) (locs : List Loc), Gx E ws' A s H locs → W p l e R s m args below meth c H locs cells slots Q (F0 m (pc + 3) ls rest)) : W p l e R s m args below meth c H locs cells slots Q (F0 m pc ls (v :: .ref a :: rest)) := by
  obtain ⟨⟨hx, hb, hml, hown, hts⟩, hK, hA, hC⟩ := Y
  subst hws
  exact va_put (D := eD E) (ci := 6) (v := v) (ty := ty) (C := RX6) (T := TX6) (N := 5) hx hb hts iwX6 tyX6 tyX6_ok nmX6 hown hK G.1 G.2.1 G.2.2 q0 he rfl j hj (hts _ hl) (fun _ h9 => h9) hfin hd hn hfit hlen hdg (fun H1 locs1 hP hD hS => kk H1 locs1 ⟨hP, hD, hS⟩)
theorem xn7 (Y : CY p s m args c E own cc nL A) (G : Gx E ws A s H locs) {index c2 n2 : Nat} (h1 : Cond.classLink own index RX7 ∈ uW) (h2 : Cond.instantiable RX7 8 ∈ uW) (h3 : Cond.initialized RX7 ∈ uW) (hc : cells + 1 ≤ c2) (hn : slots + 8 ≤ n2) (hc2 : c2 ≤ R.cells) (hn2 : n2 ≤ R.slots) (hdg : decode cc pc = .ok (.new index, 3))
    (kk : ∀ (q : Nat) (H : Heap), Gx E (ws ++ [(q, .inr (7, [.null, .null, .null, .int 0, .int 0, .int 0, .int 0, .int 0]))]) A s H locs → W p l e R s m args below meth c H locs c2 n2 Q (F0 m (pc + 3) ls (.ref q :: rest))) : W p l e R s m args below meth c H locs cells slots Q (F0 m pc ls rest) := by
  obtain ⟨⟨hx, hb, hml, hown, hts⟩, hK, hA, hC⟩ := Y
  exact va_new (ci := 7) (fs := [.null, .null, .null, .int 0, .int 0, .int 0, .int 0, .int 0]) (C := RX7) (T := TX7) (N := 8) hx hb hts iwX7 tyX7 tyX7_ok hown (hts _ h1) (hts _ h2) (hts _ h3) hK G.1 G.2.1 G.2.2 hA rfl (by decide +kernel) (Nat.le_trans hc hc2) (Nat.le_trans hn hn2) hdg (fun q H1 hP hD hS => W.widen hc hn (kk q H1 ⟨hP, hD, hS⟩))
theorem xpF7 (Y : CY p s m args c E RX7 cc nL A) (G : Gx E ws A s H locs) (hm : meth.name = "<init>") (q0 : Nat) {a index : Nat} {fs : List Value} (he : ws[q0]? = some (a, .inr (7, fs))) (j : Nat) (hj : j < 8) {v : Value} (hl : Cond.fieldLink RX7 index (TX7 j).1 (TX7 j).2.1 (TX7 j).2.2.1 ∈ uW) (hfin : (TX7 j).2.2.2 = true) (hdc : (TX7 j).1 = RX7) {ty : FieldType} (hd : parseFieldDescriptor (TX7 j).2.2.1 = some ty) (hn : narrow ty v = v) (hfit : fits ty v = true) (hlen : j < fs.length) (hdg : decode cc pc = .ok (.putfield index, 3)) {ws' : va_W} (hws : ws.set q0 (a, .inr (7, fs.set j v)) = ws')
    (kk : ∀ (H : Heap) (locs : List Loc), Gx E ws' A s H locs → W p l e R s m args below meth c H locs cells slots Q (F0 m (pc + 3) ls rest)) : W p l e R s m args below meth c H locs cells slots Q (F0 m pc ls (v :: .ref a :: rest)) := by
  obtain ⟨⟨hx, hb, hml, hown, hts⟩, hK, hA, hC⟩ := Y
  subst hws
  exact va_putF (D := eD E) (ci := 7) (v := v) (ty := ty) (C := RX7) (T := TX7) (N := 8) hx hb hts iwX7 tyX7 tyX7_ok nmX7 hown hK G.1 G.2.1 G.2.2 q0 he rfl j hj (hts _ hl) (fun _ h9 => h9) hfin hm hdc hd hn hfit hlen hdg (fun H1 locs1 hP hD hS => kk H1 locs1 ⟨hP, hD, hS⟩)
theorem xpN7 (Y : CY p s m args c E own cc nL A) (G : Gx E ws A s H locs) (q0 : Nat) {a index : Nat} {fs : List Value} (he : ws[q0]? = some (a, .inr (7, fs))) (j : Nat) (hj : j < 8) {v : Value} (hl : Cond.fieldLink own index (TX7 j).1 (TX7 j).2.1 (TX7 j).2.2.1 ∈ uW) (hfin : (TX7 j).2.2.2 = false) {ty : FieldType} (hd : parseFieldDescriptor (TX7 j).2.2.1 = some ty) (hn : narrow ty v = v) (hfit : fits ty v = true) (hlen : j < fs.length) (hdg : decode cc pc = .ok (.putfield index, 3)) {ws' : va_W} (hws : ws.set q0 (a, .inr (7, fs.set j v)) = ws')
    (kk : ∀ (H : Heap) (locs : List Loc), Gx E ws' A s H locs → W p l e R s m args below meth c H locs cells slots Q (F0 m (pc + 3) ls rest)) : W p l e R s m args below meth c H locs cells slots Q (F0 m pc ls (v :: .ref a :: rest)) := by
  obtain ⟨⟨hx, hb, hml, hown, hts⟩, hK, hA, hC⟩ := Y
  subst hws
  exact va_put (D := eD E) (ci := 7) (v := v) (ty := ty) (C := RX7) (T := TX7) (N := 8) hx hb hts iwX7 tyX7 tyX7_ok nmX7 hown hK G.1 G.2.1 G.2.2 q0 he rfl j hj (hts _ hl) (fun _ h9 => h9) hfin hd hn hfit hlen hdg (fun H1 locs1 hP hD hS => kk H1 locs1 ⟨hP, hD, hS⟩)
theorem xn8 (Y : CY p s m args c E own cc nL A) (G : Gx E ws A s H locs) {index c2 n2 : Nat} (h1 : Cond.classLink own index RX8 ∈ uW) (h2 : Cond.instantiable RX8 4 ∈ uW) (h3 : Cond.initialized RX8 ∈ uW) (hc : cells + 1 ≤ c2) (hn : slots + 4 ≤ n2) (hc2 : c2 ≤ R.cells) (hn2 : n2 ≤ R.slots) (hdg : decode cc pc = .ok (.new index, 3))
    (kk : ∀ (q : Nat) (H : Heap), Gx E (ws ++ [(q, .inr (8, [.null, .null, .null, .int 0]))]) A s H locs → W p l e R s m args below meth c H locs c2 n2 Q (F0 m (pc + 3) ls (.ref q :: rest))) : W p l e R s m args below meth c H locs cells slots Q (F0 m pc ls rest) := by
  obtain ⟨⟨hx, hb, hml, hown, hts⟩, hK, hA, hC⟩ := Y
  exact va_new (ci := 8) (fs := [.null, .null, .null, .int 0]) (C := RX8) (T := TX8) (N := 4) hx hb hts iwX8 tyX8 tyX8_ok hown (hts _ h1) (hts _ h2) (hts _ h3) hK G.1 G.2.1 G.2.2 hA rfl (by decide +kernel) (Nat.le_trans hc hc2) (Nat.le_trans hn hn2) hdg (fun q H1 hP hD hS => W.widen hc hn (kk q H1 ⟨hP, hD, hS⟩))
theorem xpF8 (Y : CY p s m args c E RX8 cc nL A) (G : Gx E ws A s H locs) (hm : meth.name = "<init>") (q0 : Nat) {a index : Nat} {fs : List Value} (he : ws[q0]? = some (a, .inr (8, fs))) (j : Nat) (hj : j < 4) {v : Value} (hl : Cond.fieldLink RX8 index (TX8 j).1 (TX8 j).2.1 (TX8 j).2.2.1 ∈ uW) (hfin : (TX8 j).2.2.2 = true) (hdc : (TX8 j).1 = RX8) {ty : FieldType} (hd : parseFieldDescriptor (TX8 j).2.2.1 = some ty) (hn : narrow ty v = v) (hfit : fits ty v = true) (hlen : j < fs.length) (hdg : decode cc pc = .ok (.putfield index, 3)) {ws' : va_W} (hws : ws.set q0 (a, .inr (8, fs.set j v)) = ws')
    (kk : ∀ (H : Heap) (locs : List Loc), Gx E ws' A s H locs → W p l e R s m args below meth c H locs cells slots Q (F0 m (pc + 3) ls rest)) : W p l e R s m args below meth c H locs cells slots Q (F0 m pc ls (v :: .ref a :: rest)) := by
  obtain ⟨⟨hx, hb, hml, hown, hts⟩, hK, hA, hC⟩ := Y
  subst hws
  exact va_putF (D := eD E) (ci := 8) (v := v) (ty := ty) (C := RX8) (T := TX8) (N := 4) hx hb hts iwX8 tyX8 tyX8_ok nmX8 hown hK G.1 G.2.1 G.2.2 q0 he rfl j hj (hts _ hl) (fun _ h9 => h9) hfin hm hdc hd hn hfit hlen hdg (fun H1 locs1 hP hD hS => kk H1 locs1 ⟨hP, hD, hS⟩)
theorem xpN8 (Y : CY p s m args c E own cc nL A) (G : Gx E ws A s H locs) (q0 : Nat) {a index : Nat} {fs : List Value} (he : ws[q0]? = some (a, .inr (8, fs))) (j : Nat) (hj : j < 4) {v : Value} (hl : Cond.fieldLink own index (TX8 j).1 (TX8 j).2.1 (TX8 j).2.2.1 ∈ uW) (hfin : (TX8 j).2.2.2 = false) {ty : FieldType} (hd : parseFieldDescriptor (TX8 j).2.2.1 = some ty) (hn : narrow ty v = v) (hfit : fits ty v = true) (hlen : j < fs.length) (hdg : decode cc pc = .ok (.putfield index, 3)) {ws' : va_W} (hws : ws.set q0 (a, .inr (8, fs.set j v)) = ws')
    (kk : ∀ (H : Heap) (locs : List Loc), Gx E ws' A s H locs → W p l e R s m args below meth c H locs cells slots Q (F0 m (pc + 3) ls rest)) : W p l e R s m args below meth c H locs cells slots Q (F0 m pc ls (v :: .ref a :: rest)) := by
  obtain ⟨⟨hx, hb, hml, hown, hts⟩, hK, hA, hC⟩ := Y
  subst hws
  exact va_put (D := eD E) (ci := 8) (v := v) (ty := ty) (C := RX8) (T := TX8) (N := 4) hx hb hts iwX8 tyX8 tyX8_ok nmX8 hown hK G.1 G.2.1 G.2.2 q0 he rfl j hj (hts _ hl) (fun _ h9 => h9) hfin hd hn hfit hlen hdg (fun H1 locs1 hP hD hS => kk H1 locs1 ⟨hP, hD, hS⟩)
theorem xn9 (Y : CY p s m args c E own cc nL A) (G : Gx E ws A s H locs) {index c2 n2 : Nat} (h1 : Cond.classLink own index RX9 ∈ uW) (h2 : Cond.instantiable RX9 13 ∈ uW) (h3 : Cond.initialized RX9 ∈ uW) (hc : cells + 1 ≤ c2) (hn : slots + 13 ≤ n2) (hc2 : c2 ≤ R.cells) (hn2 : n2 ≤ R.slots) (hdg : decode cc pc = .ok (.new index, 3))
    (kk : ∀ (q : Nat) (H : Heap), Gx E (ws ++ [(q, .inr (9, [.null, .int 0, .null, .null, .null, .null, .int 0, .null, .null, .null, .null, .null, .null]))]) A s H locs → W p l e R s m args below meth c H locs c2 n2 Q (F0 m (pc + 3) ls (.ref q :: rest))) : W p l e R s m args below meth c H locs cells slots Q (F0 m pc ls rest) := by
  obtain ⟨⟨hx, hb, hml, hown, hts⟩, hK, hA, hC⟩ := Y
  exact va_new (ci := 9) (fs := [.null, .int 0, .null, .null, .null, .null, .int 0, .null, .null, .null, .null, .null, .null]) (C := RX9) (T := TX9) (N := 13) hx hb hts iwX9 tyX9 tyX9_ok hown (hts _ h1) (hts _ h2) (hts _ h3) hK G.1 G.2.1 G.2.2 hA rfl (by decide +kernel) (Nat.le_trans hc hc2) (Nat.le_trans hn hn2) hdg (fun q H1 hP hD hS => W.widen hc hn (kk q H1 ⟨hP, hD, hS⟩))
theorem xpF9 (Y : CY p s m args c E RX9 cc nL A) (G : Gx E ws A s H locs) (hm : meth.name = "<init>") (q0 : Nat) {a index : Nat} {fs : List Value} (he : ws[q0]? = some (a, .inr (9, fs))) (j : Nat) (hj : j < 13) {v : Value} (hl : Cond.fieldLink RX9 index (TX9 j).1 (TX9 j).2.1 (TX9 j).2.2.1 ∈ uW) (hfin : (TX9 j).2.2.2 = true) (hdc : (TX9 j).1 = RX9) {ty : FieldType} (hd : parseFieldDescriptor (TX9 j).2.2.1 = some ty) (hn : narrow ty v = v) (hfit : fits ty v = true) (hlen : j < fs.length) (hdg : decode cc pc = .ok (.putfield index, 3)) {ws' : va_W} (hws : ws.set q0 (a, .inr (9, fs.set j v)) = ws')
    (kk : ∀ (H : Heap) (locs : List Loc), Gx E ws' A s H locs → W p l e R s m args below meth c H locs cells slots Q (F0 m (pc + 3) ls rest)) : W p l e R s m args below meth c H locs cells slots Q (F0 m pc ls (v :: .ref a :: rest)) := by
  obtain ⟨⟨hx, hb, hml, hown, hts⟩, hK, hA, hC⟩ := Y
  subst hws
  exact va_putF (D := eD E) (ci := 9) (v := v) (ty := ty) (C := RX9) (T := TX9) (N := 13) hx hb hts iwX9 tyX9 tyX9_ok nmX9 hown hK G.1 G.2.1 G.2.2 q0 he rfl j hj (hts _ hl) (fun _ h9 => h9) hfin hm hdc hd hn hfit hlen hdg (fun H1 locs1 hP hD hS => kk H1 locs1 ⟨hP, hD, hS⟩)
theorem xpN9 (Y : CY p s m args c E own cc nL A) (G : Gx E ws A s H locs) (q0 : Nat) {a index : Nat} {fs : List Value} (he : ws[q0]? = some (a, .inr (9, fs))) (j : Nat) (hj : j < 13) {v : Value} (hl : Cond.fieldLink own index (TX9 j).1 (TX9 j).2.1 (TX9 j).2.2.1 ∈ uW) (hfin : (TX9 j).2.2.2 = false) {ty : FieldType} (hd : parseFieldDescriptor (TX9 j).2.2.1 = some ty) (hn : narrow ty v = v) (hfit : fits ty v = true) (hlen : j < fs.length) (hdg : decode cc pc = .ok (.putfield index, 3)) {ws' : va_W} (hws : ws.set q0 (a, .inr (9, fs.set j v)) = ws')
    (kk : ∀ (H : Heap) (locs : List Loc), Gx E ws' A s H locs → W p l e R s m args below meth c H locs cells slots Q (F0 m (pc + 3) ls rest)) : W p l e R s m args below meth c H locs cells slots Q (F0 m pc ls (v :: .ref a :: rest)) := by
  obtain ⟨⟨hx, hb, hml, hown, hts⟩, hK, hA, hC⟩ := Y
  subst hws
  exact va_put (D := eD E) (ci := 9) (v := v) (ty := ty) (C := RX9) (T := TX9) (N := 13) hx hb hts iwX9 tyX9 tyX9_ok nmX9 hown hK G.1 G.2.1 G.2.2 q0 he rfl j hj (hts _ hl) (fun _ h9 => h9) hfin hd hn hfit hlen hdg (fun H1 locs1 hP hD hS => kk H1 locs1 ⟨hP, hD, hS⟩)
theorem xg9 (Y : CY p s m args c E own cc nL A) (G : Gx E ws A s H locs) (q0 : Nat) {a index : Nat} {fs : List Value} (he : ws[q0]? = some (a, .inr (9, fs))) (j : Nat) (hj : j < 13) {v : Value} (hv : fs[j]? = some v) (hl : Cond.fieldLink own index (TX9 j).1 (TX9 j).2.1 (TX9 j).2.2.1 ∈ uW) (hdg : decode cc pc = .ok (.getfield index, 3))
    (kk : W p l e R s m args below meth c H locs cells slots Q (F0 m (pc + 3) ls (v :: rest))) : W p l e R s m args below meth c H locs cells slots Q (F0 m pc ls (.ref a :: rest)) := by
  obtain ⟨⟨hx, hb, hml, hown, hts⟩, hK, hA, hC⟩ := Y
  exact va_get (D := eD E) (ci := 9) (v := v) (C := RX9) (T := TX9) (N := 13) hx hb hts iwX9 hown hK G.1 q0 he rfl j hj (hts _ hl) (fun _ h9 => h9) hv hdg kk
theorem xn10 (Y : CY p s m args c E own cc nL A) (G : Gx E ws A s H locs) {index c2 n2 : Nat} (h1 : Cond.classLink own index RX10 ∈ uW) (h2 : Cond.instantiable RX10 63 ∈ uW) (h3 : Cond.initialized RX10 ∈ uW) (hc : cells + 1 ≤ c2) (hn : slots + 63 ≤ n2) (hc2 : c2 ≤ R.cells) (hn2 : n2 ≤ R.slots) (hdg : decode cc pc = .ok (.new index, 3))
    (kk : ∀ (q : Nat) (H : Heap), Gx E (ws ++ [(q, .inr (10, [.int 0, .null, .null, .null, .null, .null, .null, .null, .null, .null, .null, .null, .null, .null, .null, .null, .null, .null, .null, .null, .null, .null, .null, .null, .null, .null, .null, .null, .int 0, .int 0, .int 0, .int 0, .int 0, .int 0, .int 0, .int 0, .int 0, .int 0, .int 0, .null, .null, .null, .null, .null, .null, .null, .null, .null, .null, .int 0, .null, .null, .int 0, .int 0, .int 0, .int 0, .null, .null, .null, .null, .null, .int 0, .int 0]))]) A s H locs → W p l e R s m args below meth c H locs c2 n2 Q (F0 m (pc + 3) ls (.ref q :: rest))) : W p l e R s m args below meth c H locs cells slots Q (F0 m pc ls rest) := by
  obtain ⟨⟨hx, hb, hml, hown, hts⟩, hK, hA, hC⟩ := Y
  exact va_new (ci := 10) (fs := [.int 0, .null, .null, .null, .null, .null, .null, .null, .null, .null, .null, .null, .null, .null, .null, .null, .null, .null, .null, .null, .null, .null, .null, .null, .null, .null, .null, .null, .int 0, .int 0, .int 0, .int 0, .int 0, .int 0, .int 0, .int 0, .int 0, .int 0, .int 0, .null, .null, .null, .null, .null, .null, .null, .null, .null, .null, .int 0, .null, .null, .int 0, .int 0, .int 0, .int 0, .null, .null, .null, .null, .null, .int 0, .int 0]) (C := RX10) (T := TX10) (N := 63) hx hb hts iwX10 tyX10 tyX10_ok hown (hts _ h1) (hts _ h2) (hts _ h3) hK G.1 G.2.1 G.2.2 hA rfl (by decide +kernel) (Nat.le_trans hc hc2) (Nat.le_trans hn hn2) hdg (fun q H1 hP hD hS => W.widen hc hn (kk q H1 ⟨hP, hD, hS⟩))
theorem xpF10 (Y : CY p s m args c E RX10 cc nL A) (G : Gx E ws A s H locs) (hm : meth.name = "<init>") (q0 : Nat) {a index : Nat} {fs : List Value} (he : ws[q0]? = some (a, .inr (10, fs))) (j : Nat) (hj : j < 63) {v : Value} (hl : Cond.fieldLink RX10 index (TX10 j).1 (TX10 j).2.1 (TX10 j).2.2.1 ∈ uW) (hfin : (TX10 j).2.2.2 = true) (hdc : (TX10 j).1 = RX10) {ty : FieldType} (hd : parseFieldDescriptor (TX10 j).2.2.1 = some ty) (hn : narrow ty v = v) (hfit : fits ty v = true) (hlen : j < fs.length) (hdg : decode cc pc = .ok (.putfield index, 3)) {ws' : va_W} (hws : ws.set q0 (a, .inr (10, fs.set j v)) = ws')
    (kk : ∀ (H : Heap) (locs : List Loc), Gx E ws' A s H locs → W p l e R s m args below meth c H locs cells slots Q (F0 m (pc + 3) ls rest)) : W p l e R s m args below meth c H locs cells slots Q (F0 m pc ls (v :: .ref a :: rest)) := by
  obtain ⟨⟨hx, hb, hml, hown, hts⟩, hK, hA, hC⟩ := Y
  subst hws
  exact va_putF (D := eD E) (ci := 10) (v := v) (ty := ty) (C := RX10) (T := TX10) (N := 63) hx hb hts iwX10 tyX10 tyX10_ok nmX10 hown hK G.1 G.2.1 G.2.2 q0 he rfl j hj (hts _ hl) (fun _ h9 => h9) hfin hm hdc hd hn hfit hlen hdg (fun H1 locs1 hP hD hS => kk H1 locs1 ⟨hP, hD, hS⟩)
theorem xpN10 (Y : CY p s m args c E own cc nL A) (G : Gx E ws A s H locs) (q0 : Nat) {a index : Nat} {fs : List Value} (he : ws[q0]? = some (a, .inr (10, fs))) (j : Nat) (hj : j < 63) {v : Value} (hl : Cond.fieldLink own index (TX10 j).1 (TX10 j).2.1 (TX10 j).2.2.1 ∈ uW) (hfin : (TX10 j).2.2.2 = false) {ty : FieldType} (hd : parseFieldDescriptor (TX10 j).2.2.1 = some ty) (hn : narrow ty v = v) (hfit : fits ty v = true) (hlen : j < fs.length) (hdg : decode cc pc = .ok (.putfield index, 3)) {ws' : va_W} (hws : ws.set q0 (a, .inr (10, fs.set j v)) = ws')
    (kk : ∀ (H : Heap) (locs : List Loc), Gx E ws' A s H locs → W p l e R s m args below meth c H locs cells slots Q (F0 m (pc + 3) ls rest)) : W p l e R s m args below meth c H locs cells slots Q (F0 m pc ls (v :: .ref a :: rest)) := by
  obtain ⟨⟨hx, hb, hml, hown, hts⟩, hK, hA, hC⟩ := Y
  subst hws
  exact va_put (D := eD E) (ci := 10) (v := v) (ty := ty) (C := RX10) (T := TX10) (N := 63) hx hb hts iwX10 tyX10 tyX10_ok nmX10 hown hK G.1 G.2.1 G.2.2 q0 he rfl j hj (hts _ hl) (fun _ h9 => h9) hfin hd hn hfit hlen hdg (fun H1 locs1 hP hD hS => kk H1 locs1 ⟨hP, hD, hS⟩)
theorem xa_I (Y : CY p s m args c E own cc nL A) (G : Gx E ws A s H locs) {n : Int32} (N' : Nat) {c2 n2 : Nat} (h1 : Cond.arrayClass .int ∈ uW) (hn : decide (¬ n < 0 ∧ n.toNatClampNeg = N' ∧ N' * 8 ≤ 536870912) = true) (hc : cells + 1 ≤ c2) (hs : slots + N' ≤ n2) (hc2 : c2 ≤ R.cells) (hn2 : n2 ≤ R.slots) (hdg : decode cc pc = .ok (.newarray .int, 2))
    (kk : ∀ (q : Nat) (H : Heap), Gx E (ws ++ [(q, .inl (E.1 0, N', .inl (fun _ => 0)))]) A s H locs → W p l e R s m args below meth c H locs c2 n2 Q (F0 m (pc + 2) ls (.ref q :: rest))) : W p l e R s m args below meth c H locs cells slots Q (F0 m pc ls (.int n :: rest)) := by
  obtain ⟨⟨hx, hb, hml, hown, hts⟩, hK, hA, hC⟩ := Y
  obtain ⟨b1, b2, b3⟩ := of_decide_eq_true hn
  refine va_newa (atype := .int) (ty := .int) (N' := N') (a0 := (N', .inl (fun _ => 0))) hx hb (hts _ h1) rfl hK G.1 G.2.1 G.2.2 hA (fun _ => rfl) b1 b2 (Nat.le_trans (Nat.mul_le_mul_left _ (by decide)) b3) (Nat.le_trans hc hc2) (Nat.le_trans hs hn2) hdg (fun q cA H1 hK2 hP hD hS => W.widen hc hs (kk q H1 ?_))
  have e : cA = E.1 0 := Option.some.inj (((hK2.2 7 (cA, .int) rfl).2 : s.vm.findClass _ = some cA).symm.trans ((hK.2 0 (E.1 0, .int) rfl).2 : s.vm.findClass _ = some (E.1 0)))
  subst e
  exact ⟨hP, hD, hS⟩
theorem xa_B (Y : CY p s m args c E own cc nL A) (G : Gx E ws A s H locs) {n : Int32} (N' : Nat) {c2 n2 : Nat} (h1 : Cond.arrayClass .byte ∈ uW) (hn : decide (¬ n < 0 ∧ n.toNatClampNeg = N' ∧ N' * 8 ≤ 536870912) = true) (hc : cells + 1 ≤ c2) (hs : slots + N' ≤ n2) (hc2 : c2 ≤ R.cells) (hn2 : n2 ≤ R.slots) (hdg : decode cc pc = .ok (.newarray .byte, 2))
    (kk : ∀ (q : Nat) (H : Heap), Gx E (ws ++ [(q, .inl (E.1 1, N', .inl (fun _ => 0)))]) A s H locs → W p l e R s m args below meth c H locs c2 n2 Q (F0 m (pc + 2) ls (.ref q :: rest))) : W p l e R s m args below meth c H locs cells slots Q (F0 m pc ls (.int n :: rest)) := by
  obtain ⟨⟨hx, hb, hml, hown, hts⟩, hK, hA, hC⟩ := Y
  obtain ⟨b1, b2, b3⟩ := of_decide_eq_true hn
  refine va_newa (atype := .byte) (ty := .byte) (N' := N') (a0 := (N', .inl (fun _ => 0))) hx hb (hts _ h1) rfl hK G.1 G.2.1 G.2.2 hA (fun _ => rfl) b1 b2 (Nat.le_trans (Nat.mul_le_mul_left _ (by decide)) b3) (Nat.le_trans hc hc2) (Nat.le_trans hs hn2) hdg (fun q cA H1 hK2 hP hD hS => W.widen hc hs (kk q H1 ?_))
  have e : cA = E.1 1 := Option.some.inj (((hK2.2 7 (cA, .byte) rfl).2 : s.vm.findClass _ = some cA).symm.trans ((hK.2 1 (E.1 1, .byte) rfl).2 : s.vm.findClass _ = some (E.1 1)))
  subst e
  exact ⟨hP, hD, hS⟩
theorem xa_Z (Y : CY p s m args c E own cc nL A) (G : Gx E ws A s H locs) {n : Int32} (N' : Nat) {c2 n2 : Nat} (h1 : Cond.arrayClass .boolean ∈ uW) (hn : decide (¬ n < 0 ∧ n.toNatClampNeg = N' ∧ N' * 8 ≤ 536870912) = true) (hc : cells + 1 ≤ c2) (hs : slots + N' ≤ n2) (hc2 : c2 ≤ R.cells) (hn2 : n2 ≤ R.slots) (hdg : decode cc pc = .ok (.newarray .boolean, 2))
    (kk : ∀ (q : Nat) (H : Heap), Gx E (ws ++ [(q, .inl (E.1 3, N', .inl (fun _ => 0)))]) A s H locs → W p l e R s m args below meth c H locs c2 n2 Q (F0 m (pc + 2) ls (.ref q :: rest))) : W p l e R s m args below meth c H locs cells slots Q (F0 m pc ls (.int n :: rest)) := by
  obtain ⟨⟨hx, hb, hml, hown, hts⟩, hK, hA, hC⟩ := Y
  obtain ⟨b1, b2, b3⟩ := of_decide_eq_true hn
  refine va_newa (atype := .boolean) (ty := .boolean) (N' := N') (a0 := (N', .inl (fun _ => 0))) hx hb (hts _ h1) rfl hK G.1 G.2.1 G.2.2 hA (fun _ => rfl) b1 b2 (Nat.le_trans (Nat.mul_le_mul_left _ (by decide)) b3) (Nat.le_trans hc hc2) (Nat.le_trans hs hn2) hdg (fun q cA H1 hK2 hP hD hS => W.widen hc hs (kk q H1 ?_))
  have e : cA = E.1 3 := Option.some.inj (((hK2.2 7 (cA, .boolean) rfl).2 : s.vm.findClass _ = some cA).symm.trans ((hK.2 3 (E.1 3, .boolean) rfl).2 : s.vm.findClass _ = some (E.1 3)))
  subst e
  exact ⟨hP, hD, hS⟩
theorem xa_J (Y : CY p s m args c E own cc nL A) (G : Gx E ws A s H locs) {n : Int32} (N' : Nat) {c2 n2 : Nat} (h1 : Cond.arrayClass .long ∈ uW) (hn : decide (¬ n < 0 ∧ n.toNatClampNeg = N' ∧ N' * 8 ≤ 536870912) = true) (hc : cells + 1 ≤ c2) (hs : slots + N' ≤ n2) (hc2 : c2 ≤ R.cells) (hn2 : n2 ≤ R.slots) (hdg : decode cc pc = .ok (.newarray .long, 2))
    (kk : ∀ (q : Nat) (H : Heap), Gx E (ws ++ [(q, .inl (E.1 2, N', .inr (.inl (fun _ => 0))))]) A s H locs → W p l e R s m args below meth c H locs c2 n2 Q (F0 m (pc + 2) ls (.ref q :: rest))) : W p l e R s m args below meth c H locs cells slots Q (F0 m pc ls (.int n :: rest)) := by
  obtain ⟨⟨hx, hb, hml, hown, hts⟩, hK, hA, hC⟩ := Y
  obtain ⟨b1, b2, b3⟩ := of_decide_eq_true hn
  refine va_newa (atype := .long) (ty := .long) (N' := N') (a0 := (N', .inr (.inl (fun _ => 0)))) hx hb (hts _ h1) rfl hK G.1 G.2.1 G.2.2 hA (fun _ => rfl) b1 b2 (Nat.le_trans (Nat.mul_le_mul_left _ (by decide)) b3) (Nat.le_trans hc hc2) (Nat.le_trans hs hn2) hdg (fun q cA H1 hK2 hP hD hS => W.widen hc hs (kk q H1 ?_))
  have e : cA = E.1 2 := Option.some.inj (((hK2.2 7 (cA, .long) rfl).2 : s.vm.findClass _ = some cA).symm.trans ((hK.2 2 (E.1 2, .long) rfl).2 : s.vm.findClass _ = some (E.1 2)))
  subst e
  exact ⟨hP, hD, hS⟩
theorem xq_Pg (Y : CY p s m args c E own cc nL A) (G : Gx E ws A s H locs) {n : Int32} (N' : Nat) {c2 n2 index : Nat} (h1 : Cond.classLink own index "FireTax$Page" ∈ uW) (hn : decide (¬ n < 0 ∧ n.toNatClampNeg = N' ∧ N' * 8 ≤ 536870912) = true) (hc : cells + 1 ≤ c2) (hs : slots + N' ≤ n2) (hc2 : c2 ≤ R.cells) (hn2 : n2 ≤ R.slots) (hdg : decode cc pc = .ok (.anewarray index, 3))
    (kk : ∀ (q : Nat) (H : Heap), Gx E (ws ++ [(q, .inl (E.1 4, N', .inr (.inr (.inr (.inr (fun _ => none))))))]) A s H locs → W p l e R s m args below meth c H locs c2 n2 Q (F0 m (pc + 3) ls (.ref q :: rest))) : W p l e R s m args below meth c H locs cells slots Q (F0 m pc ls (.int n :: rest)) := by
  obtain ⟨⟨hx, hb, hml, hown, hts⟩, hK, hA, hC⟩ := Y
  obtain ⟨b1, b2, b3⟩ := of_decide_eq_true hn
  refine va_newq (C := "FireTax$Page") (N' := N') hx hb hown (hts _ h1) hC.2.2.2.2.2.1 hK G.1 G.2.1 G.2.2 hA b1 b2 (by omega) (Nat.le_trans hc hc2) (Nat.le_trans hs hn2) hdg (fun q cA H1 hK2 hP hD hS => W.widen hc hs (kk q H1 ?_))
  have e : cA = E.1 4 := by
    obtain ⟨_, _, _, _, _, f1⟩ := ((hK2.2 7 (cA, .object "FireTax$Page") rfl).2 : va_RA s cA (.object "FireTax$Page"))
    obtain ⟨_, _, _, _, _, f2⟩ := ((hK.2 4 (E.1 4, .object "FireTax$Page") rfl).2 : va_RA s (E.1 4) (.object "FireTax$Page"))
    exact Option.some.inj (f1.symm.trans f2)
  subst e
  exact ⟨hP, hD, hS⟩
theorem xq_Rl (Y : CY p s m args c E own cc nL A) (G : Gx E ws A s H locs) {n : Int32} (N' : Nat) {c2 n2 index : Nat} (h1 : Cond.classLink own index "FireTax$Rule" ∈ uW) (hn : decide (¬ n < 0 ∧ n.toNatClampNeg = N' ∧ N' * 8 ≤ 536870912) = true) (hc : cells + 1 ≤ c2) (hs : slots + N' ≤ n2) (hc2 : c2 ≤ R.cells) (hn2 : n2 ≤ R.slots) (hdg : decode cc pc = .ok (.anewarray index, 3))
    (kk : ∀ (q : Nat) (H : Heap), Gx E (ws ++ [(q, .inl (E.1 5, N', .inr (.inr (.inr (.inr (fun _ => none))))))]) A s H locs → W p l e R s m args below meth c H locs c2 n2 Q (F0 m (pc + 3) ls (.ref q :: rest))) : W p l e R s m args below meth c H locs cells slots Q (F0 m pc ls (.int n :: rest)) := by
  obtain ⟨⟨hx, hb, hml, hown, hts⟩, hK, hA, hC⟩ := Y
  obtain ⟨b1, b2, b3⟩ := of_decide_eq_true hn
  refine va_newq (C := "FireTax$Rule") (N' := N') hx hb hown (hts _ h1) hC.2.2.2.2.2.2.1 hK G.1 G.2.1 G.2.2 hA b1 b2 (by omega) (Nat.le_trans hc hc2) (Nat.le_trans hs hn2) hdg (fun q cA H1 hK2 hP hD hS => W.widen hc hs (kk q H1 ?_))
  have e : cA = E.1 5 := by
    obtain ⟨_, _, _, _, _, f1⟩ := ((hK2.2 7 (cA, .object "FireTax$Rule") rfl).2 : va_RA s cA (.object "FireTax$Rule"))
    obtain ⟨_, _, _, _, _, f2⟩ := ((hK.2 5 (E.1 5, .object "FireTax$Rule") rfl).2 : va_RA s (E.1 5) (.object "FireTax$Rule"))
    exact Option.some.inj (f1.symm.trans f2)
  subst e
  exact ⟨hP, hD, hS⟩
theorem x_mna (Y : CY p s m args c E own cc nL A) (G : Gx E ws A s H locs) {c2 n2 index : Nat} (h1 : Cond.classLink own index "[[I" ∈ uW) (h2 : Cond.arrayClass .int ∈ uW) (hc : cells + 6 ≤ c2) (hs : slots + 210 ≤ n2) (hc2 : c2 ≤ R.cells) (hn2 : n2 ≤ R.slots) (hdg : decode cc pc = .ok (.multianewarray index 2, 4))
    (kk : ∀ (q r0 r1 r2 r3 r4 : Nat) (H : Heap), Gx E (ws ++ [(q, .inl (E.1 6, 5, .inr (.inr (.inr (.inr (fun i => some ([r0, r1, r2, r3, r4].getD i 0))))))), (r0, .inl (E.1 0, 41, .inl (fun _ => 0))), (r1, .inl (E.1 0, 41, .inl (fun _ => 0))), (r2, .inl (E.1 0, 41, .inl (fun _ => 0))), (r3, .inl (E.1 0, 41, .inl (fun _ => 0))), (r4, .inl (E.1 0, 41, .inl (fun _ => 0)))]) A s H locs → W p l e R s m args below meth c H locs c2 n2 Q (F0 m (pc + 4) ls (.ref q :: rest))) : W p l e R s m args below meth c H locs cells slots Q (F0 m pc ls (.int 41 :: .int 5 :: rest)) := by
  obtain ⟨⟨hx, hb, hml, hown, hts⟩, hK, hA, hC⟩ := Y
  have hG1 : va_P (eD E) vwCl (ws ++ va_pl [] (fun _ => .inr (0, []))) H := by rw [show va_pl [] (fun _ => (.inr (0, []) : va_E)) = [] from rfl, List.append_nil]; exact G.1
  have hG2 : va_D A (ws ++ va_pl [] (fun _ => .inr (0, []))) := by rw [show va_pl [] (fun _ => (.inr (0, []) : va_E)) = [] from rfl, List.append_nil]; exact G.2.1
  refine va_mna (ty := .int) (cy := E.1 0) (N' := 5) (K' := 41) (z := (41, .inl (fun _ => 0))) hx hb hown (hts _ h1) hC.2.2.2.2.2.2.2 (hts _ h2) (hK.2 0 (E.1 0, .int) rfl).2 hK hG1 hG2 G.2.2 hA (by decide) (by decide) (by decide) (by decide) (by decide) (by decide) (by decide) rfl rfl (by have := Nat.le_trans hc hc2; omega) (by have := Nat.le_trans hs hn2; omega) (fun c => ?_) hdg (fun q r cA H1 hr hr2 hK2 hP hD hS => W.widen (by omega) (by omega) (kk q (r 0) (r 1) (r 2) (r 3) (r 4) H1 ?_))
  · rw [vp_cell_i]
    rfl
  have e : cA = E.1 6 := Option.some.inj (((hK2.2 7 (cA, .array .int) rfl).2 : s.vm.findClass _ = some cA).symm.trans ((hK.2 6 (E.1 6, .array .int) rfl).2 : s.vm.findClass _ = some (E.1 6)))
  subst e
  have el : (List.range 5).map r = [r 0, r 1, r 2, r 3, r 4] := rfl
  rw [el, List.nil_append] at hP hD
  have em : va_pl [r 0, r 1, r 2, r 3, r 4] (vr_up (fun _ => .inr (0, [])) [r 0, r 1, r 2, r 3, r 4] (.inl (E.1 0, 41, .inl (fun _ => 0)))) = [(r 0, .inl (E.1 0, 41, .inl (fun _ => 0))), (r 1, .inl (E.1 0, 41, .inl (fun _ => 0))), (r 2, .inl (E.1 0, 41, .inl (fun _ => 0))), (r 3, .inl (E.1 0, 41, .inl (fun _ => 0))), (r 4, .inl (E.1 0, 41, .inl (fun _ => 0)))] := by
    simp [va_pl, vr_up]
  rw [em, List.append_assoc] at hP hD
  have G2 : Gx E (ws ++ [(q, .inl (E.1 6, 5, .inr (.inr (.inr (.inr (fun i => if i < 5 then some (r i) else none)))))), (r 0, .inl (E.1 0, 41, .inl (fun _ => 0))), (r 1, .inl (E.1 0, 41, .inl (fun _ => 0))), (r 2, .inl (E.1 0, 41, .inl (fun _ => 0))), (r 3, .inl (E.1 0, 41, .inl (fun _ => 0))), (r 4, .inl (E.1 0, 41, .inl (fun _ => 0)))]) A s H1 locs := ⟨hP, hD, hS⟩
  have G3 := Gx_repl (e2 := .inl (E.1 6, 5, .inr (.inr (.inr (.inr (fun i => some ([r 0, r 1, r 2, r 3, r 4].getD i 0))))))) G2 ws.length (by rw [List.getElem?_append_right (Nat.le_refl _), Nat.sub_self]; rfl) (fun h9 => by
    have h10 : H1[q]? = some (vp_cell (E.1 6) (5, .inr (.inr (.inr (.inr (fun i => if i < 5 then some (r i) else none)))))) := h9
    show H1[q]? = some (vp_cell (E.1 6) (5, .inr (.inr (.inr (.inr (fun i => some ([r 0, r 1, r 2, r 3, r 4].getD i 0)))))))
    rw [h10, vp_cell_q, vp_cell_q]
    refine congrArg some (arrV_cong ?_)
    intro j hj
    rcases (show j = 0 ∨ j = 1 ∨ j = 2 ∨ j = 3 ∨ j = 4 by omega) with rfl | rfl | rfl | rfl | rfl <;> rfl)
  rw [List.set_append_right _ _ (Nat.le_refl _), Nat.sub_self] at G3
  exact G3
end XR
