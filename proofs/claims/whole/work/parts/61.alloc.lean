def mm_push (M : Mm) (c n : Nat) : Mm := (mm_N M + 1, (fun q => if q = mm_N M then c else mm_K M q), (fun q => if q = mm_N M then n else mm_S M q), (fun q k => if q = mm_N M then none else mm_R M q k), (fun q k => if q = mm_N M then 0 else mm_I M q k), (fun q k => if q = mm_N M then 0 else mm_L M q k))
def op_pR (M : Mm) (c q k r : Nat) : Option Mm := if mm_is M q c then some (mm_wR M q k (some r)) else none
def op_sR (M : Mm) (q : Nat) (i : Int32) (r : Nat) : Option Mm := if (mm_is M q 103 ∧ mm_in i (mm_S M q)) ∧ mm_is M r 2 then some (mm_wR M q i.toNatClampNeg (some r)) else none
def Wf (M : Mm) : Prop := ∀ i k r, i < mm_N M → mm_R M i k = some r → r < mm_N M
section
variable {cA : Nat → ClassId} {ad ad' : Nat → Nat} {M : Mm} {q c k t j n : Nat}
theorem wf_push (h : Wf M) : Wf (mm_push M c n) := fun i k r hi e => by
  have hi : i < mm_N M + 1 := hi
  show r < mm_N M + 1
  have e : (if i = mm_N M then none else mm_R M i k) = some r := e
  by_cases q : i = mm_N M
  · rw [if_pos q] at e; cases e
  · rw [if_neg q] at e
    have := h i k r (by omega) e
    omega
theorem wf_wR {x : Nat} (h : Wf M) (hx : x < mm_N M) : Wf (mm_wR M q k (some x)) := fun i j r hi e => by
  have e : (if i = q ∧ j = k then some x else mm_R M i j) = some r := e
  by_cases w : i = q ∧ j = k
  · rw [if_pos w] at e; cases e; exact hx
  · rw [if_neg w] at e; exact h i j r hi e
theorem wf_wI {x : Int32} (h : Wf M) : Wf (mm_wI M q k x) := h
theorem wf_wL {x : Int64} (h : Wf M) : Wf (mm_wL M q k x) := h
theorem sz_push (h : q < mm_N M) : mm_S (mm_push M c n) q = mm_S M q := if_neg (by omega)
theorem szp_push {v : Nat} (hs : mm_S M q = v) (h : q < mm_N M) : mm_S (mm_push M c n) q = v := (sz_push h).trans hs
theorem cell_I {cB : ClassId} : vp_cell cB (n, mm_ar ad (mm_push M (100 + 0) n) (mm_N M) 0) = arrV cB n (fun _ => defaultValue .int) := by
  show arrV cB n (fun j => .int (if mm_N M = mm_N M then 0 else mm_I M (mm_N M) j)) = _
  simp only [if_true]
  rfl
theorem cell_L {cB : ClassId} : vp_cell cB (n, mm_ar ad (mm_push M (100 + 1) n) (mm_N M) 1) = arrV cB n (fun _ => defaultValue .long) := by
  show arrV cB n (fun j => .long (if mm_N M = mm_N M then 0 else mm_L M (mm_N M) j)) = _
  simp only [if_true]
  rfl
theorem cell_Z {cB : ClassId} : vp_cell cB (n, mm_ar ad (mm_push M (100 + 2) n) (mm_N M) 2) = arrV cB n (fun _ => defaultValue .boolean) := by
  show arrV cB n (fun j => .int (if mm_N M = mm_N M then 0 else mm_I M (mm_N M) j)) = _
  simp only [if_true]
  rfl
theorem is_new : mm_is (mm_push M c n) (mm_N M) c := ⟨Nat.lt_succ_self _, if_pos rfl⟩
theorem is_wR {a : Nat} {x : Option Nat} (h : mm_is M q c) : mm_is (mm_wR M a k x) q c := h
theorem is_wI {a : Nat} {x : Int32} (h : mm_is M q c) : mm_is (mm_wI M a k x) q c := h
theorem is_wL {a : Nat} {x : Int64} (h : mm_is M q c) : mm_is (mm_wL M a k x) q c := h
theorem sz_wR {a : Nat} {x : Option Nat} : mm_S (mm_wR M a k x) q = mm_S M q := rfl
theorem sz_wI {a : Nat} {x : Int32} : mm_S (mm_wI M a k x) q = mm_S M q := rfl
theorem sz_wL {a : Nat} {x : Int64} : mm_S (mm_wL M a k x) q = mm_S M q := rfl
theorem is_push {c' : Nat} (h : mm_is M q c') : mm_is (mm_push M c n) q c' := ⟨Nat.lt_succ_of_lt h.1, by
  show (if q = mm_N M then c else mm_K M q) = c'
  rw [if_neg (by have := h.1; omega)]; exact h.2⟩
theorem mm_w_ad (hw : Wf M) (h : ∀ i, i < mm_N M → ad' i = ad i) : mm_w cA ad' M = mm_w cA ad M := by
  unfold mm_w
  apply List.map_congr_left
  intro q hq
  have hq := List.mem_range.mp hq
  have hr : ∀ k, (mm_R M q k).map ad' = (mm_R M q k).map ad := fun k => by
    cases e : mm_R M q k with
    | none => rfl
    | some r =>
      show some (ad' r) = some (ad r)
      rw [h r (hw q k r hq e)]
  have h2 : ∀ i t, mm_fv ad' M q i t = mm_fv ad M q i t := fun i t => by
    unfold mm_fv
    rw [hr]
  have h3 : ∀ t, mm_ar ad' M q t = mm_ar ad M q t := fun t => by
    unfold mm_ar
    simp only [hr]
  have he : mm_e cA ad' M q = mm_e cA ad M q := by
    unfold mm_e mm_fl
    simp only [h2, h3]
  rw [h q hq, he]
theorem mm_fl_new {ad ad' : Nat → Nat} : mm_fl ad' (mm_push M c n) c (mm_N M) = mm_fl ad (mm_push M c n) c (mm_N M) := by
  unfold mm_fl
  apply List.map_congr_left
  intro k _
  unfold mm_fv
  rw [show mm_R (mm_push M c n) (mm_N M) k = none from if_pos rfl]
  rfl
theorem mm_ePush (h : q ≠ mm_N M) : mm_e cA ad (mm_push M c n) q = mm_e cA ad M q := by
  have k1 : mm_K (mm_push M c n) q = mm_K M q := if_neg h
  have k2 : mm_S (mm_push M c n) q = mm_S M q := if_neg h
  have r1 : mm_R (mm_push M c n) q = mm_R M q := funext fun k => if_neg h
  have i1 : mm_I (mm_push M c n) q = mm_I M q := funext fun k => if_neg h
  have l1 : mm_L (mm_push M c n) q = mm_L M q := funext fun k => if_neg h
  have h2 : ∀ i t, mm_fv ad (mm_push M c n) q i t = mm_fv ad M q i t := fun i t => by
    unfold mm_fv
    rw [r1, i1, l1]
  have h3 : ∀ t, mm_ar ad (mm_push M c n) q t = mm_ar ad M q t := fun t => by
    unfold mm_ar
    rw [r1, i1, l1]
  unfold mm_e mm_fl
  simp only [h2, h3, k1, k2]
theorem mm_wPush : mm_w cA ad (mm_push M c n) = mm_w cA ad M ++ [(ad (mm_N M), mm_e cA ad (mm_push M c n) (mm_N M))] := by
  have e : mm_w cA ad (mm_push M c n) = (List.range (mm_N M + 1)).map (fun q => (ad q, mm_e cA ad (mm_push M c n) q)) := rfl
  rw [e, List.range_succ, List.map_append]
  have e2 : (List.range (mm_N M)).map (fun q => (ad q, mm_e cA ad (mm_push M c n) q)) = mm_w cA ad M := by
    unfold mm_w
    apply List.map_congr_left
    intro q hq
    have := List.mem_range.mp hq
    rw [mm_ePush (by omega)]
  rw [e2]
  rfl
theorem mm_eNew (hc : c < 100) : mm_e cA ad (mm_push M c n) (mm_N M) = .inr (c, mm_fl ad (mm_push M c n) c (mm_N M)) := by
  have k1 : mm_K (mm_push M c n) (mm_N M) = c := if_pos rfl
  unfold mm_e
  rw [k1, if_pos hc]
theorem mm_eNewA : mm_e cA ad (mm_push M (100 + t) n) (mm_N M) = .inl (cA t, n, mm_ar ad (mm_push M (100 + t) n) (mm_N M) t) := by
  have k1 : mm_K (mm_push M (100 + t) n) (mm_N M) = 100 + t := if_pos rfl
  have k2 : mm_S (mm_push M (100 + t) n) (mm_N M) = n := if_pos rfl
  unfold mm_e
  rw [k1, k2, if_neg (by omega), Nat.add_sub_cancel_left]
theorem mm_eR {x : Option Nat} (h : j ≠ q) : mm_e cA ad (mm_wR M q k x) j = mm_e cA ad M j := by
  have h1 : mm_R (mm_wR M q k x) j = mm_R M j := mm_uo h
  have h2 : ∀ i t, mm_fv ad (mm_wR M q k x) j i t = mm_fv ad M j i t := fun i t => by
    unfold mm_fv
    rw [h1]
    rfl
  have h3 : ∀ t, mm_ar ad (mm_wR M q k x) j t = mm_ar ad M j t := fun t => by
    unfold mm_ar
    rw [h1]
    rfl
  unfold mm_e mm_fl
  simp only [h2, h3]
  rfl
theorem mm_setR {x : Nat} (h : mm_is M q c) (hc : c < 100) (hk : k < mm_nF c) (ht : mm_tF c k = 2) : (mm_w cA ad M).set q (ad q, .inr (c, (mm_fl ad M c q).set k (.ref (ad x)))) = mm_w cA ad (mm_wR M q k (some x)) := by
  refine mm_set h.1 rfl ?_ (fun j hj => mm_eR hj)
  have h1 : mm_K (mm_wR M q k (some x)) q = c := h.2
  unfold mm_e
  rw [h1, if_pos hc]
  refine congrArg (fun z => Sum.inr (c, z)) ?_
  apply List.ext_getElem?
  intro j
  rw [List.getElem?_set]
  by_cases hj : k = j
  · subst hj
    rw [if_pos rfl, mm_flk hk, if_pos (by rw [mm_fln]; exact hk), ht]
    show some (va_rf ((mm_R (mm_wR M q k (some x)) q k).map ad)) = _
    rw [show mm_R (mm_wR M q k (some x)) q k = some x from mm_uq]
    rfl
  · rw [if_neg hj]
    by_cases hl : j < mm_nF c
    · rw [mm_flk hl, mm_flk hl]
      unfold mm_fv
      rw [show mm_R (mm_wR M q k (some x)) q j = mm_R M q j from mm_uk (fun h => hj h.symm)]
      rfl
    · rw [List.getElem?_eq_none (by rw [mm_fln]; omega), List.getElem?_eq_none (by rw [mm_fln]; omega)]
theorem mm_asR {x : Nat} (h : mm_is M q 103) : (mm_w cA ad M).set q (ad q, .inl (cA 3, mm_S M q, .inr (.inr (.inr (.inr (va_up (fun j => (mm_R M q j).map ad) k (some (ad x)))))))) = mm_w cA ad (mm_wR M q k (some x)) := by
  refine mm_set h.1 rfl ?_ (fun j hj => mm_eR hj)
  have h1 : mm_K (mm_wR M q k (some x)) q = 100 + 3 := h.2
  have h2 : mm_ar ad (mm_wR M q k (some x)) q 3 = .inr (.inr (.inr (.inr (va_up (fun j => (mm_R M q j).map ad) k (some (ad x)))))) := by
    refine congrArg (fun z => Sum.inr (Sum.inr (Sum.inr (Sum.inr z)))) (funext fun j => ?_)
    show (mm_R (mm_wR M q k (some x)) q j).map ad = va_up (fun j => (mm_R M q j).map ad) k (some (ad x)) j
    unfold va_up
    by_cases hj : j = k
    · subst hj
      rw [if_pos rfl, show mm_R (mm_wR M q j (some x)) q j = some x from mm_uq]
      rfl
    · rw [if_neg hj, show mm_R (mm_wR M q k (some x)) q j = mm_R M q j from mm_uk hj]
  unfold mm_e
  rw [h1, if_neg (by omega), Nat.add_sub_cancel_left, h2]
  rfl
end
def KC (l : Launch) (y : MethodName) (cc : ByteArray) (mL : Nat) (rm : Room) (D : va_G) (cA : Nat → ClassId) (ad : Nat → Nat) (As : List Value) (M M' : Mm) (mc ms : Nat) : Prop := ∀ sz, Met l y (Cond.code y cc mL none :: WT) rm (va_Pc As (fun U => U.heap.size = sz ∧ Bq D cA ad (fun _ => True) M U ∧ (∀ w ∈ NW, va_Nw w U) ∧ va_AO "ChainMoves$Move" U)) (va_Qv (fun u : Nat → Nat => ∀ i, i < mm_N M → u i = ad i) (fun u t => Bq D cA u (Aw ad (mm_N M) sz) M' t) (Aw ad (mm_N M) sz)) mc ms (Aw ad (mm_N M) sz)
theorem kc_blind {D : va_G} {cA : Nat → ClassId} {ad : Nat → Nat} {sz : Nat} {As : List Value} {M : Mm} : FrameBlind (va_Pc As (fun U => U.heap.size = sz ∧ Bq D cA ad (fun _ => True) M U ∧ (∀ w ∈ NW, va_Nw w U) ∧ va_AO "ChainMoves$Move" U)) := fun a U g mk q => by
  obtain ⟨q0, q1, ⟨qP, qK, qD⟩, qN, qO⟩ := q
  exact ⟨q0, q1, ⟨qP, va_K.moved (u := U) (U := U.calling g mk a) (Vm.Alike.refl U.vm) qK, qD⟩, nw_same (s := U) (U := U.calling g mk a) rfl qN, va_AO.moved (u := U) (U := U.calling g mk a) (Vm.Alike.refl U.vm) qO⟩
section
variable {p : Program} {l : Launch} {e : Env} {R : Room} {s : State} {m : MethodId} {args : Array Value} {below : List Frame} {meth : Method} {c : Code} {H : Heap} {locs : List Loc} {cells slots : Nat} {Q : State → Prop} {pc : Nat} {ls : Array Slot} {rest : List Value} {cc : ByteArray}
variable {D : va_G} {cA : Nat → ClassId} {ad : Nat → Nat} {A : Nat → Prop} {M M' : Mm} {own : String} {nL : Nat}
theorem KC_of {y : MethodName} {mL : Nat} {rm : Room} {As : List Value} {mc ms : Nat} (hy : plainName y.cls = true) (hlen : (lg_sl As).length ≤ mL) (hnm : y.name = "<init>")
    (body : ∀ (p : Program) (e : Env) (s : State) (m : MethodId) (args : Array Value) (below : List Frame) (meth : Method) (c : Code) (ls : Array Slot) (Q : State → Prop) (A : Nat → Prop) (H : Heap) (locs : List Loc), Zs p c cc s m args y.cls mL D cA A → va_AO "ChainMoves$Move" s → meth.name = "<init>" → En D cA ad s A M H locs → lv_has ls mL (lv_args 0 As) →
      (∀ (ad1 : Nat → Nat) (M1 : Mm) (H : Heap) (locs : List Loc) (pc : Nat) (ls : Array Slot), (∀ i, i < mm_N M → ad1 i = ad i) → M1 = M' → decode cc pc = .ok (.return_, 1) → En D cA ad1 s A M1 H locs → W p l e rm s m args below meth c H locs mc ms Q (F0 m pc ls [])) →
      W p l e rm s m args below meth c H locs 0 0 Q (F0 m 0 ls [])) : KC l y cc mL rm D cA ad As M M' mc ms := by
  intro sz
  refine Met.ofW (cc := cc) (maxL := mL) (ret := none) hy rfl ?_
  intro p e s m args below meth c s₁ B hml hv
  obtain ⟨rfl, hsz, ⟨hP, hK, hD0⟩, hN, hO⟩ := hv
  subst hsz
  have hl := lv_entry As (n := mL) hlen
  rw [lg_entry_eq]
  have hts := atoms_spec (ws := Cond.code y cc mL none :: WT) B.pre
  have hin : meth.name = "<init>" := (name_of_methodNamed B.named B.method).1.trans hnm
  refine body p e s m _ below meth c _ _ (Aw ad (mm_N M) s.heap.size) _ _ ⟨B.exec, B.bytes, hml, findClass_of_methodNamed B.named, fun w h => hts w (List.mem_cons_of_mem _ h), hN, hK, fun q h => Or.inr h⟩ hO hin ⟨hP, aw_D hD0, va_S.rf⟩ hl ?_
  intro ad1 M1 H locs pc ls had hM hd hE
  subst hM
  have hlocks := B.notSynchronized
  exact W.vret B.exec B.bytes B.returns (fun t ht hW => ⟨⟨ad1, rfl, had, by rw [ht]; exact hE.1, va_K.moved hW.alike hK, hE.2.1⟩, hE.2.2.F ht⟩) hE.2.2.2.2 hd
theorem xn_O (hZ : Zs p c cc s m args own nL D cA A) (hE : En D cA ad s A M H locs) (hw : Wf M) {ci N idx : Nat} {C : String} {T : u_T} {ty : Nat → FieldType} (hC : Cls ci C T N ty) (hdf : ∀ j, j < N → defaultValue (ty j) = vp_V (mm_fl ad (mm_push M ci 0) ci (mm_N M)) j) (hcl : Cond.classLink own idx C ∈ WT) (hinst : Cond.instantiable C N ∈ WT) (hini : Cond.initialized C ∈ WT) (hcells : cells + 1 ≤ R.cells) (hslots : slots + N ≤ R.slots) (hdg : decode cc pc = .ok (.new idx, 3))
    (kk : ∀ (ad1 : Nat → Nat) (x : Nat) (H1 : Heap), ad1 (mm_N M) = x → (∀ i, i < mm_N M → ad1 i = ad i) → En D cA ad1 s A (mm_push M ci 0) H1 locs → W p l e R s m args below meth c H1 locs (cells + 1) (slots + N) Q (F0 m (pc + 3) ls (.ref x :: rest))) : W p l e R s m args below meth c H locs cells slots Q (F0 m pc ls rest) := by
  obtain ⟨hx, hb, hml, hown, hts, hnw, hK, hA⟩ := hZ
  obtain ⟨hc, hin, h100, hn, hty, hnm⟩ := hC
  refine va_new (ci := ci) (fs := mm_fl ad (mm_push M ci 0) ci (mm_N M)) hx hb hts hin ty hty hown (hts _ hcl) (hts _ hinst) (hts _ hini) hK hE.1 hE.2.1 hE.2.2 hA hc hdf hcells hslots hdg (fun q H1 hP hD hS => ?_)
  have had : ∀ i, i < mm_N M → (fun i => if i = mm_N M then q else ad i) i = ad i := fun i hi => if_neg (by omega)
  have hq : (fun i => if i = mm_N M then q else ad i) (mm_N M) = q := if_pos rfl
  generalize (fun i => if i = mm_N M then q else ad i) = ad1 at had hq
  have e1 : mm_w cA ad1 (mm_push M ci 0) = mm_w cA ad M ++ [(q, .inr (ci, mm_fl ad (mm_push M ci 0) ci (mm_N M)))] := by
    rw [mm_wPush, mm_w_ad hw had, mm_eNew h100, hq, mm_fl_new (ad := ad) (ad' := ad1)]
  rw [← e1] at hP hD
  exact kk ad1 q H1 hq had ⟨hP, hD, hS⟩
theorem xn_A (hZ : Zs p c cc s m args own nL D cA A) (hE : En D cA ad s A M H locs) (hw : Wf M) {atype : ArrayType} {t n cn : Nat} (hcn : cn = 100 + t) {v : Int32} {ty : FieldType} (hty : newarray.typeOf atype = ty) (ht : (mm_tys cA)[t]? = some (cA t, ty)) (hra : ∀ cB, va_RA s cB ty → s.vm.findClass ("[" ++ ty.toString) = some cB) (harr : Cond.arrayClass (newarray.typeOf atype) ∈ WT) (hcell : ∀ cB : ClassId, vp_cell cB (n, mm_ar ad (mm_push M (100 + t) n) (mm_N M) t) = arrV cB n (fun _ => defaultValue ty)) (har : ∀ ad1 : Nat → Nat, mm_ar ad1 (mm_push M (100 + t) n) (mm_N M) t = mm_ar ad (mm_push M (100 + t) n) (mm_N M) t) (hv0 : ¬ v < 0) (hvn : v.toNatClampNeg = n) (hbytes : n * componentBytes ty ≤ 536870912) (hcells : cells + 1 ≤ R.cells) (hslots : slots + n ≤ R.slots) (hdg : decode cc pc = .ok (.newarray atype, 2))
    (kk : ∀ (ad1 : Nat → Nat) (x : Nat) (H1 : Heap), ad1 (mm_N M) = x → (∀ i, i < mm_N M → ad1 i = ad i) → En D cA ad1 s A (mm_push M cn n) H1 locs → W p l e R s m args below meth c H1 locs (cells + 1) (slots + n) Q (F0 m (pc + 2) ls (.ref x :: rest))) : W p l e R s m args below meth c H locs cells slots Q (F0 m pc ls (.int v :: rest)) := by
  obtain ⟨hx, hb, hml, hown, hts, hnw, hK, hA⟩ := hZ
  subst hcn
  refine va_newa (a0 := (n, mm_ar ad (mm_push M (100 + t) n) (mm_N M) t)) hx hb (hts _ harr) hty hK hE.1 hE.2.1 hE.2.2 hA hcell hv0 hvn hbytes hcells hslots hdg (fun q cB H1 hK1 hP hD hS => ?_)
  have hcb : cB = cA t := by
    have k1 := hra _ (hK.2 t _ ht).2
    have k2 := hra _ (hK1.2 (mm_tys cA).length (cB, ty) (by rw [List.getElem?_append_right (Nat.le_refl _), Nat.sub_self]; rfl)).2
    exact Option.some.inj (k2.symm.trans k1)
  subst hcb
  have had : ∀ i, i < mm_N M → (fun i => if i = mm_N M then q else ad i) i = ad i := fun i hi => if_neg (by omega)
  have hq : (fun i => if i = mm_N M then q else ad i) (mm_N M) = q := if_pos rfl
  generalize (fun i => if i = mm_N M then q else ad i) = ad1 at had hq
  have e1 : mm_w cA ad1 (mm_push M (100 + t) n) = mm_w cA ad M ++ [(q, .inl (cA t, n, mm_ar ad (mm_push M (100 + t) n) (mm_N M) t))] := by
    rw [mm_wPush, mm_w_ad hw had, mm_eNewA, hq, har ad1]
  rw [← e1] at hP hD
  exact kk ad1 q H1 hq had ⟨hP, hD, hS⟩
theorem xn_Q (hZ : Zs p c cc s m args own nL D cA A) (hE : En D cA ad s A M H locs) (hw : Wf M) {n idx : Nat} {v : Int32} {C : String} (ht : (mm_tys cA)[3]? = some (cA 3, .object C)) (hcl : Cond.classLink own idx C ∈ WT) (hover : va_AO C s) (hv0 : ¬ v < 0) (hvn : v.toNatClampNeg = n) (hbytes : n * 4 ≤ 536870912) (hcells : cells + 1 ≤ R.cells) (hslots : slots + n ≤ R.slots) (hdg : decode cc pc = .ok (.anewarray idx, 3))
    (kk : ∀ (ad1 : Nat → Nat) (x : Nat) (H1 : Heap), ad1 (mm_N M) = x → (∀ i, i < mm_N M → ad1 i = ad i) → En D cA ad1 s A (mm_push M 103 n) H1 locs → W p l e R s m args below meth c H1 locs (cells + 1) (slots + n) Q (F0 m (pc + 3) ls (.ref x :: rest))) : W p l e R s m args below meth c H locs cells slots Q (F0 m pc ls (.int v :: rest)) := by
  obtain ⟨hx, hb, hml, hown, hts, hnw, hK, hA⟩ := hZ
  refine va_newq hx hb hown (hts _ hcl) hover hK hE.1 hE.2.1 hE.2.2 hA hv0 hvn hbytes hcells hslots hdg (fun q cB H1 hK1 hP hD hS => ?_)
  have hcb : cB = cA 3 := by
    obtain ⟨_, _, -, -, -, k1⟩ := (hK.2 3 _ ht).2
    obtain ⟨_, _, -, -, -, k2⟩ := (hK1.2 (mm_tys cA).length (cB, .object C) (by rw [List.getElem?_append_right (Nat.le_refl _), Nat.sub_self]; rfl)).2
    exact Option.some.inj (k2.symm.trans k1)
  subst hcb
  have had : ∀ i, i < mm_N M → (fun i => if i = mm_N M then q else ad i) i = ad i := fun i hi => if_neg (by omega)
  have hq : (fun i => if i = mm_N M then q else ad i) (mm_N M) = q := if_pos rfl
  generalize (fun i => if i = mm_N M then q else ad i) = ad1 at had hq
  have e2 : mm_ar ad1 (mm_push M (100 + 3) n) (mm_N M) 3 = .inr (.inr (.inr (.inr (fun _ => none)))) := by
    refine congrArg (fun z => Sum.inr (Sum.inr (Sum.inr (Sum.inr z)))) (funext fun j => ?_)
    show ((if mm_N M = mm_N M then none else mm_R M (mm_N M) j) : Option Nat).map ad1 = none
    rw [if_pos rfl]
    rfl
  have e1 : mm_w cA ad1 (mm_push M 103 n) = mm_w cA ad M ++ [(q, .inl (cA 3, n, .inr (.inr (.inr (.inr (fun _ => none))))))] := by
    rw [mm_wPush, mm_w_ad hw had, mm_eNewA (t := 3), hq, e2]
  rw [← e1] at hP hD
  exact kk ad1 q H1 hq had ⟨hP, hD, hS⟩
theorem xn_p (hZ : Zs p c cc s m args own nL D cA A) (hE : En D cA ad s A M H locs) {ci idx q r xq xr N : Nat} {C : String} {T : u_T} {ty : Nat → FieldType} {fy : FieldType} (hC : Cls ci C T N ty) (k : Nat) (hk : k < N) (ht : mm_tF ci k = 2) (hfy : ty k = fy) (hin2 : meth.name = "<init>") (hfin : (T k).2.2.2 = true) (hdecl : (T k).1 = own) (hnar : ∀ a : Nat, narrow fy (.ref a) = .ref a) (hfit : ∀ a : Nat, fits fy (.ref a) = true) (hlink : Cond.fieldLink own idx (T k).1 (T k).2.1 (T k).2.2.1 ∈ WT) (hi : mm_is M q ci) (eq : ad q = xq) (er : ad r = xr) (hdg : decode cc pc = .ok (.putfield idx, 3))
    (kk : ∀ (H1 : Heap) (locs1 : List Loc), En D cA ad s A (mm_wR M q k (some r)) H1 locs1 → W p l e R s m args below meth c H1 locs1 cells slots Q (F0 m (pc + 3) ls rest)) : W p l e R s m args below meth c H locs cells slots Q (F0 m pc ls (.ref xr :: .ref xq :: rest)) := by
  obtain ⟨hx, hb, hml, hown, hts, hnw, hK, hA⟩ := hZ
  obtain ⟨hc, hin, h100, hn, hty, hnm⟩ := hC
  subst eq
  subst er
  refine va_putF (D := D) (ci := ci) (ty := fy) hx hb hts hin ty hty hnm hown hK hE.1 hE.2.1 hE.2.2 q (mm_eo hi h100) hc k hk (hts _ hlink) (fun _ h => h) hfin hin2 hdecl (by rw [hty k hk, hfy]) (hnar _) (hfit _) (by rw [mm_fln, hn]; exact hk) hdg (fun H1 locs1 hP hD hS => ?_)
  rw [mm_setR hi h100 (by rw [hn]; exact hk) ht] at hP hD
  exact kk H1 locs1 ⟨hP, hD, hS⟩
theorem xn_s (hZ : Zs p c cc s m args own nL D cA A) (hE : En D cA ad s A M H locs) {ci q r xq xr : Nat} {i : Int32} {rc : vw_C} (hc : vwCl[ci]? = some rc) (h100 : ci < 100) (ht : (mm_tys cA)[3]? = some (cA 3, .object rc.1)) (hi : mm_is M q 103) (hr : mm_is M r ci) (hin : mm_in i (mm_S M q)) (eq : ad q = xq) (er : ad r = xr) (hdg : decode cc pc = .ok (.aastore, 1))
    (kk : ∀ (H1 : Heap) (locs1 : List Loc), En D cA ad s A (mm_wR M q i.toNatClampNeg (some r)) H1 locs1 → W p l e R s m args below meth c H1 locs1 cells slots Q (F0 m (pc + 1) ls rest)) : W p l e R s m args below meth c H locs cells slots Q (F0 m pc ls (.ref xr :: .int i :: .ref xq :: rest)) := by
  obtain ⟨hx, hb, hml, hown, hts, hnw, hK, hA⟩ := hZ
  subst eq
  subst er
  refine va_astq (D := D) hx hb hK hE.1 hE.2.1 hE.2.2 q 3 r ci (mm_ea (t := 3) hi) ht (mm_eo hr h100) hc hin hdg (fun H1 locs1 hP hD hS => ?_)
  rw [mm_asR hi] at hP hD
  exact kk H1 locs1 ⟨hP, hD, hS⟩
theorem xn_pI (hZ : Zs p c cc s m args own nL D cA A) (hE : En D cA ad s A M H locs) {ci idx q xq N : Nat} {C : String} {T : u_T} {ty : Nat → FieldType} {x : Int32} (hC : Cls ci C T N ty) (k : Nat) (hk : k < N) (ht : mm_tF ci k = 0) (hy : ty k = .int) (hf : (T k).2.2.2 = false) (hlink : Cond.fieldLink own idx (T k).1 (T k).2.1 (T k).2.2.1 ∈ WT) (hi : mm_is M q ci) (eq : ad q = xq) (hdg : decode cc pc = .ok (.putfield idx, 3))
    (kk : ∀ (H1 : Heap) (locs1 : List Loc), En D cA ad s A (mm_wI M q k x) H1 locs1 → W p l e R s m args below meth c H1 locs1 cells slots Q (F0 m (pc + 3) ls rest)) : W p l e R s m args below meth c H locs cells slots Q (F0 m pc ls (.int x :: .ref xq :: rest)) := by
  subst eq
  exact xx_pI (M' := mm_wI M q k x) hZ hE hC k hk ht hy hf hlink (if_pos hi) hdg kk
theorem xn_pZ (hZ : Zs p c cc s m args own nL D cA A) (hE : En D cA ad s A M H locs) {ci idx q xq N : Nat} {C : String} {T : u_T} {ty : Nat → FieldType} {x : Int32} (hC : Cls ci C T N ty) (k : Nat) (hk : k < N) (ht : mm_tF ci k = 0) (hy : ty k = .boolean) (hf : (T k).2.2.2 = false) (hlink : Cond.fieldLink own idx (T k).1 (T k).2.1 (T k).2.2.1 ∈ WT) (hi : mm_is M q ci) (h01 : x = 0 ∨ x = 1) (eq : ad q = xq) (hdg : decode cc pc = .ok (.putfield idx, 3))
    (kk : ∀ (H1 : Heap) (locs1 : List Loc), En D cA ad s A (mm_wI M q k x) H1 locs1 → W p l e R s m args below meth c H1 locs1 cells slots Q (F0 m (pc + 3) ls rest)) : W p l e R s m args below meth c H locs cells slots Q (F0 m pc ls (.int x :: .ref xq :: rest)) := by
  subst eq
  exact xx_pZ (M' := mm_wI M q k x) hZ hE hC k hk ht hy hf hlink (if_pos ⟨hi, h01⟩) hdg kk
theorem xn_pL (hZ : Zs p c cc s m args own nL D cA A) (hE : En D cA ad s A M H locs) {ci idx q xq N : Nat} {C : String} {T : u_T} {ty : Nat → FieldType} {x : Int64} (hC : Cls ci C T N ty) (k : Nat) (hk : k < N) (ht : mm_tF ci k = 1) (hy : ty k = .long) (hf : (T k).2.2.2 = false) (hlink : Cond.fieldLink own idx (T k).1 (T k).2.1 (T k).2.2.1 ∈ WT) (hi : mm_is M q ci) (eq : ad q = xq) (hdg : decode cc pc = .ok (.putfield idx, 3))
    (kk : ∀ (H1 : Heap) (locs1 : List Loc), En D cA ad s A (mm_wL M q k x) H1 locs1 → W p l e R s m args below meth c H1 locs1 cells slots Q (F0 m (pc + 3) ls rest)) : W p l e R s m args below meth c H locs cells slots Q (F0 m pc ls (.long x :: .ref xq :: rest)) := by
  subst eq
  exact xx_pL (M' := mm_wL M q k x) hZ hE hC k hk ht hy hf hlink (if_pos hi) hdg kk
theorem xn_cN (hZ : Zs p c cc s m args own nL D cA A) (hO : va_AO "ChainMoves$Move" s) (hE : En D cA ad s A M H locs) {y : MethodName} {cc' : ByteArray} {mL n idx b xb mc ms : Nat} {rm : Room} {As As' st0 : List Value} (hinst : Cond.instanceMethod y ∈ WT) (hM : KC l y cc' mL rm D cA ad (.ref (ad b) :: As) M M' mc ms) (eb : ad b = xb) (eAs : As = As') (hW : CW y cc' mL none n) {host : String} (hlink : Cond.methodLinkNest own idx y host ∈ NW) (hnm : y.name = "<init>") (hrm : rm.cells = mc ∧ rm.slots = ms) (hR : rm.frames + 1 ≤ R.frames ∧ 8 + (mL + 11) + rm.locals ≤ R.locals) (hn : As'.length = n) (hsz : ls.size = nL) (hst : st0 = As'.reverse ++ .ref xb :: rest) (hcat : (rest.map fun v => v.category).sum ≤ 8) (hf : cells + mc ≤ R.cells ∧ slots + ms ≤ R.slots) (hdg : decode cc pc = .ok (.invokespecial idx, 3))
    (kk : ∀ (ad1 : Nat → Nat) (H1 : Heap) (locs1 : List Loc), (∀ i, i < mm_N M → ad1 i = ad i) → En D cA ad1 s A M' H1 locs1 → W p l e R s m args below meth c H1 locs1 (cells + mc) (slots + ms) Q (F0 m (pc + 3) ls rest)) : W p l e R s m args below meth c H locs cells slots Q (F0 m pc ls st0) := by
  obtain ⟨hx, hb, hml, hown, hts, hnw, hK, hA⟩ := hZ
  subst eb
  subst eAs
  have hF := aw_in hE.2.1 hE.2.2 hA
  refine va_callv (va_runIN (As := As) (rest := rest) ⟨hx, hb, hml, hown, hts⟩ (hM H.size) ⟨va_cnB n hts (cw_good hW) rfl hrm.1 hrm.2 (hnw _ hlink) (hts _ hW.2.1) hW.2.2 hR, hnm, hts _ hinst⟩ ⟨kc_blind, fun U hU hWm => ⟨rfl, by rw [hU], ⟨by rw [hU]; exact hE.1, va_K.moved hWm.alike hK, hE.2.1.weaken (fun _ _ _ _ => trivial)⟩, nw_warm hWm hnw, va_AO.moved hWm.alike hO⟩⟩ rfl hn hsz hst (lv_room hcat) hdg hf) hE.2.2 (fun q _ h => hF q h) hF (fun u t H1 locs1 ht hvm hw hB hz1 hk1 hS => ?_)
  obtain ⟨hP1, hK1, hD1⟩ := hB
  rw [ht] at hP1
  exact kk u H1 locs1 hw ⟨hP1, hD1.weaken (fun _ _ _ h => hF _ h), hS⟩
theorem xn_cI (hZ : Zs p c cc s m args own nL D cA A) (hO : va_AO "ChainMoves$Move" s) (hE : En D cA ad s A M H locs) {y : MethodName} {cc' : ByteArray} {mL n idx b xb mc ms : Nat} {rm : Room} {As As' st0 : List Value} (hinst : Cond.instanceMethod y ∈ WT) (hM : KC l y cc' mL rm D cA ad (.ref (ad b) :: As) M M' mc ms) (eb : ad b = xb) (eAs : As = As') (hW : CW y cc' mL none n) (hlink : Cond.methodLink own idx y ∈ WT) (hnm : y.name = "<init>") (hrm : rm.cells = mc ∧ rm.slots = ms) (hR : rm.frames + 1 ≤ R.frames ∧ 8 + (mL + 11) + rm.locals ≤ R.locals) (hn : As'.length = n) (hsz : ls.size = nL) (hst : st0 = As'.reverse ++ .ref xb :: rest) (hcat : (rest.map fun v => v.category).sum ≤ 8) (hf : cells + mc ≤ R.cells ∧ slots + ms ≤ R.slots) (hdg : decode cc pc = .ok (.invokespecial idx, 3))
    (kk : ∀ (ad1 : Nat → Nat) (H1 : Heap) (locs1 : List Loc), (∀ i, i < mm_N M → ad1 i = ad i) → En D cA ad1 s A M' H1 locs1 → W p l e R s m args below meth c H1 locs1 (cells + mc) (slots + ms) Q (F0 m (pc + 3) ls rest)) : W p l e R s m args below meth c H locs cells slots Q (F0 m pc ls st0) := by
  obtain ⟨hx, hb, hml, hown, hts, hnw, hK, hA⟩ := hZ
  subst eb
  subst eAs
  have hF := aw_in hE.2.1 hE.2.2 hA
  refine va_callv (va_runI (As := As) (rest := rest) ⟨hx, hb, hml, hown, hts⟩ (hM H.size) ⟨callB_of n hts (cw_good hW) rfl hrm.1 hrm.2 (hts _ hW.2.1) (hts _ hlink) hW.2.2 hR, hnm, hts _ hinst⟩ ⟨kc_blind, fun U hU hWm => ⟨rfl, by rw [hU], ⟨by rw [hU]; exact hE.1, va_K.moved hWm.alike hK, hE.2.1.weaken (fun _ _ _ _ => trivial)⟩, nw_warm hWm hnw, va_AO.moved hWm.alike hO⟩⟩ rfl hn hsz hst (lv_room hcat) hdg hf) hE.2.2 (fun q _ h => hF q h) hF (fun u t H1 locs1 ht hvm hw hB hz1 hk1 hS => ?_)
  obtain ⟨hP1, hK1, hD1⟩ := hB
  rw [ht] at hP1
  exact kk u H1 locs1 hw ⟨hP1, hD1.weaken (fun _ _ _ h => hF _ h), hS⟩
end
