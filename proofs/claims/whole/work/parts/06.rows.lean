def Aw (ad : Nat → Nat) (n sz : Nat) : Nat → Prop := fun a => (∃ q, q < n ∧ a = ad q) ∨ sz ≤ a
def Bq (D : va_G) (cA : Nat → ClassId) (ad : Nat → Nat) (A : Nat → Prop) (M : Mm) (t : State) : Prop := va_P D vwCl (mm_w cA ad M) t.heap ∧ va_K D vwCl (mm_tys cA) t ∧ va_D A (mm_w cA ad M)
def Pw (D : va_G) (cA : Nat → ClassId) (ad : Nat → Nat) (sz : Nat) (As : List Value) (M : Mm) : Array Value → State → Prop := va_Pc As (fun U => U.heap.size = sz ∧ Bq D cA ad (fun _ => True) M U ∧ ∀ w ∈ NW, va_Nw w U)
def QI (D : va_G) (cA : Nat → ClassId) (ad : Nat → Nat) (n sz : Nat) (r : Int32) (M' : Mm) : Array Value → State → Outcome → State → Prop := va_Qi (fun r' (u : Mm) => r' = r ∧ u = M') (Bq D cA ad (Aw ad n sz)) (Aw ad n sz)
def QL (D : va_G) (cA : Nat → ClassId) (ad : Nat → Nat) (n sz : Nat) (r : Int64) (M' : Mm) : Array Value → State → Outcome → State → Prop := va_Ql (fun r' (u : Mm) => r' = r ∧ u = M') (Bq D cA ad (Aw ad n sz)) (Aw ad n sz)
def QV (D : va_G) (cA : Nat → ClassId) (ad : Nat → Nat) (n sz : Nat) (M' : Mm) : Array Value → State → Outcome → State → Prop := va_Qv (fun (u : Mm) => u = M') (Bq D cA ad (Aw ad n sz)) (Aw ad n sz)
def QR (D : va_G) (cA : Nat → ClassId) (ad : Nat → Nat) (n sz : Nat) (r : Nat) (M' : Mm) : Array Value → State → Outcome → State → Prop := va_Qr (fun (u : Mm) => u = M') (fun u a t => a = ad r ∧ Bq D cA ad (Aw ad n sz) u t) (Aw ad n sz)
def KI (l : Launch) (y : MethodName) (cc : ByteArray) (mL : Nat) (ret : Option FieldType) (rm : Room) (D : va_G) (cA : Nat → ClassId) (ad : Nat → Nat) (As : List Value) (M : Mm) (r : Int32) (M' : Mm) : Prop := ∀ sz, Met l y (Cond.code y cc mL ret :: WT) rm (Pw D cA ad sz As M) (QI D cA ad (mm_N M) sz r M') 0 0 (Aw ad (mm_N M) sz)
def KL (l : Launch) (y : MethodName) (cc : ByteArray) (mL : Nat) (ret : Option FieldType) (rm : Room) (D : va_G) (cA : Nat → ClassId) (ad : Nat → Nat) (As : List Value) (M : Mm) (r : Int64) (M' : Mm) : Prop := ∀ sz, Met l y (Cond.code y cc mL ret :: WT) rm (Pw D cA ad sz As M) (QL D cA ad (mm_N M) sz r M') 0 0 (Aw ad (mm_N M) sz)
def KV (l : Launch) (y : MethodName) (cc : ByteArray) (mL : Nat) (ret : Option FieldType) (rm : Room) (D : va_G) (cA : Nat → ClassId) (ad : Nat → Nat) (As : List Value) (M : Mm) (M' : Mm) : Prop := ∀ sz, Met l y (Cond.code y cc mL ret :: WT) rm (Pw D cA ad sz As M) (QV D cA ad (mm_N M) sz M') 0 0 (Aw ad (mm_N M) sz)
def KR (l : Launch) (y : MethodName) (cc : ByteArray) (mL : Nat) (ret : Option FieldType) (rm : Room) (D : va_G) (cA : Nat → ClassId) (ad : Nat → Nat) (As : List Value) (M : Mm) (r : Nat) (M' : Mm) : Prop := ∀ sz, Met l y (Cond.code y cc mL ret :: WT) rm (Pw D cA ad sz As M) (QR D cA ad (mm_N M) sz r M') 0 0 (Aw ad (mm_N M) sz)
def Zs (p : Program) (c : Code) (cc : ByteArray) (s : State) (m : MethodId) (args : Array Value) (own : String) (nL : Nat) (D : va_G) (cA : Nat → ClassId) (A : Nat → Prop) : Prop := p.tables.exec = Jvm.exec ∧ c.code = cc ∧ c.maxLocals = nL ∧ s.vm.findClass own = some m.cls ∧ (∀ w ∈ WT, w.before args s = true) ∧ (∀ w ∈ NW, va_Nw w s) ∧ va_K D vwCl (mm_tys cA) s ∧ (∀ q, s.heap.size ≤ q → A q)
def En (D : va_G) (cA : Nat → ClassId) (ad : Nat → Nat) (s : State) (A : Nat → Prop) (M : Mm) (H : Heap) (locs : List Loc) : Prop := va_P D vwCl (mm_w cA ad M) H ∧ va_D A (mm_w cA ad M) ∧ va_S A s.heap H locs
def Cls (ci : Nat) (C : String) (T : u_T) (N : Nat) (ty : Nat → FieldType) : Prop := vwCl[ci]? = some (C, T, N) ∧ (∀ w ∈ u_ws C T N, w ∈ WT) ∧ ci < 100 ∧ mm_nF ci = N ∧ (∀ k, k < N → parseFieldDescriptor (T k).2.2.1 = some (ty k)) ∧ (∀ a, a < N → ∀ b, b < N → a ≠ b → (T a).2.1 ≠ (T b).2.1)
theorem pr_1 {α β : Type} {a : α} {b : β} {z : α × β} (h : some (a, b) = some z) : a = z.1 := by cases h; rfl
theorem pr_2 {α β : Type} {a : α} {b : β} {z : α × β} (h : some (a, b) = some z) : b = z.2 := by cases h; rfl
theorem mm_inv {cA : Nat → ClassId} {ad : Nat → Nat} {M : Mm} {k : Nat} {q : Nat × va_E} (h : (mm_w cA ad M)[k]? = some q) : k < mm_N M ∧ q.1 = ad k := by
  by_cases hk : k < mm_N M
  · rw [mm_at hk] at h
    cases h
    exact ⟨hk, rfl⟩
  · rw [mm_none hk] at h
    cases h
theorem aw_D {cA : Nat → ClassId} {ad : Nat → Nat} {M : Mm} {sz : Nat} {A : Nat → Prop} (h : va_D A (mm_w cA ad M)) : va_D (Aw ad (mm_N M) sz) (mm_w cA ad M) := ⟨h.1, fun k q hk => Or.inl ⟨k, (mm_inv hk).1, (mm_inv hk).2⟩⟩
theorem aw_in {cA : Nat → ClassId} {ad : Nat → Nat} {M : Mm} {A : Nat → Prop} {H0 H : Heap} {locs : List Loc} (hD : va_D A (mm_w cA ad M)) (hS : va_S A H0 H locs) (hA : ∀ q, H0.size ≤ q → A q) : ∀ q, Aw ad (mm_N M) H.size q → A q := by
  intro q h
  rcases h with ⟨k, hk, rfl⟩ | h
  · exact hD.2 k _ (mm_at hk)
  · exact hA q (Nat.le_trans hS.1 h)
theorem pw_blind {D : va_G} {cA : Nat → ClassId} {ad : Nat → Nat} {sz : Nat} {As : List Value} {M : Mm} : FrameBlind (Pw D cA ad sz As M) := fun a U g mk q => by
  obtain ⟨q0, q1, ⟨qP, qK, qD⟩, qN⟩ := q
  exact ⟨q0, q1, ⟨qP, va_K.moved (u := U) (U := U.calling g mk a) (Vm.Alike.refl U.vm) qK, qD⟩, nw_same (s := U) (U := U.calling g mk a) rfl qN⟩

section
variable {p : Program} {l : Launch} {e : Env} {R : Room} {s : State} {m : MethodId} {args : Array Value} {below : List Frame} {meth : Method} {c : Code} {H : Heap} {locs : List Loc} {cells slots : Nat} {Q : State → Prop} {pc : Nat} {ls : Array Slot} {rest : List Value} {cc : ByteArray}
variable {D : va_G} {cA : Nat → ClassId} {ad : Nat → Nat} {A : Nat → Prop} {M M' : Mm} {own : String} {nL : Nat}
theorem KI_of {y : MethodName} {mL : Nat} {ty : FieldType} {rm : Room} {As : List Value} {r : Int32} (hy : plainName y.cls = true) (hlen : (lg_sl As).length ≤ mL)
    (body : ∀ (p : Program) (e : Env) (s : State) (m : MethodId) (args : Array Value) (below : List Frame) (meth : Method) (c : Code) (ls : Array Slot) (Q : State → Prop) (A : Nat → Prop) (H : Heap) (locs : List Loc), Zs p c cc s m args y.cls mL D cA A → En D cA ad s A M H locs → lv_has ls mL (lv_args 0 As) →
      (∀ (v : Int32) (M1 : Mm) (H : Heap) (locs : List Loc) (pc : Nat) (ls : Array Slot), v = r → M1 = M' → narrow ty (.int v) = .int v → decode cc pc = .ok (.ireturn, 1) → En D cA ad s A M1 H locs → W p l e rm s m args below meth c H locs 0 0 Q (F0 m pc ls [.int v])) →
      W p l e rm s m args below meth c H locs 0 0 Q (F0 m 0 ls [])) : KI l y cc mL (some ty) rm D cA ad As M r M' := by
  intro sz
  refine Met.ofW (cc := cc) (maxL := mL) (ret := (some ty)) hy rfl ?_
  intro p e s m args below meth c s₁ B hml hv
  obtain ⟨rfl, hsz, ⟨hP, hK, hD0⟩, hN⟩ := hv
  subst hsz
  have hl := lv_entry As (n := mL) hlen
  rw [lg_entry_eq]
  have hts := atoms_spec (ws := Cond.code y cc mL (some ty) :: WT) B.pre
  refine body p e s m _ below meth c _ _ (Aw ad (mm_N M) s.heap.size) _ _ ⟨B.exec, B.bytes, hml, findClass_of_methodNamed B.named, fun w h => hts w (List.mem_cons_of_mem _ h), hN, hK, fun q h => Or.inr h⟩ ⟨hP, aw_D hD0, va_S.rf⟩ hl ?_
  intro v M1 H locs pc ls hv hM hn hd hE
  subst hv
  subst hM
  have hlocks := B.notSynchronized
  exact W.zret B.exec B.bytes B.returns hn (fun t ht hW => ⟨⟨v, M1, rfl, ⟨rfl, rfl⟩, by rw [ht]; exact hE.1, va_K.moved hW.alike hK, hE.2.1⟩, hE.2.2.F ht⟩) hE.2.2.2.2 hd
theorem KL_of {y : MethodName} {mL : Nat} {rm : Room} {As : List Value} {r : Int64} (hy : plainName y.cls = true) (hlen : (lg_sl As).length ≤ mL)
    (body : ∀ (p : Program) (e : Env) (s : State) (m : MethodId) (args : Array Value) (below : List Frame) (meth : Method) (c : Code) (ls : Array Slot) (Q : State → Prop) (A : Nat → Prop) (H : Heap) (locs : List Loc), Zs p c cc s m args y.cls mL D cA A → En D cA ad s A M H locs → lv_has ls mL (lv_args 0 As) →
      (∀ (v : Int64) (M1 : Mm) (H : Heap) (locs : List Loc) (pc : Nat) (ls : Array Slot), v = r → M1 = M' → decode cc pc = .ok (.lreturn, 1) → En D cA ad s A M1 H locs → W p l e rm s m args below meth c H locs 0 0 Q (F0 m pc ls [.long v])) →
      W p l e rm s m args below meth c H locs 0 0 Q (F0 m 0 ls [])) : KL l y cc mL (some .long) rm D cA ad As M r M' := by
  intro sz
  refine Met.ofW (cc := cc) (maxL := mL) (ret := (some .long)) hy rfl ?_
  intro p e s m args below meth c s₁ B hml hv
  obtain ⟨rfl, hsz, ⟨hP, hK, hD0⟩, hN⟩ := hv
  subst hsz
  have hl := lv_entry As (n := mL) hlen
  rw [lg_entry_eq]
  have hts := atoms_spec (ws := Cond.code y cc mL (some .long) :: WT) B.pre
  refine body p e s m _ below meth c _ _ (Aw ad (mm_N M) s.heap.size) _ _ ⟨B.exec, B.bytes, hml, findClass_of_methodNamed B.named, fun w h => hts w (List.mem_cons_of_mem _ h), hN, hK, fun q h => Or.inr h⟩ ⟨hP, aw_D hD0, va_S.rf⟩ hl ?_
  intro v M1 H locs pc ls hv hM hd hE
  subst hv
  subst hM
  have hlocks := B.notSynchronized
  exact W.lret B.exec B.bytes B.returns (fun t ht hW => ⟨⟨v, M1, rfl, ⟨rfl, rfl⟩, by rw [ht]; exact hE.1, va_K.moved hW.alike hK, hE.2.1⟩, hE.2.2.F ht⟩) hE.2.2.2.2 hd
theorem KV_of {y : MethodName} {mL : Nat} {rm : Room} {As : List Value} (hy : plainName y.cls = true) (hlen : (lg_sl As).length ≤ mL)
    (body : ∀ (p : Program) (e : Env) (s : State) (m : MethodId) (args : Array Value) (below : List Frame) (meth : Method) (c : Code) (ls : Array Slot) (Q : State → Prop) (A : Nat → Prop) (H : Heap) (locs : List Loc), Zs p c cc s m args y.cls mL D cA A → En D cA ad s A M H locs → lv_has ls mL (lv_args 0 As) →
      (∀  (M1 : Mm) (H : Heap) (locs : List Loc) (pc : Nat) (ls : Array Slot), M1 = M' → decode cc pc = .ok (.return_, 1) → En D cA ad s A M1 H locs → W p l e rm s m args below meth c H locs 0 0 Q (F0 m pc ls [])) →
      W p l e rm s m args below meth c H locs 0 0 Q (F0 m 0 ls [])) : KV l y cc mL none rm D cA ad As M M' := by
  intro sz
  refine Met.ofW (cc := cc) (maxL := mL) (ret := none) hy rfl ?_
  intro p e s m args below meth c s₁ B hml hv
  obtain ⟨rfl, hsz, ⟨hP, hK, hD0⟩, hN⟩ := hv
  subst hsz
  have hl := lv_entry As (n := mL) hlen
  rw [lg_entry_eq]
  have hts := atoms_spec (ws := Cond.code y cc mL none :: WT) B.pre
  refine body p e s m _ below meth c _ _ (Aw ad (mm_N M) s.heap.size) _ _ ⟨B.exec, B.bytes, hml, findClass_of_methodNamed B.named, fun w h => hts w (List.mem_cons_of_mem _ h), hN, hK, fun q h => Or.inr h⟩ ⟨hP, aw_D hD0, va_S.rf⟩ hl ?_
  intro M1 H locs pc ls hM hd hE
  subst hM
  have hlocks := B.notSynchronized
  exact W.vret B.exec B.bytes B.returns (fun t ht hW => ⟨⟨M1, rfl, rfl, by rw [ht]; exact hE.1, va_K.moved hW.alike hK, hE.2.1⟩, hE.2.2.F ht⟩) hE.2.2.2.2 hd
theorem KR_of {y : MethodName} {mL : Nat} {C : String} {rm : Room} {As : List Value} {r : Nat} (hy : plainName y.cls = true) (hlen : (lg_sl As).length ≤ mL)
    (body : ∀ (p : Program) (e : Env) (s : State) (m : MethodId) (args : Array Value) (below : List Frame) (meth : Method) (c : Code) (ls : Array Slot) (Q : State → Prop) (A : Nat → Prop) (H : Heap) (locs : List Loc), Zs p c cc s m args y.cls mL D cA A → En D cA ad s A M H locs → lv_has ls mL (lv_args 0 As) →
      (∀ (v : Nat) (M1 : Mm) (H : Heap) (locs : List Loc) (pc : Nat) (ls : Array Slot), v = r → M1 = M' → decode cc pc = .ok (.areturn, 1) → En D cA ad s A M1 H locs → W p l e rm s m args below meth c H locs 0 0 Q (F0 m pc ls [.ref (ad v)])) →
      W p l e rm s m args below meth c H locs 0 0 Q (F0 m 0 ls [])) : KR l y cc mL (some (.object C)) rm D cA ad As M r M' := by
  intro sz
  refine Met.ofW (cc := cc) (maxL := mL) (ret := (some (.object C))) hy rfl ?_
  intro p e s m args below meth c s₁ B hml hv
  obtain ⟨rfl, hsz, ⟨hP, hK, hD0⟩, hN⟩ := hv
  subst hsz
  have hl := lv_entry As (n := mL) hlen
  rw [lg_entry_eq]
  have hts := atoms_spec (ws := Cond.code y cc mL (some (.object C)) :: WT) B.pre
  refine body p e s m _ below meth c _ _ (Aw ad (mm_N M) s.heap.size) _ _ ⟨B.exec, B.bytes, hml, findClass_of_methodNamed B.named, fun w h => hts w (List.mem_cons_of_mem _ h), hN, hK, fun q h => Or.inr h⟩ ⟨hP, aw_D hD0, va_S.rf⟩ hl ?_
  intro v M1 H locs pc ls hv hM hd hE
  subst hv
  subst hM
  have hlocks := B.notSynchronized
  exact W.aret B.exec B.bytes B.returns (Or.inl ⟨_, rfl⟩) (Or.inr ⟨_, rfl⟩) (fun t ht hW => ⟨⟨M1, ad v, rfl, rfl, rfl, by rw [ht]; exact hE.1, va_K.moved hW.alike hK, hE.2.1⟩, hE.2.2.F ht⟩) hE.2.2.2.2 hd
theorem xx_llt (hx : p.tables.exec = Jvm.exec) (hb : c.code = cc) {x y : Int64} {off : Int} {tgt : Nat} (h1 : decode cc pc = .ok (.lcmp, 1)) (h2 : decode cc (pc + 1) = .ok (.ifCond .lt off, 3)) (ht : ((pc + 1 : Nat) : Int) + off = (tgt : Int))
    (kt : x < y → W p l e R s m args below meth c H locs cells slots Q (F0 m tgt ls rest)) (kf : ¬ x < y → W p l e R s m args below meth c H locs cells slots Q (F0 m (pc + 1 + 3) ls rest)) : W p l e R s m args below meth c H locs cells slots Q (F0 m pc ls (.long y :: .long x :: rest)) := by
  refine W.lcmp hx hb h1 ?_
  refine lv_if_lt hx hb h2 ht (fun hc => kt ?_) (fun hc => kf ?_)
  · exact (lg_cmp_lt x y).mp hc
  · exact fun h => hc ((lg_cmp_lt x y).mpr h)
theorem xx_lge (hx : p.tables.exec = Jvm.exec) (hb : c.code = cc) {x y : Int64} {off : Int} {tgt : Nat} (h1 : decode cc pc = .ok (.lcmp, 1)) (h2 : decode cc (pc + 1) = .ok (.ifCond .ge off, 3)) (ht : ((pc + 1 : Nat) : Int) + off = (tgt : Int))
    (kt : y ≤ x → W p l e R s m args below meth c H locs cells slots Q (F0 m tgt ls rest)) (kf : ¬ y ≤ x → W p l e R s m args below meth c H locs cells slots Q (F0 m (pc + 1 + 3) ls rest)) : W p l e R s m args below meth c H locs cells slots Q (F0 m pc ls (.long y :: .long x :: rest)) := by
  refine W.lcmp hx hb h1 ?_
  refine lv_if_ge hx hb h2 ht (fun hc => kt ?_) (fun hc => kf ?_)
  · exact (lg_cmp_ge x y).mp hc
  · exact fun h => hc ((lg_cmp_ge x y).mpr h)
theorem xx_lgt (hx : p.tables.exec = Jvm.exec) (hb : c.code = cc) {x y : Int64} {off : Int} {tgt : Nat} (h1 : decode cc pc = .ok (.lcmp, 1)) (h2 : decode cc (pc + 1) = .ok (.ifCond .gt off, 3)) (ht : ((pc + 1 : Nat) : Int) + off = (tgt : Int))
    (kt : y < x → W p l e R s m args below meth c H locs cells slots Q (F0 m tgt ls rest)) (kf : ¬ y < x → W p l e R s m args below meth c H locs cells slots Q (F0 m (pc + 1 + 3) ls rest)) : W p l e R s m args below meth c H locs cells slots Q (F0 m pc ls (.long y :: .long x :: rest)) := by
  refine W.lcmp hx hb h1 ?_
  refine lv_if_gt hx hb h2 ht (fun hc => kt ?_) (fun hc => kf ?_)
  · exact (lg_cmp_gt x y).mp hc
  · exact fun h => hc ((lg_cmp_gt x y).mpr h)
theorem xx_lle (hx : p.tables.exec = Jvm.exec) (hb : c.code = cc) {x y : Int64} {off : Int} {tgt : Nat} (h1 : decode cc pc = .ok (.lcmp, 1)) (h2 : decode cc (pc + 1) = .ok (.ifCond .le off, 3)) (ht : ((pc + 1 : Nat) : Int) + off = (tgt : Int))
    (kt : x ≤ y → W p l e R s m args below meth c H locs cells slots Q (F0 m tgt ls rest)) (kf : ¬ x ≤ y → W p l e R s m args below meth c H locs cells slots Q (F0 m (pc + 1 + 3) ls rest)) : W p l e R s m args below meth c H locs cells slots Q (F0 m pc ls (.long y :: .long x :: rest)) := by
  refine W.lcmp hx hb h1 ?_
  refine lv_if_le hx hb h2 ht (fun hc => kt ?_) (fun hc => kf ?_)
  · exact (lg_cmp_le x y).mp hc
  · exact fun h => hc ((lg_cmp_le x y).mpr h)
theorem xx_leq (hx : p.tables.exec = Jvm.exec) (hb : c.code = cc) {x y : Int64} {off : Int} {tgt : Nat} (h1 : decode cc pc = .ok (.lcmp, 1)) (h2 : decode cc (pc + 1) = .ok (.ifCond .eq off, 3)) (ht : ((pc + 1 : Nat) : Int) + off = (tgt : Int))
    (kt : x = y → W p l e R s m args below meth c H locs cells slots Q (F0 m tgt ls rest)) (kf : ¬ x = y → W p l e R s m args below meth c H locs cells slots Q (F0 m (pc + 1 + 3) ls rest)) : W p l e R s m args below meth c H locs cells slots Q (F0 m pc ls (.long y :: .long x :: rest)) := by
  refine W.lcmp hx hb h1 ?_
  refine lv_if_eq hx hb h2 ht (fun hc => kt ?_) (fun hc => kf ?_)
  · exact (lg_cmp_eq x y).mp hc
  · exact fun h => hc ((lg_cmp_eq x y).mpr h)
theorem xx_lne (hx : p.tables.exec = Jvm.exec) (hb : c.code = cc) {x y : Int64} {off : Int} {tgt : Nat} (h1 : decode cc pc = .ok (.lcmp, 1)) (h2 : decode cc (pc + 1) = .ok (.ifCond .ne off, 3)) (ht : ((pc + 1 : Nat) : Int) + off = (tgt : Int))
    (kt : ¬ x = y → W p l e R s m args below meth c H locs cells slots Q (F0 m tgt ls rest)) (kf : x = y → W p l e R s m args below meth c H locs cells slots Q (F0 m (pc + 1 + 3) ls rest)) : W p l e R s m args below meth c H locs cells slots Q (F0 m pc ls (.long y :: .long x :: rest)) := by
  refine W.lcmp hx hb h1 ?_
  refine lv_if_ne hx hb h2 ht (fun hc => kt ?_) (fun hc => kf ?_)
  · exact fun h => hc ((lg_cmp_eq x y).mpr h)
  · exact (lg_cmp_eq x y).mp hc
theorem xx_gI (hZ : Zs p c cc s m args own nL D cA A) (hE : En D cA ad s A M H locs) {ci idx q N : Nat} {C : String} {T : u_T} {ty : Nat → FieldType} {x : Int32} (hC : Cls ci C T N ty) (k : Nat) (hk : k < N) (ht : mm_tF ci k = 0) (hlink : Cond.fieldLink own idx (T k).1 (T k).2.1 (T k).2.2.1 ∈ WT) (hg : op_gI M ci q k = some x) (hdg : decode cc pc = .ok (.getfield idx, 3))
    (kk : W p l e R s m args below meth c H locs cells slots Q (F0 m (pc + 3) ls (.int x :: rest))) : W p l e R s m args below meth c H locs cells slots Q (F0 m pc ls (.ref (ad q) :: rest)) := by
  obtain ⟨hx, hb, hml, hown, hts, hnw, hK, hA⟩ := hZ
  obtain ⟨hc, hin, h100, hn, hty, hnm⟩ := hC
  obtain ⟨hi, rfl⟩ := g_some hg
  exact va_get (D := D) (ci := ci) hx hb hts hin hown hK hE.1 q (mm_eo hi h100) hc k hk (hts _ hlink) (fun _ h => h) (by rw [mm_flk (by rw [hn]; exact hk), ht]; rfl) hdg kk
theorem xx_gIN (hZ : Zs p c cc s m args own nL D cA A) (hE : En D cA ad s A M H locs) {ci idx q N : Nat} {C : String} {T : u_T} {ty : Nat → FieldType} {x : Int32} (hC : Cls ci C T N ty) (k : Nat) (hk : k < N) (ht : mm_tF ci k = 0) {host : String} (hlink : Cond.fieldLinkNest own idx (T k).1 (T k).2.1 (T k).2.2.1 host ∈ NW) (hg : op_gI M ci q k = some x) (hdg : decode cc pc = .ok (.getfield idx, 3))
    (kk : W p l e R s m args below meth c H locs cells slots Q (F0 m (pc + 3) ls (.int x :: rest))) : W p l e R s m args below meth c H locs cells slots Q (F0 m pc ls (.ref (ad q) :: rest)) := by
  obtain ⟨hx, hb, hml, hown, hts, hnw, hK, hA⟩ := hZ
  obtain ⟨hc, hin, h100, hn, hty, hnm⟩ := hC
  obtain ⟨hi, rfl⟩ := g_some hg
  exact va_getN (D := D) (ci := ci) hx hb hts hin hown hK hE.1 q (mm_eo hi h100) hc k hk (nw_use hnw hlink) (fun _ h => h) (by rw [mm_flk (by rw [hn]; exact hk), ht]; rfl) hdg kk
theorem xx_gL (hZ : Zs p c cc s m args own nL D cA A) (hE : En D cA ad s A M H locs) {ci idx q N : Nat} {C : String} {T : u_T} {ty : Nat → FieldType} {x : Int64} (hC : Cls ci C T N ty) (k : Nat) (hk : k < N) (ht : mm_tF ci k = 1) (hlink : Cond.fieldLink own idx (T k).1 (T k).2.1 (T k).2.2.1 ∈ WT) (hg : op_gL M ci q k = some x) (hdg : decode cc pc = .ok (.getfield idx, 3))
    (kk : W p l e R s m args below meth c H locs cells slots Q (F0 m (pc + 3) ls (.long x :: rest))) : W p l e R s m args below meth c H locs cells slots Q (F0 m pc ls (.ref (ad q) :: rest)) := by
  obtain ⟨hx, hb, hml, hown, hts, hnw, hK, hA⟩ := hZ
  obtain ⟨hc, hin, h100, hn, hty, hnm⟩ := hC
  obtain ⟨hi, rfl⟩ := g_some hg
  exact va_get (D := D) (ci := ci) hx hb hts hin hown hK hE.1 q (mm_eo hi h100) hc k hk (hts _ hlink) (fun _ h => h) (by rw [mm_flk (by rw [hn]; exact hk), ht]; rfl) hdg kk
theorem xx_gLN (hZ : Zs p c cc s m args own nL D cA A) (hE : En D cA ad s A M H locs) {ci idx q N : Nat} {C : String} {T : u_T} {ty : Nat → FieldType} {x : Int64} (hC : Cls ci C T N ty) (k : Nat) (hk : k < N) (ht : mm_tF ci k = 1) {host : String} (hlink : Cond.fieldLinkNest own idx (T k).1 (T k).2.1 (T k).2.2.1 host ∈ NW) (hg : op_gL M ci q k = some x) (hdg : decode cc pc = .ok (.getfield idx, 3))
    (kk : W p l e R s m args below meth c H locs cells slots Q (F0 m (pc + 3) ls (.long x :: rest))) : W p l e R s m args below meth c H locs cells slots Q (F0 m pc ls (.ref (ad q) :: rest)) := by
  obtain ⟨hx, hb, hml, hown, hts, hnw, hK, hA⟩ := hZ
  obtain ⟨hc, hin, h100, hn, hty, hnm⟩ := hC
  obtain ⟨hi, rfl⟩ := g_some hg
  exact va_getN (D := D) (ci := ci) hx hb hts hin hown hK hE.1 q (mm_eo hi h100) hc k hk (nw_use hnw hlink) (fun _ h => h) (by rw [mm_flk (by rw [hn]; exact hk), ht]; rfl) hdg kk
theorem xx_gR (hZ : Zs p c cc s m args own nL D cA A) (hE : En D cA ad s A M H locs) {ci idx q N : Nat} {C : String} {T : u_T} {ty : Nat → FieldType} {x : Nat} (hC : Cls ci C T N ty) (k : Nat) (hk : k < N) (ht : mm_tF ci k = 2) (hlink : Cond.fieldLink own idx (T k).1 (T k).2.1 (T k).2.2.1 ∈ WT) (hg : op_gR M ci q k = some x) (hdg : decode cc pc = .ok (.getfield idx, 3))
    (kk : W p l e R s m args below meth c H locs cells slots Q (F0 m (pc + 3) ls (.ref (ad x) :: rest))) : W p l e R s m args below meth c H locs cells slots Q (F0 m pc ls (.ref (ad q) :: rest)) := by
  obtain ⟨hx, hb, hml, hown, hts, hnw, hK, hA⟩ := hZ
  obtain ⟨hc, hin, h100, hn, hty, hnm⟩ := hC
  obtain ⟨hi, hg⟩ := g_opt hg
  exact va_get (D := D) (ci := ci) hx hb hts hin hown hK hE.1 q (mm_eo hi h100) hc k hk (hts _ hlink) (fun _ h => h) (by rw [mm_flk (by rw [hn]; exact hk), ht]; show some (va_rf ((mm_R M q k).map ad)) = _; rw [hg]; rfl) hdg kk
theorem xx_gRN (hZ : Zs p c cc s m args own nL D cA A) (hE : En D cA ad s A M H locs) {ci idx q N : Nat} {C : String} {T : u_T} {ty : Nat → FieldType} {x : Nat} (hC : Cls ci C T N ty) (k : Nat) (hk : k < N) (ht : mm_tF ci k = 2) {host : String} (hlink : Cond.fieldLinkNest own idx (T k).1 (T k).2.1 (T k).2.2.1 host ∈ NW) (hg : op_gR M ci q k = some x) (hdg : decode cc pc = .ok (.getfield idx, 3))
    (kk : W p l e R s m args below meth c H locs cells slots Q (F0 m (pc + 3) ls (.ref (ad x) :: rest))) : W p l e R s m args below meth c H locs cells slots Q (F0 m pc ls (.ref (ad q) :: rest)) := by
  obtain ⟨hx, hb, hml, hown, hts, hnw, hK, hA⟩ := hZ
  obtain ⟨hc, hin, h100, hn, hty, hnm⟩ := hC
  obtain ⟨hi, hg⟩ := g_opt hg
  exact va_getN (D := D) (ci := ci) hx hb hts hin hown hK hE.1 q (mm_eo hi h100) hc k hk (nw_use hnw hlink) (fun _ h => h) (by rw [mm_flk (by rw [hn]; exact hk), ht]; show some (va_rf ((mm_R M q k).map ad)) = _; rw [hg]; rfl) hdg kk
theorem xx_pI (hZ : Zs p c cc s m args own nL D cA A) (hE : En D cA ad s A M H locs) {ci idx q N : Nat} {C : String} {T : u_T} {ty : Nat → FieldType} {x : Int32} (hC : Cls ci C T N ty) (k : Nat) (hk : k < N) (ht : mm_tF ci k = 0) (hy : ty k = .int) (hf : (T k).2.2.2 = false) (hlink : Cond.fieldLink own idx (T k).1 (T k).2.1 (T k).2.2.1 ∈ WT) (hg : op_pI M ci q k x = some M') (hdg : decode cc pc = .ok (.putfield idx, 3))
    (kk : ∀ (H : Heap) (locs : List Loc), En D cA ad s A M' H locs → W p l e R s m args below meth c H locs cells slots Q (F0 m (pc + 3) ls rest)) : W p l e R s m args below meth c H locs cells slots Q (F0 m pc ls (.int x :: .ref (ad q) :: rest)) := by
  obtain ⟨hx, hb, hml, hown, hts, hnw, hK, hA⟩ := hZ
  obtain ⟨hc, hin, h100, hn, hty, hnm⟩ := hC
  obtain ⟨hi, rfl⟩ := g_some hg
  refine va_put (D := D) (ci := ci) (ty := .int) hx hb hts hin ty hty hnm hown hK hE.1 hE.2.1 hE.2.2 q (mm_eo hi h100) hc k hk (hts _ hlink) (fun _ h => h) hf (by rw [hty k hk, hy]) rfl rfl (by rw [mm_fln, hn]; exact hk) hdg (fun H1 locs1 hP hD hS => ?_)
  rw [mm_setI hi h100 (by rw [hn]; exact hk) ht] at hP hD
  exact kk H1 locs1 ⟨hP, hD, hS⟩
theorem xx_pIN (hZ : Zs p c cc s m args own nL D cA A) (hE : En D cA ad s A M H locs) {ci idx q N : Nat} {C : String} {T : u_T} {ty : Nat → FieldType} {x : Int32} (hC : Cls ci C T N ty) (k : Nat) (hk : k < N) (ht : mm_tF ci k = 0) (hy : ty k = .int) (hf : (T k).2.2.2 = false) {host : String} (hlink : Cond.fieldLinkNest own idx (T k).1 (T k).2.1 (T k).2.2.1 host ∈ NW) (hg : op_pI M ci q k x = some M') (hdg : decode cc pc = .ok (.putfield idx, 3))
    (kk : ∀ (H : Heap) (locs : List Loc), En D cA ad s A M' H locs → W p l e R s m args below meth c H locs cells slots Q (F0 m (pc + 3) ls rest)) : W p l e R s m args below meth c H locs cells slots Q (F0 m pc ls (.int x :: .ref (ad q) :: rest)) := by
  obtain ⟨hx, hb, hml, hown, hts, hnw, hK, hA⟩ := hZ
  obtain ⟨hc, hin, h100, hn, hty, hnm⟩ := hC
  obtain ⟨hi, rfl⟩ := g_some hg
  refine va_putN (D := D) (ci := ci) (ty := .int) hx hb hts hin ty hty hnm hown hK hE.1 hE.2.1 hE.2.2 q (mm_eo hi h100) hc k hk (nw_use hnw hlink) (fun _ h => h) hf (by rw [hty k hk, hy]) rfl rfl (by rw [mm_fln, hn]; exact hk) hdg (fun H1 locs1 hP hD hS => ?_)
  rw [mm_setI hi h100 (by rw [hn]; exact hk) ht] at hP hD
  exact kk H1 locs1 ⟨hP, hD, hS⟩
theorem xx_pZ (hZ : Zs p c cc s m args own nL D cA A) (hE : En D cA ad s A M H locs) {ci idx q N : Nat} {C : String} {T : u_T} {ty : Nat → FieldType} {x : Int32} (hC : Cls ci C T N ty) (k : Nat) (hk : k < N) (ht : mm_tF ci k = 0) (hy : ty k = .boolean) (hf : (T k).2.2.2 = false) (hlink : Cond.fieldLink own idx (T k).1 (T k).2.1 (T k).2.2.1 ∈ WT) (hg : op_pZ M ci q k x = some M') (hdg : decode cc pc = .ok (.putfield idx, 3))
    (kk : ∀ (H : Heap) (locs : List Loc), En D cA ad s A M' H locs → W p l e R s m args below meth c H locs cells slots Q (F0 m (pc + 3) ls rest)) : W p l e R s m args below meth c H locs cells slots Q (F0 m pc ls (.int x :: .ref (ad q) :: rest)) := by
  obtain ⟨hx, hb, hml, hown, hts, hnw, hK, hA⟩ := hZ
  obtain ⟨hc, hin, h100, hn, hty, hnm⟩ := hC
  obtain ⟨⟨hi, h01⟩, rfl⟩ := g_some hg
  refine va_put (D := D) (ci := ci) (ty := .boolean) hx hb hts hin ty hty hnm hown hK hE.1 hE.2.1 hE.2.2 q (mm_eo hi h100) hc k hk (hts _ hlink) (fun _ h => h) hf (by rw [hty k hk, hy]) (by rcases h01 with rfl | rfl <;> rfl) (by rcases h01 with rfl | rfl <;> rfl) (by rw [mm_fln, hn]; exact hk) hdg (fun H1 locs1 hP hD hS => ?_)
  rw [mm_setI hi h100 (by rw [hn]; exact hk) ht] at hP hD
  exact kk H1 locs1 ⟨hP, hD, hS⟩
theorem xx_pZN (hZ : Zs p c cc s m args own nL D cA A) (hE : En D cA ad s A M H locs) {ci idx q N : Nat} {C : String} {T : u_T} {ty : Nat → FieldType} {x : Int32} (hC : Cls ci C T N ty) (k : Nat) (hk : k < N) (ht : mm_tF ci k = 0) (hy : ty k = .boolean) (hf : (T k).2.2.2 = false) {host : String} (hlink : Cond.fieldLinkNest own idx (T k).1 (T k).2.1 (T k).2.2.1 host ∈ NW) (hg : op_pZ M ci q k x = some M') (hdg : decode cc pc = .ok (.putfield idx, 3))
    (kk : ∀ (H : Heap) (locs : List Loc), En D cA ad s A M' H locs → W p l e R s m args below meth c H locs cells slots Q (F0 m (pc + 3) ls rest)) : W p l e R s m args below meth c H locs cells slots Q (F0 m pc ls (.int x :: .ref (ad q) :: rest)) := by
  obtain ⟨hx, hb, hml, hown, hts, hnw, hK, hA⟩ := hZ
  obtain ⟨hc, hin, h100, hn, hty, hnm⟩ := hC
  obtain ⟨⟨hi, h01⟩, rfl⟩ := g_some hg
  refine va_putN (D := D) (ci := ci) (ty := .boolean) hx hb hts hin ty hty hnm hown hK hE.1 hE.2.1 hE.2.2 q (mm_eo hi h100) hc k hk (nw_use hnw hlink) (fun _ h => h) hf (by rw [hty k hk, hy]) (by rcases h01 with rfl | rfl <;> rfl) (by rcases h01 with rfl | rfl <;> rfl) (by rw [mm_fln, hn]; exact hk) hdg (fun H1 locs1 hP hD hS => ?_)
  rw [mm_setI hi h100 (by rw [hn]; exact hk) ht] at hP hD
  exact kk H1 locs1 ⟨hP, hD, hS⟩
theorem xx_pL (hZ : Zs p c cc s m args own nL D cA A) (hE : En D cA ad s A M H locs) {ci idx q N : Nat} {C : String} {T : u_T} {ty : Nat → FieldType} {x : Int64} (hC : Cls ci C T N ty) (k : Nat) (hk : k < N) (ht : mm_tF ci k = 1) (hy : ty k = .long) (hf : (T k).2.2.2 = false) (hlink : Cond.fieldLink own idx (T k).1 (T k).2.1 (T k).2.2.1 ∈ WT) (hg : op_pL M ci q k x = some M') (hdg : decode cc pc = .ok (.putfield idx, 3))
    (kk : ∀ (H : Heap) (locs : List Loc), En D cA ad s A M' H locs → W p l e R s m args below meth c H locs cells slots Q (F0 m (pc + 3) ls rest)) : W p l e R s m args below meth c H locs cells slots Q (F0 m pc ls (.long x :: .ref (ad q) :: rest)) := by
  obtain ⟨hx, hb, hml, hown, hts, hnw, hK, hA⟩ := hZ
  obtain ⟨hc, hin, h100, hn, hty, hnm⟩ := hC
  obtain ⟨hi, rfl⟩ := g_some hg
  refine va_put (D := D) (ci := ci) (ty := .long) hx hb hts hin ty hty hnm hown hK hE.1 hE.2.1 hE.2.2 q (mm_eo hi h100) hc k hk (hts _ hlink) (fun _ h => h) hf (by rw [hty k hk, hy]) rfl rfl (by rw [mm_fln, hn]; exact hk) hdg (fun H1 locs1 hP hD hS => ?_)
  rw [mm_setL hi h100 (by rw [hn]; exact hk) ht] at hP hD
  exact kk H1 locs1 ⟨hP, hD, hS⟩
theorem xx_pLN (hZ : Zs p c cc s m args own nL D cA A) (hE : En D cA ad s A M H locs) {ci idx q N : Nat} {C : String} {T : u_T} {ty : Nat → FieldType} {x : Int64} (hC : Cls ci C T N ty) (k : Nat) (hk : k < N) (ht : mm_tF ci k = 1) (hy : ty k = .long) (hf : (T k).2.2.2 = false) {host : String} (hlink : Cond.fieldLinkNest own idx (T k).1 (T k).2.1 (T k).2.2.1 host ∈ NW) (hg : op_pL M ci q k x = some M') (hdg : decode cc pc = .ok (.putfield idx, 3))
    (kk : ∀ (H : Heap) (locs : List Loc), En D cA ad s A M' H locs → W p l e R s m args below meth c H locs cells slots Q (F0 m (pc + 3) ls rest)) : W p l e R s m args below meth c H locs cells slots Q (F0 m pc ls (.long x :: .ref (ad q) :: rest)) := by
  obtain ⟨hx, hb, hml, hown, hts, hnw, hK, hA⟩ := hZ
  obtain ⟨hc, hin, h100, hn, hty, hnm⟩ := hC
  obtain ⟨hi, rfl⟩ := g_some hg
  refine va_putN (D := D) (ci := ci) (ty := .long) hx hb hts hin ty hty hnm hown hK hE.1 hE.2.1 hE.2.2 q (mm_eo hi h100) hc k hk (nw_use hnw hlink) (fun _ h => h) hf (by rw [hty k hk, hy]) rfl rfl (by rw [mm_fln, hn]; exact hk) hdg (fun H1 locs1 hP hD hS => ?_)
  rw [mm_setL hi h100 (by rw [hn]; exact hk) ht] at hP hD
  exact kk H1 locs1 ⟨hP, hD, hS⟩
theorem xx_aI (hZ : Zs p c cc s m args own nL D cA A) (hE : En D cA ad s A M H locs) {q : Nat} {i : Int32} {x : Int32} (hg : op_aI M q i = some x) (hdg : decode cc pc = .ok (.iaload, 1))
    (kk : W p l e R s m args below meth c H locs cells slots Q (F0 m (pc + 1) ls (.int x :: rest))) : W p l e R s m args below meth c H locs cells slots Q (F0 m pc ls (.int i :: .ref (ad q) :: rest)) := by
  obtain ⟨hx, hb, hml, hown, hts, hnw, hK, hA⟩ := hZ
  obtain ⟨⟨hi, hn⟩, rfl⟩ := g_some hg
  exact va_iald hx hb hK hE.1 q 0 (mm_ea (t := 0) hi) rfl hn hdg kk
theorem xx_aL (hZ : Zs p c cc s m args own nL D cA A) (hE : En D cA ad s A M H locs) {q : Nat} {i : Int32} {x : Int64} (hg : op_aL M q i = some x) (hdg : decode cc pc = .ok (.laload, 1))
    (kk : W p l e R s m args below meth c H locs cells slots Q (F0 m (pc + 1) ls (.long x :: rest))) : W p l e R s m args below meth c H locs cells slots Q (F0 m pc ls (.int i :: .ref (ad q) :: rest)) := by
  obtain ⟨hx, hb, hml, hown, hts, hnw, hK, hA⟩ := hZ
  obtain ⟨⟨hi, hn⟩, rfl⟩ := g_some hg
  exact va_lald hx hb hK hE.1 q 1 (mm_ea (t := 1) hi) rfl hn hdg kk
theorem xx_aZ (hZ : Zs p c cc s m args own nL D cA A) (hE : En D cA ad s A M H locs) {q : Nat} {i : Int32} {x : Int32} (hg : op_aZ M q i = some x) (hdg : decode cc pc = .ok (.baload, 1))
    (kk : W p l e R s m args below meth c H locs cells slots Q (F0 m (pc + 1) ls (.int x :: rest))) : W p l e R s m args below meth c H locs cells slots Q (F0 m pc ls (.int i :: .ref (ad q) :: rest)) := by
  obtain ⟨hx, hb, hml, hown, hts, hnw, hK, hA⟩ := hZ
  obtain ⟨⟨hi, hn⟩, rfl⟩ := g_some hg
  exact va_zald hx hb hK hE.1 q 2 (mm_ea (t := 2) hi) rfl hn hdg kk
theorem xx_aR (hZ : Zs p c cc s m args own nL D cA A) (hE : En D cA ad s A M H locs) {q : Nat} {i : Int32} {x : Nat} (hg : op_aR M q i = some x) (hdg : decode cc pc = .ok (.aaload, 1))
    (kk : W p l e R s m args below meth c H locs cells slots Q (F0 m (pc + 1) ls (.ref (ad x) :: rest))) : W p l e R s m args below meth c H locs cells slots Q (F0 m pc ls (.int i :: .ref (ad q) :: rest)) := by
  obtain ⟨hx, hb, hml, hown, hts, hnw, hK, hA⟩ := hZ
  obtain ⟨⟨hi, hn⟩, hg⟩ := g_opt hg
  exact va_aldq hx hb hK hE.1 q 3 (mm_ea (t := 3) hi) rfl hn hdg (by show W p l e R s m args below meth c H locs cells slots Q (F0 m (pc + 1) ls (va_rf ((mm_R M q i.toNatClampNeg).map ad) :: rest)); rw [hg]; exact kk)
theorem xx_sI (hZ : Zs p c cc s m args own nL D cA A) (hE : En D cA ad s A M H locs) {q : Nat} {i : Int32} {x : Int32} (hg : op_sI M q i x = some M') (hdg : decode cc pc = .ok (.iastore, 1))
    (kk : ∀ (H : Heap) (locs : List Loc), En D cA ad s A M' H locs → W p l e R s m args below meth c H locs cells slots Q (F0 m (pc + 1) ls rest)) : W p l e R s m args below meth c H locs cells slots Q (F0 m pc ls (.int x :: .int i :: .ref (ad q) :: rest)) := by
  obtain ⟨hx, hb, hml, hown, hts, hnw, hK, hA⟩ := hZ
  obtain ⟨⟨hi, hn⟩, rfl⟩ := g_some hg
  refine va_iast hx hb hK hE.1 hE.2.1 hE.2.2 q 0 (mm_ea (t := 0) hi) rfl hn hdg (fun H1 locs1 hP hD hS => ?_)
  rw [mm_asI (Or.inl rfl) hi] at hP hD
  exact kk H1 locs1 ⟨hP, hD, hS⟩
theorem xx_sL (hZ : Zs p c cc s m args own nL D cA A) (hE : En D cA ad s A M H locs) {q : Nat} {i : Int32} {x : Int64} (hg : op_sL M q i x = some M') (hdg : decode cc pc = .ok (.lastore, 1))
    (kk : ∀ (H : Heap) (locs : List Loc), En D cA ad s A M' H locs → W p l e R s m args below meth c H locs cells slots Q (F0 m (pc + 1) ls rest)) : W p l e R s m args below meth c H locs cells slots Q (F0 m pc ls (.long x :: .int i :: .ref (ad q) :: rest)) := by
  obtain ⟨hx, hb, hml, hown, hts, hnw, hK, hA⟩ := hZ
  obtain ⟨⟨hi, hn⟩, rfl⟩ := g_some hg
  refine va_last hx hb hK hE.1 hE.2.1 hE.2.2 q 1 (mm_ea (t := 1) hi) rfl hn hdg (fun H1 locs1 hP hD hS => ?_)
  rw [mm_asL hi] at hP hD
  exact kk H1 locs1 ⟨hP, hD, hS⟩
theorem xx_sZ (hZ : Zs p c cc s m args own nL D cA A) (hE : En D cA ad s A M H locs) {q : Nat} {i : Int32} {x : Int32} (hg : op_sZ M q i x = some M') (hdg : decode cc pc = .ok (.bastore, 1))
    (kk : ∀ (H : Heap) (locs : List Loc), En D cA ad s A M' H locs → W p l e R s m args below meth c H locs cells slots Q (F0 m (pc + 1) ls rest)) : W p l e R s m args below meth c H locs cells slots Q (F0 m pc ls (.int x :: .int i :: .ref (ad q) :: rest)) := by
  obtain ⟨hx, hb, hml, hown, hts, hnw, hK, hA⟩ := hZ
  obtain ⟨⟨⟨hi, hn⟩, h01⟩, rfl⟩ := g_some hg
  refine va_zast hx hb hK hE.1 hE.2.1 hE.2.2 q 2 (mm_ea (t := 2) hi) rfl hn hdg (fun H1 locs1 hP hD hS => ?_)
  rw [show vp_nar .boolean x = x by rcases h01 with rfl | rfl <;> rfl, mm_asI (t := 2) (Or.inr rfl) hi] at hP hD
  exact kk H1 locs1 ⟨hP, hD, hS⟩
theorem xx_n (hZ : Zs p c cc s m args own nL D cA A) (hE : En D cA ad s A M H locs) {q ci : Nat} {x : Int32} (hg : op_n M ci q = some x) (hdg : decode cc pc = .ok (.arraylength, 1))
    (kk : W p l e R s m args below meth c H locs cells slots Q (F0 m (pc + 1) ls (.int x :: rest))) : W p l e R s m args below meth c H locs cells slots Q (F0 m pc ls (.ref (ad q) :: rest)) := by
  obtain ⟨hx, hb, hml, hown, hts, hnw, hK, hA⟩ := hZ
  obtain ⟨⟨hi, h1, h2⟩, rfl⟩ := g_some hg
  obtain ⟨t, rfl⟩ : ∃ t, ci = 100 + t := ⟨ci - 100, by omega⟩
  have ht : ∃ ty, (mm_tys cA)[t]? = some (cA t, ty) := by
    rcases (show t = 0 ∨ t = 1 ∨ t = 2 ∨ t = 3 by omega) with rfl | rfl | rfl | rfl <;> exact ⟨_, rfl⟩
  obtain ⟨ty, ht⟩ := ht
  exact va_alen hx hb hK hE.1 q t (mm_ea (t := t) hi) ht rfl hdg kk
def CW (y : MethodName) (cc : ByteArray) (mL : Nat) (ret : Option FieldType) (n : Nat) : Prop := Cond.code y cc mL ret ∈ WT ∧ Cond.initialized y.cls ∈ WT ∧ (y.cls ≠ "java/lang/invoke/MethodHandle" ∧ y.cls ≠ "java/lang/invoke/VarHandle" ∧ (parseMethodDescriptor y.desc).map (fun d => d.parameters.length) = some n)
theorem cw_good {y : MethodName} {cc : ByteArray} {mL : Nat} {ret : Option FieldType} {n : Nat} (h : CW y cc mL ret n) : GoodIn WT (Cond.code y cc mL ret :: WT) := fun w hw => (List.mem_cons.mp hw).elim (fun e => e ▸ wt_good _ h.1) (wt_good w)
theorem xx_cVi (hZ : Zs p c cc s m args own nL D cA A) (hE : En D cA ad s A M H locs) {y : MethodName} {cc' : ByteArray} {mL n idx : Nat} {ret : Option FieldType} {rm : Room} {As st0 : List Value} {r : Int32} {ci N b : Nat} {C : String} {T : u_T} {ty : Nat → FieldType} (hC : Cls ci C T N ty) (hi : mm_is M b ci) (hinst : Cond.instanceMethod y ∈ WT) (hsel : Cond.selects C y y ∈ WT) (hM : KI l y cc' mL ret rm D cA ad (.ref (ad b) :: As) M r M') (hW : CW y cc' mL ret n) (hlink : Cond.methodLink own idx y ∈ WT) (hrm : rm.cells = 0 ∧ rm.slots = 0) (hR : rm.frames + 1 ≤ R.frames ∧ 8 + (mL + 11) + rm.locals ≤ R.locals) (hn : As.length = n) (hsz : ls.size = nL) (hst : st0 = As.reverse ++ .ref (ad b) :: rest) (hcat : (rest.map fun v => v.category).sum ≤ 8) (hf : cells + 0 ≤ R.cells ∧ slots + 0 ≤ R.slots) (hdg : decode cc pc = .ok (.invokevirtual idx, 3))
    (kk : ∀ (H : Heap) (locs : List Loc), En D cA ad s A M' H locs → W p l e R s m args below meth c H locs cells slots Q (F0 m (pc + 3) ls (.int r :: rest))) : W p l e R s m args below meth c H locs cells slots Q (F0 m pc ls st0) := by
  obtain ⟨hx, hb, hml, hown, hts, hnw, hK, hA⟩ := hZ
  have hF := aw_in hE.2.1 hE.2.2 hA
  refine va_calli (va_runV (As := As) (rest := rest) ⟨hx, hb, hml, hown, hts⟩ (hM H.size) ⟨callB_of n hts (cw_good hW) rfl hrm.1 hrm.2 (hts _ hW.2.1) (hts _ hlink) hW.2.2 hR, hts _ hinst, hts _ hsel⟩ ⟨pw_blind, va_recv hK hE.1 hC.1 (mm_eo hi hC.2.2.1), fun U hU hWm => ⟨rfl, by rw [hU], ⟨by rw [hU]; exact hE.1, va_K.moved hWm.alike hK, hE.2.1.weaken (fun _ _ _ _ => trivial)⟩, nw_warm hWm hnw⟩⟩ rfl hn hsz hst (lv_room hcat) hdg hf) hE.2.2 (fun q _ h => hF q h) hF (fun r_ u t H1 locs1 ht hvm hw hB hz1 hk1 hS => ?_)
  obtain ⟨rfl, rfl⟩ := hw
  obtain ⟨hP1, hK1, hD1⟩ := hB
  rw [ht] at hP1
  exact kk H1 locs1 ⟨hP1, hD1.weaken (fun _ _ _ h => hF _ h), hS⟩
theorem xx_cVl (hZ : Zs p c cc s m args own nL D cA A) (hE : En D cA ad s A M H locs) {y : MethodName} {cc' : ByteArray} {mL n idx : Nat} {ret : Option FieldType} {rm : Room} {As st0 : List Value} {r : Int64} {ci N b : Nat} {C : String} {T : u_T} {ty : Nat → FieldType} (hC : Cls ci C T N ty) (hi : mm_is M b ci) (hinst : Cond.instanceMethod y ∈ WT) (hsel : Cond.selects C y y ∈ WT) (hM : KL l y cc' mL ret rm D cA ad (.ref (ad b) :: As) M r M') (hW : CW y cc' mL ret n) (hlink : Cond.methodLink own idx y ∈ WT) (hrm : rm.cells = 0 ∧ rm.slots = 0) (hR : rm.frames + 1 ≤ R.frames ∧ 8 + (mL + 11) + rm.locals ≤ R.locals) (hn : As.length = n) (hsz : ls.size = nL) (hst : st0 = As.reverse ++ .ref (ad b) :: rest) (hcat : (rest.map fun v => v.category).sum ≤ 8) (hf : cells + 0 ≤ R.cells ∧ slots + 0 ≤ R.slots) (hdg : decode cc pc = .ok (.invokevirtual idx, 3))
    (kk : ∀ (H : Heap) (locs : List Loc), En D cA ad s A M' H locs → W p l e R s m args below meth c H locs cells slots Q (F0 m (pc + 3) ls (.long r :: rest))) : W p l e R s m args below meth c H locs cells slots Q (F0 m pc ls st0) := by
  obtain ⟨hx, hb, hml, hown, hts, hnw, hK, hA⟩ := hZ
  have hF := aw_in hE.2.1 hE.2.2 hA
  refine va_calll (va_runV (As := As) (rest := rest) ⟨hx, hb, hml, hown, hts⟩ (hM H.size) ⟨callB_of n hts (cw_good hW) rfl hrm.1 hrm.2 (hts _ hW.2.1) (hts _ hlink) hW.2.2 hR, hts _ hinst, hts _ hsel⟩ ⟨pw_blind, va_recv hK hE.1 hC.1 (mm_eo hi hC.2.2.1), fun U hU hWm => ⟨rfl, by rw [hU], ⟨by rw [hU]; exact hE.1, va_K.moved hWm.alike hK, hE.2.1.weaken (fun _ _ _ _ => trivial)⟩, nw_warm hWm hnw⟩⟩ rfl hn hsz hst (lv_room hcat) hdg hf) hE.2.2 (fun q _ h => hF q h) hF (fun r_ u t H1 locs1 ht hvm hw hB hz1 hk1 hS => ?_)
  obtain ⟨rfl, rfl⟩ := hw
  obtain ⟨hP1, hK1, hD1⟩ := hB
  rw [ht] at hP1
  exact kk H1 locs1 ⟨hP1, hD1.weaken (fun _ _ _ h => hF _ h), hS⟩
theorem xx_cVv (hZ : Zs p c cc s m args own nL D cA A) (hE : En D cA ad s A M H locs) {y : MethodName} {cc' : ByteArray} {mL n idx : Nat} {ret : Option FieldType} {rm : Room} {As st0 : List Value} {ci N b : Nat} {C : String} {T : u_T} {ty : Nat → FieldType} (hC : Cls ci C T N ty) (hi : mm_is M b ci) (hinst : Cond.instanceMethod y ∈ WT) (hsel : Cond.selects C y y ∈ WT) (hM : KV l y cc' mL ret rm D cA ad (.ref (ad b) :: As) M M') (hW : CW y cc' mL ret n) (hlink : Cond.methodLink own idx y ∈ WT) (hrm : rm.cells = 0 ∧ rm.slots = 0) (hR : rm.frames + 1 ≤ R.frames ∧ 8 + (mL + 11) + rm.locals ≤ R.locals) (hn : As.length = n) (hsz : ls.size = nL) (hst : st0 = As.reverse ++ .ref (ad b) :: rest) (hcat : (rest.map fun v => v.category).sum ≤ 8) (hf : cells + 0 ≤ R.cells ∧ slots + 0 ≤ R.slots) (hdg : decode cc pc = .ok (.invokevirtual idx, 3))
    (kk : ∀ (H : Heap) (locs : List Loc), En D cA ad s A M' H locs → W p l e R s m args below meth c H locs cells slots Q (F0 m (pc + 3) ls (rest))) : W p l e R s m args below meth c H locs cells slots Q (F0 m pc ls st0) := by
  obtain ⟨hx, hb, hml, hown, hts, hnw, hK, hA⟩ := hZ
  have hF := aw_in hE.2.1 hE.2.2 hA
  refine va_callv (va_runV (As := As) (rest := rest) ⟨hx, hb, hml, hown, hts⟩ (hM H.size) ⟨callB_of n hts (cw_good hW) rfl hrm.1 hrm.2 (hts _ hW.2.1) (hts _ hlink) hW.2.2 hR, hts _ hinst, hts _ hsel⟩ ⟨pw_blind, va_recv hK hE.1 hC.1 (mm_eo hi hC.2.2.1), fun U hU hWm => ⟨rfl, by rw [hU], ⟨by rw [hU]; exact hE.1, va_K.moved hWm.alike hK, hE.2.1.weaken (fun _ _ _ _ => trivial)⟩, nw_warm hWm hnw⟩⟩ rfl hn hsz hst (lv_room hcat) hdg hf) hE.2.2 (fun q _ h => hF q h) hF (fun u t H1 locs1 ht hvm hw hB hz1 hk1 hS => ?_)
  subst hw
  obtain ⟨hP1, hK1, hD1⟩ := hB
  rw [ht] at hP1
  exact kk H1 locs1 ⟨hP1, hD1.weaken (fun _ _ _ h => hF _ h), hS⟩
theorem xx_cVr (hZ : Zs p c cc s m args own nL D cA A) (hE : En D cA ad s A M H locs) {y : MethodName} {cc' : ByteArray} {mL n idx : Nat} {ret : Option FieldType} {rm : Room} {As st0 : List Value} {r : Nat} {ci N b : Nat} {C : String} {T : u_T} {ty : Nat → FieldType} (hC : Cls ci C T N ty) (hi : mm_is M b ci) (hinst : Cond.instanceMethod y ∈ WT) (hsel : Cond.selects C y y ∈ WT) (hM : KR l y cc' mL ret rm D cA ad (.ref (ad b) :: As) M r M') (hW : CW y cc' mL ret n) (hlink : Cond.methodLink own idx y ∈ WT) (hrm : rm.cells = 0 ∧ rm.slots = 0) (hR : rm.frames + 1 ≤ R.frames ∧ 8 + (mL + 11) + rm.locals ≤ R.locals) (hn : As.length = n) (hsz : ls.size = nL) (hst : st0 = As.reverse ++ .ref (ad b) :: rest) (hcat : (rest.map fun v => v.category).sum ≤ 8) (hf : cells + 0 ≤ R.cells ∧ slots + 0 ≤ R.slots) (hdg : decode cc pc = .ok (.invokevirtual idx, 3))
    (kk : ∀ (H : Heap) (locs : List Loc), En D cA ad s A M' H locs → W p l e R s m args below meth c H locs cells slots Q (F0 m (pc + 3) ls (.ref (ad r) :: rest))) : W p l e R s m args below meth c H locs cells slots Q (F0 m pc ls st0) := by
  obtain ⟨hx, hb, hml, hown, hts, hnw, hK, hA⟩ := hZ
  have hF := aw_in hE.2.1 hE.2.2 hA
  refine va_callr (va_runV (As := As) (rest := rest) ⟨hx, hb, hml, hown, hts⟩ (hM H.size) ⟨callB_of n hts (cw_good hW) rfl hrm.1 hrm.2 (hts _ hW.2.1) (hts _ hlink) hW.2.2 hR, hts _ hinst, hts _ hsel⟩ ⟨pw_blind, va_recv hK hE.1 hC.1 (mm_eo hi hC.2.2.1), fun U hU hWm => ⟨rfl, by rw [hU], ⟨by rw [hU]; exact hE.1, va_K.moved hWm.alike hK, hE.2.1.weaken (fun _ _ _ _ => trivial)⟩, nw_warm hWm hnw⟩⟩ rfl hn hsz hst (lv_room hcat) hdg hf) hE.2.2 (fun q _ h => hF q h) hF (fun u ra t H1 locs1 ht hvm hw hB hz1 hk1 hS => ?_)
  subst hw
  obtain ⟨rfl, hB⟩ := hB
  obtain ⟨hP1, hK1, hD1⟩ := hB
  rw [ht] at hP1
  exact kk H1 locs1 ⟨hP1, hD1.weaken (fun _ _ _ h => hF _ h), hS⟩
theorem xx_cVNi (hZ : Zs p c cc s m args own nL D cA A) (hE : En D cA ad s A M H locs) {y : MethodName} {cc' : ByteArray} {mL n idx : Nat} {ret : Option FieldType} {rm : Room} {As st0 : List Value} {r : Int32} {ci N b : Nat} {C : String} {T : u_T} {ty : Nat → FieldType} (hC : Cls ci C T N ty) (hi : mm_is M b ci) (hinst : Cond.instanceMethod y ∈ WT) (hsel : Cond.selects C y y ∈ WT) (hM : KI l y cc' mL ret rm D cA ad (.ref (ad b) :: As) M r M') (hW : CW y cc' mL ret n) {host : String} (hlink : Cond.methodLinkNest own idx y host ∈ NW) (hrm : rm.cells = 0 ∧ rm.slots = 0) (hR : rm.frames + 1 ≤ R.frames ∧ 8 + (mL + 11) + rm.locals ≤ R.locals) (hn : As.length = n) (hsz : ls.size = nL) (hst : st0 = As.reverse ++ .ref (ad b) :: rest) (hcat : (rest.map fun v => v.category).sum ≤ 8) (hf : cells + 0 ≤ R.cells ∧ slots + 0 ≤ R.slots) (hdg : decode cc pc = .ok (.invokevirtual idx, 3))
    (kk : ∀ (H : Heap) (locs : List Loc), En D cA ad s A M' H locs → W p l e R s m args below meth c H locs cells slots Q (F0 m (pc + 3) ls (.int r :: rest))) : W p l e R s m args below meth c H locs cells slots Q (F0 m pc ls st0) := by
  obtain ⟨hx, hb, hml, hown, hts, hnw, hK, hA⟩ := hZ
  have hF := aw_in hE.2.1 hE.2.2 hA
  refine va_calli (va_runVN (As := As) (rest := rest) ⟨hx, hb, hml, hown, hts⟩ (hM H.size) ⟨va_cnB n hts (cw_good hW) rfl hrm.1 hrm.2 (hnw _ hlink) (hts _ hW.2.1) hW.2.2 hR, hts _ hinst, hts _ hsel⟩ ⟨pw_blind, va_recv hK hE.1 hC.1 (mm_eo hi hC.2.2.1), fun U hU hWm => ⟨rfl, by rw [hU], ⟨by rw [hU]; exact hE.1, va_K.moved hWm.alike hK, hE.2.1.weaken (fun _ _ _ _ => trivial)⟩, nw_warm hWm hnw⟩⟩ rfl hn hsz hst (lv_room hcat) hdg hf) hE.2.2 (fun q _ h => hF q h) hF (fun r_ u t H1 locs1 ht hvm hw hB hz1 hk1 hS => ?_)
  obtain ⟨rfl, rfl⟩ := hw
  obtain ⟨hP1, hK1, hD1⟩ := hB
  rw [ht] at hP1
  exact kk H1 locs1 ⟨hP1, hD1.weaken (fun _ _ _ h => hF _ h), hS⟩
theorem xx_cVNl (hZ : Zs p c cc s m args own nL D cA A) (hE : En D cA ad s A M H locs) {y : MethodName} {cc' : ByteArray} {mL n idx : Nat} {ret : Option FieldType} {rm : Room} {As st0 : List Value} {r : Int64} {ci N b : Nat} {C : String} {T : u_T} {ty : Nat → FieldType} (hC : Cls ci C T N ty) (hi : mm_is M b ci) (hinst : Cond.instanceMethod y ∈ WT) (hsel : Cond.selects C y y ∈ WT) (hM : KL l y cc' mL ret rm D cA ad (.ref (ad b) :: As) M r M') (hW : CW y cc' mL ret n) {host : String} (hlink : Cond.methodLinkNest own idx y host ∈ NW) (hrm : rm.cells = 0 ∧ rm.slots = 0) (hR : rm.frames + 1 ≤ R.frames ∧ 8 + (mL + 11) + rm.locals ≤ R.locals) (hn : As.length = n) (hsz : ls.size = nL) (hst : st0 = As.reverse ++ .ref (ad b) :: rest) (hcat : (rest.map fun v => v.category).sum ≤ 8) (hf : cells + 0 ≤ R.cells ∧ slots + 0 ≤ R.slots) (hdg : decode cc pc = .ok (.invokevirtual idx, 3))
    (kk : ∀ (H : Heap) (locs : List Loc), En D cA ad s A M' H locs → W p l e R s m args below meth c H locs cells slots Q (F0 m (pc + 3) ls (.long r :: rest))) : W p l e R s m args below meth c H locs cells slots Q (F0 m pc ls st0) := by
  obtain ⟨hx, hb, hml, hown, hts, hnw, hK, hA⟩ := hZ
  have hF := aw_in hE.2.1 hE.2.2 hA
  refine va_calll (va_runVN (As := As) (rest := rest) ⟨hx, hb, hml, hown, hts⟩ (hM H.size) ⟨va_cnB n hts (cw_good hW) rfl hrm.1 hrm.2 (hnw _ hlink) (hts _ hW.2.1) hW.2.2 hR, hts _ hinst, hts _ hsel⟩ ⟨pw_blind, va_recv hK hE.1 hC.1 (mm_eo hi hC.2.2.1), fun U hU hWm => ⟨rfl, by rw [hU], ⟨by rw [hU]; exact hE.1, va_K.moved hWm.alike hK, hE.2.1.weaken (fun _ _ _ _ => trivial)⟩, nw_warm hWm hnw⟩⟩ rfl hn hsz hst (lv_room hcat) hdg hf) hE.2.2 (fun q _ h => hF q h) hF (fun r_ u t H1 locs1 ht hvm hw hB hz1 hk1 hS => ?_)
  obtain ⟨rfl, rfl⟩ := hw
  obtain ⟨hP1, hK1, hD1⟩ := hB
  rw [ht] at hP1
  exact kk H1 locs1 ⟨hP1, hD1.weaken (fun _ _ _ h => hF _ h), hS⟩
theorem xx_cVNv (hZ : Zs p c cc s m args own nL D cA A) (hE : En D cA ad s A M H locs) {y : MethodName} {cc' : ByteArray} {mL n idx : Nat} {ret : Option FieldType} {rm : Room} {As st0 : List Value} {ci N b : Nat} {C : String} {T : u_T} {ty : Nat → FieldType} (hC : Cls ci C T N ty) (hi : mm_is M b ci) (hinst : Cond.instanceMethod y ∈ WT) (hsel : Cond.selects C y y ∈ WT) (hM : KV l y cc' mL ret rm D cA ad (.ref (ad b) :: As) M M') (hW : CW y cc' mL ret n) {host : String} (hlink : Cond.methodLinkNest own idx y host ∈ NW) (hrm : rm.cells = 0 ∧ rm.slots = 0) (hR : rm.frames + 1 ≤ R.frames ∧ 8 + (mL + 11) + rm.locals ≤ R.locals) (hn : As.length = n) (hsz : ls.size = nL) (hst : st0 = As.reverse ++ .ref (ad b) :: rest) (hcat : (rest.map fun v => v.category).sum ≤ 8) (hf : cells + 0 ≤ R.cells ∧ slots + 0 ≤ R.slots) (hdg : decode cc pc = .ok (.invokevirtual idx, 3))
    (kk : ∀ (H : Heap) (locs : List Loc), En D cA ad s A M' H locs → W p l e R s m args below meth c H locs cells slots Q (F0 m (pc + 3) ls (rest))) : W p l e R s m args below meth c H locs cells slots Q (F0 m pc ls st0) := by
  obtain ⟨hx, hb, hml, hown, hts, hnw, hK, hA⟩ := hZ
  have hF := aw_in hE.2.1 hE.2.2 hA
  refine va_callv (va_runVN (As := As) (rest := rest) ⟨hx, hb, hml, hown, hts⟩ (hM H.size) ⟨va_cnB n hts (cw_good hW) rfl hrm.1 hrm.2 (hnw _ hlink) (hts _ hW.2.1) hW.2.2 hR, hts _ hinst, hts _ hsel⟩ ⟨pw_blind, va_recv hK hE.1 hC.1 (mm_eo hi hC.2.2.1), fun U hU hWm => ⟨rfl, by rw [hU], ⟨by rw [hU]; exact hE.1, va_K.moved hWm.alike hK, hE.2.1.weaken (fun _ _ _ _ => trivial)⟩, nw_warm hWm hnw⟩⟩ rfl hn hsz hst (lv_room hcat) hdg hf) hE.2.2 (fun q _ h => hF q h) hF (fun u t H1 locs1 ht hvm hw hB hz1 hk1 hS => ?_)
  subst hw
  obtain ⟨hP1, hK1, hD1⟩ := hB
  rw [ht] at hP1
  exact kk H1 locs1 ⟨hP1, hD1.weaken (fun _ _ _ h => hF _ h), hS⟩
theorem xx_cVNr (hZ : Zs p c cc s m args own nL D cA A) (hE : En D cA ad s A M H locs) {y : MethodName} {cc' : ByteArray} {mL n idx : Nat} {ret : Option FieldType} {rm : Room} {As st0 : List Value} {r : Nat} {ci N b : Nat} {C : String} {T : u_T} {ty : Nat → FieldType} (hC : Cls ci C T N ty) (hi : mm_is M b ci) (hinst : Cond.instanceMethod y ∈ WT) (hsel : Cond.selects C y y ∈ WT) (hM : KR l y cc' mL ret rm D cA ad (.ref (ad b) :: As) M r M') (hW : CW y cc' mL ret n) {host : String} (hlink : Cond.methodLinkNest own idx y host ∈ NW) (hrm : rm.cells = 0 ∧ rm.slots = 0) (hR : rm.frames + 1 ≤ R.frames ∧ 8 + (mL + 11) + rm.locals ≤ R.locals) (hn : As.length = n) (hsz : ls.size = nL) (hst : st0 = As.reverse ++ .ref (ad b) :: rest) (hcat : (rest.map fun v => v.category).sum ≤ 8) (hf : cells + 0 ≤ R.cells ∧ slots + 0 ≤ R.slots) (hdg : decode cc pc = .ok (.invokevirtual idx, 3))
    (kk : ∀ (H : Heap) (locs : List Loc), En D cA ad s A M' H locs → W p l e R s m args below meth c H locs cells slots Q (F0 m (pc + 3) ls (.ref (ad r) :: rest))) : W p l e R s m args below meth c H locs cells slots Q (F0 m pc ls st0) := by
  obtain ⟨hx, hb, hml, hown, hts, hnw, hK, hA⟩ := hZ
  have hF := aw_in hE.2.1 hE.2.2 hA
  refine va_callr (va_runVN (As := As) (rest := rest) ⟨hx, hb, hml, hown, hts⟩ (hM H.size) ⟨va_cnB n hts (cw_good hW) rfl hrm.1 hrm.2 (hnw _ hlink) (hts _ hW.2.1) hW.2.2 hR, hts _ hinst, hts _ hsel⟩ ⟨pw_blind, va_recv hK hE.1 hC.1 (mm_eo hi hC.2.2.1), fun U hU hWm => ⟨rfl, by rw [hU], ⟨by rw [hU]; exact hE.1, va_K.moved hWm.alike hK, hE.2.1.weaken (fun _ _ _ _ => trivial)⟩, nw_warm hWm hnw⟩⟩ rfl hn hsz hst (lv_room hcat) hdg hf) hE.2.2 (fun q _ h => hF q h) hF (fun u ra t H1 locs1 ht hvm hw hB hz1 hk1 hS => ?_)
  subst hw
  obtain ⟨rfl, hB⟩ := hB
  obtain ⟨hP1, hK1, hD1⟩ := hB
  rw [ht] at hP1
  exact kk H1 locs1 ⟨hP1, hD1.weaken (fun _ _ _ h => hF _ h), hS⟩
theorem xx_cSi (hZ : Zs p c cc s m args own nL D cA A) (hE : En D cA ad s A M H locs) {y : MethodName} {cc' : ByteArray} {mL n idx : Nat} {ret : Option FieldType} {rm : Room} {As st0 : List Value} {r : Int32} (hstat : Cond.static y ∈ WT) (hM : KI l y cc' mL ret rm D cA ad As M r M') (hW : CW y cc' mL ret n) (hlink : Cond.methodLink own idx y ∈ WT) (hrm : rm.cells = 0 ∧ rm.slots = 0) (hR : rm.frames + 1 ≤ R.frames ∧ 8 + (mL + 11) + rm.locals ≤ R.locals) (hn : As.length = n) (hsz : ls.size = nL) (hst : st0 = As.reverse ++ rest) (hcat : (rest.map fun v => v.category).sum ≤ 8) (hf : cells + 0 ≤ R.cells ∧ slots + 0 ≤ R.slots) (hdg : decode cc pc = .ok (.invokestatic idx, 3))
    (kk : ∀ (H : Heap) (locs : List Loc), En D cA ad s A M' H locs → W p l e R s m args below meth c H locs cells slots Q (F0 m (pc + 3) ls (.int r :: rest))) : W p l e R s m args below meth c H locs cells slots Q (F0 m pc ls st0) := by
  obtain ⟨hx, hb, hml, hown, hts, hnw, hK, hA⟩ := hZ
  have hF := aw_in hE.2.1 hE.2.2 hA
  refine va_calli (va_runS (As := As) (rest := rest) ⟨hx, hb, hml, hown, hts⟩ (hM H.size) ⟨callB_of n hts (cw_good hW) rfl hrm.1 hrm.2 (hts _ hW.2.1) (hts _ hlink) hW.2.2 hR, hts _ hstat⟩ ⟨pw_blind, fun U hU hWm => ⟨rfl, by rw [hU], ⟨by rw [hU]; exact hE.1, va_K.moved hWm.alike hK, hE.2.1.weaken (fun _ _ _ _ => trivial)⟩, nw_warm hWm hnw⟩⟩ rfl hn hsz hst (lv_room hcat) hdg hf) hE.2.2 (fun q _ h => hF q h) hF (fun r_ u t H1 locs1 ht hvm hw hB hz1 hk1 hS => ?_)
  obtain ⟨rfl, rfl⟩ := hw
  obtain ⟨hP1, hK1, hD1⟩ := hB
  rw [ht] at hP1
  exact kk H1 locs1 ⟨hP1, hD1.weaken (fun _ _ _ h => hF _ h), hS⟩
theorem xx_cSl (hZ : Zs p c cc s m args own nL D cA A) (hE : En D cA ad s A M H locs) {y : MethodName} {cc' : ByteArray} {mL n idx : Nat} {ret : Option FieldType} {rm : Room} {As st0 : List Value} {r : Int64} (hstat : Cond.static y ∈ WT) (hM : KL l y cc' mL ret rm D cA ad As M r M') (hW : CW y cc' mL ret n) (hlink : Cond.methodLink own idx y ∈ WT) (hrm : rm.cells = 0 ∧ rm.slots = 0) (hR : rm.frames + 1 ≤ R.frames ∧ 8 + (mL + 11) + rm.locals ≤ R.locals) (hn : As.length = n) (hsz : ls.size = nL) (hst : st0 = As.reverse ++ rest) (hcat : (rest.map fun v => v.category).sum ≤ 8) (hf : cells + 0 ≤ R.cells ∧ slots + 0 ≤ R.slots) (hdg : decode cc pc = .ok (.invokestatic idx, 3))
    (kk : ∀ (H : Heap) (locs : List Loc), En D cA ad s A M' H locs → W p l e R s m args below meth c H locs cells slots Q (F0 m (pc + 3) ls (.long r :: rest))) : W p l e R s m args below meth c H locs cells slots Q (F0 m pc ls st0) := by
  obtain ⟨hx, hb, hml, hown, hts, hnw, hK, hA⟩ := hZ
  have hF := aw_in hE.2.1 hE.2.2 hA
  refine va_calll (va_runS (As := As) (rest := rest) ⟨hx, hb, hml, hown, hts⟩ (hM H.size) ⟨callB_of n hts (cw_good hW) rfl hrm.1 hrm.2 (hts _ hW.2.1) (hts _ hlink) hW.2.2 hR, hts _ hstat⟩ ⟨pw_blind, fun U hU hWm => ⟨rfl, by rw [hU], ⟨by rw [hU]; exact hE.1, va_K.moved hWm.alike hK, hE.2.1.weaken (fun _ _ _ _ => trivial)⟩, nw_warm hWm hnw⟩⟩ rfl hn hsz hst (lv_room hcat) hdg hf) hE.2.2 (fun q _ h => hF q h) hF (fun r_ u t H1 locs1 ht hvm hw hB hz1 hk1 hS => ?_)
  obtain ⟨rfl, rfl⟩ := hw
  obtain ⟨hP1, hK1, hD1⟩ := hB
  rw [ht] at hP1
  exact kk H1 locs1 ⟨hP1, hD1.weaken (fun _ _ _ h => hF _ h), hS⟩
theorem xx_cSv (hZ : Zs p c cc s m args own nL D cA A) (hE : En D cA ad s A M H locs) {y : MethodName} {cc' : ByteArray} {mL n idx : Nat} {ret : Option FieldType} {rm : Room} {As st0 : List Value} (hstat : Cond.static y ∈ WT) (hM : KV l y cc' mL ret rm D cA ad As M M') (hW : CW y cc' mL ret n) (hlink : Cond.methodLink own idx y ∈ WT) (hrm : rm.cells = 0 ∧ rm.slots = 0) (hR : rm.frames + 1 ≤ R.frames ∧ 8 + (mL + 11) + rm.locals ≤ R.locals) (hn : As.length = n) (hsz : ls.size = nL) (hst : st0 = As.reverse ++ rest) (hcat : (rest.map fun v => v.category).sum ≤ 8) (hf : cells + 0 ≤ R.cells ∧ slots + 0 ≤ R.slots) (hdg : decode cc pc = .ok (.invokestatic idx, 3))
    (kk : ∀ (H : Heap) (locs : List Loc), En D cA ad s A M' H locs → W p l e R s m args below meth c H locs cells slots Q (F0 m (pc + 3) ls (rest))) : W p l e R s m args below meth c H locs cells slots Q (F0 m pc ls st0) := by
  obtain ⟨hx, hb, hml, hown, hts, hnw, hK, hA⟩ := hZ
  have hF := aw_in hE.2.1 hE.2.2 hA
  refine va_callv (va_runS (As := As) (rest := rest) ⟨hx, hb, hml, hown, hts⟩ (hM H.size) ⟨callB_of n hts (cw_good hW) rfl hrm.1 hrm.2 (hts _ hW.2.1) (hts _ hlink) hW.2.2 hR, hts _ hstat⟩ ⟨pw_blind, fun U hU hWm => ⟨rfl, by rw [hU], ⟨by rw [hU]; exact hE.1, va_K.moved hWm.alike hK, hE.2.1.weaken (fun _ _ _ _ => trivial)⟩, nw_warm hWm hnw⟩⟩ rfl hn hsz hst (lv_room hcat) hdg hf) hE.2.2 (fun q _ h => hF q h) hF (fun u t H1 locs1 ht hvm hw hB hz1 hk1 hS => ?_)
  subst hw
  obtain ⟨hP1, hK1, hD1⟩ := hB
  rw [ht] at hP1
  exact kk H1 locs1 ⟨hP1, hD1.weaken (fun _ _ _ h => hF _ h), hS⟩
theorem xx_cSr (hZ : Zs p c cc s m args own nL D cA A) (hE : En D cA ad s A M H locs) {y : MethodName} {cc' : ByteArray} {mL n idx : Nat} {ret : Option FieldType} {rm : Room} {As st0 : List Value} {r : Nat} (hstat : Cond.static y ∈ WT) (hM : KR l y cc' mL ret rm D cA ad As M r M') (hW : CW y cc' mL ret n) (hlink : Cond.methodLink own idx y ∈ WT) (hrm : rm.cells = 0 ∧ rm.slots = 0) (hR : rm.frames + 1 ≤ R.frames ∧ 8 + (mL + 11) + rm.locals ≤ R.locals) (hn : As.length = n) (hsz : ls.size = nL) (hst : st0 = As.reverse ++ rest) (hcat : (rest.map fun v => v.category).sum ≤ 8) (hf : cells + 0 ≤ R.cells ∧ slots + 0 ≤ R.slots) (hdg : decode cc pc = .ok (.invokestatic idx, 3))
    (kk : ∀ (H : Heap) (locs : List Loc), En D cA ad s A M' H locs → W p l e R s m args below meth c H locs cells slots Q (F0 m (pc + 3) ls (.ref (ad r) :: rest))) : W p l e R s m args below meth c H locs cells slots Q (F0 m pc ls st0) := by
  obtain ⟨hx, hb, hml, hown, hts, hnw, hK, hA⟩ := hZ
  have hF := aw_in hE.2.1 hE.2.2 hA
  refine va_callr (va_runS (As := As) (rest := rest) ⟨hx, hb, hml, hown, hts⟩ (hM H.size) ⟨callB_of n hts (cw_good hW) rfl hrm.1 hrm.2 (hts _ hW.2.1) (hts _ hlink) hW.2.2 hR, hts _ hstat⟩ ⟨pw_blind, fun U hU hWm => ⟨rfl, by rw [hU], ⟨by rw [hU]; exact hE.1, va_K.moved hWm.alike hK, hE.2.1.weaken (fun _ _ _ _ => trivial)⟩, nw_warm hWm hnw⟩⟩ rfl hn hsz hst (lv_room hcat) hdg hf) hE.2.2 (fun q _ h => hF q h) hF (fun u ra t H1 locs1 ht hvm hw hB hz1 hk1 hS => ?_)
  subst hw
  obtain ⟨rfl, hB⟩ := hB
  obtain ⟨hP1, hK1, hD1⟩ := hB
  rw [ht] at hP1
  exact kk H1 locs1 ⟨hP1, hD1.weaken (fun _ _ _ h => hF _ h), hS⟩
theorem xx_cSNi (hZ : Zs p c cc s m args own nL D cA A) (hE : En D cA ad s A M H locs) {y : MethodName} {cc' : ByteArray} {mL n idx : Nat} {ret : Option FieldType} {rm : Room} {As st0 : List Value} {r : Int32} (hstat : Cond.static y ∈ WT) (hM : KI l y cc' mL ret rm D cA ad As M r M') (hW : CW y cc' mL ret n) {host : String} (hlink : Cond.methodLinkNest own idx y host ∈ NW) (hrm : rm.cells = 0 ∧ rm.slots = 0) (hR : rm.frames + 1 ≤ R.frames ∧ 8 + (mL + 11) + rm.locals ≤ R.locals) (hn : As.length = n) (hsz : ls.size = nL) (hst : st0 = As.reverse ++ rest) (hcat : (rest.map fun v => v.category).sum ≤ 8) (hf : cells + 0 ≤ R.cells ∧ slots + 0 ≤ R.slots) (hdg : decode cc pc = .ok (.invokestatic idx, 3))
    (kk : ∀ (H : Heap) (locs : List Loc), En D cA ad s A M' H locs → W p l e R s m args below meth c H locs cells slots Q (F0 m (pc + 3) ls (.int r :: rest))) : W p l e R s m args below meth c H locs cells slots Q (F0 m pc ls st0) := by
  obtain ⟨hx, hb, hml, hown, hts, hnw, hK, hA⟩ := hZ
  have hF := aw_in hE.2.1 hE.2.2 hA
  refine va_calli (va_runSN (As := As) (rest := rest) ⟨hx, hb, hml, hown, hts⟩ (hM H.size) ⟨va_cnB n hts (cw_good hW) rfl hrm.1 hrm.2 (hnw _ hlink) (hts _ hW.2.1) hW.2.2 hR, hts _ hstat, trivial⟩ ⟨pw_blind, fun U hU hWm => ⟨rfl, by rw [hU], ⟨by rw [hU]; exact hE.1, va_K.moved hWm.alike hK, hE.2.1.weaken (fun _ _ _ _ => trivial)⟩, nw_warm hWm hnw⟩⟩ rfl hn hsz hst (lv_room hcat) hdg hf) hE.2.2 (fun q _ h => hF q h) hF (fun r_ u t H1 locs1 ht hvm hw hB hz1 hk1 hS => ?_)
  obtain ⟨rfl, rfl⟩ := hw
  obtain ⟨hP1, hK1, hD1⟩ := hB
  rw [ht] at hP1
  exact kk H1 locs1 ⟨hP1, hD1.weaken (fun _ _ _ h => hF _ h), hS⟩
theorem xx_cSNl (hZ : Zs p c cc s m args own nL D cA A) (hE : En D cA ad s A M H locs) {y : MethodName} {cc' : ByteArray} {mL n idx : Nat} {ret : Option FieldType} {rm : Room} {As st0 : List Value} {r : Int64} (hstat : Cond.static y ∈ WT) (hM : KL l y cc' mL ret rm D cA ad As M r M') (hW : CW y cc' mL ret n) {host : String} (hlink : Cond.methodLinkNest own idx y host ∈ NW) (hrm : rm.cells = 0 ∧ rm.slots = 0) (hR : rm.frames + 1 ≤ R.frames ∧ 8 + (mL + 11) + rm.locals ≤ R.locals) (hn : As.length = n) (hsz : ls.size = nL) (hst : st0 = As.reverse ++ rest) (hcat : (rest.map fun v => v.category).sum ≤ 8) (hf : cells + 0 ≤ R.cells ∧ slots + 0 ≤ R.slots) (hdg : decode cc pc = .ok (.invokestatic idx, 3))
    (kk : ∀ (H : Heap) (locs : List Loc), En D cA ad s A M' H locs → W p l e R s m args below meth c H locs cells slots Q (F0 m (pc + 3) ls (.long r :: rest))) : W p l e R s m args below meth c H locs cells slots Q (F0 m pc ls st0) := by
  obtain ⟨hx, hb, hml, hown, hts, hnw, hK, hA⟩ := hZ
  have hF := aw_in hE.2.1 hE.2.2 hA
  refine va_calll (va_runSN (As := As) (rest := rest) ⟨hx, hb, hml, hown, hts⟩ (hM H.size) ⟨va_cnB n hts (cw_good hW) rfl hrm.1 hrm.2 (hnw _ hlink) (hts _ hW.2.1) hW.2.2 hR, hts _ hstat, trivial⟩ ⟨pw_blind, fun U hU hWm => ⟨rfl, by rw [hU], ⟨by rw [hU]; exact hE.1, va_K.moved hWm.alike hK, hE.2.1.weaken (fun _ _ _ _ => trivial)⟩, nw_warm hWm hnw⟩⟩ rfl hn hsz hst (lv_room hcat) hdg hf) hE.2.2 (fun q _ h => hF q h) hF (fun r_ u t H1 locs1 ht hvm hw hB hz1 hk1 hS => ?_)
  obtain ⟨rfl, rfl⟩ := hw
  obtain ⟨hP1, hK1, hD1⟩ := hB
  rw [ht] at hP1
  exact kk H1 locs1 ⟨hP1, hD1.weaken (fun _ _ _ h => hF _ h), hS⟩
theorem xx_cSNv (hZ : Zs p c cc s m args own nL D cA A) (hE : En D cA ad s A M H locs) {y : MethodName} {cc' : ByteArray} {mL n idx : Nat} {ret : Option FieldType} {rm : Room} {As st0 : List Value} (hstat : Cond.static y ∈ WT) (hM : KV l y cc' mL ret rm D cA ad As M M') (hW : CW y cc' mL ret n) {host : String} (hlink : Cond.methodLinkNest own idx y host ∈ NW) (hrm : rm.cells = 0 ∧ rm.slots = 0) (hR : rm.frames + 1 ≤ R.frames ∧ 8 + (mL + 11) + rm.locals ≤ R.locals) (hn : As.length = n) (hsz : ls.size = nL) (hst : st0 = As.reverse ++ rest) (hcat : (rest.map fun v => v.category).sum ≤ 8) (hf : cells + 0 ≤ R.cells ∧ slots + 0 ≤ R.slots) (hdg : decode cc pc = .ok (.invokestatic idx, 3))
    (kk : ∀ (H : Heap) (locs : List Loc), En D cA ad s A M' H locs → W p l e R s m args below meth c H locs cells slots Q (F0 m (pc + 3) ls (rest))) : W p l e R s m args below meth c H locs cells slots Q (F0 m pc ls st0) := by
  obtain ⟨hx, hb, hml, hown, hts, hnw, hK, hA⟩ := hZ
  have hF := aw_in hE.2.1 hE.2.2 hA
  refine va_callv (va_runSN (As := As) (rest := rest) ⟨hx, hb, hml, hown, hts⟩ (hM H.size) ⟨va_cnB n hts (cw_good hW) rfl hrm.1 hrm.2 (hnw _ hlink) (hts _ hW.2.1) hW.2.2 hR, hts _ hstat, trivial⟩ ⟨pw_blind, fun U hU hWm => ⟨rfl, by rw [hU], ⟨by rw [hU]; exact hE.1, va_K.moved hWm.alike hK, hE.2.1.weaken (fun _ _ _ _ => trivial)⟩, nw_warm hWm hnw⟩⟩ rfl hn hsz hst (lv_room hcat) hdg hf) hE.2.2 (fun q _ h => hF q h) hF (fun u t H1 locs1 ht hvm hw hB hz1 hk1 hS => ?_)
  subst hw
  obtain ⟨hP1, hK1, hD1⟩ := hB
  rw [ht] at hP1
  exact kk H1 locs1 ⟨hP1, hD1.weaken (fun _ _ _ h => hF _ h), hS⟩
theorem xx_cSNr (hZ : Zs p c cc s m args own nL D cA A) (hE : En D cA ad s A M H locs) {y : MethodName} {cc' : ByteArray} {mL n idx : Nat} {ret : Option FieldType} {rm : Room} {As st0 : List Value} {r : Nat} (hstat : Cond.static y ∈ WT) (hM : KR l y cc' mL ret rm D cA ad As M r M') (hW : CW y cc' mL ret n) {host : String} (hlink : Cond.methodLinkNest own idx y host ∈ NW) (hrm : rm.cells = 0 ∧ rm.slots = 0) (hR : rm.frames + 1 ≤ R.frames ∧ 8 + (mL + 11) + rm.locals ≤ R.locals) (hn : As.length = n) (hsz : ls.size = nL) (hst : st0 = As.reverse ++ rest) (hcat : (rest.map fun v => v.category).sum ≤ 8) (hf : cells + 0 ≤ R.cells ∧ slots + 0 ≤ R.slots) (hdg : decode cc pc = .ok (.invokestatic idx, 3))
    (kk : ∀ (H : Heap) (locs : List Loc), En D cA ad s A M' H locs → W p l e R s m args below meth c H locs cells slots Q (F0 m (pc + 3) ls (.ref (ad r) :: rest))) : W p l e R s m args below meth c H locs cells slots Q (F0 m pc ls st0) := by
  obtain ⟨hx, hb, hml, hown, hts, hnw, hK, hA⟩ := hZ
  have hF := aw_in hE.2.1 hE.2.2 hA
  refine va_callr (va_runSN (As := As) (rest := rest) ⟨hx, hb, hml, hown, hts⟩ (hM H.size) ⟨va_cnB n hts (cw_good hW) rfl hrm.1 hrm.2 (hnw _ hlink) (hts _ hW.2.1) hW.2.2 hR, hts _ hstat, trivial⟩ ⟨pw_blind, fun U hU hWm => ⟨rfl, by rw [hU], ⟨by rw [hU]; exact hE.1, va_K.moved hWm.alike hK, hE.2.1.weaken (fun _ _ _ _ => trivial)⟩, nw_warm hWm hnw⟩⟩ rfl hn hsz hst (lv_room hcat) hdg hf) hE.2.2 (fun q _ h => hF q h) hF (fun u ra t H1 locs1 ht hvm hw hB hz1 hk1 hS => ?_)
  subst hw
  obtain ⟨rfl, hB⟩ := hB
  obtain ⟨hP1, hK1, hD1⟩ := hB
  rw [ht] at hP1
  exact kk H1 locs1 ⟨hP1, hD1.weaken (fun _ _ _ h => hF _ h), hS⟩
theorem xx_tsw (hx : p.tables.exec = Jvm.exec) (hb : c.code = cc) {dflt lo hi : Int} {offs : Array Int} {len : Nat} {x : Int32} {off : Int} {tgt : Nat} (hdg : decode cc pc = .ok (.tableswitch dflt lo hi offs, len)) (v : Int32) (hv : x = v) (hc : ¬ v.toInt < lo ∧ ¬ hi < v.toInt ∧ offs[(v.toInt - lo).toNat]? = some off) (ht : (pc : Int) + off = (tgt : Int))
    (k : W p l e R s m args below meth c H locs cells slots Q (F0 m tgt ls rest)) : W p l e R s m args below meth c H locs cells slots Q (F0 m pc ls (.int x :: rest)) := by
  subst hv
  exact lv_tableIn hx hb hdg hc.1 hc.2.1 hc.2.2 ht k
theorem i32m {x v : Int32} {n : Int} (h : ¬ x = v) (hn : v.toInt = n) : x.toInt ≠ n := fun e => h (Int32.toInt_inj.mp (e.trans hn.symm))
def op_is (M : Mm) (b c : Nat) : Option Unit := if mm_is M b c then some () else none
theorem is_m {b ci : Nat} {u : Unit} (h : op_is M b ci = some u) : mm_is M b ci := (g_some h).1
def op_rz (v : Int32) : Option Int32 := if v = 0 ∨ v = 1 then some v else none
theorem rz_m {v z : Int32} (h : op_rz v = some z) : z = v ∧ narrow .boolean (.int v) = .int v := by
  obtain ⟨h1, rfl⟩ := g_some h
  exact ⟨rfl, by rcases h1 with rfl | rfl <;> rfl⟩
end
