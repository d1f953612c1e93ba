abbrev Mm : Type := Nat × (Nat → Nat) × (Nat → Nat) × (Nat → Nat → Option Nat) × (Nat → Nat → Int32) × (Nat → Nat → Int64)
def mm_N (M : Mm) : Nat := M.1
def mm_K (M : Mm) : Nat → Nat := M.2.1
def mm_S (M : Mm) : Nat → Nat := M.2.2.1
def mm_R (M : Mm) : Nat → Nat → Option Nat := M.2.2.2.1
def mm_I (M : Mm) : Nat → Nat → Int32 := M.2.2.2.2.1
def mm_L (M : Mm) : Nat → Nat → Int64 := M.2.2.2.2.2
def mm_u {α : Type} (f : Nat → Nat → α) (q k : Nat) (x : α) : Nat → Nat → α := fun a b => if a = q ∧ b = k then x else f a b
def mm_wI (M : Mm) (q k : Nat) (x : Int32) : Mm := (mm_N M, mm_K M, mm_S M, mm_R M, mm_u (mm_I M) q k x, mm_L M)
def mm_wL (M : Mm) (q k : Nat) (x : Int64) : Mm := (mm_N M, mm_K M, mm_S M, mm_R M, mm_I M, mm_u (mm_L M) q k x)
def mm_wR (M : Mm) (q k : Nat) (x : Option Nat) : Mm := (mm_N M, mm_K M, mm_S M, mm_u (mm_R M) q k x, mm_I M, mm_L M)
abbrev mm_is (M : Mm) (q c : Nat) : Prop := q < mm_N M ∧ mm_K M q = c
abbrev mm_in (i : Int32) (n : Nat) : Prop := ¬ (i < 0 ∨ n ≤ i.toNatClampNeg)
def op_gI (M : Mm) (c q k : Nat) : Option Int32 := if mm_is M q c then some (mm_I M q k) else none
def op_gL (M : Mm) (c q k : Nat) : Option Int64 := if mm_is M q c then some (mm_L M q k) else none
def op_gR (M : Mm) (c q k : Nat) : Option Nat := if mm_is M q c then mm_R M q k else none
def op_pI (M : Mm) (c q k : Nat) (x : Int32) : Option Mm := if mm_is M q c then some (mm_wI M q k x) else none
def op_pZ (M : Mm) (c q k : Nat) (x : Int32) : Option Mm := if mm_is M q c ∧ (x = 0 ∨ x = 1) then some (mm_wI M q k x) else none
def op_pL (M : Mm) (c q k : Nat) (x : Int64) : Option Mm := if mm_is M q c then some (mm_wL M q k x) else none
def op_aI (M : Mm) (q : Nat) (i : Int32) : Option Int32 := if mm_is M q 100 ∧ mm_in i (mm_S M q) then some (mm_I M q i.toNatClampNeg) else none
def op_aL (M : Mm) (q : Nat) (i : Int32) : Option Int64 := if mm_is M q 101 ∧ mm_in i (mm_S M q) then some (mm_L M q i.toNatClampNeg) else none
def op_aZ (M : Mm) (q : Nat) (i : Int32) : Option Int32 := if mm_is M q 102 ∧ mm_in i (mm_S M q) then some (mm_I M q i.toNatClampNeg) else none
def op_aR (M : Mm) (q : Nat) (i : Int32) : Option Nat := if mm_is M q 103 ∧ mm_in i (mm_S M q) then mm_R M q i.toNatClampNeg else none
def op_sI (M : Mm) (q : Nat) (i x : Int32) : Option Mm := if mm_is M q 100 ∧ mm_in i (mm_S M q) then some (mm_wI M q i.toNatClampNeg x) else none
def op_sL (M : Mm) (q : Nat) (i : Int32) (x : Int64) : Option Mm := if mm_is M q 101 ∧ mm_in i (mm_S M q) then some (mm_wL M q i.toNatClampNeg x) else none
def op_sZ (M : Mm) (q : Nat) (i x : Int32) : Option Mm := if (mm_is M q 102 ∧ mm_in i (mm_S M q)) ∧ (x = 0 ∨ x = 1) then some (mm_wI M q i.toNatClampNeg x) else none
def op_n (M : Mm) (c q : Nat) : Option Int32 := if mm_is M q c ∧ 100 ≤ c ∧ c < 104 then some (nI (mm_S M q)) else none
def op_jn {α β : Type} (k : α) (f : α → β) : β := f k
def FU : Nat := 1000000
theorem it_y {α : Type} {c : Prop} {i : Decidable c} {a b z : α} (h : c) (hf : @ite α c i a b = z) : a = z := by rw [if_pos h] at hf; exact hf
theorem it_n {α : Type} {c : Prop} {i : Decidable c} {a b z : α} (h : ¬ c) (hf : @ite α c i a b = z) : b = z := by rw [if_neg h] at hf; exact hf
theorem b_some {α β : Type} {x : Option α} {f : α → Option β} {b : β} (h : x.bind f = some b) : ∃ a, x = some a ∧ f a = some b := Option.bind_eq_some_iff.mp h
theorem e_some {α : Type} {c : Prop} {i : Decidable c} {b : Option α} {z : α} (h : @ite _ c i none b = some z) : ¬ c ∧ b = some z := by
  by_cases hc : c
  · rw [if_pos hc] at h; cases h
  · rw [if_neg hc] at h; exact ⟨hc, h⟩
theorem jn_e {α β : Type} {k : α} {f : α → β} {z : β} (h : op_jn k f = z) : ∃ j, j = k ∧ f j = z := ⟨k, rfl, h⟩
theorem g_some {α : Type} {c : Prop} {i : Decidable c} {a z : α} (h : @ite _ c i (some a) none = some z) : c ∧ a = z := by
  by_cases hc : c
  · rw [if_pos hc] at h; exact ⟨hc, Option.some.inj h⟩
  · rw [if_neg hc] at h; cases h
theorem g_opt {α : Type} {c : Prop} {i : Decidable c} {a : Option α} {z : α} (h : @ite _ c i a none = some z) : c ∧ a = some z := by
  by_cases hc : c
  · rw [if_pos hc] at h; exact ⟨hc, h⟩
  · rw [if_neg hc] at h; cases h
def mm_nF (c : Nat) : Nat := match c with
  | 0 => 8
  | 1 => 3
  | 2 => 11
  | 3 => 6
  | 4 => 2
  | 5 => 6
  | 6 => 6
  | 7 => 24
  | _ => 0
def mm_tF (c k : Nat) : Nat := match c, k with
  | 0, 0 => 2
  | 0, 1 => 2
  | 0, 2 => 2
  | 0, 3 => 2
  | 0, 4 => 2
  | 0, 5 => 2
  | 0, 6 => 2
  | 1, 0 => 1
  | 1, 1 => 1
  | 2, 6 => 2
  | 2, 7 => 2
  | 2, 8 => 2
  | 2, 9 => 2
  | 3, 2 => 2
  | 3, 3 => 2
  | 3, 4 => 2
  | 3, 5 => 2
  | 4, 0 => 2
  | 4, 1 => 2
  | 5, 0 => 2
  | 5, 1 => 2
  | 5, 2 => 2
  | 5, 5 => 1
  | 6, 0 => 2
  | 6, 1 => 2
  | 6, 2 => 2
  | 6, 3 => 2
  | 6, 4 => 2
  | 7, 1 => 2
  | 7, 3 => 2
  | 7, 5 => 2
  | 7, 6 => 2
  | 7, 7 => 2
  | 7, 8 => 2
  | 7, 9 => 2
  | 7, 10 => 2
  | 7, 11 => 2
  | 7, 12 => 2
  | 7, 13 => 2
  | 7, 14 => 2
  | 7, 15 => 2
  | 7, 16 => 2
  | 7, 18 => 2
  | 7, 20 => 1
  | 7, 21 => 1
  | 7, 22 => 1
  | 7, 23 => 2
  | _, _ => 0
def mm_fv (ad : Nat → Nat) (M : Mm) (q k t : Nat) : Value := match t with
  | 0 => .int (mm_I M q k)
  | 1 => .long (mm_L M q k)
  | _ => va_rf ((mm_R M q k).map ad)
def mm_fl (ad : Nat → Nat) (M : Mm) (c q : Nat) : List Value := (List.range (mm_nF c)).map (fun k => mm_fv ad M q k (mm_tF c k))
def mm_ar (ad : Nat → Nat) (M : Mm) (q t : Nat) : (Nat → Int32) ⊕ (Nat → Int64) ⊕ (Nat → UInt32) ⊕ (Nat → UInt64) ⊕ (Nat → Option Nat) := match t with
  | 0 => .inl (mm_I M q)
  | 1 => .inr (.inl (mm_L M q))
  | 2 => .inl (mm_I M q)
  | _ => .inr (.inr (.inr (.inr (fun j => (mm_R M q j).map ad))))
def mm_e (cA : Nat → ClassId) (ad : Nat → Nat) (M : Mm) (q : Nat) : va_E := if mm_K M q < 100 then .inr (mm_K M q, mm_fl ad M (mm_K M q) q) else .inl (cA (mm_K M q - 100), mm_S M q, mm_ar ad M q (mm_K M q - 100))
def mm_w (cA : Nat → ClassId) (ad : Nat → Nat) (M : Mm) : va_W := (List.range (mm_N M)).map (fun q => (ad q, mm_e cA ad M q))
def mm_tys (cA : Nat → ClassId) : List (ClassId × FieldType) := [(cA 0, .int), (cA 1, .long), (cA 2, .boolean), (cA 3, .object "ChainMoves$Move")]
section
variable {cA : Nat → ClassId} {ad : Nat → Nat} {M : Mm} {q c k t j : Nat}
theorem mm_at (h : q < mm_N M) : (mm_w cA ad M)[q]? = some (ad q, mm_e cA ad M q) := by
  unfold mm_w
  rw [List.getElem?_map, List.getElem?_range h]
  rfl
theorem mm_none (h : ¬ q < mm_N M) : (mm_w cA ad M)[q]? = none := by
  unfold mm_w
  rw [List.getElem?_map, List.getElem?_eq_none (by rw [List.length_range]; exact Nat.le_of_not_lt h)]
  rfl
theorem mm_eo (h : mm_is M q c) (hc : c < 100) : (mm_w cA ad M)[q]? = some (ad q, .inr (c, mm_fl ad M c q)) := by
  rw [mm_at h.1]
  unfold mm_e
  rw [h.2, if_pos hc]
theorem mm_ea (h : mm_is M q (100 + t)) : (mm_w cA ad M)[q]? = some (ad q, .inl (cA t, mm_S M q, mm_ar ad M q t)) := by
  rw [mm_at h.1]
  unfold mm_e
  rw [h.2, if_neg (by omega), Nat.add_sub_cancel_left]
theorem mm_flk (hk : k < mm_nF c) : (mm_fl ad M c q)[k]? = some (mm_fv ad M q k (mm_tF c k)) := by
  unfold mm_fl
  rw [List.getElem?_map, List.getElem?_range hk]
  rfl
theorem mm_fln : (mm_fl ad M c q).length = mm_nF c := by simp [mm_fl]
theorem mm_set {M' : Mm} {x : va_E} (hq : q < mm_N M) (hN : mm_N M' = mm_N M) (hx : mm_e cA ad M' q = x) (he : ∀ j, j ≠ q → mm_e cA ad M' j = mm_e cA ad M j) : (mm_w cA ad M).set q (ad q, x) = mm_w cA ad M' := by
  apply List.ext_getElem?
  intro i
  rw [List.getElem?_set]
  by_cases hi : q = i
  · subst hi
    rw [if_pos rfl, if_pos (by simp [mm_w]; exact hq), mm_at (by rw [hN]; exact hq), hx]
  · rw [if_neg hi]
    by_cases hl : i < mm_N M
    · rw [mm_at hl, mm_at (by rw [hN]; exact hl), he i (fun h => hi h.symm)]
    · rw [mm_none hl, mm_none (by rw [hN]; exact hl)]
theorem mm_uo {α : Type} {f : Nat → Nat → α} {x : α} (h : j ≠ q) : mm_u f q k x j = f j := by
  funext b
  unfold mm_u
  rw [if_neg (fun h' => h h'.1)]
theorem mm_uq {α : Type} {f : Nat → Nat → α} {x : α} : mm_u f q k x q k = x := by
  unfold mm_u
  rw [if_pos ⟨rfl, rfl⟩]
theorem mm_uk {α : Type} {f : Nat → Nat → α} {x : α} (h : j ≠ k) : mm_u f q k x q j = f q j := by
  unfold mm_u
  rw [if_neg (fun h' => h h'.2)]
theorem mm_eI {x : Int32} (h : j ≠ q) : mm_e cA ad (mm_wI M q k x) j = mm_e cA ad M j := by
  have h1 : mm_I (mm_wI M q k x) j = mm_I M j := mm_uo h
  have h2 : ∀ i t, mm_fv ad (mm_wI M q k x) j i t = mm_fv ad M j i t := fun i t => by
    unfold mm_fv
    rw [h1]
    rfl
  have h3 : ∀ t, mm_ar ad (mm_wI M q k x) j t = mm_ar ad M j t := fun t => by
    unfold mm_ar
    rw [h1]
    rfl
  unfold mm_e mm_fl
  simp only [h2, h3]
  rfl
theorem mm_eL {x : Int64} (h : j ≠ q) : mm_e cA ad (mm_wL M q k x) j = mm_e cA ad M j := by
  have h1 : mm_L (mm_wL M q k x) j = mm_L M j := mm_uo h
  have h2 : ∀ i t, mm_fv ad (mm_wL M q k x) j i t = mm_fv ad M j i t := fun i t => by
    unfold mm_fv
    rw [h1]
    rfl
  have h3 : ∀ t, mm_ar ad (mm_wL M q k x) j t = mm_ar ad M j t := fun t => by
    unfold mm_ar
    rw [h1]
    rfl
  unfold mm_e mm_fl
  simp only [h2, h3]
  rfl
theorem mm_setI {x : Int32} (h : mm_is M q c) (hc : c < 100) (hk : k < mm_nF c) (ht : mm_tF c k = 0) : (mm_w cA ad M).set q (ad q, .inr (c, (mm_fl ad M c q).set k (.int x))) = mm_w cA ad (mm_wI M q k x) := by
  refine mm_set h.1 rfl ?_ (fun j hj => mm_eI hj)
  have h1 : mm_K (mm_wI M q k x) q = c := h.2
  unfold mm_e
  rw [h1, if_pos hc]
  refine congrArg (fun z => Sum.inr (c, z)) ?_
  apply List.ext_getElem?
  intro j
  rw [List.getElem?_set]
  by_cases hj : k = j
  · subst hj
    rw [if_pos rfl, mm_flk hk, if_pos (by rw [mm_fln]; exact hk), ht]
    exact congrArg (fun z => some (Value.int z)) mm_uq
  · rw [if_neg hj]
    by_cases hl : j < mm_nF c
    · rw [mm_flk hl, mm_flk hl]
      unfold mm_fv
      rw [show mm_I (mm_wI M q k x) q j = mm_I M q j from mm_uk (fun h => hj h.symm)]
      rfl
    · rw [List.getElem?_eq_none (by rw [mm_fln]; omega), List.getElem?_eq_none (by rw [mm_fln]; omega)]
theorem mm_setL {x : Int64} (h : mm_is M q c) (hc : c < 100) (hk : k < mm_nF c) (ht : mm_tF c k = 1) : (mm_w cA ad M).set q (ad q, .inr (c, (mm_fl ad M c q).set k (.long x))) = mm_w cA ad (mm_wL M q k x) := by
  refine mm_set h.1 rfl ?_ (fun j hj => mm_eL hj)
  have h1 : mm_K (mm_wL M q k x) q = c := h.2
  unfold mm_e
  rw [h1, if_pos hc]
  refine congrArg (fun z => Sum.inr (c, z)) ?_
  apply List.ext_getElem?
  intro j
  rw [List.getElem?_set]
  by_cases hj : k = j
  · subst hj
    rw [if_pos rfl, mm_flk hk, if_pos (by rw [mm_fln]; exact hk), ht]
    exact congrArg (fun z => some (Value.long z)) mm_uq
  · rw [if_neg hj]
    by_cases hl : j < mm_nF c
    · rw [mm_flk hl, mm_flk hl]
      unfold mm_fv
      rw [show mm_L (mm_wL M q k x) q j = mm_L M q j from mm_uk (fun h => hj h.symm)]
      rfl
    · rw [List.getElem?_eq_none (by rw [mm_fln]; omega), List.getElem?_eq_none (by rw [mm_fln]; omega)]
theorem mm_upd {f : Nat → Nat → Int32} {x : Int32} : mm_u f q k x q = upd (f q) k x := by
  funext b
  unfold mm_u upd
  by_cases hb : b = k
  · rw [if_pos ⟨rfl, hb⟩, if_pos hb]
  · rw [if_neg (fun h => hb h.2), if_neg hb]
theorem mm_updL {f : Nat → Nat → Int64} {x : Int64} : mm_u f q k x q = vp_updL (f q) k x := by
  funext b
  unfold mm_u vp_updL
  by_cases hb : b = k
  · rw [if_pos ⟨rfl, hb⟩, if_pos hb]
  · rw [if_neg (fun h => hb h.2), if_neg hb]
theorem mm_asI {x : Int32} (ht : t = 0 ∨ t = 2) (h : mm_is M q (100 + t)) : (mm_w cA ad M).set q (ad q, .inl (cA t, mm_S M q, .inl (upd (mm_I M q) k x))) = mm_w cA ad (mm_wI M q k x) := by
  refine mm_set h.1 rfl ?_ (fun j hj => mm_eI hj)
  have h1 : mm_K (mm_wI M q k x) q = 100 + t := h.2
  have h2 : mm_ar ad (mm_wI M q k x) q t = .inl (upd (mm_I M q) k x) := by
    rcases ht with rfl | rfl <;> exact congrArg Sum.inl mm_upd
  unfold mm_e
  rw [h1, if_neg (by omega), Nat.add_sub_cancel_left, h2]
  rfl
theorem mm_asL {x : Int64} (h : mm_is M q 101) : (mm_w cA ad M).set q (ad q, .inl (cA 1, mm_S M q, .inr (.inl (vp_updL (mm_L M q) k x)))) = mm_w cA ad (mm_wL M q k x) := by
  refine mm_set h.1 rfl ?_ (fun j hj => mm_eL hj)
  have h1 : mm_K (mm_wL M q k x) q = 100 + 1 := h.2
  have h2 : mm_ar ad (mm_wL M q k x) q 1 = .inr (.inl (vp_updL (mm_L M q) k x)) := congrArg (fun z => Sum.inr (Sum.inl z)) mm_updL
  unfold mm_e
  rw [h1, if_neg (by omega), Nat.add_sub_cancel_left, h2]
  rfl
end
