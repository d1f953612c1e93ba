section
variable {M M' : Mm} {x : Zt} {w : Nat → Nat} {V : Mv} {nm cg m s t q n : Nat} {S : Nat → Prop}
/-- what changes at or above cell 58 alone changes nothing that the class's state is read from -/
theorem RC.ch (h : RC x w V nm cg M) (hc : Ch S M M') (hS : ∀ a, S a → 58 ≤ a) : RC x w V nm cg M' := by
  have no : ∀ {a : Nat}, a < 58 → ¬ S a := fun ha hs => by have := hS _ hs; omega
  have hn := h.2.2.2.1
  obtain ⟨a1, a2, a3, a4⟩ := h.2.2.2.2.2
  refine ⟨h.1.ch hc (no (by omega)) (no (by omega)) (no (by omega)) (no (by omega)), h.2.1.ch hc (no (by omega)), h.2.2.1, hn, ⟨(hc.I (no (by omega))).trans h.2.2.2.2.1.1, fun m hm => ?_⟩, ?_⟩
  · obtain ⟨b0, b1, b2, b3, b4, b5, b6⟩ := h.2.2.2.2.1.2 m hm
    have f : ∀ k, mm_I M' (7 + 5 * m) k = mm_I M (7 + 5 * m) k := fun k => hc.I (no (by omega))
    exact ⟨(f 0).trans b0, fun e => (f 1).trans (b1 e), fun e => (f 2).trans (b2 e), (f 3).trans b3, (f 4).trans b4, (f 5).trans b5, b6.ch hc (no (by omega)) (no (by omega))⟩
  · refine ⟨(hc.I (no (by omega))).trans a1, a2, fun m hm => ?_, fun m hm he s hs t ht => ?_⟩
    · obtain ⟨r, r1, r2, r3⟩ := a3 m hm
      exact ⟨r, r1, (hc.I (no (by omega))).trans r2, r3⟩
    · rw [hc.L (no (by omega)), hc.L (no (by omega))]
      rw [hc.I (no (by omega))] at he
      exact a4 m hm he s hs t ht
theorem Kn.ch (h : Kn cg m s t M) (hm : m < 10) (hc : Ch S M M') (hS : ∀ a, S a → 58 ≤ a) : Kn cg m s t M' := ⟨(hc.I (fun e => by have := hS _ e; omega)).trans h.1, by rw [hc.L (fun e => by have := hS _ e; omega)]; exact h.2⟩
/-- the frame of a call that may use all of the class's scratch: the reference's cells stay, the class's state is kept by RC -/
def Cc (M M' : Mm) : Prop := (Shp M → Shp M') ∧ ∀ a, 63 ≤ a → mm_I M' a = mm_I M a ∧ mm_L M' a = mm_L M a
theorem Cc.rf : Cc M M := ⟨id, fun _ _ => ⟨rfl, rfl⟩⟩
theorem Cc.tr {M'' : Mm} (h : Cc M M') (h' : Cc M' M'') : Cc M M'' := ⟨fun z => h'.1 (h.1 z), fun a ha => ⟨((h'.2 a ha).1).trans (h.2 a ha).1, ((h'.2 a ha).2).trans (h.2 a ha).2⟩⟩
theorem Cc.ch (h : Ch S M M') (hS : ∀ a, S a → a < 63) : Cc M M' := ⟨h.1, fun a ha => h.2 a (fun e => by have := hS _ e; omega)⟩
theorem Cc.cr (h : Cr M M') : Cc M M' := ⟨h.1, fun a ha => ⟨funext fun k => h.2.1 a k (fun e => by have := e.2; omega) (fun m _ e => by omega), funext fun k => h.2.2 a k (fun e => by have := e.2; omega) (fun m _ => ⟨by omega, by omega⟩)⟩⟩
theorem FrC.cr {y : Fq} (h : FrC q y M) (hc : Cr M M') (h1 : 61 ≤ q) : FrC q y M' := by
  have f1 : ∀ k, mm_I M' q k = mm_I M q k := fun k => hc.2.1 q k (fun e => by have := e.2; omega) (fun m _ e => by omega)
  have f2 : ∀ k, mm_L M' q k = mm_L M q k := fun k => hc.2.2 q k (fun e => by have := e.2; omega) (fun m _ => ⟨by omega, by omega⟩)
  cases y with
  | none => exact (f1 2).trans h
  | some w => exact ⟨(f2 0).trans h.1, (f2 1).trans h.2.1, (f1 2).trans h.2.2⟩
end
