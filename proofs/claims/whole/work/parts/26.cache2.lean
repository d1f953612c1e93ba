section
variable {M M' M'' : Mm} {x : Zt} {w : Nat → Nat} {V : Mv} {nm cg m s t q n : Nat}
theorem e_cell {s t : Nat} : nI s * (16 : Int32) + nI t = nI (s * 16 + t) := by rw [show (16 : Int32) = nI 16 from rfl, pk_mul, nI_add]
theorem p_knows (h : Shp M) (hm : m < 10) (hs : s < 16) (ht : t < 16) : f_X2_knows (7 + 5 * m) (nI s) (nI t) M = some (if mm_L M (11 + 5 * m) (s * 16 + t) = 0 then 0 else 1) := by
  unfold f_X2_knows f_X2_cell
  rw [G_m_9 h hm, Option.bind_some, Option.bind_some, e_cell, A_m_3 h hm (by omega), Option.bind_some]
  by_cases e : mm_L M (11 + 5 * m) (s * 16 + t) = 0
  · rw [if_pos e, if_pos e]
  · rw [if_neg e, if_neg e]
theorem p_load (h : Shp M) (hx : x ∈ OKZ) (hw : ∀ s, w s ≤ 1000) (ho : okV x V nm) (hca : CaC x w V nm cg M) (hn : nm ≤ 10) (hm : m < nm) (hs : s < ns x) (ht : t < ns x) (hk : Kn cg m s t M) (hq : FQ q) : ∃ M', f_X2_load (7 + 5 * m) (nI s) (nI t) q M = some M' ∧ FrC q (chm x w V m s t) M' ∧ Ch (· = q) M M' := by
  have hm10 : m < 10 := by omega
  have hs16 := gz_n hx hs
  have ht16 := gz_n hx ht
  have hc := (hca.2.2.2 m hm hk.1 s hs t ht).resolve_left hk.2
  have hok := chm_ok hx hw ho hm hs ht
  unfold f_X2_load f_X2_cell
  rw [G_m_8 h hm10, Option.bind_some, Option.bind_some, e_cell, A_m_2 h hm10 (by omega), Option.bind_some, sh_pL h hq.l hq.k, Option.bind_some, G_m_9 (sh_wL h) hm10, Option.bind_some, Option.bind_some, A_m_3 (sh_wL h) hm10 (by omega), Option.bind_some, sh_pL (sh_wL h) hq.l hq.k, Option.bind_some, sh_gL (sh_wL (sh_wL h)) hq.l hq.k, Option.bind_some]
  have nq : ¬ (11 + 5 * m = q ∧ s * 16 + t = 0) := fun e => by have := hq.1; omega
  have eL : mm_L (mm_wL M q 0 (mm_L M (10 + 5 * m) (s * 16 + t))) (11 + 5 * m) (s * 16 + t) = mm_L M (11 + 5 * m) (s * 16 + t) := by rw [mL_wL, if_neg nq]
  have e9 : mm_L (mm_wL (mm_wL M q 0 (mm_L M (10 + 5 * m) (s * 16 + t))) q 1 (mm_L M (11 + 5 * m) (s * 16 + t))) q 1 = mm_L M (11 + 5 * m) (s * 16 + t) := by rw [mL_wL, if_pos ⟨rfl, rfl⟩]
  rw [eL, e9]
  generalize hy : chm x w V m s t = y at hc hok ⊢
  have c0 : Ch (· = q) M (mm_wL (mm_wL M q 0 (mm_L M (10 + 5 * m) (s * 16 + t))) q 1 (mm_L M (11 + 5 * m) (s * 16 + t))) := (Ch.wL (S := (· = q)) rfl).tr (Ch.wL rfl)
  cases y with
  | none =>
    have hB : mm_L M (11 + 5 * m) (s * 16 + t) = -1 := hc
    rw [hB, if_pos (show (-1 : Int64) ≤ 0 by decide), sh_pZ (sh_wL (sh_wL h)) hq.l hq.k (Or.inl rfl), Option.bind_some]
    rw [hB] at c0
    exact ⟨_, rfl, by show mm_I _ q 2 = 0; rw [mI_wI, if_pos ⟨rfl, rfl⟩], c0.tr (Ch.wI rfl)⟩
  | some z =>
    obtain ⟨a, b⟩ := z
    obtain ⟨a1, b1, b0, ab⟩ := hok a b rfl
    have hA : mm_L M (10 + 5 * m) (s * 16 + t) = lN a := hc.1
    have hB : mm_L M (11 + 5 * m) (s * 16 + t) = lN b := hc.2
    rw [hB, if_neg (show ¬ lN b ≤ (0 : Int64) by rw [l0, pk_lLE b1 (by decide)]; omega), sh_pZ (sh_wL (sh_wL h)) hq.l hq.k (Or.inr rfl), Option.bind_some]
    rw [hB] at c0
    refine ⟨_, rfl, ⟨?_, ?_, ?_⟩, c0.tr (Ch.wI rfl)⟩
    · rw [mL_wI, mL_wL, if_neg (fun e => by omega), mL_wL, if_pos ⟨rfl, rfl⟩]; exact hA
    · rw [mL_wI, mL_wL, if_pos ⟨rfl, rfl⟩]
    · rw [mI_wI, if_pos ⟨rfl, rfl⟩]
theorem p_store (h : Shp M) (hx : x ∈ OKZ) (hw : ∀ s, w s ≤ 1000) (ho : okV x V nm) (hca : CaC x w V nm cg M) (hn : nm ≤ 10) (hm : m < nm) (hs : s < ns x) (ht : t < ns x) (hcur : mm_I M (7 + 5 * m) 10 = nI cg) (hf : FrC 58 (chm x w V m s t) M) : ∃ M', f_X2_store (7 + 5 * m) (nI s) (nI t) 58 M = some M' ∧ CaC x w V nm cg M' ∧ Kn cg m s t M' ∧ (∀ a b c, a < 10 → b < 16 → c < 16 → Kn cg a b c M → Kn cg a b c M') ∧ mm_I M' = mm_I M ∧ Cr M M' := by
  have hm10 : m < 10 := by omega
  have hs16 := gz_n hx hs
  have ht16 := gz_n hx ht
  have hok := chm_ok hx hw ho hm hs ht
  have key : ∀ B : Int64, B ≠ 0 → Cel (chm x w V m s t) (mm_L M 58 0) B → ∃ M', ((op_sL (mm_wL M (10 + 5 * m) (s * 16 + t) (mm_L M 58 0)) (11 + 5 * m) (nI (s * 16 + t)) B).bind fun M_11 => some M_11) = some M' ∧ CaC x w V nm cg M' ∧ Kn cg m s t M' ∧ (∀ a b c, a < 10 → b < 16 → c < 16 → Kn cg a b c M → Kn cg a b c M') ∧ mm_I M' = mm_I M ∧ Cr M M' := by
    intro B hB0 hcel
    rw [S_m_3 (sh_wL h) hm10 (by omega), Option.bind_some]
    obtain ⟨a1, a2, a3, a4⟩ := hca
    have eB : ∀ a k, ¬ (a = 11 + 5 * m ∧ k = s * 16 + t) → ¬ (a = 10 + 5 * m ∧ k = s * 16 + t) → mm_L (mm_wL (mm_wL M (10 + 5 * m) (s * 16 + t) (mm_L M 58 0)) (11 + 5 * m) (s * 16 + t) B) a k = mm_L M a k := fun a k h1 h2 => by rw [mL_wL, if_neg h1, mL_wL, if_neg h2]
    have e1 : mm_L (mm_wL (mm_wL M (10 + 5 * m) (s * 16 + t) (mm_L M 58 0)) (11 + 5 * m) (s * 16 + t) B) (11 + 5 * m) (s * 16 + t) = B := by rw [mL_wL, if_pos ⟨rfl, rfl⟩]
    have e2 : mm_L (mm_wL (mm_wL M (10 + 5 * m) (s * 16 + t) (mm_L M 58 0)) (11 + 5 * m) (s * 16 + t) B) (10 + 5 * m) (s * 16 + t) = mm_L M 58 0 := by rw [mL_wL, if_neg (fun e => by omega), mL_wL, if_pos ⟨rfl, rfl⟩]
    refine ⟨_, rfl, ⟨a1, a2, a3, ?_⟩, ⟨hcur, by rw [e1]; exact hB0⟩, ?_, rfl, ?_⟩
    · intro m' hm' he s' hs' t' ht'
      have hs'16 := gz_n hx hs'
      have ht'16 := gz_n hx ht'
      by_cases em : m' = m ∧ s' = s ∧ t' = t
      · obtain ⟨rfl, rfl, rfl⟩ := em
        refine Or.inr ?_
        rw [e1, e2]
        exact hcel
      · rw [eB _ _ (fun e => em (by omega)) (fun e => em (by omega)), eB _ _ (fun e => em (by omega)) (fun e => em (by omega))]
        exact a4 m' hm' he s' hs' t' ht'
    · intro a b c ha hb hc hk
      refine ⟨hk.1, ?_⟩
      by_cases em : a = m ∧ b = s ∧ c = t
      · obtain ⟨rfl, rfl, rfl⟩ := em
        rw [e1]; exact hB0
      · rw [eB _ _ (fun e => em (by omega)) (fun e => em (by omega))]
        exact hk.2
    · exact ⟨fun z => z, fun _ _ _ _ => rfl, fun a k _ h2 => eB a k (fun e => (h2 m hm10).2 e.1) (fun e => (h2 m hm10).1 e.1)⟩
  simp only [f_X2_store, f_X2_cell, op_jn]
  rw [G_m_8 h hm10, Option.bind_some, Option.bind_some, e_cell, G_58_0 h, Option.bind_some, S_m_2 h hm10 (by omega), Option.bind_some, G_m_9 (sh_wL h) hm10, Option.bind_some, Option.bind_some, G_58_2 (sh_wL h), Option.bind_some, mI_wL]
  generalize hy : chm x w V m s t = y at hf hok key
  cases y with
  | none =>
    rw [show mm_I M 58 2 = 0 from hf, if_pos rfl]
    exact key (-1) (by decide) rfl
  | some z =>
    obtain ⟨a, b⟩ := z
    obtain ⟨a1, b1, b0, ab⟩ := hok a b rfl
    rw [hf.2.2, if_neg (by decide), G_58_1 (sh_wL h), Option.bind_some, mL_wL, if_neg (fun e => by omega)]
    refine key (mm_L M 58 1) ?_ ⟨hf.1, hf.2.1⟩
    rw [show mm_L M 58 1 = lN b from hf.2.1]
    exact fun e => by have := (ln_eq0 b1).mp e; omega
end
