def Cw (M M' : Mm) : Prop := (Shp M → Shp M') ∧ (∀ a k, a ≠ 78 → a ≠ 79 → a ≠ 80 → mm_I M' a k = mm_I M a k) ∧ ∀ a k, a ≠ 76 → a ≠ 77 → (a = 66 → k ≠ 21 ∧ k ≠ 22) → mm_L M' a k = mm_L M a k
def Ck (k : Nat) (M M' : Mm) : Prop := (Shp M → Shp M') ∧ mm_I M' = mm_I M ∧ (∀ a i, a ≠ 76 → a ≠ 77 → (a = 66 → i ≠ 21 ∧ i ≠ 22) → mm_L M' a i = mm_L M a i) ∧ ∀ i, i < 256 * k ∨ 256 * k + 256 ≤ i → mm_L M' 76 i = mm_L M 76 i ∧ mm_L M' 77 i = mm_L M 77 i
def KnP (x : Zt) (w : Nat → Nat) (V : Mv) (k s t : Nat) (M : Mm) : Prop := ∀ u, u < ns x → ∀ v, v < ns x → (u < s ∨ (u = s ∧ v < t)) → Ar (chm x w V k u v) (mm_L M 76 (256 * k + 16 * u + v)) (mm_L M 77 (256 * k + 16 * u + v))
def CaM (x : Zt) (w : Nat → Nat) (V : Mv) (nm : Nat) (M : Mm) : Prop := ∀ j, j < nm → (mm_I M 78 j = 0 ∨ mm_I M 78 j = 1) ∧ (mm_I M 78 j = 1 → KnV x w V j M)
def Wnt (V : Mv) (m j : Nat) (M : Mm) : Prop := (∀ k, k < 10 → mm_I M 80 k = 0 ∨ mm_I M 80 k = 1) ∧ mm_I M 80 m = 1 ∧ ∀ k, j ≤ k → k ≤ m → mm_I M 80 k = 1 → 5 ≤ vK V k → mm_I M 80 (vA V k) = 1 ∧ mm_I M 80 (vB V k) = 1
section
variable {M M' M'' : Mm} {x : Zt} {w : Nat → Nat} {V : Mv} {nm m s t j k : Nat}
theorem Cw.rf : Cw M M := ⟨id, fun _ _ _ _ _ => rfl, fun _ _ _ _ _ => rfl⟩
theorem Cw.tr (h : Cw M M') (h' : Cw M' M'') : Cw M M'' := ⟨fun z => h'.1 (h.1 z), fun a k h1 h2 h3 => (h'.2.1 a k h1 h2 h3).trans (h.2.1 a k h1 h2 h3), fun a k h1 h2 h3 => (h'.2.2 a k h1 h2 h3).trans (h.2.2 a k h1 h2 h3)⟩
theorem Cw.cu (h : Cu M M') : Cw M M' := ⟨h.1, fun a k _ _ _ => by rw [h.2.1], fun a k _ _ h3 => h.2.2 a k h3⟩
theorem RB.cw (h : RB x w V nm M) (hc : Cw M M') : RB x w V nm M' := by
  have f : ∀ a k, a < 78 → mm_I M' a k = mm_I M a k := fun a k ha => hc.2.1 a k (by omega) (by omega) (by omega)
  obtain ⟨⟨g1, g2, g3, g4⟩, ⟨w1, w2⟩, ho, hn, m1, m2⟩ := h
  refine ⟨⟨g1, (f _ _ (by omega)).trans g2, (f _ _ (by omega)).trans g3, fun p hp => (f _ _ (by omega)).trans (g4 p hp)⟩, ⟨w1, fun s hs => (f _ _ (by omega)).trans (w2 s hs)⟩, ho, hn, (f _ _ (by omega)).trans m1, fun m hm => ?_⟩
  obtain ⟨a0, a1, a2, a3, a4, a5, a6⟩ := m2 m hm
  exact ⟨(f _ _ (by omega)).trans a0, fun e => (f _ _ (by omega)).trans (a1 e), fun e => (f _ _ (by omega)).trans (a2 e), (f _ _ (by omega)).trans a3, (f _ _ (by omega)).trans a4, (f _ _ (by omega)).trans a5, a6.1, fun s hs t ht => (f _ _ (by omega)).trans (a6.2 s hs t ht)⟩
theorem Ck.cu (h : Cu M M') : Ck k M M' := ⟨h.1, h.2.1, fun a i _ _ h3 => h.2.2 a i h3, fun i _ => ⟨h.2.2 76 i (fun e => by omega), h.2.2 77 i (fun e => by omega)⟩⟩
theorem Ck.rf : Ck k M M := ⟨id, rfl, fun _ _ _ _ _ => rfl, fun _ _ => ⟨rfl, rfl⟩⟩
theorem Ck.tr (h : Ck k M M') (h' : Ck k M' M'') : Ck k M M'' := ⟨fun z => h'.1 (h.1 z), h'.2.1.trans h.2.1, fun a i h1 h2 h3 => (h'.2.2.1 a i h1 h2 h3).trans (h.2.2.1 a i h1 h2 h3), fun i hi => ⟨((h'.2.2.2 i hi).1).trans (h.2.2.2 i hi).1, ((h'.2.2.2 i hi).2).trans (h.2.2.2 i hi).2⟩⟩
theorem Ck.cw (h : Ck k M M') : Cw M M' := ⟨h.1, fun a i _ _ _ => by rw [h.2.1], h.2.2.1⟩
theorem KnV.ck (h : KnV x w V j M) (hx : x ∈ OKZ) (hj : j ≠ k) (hc : Ck k M M') : KnV x w V j M' := fun s hs t ht => by
  have h1 := gz_n hx hs
  have h2 := gz_n hx ht
  have e := hc.2.2.2 (256 * j + 16 * s + t) (by omega)
  rw [e.1, e.2]
  exact h s hs t ht
theorem m_want1 (K : Mm → Option Mm) (hm : m < 10) : ∀ (n i : Nat) (M : Mm), i ≤ 10 → 10 - i < n → Shp M → ∃ M', lp_X7_want_2 K 66 (nI m) n (nI i) M = K M' ∧ Shp M' ∧ mm_L M' = mm_L M ∧ (∀ a k, a ≠ 80 → mm_I M' a k = mm_I M a k) ∧ (∀ j, j < i → mm_I M' 80 j = mm_I M 80 j) ∧ ∀ j, i ≤ j → j < 10 → mm_I M' 80 j = if j = m then 1 else 0
  | 0, i, M, _, h2, _ => absurd h2 (by omega)
  | n + 1, i, M, h1, h2, h => by
    rw [lp_X7_want_2]
    by_cases e : i = 10
    · rw [if_pos (show (10 : Int32) ≤ nI i by rw [e]; decide)]
      exact ⟨M, rfl, h, rfl, fun _ _ _ => rfl, fun _ _ => rfl, fun j h3 h4 => absurd h3 (by omega)⟩
    · have e1 : (if nI i = nI m then (1 : Int32) else (0 : Int32)) = if i = m then 1 else 0 := i_e (by omega) (by omega)
      have e2 : (if i = m then (1 : Int32) else 0) = 0 ∨ (if i = m then (1 : Int32) else 0) = 1 := by by_cases q : i = m <;> simp [q]
      rw [if_neg (show ¬ (10 : Int32) ≤ nI i from nI_ge (b := 10) (by omega) (by omega)), G_66_16 h, Option.bind_some, e1, S_80 h (by omega) e2, Option.bind_some, nI_1]
      obtain ⟨M1, a1, a2, a3, a4, a5, a6⟩ := m_want1 K hm n (i + 1) (mm_wI M 80 i (if i = m then 1 else 0)) (by omega) (by omega) (sh_wI h)
      refine ⟨M1, a1, a2, a3, fun a k ha => ?_, fun j hj => ?_, fun j h3 h4 => ?_⟩
      · rw [a4 a k ha, mI_wI, if_neg (fun e => ha e.1)]
      · rw [a5 j (by omega), mI_wI, if_neg (fun e => by omega)]
      · by_cases q : j = i
        · rw [a5 j (by omega), mI_wI, if_pos ⟨rfl, q⟩, q]
        · exact a6 j (by omega) h4
def vv (j : Nat) : Int32 := if j = 0 then -1 else nI (j - 1)
theorem vv_s {j : Nat} : vv (j + 1) = nI j := if_neg (by omega)
theorem vv_p {j : Nat} : nI j + (-1) = vv j := by
  cases j with
  | zero => decide
  | succ j => rw [pk_m1, vv_s]
theorem m_want2 (hr : RB x w V nm M) (hm : m < nm) : ∀ (n j : Nat) (N : Mm), j ≤ m + 1 → j < n → Shp N → (∀ a k, a ≠ 80 → mm_I N a k = mm_I M a k) → Wnt V m j N → ∃ M', lp_X7_want_32 66 n (vv j) N = some M' ∧ Shp M' ∧ mm_L M' = mm_L N ∧ (∀ a k, a ≠ 80 → mm_I M' a k = mm_I M a k) ∧ Wnt V m 0 M'
  | 0, j, N, _, h2, _, _, _ => absurd h2 (by omega)
  | n + 1, j, N, h1, h2, h, hi, hW => by
    have hn := hr.2.2.2.1
    rw [lp_X7_want_32]
    cases j with
    | zero =>
      rw [if_pos (show vv 0 < 0 by decide)]
      exact ⟨N, rfl, h, rfl, hi, hW⟩
    | succ j =>
      have hj : j < nm := by omega
      rw [vv_s, if_neg (nI_pos (by omega)), G_66_16 h, Option.bind_some, A_80 h (by omega), Option.bind_some]
      simp only [op_jn]
      rw [vv_p]
      rcases hW.1 j (by omega) with z | z
      · rw [z, if_pos rfl]
        exact m_want2 hr hm n j N (by omega) (by omega) h hi ⟨hW.1, hW.2.1, fun k hk1 hk2 hk3 => by
          by_cases e : k = j
          · subst e; rw [z] at hk3; exact absurd hk3 (by decide)
          · exact hW.2.2 k (by omega) hk2 hk3⟩
      · obtain ⟨b0, b1, b2, -⟩ := hr.2.2.2.2.2 j hj
        obtain ⟨o1, o2, o3, -⟩ := hr.2.2.1 j hj
        have k69 : mm_I N 69 j = nI (vK V j) := (hi 69 j (by omega)).trans b0
        rw [z, if_neg (by decide), G_66_5 h, Option.bind_some, A_69 h (by omega), Option.bind_some, k69]
        by_cases e5 : vK V j < 5
        · rw [if_pos (show nI (vK V j) < (5 : Int32) from nI_lt (b := 5) e5 (by omega))]
          exact m_want2 hr hm n j N (by omega) (by omega) h hi ⟨hW.1, hW.2.1, fun k hk1 hk2 hk3 hk4 => by
            by_cases e : k = j
            · subst e; exact absurd hk4 (by omega)
            · exact hW.2.2 k (by omega) hk2 hk3 hk4⟩
        · obtain ⟨ha, hb, -⟩ := o3 (by omega)
          have k70 : mm_I N 70 j = nI (vA V j) := (hi 70 j (by omega)).trans (b1 (by omega))
          have k71 : mm_I N 71 j = nI (vB V j) := (hi 71 j (by omega)).trans (b2 (by omega))
          rw [if_neg (show ¬ nI (vK V j) < (5 : Int32) from nI_nlt (b := 5) (by omega) (by omega)), Option.bind_some, G_66_6 h, Option.bind_some, A_70 h (by omega), Option.bind_some, k70, S_80 h (by omega) (Or.inr rfl), Option.bind_some, G_66_16 (sh_wI h), Option.bind_some, G_66_7 (sh_wI h), Option.bind_some, A_71 (sh_wI h) (by omega), Option.bind_some, mI_wI, if_neg (fun e => by omega), k71, S_80 (sh_wI h) (by omega) (Or.inr rfl), Option.bind_some]
          have f : ∀ k, mm_I (mm_wI (mm_wI N 80 (vA V j) 1) 80 (vB V j) 1) 80 k = if k = vA V j ∨ k = vB V j then 1 else mm_I N 80 k := fun k => by
            rw [mI_wI]
            by_cases q : k = vB V j
            · rw [if_pos ⟨rfl, q⟩, if_pos (Or.inr q)]
            · rw [if_neg (fun e => q e.2), mI_wI]
              by_cases q2 : k = vA V j
              · rw [if_pos ⟨rfl, q2⟩, if_pos (Or.inl q2)]
              · rw [if_neg (fun e => q2 e.2), if_neg (fun e => e.elim q2 q)]
          have up : ∀ k, mm_I N 80 k = 1 → mm_I (mm_wI (mm_wI N 80 (vA V j) 1) 80 (vB V j) 1) 80 k = 1 := fun k hk => by
            rw [f k, hk]
            by_cases q : k = vA V j ∨ k = vB V j
            · rw [if_pos q]
            · rw [if_neg q]
          exact m_want2 hr hm n j _ (by omega) (by omega) (sh_wI (sh_wI h)) (fun a k ha => by rw [mI_wI, if_neg (fun e => ha e.1), mI_wI, if_neg (fun e => ha e.1)]; exact hi a k ha) ⟨fun k hk => by
            rw [f k]
            by_cases q : k = vA V j ∨ k = vB V j
            · rw [if_pos q]; exact Or.inr rfl
            · rw [if_neg q]; exact hW.1 k hk, up m hW.2.1, fun k hk1 hk2 hk3 hk4 => by
            by_cases e : k = j
            · subst e
              exact ⟨by rw [f, if_pos (Or.inl rfl)], by rw [f, if_pos (Or.inr rfl)]⟩
            · rw [f k, if_neg (fun e => by omega)] at hk3
              obtain ⟨u1, u2⟩ := hW.2.2 k (by omega) hk2 hk3 hk4
              exact ⟨up _ u1, up _ u2⟩⟩
theorem m_want (h : Shp M) (hr : RB x w V nm M) (hm : m < nm) : ∃ M', f_X7_want 66 (nI m) M = some M' ∧ Shp M' ∧ mm_L M' = mm_L M ∧ (∀ a k, a ≠ 80 → mm_I M' a k = mm_I M a k) ∧ Wnt V m 0 M' := by
  have hn := hr.2.2.2.1
  unfold f_X7_want
  obtain ⟨M1, a1, a2, a3, a4, a5, a6⟩ := m_want1 (fun (M_7 : Mm) => lp_X7_want_32 66 FU (nI m) M_7) (show m < 10 by omega) FU 0 M (by omega) (by unfold FU; omega) h
  have e1 : mm_I M1 80 m = 1 := by rw [a6 m (by omega) (by omega), if_pos rfl]
  obtain ⟨M2, b1, b2, b3, b4, b5⟩ := m_want2 hr hm FU (m + 1) M1 (by omega) (by unfold FU; omega) a2 a4 ⟨fun k hk => by
    rw [a6 k (by omega) hk]
    by_cases q : k = m
    · rw [if_pos q]; exact Or.inr rfl
    · rw [if_neg q]; exact Or.inl rfl, e1, fun k hk1 hk2 => absurd hk1 (by omega)⟩
  refine ⟨M2, ?_, b2, b3.trans a3, b4, b5⟩
  refine Eq.trans a1 ?_
  rw [vv_s] at b1
  exact b1
end
