def Cel (y : Fq) (A B : Int64) : Prop := match y with
  | some z => A = lN z.1 ∧ B = lN z.2
  | none => B = -1
def MvC (V : Mv) (nm n : Nat) (M : Mm) : Prop := mm_I M 0 5 = nI nm ∧ ∀ m, m < nm → mm_I M (7 + 5 * m) 0 = nI (vK V m) ∧ (vK V m ≠ 3 → mm_I M (7 + 5 * m) 1 = nI (vA V m)) ∧ (vK V m = 2 ∨ 5 ≤ vK V m → mm_I M (7 + 5 * m) 2 = nI (vB V m)) ∧ mm_I M (7 + 5 * m) 3 = nI (vP V m) ∧ mm_I M (7 + 5 * m) 4 = nI (vQ V m) ∧ mm_I M (7 + 5 * m) 5 = nI (vD V m) ∧ TdC m (vT V m) n M
def CaC (x : Zt) (w : Nat → Nat) (V : Mv) (nm cg : Nat) (M : Mm) : Prop := mm_I M 57 7 = nI cg ∧ cg < 2 ^ 30 ∧ (∀ m, m < 10 → ∃ r, r ≤ cg ∧ mm_I M (7 + 5 * m) 10 = nI r ∧ (nm ≤ m → r < cg)) ∧ ∀ m, m < nm → mm_I M (7 + 5 * m) 10 = nI cg → ∀ s, s < ns x → ∀ t, t < ns x → mm_L M (11 + 5 * m) (s * 16 + t) = 0 ∨ Cel (chm x w V m s t) (mm_L M (10 + 5 * m) (s * 16 + t)) (mm_L M (11 + 5 * m) (s * 16 + t))
def Kn (cg m s t : Nat) (M : Mm) : Prop := mm_I M (7 + 5 * m) 10 = nI cg ∧ mm_L M (11 + 5 * m) (s * 16 + t) ≠ 0
def Cr (M M' : Mm) : Prop := (Shp M → Shp M') ∧ (∀ a k, ¬ FS a → (∀ m, m < 10 → a = 7 + 5 * m → k ≠ 10) → mm_I M' a k = mm_I M a k) ∧ ∀ a k, ¬ FS a → (∀ m, m < 10 → a ≠ 10 + 5 * m ∧ a ≠ 11 + 5 * m) → mm_L M' a k = mm_L M a k
section
variable {M M' M'' : Mm} {x : Zt} {w : Nat → Nat} {V : Mv} {nm cg m s t q n : Nat}
theorem Cr.rf : Cr M M := ⟨id, fun _ _ _ _ => rfl, fun _ _ _ _ => rfl⟩
theorem Cr.tr (h : Cr M M') (h' : Cr M' M'') : Cr M M'' := ⟨fun z => h'.1 (h.1 z), fun a k h1 h2 => (h'.2.1 a k h1 h2).trans (h.2.1 a k h1 h2), fun a k h1 h2 => (h'.2.2 a k h1 h2).trans (h.2.2 a k h1 h2)⟩
theorem Cr.fq (h : Ch FS M M') : Cr M M' := ⟨h.1, fun a k h1 _ => h.I h1, fun a k h1 _ => h.L h1⟩
theorem Cr.I (h : Cr M M') {a k : Nat} (h1 : a < 58) (h2 : ∀ m, m < 10 → a = 7 + 5 * m → k ≠ 10) : mm_I M' a k = mm_I M a k := h.2.1 a k (nFS h1) h2
theorem GeoC.cr (h : GeoC x M) (hc : Cr M M') : GeoC x M' := ⟨h.1, (hc.I (by omega) (fun m _ e => by omega)).trans h.2.1, (hc.I (by omega) (fun m _ e => by omega)).trans h.2.2.1, fun p hp => (hc.I (by omega) (fun m _ e => by omega)).trans (h.2.2.2.1 p hp), fun p hp => (hc.I (by omega) (fun m _ e => by omega)).trans (h.2.2.2.2.1 p hp), fun s hs p hp => (hc.I (by omega) (fun m _ e => by omega)).trans (h.2.2.2.2.2 s hs p hp)⟩
theorem WtC.cr (h : WtC w M) (hc : Cr M M') : WtC w M' := ⟨h.1, fun s hs => (hc.I (by omega) (fun m _ e => by omega)).trans (h.2 s hs)⟩
theorem TdC.cr {c : Nat → Nat → Nat} (h : TdC m c n M) (hm : m < 10) (hc : Cr M M') : TdC m c n M' := ⟨h.1, fun s hs t ht => (hc.I (by omega) (fun k _ e => by omega)).trans (h.2.1 s hs t ht), fun s hs => (hc.I (by omega) (fun k _ e => by omega)).trans (h.2.2 s hs)⟩
theorem MvC.cr (h : MvC V nm n M) (hn : nm ≤ 10) (hc : Cr M M') : MvC V nm n M' := ⟨(hc.I (by omega) (fun m _ e => by omega)).trans h.1, fun m hm => by
  obtain ⟨a0, a1, a2, a3, a4, a5, a6⟩ := h.2 m hm
  have f : ∀ k, k ≠ 10 → mm_I M' (7 + 5 * m) k = mm_I M (7 + 5 * m) k := fun k hk => hc.I (by omega) (fun _ _ _ => hk)
  exact ⟨(f 0 (by omega)).trans a0, fun e => (f 1 (by omega)).trans (a1 e), fun e => (f 2 (by omega)).trans (a2 e), (f 3 (by omega)).trans a3, (f 4 (by omega)).trans a4, (f 5 (by omega)).trans a5, a6.cr (by omega) hc⟩⟩
theorem CaC.fq (h : CaC x w V nm cg M) (hn : nm ≤ 10) (hc : Ch FS M M') : CaC x w V nm cg M' := by
  obtain ⟨a1, a2, a3, a4⟩ := h
  refine ⟨(hc.I (nFS (by omega))).trans a1, a2, fun m hm => ?_, fun m hm he s hs t ht => ?_⟩
  · obtain ⟨r, r1, r2, r3⟩ := a3 m hm
    exact ⟨r, r1, (hc.I (nFS (by omega))).trans r2, r3⟩
  · rw [hc.L (nFS (by omega)), hc.L (nFS (by omega))]
    rw [hc.I (nFS (by omega))] at he
    exact a4 m hm he s hs t ht
theorem Kn.fq (h : Kn cg m s t M) (hm : m < 10) (hc : Ch FS M M') : Kn cg m s t M' := ⟨(hc.I (nFS (by omega))).trans h.1, by rw [hc.L (nFS (by omega))]; exact h.2⟩
theorem p_fillL_l {v : Int64} (hq : q < 83) (hk : KK q = 101) : ∀ (k i : Nat) (M : Mm), i ≤ SS q → SS q - i < k → Shp M → ∃ M', lp_J7_fill_d0a16_6 q v (nI (SS q)) k (nI i) M = some M' ∧ Shp M' ∧ mm_I M' = mm_I M ∧ (∀ a j, a ≠ q → mm_L M' a j = mm_L M a j) ∧ (∀ j, j < i → mm_L M' q j = mm_L M q j) ∧ ∀ j, i ≤ j → j < SS q → mm_L M' q j = v
  | 0, i, M, _, h2, _ => absurd h2 (by omega)
  | k + 1, i, M, h1, h2, h => by
    have hlt := SS_lt q hq
    rw [lp_J7_fill_d0a16_6]
    by_cases e : i = SS q
    · rw [if_pos (nI_le (by omega) (by omega))]
      exact ⟨M, rfl, h, rfl, fun _ _ _ => rfl, fun _ _ => rfl, fun j h3 h4 => absurd h3 (by omega)⟩
    · rw [if_neg (nI_ge (by omega) (by omega)), sh_sL h hq hk (by omega), Option.bind_some, nI_1]
      obtain ⟨M1, a1, a2, a3, a4, a5, a6⟩ := p_fillL_l (v := v) hq hk k (i + 1) (mm_wL M q i v) (by omega) (by omega) (sh_wL h)
      refine ⟨M1, a1, a2, a3, fun a j ha => ?_, fun j hj => ?_, fun j h3 h4 => ?_⟩
      · rw [a4 a j ha, mL_wL, if_neg (fun e => ha e.1)]
      · rw [a5 j (by omega), mL_wL, if_neg (fun e => by omega)]
      · by_cases e2 : j = i
        · rw [a5 j (by omega), mL_wL, if_pos ⟨rfl, e2⟩]
        · exact a6 j (by omega) h4
theorem p_fillL {v : Int64} (h : Shp M) (hq : q < 83) (hk : KK q = 101) : ∃ M', f_J7_fill_d0a16 q v M = some M' ∧ Shp M' ∧ mm_I M' = mm_I M ∧ (∀ a j, a ≠ q → mm_L M' a j = mm_L M a j) ∧ ∀ j, j < SS q → mm_L M' q j = v := by
  unfold f_J7_fill_d0a16
  rw [sh_n h hq hk (by omega) (by omega), Option.bind_some]
  obtain ⟨M1, a1, a2, a3, a4, a5, a6⟩ := p_fillL_l (v := v) hq hk FU 0 M (by omega) (by have : SS q ≤ 3000 := (show ∀ q, q < 83 → SS q ≤ 3000 by decide) q hq; unfold FU; omega) h
  exact ⟨M1, a1, a2, a3, a4, fun j hj => a6 j (by omega) hj⟩
theorem p_freshen (h : Shp M) (hx : x ∈ OKZ) (hca : CaC x w V nm cg M) (hn : nm ≤ 10) (hm : m < nm) : ∃ M', f_X2_freshen (7 + 5 * m) (nI cg) M = some M' ∧ CaC x w V nm cg M' ∧ mm_I M' (7 + 5 * m) 10 = nI cg ∧ (∀ a b c, a < 10 → Kn cg a b c M → Kn cg a b c M') ∧ (∀ a, a < 10 → mm_I M (7 + 5 * a) 10 = nI cg → mm_I M' (7 + 5 * a) 10 = nI cg) ∧ Cr M M' := by
  have hm10 : m < 10 := by omega
  obtain ⟨a1, a2, a3, a4⟩ := hca
  obtain ⟨r, r1, r2, r3⟩ := a3 m hm10
  unfold f_X2_freshen
  rw [G_m_10 h hm10, Option.bind_some, r2]
  by_cases e : r = cg
  · rw [if_pos (by rw [e])]
    exact ⟨M, rfl, ⟨a1, a2, a3, a4⟩, by rw [r2, e], fun _ _ _ _ k => k, fun _ _ k => k, Cr.rf⟩
  · obtain ⟨M1, b1, b2, b3, b4, b5⟩ := p_fillL (v := 0) h (show 11 + 5 * m < 83 by omega) (mv_K m hm10).2.2.2.2.1
    rw [if_neg (fun q => e ((nI_eq (by omega) (by omega)).mp q)), G_m_9 h hm10, Option.bind_some, b1, Option.bind_some, P_m_10 b2 hm10, Option.bind_some]
    have hz : SS (11 + 5 * m) = 256 := (mv_K m hm10).2.2.2.2.2.2.2.2
    have iM : ∀ a k, ¬ (a = 7 + 5 * m ∧ k = 10) → mm_I (mm_wI M1 (7 + 5 * m) 10 (nI cg)) a k = mm_I M a k := fun a k hk => by rw [mI_wI, if_neg hk, b3]
    refine ⟨_, rfl, ⟨?_, a2, ?_, ?_⟩, ?_, ?_, ?_, ?_⟩
    · rw [iM _ _ (fun q => by omega)]; exact a1
    · intro m' hm'
      by_cases em : m' = m
      · subst em
        exact ⟨cg, Nat.le_refl _, by rw [mI_wI, if_pos ⟨rfl, rfl⟩], fun hh => by omega⟩
      · obtain ⟨r', q1, q2, q3⟩ := a3 m' hm'
        exact ⟨r', q1, by rw [iM _ _ (fun q => by omega)]; exact q2, q3⟩
    · intro m' hm' he s hs t ht
      by_cases em : m' = m
      · subst em
        refine Or.inl ?_
        show mm_L M1 (11 + 5 * m') (s * 16 + t) = 0
        exact b5 _ (by rw [hz]; have := gz_n hx hs; have := gz_n hx ht; omega)
      · rw [iM _ _ (fun q => by omega)] at he
        show mm_L M1 (11 + 5 * m') (s * 16 + t) = 0 ∨ Cel _ (mm_L M1 (10 + 5 * m') (s * 16 + t)) (mm_L M1 (11 + 5 * m') (s * 16 + t))
        rw [b4 _ _ (by omega), b4 _ _ (by omega)]
        exact a4 m' hm' he s hs t ht
    · rw [mI_wI, if_pos ⟨rfl, rfl⟩]
    · intro a b c ha hk
      by_cases em : a = m
      · subst em
        exact absurd hk.1 (by rw [r2]; exact fun q => e ((nI_eq (by omega) (by omega)).mp q))
      · exact ⟨by rw [iM _ _ (fun q => by omega)]; exact hk.1, by show mm_L M1 (11 + 5 * a) (b * 16 + c) ≠ 0; rw [b4 _ _ (by omega)]; exact hk.2⟩
    · intro a ha hk
      by_cases em : a = m
      · subst em
        rw [mI_wI, if_pos ⟨rfl, rfl⟩]
      · rw [iM _ _ (fun q => by omega)]; exact hk
    · exact ⟨fun _ => sh_wI b2, fun a k _ h2 => iM a k (fun q => h2 m hm10 q.1 q.2), fun a k _ h2 => b4 a k (h2 m hm10).2⟩
end
