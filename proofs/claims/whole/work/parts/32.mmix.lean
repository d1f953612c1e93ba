def KnV (x : Zt) (w : Nat → Nat) (V : Mv) (j : Nat) (M : Mm) : Prop := ∀ s, s < ns x → ∀ t, t < ns x → Ar (chm x w V j s t) (mm_L M 76 (256 * j + 16 * s + t)) (mm_L M 77 (256 * j + 16 * s + t))
def MvM (V : Mv) (nm : Nat) (M : Mm) : Prop := mm_I M 66 4 = nI nm ∧ ∀ m, m < nm → mm_I M 69 m = nI (vK V m) ∧ (vK V m ≠ 3 → mm_I M 70 m = nI (vA V m)) ∧ (vK V m = 2 ∨ 5 ≤ vK V m → mm_I M 71 m = nI (vB V m)) ∧ mm_I M 73 m = nI (vP V m) ∧ mm_I M 74 m = nI (vQ V m) ∧ mm_I M 72 m = nI (vD V m) ∧ TdM m (vT V m) M
def RB (x : Zt) (w : Nat → Nat) (V : Mv) (nm : Nat) (M : Mm) : Prop := GeoM x M ∧ WtM w M ∧ okV x V nm ∧ nm ≤ 10 ∧ MvM V nm M
section
variable {M M' M'' : Mm} {x : Zt} {w : Nat → Nat} {V : Mv} {nm m s t j k : Nat}
theorem KnV.cu (h : KnV x w V j M) (hc : Cu M M') : KnV x w V j M' := fun s hs t ht => by
  rw [hc.2.2 76 _ (fun e => by omega), hc.2.2 77 _ (fun e => by omega)]
  exact h s hs t ht
theorem MvM.cu (h : MvM V nm M) (hc : Cu M M') : MvM V nm M' := by
  unfold MvM TdM
  rw [hc.2.1]
  exact h
theorem RB.cu (h : RB x w V nm M) (hc : Cu M M') : RB x w V nm M' := ⟨h.1.cu hc, h.2.1.cu hc, h.2.2.1, h.2.2.2.1, h.2.2.2.2.cu hc⟩
theorem m_at {a b c : Nat} : f_X7_at 66 (nI a) (nI b) (nI c) = some (nI (256 * a + 16 * b + c)) := by
  unfold f_X7_at
  rw [e_at]
theorem at_lt (hx : x ∈ OKZ) (hj : j < 10) (hs : s < ns x) (ht : t < ns x) : 256 * j + 16 * s + t < 2560 := by
  have := gz_n hx hs
  have := gz_n hx ht
  omega
theorem m_mixed (h : Shp M) (hr : RB x w V nm M) (hm : m < nm) (hs : s < ns x) (ht : t < ns x) (h5 : vK V m = 5) (hA : KnV x w V (vA V m) M) (hB : KnV x w V (vB V m) M) : ∃ M', f_X7_mixedChance 66 (nI m) (nI s) (nI t) M = some M' ∧ FrM (chm x w V m s t) M' ∧ Cu M M' := by
  have hx := hr.1.1
  have hw := hr.2.1.1
  have ho := hr.2.2.1
  have hn := hr.2.2.2.1
  have hm10 : m < 10 := by omega
  obtain ⟨-, -, o3, o4, ⟨p1, p2, q1, q2⟩, -⟩ := ho m hm
  obtain ⟨ha, hb, hdd⟩ := o3 (by omega)
  have la := at_lt hx (show vA V m < 10 by omega) hs ht
  have lb := at_lt hx (show vB V m < 10 by omega) hs ht
  have fa : ∀ {N : Mm}, RB x w V nm N → mm_I N 70 m = nI (vA V m) ∧ mm_I N 71 m = nI (vB V m) ∧ mm_I N 73 m = nI (vP V m) ∧ mm_I N 74 m = nI (vQ V m) := fun hN => by
    obtain ⟨-, b1, b2, b3, b4, -⟩ := hN.2.2.2.2.2 m hm
    exact ⟨b1 (by omega), b2 (by omega), b3, b4⟩
  have l1ok : frok (some (low (vP V m) (vP V m + vQ V m))) := low_ok (by omega) (by omega) (by omega)
  have l2ok : frok (some (low (vQ V m) (vP V m + vQ V m))) := low_ok (by omega) (by omega) (by omega)
  have okA := chm_ok hx hw ho (show vA V m < nm by omega) hs ht
  have okB := chm_ok hx hw ho (show vB V m < nm by omega) hs ht
  have s1 : f_X7_lay 66 (nI (vP V m)).toInt64 ((nI (vP V m) + nI (vQ V m)).toInt64) M = some (stM M (low (vP V m) (vP V m + vQ V m))) := by
    rw [nI_add, nI_l (by omega), nI_l (by omega), m_lay h (by omega) (by omega) (by omega)]
  have c1 : Cu M (stM M (low (vP V m) (vP V m + vQ V m))) := stM_c
  have e1 : FrM (some (low (vP V m) (vP V m + vQ V m))) (stM M (low (vP V m) (vP V m + vQ V m))) := stM_r
  generalize stM M (low (vP V m) (vP V m + vQ V m)) = M1 at s1 c1 e1
  have h1 := c1.1 h
  have r1 := hr.cu c1
  obtain ⟨M2, a1, a2, a3⟩ := m_times h1 e1 ((hA.cu c1) s hs t ht) l1ok okA
  have h2 := a3.1 h1
  have r2 := r1.cu a3
  have s3 : f_X7_lay 66 (nI (vQ V m)).toInt64 ((nI (vP V m) + nI (vQ V m)).toInt64) M2 = some (stM M2 (low (vQ V m) (vP V m + vQ V m))) := by
    rw [nI_add, nI_l (by omega), nI_l (by omega), m_lay h2 (by omega) (by omega) (by omega)]
  have c3 : Cu M2 (stM M2 (low (vQ V m) (vP V m + vQ V m))) := stM_c
  have e3 : FrM (some (low (vQ V m) (vP V m + vQ V m))) (stM M2 (low (vQ V m) (vP V m + vQ V m))) := stM_r
  generalize stM M2 (low (vQ V m) (vP V m + vQ V m)) = M3 at s3 c3 e3
  have h3 := c3.1 h2
  have r3 := r2.cu c3
  obtain ⟨M4, b1, b2, b3⟩ := m_times h3 e3 ((hB.cu ((c1.tr a3).tr c3)) s hs t ht) l2ok okB
  have h4 := b3.1 h3
  have c5 : Cu M4 (mm_wL (mm_wL M4 66 21 (mm_L M2 66 21)) 66 22 (mm_L M2 66 22)) := Cu_put
  have e5 : FrM (fmul (some (low (vP V m) (vP V m + vQ V m))) (chm x w V (vA V m) s t)) (mm_wL (mm_wL M4 66 21 (mm_L M2 66 21)) 66 22 (mm_L M2 66 22)) := Fr_put (Ar_of a2)
  have h5' := c5.1 h4
  obtain ⟨M6, d1, d2, d3⟩ := m_and h5' e5 (Ar_of b2) (fmul_ok l1ok okA) (fmul_ok l2ok okB) (sg := 0) (Or.inl ⟨rfl, rfl⟩)
  refine ⟨M6, ?_, by rw [chm_5 ho hm h5]; exact d2, ((((c1.tr a3).tr c3).tr b3).tr c5).tr d3⟩
  unfold f_X7_mixedChance
  rw [G_66_9 h, Option.bind_some, A_73 h hm10, Option.bind_some, G_66_10 h, Option.bind_some, A_74 h hm10, Option.bind_some, I_66 h, Option.bind_some, (fa hr).2.2.1, (fa hr).2.2.2, s1, Option.bind_some, G_66_12 h1, Option.bind_some, G_66_6 h1, Option.bind_some, A_70 h1 hm10, Option.bind_some, I_66 h1, Option.bind_some, (fa r1).1, m_at, Option.bind_some, A_76 h1 la, Option.bind_some, G_66_13 h1, Option.bind_some, Option.bind_some, A_70 h1 hm10, Option.bind_some, Option.bind_some, (fa r1).1, m_at, Option.bind_some, A_77 h1 la, Option.bind_some, Option.bind_some, a1, Option.bind_some, G_66_21 h2, Option.bind_some, G_66_22 h2, Option.bind_some, I_66 h2, Option.bind_some, s3, Option.bind_some, G_66_12 h3, Option.bind_some, G_66_7 h3, Option.bind_some, A_71 h3 hm10, Option.bind_some, I_66 h3, Option.bind_some, (fa r3).2.1, m_at, Option.bind_some, A_76 h3 lb, Option.bind_some, G_66_13 h3, Option.bind_some, Option.bind_some, A_71 h3 hm10, Option.bind_some, Option.bind_some, (fa r3).2.1, m_at, Option.bind_some, A_77 h3 lb, Option.bind_some, Option.bind_some, b1, Option.bind_some, G_66_21 h4, Option.bind_some, G_66_22 h4, Option.bind_some, P_66_21 h4, Option.bind_some, P_66_22 (sh_wL h4), Option.bind_some, I_66 h5', Option.bind_some, d1, Option.bind_some]
theorem m_takes (h : Shp M) (hj : j < 2560) : f_X7_takes 66 (nI j) M = some (mm_wL (mm_wL M 66 21 (mm_L M 76 j)) 66 22 (mm_L M 77 j)) := by
  unfold f_X7_takes
  rw [G_66_12 h, Option.bind_some, A_76 h hj, Option.bind_some, P_66_21 h, Option.bind_some, G_66_13 (sh_wL h), Option.bind_some, A_77 (sh_wL h) hj, Option.bind_some, P_66_22 (sh_wL h), Option.bind_some, mL_wL, if_neg (fun e => by omega)]
theorem m_cyc (K : Int64 → Int64 → Mm → Option Mm) (hm : m < nm) (hs : s < ns x) (ht : t < ns x) (h6 : vK V m = 6) : ∀ (k r : Nat) (A B : Int64) (M : Mm), r ≤ ns x → ns x - r < k → Shp M → RB x w V nm M → KnV x w V (vA V m) M → KnV x w V (vB V m) M → Ar (cyc (fun r => chm x w V (vA V m) s r) (fun r => chm x w V (vB V m) r t) r) A B → ∃ A' B' M', lp_X7_cycleChance_9 K 66 (nI m) (nI s) (nI t) k A B (nI r) M = K A' B' M' ∧ Ar (cyc (fun r => chm x w V (vA V m) s r) (fun r => chm x w V (vB V m) r t) (ns x)) A' B' ∧ Cu M M'
  | 0, r, A, B, M, _, h2, _, _, _, _, _ => absurd h2 (by omega)
  | k + 1, r, A, B, M, h1, h2, h, hr, hA, hB, hf => by
    have hx := hr.1.1
    have hw := hr.2.1.1
    have ho := hr.2.2.1
    have hn := hr.2.2.2.1
    have hm10 : m < 10 := by omega
    have h16 := (gz_1 x hx).2.1
    obtain ⟨ha, hb, hdd⟩ := (ho m hm).2.2.1 (by omega)
    have fa : ∀ {N : Mm}, RB x w V nm N → mm_I N 70 m = nI (vA V m) ∧ mm_I N 71 m = nI (vB V m) := fun hN => by
      obtain ⟨-, b1, b2, -⟩ := hN.2.2.2.2.2 m hm
      exact ⟨b1 (by omega), b2 (by omega)⟩
    rw [lp_X7_cycleChance_9, G_66_2 h, Option.bind_some, hr.1.2.2.1]
    by_cases e : r = ns x
    · rw [if_pos (nI_le (by omega) (by omega))]
      subst e
      exact ⟨A, B, M, rfl, hf, Cu.rf⟩
    · have hlt : r < ns x := by omega
      rw [if_neg (nI_ge hlt (by omega))]
      have okc : frok (cyc (fun r => chm x w V (vA V m) s r) (fun r => chm x w V (vB V m) r t) r) := cyc_ok r (fun u hu => chm_ok hx hw ho (by omega) hs (by omega)) (fun u hu => chm_ok hx hw ho (by omega) (by omega) ht)
      cases hy : cyc (fun r => chm x w V (vA V m) s r) (fun r => chm x w V (vB V m) r t) r with
      | none =>
        rw [hy] at hf
        rw [if_pos (show B ≤ (0 : Int64) by rw [show B = 0 from hf]; decide)]
        exact ⟨A, B, M, rfl, by rw [cyc_none (by omega) hy]; exact hf, Cu.rf⟩
      | some z =>
        obtain ⟨a, b⟩ := z
        have hB0 : B = lN b := by rw [hy] at hf; exact hf.2
        obtain ⟨z1, z2, z3, z4⟩ := okc a b hy
        have la := at_lt hx (show vA V m < 10 by omega) hs hlt
        have lb := at_lt hx (show vB V m < 10 by omega) hlt ht
        have c1 : Cu M (mm_wL (mm_wL M 66 21 (mm_L M 76 (256 * vA V m + 16 * s + r))) 66 22 (mm_L M 77 (256 * vA V m + 16 * s + r))) := Cu_put
        have e1 : FrM (chm x w V (vA V m) s r) (mm_wL (mm_wL M 66 21 (mm_L M 76 (256 * vA V m + 16 * s + r))) 66 22 (mm_L M 77 (256 * vA V m + 16 * s + r))) := Fr_put (hA s hs r hlt)
        have s1 := m_takes h la
        generalize mm_wL (mm_wL M 66 21 (mm_L M 76 (256 * vA V m + 16 * s + r))) 66 22 (mm_L M 77 (256 * vA V m + 16 * s + r)) = M1 at c1 e1 s1
        have h1' := c1.1 h
        have r1 := hr.cu c1
        obtain ⟨M2, a1, a2, a3⟩ := m_times h1' e1 ((hB.cu c1) r hlt t ht) (chm_ok hx hw ho (by omega) hs hlt) (chm_ok hx hw ho (by omega) hlt ht)
        have h2' := a3.1 h1'
        have c3 : Cu M2 (mm_wL (mm_wL M2 66 21 A) 66 22 B) := Cu_put
        have h3' := c3.1 h2'
        obtain ⟨M4, b1, b2, b3⟩ := m_and h3' (Fr_put hf) (Ar_of a2) okc (fmul_ok (chm_ok hx hw ho (by omega) hs hlt) (chm_ok hx hw ho (by omega) hlt ht)) (sg := 0) (Or.inl ⟨rfl, rfl⟩)
        have h4' := b3.1 h3'
        have call := ((c1.tr a3).tr c3).tr b3
        rw [if_neg (show ¬ B ≤ (0 : Int64) by rw [hB0, l0, pk_lLE z2 (by decide)]; omega), G_66_6 h, Option.bind_some, A_70 h hm10, Option.bind_some, I_66 h, Option.bind_some, (fa hr).1, m_at, Option.bind_some, Option.bind_some, s1, Option.bind_some, G_66_12 h1', Option.bind_some, G_66_7 h1', Option.bind_some, A_71 h1' hm10, Option.bind_some, I_66 h1', Option.bind_some, (fa r1).2, m_at, Option.bind_some, A_76 h1' lb, Option.bind_some, G_66_13 h1', Option.bind_some, Option.bind_some, A_71 h1' hm10, Option.bind_some, Option.bind_some, (fa r1).2, m_at, Option.bind_some, A_77 h1' lb, Option.bind_some, Option.bind_some, a1, Option.bind_some, G_66_21 h2', Option.bind_some, G_66_22 h2', Option.bind_some, P_66_21 h2', Option.bind_some, P_66_22 (sh_wL h2'), Option.bind_some, I_66 h3', Option.bind_some, b1, Option.bind_some, G_66_21 h4', Option.bind_some, G_66_22 h4', Option.bind_some, nI_1]
        obtain ⟨A5, B5, M5, d1, d2, d3⟩ := m_cyc K hm hs ht h6 k (r + 1) (mm_L M4 66 21) (mm_L M4 66 22) M4 (by omega) (by omega) h4' (hr.cu call) (hA.cu call) (hB.cu call) (Ar_of b2)
        exact ⟨A5, B5, M5, d1, d2, call.tr d3⟩
theorem m_cycle (h : Shp M) (hr : RB x w V nm M) (hm : m < nm) (hs : s < ns x) (ht : t < ns x) (h6 : vK V m = 6) (hA : KnV x w V (vA V m) M) (hB : KnV x w V (vB V m) M) : ∃ M', f_X7_cycleChance 66 (nI m) (nI s) (nI t) M = some M' ∧ FrM (chm x w V m s t) M' ∧ Cu M M' := by
  have h16 := (gz_1 x hr.1.1).2.1
  unfold f_X7_cycleChance
  obtain ⟨A, B, M1, a1, a2, a3⟩ := m_cyc (fun (l_27_4 : Int64) (l_27_6 : Int64) (M_27 : Mm) => (op_pL M_27 7 66 21 l_27_4).bind fun M_28 => (op_pL M_28 7 66 22 l_27_6).bind fun M_29 => some M_29) hm hs ht h6 FU 0 (0 : Int64) (1 : Int64) M (by omega) (by unfold FU; omega) h hr hA hB ⟨rfl, rfl⟩
  have h1 := a3.1 h
  refine ⟨mm_wL (mm_wL M1 66 21 A) 66 22 B, ?_, by rw [chm_6 hr.2.2.1 hm h6]; exact Fr_put a2, a3.tr Cu_put⟩
  refine Eq.trans a1 ?_
  show (op_pL M1 7 66 21 A).bind (fun M_28 => (op_pL M_28 7 66 22 B).bind fun M_29 => some M_29) = _
  rw [P_66_21 h1, Option.bind_some, P_66_22 (sh_wL h1), Option.bind_some]
end
