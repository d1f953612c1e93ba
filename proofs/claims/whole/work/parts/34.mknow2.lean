section
variable {M M' M'' : Mm} {x : Zt} {w : Nat → Nat} {V : Mv} {nm m s t j k : Nat}
/-- one chance of move k into up and down, whatever its kind -/
theorem m_kn50 (K : Mm → Option Mm) (i1 : Int32) (hk : k < nm) (hs : s < ns x) : ∀ (n t : Nat) (M : Mm), t ≤ ns x → ns x - t < n → Shp M → RB x w V nm M → (5 ≤ vK V k → KnV x w V (vA V k) M ∧ KnV x w V (vB V k) M) → KnP x w V k s t M → ∃ M', lp_X7_know_50 K 66 i1 (nI k) (nI s) n (nI t) M = K M' ∧ KnP x w V k s (ns x) M' ∧ Ck k M M'
  | 0, t, M, _, h2, _, _, _, _ => absurd h2 (by omega)
  | n + 1, t, M, h1, h2, h, hr, hsub, hp => by
    have hx := hr.1.1
    have ho := hr.2.2.1
    have hn := hr.2.2.2.1
    have h16 := (gz_1 x hx).2.1
    have hk10 : k < 10 := by omega
    have hs16 := gz_n hx hs
    obtain ⟨o1, o2, o3, o4, o5, o6⟩ := ho k hk
    obtain ⟨b0, b1, b2, b3, b4, b5, b6⟩ := hr.2.2.2.2.2 k hk
    rw [lp_X7_know_50, G_66_2 h, Option.bind_some, hr.1.2.2.1]
    by_cases e : t = ns x
    · rw [if_pos (nI_le (by omega) (by omega))]
      subst e
      exact ⟨M, rfl, hp, Ck.rf⟩
    · have hlt : t < ns x := by omega
      have ht16 := gz_n hx hlt
      rw [if_neg (nI_ge hlt (by omega)), G_66_5 h, Option.bind_some, A_69 h hk10, Option.bind_some, b0]
      simp only [op_jn]
      have fin : ∀ {M1 : Mm}, Cu M M1 → FrM (chm x w V k s t) M1 → ∃ M', ((op_gR M1 7 66 12).bind fun x_26 => (op_is M1 66 7).bind fun _ => (f_X7_at 66 (nI k) (nI s) (nI t)).bind fun z_27 => (op_gL M1 7 66 21).bind fun x_28 => (op_sL M1 x_26 z_27 x_28).bind fun M_29 => (op_gR M_29 7 66 13).bind fun x_30 => (op_is M_29 66 7).bind fun _ => (f_X7_at 66 (nI k) (nI s) (nI t)).bind fun z_31 => (op_gL M_29 7 66 22).bind fun x_32 => (op_sL M_29 x_30 z_31 x_32).bind fun M_33 => lp_X7_know_50 K 66 i1 (nI k) (nI s) n (nI t + 1) M_33) = K M' ∧ KnP x w V k s (ns x) M' ∧ Ck k M M' := by
        intro M1 c1 hf
        have h1' := c1.1 h
        have hl := at_lt hx hk10 hs hlt
        rw [G_66_12 h1', Option.bind_some, I_66 h1', Option.bind_some, m_at, Option.bind_some, G_66_21 h1', Option.bind_some, S_76 h1' hl, Option.bind_some, G_66_13 (sh_wL h1'), Option.bind_some, I_66 (sh_wL h1'), Option.bind_some, Option.bind_some, G_66_22 (sh_wL h1'), Option.bind_some, S_77 (sh_wL h1') hl, Option.bind_some, nI_1]
        have e22 : mm_L (mm_wL M1 76 (256 * k + 16 * s + t) (mm_L M1 66 21)) 66 22 = mm_L M1 66 22 := by rw [mL_wL, if_neg (fun e => by omega)]
        rw [e22]
        have fL : ∀ a i, ¬ (a = 76 ∧ i = 256 * k + 16 * s + t) → ¬ (a = 77 ∧ i = 256 * k + 16 * s + t) → mm_L (mm_wL (mm_wL M1 76 (256 * k + 16 * s + t) (mm_L M1 66 21)) 77 (256 * k + 16 * s + t) (mm_L M1 66 22)) a i = mm_L M1 a i := fun a i q1 q2 => by rw [mL_wL, if_neg q2, mL_wL, if_neg q1]
        have f76 : mm_L (mm_wL (mm_wL M1 76 (256 * k + 16 * s + t) (mm_L M1 66 21)) 77 (256 * k + 16 * s + t) (mm_L M1 66 22)) 76 (256 * k + 16 * s + t) = mm_L M1 66 21 := by rw [mL_wL, if_neg (fun e => by omega), mL_wL, if_pos ⟨rfl, rfl⟩]
        have f77 : mm_L (mm_wL (mm_wL M1 76 (256 * k + 16 * s + t) (mm_L M1 66 21)) 77 (256 * k + 16 * s + t) (mm_L M1 66 22)) 77 (256 * k + 16 * s + t) = mm_L M1 66 22 := by rw [mL_wL, if_pos ⟨rfl, rfl⟩]
        have c2 : Ck k M1 (mm_wL (mm_wL M1 76 (256 * k + 16 * s + t) (mm_L M1 66 21)) 77 (256 * k + 16 * s + t) (mm_L M1 66 22)) := ⟨fun z => z, rfl, fun a i q1 q2 _ => fL a i (fun e => q1 e.1) (fun e => q2 e.1), fun i hi => ⟨fL 76 i (fun e => by omega) (fun e => by omega), fL 77 i (fun e => by omega) (fun e => by omega)⟩⟩
        have c12 : Ck k M (mm_wL (mm_wL M1 76 (256 * k + 16 * s + t) (mm_L M1 66 21)) 77 (256 * k + 16 * s + t) (mm_L M1 66 22)) := (Ck.cu c1).tr c2
        have hp2 : KnP x w V k s (t + 1) (mm_wL (mm_wL M1 76 (256 * k + 16 * s + t) (mm_L M1 66 21)) 77 (256 * k + 16 * s + t) (mm_L M1 66 22)) := fun u hu v hv huv => by
          have hu16 := gz_n hx hu
          have hv16 := gz_n hx hv
          by_cases q : u = s ∧ v = t
          · obtain ⟨rfl, rfl⟩ := q
            rw [f76, f77]
            exact Ar_of hf
          · rw [fL 76 _ (fun e => q (by omega)) (fun e => by omega), fL 77 _ (fun e => by omega) (fun e => q (by omega)), c1.2.2 76 _ (fun e => by omega), c1.2.2 77 _ (fun e => by omega)]
            exact hp u hu v hv (by omega)
        obtain ⟨M3, d1, d2, d3⟩ := m_kn50 K i1 hk hs n (t + 1) _ (by omega) (by omega) (c12.1 h) (hr.cw c12.cw) (fun e5 => ⟨(hsub e5).1.ck hx (by have := (o3 e5).1; omega) c12, (hsub e5).2.ck hx (by have := (o3 e5).2.1; omega) c12⟩) hp2
        exact ⟨M3, d1, d2, c12.tr d3⟩
      by_cases e5 : vK V k = 5
      · obtain ⟨M1, a1, a2, a3⟩ := m_mixed h hr hk hs hlt e5 (hsub (by omega)).1 (hsub (by omega)).2
        rw [if_pos (show nI (vK V k) = (5 : Int32) by rw [e5]; rfl), I_66 h, Option.bind_some, a1, Option.bind_some]
        exact fin a3 a2
      · rw [if_neg (show ¬ nI (vK V k) = (5 : Int32) from fun q => e5 ((nI_eq (b := 5) (by omega) (by omega)).mp q)), Option.bind_some, A_69 h hk10, Option.bind_some, b0]
        by_cases e6 : vK V k = 6
        · obtain ⟨M1, a1, a2, a3⟩ := m_cycle h hr hk hs hlt e6 (hsub (by omega)).1 (hsub (by omega)).2
          rw [if_pos (show nI (vK V k) = (6 : Int32) by rw [e6]; rfl), I_66 h, Option.bind_some, a1, Option.bind_some]
          exact fin a3 a2
        · have hlt5 : vK V k < 5 := by omega
          obtain ⟨M1, a1, a2, a3⟩ := m_plain (a := vA V k) (b := vB V k) (c := vT V k) h hr.1 hr.2.1 hk10 hs hlt b0 rfl rfl ⟨hlt5, fun q => ⟨(o2 hlt5).2.1 q, b1 q⟩, fun q => ⟨((o2 hlt5).2.2 q).1, b2 (Or.inl q), ((o2 hlt5).2.2 q).2.1, ((o2 hlt5).2.2 q).2.2⟩⟩ (fun _ => b6)
          rw [if_neg (show ¬ nI (vK V k) = (6 : Int32) from fun q => e6 ((nI_eq (b := 6) (by omega) (by omega)).mp q)), I_66 h, Option.bind_some, a1, Option.bind_some]
          exact fin a3 (by rw [chm_p ho hk hlt5]; exact a2)
theorem m_kn39 (K : Mm → Option Mm) (i1 : Int32) (hk : k < nm) : ∀ (n s : Nat) (M : Mm), s ≤ ns x → ns x - s < n → Shp M → RB x w V nm M → (5 ≤ vK V k → KnV x w V (vA V k) M ∧ KnV x w V (vB V k) M) → KnP x w V k s 0 M → ∃ M', lp_X7_know_39 K 66 i1 (nI k) n (nI s) M = K M' ∧ KnV x w V k M' ∧ Ck k M M'
  | 0, s, M, _, h2, _, _, _, _ => absurd h2 (by omega)
  | n + 1, s, M, h1, h2, h, hr, hsub, hp => by
    have hx := hr.1.1
    have ho := hr.2.2.1
    have h16 := (gz_1 x hx).2.1
    obtain ⟨o1, o2, o3, -⟩ := ho k hk
    rw [lp_X7_know_39, G_66_2 h, Option.bind_some, hr.1.2.2.1]
    by_cases e : s = ns x
    · rw [if_pos (nI_le (by omega) (by omega))]
      subst e
      exact ⟨M, rfl, fun u hu v hv => hp u hu v hv (Or.inl hu), Ck.rf⟩
    · have hlt : s < ns x := by omega
      obtain ⟨M1, a1, a2, a3⟩ := m_kn50 (fun (M_35 : Mm) => lp_X7_know_39 K 66 i1 (nI k) n (nI s + 1) M_35) i1 hk hlt FU 0 M (by omega) (by unfold FU; omega) h hr hsub hp
      rw [if_neg (nI_ge hlt (by omega))]
      obtain ⟨M2, b1, b2, b3⟩ := m_kn39 K i1 hk n (s + 1) M1 (by omega) (by omega) (a3.1 h) (hr.cw a3.cw) (fun e5 => ⟨(hsub e5).1.ck hx (by have := (o3 e5).1; omega) a3, (hsub e5).2.ck hx (by have := (o3 e5).2.1; omega) a3⟩) (fun u hu v hv huv => a2 u hu v hv (by omega))
      refine ⟨M2, ?_, b2, a3.tr b3⟩
      refine Eq.trans a1 ?_
      show lp_X7_know_39 K 66 i1 (nI k) n (nI s + 1) M1 = K M2
      rw [nI_1]
      exact b1
theorem m_kn7 (hm : m < nm) : ∀ (n k : Nat) (M : Mm), k ≤ m + 1 → m + 1 - k < n → Shp M → RB x w V nm M → CaM x w V nm M → Wnt V m 0 M → (∀ j, j < k → mm_I M 80 j = 1 → KnV x w V j M) → ∃ M', lp_X7_know_7 66 (nI m) n (nI k) M = some M' ∧ CaM x w V nm M' ∧ KnV x w V m M' ∧ Cw M M'
  | 0, k, M, _, h2, _, _, _, _, _ => absurd h2 (by omega)
  | n + 1, k, M, h1, h2, h, hr, hca, hW, hj => by
    have hx := hr.1.1
    have ho := hr.2.2.1
    have hn := hr.2.2.2.1
    rw [lp_X7_know_7]
    by_cases e : k = m + 1
    · rw [if_pos (nI_lt (by omega) (by omega))]
      exact ⟨M, rfl, hca, hj m (by omega) hW.2.1, Cw.rf⟩
    · have hk : k < nm := by omega
      obtain ⟨o1, o2, o3, -⟩ := ho k hk
      rw [if_neg (nI_nlt (by omega) (by omega)), G_66_16 h, Option.bind_some, A_80 h (by omega), Option.bind_some]
      simp only [op_jn]
      rw [nI_1]
      have go : ∀ {M1 : Mm}, Shp M1 → RB x w V nm M1 → CaM x w V nm M1 → Cw M M1 → (∀ a, mm_I M1 80 a = mm_I M 80 a) → (mm_I M 80 k = 1 → KnV x w V k M1) → (∀ j, j < k → mm_I M 80 j = 1 → KnV x w V j M1) → ∃ M', lp_X7_know_7 66 (nI m) n (nI (k + 1)) M1 = some M' ∧ CaM x w V nm M' ∧ KnV x w V m M' ∧ Cw M M' := by
        intro M1 h1' r1 ca1 cw1 e80 kk kj
        obtain ⟨M2, b1, b2, b3, b4⟩ := m_kn7 hm n (k + 1) M1 (by omega) (by omega) h1' r1 ca1 ⟨fun i hi => by rw [e80]; exact hW.1 i hi, by rw [e80]; exact hW.2.1, fun i q1 q2 q3 q4 => by rw [e80, e80]; rw [e80] at q3; exact hW.2.2 i q1 q2 q3 q4⟩ (fun j q1 q2 => by
          rw [e80] at q2
          by_cases ej : j = k
          · subst ej; exact kk q2
          · exact kj j (by omega) q2)
        exact ⟨M2, b1, b2, b3, cw1.tr b4⟩
      rcases hW.1 k (by omega) with z | z
      · rw [z, if_pos rfl]
        exact go h hr hca Cw.rf (fun _ => rfl) (fun q => by rw [z] at q; exact absurd q (by decide)) hj
      · rw [z, if_neg (by decide), G_66_14 h, Option.bind_some, A_78 h (by omega), Option.bind_some]
        rcases (hca k hk).1 with y | y
        · rw [y, if_pos rfl, Option.bind_some, S_78 h (by omega) (Or.inr rfl), Option.bind_some]
          have c1 : Cw M (mm_wI M 78 k 1) := ⟨fun z => z, fun a i q1 _ _ => by rw [mI_wI, if_neg (fun e => q1 e.1)], fun _ _ _ _ _ => rfl⟩
          have r1 := hr.cw c1
          have sub : 5 ≤ vK V k → KnV x w V (vA V k) (mm_wI M 78 k 1) ∧ KnV x w V (vB V k) (mm_wI M 78 k 1) := fun e5 => by
            obtain ⟨q1, q2, -⟩ := o3 e5
            obtain ⟨u1, u2⟩ := hW.2.2 k (by omega) (by omega) z e5
            exact ⟨hj _ q1 u1, hj _ q2 u2⟩
          obtain ⟨M2, b1, b2, b3⟩ := m_kn39 (fun (M_57 : Mm) => lp_X7_know_7 66 (nI m) n (nI (k + 1)) M_57) (nI m) hk FU 0 (mm_wI M 78 k 1) (by omega) (by have := (gz_1 x hx).2.1; unfold FU; omega) (sh_wI h) r1 sub (fun u hu v hv huv => absurd huv (by omega))
          have h2' := b3.1 (sh_wI h)
          have e78 : ∀ j, j ≠ k → mm_I M2 78 j = mm_I M 78 j := fun j hjk => by rw [b3.2.1, mI_wI, if_neg (fun e => hjk e.2)]
          have kv : ∀ j, j ≠ k → KnV x w V j M → KnV x w V j M2 := fun j hjk hv => KnV.ck (M := mm_wI M 78 k 1) hv hx hjk b3
          have ca2 : CaM x w V nm M2 := fun j hjn => by
            by_cases ej : j = k
            · subst ej
              exact ⟨Or.inr (by rw [b3.2.1, mI_wI, if_pos ⟨rfl, rfl⟩]), fun _ => b2⟩
            · rw [e78 j ej]
              exact ⟨(hca j hjn).1, fun q => kv j ej ((hca j hjn).2 q)⟩
          obtain ⟨M3, d1, d2, d3, d4⟩ := go h2' (r1.cw b3.cw) ca2 (c1.tr b3.cw) (fun a => by rw [b3.2.1, mI_wI, if_neg (fun e => by omega)]) (fun _ => b2) (fun j q1 q2 => kv j (by omega) (hj j q1 q2))
          exact ⟨M3, Eq.trans b1 d1, d2, d3, d4⟩
        · rw [y, if_neg (by decide)]
          exact go h hr hca Cw.rf (fun _ => rfl) (fun _ => (hca k hk).2 y) hj
theorem m_know (h : Shp M) (hr : RB x w V nm M) (hca : CaM x w V nm M) (hm : m < nm) : ∃ M', f_X7_know 66 (nI m) M = some M' ∧ CaM x w V nm M' ∧ KnV x w V m M' ∧ Cw M M' := by
  have hn := hr.2.2.2.1
  obtain ⟨M1, a1, a2, a3, a4, a5⟩ := m_want h hr hm
  have c1 : Cw M M1 := ⟨fun _ => a2, fun a k _ _ q => a4 a k q, fun a k _ _ _ => by rw [a3]⟩
  have ca1 : CaM x w V nm M1 := fun j hj => by
    unfold KnV
    rw [a4 78 j (by omega), a3]
    exact hca j hj
  obtain ⟨M2, b1, b2, b3, b4⟩ := m_kn7 hm FU 0 M1 (by omega) (by unfold FU; omega) a2 (hr.cw c1) ca1 a5 (fun j hj => absurd hj (by omega))
  refine ⟨M2, ?_, b2, b3, c1.tr b4⟩
  unfold f_X7_know
  rw [I_66 h, Option.bind_some, a1, Option.bind_some]
  exact b1
end
