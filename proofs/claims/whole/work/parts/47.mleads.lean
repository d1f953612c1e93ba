def Row (z : Zt) (j s : Nat) (f : Nat → Bool) (M : Mm) : Prop := ∀ t, t < ns z → mm_I M 79 (256 * j + 16 * s + t) = if f t = true then 1 else 0
def Cq (j s : Nat) (M M' : Mm) : Prop := (Shp M → Shp M') ∧ (∀ a k, ¬ (a = 79 ∧ 256 * j + 16 * s ≤ k ∧ k < 256 * j + 16 * s + 16) → mm_I M' a k = mm_I M a k) ∧ mm_L M' = mm_L M
def LeV (z : Zt) (w : Nat → Nat) (V : Mv) (j : Nat) (M : Mm) : Prop := ∀ s, s < ns z → Row z j s (lem z w V j s) M
section
variable {M M' M'' : Mm} {z : Zt} {w : Nat → Nat} {V : Mv} {c : Nat → Nat → Nat} {x n s t p m nm j u k d : Nat} {f g : Nat → Bool}
theorem Row.cg (h : Row z j s f M) (e : ∀ t, t < ns z → f t = g t) : Row z j s g M := fun t ht => by rw [← e t ht]; exact h t ht
theorem Cq.rf : Cq j s M M := ⟨id, fun _ _ _ => rfl, rfl⟩
theorem Cq.tr (h : Cq j s M M') (h' : Cq j s M' M'') : Cq j s M M'' := ⟨fun q => h'.1 (h.1 q), fun a k q => (h'.2.1 a k q).trans (h.2.1 a k q), h'.2.2.trans h.2.2⟩
theorem RB.cq (h : RB z w V nm M) (hc : Cq j s M M') : RB z w V nm M' := h.fr (fun a k e => hc.2.1 a k (by omega))
theorem GeoM.cq (h : GeoM z M) (hc : Cq j s M M') : GeoM z M' := ⟨h.1, (hc.2.1 _ _ (by omega)).trans h.2.1, (hc.2.1 _ _ (by omega)).trans h.2.2.1, fun p hp => (hc.2.1 _ _ (by omega)).trans (h.2.2.2 p hp)⟩
theorem WtM.cq (h : WtM w M) (hc : Cq j s M M') : WtM w M' := ⟨h.1, fun s hs => (hc.2.1 _ _ (by omega)).trans (h.2 s hs)⟩
theorem TdM.cq (h : TdM m c M) (hc : Cq j s M M') : TdM m c M' := ⟨h.1, fun s hs t ht => (hc.2.1 _ _ (by omega)).trans (h.2 s hs t ht)⟩
theorem m_leads (h : Shp M) (hx : z ∈ OKZ) (hj : j < 10) (hs : s < ns z) (hu : u < ns z) (hf : Row z j s f M) : ∃ M', f_X7_leads 66 (nI j) (nI s) (nI u) M = some M' ∧ Row z j s (fun t => f t || decide (t = u)) M' ∧ Cq j s M M' := by
  have hu16 := gz_n hx hu
  unfold f_X7_leads
  rw [G_66_15 h, Option.bind_some, I_66 h, Option.bind_some, m_at, Option.bind_some, S_79 h (at_lt hx hj hs hu) (Or.inr rfl), Option.bind_some]
  refine ⟨_, rfl, fun t ht => ?_, ⟨fun q => sh_wI q, fun a k q => by rw [mI_wI, if_neg (fun e => q ⟨e.1, by omega, by omega⟩)], rfl⟩⟩
  show _ = if (f t || decide (t = u)) = true then 1 else 0
  by_cases e : t = u
  · subst e
    rw [mI_wI, if_pos ⟨rfl, rfl⟩, decide_eq_true rfl, Bool.or_true, if_pos rfl]
  · rw [mI_wI, if_neg (fun q => e (by omega)), decide_eq_false e, Bool.or_false]
    exact hf t ht
theorem m_proposes (h : Shp M) (hg : GeoM z M) (hw : WtM w M) (hj : j < 10) (hs : s < ns z) (hu : u < ns z) (hf : Row z j s f M) : ∃ M', f_X7_proposes 66 (nI j) (nI s) (nI u) M = some M' ∧ Row z j s (fun t => f t || lPr w s u t) M' ∧ Cq j s M M' := by
  have hs16 := gz_n hg.1 hs
  have hu16 := gz_n hg.1 hu
  have k1 := hw.1 s
  have k2 := hw.1 u
  have tail : ∀ N, Cq j s M N → Row z j s (fun t => f t || (decide (w s = 0 ∨ 0 < w u) && decide (t = u))) N → ∃ M', ((op_gR N 7 66 3).bind fun x_10 => (op_aI N x_10 (nI u)).bind fun x_11 => (op_gR N 7 66 3).bind fun x_12 => (op_aI N x_12 (nI s)).bind fun x_13 => if x_13 ≤ x_11 then some N else (op_is N 66 7).bind fun _ => (f_X7_leads 66 (nI j) (nI s) (nI s) N).bind fun z_15 => some z_15) = some M' ∧ Row z j s (fun t => f t || lPr w s u t) M' ∧ Cq j s M M' := fun N a2 a1 => by
    have h1 := a2.1 h
    have w1 := hw.cq a2
    simp only [G_66_3 h1, A_68 h1 hu16, A_68 h1 hs16, w1.2 s hs16, w1.2 u hu16, Option.bind_some]
    by_cases q : w u < w s
    · obtain ⟨M2, b1, b2, b3⟩ := m_leads h1 hg.1 hj hs hs a1
      rw [if_neg (nI_ge q (by omega)), I_66 h1, Option.bind_some, b1, Option.bind_some]
      exact ⟨M2, rfl, b2.cg (fun t _ => by unfold lPr; rw [decide_eq_true q, Bool.true_and, Bool.or_assoc]), a2.tr b3⟩
    · rw [if_pos (nI_le (by omega) (by omega))]
      exact ⟨N, rfl, a1.cg (fun t _ => by unfold lPr; rw [decide_eq_false q, Bool.false_and, Bool.or_false]), a2⟩
  obtain ⟨M1, a1, a2, a3⟩ := m_leads h hg.1 hj hs hu hf
  unfold f_X7_proposes
  rw [G_66_3 h, Option.bind_some, A_68 h hs16, Option.bind_some, hw.2 s hs16]
  simp only [op_jn]
  by_cases e : w s = 0
  · obtain ⟨M', t1, t2, t3⟩ := tail M1 a3 (a2.cg (fun t _ => by rw [decide_eq_true (Or.inl e)]; rfl))
    refine ⟨M', Eq.trans ?_ t1, t2, t3⟩
    rw [e, if_pos (show nI 0 = (0 : Int32) from rfl), I_66 h, Option.bind_some, a1, Option.bind_some]
  · by_cases q : 0 < w u
    · obtain ⟨M', t1, t2, t3⟩ := tail M1 a3 (a2.cg (fun t _ => by rw [decide_eq_true (Or.inr q)]; rfl))
      refine ⟨M', Eq.trans ?_ t1, t2, t3⟩
      rw [if_neg (nI_ne0 (by omega) (by omega)), Option.bind_some, A_68 h hu16, Option.bind_some, hw.2 u hu16, if_neg (nI_nle q (by omega)), I_66 h, Option.bind_some, a1, Option.bind_some]
    · obtain ⟨M', t1, t2, t3⟩ := tail M Cq.rf (hf.cg (fun t _ => by rw [decide_eq_false (fun q2 => q2.elim e q), Bool.false_and, Bool.or_false]))
      refine ⟨M', Eq.trans ?_ t1, t2, t3⟩
      rw [if_neg (nI_ne0 (by omega) (by omega)), Option.bind_some, A_68 h hu16, Option.bind_some, hw.2 u hu16, if_pos (show nI (w u) ≤ (0 : Int32) by rw [show w u = 0 by omega]; decide), G_66_3 h]
theorem m_tl_l (hx : z ∈ OKZ) (hj : j < 10) (hs : s < ns z) : ∀ (k i : Nat) (M : Mm) (f : Nat → Bool), i ≤ ns z → ns z - i < k → Shp M → GeoM z M → WtM w M → TdM j c M → Row z j s (fun t => f t || anb (fun u => decide (0 < c s u) && lTp w c (ns z) s u t) i) M → ∃ M', lp_X7_toldLeads_18 66 (nI j) (nI s) k (nI i) M = some M' ∧ Row z j s (fun t => f t || anb (fun u => decide (0 < c s u) && lTp w c (ns z) s u t) (ns z)) M' ∧ Cq j s M M'
  | 0, i, M, f, _, h2, _, _, _, _, _ => absurd h2 (by omega)
  | k + 1, i, M, f, h1, h2, h, hg, hw, htd, hf => by
    have h16 := (gz_1 z hg.1).2.1
    have hs16 := gz_n hg.1 hs
    have k1 := hw.1 s
    rw [lp_X7_toldLeads_18, G_66_2 h, Option.bind_some, hg.2.2.1]
    by_cases e : i = ns z
    · rw [if_pos (nI_le (by omega) (by omega))]
      subst e
      exact ⟨M, rfl, hf, Cq.rf⟩
    · have hlt : i < ns z := by omega
      have kc := htd.1 s i
      have b1 := cX_le (s := s) (t := i) hw.1 htd.1 h16
      have b2 := cX_le (s := i) (t := s) hw.1 htd.1 h16
      have es : ∀ t, anb (fun u => decide (0 < c s u) && lTp w c (ns z) s u t) (i + 1) = (anb (fun u => decide (0 < c s u) && lTp w c (ns z) s u t) i || (decide (0 < c s i) && lTp w c (ns z) s i t)) := fun _ => rfl
      rw [if_neg (nI_ge hlt (by omega)), G_66_11 h, Option.bind_some, I_66 h, Option.bind_some, m_at, Option.bind_some, A_75 h (at_lt hx hj hs hlt), Option.bind_some, htd.2 s hs16 i (by omega)]
      simp only [op_jn]
      by_cases q : 0 < c s i
      · have go : ∀ N, Row z j s (fun t => (f t || anb (fun u => decide (0 < c s u) && lTp w c (ns z) s u t) i) || lTp w c (ns z) s i t) N → Cq j s M N → ∃ M', lp_X7_toldLeads_18 66 (nI j) (nI s) k (nI (i + 1)) N = some M' ∧ Row z j s (fun t => f t || anb (fun u => decide (0 < c s u) && lTp w c (ns z) s u t) (ns z)) M' ∧ Cq j s M M' := fun N hN cN => by
          obtain ⟨M2, d1, d2, d3⟩ := m_tl_l hx hj hs k (i + 1) N f (by omega) (by omega) (cN.1 h) (hg.cq cN) (hw.cq cN) (htd.cq cN) (hN.cg (fun t _ => by rw [es t, decide_eq_true q, Bool.true_and, Bool.or_assoc]))
          exact ⟨M2, d1, d2, cN.tr d3⟩
        rw [if_neg (nI_nle q (by omega)), G_66_3 h, Option.bind_some, A_68 h hs16, Option.bind_some, hw.2 s hs16, Option.bind_some, m_above h hg hw htd hj hs16 (by omega), Option.bind_some, nI_1]
        obtain ⟨M1, l1, l2, l3⟩ := m_leads h hx hj hs hlt hf
        have h1' := l3.1 h
        by_cases e1 : w s = 0
        · have ef : (if nI (w s) = 0 then (1 : Int32) else if nI i = nI s then (1 : Int32) else 0) = 1 := by rw [e1]; exact if_pos rfl
          rw [ef, if_neg (show ¬ (1 : Int32) = 0 by decide), Option.bind_some, l1, Option.bind_some, if_neg (show ¬ (1 : Int32) = 0 by decide), if_neg (show ¬ (1 : Int32) = 0 by decide)]
          exact go M1 (l2.cg (fun t _ => by unfold lTp; rw [if_pos e1])) l3
        · have n0 : ¬ nI (w s) = 0 := nI_ne0 (by omega) (by omega)
          by_cases e2 : i = s
          · have ef : (if nI (w s) = 0 then (1 : Int32) else if nI i = nI s then (1 : Int32) else 0) = 1 := by rw [if_neg n0, if_pos (by rw [e2])]
            rw [ef, if_neg (show ¬ (1 : Int32) = 0 by decide), Option.bind_some, l1, Option.bind_some, if_neg (show ¬ (1 : Int32) = 0 by decide), if_neg (show ¬ (1 : Int32) = 0 by decide)]
            refine go M1 (l2.cg (fun t _ => ?_)) l3
            unfold lTp
            rw [if_neg e1]
            subst e2
            by_cases e3 : cX w c (ns z) i i = 0
            · rw [if_pos e3]
            · rw [if_neg e3]
              cases decide (t = i) <;> cases decide (cX w c (ns z) i i < cX w c (ns z) i i) <;> simp
          · have ef : (if nI (w s) = 0 then (1 : Int32) else if nI i = nI s then (1 : Int32) else 0) = 0 := by rw [if_neg n0, if_neg (fun q2 => e2 ((nI_eq (by omega) (by omega)).mp q2))]
            rw [ef, if_pos rfl]
            by_cases e3 : cX w c (ns z) s i = 0
            · obtain ⟨M2, r1, r2, r3⟩ := m_leads h hx hj hs hs hf
              have fin := go M2 (r2.cg (fun t _ => by unfold lTp; rw [if_neg e1, if_pos e3])) r3
              rw [e3, if_pos (show lN 0 ≤ (0 : Int64) by decide), if_pos rfl, I_66 h, Option.bind_some, m_below h hg hw htd hj hs16 (by omega), Option.bind_some]
              by_cases e4 : lN 0 < lN (cX w c (ns z) i s)
              · rw [if_pos e4, Option.bind_some, r1, Option.bind_some]
                exact fin
              · rw [if_neg e4, if_pos rfl, if_pos (show lN 0 = (0 : Int64) from rfl), Option.bind_some, r1, Option.bind_some]
                exact fin
            · have nz : ¬ lN (cX w c (ns z) s i) = (0 : Int64) := fun q2 => e3 ((ln_eq0 (by omega)).mp q2)
              rw [if_neg (show ¬ lN (cX w c (ns z) s i) ≤ (0 : Int64) by rw [l0, pk_lLE (by omega) (by decide)]; omega), Option.bind_some, l1, Option.bind_some, if_pos rfl, I_66 h1', Option.bind_some, m_below h1' (hg.cq l3) (hw.cq l3) (htd.cq l3) hj hs16 (by omega), Option.bind_some]
              by_cases e4 : cX w c (ns z) s i < cX w c (ns z) i s
              · obtain ⟨M2, r1, r2, r3⟩ := m_leads h1' hx hj hs hs l2
                rw [if_pos ((pk_lLT (by omega) (by omega)).mpr e4), Option.bind_some, r1, Option.bind_some]
                exact go M2 (r2.cg (fun t _ => by unfold lTp; rw [if_neg e1, if_neg e3, decide_eq_true e4, Bool.true_and, Bool.or_assoc])) (l3.tr r3)
              · rw [if_neg (fun q2 => e4 ((pk_lLT (by omega) (by omega)).mp q2)), if_pos rfl, if_neg nz]
                exact go M1 (l2.cg (fun t _ => by unfold lTp; rw [if_neg e1, if_neg e3, decide_eq_false e4, Bool.false_and, Bool.or_false])) l3
      · rw [if_pos (show nI (c s i) ≤ (0 : Int32) by rw [show c s i = 0 by omega]; decide), nI_1]
        exact m_tl_l hx hj hs k (i + 1) M f (by omega) (by omega) h hg hw htd (hf.cg (fun t _ => by rw [es t, decide_eq_false q, Bool.false_and, Bool.or_false]))
theorem anb_0 {f : Nat → Bool} : ∀ {n : Nat}, (∀ i, i < n → f i = false) → anb f n = false
  | 0, _ => rfl
  | n + 1, h => by
    show (anb f n || f n) = false
    rw [anb_0 (fun i hi => h i (by omega)), h n (by omega)]
    rfl
theorem m_toldLeads (h : Shp M) (hg : GeoM z M) (hw : WtM w M) (htd : TdM j c M) (hj : j < 10) (hs : s < ns z) (hf : Row z j s (fun _ => false) M) : ∃ M', f_X7_toldLeads 66 (nI j) (nI s) M = some M' ∧ Row z j s (lTo w c (ns z) s) M' ∧ Cq j s M M' := by
  have h16 := (gz_1 z hg.1).2.1
  have hs16 := gz_n hg.1 hs
  have hl := cS_le (s := s) htd.1 h16
  unfold f_X7_toldLeads
  rw [I_66 h, Option.bind_some, m_sumOfTold h hg htd hj hs16, Option.bind_some]
  simp only [op_jn]
  by_cases e : sm (c s) (ns z) = 0
  · obtain ⟨M1, l1, l2, l3⟩ := m_leads h hg.1 hj hs hs hf
    have cz : ∀ u, u < ns z → c s u = 0 := fun u hu => by have := sm_mo (f := c s) hu; omega
    rw [e, if_pos (show nI 0 = (0 : Int32) from rfl), Option.bind_some, l1, Option.bind_some]
    obtain ⟨M2, d1, d2, d3⟩ := m_tl_l (w := w) (c := c) hg.1 hj hs FU 0 M1 (fun t => false || decide (t = s)) (by omega) (by unfold FU; omega) (l3.1 h) (hg.cq l3) (hw.cq l3) (htd.cq l3) (l2.cg (fun t _ => (Bool.or_false _).symm))
    refine ⟨M2, d1, d2.cg (fun t _ => ?_), l3.tr d3⟩
    unfold lTo
    rw [if_pos e, anb_0 (fun u hu => by rw [cz u hu]; rfl), Bool.or_false, Bool.false_or]
  · rw [if_neg (nI_ne0 (by omega) (by omega))]
    obtain ⟨M2, d1, d2, d3⟩ := m_tl_l (w := w) (c := c) hg.1 hj hs FU 0 M (fun t => false) (by omega) (by unfold FU; omega) h hg hw htd (hf.cg (fun t _ => rfl))
    refine ⟨M2, d1, d2.cg (fun t _ => ?_), d3⟩
    unfold lTo
    rw [if_neg e, Bool.false_or]
theorem m_pl_l (hx : z ∈ OKZ) (hj : j < 10) (hs : s < ns z) (hp : p < np z) : ∀ (k i : Nat) (M : Mm), i ≤ zs z p → zs z p - i < k → Shp M → GeoM z M → WtM w M → Row z j s (fun t => anb (fun v => decide (0 < w (il z s p v)) && decide (t = il z s p v)) i) M → ∃ M', lp_X7_plainLeads_105 66 (nI j) (nI s) (nI p) 0 k (nI i) M = some M' ∧ Row z j s (lLi z w p s) M' ∧ Cq j s M M'
  | 0, i, M, _, h2, _, _, _, _ => absurd h2 (by omega)
  | k + 1, i, M, h1, h2, h, hg, hw, hf => by
    have hz := gz_2 z hx p hp
    have hp4 := gz_p hx hp
    have hs16 := gz_n hx hs
    rw [lp_X7_plainLeads_105, G_66_1 h, Option.bind_some, A_67 h hp4, Option.bind_some, hg.2.2.2 p hp4]
    by_cases e : i = zs z p
    · rw [if_pos (nI_le (by omega) (by omega))]
      subst e
      exact ⟨M, rfl, hf, Cq.rf⟩
    · have hlt : i < zs z p := by omega
      have hil := (gz_5 z hx s hs p hp i hlt).1
      have hil16 := gz_n hx hil
      have kw := hw.1 (il z s p i)
      have es : ∀ t, anb (fun v => decide (0 < w (il z s p v)) && decide (t = il z s p v)) (i + 1) = (anb (fun v => decide (0 < w (il z s p v)) && decide (t = il z s p v)) i || (decide (0 < w (il z s p i)) && decide (t = il z s p i))) := fun _ => rfl
      rw [if_neg (nI_ge hlt (by omega)), if_pos rfl, G_66_3 h, Option.bind_some, I_66 h, Option.bind_some, m_with h hg hs16 hp, Option.bind_some, A_68 h hil16, Option.bind_some, hw.2 _ hil16]
      simp only [op_jn]
      by_cases q : 0 < w (il z s p i)
      · obtain ⟨M1, l1, l2, l3⟩ := m_leads h hx hj hs hil hf
        rw [if_neg (nI_nle q (by omega)), Option.bind_some, Option.bind_some, Option.bind_some, l1, Option.bind_some, nI_1]
        obtain ⟨M2, d1, d2, d3⟩ := m_pl_l hx hj hs hp k (i + 1) M1 (by omega) (by omega) (l3.1 h) (hg.cq l3) (hw.cq l3) (l2.cg (fun t _ => by rw [es t, decide_eq_true q, Bool.true_and]))
        exact ⟨M2, d1, d2, l3.tr d3⟩
      · rw [if_pos (show nI (w (il z s p i)) ≤ (0 : Int32) by rw [show w (il z s p i) = 0 by omega]; decide), nI_1]
        exact m_pl_l hx hj hs hp k (i + 1) M (by omega) (by omega) h hg hw (hf.cg (fun t _ => by rw [es t, decide_eq_false q, Bool.false_and, Bool.or_false]))
theorem m_pl_1 (h : Shp M) (hg : GeoM z M) (hp : p < np z) (a : Int32) : lp_X7_plainLeads_105 66 (nI j) a (nI p) 1 FU 0 M = some M := by
  have hz := gz_2 z hg.1 p hp
  have hp4 := gz_p hg.1 hp
  rw [show FU = 999999 + 1 from rfl, lp_X7_plainLeads_105, G_66_1 h, Option.bind_some, A_67 h hp4, Option.bind_some, hg.2.2.2 p hp4, if_neg (show ¬ nI (zs z p) ≤ (0 : Int32) from nI_nle (by omega) (by omega)), if_neg (show ¬ (1 : Int32) = 0 by decide)]
end
