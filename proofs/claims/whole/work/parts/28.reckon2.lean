section
variable {M M' M'' : Mm} {x : Zt} {w : Nat → Nat} {V : Mv} {nm cg m s t q n lim dep : Nat} {rc : Nat → Int32 → Int32 → Int32 → Int32 → Mm → Option Mm}
theorem p_cyc1 (K : Mm → Option Mm) (hR : RkOk rc x w V nm cg lim) (hm : m < nm) (hs : s < ns x) (ht : t < ns x) (h6 : vK V m = 6) (hd : vD V m + dep ≤ 2) (hl : vD V m ≤ lim) : ∀ (k r : Nat) (M : Mm), r ≤ ns x → ns x - r < k → Shp M → RC x w V nm cg M → (∀ u, u < r → Kn cg (vA V m) s u M ∧ Kn cg (vB V m) u t M) → ∃ M', lp_X0_cycle_3 K rc 57 (7 + 5 * m) (nI s) (nI t) (nI dep) k (nI r) M = K M' ∧ Shp M' ∧ RC x w V nm cg M' ∧ (∀ u, u < ns x → Kn cg (vA V m) s u M' ∧ Kn cg (vB V m) u t M') ∧ KnUp cg M M' ∧ Cr M M'
  | 0, r, M, _, h2, _, _, _ => absurd h2 (by omega)
  | k + 1, r, M, h1, h2, h, hr, hk => by
    have hx := hr.1.1
    have ho := hr.2.2.1
    have hn := hr.2.2.2.1
    have hm10 : m < 10 := by omega
    have h16 := (gz_1 x hx).2.1
    obtain ⟨ha, hb, hdd⟩ := (ho m hm).2.2.1 (by omega)
    have m1 := Nat.le_max_left (vD V (vA V m)) (vD V (vB V m))
    have m2 := Nat.le_max_right (vD V (vA V m)) (vD V (vB V m))
    have fa : ∀ {N : Mm}, RC x w V nm cg N → mm_I N (7 + 5 * m) 1 = nI (vA V m) ∧ mm_I N (7 + 5 * m) 2 = nI (vB V m) := fun hN => by
      obtain ⟨-, b1, b2, -⟩ := hN.2.2.2.2.1.2 m hm
      exact ⟨b1 (by omega), b2 (by omega)⟩
    rw [lp_X0_cycle_3, G_57_0 h, Option.bind_some, G_1_1 h, Option.bind_some, hr.1.2.2.1]
    by_cases e : r = ns x
    · rw [if_pos (nI_le (by omega) (by omega))]
      exact ⟨M, rfl, h, hr, fun u hu => hk u (by omega), KnUp.rf, Cr.rf⟩
    · have hlt : r < ns x := by omega
      obtain ⟨M1, a1, a2, a3, a4, a5⟩ := hR (vA V m) s r (dep + 1) M h hr (by omega) hs hlt (by omega) (by omega)
      have h1' := a5.1 h
      have r1 := hr.cr a5 a2
      obtain ⟨M2, b1, b2, b3, b4, b5⟩ := hR (vB V m) r t (dep + 1) M1 h1' r1 (by omega) hlt ht (by omega) (by omega)
      have h2' := b5.1 h1'
      have r2 := r1.cr b5 b2
      rw [if_neg (nI_ge hlt (by omega)), G_m_1 h hm10, Option.bind_some, I_57 h, Option.bind_some, (fa hr).1, nI_1, a1, Option.bind_some, G_m_2 h1' hm10, Option.bind_some, I_57 h1', Option.bind_some, (fa r1).2, b1, Option.bind_some, nI_1]
      have up := a4.tr b4
      obtain ⟨M3, c1, c2, c3, c4, c5, c6⟩ := p_cyc1 K hR hm hs ht h6 hd hl k (r + 1) M2 (by omega) (by omega) h2' r2 (fun u hu => by
        by_cases eu : u = r
        · subst eu
          exact ⟨b4.2 _ _ _ (by omega) (gz_n hx hs) (by omega) a3, b3⟩
        · obtain ⟨d1, d2⟩ := hk u (by omega)
          exact ⟨up.2 _ _ _ (by omega) (gz_n hx hs) (by omega) d1, up.2 _ _ _ (by omega) (by omega) (gz_n hx ht) d2⟩)
      exact ⟨M3, c1, c2, c3, c4, up.tr c5, (a5.tr b5).tr c6⟩
theorem cyc_none {f g : Nat → Fq} : ∀ {n r : Nat}, r ≤ n → cyc f g r = none → cyc f g n = none
  | 0, r, h, e => by rw [show r = 0 by omega] at e; exact e
  | n + 1, r, h, e => by
    by_cases q : r = n + 1
    · rw [q] at e; exact e
    · have := cyc_none (show r ≤ n by omega) e
      show fadd (cyc f g n) _ = none
      rw [this]
      rfl
theorem p_cyc2 (hm : m < nm) (hs : s < ns x) (ht : t < ns x) (h6 : vK V m = 6) : ∀ (k r : Nat) (M : Mm), r ≤ ns x → ns x - r < k → Shp M → RC x w V nm cg M → (∀ u, u < ns x → Kn cg (vA V m) s u M ∧ Kn cg (vB V m) u t M) → FrC 58 (cyc (fun r => chm x w V (vA V m) s r) (fun r => chm x w V (vB V m) r t) r) M → ∃ M', lp_X0_cycle_63 rc 57 (7 + 5 * m) (nI s) (nI t) k (nI r) M = some M' ∧ FrC 58 (cyc (fun r => chm x w V (vA V m) s r) (fun r => chm x w V (vB V m) r t) (ns x)) M' ∧ Ch FS M M'
  | 0, r, M, _, h2, _, _, _, _ => absurd h2 (by omega)
  | k + 1, r, M, h1, h2, h, hr, hk, hf => by
    have hx := hr.1.1
    have hw := hr.2.1.1
    have ho := hr.2.2.1
    have hn := hr.2.2.2.1
    have hm10 : m < 10 := by omega
    have h16 := (gz_1 x hx).2.1
    obtain ⟨ha, hb, hdd⟩ := (ho m hm).2.2.1 (by omega)
    have fa : ∀ {N : Mm}, RC x w V nm cg N → mm_I N (7 + 5 * m) 1 = nI (vA V m) ∧ mm_I N (7 + 5 * m) 2 = nI (vB V m) := fun hN => by
      obtain ⟨-, b1, b2, -⟩ := hN.2.2.2.2.1.2 m hm
      exact ⟨b1 (by omega), b2 (by omega)⟩
    rw [lp_X0_cycle_63, G_57_0 h, Option.bind_some, G_1_1 h, Option.bind_some, hr.1.2.2.1]
    by_cases e : r = ns x
    · rw [if_pos (nI_le (by omega) (by omega))]
      subst e
      exact ⟨M, rfl, hf, Ch.rf⟩
    · have hlt : r < ns x := by omega
      rw [if_neg (nI_ge hlt (by omega)), G_57_2 h, Option.bind_some, G_58_2 h, Option.bind_some]
      have okc : frok (cyc (fun r => chm x w V (vA V m) s r) (fun r => chm x w V (vB V m) r t) r) := cyc_ok r (fun u hu => chm_ok hx hw ho (by omega) hs (by omega)) (fun u hu => chm_ok hx hw ho (by omega) (by omega) ht)
      cases hy : cyc (fun r => chm x w V (vA V m) s r) (fun r => chm x w V (vB V m) r t) r with
      | none =>
        rw [hy] at hf
        rw [show mm_I M 58 2 = 0 from hf, if_pos rfl]
        refine ⟨M, rfl, ?_, Ch.rf⟩
        rw [cyc_none (by omega) hy]
        exact hf
      | some z =>
        have hfit : mm_I M 58 2 = 1 := by rw [hy] at hf; exact hf.2.2
        rw [hfit, if_neg (by decide)]
        obtain ⟨M3, c1, c2, c3⟩ := p_load h hx hw ho hr.2.2.2.2.2 hn (show vA V m < nm by omega) hs hlt (hk r hlt).1 fq59
        have f3 := c3.fq fs59
        have h3 := f3.1 h
        have r3 := hr.fq f3
        obtain ⟨M4, d1, d2, d3⟩ := p_load h3 hx hw ho r3.2.2.2.2.2 hn (show vB V m < nm by omega) hlt ht ((hk r hlt).2.fq (by omega) f3) fq60
        have f4 := d3.fq fs60
        have h4 := f4.1 h3
        have r4 := r3.fq f4
        obtain ⟨M5, g1, g2, g3⟩ := p_times h4 fq59 fq60 (by decide) (c2.ch d3 (by decide)) d2 (chm_ok hx hw ho (by omega) hs hlt) (chm_ok hx hw ho (by omega) hlt ht)
        have f5 := g3.fq fs59
        have h5 := f5.1 h4
        have r5 := r4.fq f5
        have e58 := ((hf.ch c3 (by decide)).ch d3 (by decide)).ch g3 (by decide)
        obtain ⟨M6, i1, i2, i3⟩ := p_add h5 fq58 fq59 (by decide) e58 g2 okc (fmul_ok (chm_ok hx hw ho (by omega) hs hlt) (chm_ok hx hw ho (by omega) hlt ht)) (sg := 1) (Or.inl ⟨rfl, rfl⟩)
        have f6 := i3.fq fs58
        have h6' := f6.1 h5
        have r6 := r5.fq f6
        have fall : Ch FS M M6 := ((f3.tr f4).tr f5).tr f6
        rw [G_57_1 h, Option.bind_some, G_m_1 h hm10, Option.bind_some, (fa hr).1, A_6 h (by omega), Option.bind_some, G_57_3 h, Option.bind_some, I_m h (by omega), Option.bind_some, c1, Option.bind_some, G_57_1 h3, Option.bind_some, G_m_2 h3 hm10, Option.bind_some, (fa r3).2, A_6 h3 (by omega), Option.bind_some, G_57_4 h3, Option.bind_some, I_m h3 (by omega), Option.bind_some, d1, Option.bind_some, G_57_3 h4, Option.bind_some, G_57_4 h4, Option.bind_some, I_59 h4, Option.bind_some, g1, Option.bind_some, G_57_2 h5, Option.bind_some, G_57_3 h5, Option.bind_some, I_58 h5, Option.bind_some, i1, Option.bind_some, nI_1]
        obtain ⟨M7, j1, j2, j3⟩ := p_cyc2 hm hs ht h6 k (r + 1) M6 (by omega) (by omega) h6' r6 (fun u hu => ⟨(hk u hu).1.fq (by omega) fall, (hk u hu).2.fq (by omega) fall⟩) i2
        exact ⟨M7, j1, j2, fall.tr j3⟩
theorem p_cycle (hR : RkOk rc x w V nm cg lim) (h : Shp M) (hr : RC x w V nm cg M) (hm : m < nm) (hs : s < ns x) (ht : t < ns x) (h6 : vK V m = 6) (hd : vD V m + dep ≤ 2) (hl : vD V m ≤ lim) : ∃ M', f_X0_cycle rc 57 (7 + 5 * m) (nI s) (nI t) (nI dep) M = some M' ∧ FrC 58 (chm x w V m s t) M' ∧ RC x w V nm cg M' ∧ KnUp cg M M' ∧ Cr M M' := by
  have hx := hr.1.1
  have ho := hr.2.2.1
  have h16 := (gz_1 x hx).2.1
  unfold f_X0_cycle
  obtain ⟨M1, a1, a2, a3, a4, a5, a6⟩ := p_cyc1 (fun (M_9 : Mm) => (op_gR M_9 0 57 2).bind fun x_10 => (op_is M_9 x_10 1).bind fun _ => (f_X1_set x_10 (0 : Int64) (1 : Int64) M_9).bind fun z_11 => lp_X0_cycle_63 rc 57 (7 + 5 * m) (nI s) (nI t) FU (0 : Int32) z_11) hR hm hs ht h6 hd hl FU 0 M (by omega) (by unfold FU; omega) h hr (fun u hu => absurd hu (by omega))
  have c1 : Ch (· = 58) M1 (stF M1 58 (low 0 1)) := stF_c rfl
  have f1 := c1.fq fs58
  obtain ⟨M2, b1, b2, b3⟩ := p_cyc2 (rc := rc) hm hs ht h6 FU 0 (stF M1 58 (low 0 1)) (by omega) (by unfold FU; omega) (f1.1 a2) (a3.fq f1) (fun u hu => ⟨(a4 u hu).1.fq (by have := (ho m hm).2.2.1 (by omega); have := hr.2.2.2.1; omega) f1, (a4 u hu).2.fq (by have := (ho m hm).2.2.1 (by omega); have := hr.2.2.2.1; omega) f1⟩) stF_r
  have f2 := f1.tr b3
  refine ⟨M2, ?_, by rw [chm_6 ho hm h6]; exact b2, a3.fq f2, a5.tr (KnUp.fq f2), a6.tr (Cr.fq f2)⟩
  refine Eq.trans a1 ?_
  show (op_gR M1 0 57 2).bind _ = _
  rw [G_57_2 a2, Option.bind_some, I_58 a2, Option.bind_some, show f_X1_set 58 (0 : Int64) (1 : Int64) M1 = some (stF M1 58 (low 0 1)) from p_set (a := 0) (b := 1) a2 fq58 (by omega) (by omega) (by omega), Option.bind_some]
  exact b1
end
