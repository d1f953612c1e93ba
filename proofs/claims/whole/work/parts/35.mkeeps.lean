section
variable {M M' M'' : Mm} {x : Zt} {w : Nat → Nat} {V : Mv} {nm m s t j k : Nat}
theorem KnV.cw (h : KnV x w V j M) (hc : Cu M M') : KnV x w V j M' := h.cu hc
theorem CaM.cu (h : CaM x w V nm M) (hc : Cu M M') : CaM x w V nm M' := fun j hj => by
  rw [hc.2.1]
  exact ⟨(h j hj).1, fun e => ((h j hj).2 e).cu hc⟩
theorem m_kp1 (K : Int64 → Int64 → Mm → Option (Int32 × Mm)) (hm : m < nm) (ht : t < ns x) : ∀ (k s : Nat) (A B : Int64) (M : Mm), s ≤ ns x → ns x - s < k → Shp M → RB x w V nm M → KnV x w V m M → (∃ z, kpS x w V m t s = some z) → Ar (kpS x w V m t s) A B → (∃ M', lp_X7_keeps_43 K 66 (nI m) (nI t) k A B (nI s) M = some (-4, M') ∧ kpS x w V m t (ns x) = none ∧ Cu M M') ∨ ∃ A' B' M', lp_X7_keeps_43 K 66 (nI m) (nI t) k A B (nI s) M = K A' B' M' ∧ Ar (kpS x w V m t (ns x)) A' B' ∧ (∃ z, kpS x w V m t (ns x) = some z) ∧ Cu M M'
  | 0, s, A, B, M, _, h2, _, _, _, _, _ => absurd h2 (by omega)
  | k + 1, s, A, B, M, h1, h2, h, hr, hK, hsome, hf => by
    have hx := hr.1.1
    have hw := hr.2.1.1
    have ho := hr.2.2.1
    have hn := hr.2.2.2.1
    have h16 := (gz_1 x hx).2.1
    rw [lp_X7_keeps_43, G_66_2 h, Option.bind_some, hr.1.2.2.1]
    by_cases e : s = ns x
    · rw [if_pos (nI_le (by omega) (by omega))]
      subst e
      exact Or.inr ⟨A, B, M, rfl, hf, hsome, Cu.rf⟩
    · have hlt : s < ns x := by omega
      have hs16 := gz_n hx hlt
      have kw := hw s
      have hl := at_lt hx (show m < 10 by omega) hlt ht
      have c1 : Cu M (mm_wL (mm_wL M 66 21 (mm_L M 76 (256 * m + 16 * s + t))) 66 22 (mm_L M 77 (256 * m + 16 * s + t))) := Cu_put
      have e1 : FrM (chm x w V m s t) (mm_wL (mm_wL M 66 21 (mm_L M 76 (256 * m + 16 * s + t))) 66 22 (mm_L M 77 (256 * m + 16 * s + t))) := Fr_put (hK s hlt t ht)
      have s1 := m_takes h hl
      generalize mm_wL (mm_wL M 66 21 (mm_L M 76 (256 * m + 16 * s + t))) 66 22 (mm_L M 77 (256 * m + 16 * s + t)) = M1 at c1 e1 s1
      have h1' := c1.1 h
      have r1 := hr.cu c1
      have okc := chm_ok hx hw ho hm hlt ht
      have okk := kpS_ok hx hw ho hm ht s (by omega)
      obtain ⟨M2, a1, a2, a3⟩ := m_times (z := wF w s) (A := lN (w s)) (B := 1) h1' e1 (by unfold wF; rw [low_1]; exact ⟨rfl, rfl⟩) okc (wF_ok hw)
      have h2' := a3.1 h1'
      have c3 : Cu M2 (mm_wL (mm_wL M2 66 21 A) 66 22 B) := Cu_put
      have h3' := c3.1 h2'
      obtain ⟨M4, b1, b2, b3⟩ := m_and h3' (Fr_put hf) (Ar_of a2) okk (fmul_ok okc (wF_ok hw)) (sg := 0) (Or.inl ⟨rfl, rfl⟩)
      have h4' := b3.1 h3'
      have call := ((c1.tr a3).tr c3).tr b3
      rw [if_neg (nI_ge hlt (by omega)), I_66 h, Option.bind_some, m_at, Option.bind_some, Option.bind_some, s1, Option.bind_some, G_66_3 h1', Option.bind_some, A_68 h1' hs16, Option.bind_some, I_66 h1', Option.bind_some, r1.2.1.2 s hs16, nI_l (by omega), a1, Option.bind_some, G_66_21 h2', Option.bind_some, G_66_22 h2', Option.bind_some, P_66_21 h2', Option.bind_some, P_66_22 (sh_wL h2'), Option.bind_some, I_66 h3', Option.bind_some, b1, Option.bind_some, G_66_22 h4', Option.bind_some]
      have ek : kpS x w V m t (s + 1) = fadd (kpS x w V m t s) (fmul (chm x w V m s t) (wF w s)) := rfl
      cases hy : fadd (kpS x w V m t s) (fmul (chm x w V m s t) (wF w s)) with
      | none =>
        rw [hy] at b2
        rw [show mm_L M4 66 22 = 0 from b2, if_pos rfl]
        exact Or.inl ⟨M4, rfl, kpS_none (r := s + 1) (by omega) (ek.trans hy), call⟩
      | some z =>
        obtain ⟨a, b⟩ := z
        have okz := kpS_ok hx hw ho hm ht (s + 1) (by omega)
        rw [ek, hy] at okz
        obtain ⟨z1, z2, z3, z4⟩ := okz a b rfl
        have hL : mm_L M4 66 22 = lN b := by rw [hy] at b2; exact b2.2
        rw [if_neg (show ¬ mm_L M4 66 22 = 0 by rw [hL]; exact fun q => by have := (ln_eq0 z2).mp q; omega), G_66_21 h4', Option.bind_some, Option.bind_some, nI_1]
        rcases m_kp1 K hm ht k (s + 1) (mm_L M4 66 21) (mm_L M4 66 22) M4 (by omega) (by omega) h4' (hr.cu call) (hK.cu call) ⟨_, ek.trans hy⟩ (by rw [ek]; exact Ar_of b2) with ⟨M5, d1, d2, d3⟩ | ⟨A5, B5, M5, d1, d2, d3, d4⟩
        · exact Or.inl ⟨M5, d1, d2, call.tr d3⟩
        · exact Or.inr ⟨A5, B5, M5, d1, d2, d3, call.tr d4⟩
theorem m_kp2 (hm : m < nm) : ∀ (k j t : Nat) (M : Mm), t + j = ns x → j < k → Shp M → RB x w V nm M → KnV x w V m M → ∃ M', lp_X7_keeps_27 66 (nI m) k (nI t) M = some (kpR x w V m j t, M') ∧ Cu M M'
  | 0, j, t, M, _, h2, _, _, _ => absurd h2 (by omega)
  | k + 1, j, t, M, h1, h2, h, hr, hK => by
    have hx := hr.1.1
    have hw := hr.2.1.1
    have ho := hr.2.2.1
    have h16 := (gz_1 x hx).2.1
    rw [lp_X7_keeps_27, G_66_2 h, Option.bind_some, hr.1.2.2.1]
    cases j with
    | zero =>
      rw [if_pos (nI_le (by omega) (by omega))]
      exact ⟨M, rfl, Cu.rf⟩
    | succ j =>
      have hlt : t < ns x := by omega
      have ht16 := gz_n hx hlt
      have kw := hw t
      rw [if_neg (nI_ge hlt (by omega))]
      have ek : kpR x w V m (j + 1) t = match kpS x w V m t (ns x) with
        | none => -4
        | some z => if z.1 = w t ∧ z.2 = 1 then kpR x w V m j (t + 1) else 0 := rfl
      rw [ek]
      rcases m_kp1 (fun (l_25_3 : Int64) (l_25_5 : Int64) (M_25 : Mm) => if l_25_5 = (1 : Int64) then (op_gR M_25 7 66 3).bind fun x_27 => (op_aI M_25 x_27 (nI t)).bind fun x_28 => if l_25_3 = x_28.toInt64 then lp_X7_keeps_27 66 (nI m) k (nI t + 1) M_25 else some ((0 : Int32), M_25) else some ((0 : Int32), M_25)) hm hlt FU 0 (0 : Int64) (1 : Int64) M (by omega) (by unfold FU; omega) h hr hK ⟨_, rfl⟩ ⟨rfl, rfl⟩ with ⟨M1, a1, a2, a3⟩ | ⟨A, B, M1, a1, a2, ⟨z, a3⟩, a4⟩
      · rw [a2]
        exact ⟨M1, a1, a3⟩
      · obtain ⟨a, b⟩ := z
        have okk := kpS_ok hx hw ho hm hlt (ns x) (Nat.le_refl _)
        rw [a3] at a2 okk
        obtain ⟨z1, z2, z3, z4⟩ := okk a b rfl
        have hA : A = lN a := a2.1
        have hB : B = lN b := a2.2
        have h1' := a4.1 h
        have r1 := hr.cu a4
        rw [a3]
        show ∃ M', _ = some ((if a = w t ∧ b = 1 then kpR x w V m j (t + 1) else 0), M') ∧ _
        have sh : ∀ {R : Option (Int32 × Mm)}, (if B = (1 : Int64) then (op_gR M1 7 66 3).bind fun x_27 => (op_aI M1 x_27 (nI t)).bind fun x_28 => if A = x_28.toInt64 then lp_X7_keeps_27 66 (nI m) k (nI t + 1) M1 else some ((0 : Int32), M1) else some ((0 : Int32), M1)) = R → lp_X7_keeps_43 (fun (l_25_3 : Int64) (l_25_5 : Int64) (M_25 : Mm) => if l_25_5 = (1 : Int64) then (op_gR M_25 7 66 3).bind fun x_27 => (op_aI M_25 x_27 (nI t)).bind fun x_28 => if l_25_3 = x_28.toInt64 then lp_X7_keeps_27 66 (nI m) k (nI t + 1) M_25 else some ((0 : Int32), M_25) else some ((0 : Int32), M_25)) 66 (nI m) (nI t) FU (0 : Int64) (1 : Int64) (0 : Int32) M = R := fun e => Eq.trans a1 e
        by_cases eb : b = 1
        · by_cases ea : a = w t
          · obtain ⟨M2, b1, b2⟩ := m_kp2 hm k j (t + 1) M1 (by omega) (by omega) h1' r1 (hK.cu a4)
            rw [if_pos ⟨ea, eb⟩]
            refine ⟨M2, sh ?_, a4.tr b2⟩
            rw [hB, hA, if_pos (show lN b = (1 : Int64) by rw [eb]; rfl), G_66_3 h1', Option.bind_some, A_68 h1' ht16, Option.bind_some, r1.2.1.2 t ht16, nI_l (by omega), if_pos (by rw [ea]), nI_1]
            exact b1
          · rw [if_neg (fun q => ea q.1)]
            refine ⟨M1, sh ?_, a4⟩
            rw [hB, hA, if_pos (show lN b = (1 : Int64) by rw [eb]; rfl), G_66_3 h1', Option.bind_some, A_68 h1' ht16, Option.bind_some, r1.2.1.2 t ht16, nI_l (by omega), if_neg (fun q => ea ((pk_lEQ z1 (by omega)).mp q))]
        · rw [if_neg (fun q => eb q.2)]
          refine ⟨M1, sh ?_, a4⟩
          rw [hB, if_neg (show ¬ lN b = (1 : Int64) from fun q => eb ((pk_lEQ (b := 1) z2 (by decide)).mp q))]
theorem m_gb1 (K : Mm → Option (Int32 × Mm)) (hm : m < nm) (hs : s < ns x) : ∀ (k j t : Nat) (M : Mm), t + j = ns x → j < k → Shp M → RB x w V nm M → KnV x w V m M → ∃ M', lp_X7_goesBack_39 K 66 (nI m) (nI s) k (nI t) M = (match gbI x w V m s j t with | none => K M' | some r => some (r, M')) ∧ Cu M M'
  | 0, j, t, M, _, h2, _, _, _ => absurd h2 (by omega)
  | k + 1, j, t, M, h1, h2, h, hr, hK => by
    have hx := hr.1.1
    have hw := hr.2.1.1
    have ho := hr.2.2.1
    have hn := hr.2.2.2.1
    have h16 := (gz_1 x hx).2.1
    have hs16 := gz_n hx hs
    rw [lp_X7_goesBack_39, G_66_2 h, Option.bind_some, hr.1.2.2.1]
    cases j with
    | zero =>
      rw [if_pos (nI_le (by omega) (by omega))]
      exact ⟨M, rfl, Cu.rf⟩
    | succ j =>
      have hlt : t < ns x := by omega
      have ht16 := gz_n hx hlt
      have kw := hw s
      have kt := hw t
      have hl := at_lt hx (show m < 10 by omega) hs hlt
      have hl2 := at_lt hx (show m < 10 by omega) hlt hs
      have c1 : Cu M (mm_wL (mm_wL M 66 21 (mm_L M 76 (256 * m + 16 * s + t))) 66 22 (mm_L M 77 (256 * m + 16 * s + t))) := Cu_put
      have e1 : FrM (chm x w V m s t) (mm_wL (mm_wL M 66 21 (mm_L M 76 (256 * m + 16 * s + t))) 66 22 (mm_L M 77 (256 * m + 16 * s + t))) := Fr_put (hK s hs t hlt)
      have s1 := m_takes h hl
      generalize mm_wL (mm_wL M 66 21 (mm_L M 76 (256 * m + 16 * s + t))) 66 22 (mm_L M 77 (256 * m + 16 * s + t)) = M1 at c1 e1 s1
      have h1' := c1.1 h
      have r1 := hr.cu c1
      have ok1 := chm_ok hx hw ho hm hs hlt
      have ok2 := chm_ok hx hw ho hm hlt hs
      obtain ⟨M2, a1, a2, a3⟩ := m_times (z := wF w s) (A := lN (w s)) (B := 1) h1' e1 (by unfold wF; rw [low_1]; exact ⟨rfl, rfl⟩) ok1 (wF_ok hw)
      have h2' := a3.1 h1'
      have r2 := r1.cu a3
      have c12 := c1.tr a3
      have c3 : Cu M2 (mm_wL (mm_wL M2 66 21 (mm_L M2 76 (256 * m + 16 * t + s))) 66 22 (mm_L M2 77 (256 * m + 16 * t + s))) := Cu_put
      have e3 : FrM (chm x w V m t s) (mm_wL (mm_wL M2 66 21 (mm_L M2 76 (256 * m + 16 * t + s))) 66 22 (mm_L M2 77 (256 * m + 16 * t + s))) := Fr_put ((hK.cu c12) t hlt s hs)
      have s3 := m_takes h2' hl2
      generalize mm_wL (mm_wL M2 66 21 (mm_L M2 76 (256 * m + 16 * t + s))) 66 22 (mm_L M2 77 (256 * m + 16 * t + s)) = M3 at c3 e3 s3
      have h3' := c3.1 h2'
      have r3 := r2.cu c3
      obtain ⟨M4, b1, b2, b3⟩ := m_times (z := wF w t) (A := lN (w t)) (B := 1) h3' e3 (by unfold wF; rw [low_1]; exact ⟨rfl, rfl⟩) ok2 (wF_ok hw)
      have h4' := b3.1 h3'
      have call := (c12.tr c3).tr b3
      have k1 := fmul_ok ok1 (wF_ok (s := s) hw)
      have k2 := fmul_ok ok2 (wF_ok (s := t) hw)
      rw [if_neg (nI_ge hlt (by omega)), I_66 h, Option.bind_some, m_at, Option.bind_some, Option.bind_some, s1, Option.bind_some, G_66_3 h1', Option.bind_some, A_68 h1' hs16, Option.bind_some, I_66 h1', Option.bind_some, r1.2.1.2 s hs16, nI_l (by omega), a1, Option.bind_some, G_66_21 h2', Option.bind_some, G_66_22 h2', Option.bind_some, I_66 h2', Option.bind_some, m_at, Option.bind_some, Option.bind_some, s3, Option.bind_some, G_66_3 h3', Option.bind_some, A_68 h3' ht16, Option.bind_some, I_66 h3', Option.bind_some, r3.2.1.2 t ht16, nI_l (by omega), b1, Option.bind_some]
      have eg : gbI x w V m s (j + 1) t = match fmul (chm x w V m s t) (wF w s), fmul (chm x w V m t s) (wF w t) with
        | some y, some z => if y.1 = z.1 ∧ y.2 = z.2 then gbI x w V m s j (t + 1) else some 0
        | _, _ => some (-4) := rfl
      rw [eg]
      generalize fmul (chm x w V m s t) (wF w s) = y1 at a2 k1
      generalize fmul (chm x w V m t s) (wF w t) = y2 at b2 k2
      cases y1 with
      | none =>
        rw [if_pos (show mm_L M2 66 22 = 0 from a2)]
        exact ⟨M4, rfl, call⟩
      | some y =>
        obtain ⟨a, b⟩ := y
        obtain ⟨p1, p2, p3, p4⟩ := k1 a b rfl
        have ea : mm_L M2 66 21 = lN a := a2.1
        have eb : mm_L M2 66 22 = lN b := a2.2
        rw [ea, eb, if_neg (fun q => by have := (ln_eq0 p2).mp q; omega), G_66_22 h4', Option.bind_some]
        cases y2 with
        | none =>
          rw [if_pos (show mm_L M4 66 22 = 0 from b2)]
          exact ⟨M4, rfl, call⟩
        | some z =>
          obtain ⟨c, d⟩ := z
          obtain ⟨q1, q2, q3, q4⟩ := k2 c d rfl
          have ec : mm_L M4 66 21 = lN c := b2.1
          have ed : mm_L M4 66 22 = lN d := b2.2
          rw [ed, if_neg (fun q => by have := (ln_eq0 q2).mp q; omega), G_66_21 h4', Option.bind_some, ec]
          by_cases e1 : a = c
          · rw [if_pos (by rw [e1]), Option.bind_some]
            by_cases e2 : b = d
            · rw [if_pos (by rw [e2]), nI_1]
              simp only [if_pos (And.intro e1 e2)]
              obtain ⟨M5, i1, i2⟩ := m_gb1 K hm hs k j (t + 1) M4 (by omega) (by omega) h4' (hr.cu call) (hK.cu call)
              exact ⟨M5, i1, call.tr i2⟩
            · rw [if_neg (fun q => e2 ((pk_lEQ p2 q2).mp q))]
              simp only [if_neg (fun q : a = c ∧ b = d => e2 q.2)]
              exact ⟨M4, rfl, call⟩
          · rw [if_neg (fun q => e1 ((pk_lEQ p1 q1).mp q))]
            simp only [if_neg (fun q : a = c ∧ b = d => e1 q.1)]
            exact ⟨M4, rfl, call⟩
theorem m_gb2 (hm : m < nm) : ∀ (k j s : Nat) (M : Mm), s + j = ns x → j < k → Shp M → RB x w V nm M → KnV x w V m M → ∃ M', lp_X7_goesBack_27 66 (nI m) k (nI s) M = some (gbR x w V m j s, M') ∧ Cu M M'
  | 0, j, s, M, _, h2, _, _, _ => absurd h2 (by omega)
  | k + 1, j, s, M, h1, h2, h, hr, hK => by
    have hx := hr.1.1
    have h16 := (gz_1 x hx).2.1
    rw [lp_X7_goesBack_27, G_66_2 h, Option.bind_some, hr.1.2.2.1]
    cases j with
    | zero =>
      rw [if_pos (nI_le (by omega) (by omega))]
      exact ⟨M, rfl, Cu.rf⟩
    | succ j =>
      have hlt : s < ns x := by omega
      rw [if_neg (nI_ge hlt (by omega)), nI_1]
      obtain ⟨M1, a1, a2⟩ := m_gb1 (fun (M_30 : Mm) => lp_X7_goesBack_27 66 (nI m) k (nI (s + 1)) M_30) hm hlt FU (ns x - (s + 1)) (s + 1) M (by omega) (by unfold FU; omega) h hr hK
      rw [a1]
      have eg : gbR x w V m (j + 1) s = match gbI x w V m s (ns x - (s + 1)) (s + 1) with
        | none => gbR x w V m j (s + 1)
        | some r => r := rfl
      rw [eg]
      cases gbI x w V m s (ns x - (s + 1)) (s + 1) with
      | none =>
        obtain ⟨M2, b1, b2⟩ := m_gb2 hm k j (s + 1) M1 (by omega) (by omega) (a2.1 h) (hr.cu a2) (hK.cu a2)
        exact ⟨M2, b1, a2.tr b2⟩
      | some r => exact ⟨M1, rfl, a2⟩
end
