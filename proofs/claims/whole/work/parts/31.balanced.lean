section
variable {M M' M'' : Mm} {x : Zt} {w : Nat → Nat} {V : Mv} {nm cg m s t q n : Nat}
theorem p_gb1 (K : Mm → Option (Int32 × Mm)) (hm : m < nm) (hs : s < ns x) : ∀ (k j t : Nat) (M : Mm), t + j = ns x → j < k → Shp M → RC x w V nm cg M → ∃ M', lp_X0_isBalanced_17 K 57 (nI m) (nI s) k (nI t) M = (match gbI x w V m s j t with | none => K M' | some r => some (r, M')) ∧ RC x w V nm cg M' ∧ Cc M M'
  | 0, j, t, M, _, h2, _, _ => absurd h2 (by omega)
  | k + 1, j, t, M, h1, h2, h, hr => by
    have hx := hr.1.1
    have hw := hr.2.1.1
    have ho := hr.2.2.1
    have hn := hr.2.2.2.1
    have h16 := (gz_1 x hx).2.1
    have hs16 := gz_n hx hs
    rw [lp_X0_isBalanced_17, G_57_0 h, Option.bind_some, G_1_1 h, Option.bind_some, hr.1.2.2.1]
    cases j with
    | zero =>
      rw [if_pos (nI_le (by omega) (by omega))]
      exact ⟨M, rfl, hr, Cc.rf⟩
    | succ j =>
      have hlt : t < ns x := by omega
      have ht16 := gz_n hx hlt
      obtain ⟨M1, a1, a2, a3, a4, a5⟩ := p_reckon 4 m s t 0 M h hr hm hs hlt (dpt ho hm).1 (dpt ho hm).2
      have h1' := a5.1 h
      have r1 := hr.cr a5 a2
      obtain ⟨M2, b1, b2, b3, b4, b5⟩ := p_reckon 4 m t s 0 M1 h1' r1 hm hlt hs (dpt ho hm).1 (dpt ho hm).2
      have h2' := b5.1 h1'
      have r2 := r1.cr b5 b2
      have kA := b4.2 _ _ _ (by omega) hs16 ht16 a3
      obtain ⟨M3, c1, c2, c3⟩ := p_weigh h2' r2 hm hs hlt kA fq61 (by decide)
      have h3' := c3.1 h2'
      have r3 := r2.ch c3 (q60 fq61)
      have kB := b3.ch (by omega) c3 (q60 fq61)
      obtain ⟨M4, d1, d2, d3⟩ := p_weigh h3' r3 hm hlt hs kB fq62 (by decide)
      have h4' := d3.1 h3'
      have r4 := r3.ch d3 (q60 fq62)
      have e61 := c2.ch d3 (by decide)
      have cc : Cc M M4 := (((Cc.cr a5).tr (Cc.cr b5)).tr (Cc.ch c3 (fun a e => by rcases e with e | e <;> omega))).tr (Cc.ch d3 (fun a e => by rcases e with e | e <;> omega))
      have ok1 := fmul_ok (chm_ok hx hw ho hm hs hlt) (wF_ok (s := s) hw)
      have ok2 := fmul_ok (chm_ok hx hw ho hm hlt hs) (wF_ok (s := t) hw)
      rw [if_neg (nI_ge hlt (by omega)), I_57 h, Option.bind_some, show f_X0_reckon 4 57 (nI m) (nI s) (nI t) 0 M = some M1 from a1, Option.bind_some, I_57 h1', Option.bind_some, show f_X0_reckon 4 57 (nI m) (nI t) (nI s) 0 M1 = some M2 from b1, Option.bind_some, G_57_5 h2', Option.bind_some, I_57 h2', Option.bind_some, c1, Option.bind_some, G_57_6 h3', Option.bind_some, I_57 h3', Option.bind_some, d1, Option.bind_some, G_57_5 h4', Option.bind_some, G_61_2 h4', Option.bind_some]
      have eg : gbI x w V m s (j + 1) t = match fmul (chm x w V m s t) (wF w s), fmul (chm x w V m t s) (wF w t) with
        | some y, some z => if y.1 = z.1 ∧ y.2 = z.2 then gbI x w V m s j (t + 1) else some 0
        | _, _ => some (-4) := rfl
      rw [eg]
      generalize fmul (chm x w V m s t) (wF w s) = y1 at e61 ok1
      generalize fmul (chm x w V m t s) (wF w t) = y2 at d2 ok2
      cases y1 with
      | none =>
        rw [show mm_I M4 61 2 = 0 from e61, if_pos rfl]
        exact ⟨M4, rfl, r4, cc⟩
      | some y =>
        rw [e61.2.2, if_neg (by decide), G_57_6 h4', Option.bind_some, G_62_2 h4', Option.bind_some]
        cases y2 with
        | none =>
          rw [show mm_I M4 62 2 = 0 from d2, if_pos rfl]
          exact ⟨M4, rfl, r4, cc⟩
        | some z =>
          obtain ⟨a, b⟩ := y
          obtain ⟨c, d⟩ := z
          obtain ⟨p1, p2, p3, p4⟩ := ok1 a b rfl
          obtain ⟨q1, q2, q3, q4⟩ := ok2 c d rfl
          rw [d2.2.2, if_neg (by decide), Option.bind_some, Option.bind_some, I_61 h4', Option.bind_some, p_isSame h4' fq61 fq62 e61 d2 p1 p2 q1 q2, Option.bind_some]
          by_cases es : a = c ∧ b = d
          · rw [if_pos es, if_neg (by decide), nI_1]
            simp only [if_pos es]
            obtain ⟨M5, i1, i2, i3⟩ := p_gb1 K hm hs k j (t + 1) M4 (by omega) (by omega) h4' r4
            exact ⟨M5, i1, i2, cc.tr i3⟩
          · rw [if_neg es, if_pos rfl]
            simp only [if_neg es]
            exact ⟨M4, rfl, r4, cc⟩
theorem p_gb2 (hm : m < nm) : ∀ (k j s : Nat) (M : Mm), s + j = ns x → j < k → Shp M → RC x w V nm cg M → ∃ M', lp_X0_isBalanced_2 57 (nI m) k (nI s) M = some (gbR x w V m j s, M') ∧ RC x w V nm cg M' ∧ Cc M M'
  | 0, j, s, M, _, h2, _, _ => absurd h2 (by omega)
  | k + 1, j, s, M, h1, h2, h, hr => by
    have hx := hr.1.1
    have h16 := (gz_1 x hx).2.1
    rw [lp_X0_isBalanced_2, G_57_0 h, Option.bind_some, G_1_1 h, Option.bind_some, hr.1.2.2.1]
    cases j with
    | zero =>
      rw [if_pos (nI_le (by omega) (by omega))]
      exact ⟨M, rfl, hr, Cc.rf⟩
    | succ j =>
      have hlt : s < ns x := by omega
      rw [if_neg (nI_ge hlt (by omega)), nI_1]
      obtain ⟨M1, a1, a2, a3⟩ := p_gb1 (fun (M_24 : Mm) => lp_X0_isBalanced_2 57 (nI m) k (nI (s + 1)) M_24) hm hlt FU (ns x - (s + 1)) (s + 1) M (by omega) (by unfold FU; omega) h hr
      rw [a1]
      have eg : gbR x w V m (j + 1) s = match gbI x w V m s (ns x - (s + 1)) (s + 1) with
        | none => gbR x w V m j (s + 1)
        | some r => r := rfl
      rw [eg]
      cases gbI x w V m s (ns x - (s + 1)) (s + 1) with
      | none =>
        obtain ⟨M2, b1, b2, b3⟩ := p_gb2 hm k j (s + 1) M1 (by omega) (by omega) (a3.1 h) a2
        exact ⟨M2, b1, b2, a3.tr b3⟩
      | some r => exact ⟨M1, rfl, a2, a3⟩
theorem p_isBalanced (h : Shp M) (hr : RC x w V nm cg M) (hm : m < nm) : ∃ M', f_X0_isBalanced 57 (nI m) M = some (gbR x w V m (ns x) 0, M') ∧ RC x w V nm cg M' ∧ Cc M M' := by
  unfold f_X0_isBalanced
  exact p_gb2 hm FU (ns x) 0 M (by omega) (by have := (gz_1 x hr.1.1).2.1; unfold FU; omega) h hr
theorem p_find (h : Shp M) (hr : RC x w V nm cg M) (hm : m < nm) (hs : s < ns x) (ht : t < ns x) : ∃ M', f_X0_find 57 (nI m) (nI s) (nI t) M = some (58, M') ∧ FrC 58 (chm x w V m s t) M' ∧ RC x w V nm cg M' ∧ Cc M M' := by
  have hx := hr.1.1
  have hw := hr.2.1.1
  have ho := hr.2.2.1
  have hn := hr.2.2.2.1
  obtain ⟨M1, a1, a2, a3, a4, a5⟩ := p_reckon 4 m s t 0 M h hr hm hs ht (dpt ho hm).1 (dpt ho hm).2
  have h1 := a5.1 h
  have r1 := hr.cr a5 a2
  obtain ⟨M2, b1, b2, b3⟩ := p_load h1 hx hw ho a2 hn hm hs ht a3 fq58
  have h2 := b3.1 h1
  refine ⟨M2, ?_, b2, r1.ch b3 (fun a e => by omega), (Cc.cr a5).tr (Cc.ch b3 (fun a e => by omega))⟩
  unfold f_X0_find
  rw [I_57 h, Option.bind_some, show f_X0_reckon 4 57 (nI m) (nI s) (nI t) 0 M = some M1 from a1, Option.bind_some, G_57_1 h1, Option.bind_some, A_6 h1 (by omega), Option.bind_some, G_57_2 h1, Option.bind_some, I_m h1 (by omega), Option.bind_some, b1, Option.bind_some, G_57_2 h2, Option.bind_some]
end
