def wF (w : Nat → Nat) (s : Nat) : Fq := some (low (w s) 1)
def kpS (x : Zt) (w : Nat → Nat) (V : Mv) (m t : Nat) : Nat → Fq
  | 0 => some (0, 1)
  | s + 1 => fadd (kpS x w V m t s) (fmul (chm x w V m s t) (wF w s))
def kpR (x : Zt) (w : Nat → Nat) (V : Mv) (m : Nat) : Nat → Nat → Int32
  | 0, _ => 1
  | k + 1, t => match kpS x w V m t (ns x) with
    | none => -4
    | some z => if z.1 = w t ∧ z.2 = 1 then kpR x w V m k (t + 1) else 0
def gbI (x : Zt) (w : Nat → Nat) (V : Mv) (m s : Nat) : Nat → Nat → Option Int32
  | 0, _ => none
  | k + 1, t => match fmul (chm x w V m s t) (wF w s), fmul (chm x w V m t s) (wF w t) with
    | some y, some z => if y.1 = z.1 ∧ y.2 = z.2 then gbI x w V m s k (t + 1) else some 0
    | _, _ => some (-4)
def gbR (x : Zt) (w : Nat → Nat) (V : Mv) (m : Nat) : Nat → Nat → Int32
  | 0, _ => 1
  | k + 1, s => match gbI x w V m s (ns x - (s + 1)) (s + 1) with
    | none => gbR x w V m k (s + 1)
    | some r => r
theorem low_1 {a : Nat} : low a 1 = (a, 1) := by
  unfold low
  rw [Nat.gcd_one_right, Nat.div_one, Nat.div_one]
section
variable {M M' M'' : Mm} {x : Zt} {w : Nat → Nat} {V : Mv} {nm cg m s t q n : Nat}
theorem wF_ok (hw : ∀ s, w s ≤ 1000) : frok (wF w s) := low_ok (by omega) (by have := hw s; omega) (by omega)
theorem kpS_ok (hx : x ∈ OKZ) (hw : ∀ s, w s ≤ 1000) (ho : okV x V nm) (hm : m < nm) (ht : t < ns x) : ∀ s, s ≤ ns x → frok (kpS x w V m t s)
  | 0, _ => fr01
  | s + 1, hs => fadd_ok (kpS_ok hx hw ho hm ht s (by omega)) (fmul_ok (chm_ok hx hw ho hm (by omega) ht) (wF_ok hw))
theorem kpS_none : ∀ {n r : Nat}, r ≤ n → kpS x w V m t r = none → kpS x w V m t n = none
  | 0, r, h, e => by rw [show r = 0 by omega] at e; exact e
  | n + 1, r, h, e => by
    by_cases q : r = n + 1
    · rw [q] at e; exact e
    · have := kpS_none (show r ≤ n by omega) e
      show fadd (kpS x w V m t n) _ = none
      rw [this]
      rfl
theorem p_weigh (h : Shp M) (hr : RC x w V nm cg M) (hm : m < nm) (hs : s < ns x) (ht : t < ns x) (hk : Kn cg m s t M) (hq : FQ q) (h60 : q ≠ 60) : ∃ M', f_X0_weigh 57 (nI m) (nI s) (nI t) q M = some M' ∧ FrC q (fmul (chm x w V m s t) (wF w s)) M' ∧ Ch (fun a => a = q ∨ a = 60) M M' := by
  have hx := hr.1.1
  have hw := hr.2.1.1
  have ho := hr.2.2.1
  have hn := hr.2.2.2.1
  have hm10 : m < 10 := by omega
  have hs16 := gz_n hx hs
  have k1 := hw s
  obtain ⟨M1, a1, a2, a3⟩ := p_load h hx hw ho hr.2.2.2.2.2 hn hm hs ht hk hq
  have h1 := a3.1 h
  have r1 := hr.ch a3 (fun a e => by have := hq.1; omega)
  have c2 : Ch (· = 60) M1 (stF M1 60 (low (w s) 1)) := stF_c rfl
  have h2 := c2.1 h1
  have e60 : FrC 60 (wF w s) (stF M1 60 (low (w s) 1)) := stF_r
  obtain ⟨M3, b1, b2, b3⟩ := p_times h2 hq fq60 (fun e => h60 e.symm) (a2.ch c2 (fun e => h60 e)) e60 (chm_ok hx hw ho hm hs ht) (wF_ok hw)
  refine ⟨M3, ?_, b2, ((a3.mo (fun a e => Or.inl e)).tr (c2.mo (fun a e => Or.inr e))).tr (b3.mo (fun a e => Or.inl e))⟩
  unfold f_X0_weigh
  rw [G_57_1 h, Option.bind_some, A_6 h hm10, Option.bind_some, I_m h hm10, Option.bind_some, a1, Option.bind_some, G_57_4 h1, Option.bind_some, G_57_0 h1, Option.bind_some, G_1_5 h1, Option.bind_some, A_5 h1 hs16, Option.bind_some, I_60 h1, Option.bind_some, r1.2.1.2 s hs16, nI_l (by omega), show f_X1_set 60 (lN (w s)) 1 M1 = some (stF M1 60 (low (w s) 1)) from p_set (b := 1) h1 fq60 (by omega) (by omega) (by omega), Option.bind_some, G_57_4 h2, Option.bind_some, sh_op h2 hq.l hq.k, Option.bind_some, b1, Option.bind_some]
theorem q60 (hq : FQ q) : ∀ a, (fun a => a = q ∨ a = 60) a → 58 ≤ a := fun a e => by
  have := hq.1
  rcases e with e | e <;> omega
theorem dpt (ho : okV x V nm) (hm : m < nm) : vD V m + 0 ≤ 2 ∧ vD V m < 4 := by have := (ho m hm).2.2.2.1; omega
theorem p_kp1 (K : Mm → Option (Int32 × Mm)) (hm : m < nm) (ht : t < ns x) : ∀ (k s : Nat) (M : Mm), s ≤ ns x → ns x - s < k → Shp M → RC x w V nm cg M → FrC 61 (kpS x w V m t s) M → ∃ M', lp_X0_isKeeping_24 K 57 (nI m) (nI t) k (nI s) M = K M' ∧ FrC 61 (kpS x w V m t (ns x)) M' ∧ RC x w V nm cg M' ∧ Cc M M'
  | 0, s, M, _, h2, _, _, _ => absurd h2 (by omega)
  | k + 1, s, M, h1, h2, h, hr, hf => by
    have hx := hr.1.1
    have hw := hr.2.1.1
    have ho := hr.2.2.1
    have hn := hr.2.2.2.1
    have h16 := (gz_1 x hx).2.1
    rw [lp_X0_isKeeping_24, G_57_0 h, Option.bind_some, G_1_1 h, Option.bind_some, hr.1.2.2.1]
    by_cases e : s = ns x
    · rw [if_pos (nI_le (by omega) (by omega))]
      subst e
      exact ⟨M, rfl, hf, hr, Cc.rf⟩
    · have hlt : s < ns x := by omega
      rw [if_neg (nI_ge hlt (by omega)), G_57_5 h, Option.bind_some, G_61_2 h, Option.bind_some]
      cases hy : kpS x w V m t s with
      | none =>
        rw [hy] at hf
        rw [show mm_I M 61 2 = 0 from hf, if_pos rfl]
        exact ⟨M, rfl, by rw [kpS_none (by omega) hy]; exact hf, hr, Cc.rf⟩
      | some z =>
        have hfit : mm_I M 61 2 = 1 := by rw [hy] at hf; exact hf.2.2
        obtain ⟨M1, a1, a2, a3, a4, a5⟩ := p_reckon 4 m s t 0 M h hr hm hlt ht (dpt ho hm).1 (dpt ho hm).2
        have h1' := a5.1 h
        have r1 := hr.cr a5 a2
        obtain ⟨M2, b1, b2, b3⟩ := p_weigh h1' r1 hm hlt ht a3 fq62 (by decide)
        have h2' := b3.1 h1'
        have r2 := r1.ch b3 (q60 fq62)
        have e61 : FrC 61 (kpS x w V m t s) M2 := (hf.cr a5 (by omega)).ch b3 (by decide)
        obtain ⟨M3, c1, c2, c3⟩ := p_add h2' fq61 fq62 (by decide) e61 b2 (kpS_ok hx hw ho hm ht s (by omega)) (fmul_ok (chm_ok hx hw ho hm hlt ht) (wF_ok hw)) (sg := 1) (Or.inl ⟨rfl, rfl⟩)
        have h3' := c3.1 h2'
        have r3 := r2.ch c3 (fun a e => by omega)
        rw [hfit, if_neg (by decide), I_57 h, Option.bind_some, show f_X0_reckon 4 57 (nI m) (nI s) (nI t) 0 M = some M1 from a1, Option.bind_some, G_57_6 h1', Option.bind_some, I_57 h1', Option.bind_some, b1, Option.bind_some, G_57_5 h2', Option.bind_some, G_57_6 h2', Option.bind_some, I_61 h2', Option.bind_some, c1, Option.bind_some, nI_1]
        obtain ⟨M4, d1, d2, d3, d4⟩ := p_kp1 K hm ht k (s + 1) M3 (by omega) (by omega) h3' r3 c2
        exact ⟨M4, d1, d2, d3, (((Cc.cr a5).tr (Cc.ch b3 (fun a e => by rcases e with e | e <;> omega))).tr (Cc.ch c3 (fun a e => by omega))).tr d4⟩
theorem p_kp2 (hm : m < nm) : ∀ (k j t : Nat) (M : Mm), t + j = ns x → j < k → Shp M → RC x w V nm cg M → ∃ M', lp_X0_isKeeping_2 57 (nI m) k (nI t) M = some (kpR x w V m j t, M') ∧ RC x w V nm cg M' ∧ Cc M M'
  | 0, j, t, M, _, h2, _, _ => absurd h2 (by omega)
  | k + 1, j, t, M, h1, h2, h, hr => by
    have hx := hr.1.1
    have hw := hr.2.1.1
    have ho := hr.2.2.1
    have h16 := (gz_1 x hx).2.1
    rw [lp_X0_isKeeping_2, G_57_0 h, Option.bind_some, G_1_1 h, Option.bind_some, hr.1.2.2.1]
    cases j with
    | zero =>
      rw [if_pos (nI_le (by omega) (by omega))]
      exact ⟨M, rfl, hr, Cc.rf⟩
    | succ j =>
      have hlt : t < ns x := by omega
      have ht16 := gz_n hx hlt
      have k1 := hw t
      have c0 : Ch (· = 61) M (stF M 61 (low 0 1)) := stF_c rfl
      have hs0 := c0.1 h
      have r0 := hr.ch c0 (fun a e => by omega)
      rw [if_neg (nI_ge hlt (by omega)), G_57_5 h, Option.bind_some, I_61 h, Option.bind_some, show f_X1_set 61 (0 : Int64) (1 : Int64) M = some (stF M 61 (low 0 1)) from p_set (a := 0) (b := 1) h fq61 (by omega) (by omega) (by omega), Option.bind_some]
      obtain ⟨M1, a1, a2, a3, a4⟩ := p_kp1 (fun (M_19 : Mm) => (op_gR M_19 0 57 5).bind fun x_20 => (op_gI M_19 1 x_20 2).bind fun x_21 => if x_21 = 0 then some ((-4 : Int32), M_19) else (op_gR M_19 0 57 6).bind fun x_23 => (op_gR M_19 0 57 0).bind fun x_24 => (op_gR M_19 3 x_24 5).bind fun x_25 => (op_aI M_19 x_25 (nI t)).bind fun x_26 => (op_is M_19 x_23 1).bind fun _ => (f_X1_set x_23 x_26.toInt64 (1 : Int64) M_19).bind fun z_27 => (op_gR z_27 0 57 5).bind fun x_28 => (op_gR z_27 0 57 6).bind fun x_29 => (op_is z_27 x_28 1).bind fun _ => (f_X1_isSame x_28 x_29 z_27).bind fun z_30 => if z_30 = 0 then some ((0 : Int32), z_27) else lp_X0_isKeeping_2 57 (nI m) k (nI t + 1) z_27) hm hlt FU 0 (stF M 61 (low 0 1)) (by omega) (by unfold FU; omega) hs0 r0 stF_r
      have cc1 : Cc M M1 := (Cc.ch c0 (fun a e => by omega)).tr a4
      have h1' := cc1.1 h
      have okk := kpS_ok hx hw ho hm hlt (ns x) (Nat.le_refl _)
      have goal : ∀ {R : Option (Int32 × Mm)}, lp_X0_isKeeping_24 (fun (M_19 : Mm) => (op_gR M_19 0 57 5).bind fun x_20 => (op_gI M_19 1 x_20 2).bind fun x_21 => if x_21 = 0 then some ((-4 : Int32), M_19) else (op_gR M_19 0 57 6).bind fun x_23 => (op_gR M_19 0 57 0).bind fun x_24 => (op_gR M_19 3 x_24 5).bind fun x_25 => (op_aI M_19 x_25 (nI t)).bind fun x_26 => (op_is M_19 x_23 1).bind fun _ => (f_X1_set x_23 x_26.toInt64 (1 : Int64) M_19).bind fun z_27 => (op_gR z_27 0 57 5).bind fun x_28 => (op_gR z_27 0 57 6).bind fun x_29 => (op_is z_27 x_28 1).bind fun _ => (f_X1_isSame x_28 x_29 z_27).bind fun z_30 => if z_30 = 0 then some ((0 : Int32), z_27) else lp_X0_isKeeping_2 57 (nI m) k (nI t + 1) z_27) 57 (nI m) (nI t) FU (0 : Int32) (stF M 61 (low 0 1)) = R → ((op_gR M1 0 57 5).bind fun x_20 => (op_gI M1 1 x_20 2).bind fun x_21 => if x_21 = 0 then some ((-4 : Int32), M1) else (op_gR M1 0 57 6).bind fun x_23 => (op_gR M1 0 57 0).bind fun x_24 => (op_gR M1 3 x_24 5).bind fun x_25 => (op_aI M1 x_25 (nI t)).bind fun x_26 => (op_is M1 x_23 1).bind fun _ => (f_X1_set x_23 x_26.toInt64 (1 : Int64) M1).bind fun z_27 => (op_gR z_27 0 57 5).bind fun x_28 => (op_gR z_27 0 57 6).bind fun x_29 => (op_is z_27 x_28 1).bind fun _ => (f_X1_isSame x_28 x_29 z_27).bind fun z_30 => if z_30 = 0 then some ((0 : Int32), z_27) else lp_X0_isKeeping_2 57 (nI m) k (nI t + 1) z_27) = R := fun e => a1.symm.trans e
      have e0 := goal rfl
      rw [← e0, G_57_5 h1', Option.bind_some, G_61_2 h1', Option.bind_some]
      cases hy : kpS x w V m t (ns x) with
      | none =>
        rw [hy] at a2
        rw [show mm_I M1 61 2 = 0 from a2, if_pos rfl]
        refine ⟨M1, ?_, a3, cc1⟩
        show some ((-4 : Int32), M1) = some ((match kpS x w V m t (ns x) with | none => -4 | some z => if z.1 = w t ∧ z.2 = 1 then kpR x w V m j (t + 1) else 0), M1)
        rw [hy]
      | some z =>
        obtain ⟨a, b⟩ := z
        rw [hy] at a2 okk
        obtain ⟨z1, z2, z3, z4⟩ := okk a b rfl
        have c2 : Ch (· = 62) M1 (stF M1 62 (low (w t) 1)) := stF_c rfl
        have h2' := c2.1 h1'
        have r2 := a3.ch c2 (fun a e => by omega)
        have e62 : FrC 62 (some (w t, 1)) (stF M1 62 (low (w t) 1)) := by rw [← low_1]; exact stF_r
        have cc2 : Cc M (stF M1 62 (low (w t) 1)) := cc1.tr (Cc.ch c2 (fun a e => by omega))
        rw [a2.2.2, if_neg (by decide), G_57_6 h1', Option.bind_some, G_57_0 h1', Option.bind_some, G_1_5 h1', Option.bind_some, A_5 h1' ht16, Option.bind_some, I_62 h1', Option.bind_some, a3.2.1.2 t ht16, nI_l (by omega), show f_X1_set 62 (lN (w t)) 1 M1 = some (stF M1 62 (low (w t) 1)) from p_set (b := 1) h1' fq62 (by omega) (by omega) (by omega), Option.bind_some, G_57_5 h2', Option.bind_some, G_57_6 h2', Option.bind_some, I_61 h2', Option.bind_some, p_isSame h2' fq61 fq62 (a2.ch c2 (by decide)) e62 z1 z2 (by omega) (by omega), Option.bind_some]
        have ek : kpR x w V m (j + 1) t = if a = w t ∧ b = 1 then kpR x w V m j (t + 1) else 0 := by
          show (match kpS x w V m t (ns x) with | none => -4 | some z => if z.1 = w t ∧ z.2 = 1 then kpR x w V m j (t + 1) else 0) = _
          rw [hy]
        rw [ek]
        by_cases es : a = w t ∧ b = 1
        · rw [if_pos es, if_pos es, if_neg (by decide), nI_1]
          obtain ⟨M3, d1, d2, d3⟩ := p_kp2 hm k j (t + 1) _ (by omega) (by omega) h2' r2
          exact ⟨M3, d1, d2, cc2.tr d3⟩
        · rw [if_neg es, if_neg es, if_pos rfl]
          exact ⟨_, rfl, r2, cc2⟩
theorem p_isKeeping (h : Shp M) (hr : RC x w V nm cg M) (hm : m < nm) : ∃ M', f_X0_isKeeping 57 (nI m) M = some (kpR x w V m (ns x) 0, M') ∧ RC x w V nm cg M' ∧ Cc M M' := by
  unfold f_X0_isKeeping
  exact p_kp2 hm FU (ns x) 0 M (by omega) (by have := (gz_1 x hr.1.1).2.1; unfold FU; omega) h hr
end
