def FS (a : Nat) : Prop := 58 ≤ a ∧ a ≤ 60
theorem fs58 : FS 58 := ⟨by omega, by omega⟩
theorem fs59 : FS 59 := ⟨by omega, by omega⟩
theorem fs60 : FS 60 := ⟨by omega, by omega⟩
def TdC (m : Nat) (c : Nat → Nat → Nat) (n : Nat) (M : Mm) : Prop := (∀ s t, c s t ≤ 100) ∧ (∀ s, s < 16 → ∀ t, t < 16 → mm_I M (8 + 5 * m) (s * 16 + t) = nI (c s t)) ∧ ∀ s, s < 16 → mm_I M (9 + 5 * m) s = nI (sm (c s) n)
section
variable {M M' : Mm} {x : Zt} {w : Nat → Nat} {c : Nat → Nat → Nat} {s p v t m q n : Nat} {S : Nat → Prop}
theorem GeoC.ch (h : GeoC x M) (hc : Ch S M M') (h1 : ¬ S 1) (h2 : ¬ S 2) (h3 : ¬ S 3) (h4 : ¬ S 4) : GeoC x M' := ⟨h.1, (hc.I h1).trans h.2.1, (hc.I h1).trans h.2.2.1, fun p hp => (hc.I h2).trans (h.2.2.2.1 p hp), fun p hp => (hc.I h3).trans (h.2.2.2.2.1 p hp), fun s hs p hp => (hc.I h4).trans (h.2.2.2.2.2 s hs p hp)⟩
theorem WtC.ch (h : WtC w M) (hc : Ch S M M') (h5 : ¬ S 5) : WtC w M' := ⟨h.1, fun s hs => (hc.I h5).trans (h.2 s hs)⟩
theorem TdC.ch (h : TdC m c n M) (hc : Ch S M M') (h1 : ¬ S (8 + 5 * m)) (h2 : ¬ S (9 + 5 * m)) : TdC m c n M' := ⟨h.1, fun s hs t ht => (hc.I h1).trans (h.2.1 s hs t ht), fun s hs => (hc.I h2).trans (h.2.2 s hs)⟩
theorem nFS {k : Nat} (h : k < 58) : ¬ FS k := fun e => by have := e.1; omega
theorem GeoC.fq (h : GeoC x M) (hc : Ch FS M M') : GeoC x M' := h.ch hc (nFS (by omega)) (nFS (by omega)) (nFS (by omega)) (nFS (by omega))
theorem WtC.fq (h : WtC w M) (hc : Ch FS M M') : WtC w M' := h.ch hc (nFS (by omega))
theorem TdC.fq (h : TdC m c n M) (hm : m < 10) (hc : Ch FS M M') : TdC m c n M' := h.ch hc (nFS (by omega)) (nFS (by omega))
theorem Ch.fq (h : Ch (· = q) M M') (hq : FS q) : Ch FS M M' := h.mo (fun a e => by subst e; exact hq)
theorem p_toldOf (h : Shp M) (hm : m < 10) (ht : TdC m c n M) (hs : s < 16) (hu : t < 16) : f_X2_toldOf (7 + 5 * m) (nI s) (nI t) M = some (nI (c s t)) := by
  have e : nI s * (16 : Int32) + nI t = nI (s * 16 + t) := by rw [show (16 : Int32) = nI 16 from rfl, pk_mul, nI_add]
  unfold f_X2_toldOf
  rw [G_m_6 h hm, Option.bind_some, e, A_m_0 h hm (by omega), Option.bind_some, ht.2.1 s hs t hu]
theorem p_pull (h : Shp M) (hm : m < 10) (hw : WtC w M) (ht : TdC m c n M) (hn : n ≤ 16) (hs : s < 16) (hu : t < 16) : f_X3_pull 1 (7 + 5 * m) (nI s) (nI t) M = some (lN (cX w c n s t)) := by
  have k1 := hw.1 t
  have k2 := ht.1 t s
  have k3 := cS_le (s := s) ht.1 hn
  unfold f_X3_pull
  rw [G_1_5 h, Option.bind_some, A_5 h hu, Option.bind_some, I_m h hm, Option.bind_some, p_toldOf h hm ht hu hs, Option.bind_some, G_m_7 h hm, Option.bind_some, A_m_1 h hm hs, Option.bind_some, hw.2 t hu, ht.2.2 s hs, nI_l (by omega), nI_l (by omega), nI_l (by omega), lN_mul, lN_mul]
  rfl
theorem p_tellOther (h : Shp M) (hm : m < 10) (hw : WtC w M) (ht : TdC m c n M) (hn : n ≤ 16) (hs : s < n) (hu : t < n) (hq : FQ q) : f_X0_tellOther 57 (7 + 5 * m) (nI s) (nI t) q M = some (stF M q (cTo w c n s t)) := by
  have hs16 : s < 16 := by omega
  have hu16 : t < 16 := by omega
  have k1 := hw.1 s
  have k2 := ht.1 s t
  have k3 := cS_le (s := s) ht.1 hn
  have k4 := cX_le (s := s) (t := t) hw.1 ht.1 hn
  have k5 := cX_le (s := t) (t := s) hw.1 ht.1 hn
  have k6 := cp1 (s := s) (t := t) hw.1 ht.1 hn
  have k7 := cp2 (s := s) (t := t) hw.1 ht.1 hn
  have iq : op_is M q 1 = some () := sh_op h hq.l hq.k
  simp only [f_X0_tellOther, I_m h hm, Option.bind_some, p_toldOf h hm ht hs16 hu16, G_m_7 h hm, A_m_1 h hm hs16, ht.2.2 s hs16, G_57_0 h, I_1 h, p_pull h hm hw ht hn hs16 hu16, p_pull h hm hw ht hn hu16 hs16, G_1_5 h, A_5 h hs16, hw.2 s hs16, iq]
  rw [nI_l (by omega), nI_l (by omega)]
  unfold cTo
  by_cases e1 : c s t = 0
  · rw [if_pos e1, e1, if_pos (show lN 0 = (0 : Int64) from rfl), l0, l1, p_set h hq (by omega) (by omega) (by omega), Option.bind_some]
  · have h3 := cS_pos hu e1
    rw [if_neg e1, if_neg (fun e => e1 ((ln_eq0 (by omega)).mp e))]
    by_cases e2 : w s = 0
    · simp only [e2, show (nI 0 = (0 : Int32)) = True from eq_true rfl, if_true]
      rw [if_neg (by decide), if_neg (by decide), p_set h hq (by omega) (by omega) h3, Option.bind_some]
    · rw [if_neg e2]
      simp only [if_neg (nI_ne0 (n := w s) (by omega) (by omega)), if_true]
      by_cases e3 : cX w c n s t = 0
      · rw [if_pos e3, e3, if_pos (show lN 0 = (0 : Int64) from rfl), l0, l1, p_set h hq (by omega) (by omega) (by omega), Option.bind_some]
      · rw [if_neg e3, if_neg (fun e => e3 ((ln_eq0 (by omega)).mp e))]
        by_cases e4 : cX w c n s t < cX w c n t s
        · rw [if_pos e4, if_pos ((pk_lLT (by omega) (by omega)).mpr e4), lN_mul, lN_mul, p_set h hq (by omega) (by omega) (Nat.mul_pos h3 (by omega)), Option.bind_some]
        · rw [if_neg e4, if_neg (fun e => e4 ((pk_lLT (by omega) (by omega)).mp e)), p_set h hq (by omega) (by omega) h3, Option.bind_some]
theorem p_tell_l (hm : m < 10) (hx : x ∈ OKZ) (hs : s < ns x) : ∀ (k u : Nat) (M : Mm), u ≤ ns x → ns x - u < k → Shp M → GeoC x M → WtC w M → TdC m c (ns x) M → FrC 58 (cTl w c (ns x) s u) M → ∃ M', lp_X0_tell_29 57 (7 + 5 * m) (nI s) k (nI u) M = some M' ∧ FrC 58 (cTl w c (ns x) s (ns x)) M' ∧ Ch FS M M'
  | 0, u, M, _, h2, _, _, _, _, _ => absurd h2 (by omega)
  | k + 1, u, M, h1, h2, h, hg, hw, ht, hf => by
    have hn := (gz_1 x hx).2.1
    have hs16 := gz_n hx hs
    rw [lp_X0_tell_29, G_57_0 h, Option.bind_some, G_1_1 h, Option.bind_some, hg.2.2.1]
    by_cases hu : u = ns x
    · rw [if_pos (nI_le (by omega) (by omega))]
      subst hu
      exact ⟨M, rfl, hf, Ch.rf⟩
    · have hlt : u < ns x := by omega
      rw [if_neg (nI_ge hlt (by omega))]
      simp only [op_jn]
      by_cases e : u = s
      · rw [if_pos (by rw [e]), nI_1]
        exact p_tell_l hm hx hs k (u + 1) M (by omega) (by omega) h hg hw ht (by rw [show cTl w c (ns x) s (u + 1) = cTl w c (ns x) s u from if_pos e]; exact hf)
      · rw [if_neg (fun q => e ((nI_eq (by omega) (by omega)).mp q)), G_57_3 h, Option.bind_some, I_57 h, Option.bind_some, p_tellOther h hm hw ht hn hs hlt fq59, Option.bind_some]
        have c1 : Ch (· = 59) M (stF M 59 (cTo w c (ns x) s u)) := stF_c rfl
        have h' : Shp (stF M 59 (cTo w c (ns x) s u)) := c1.1 h
        have hok := cTo_ok (s := s) hw.1 ht.1 hn hlt
        obtain ⟨M2, a1, a2, a3⟩ := p_add h' fq58 fq59 (by decide) (hf.ch c1 (by decide)) stF_r (cTl_in (s := s) hw.1 ht.1 hn u (by omega)).1 hok (sg := -1) (R := fsub (cTl w c (ns x) s u) (some (cTo w c (ns x) s u))) (Or.inr ⟨rfl, rfl, cTl_nn hw.1 ht.1 hn hlt e⟩)
        rw [G_57_2 h', Option.bind_some, G_57_3 h', Option.bind_some, I_58 h', Option.bind_some, a1, Option.bind_some, nI_1]
        have c2 : Ch FS M M2 := (c1.fq fs59).tr (a3.fq fs58)
        obtain ⟨M3, b1, b2, b3⟩ := p_tell_l hm hx hs k (u + 1) M2 (by omega) (by omega) (c2.1 h) (hg.fq c2) (hw.fq c2) (ht.fq hm c2) (by rw [show cTl w c (ns x) s (u + 1) = fsub (cTl w c (ns x) s u) (some (cTo w c (ns x) s u)) from if_neg e]; exact a2)
        exact ⟨M3, b1, b2, c2.tr b3⟩
theorem p_tell (h : Shp M) (hm : m < 10) (hg : GeoC x M) (hw : WtC w M) (ht : TdC m c (ns x) M) (hs : s < ns x) (hu : t < ns x) : ∃ M', f_X0_tell 57 (7 + 5 * m) (nI s) (nI t) M = some M' ∧ FrC 58 (cTel w c (ns x) s t) M' ∧ Ch FS M M' := by
  have hn := (gz_1 x hg.1).2.1
  have hs16 := gz_n hg.1 hs
  have hu16 := gz_n hg.1 hu
  unfold f_X0_tell cTel
  by_cases e : s = t
  · rw [if_pos (by rw [e]), if_pos e, G_57_2 h, Option.bind_some, I_58 h, Option.bind_some, l1, p_set h fq58 (by decide) (by decide) (by omega), Option.bind_some]
    have c1 : Ch (· = 58) M (stF M 58 (low 1 1)) := stF_c rfl
    have c2 := c1.fq fs58
    obtain ⟨M2, a1, a2, a3⟩ := p_tell_l (w := w) (c := c) hm hg.1 hs FU 0 (stF M 58 (low 1 1)) (by omega) (by unfold FU; omega) (c1.1 h) (hg.fq c2) (hw.fq c2) (ht.fq hm c2) stF_r
    exact ⟨M2, a1, a2, c2.tr a3⟩
  · rw [if_neg (fun q => e ((nI_eq (by omega) (by omega)).mp q)), if_neg e, G_57_2 h, Option.bind_some, I_57 h, Option.bind_some, p_tellOther h hm hw ht hn hs hu fq58, Option.bind_some]
    exact ⟨_, rfl, stF_r, (stF_c (S := (· = 58)) rfl).fq fs58⟩
end
