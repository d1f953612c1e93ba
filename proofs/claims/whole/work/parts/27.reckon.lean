def RC (x : Zt) (w : Nat → Nat) (V : Mv) (nm cg : Nat) (M : Mm) : Prop := GeoC x M ∧ WtC w M ∧ okV x V nm ∧ nm ≤ 10 ∧ MvC V nm (ns x) M ∧ CaC x w V nm cg M
def KnUp (cg : Nat) (M M' : Mm) : Prop := (∀ a, a < 10 → mm_I M (7 + 5 * a) 10 = nI cg → mm_I M' (7 + 5 * a) 10 = nI cg) ∧ ∀ a b c, a < 10 → b < 16 → c < 16 → Kn cg a b c M → Kn cg a b c M'
def RkOk (rc : Nat → Int32 → Int32 → Int32 → Int32 → Mm → Option Mm) (x : Zt) (w : Nat → Nat) (V : Mv) (nm cg lim : Nat) : Prop := ∀ m s t dep M, Shp M → RC x w V nm cg M → m < nm → s < ns x → t < ns x → vD V m + dep ≤ 2 → vD V m < lim → ∃ M', rc 57 (nI m) (nI s) (nI t) (nI dep) M = some M' ∧ CaC x w V nm cg M' ∧ Kn cg m s t M' ∧ KnUp cg M M' ∧ Cr M M'
section
variable {M M' M'' : Mm} {x : Zt} {w : Nat → Nat} {V : Mv} {nm cg m s t q n lim dep : Nat} {rc : Nat → Int32 → Int32 → Int32 → Int32 → Mm → Option Mm}
theorem KnUp.rf : KnUp cg M M := ⟨fun _ _ k => k, fun _ _ _ _ _ _ k => k⟩
theorem KnUp.tr (h : KnUp cg M M') (h' : KnUp cg M' M'') : KnUp cg M M'' := ⟨fun a ha k => h'.1 a ha (h.1 a ha k), fun a b c ha hb hc k => h'.2 a b c ha hb hc (h.2 a b c ha hb hc k)⟩
theorem KnUp.fq (h : Ch FS M M') : KnUp cg M M' := ⟨fun a ha k => (h.I (nFS (by omega))).trans k, fun _ _ _ ha _ _ k => k.fq ha h⟩
theorem RC.fq (h : RC x w V nm cg M) (hc : Ch FS M M') : RC x w V nm cg M' := ⟨h.1.fq hc, h.2.1.fq hc, h.2.2.1, h.2.2.2.1, h.2.2.2.2.1.cr h.2.2.2.1 (Cr.fq hc), h.2.2.2.2.2.fq h.2.2.2.1 hc⟩
theorem RC.cr (h : RC x w V nm cg M) (hc : Cr M M') (ha : CaC x w V nm cg M') : RC x w V nm cg M' := ⟨h.1.cr hc, h.2.1.cr hc, h.2.2.1, h.2.2.2.1, h.2.2.2.2.1.cr h.2.2.2.1 hc, ha⟩
theorem p_mix (hR : RkOk rc x w V nm cg lim) (h : Shp M) (hr : RC x w V nm cg M) (hm : m < nm) (hs : s < ns x) (ht : t < ns x) (h5 : vK V m = 5) (hd : vD V m + dep ≤ 2) (hl : vD V m ≤ lim) : ∃ M', f_X0_mix rc 57 (7 + 5 * m) (nI s) (nI t) (nI dep) M = some M' ∧ FrC 58 (chm x w V m s t) M' ∧ RC x w V nm cg M' ∧ KnUp cg M M' ∧ Cr M M' := by
  have hx := hr.1.1
  have hw := hr.2.1.1
  have ho := hr.2.2.1
  have hn := hr.2.2.2.1
  have hm10 : m < 10 := by omega
  obtain ⟨-, -, o3, o4, ⟨p1, p2, q1, q2⟩, -⟩ := ho m hm
  obtain ⟨ha, hb, hdd⟩ := o3 (by omega)
  have m1 := Nat.le_max_left (vD V (vA V m)) (vD V (vB V m))
  have m2 := Nat.le_max_right (vD V (vA V m)) (vD V (vB V m))
  have fa : ∀ {N : Mm}, RC x w V nm cg N → mm_I N (7 + 5 * m) 1 = nI (vA V m) ∧ mm_I N (7 + 5 * m) 2 = nI (vB V m) ∧ mm_I N (7 + 5 * m) 3 = nI (vP V m) ∧ mm_I N (7 + 5 * m) 4 = nI (vQ V m) := fun hN => by
    obtain ⟨-, b1, b2, b3, b4, -⟩ := hN.2.2.2.2.1.2 m hm
    exact ⟨b1 (by omega), b2 (by omega), b3, b4⟩
  have ed : nI dep + (1 : Int32) = nI (dep + 1) := nI_1 dep
  obtain ⟨M1, a1, a2, a3, a4, a5⟩ := hR (vA V m) s t (dep + 1) M h hr (by omega) hs ht (by omega) (by omega)
  have h1 := a5.1 h
  have r1 := hr.cr a5 a2
  obtain ⟨M2, b1, b2, b3, b4, b5⟩ := hR (vB V m) s t (dep + 1) M1 h1 r1 (by omega) hs ht (by omega) (by omega)
  have h2 := b5.1 h1
  have r2 := r1.cr b5 b2
  have kA := b4.2 _ _ _ (by omega) (gz_n hx hs) (gz_n hx ht) a3
  obtain ⟨M3, c1, c2, c3⟩ := p_load h2 hx hw ho b2 hn (show vA V m < nm by omega) hs ht kA fq59
  have f3 := c3.fq fs59
  have h3 := f3.1 h2
  have r3 := r2.fq f3
  have c4 : Ch (· = 58) M3 (stF M3 58 (low (vP V m) (vP V m + vQ V m))) := stF_c rfl
  have f4 := c4.fq fs58
  have h4 := f4.1 h3
  have r4 := r3.fq f4
  have l1ok : frok (some (low (vP V m) (vP V m + vQ V m))) := low_ok (by omega) (by omega) (by omega)
  have l2ok : frok (some (low (vQ V m) (vP V m + vQ V m))) := low_ok (by omega) (by omega) (by omega)
  have okA := chm_ok hx hw ho (show vA V m < nm by omega) hs ht
  have okB := chm_ok hx hw ho (show vB V m < nm by omega) hs ht
  have e4 : FrC 58 (some (low (vP V m) (vP V m + vQ V m))) (stF M3 58 (low (vP V m) (vP V m + vQ V m))) := stF_r
  have e3 := c2.ch c4 (by decide)
  have s4 : f_X1_set 58 (nI (vP V m)).toInt64 ((nI (vP V m) + nI (vQ V m)).toInt64) M3 = some (stF M3 58 (low (vP V m) (vP V m + vQ V m))) := by
    rw [nI_add, nI_l (by omega), nI_l (by omega), p_set h3 fq58 (by omega) (by omega) (by omega)]
  generalize stF M3 58 (low (vP V m) (vP V m + vQ V m)) = M4 at c4 f4 h4 r4 e4 e3 s4
  obtain ⟨M5, g1, g2, g3⟩ := p_times h4 fq58 fq59 (by decide) e4 e3 l1ok okA
  have f5 := g3.fq fs58
  have h5' := f5.1 h4
  have r5 := r4.fq f5
  have f25 : Ch FS M2 M5 := (f3.tr f4).tr f5
  have kB : Kn cg (vB V m) s t M5 := b3.fq (by omega) f25
  obtain ⟨M6, i1, i2, i3⟩ := p_load h5' hx hw ho r5.2.2.2.2.2 hn (show vB V m < nm by omega) hs ht kB fq60
  have f6 := i3.fq fs60
  have h6 := f6.1 h5'
  have r6 := r5.fq f6
  have c7 : Ch (· = 59) M6 (stF M6 59 (low (vQ V m) (vP V m + vQ V m))) := stF_c rfl
  have f7 := c7.fq fs59
  have h7 := f7.1 h6
  have r7 := r6.fq f7
  have e7 : FrC 59 (some (low (vQ V m) (vP V m + vQ V m))) (stF M6 59 (low (vQ V m) (vP V m + vQ V m))) := stF_r
  have e6 := i2.ch c7 (by decide)
  have e58 := (g2.ch i3 (by decide)).ch c7 (by decide)
  have s7 : f_X1_set 59 (nI (vQ V m)).toInt64 ((nI (vP V m) + nI (vQ V m)).toInt64) M6 = some (stF M6 59 (low (vQ V m) (vP V m + vQ V m))) := by
    rw [nI_add, nI_l (by omega), nI_l (by omega), p_set h6 fq59 (by omega) (by omega) (by omega)]
  generalize stF M6 59 (low (vQ V m) (vP V m + vQ V m)) = M7 at c7 f7 h7 r7 e7 e6 e58 s7
  obtain ⟨M8, j1, j2, j3⟩ := p_times h7 fq59 fq60 (by decide) e7 e6 l2ok okB
  have f8 := j3.fq fs59
  have h8 := f8.1 h7
  have r8 := r7.fq f8
  have e8 := e58.ch j3 (by decide)
  obtain ⟨M9, k1, k2, k3⟩ := p_add h8 fq58 fq59 (by decide) e8 j2 (fmul_ok l1ok okA) (fmul_ok l2ok okB) (sg := 1) (Or.inl ⟨rfl, rfl⟩)
  have f9 := k3.fq fs58
  have r9 := r8.fq f9
  have f29 : Ch FS M2 M9 := (((f25.tr f6).tr f7).tr f8).tr f9
  refine ⟨M9, ?_, by rw [chm_5 ho hm h5]; exact k2, r9, (a4.tr b4).tr (KnUp.fq f29), (a5.tr b5).tr (Cr.fq f29)⟩
  unfold f_X0_mix
  rw [G_m_1 h hm10, Option.bind_some, I_57 h, Option.bind_some, (fa hr).1, ed, a1, Option.bind_some, G_m_2 h1 hm10, Option.bind_some, I_57 h1, Option.bind_some, (fa r1).2.1, b1, Option.bind_some, G_m_3 h2 hm10, Option.bind_some, G_m_4 h2 hm10, Option.bind_some, G_57_1 h2, Option.bind_some, G_m_1 h2 hm10, Option.bind_some, (fa r2).1, A_6 h2 (by omega), Option.bind_some, G_57_3 h2, Option.bind_some, I_m h2 (by omega), Option.bind_some, c1, Option.bind_some, G_57_2 h3, Option.bind_some, G_m_3 h3 hm10, Option.bind_some, I_58 h3, Option.bind_some, (fa r2).2.2.1, (fa r2).2.2.2, (fa r3).2.2.1, s4, Option.bind_some, G_57_2 h4, Option.bind_some, G_57_3 h4, Option.bind_some, I_58 h4, Option.bind_some, g1, Option.bind_some, G_57_1 h5', Option.bind_some, G_m_2 h5' hm10, Option.bind_some, (fa r5).2.1, A_6 h5' (by omega), Option.bind_some, G_57_4 h5', Option.bind_some, I_m h5' (by omega), Option.bind_some, i1, Option.bind_some, G_57_3 h6, Option.bind_some, G_m_4 h6 hm10, Option.bind_some, I_59 h6, Option.bind_some, (fa r6).2.2.2, s7, Option.bind_some, G_57_3 h7, Option.bind_some, G_57_4 h7, Option.bind_some, I_59 h7, Option.bind_some, j1, Option.bind_some, G_57_2 h8, Option.bind_some, G_57_3 h8, Option.bind_some, I_58 h8, Option.bind_some, k1, Option.bind_some]
end
