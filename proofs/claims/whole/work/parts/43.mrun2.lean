def Cz (i : Nat) (M M' : Mm) : Prop := (Shp M → Shp M') ∧ (∀ a k, ¬ (a = 66 ∧ k = 19) → ¬ (a = 82 ∧ i ≤ k) → mm_I M' a k = mm_I M a k) ∧ ∀ a k, ¬ (a = 66 ∧ k = 20) → mm_L M' a k = mm_L M a k
def cst : Nat → Nat
  | 0 => 1
  | d + 1 => 1 + cst d + cst d
section
variable {M M' M'' : Mm} {z : Zt} {w : Nat → Nat} {V : Mv} {c : Nat → Nat → Nat} {x n s t p m nm i k : Nat} {r : Int32}
theorem Cz.cy (h : Cy M M') : Cz i M M' := ⟨h.1, fun a k q _ => h.2.1 a k q, h.2.2⟩
theorem Cz.tr (h : Cz i M M') (h' : Cz i M' M'') : Cz i M M'' := ⟨fun z => h'.1 (h.1 z), fun a k q p => (h'.2.1 a k q p).trans (h.2.1 a k q p), fun a k q => (h'.2.2 a k q).trans (h.2.2 a k q)⟩
theorem Cz.mo {i' : Nat} (h : Cz i' M M') (hi : i ≤ i') : Cz i M M' := ⟨h.1, fun a k q p => h.2.1 a k q (by omega), h.2.2⟩
theorem Cz.wr {v : Int32} (hi : i ≤ k) : Cz i M (mm_wI M 82 k v) := ⟨fun q => q, fun a j _ p => by rw [mI_wI, if_neg (fun e => p ⟨e.1, by omega⟩)], fun _ _ _ => rfl⟩
theorem RB.cz (h : RB z w V nm M) (hc : Cz i M M') : RB z w V nm M' := h.fr (fun a k e => hc.2.1 a k (by omega) (by omega))
theorem m_dn0 (h : Shp M) (hr : RB z w V nm M) (hu : RuM x r M) (hm : m < nm) (hs : s < ns z) (hi : i < 8) (hp : mm_I M 82 i = nI m) (ek : vK V m = 0) : ∃ M', lp_X7_done_12 66 (k + 1) (nI s) (nI (i + 1)) M = lp_X7_done_12 66 k (nI (sRed z w (vA V m) s x r).1) (nI i) M' ∧ RuM (sRed z w (vA V m) s x r).2.1 (sRed z w (vA V m) s x r).2.2 M' ∧ Cy M M' ∧ (sRed z w (vA V m) s x r).1 < ns z := by
  obtain ⟨hg, hw, ho, hn, hmv⟩ := hr
  have hm10 : m < 10 := by omega
  obtain ⟨b0, b1, b2, b3, b4, b5, b6⟩ := hmv.2 m hm
  obtain ⟨o1, o2, o3, o4, o5, o6⟩ := ho m hm
  rw [ek] at b0
  have hpl := (o2 (by omega)).2.1 (by omega)
  obtain ⟨M1, a1, a2, a3, a4⟩ := m_redraw h hg hw hu hs hpl
  rw [lp_X7_done_12, if_neg (nI_nle (by omega) (by omega)), G_66_23 h, Option.bind_some, pk_m1, A_82 h hi, Option.bind_some, hp, G_66_6 h, Option.bind_some, A_70 h hm10, Option.bind_some, G_66_5 h, Option.bind_some, A_69 h hm10, Option.bind_some, b0]
  simp only [op_jn]
  rw [if_pos (show nI 0 = (0 : Int32) from rfl), I_66 h, Option.bind_some, b1 (by omega), a1, Option.bind_some]
  exact ⟨M1, rfl, a2, a3, a4⟩
theorem m_dn1 {b : Nat} (h : Shp M) (hr : RB z w V nm M) (hu : RuM x r M) (hm : m < nm) (hs : s < ns z) (hi : i < 8) (hp : mm_I M 82 i = nI m) (ek : vK V m = 1) (hb : dv x 2 = b) : ∃ M', lp_X7_done_12 66 (k + 1) (nI s) (nI (i + 1)) M = lp_X7_done_12 66 k (nI (sAcc w s (if b = 0 then nx z s (vA V m) else bf z s (vA V m)) (dn x) r).1) (nI i) M' ∧ RuM (sAcc w s (if b = 0 then nx z s (vA V m) else bf z s (vA V m)) (dn x) r).2.1 (sAcc w s (if b = 0 then nx z s (vA V m) else bf z s (vA V m)) (dn x) r).2.2 M' ∧ Cy M M' ∧ (sAcc w s (if b = 0 then nx z s (vA V m) else bf z s (vA V m)) (dn x) r).1 < ns z := by
  obtain ⟨hg, hw, ho, hn, hmv⟩ := hr
  have hm10 : m < 10 := by omega
  obtain ⟨b0, b1, b2, b3, b4, b5, b6⟩ := hmv.2 m hm
  obtain ⟨o1, o2, o3, o4, o5, o6⟩ := ho m hm
  rw [ek] at b0
  have hpl := (o2 (by omega)).2.1 (by omega)
  have hx1 := gz_9 z hg.1 s hs (vA V m) hpl
  obtain ⟨M1, a1, a2, a3⟩ := m_draw (n := 2) h hu (by omega) (by omega)
  have hb2 := dv_lt (x := x) (n := 2) (by omega)
  rw [hb] at a1 hb2
  have a1' : f_X7_draw 66 (2 : Int64) M = some (lN b, M1) := by
    rw [show (2 : Int64) = lN 2 from rfl]
    exact a1
  clear a1 hb
  have h1 := a3.1 h
  have g1 := hg.cy a3
  have w1 := hw.cy a3
  rw [lp_X7_done_12, if_neg (nI_nle (by omega) (by omega)), G_66_23 h, Option.bind_some, pk_m1, A_82 h hi, Option.bind_some, hp, G_66_6 h, Option.bind_some, A_70 h hm10, Option.bind_some, G_66_5 h, Option.bind_some, A_69 h hm10, Option.bind_some, b0]
  simp only [op_jn]
  rw [if_neg (show ¬ nI 1 = (0 : Int32) by decide), if_pos (show nI 1 = (1 : Int32) from rfl), I_66 h, Option.bind_some, b1 (by omega), a1', Option.bind_some, I_66 h1, Option.bind_some]
  dsimp only
  by_cases q : b = 0
  · obtain ⟨M2, c1, c2, c3, c4⟩ := m_accepted h1 g1 w1 a2 hs hx1.1
    rw [if_pos ((ln_eq0 (by omega)).mpr q), m_next h1 g1 hs hpl, Option.bind_some, Option.bind_some, c1, Option.bind_some, if_pos q]
    exact ⟨M2, rfl, c2, a3.tr c3, c4⟩
  · obtain ⟨M2, c1, c2, c3, c4⟩ := m_accepted h1 g1 w1 a2 hs hx1.2
    rw [if_neg (fun e => q ((ln_eq0 (by omega)).mp e)), m_before h1 g1 hs hpl, Option.bind_some, Option.bind_some, c1, Option.bind_some, if_neg q]
    exact ⟨M2, rfl, c2, a3.tr c3, c4⟩
theorem m_dn2 (h : Shp M) (hr : RB z w V nm M) (hu : RuM x r M) (hm : m < nm) (hs : s < ns z) (hi : i < 8) (hp : mm_I M 82 i = nI m) (ek : vK V m = 2) : ∃ M', lp_X7_done_12 66 (k + 1) (nI s) (nI (i + 1)) M = lp_X7_done_12 66 k (nI (sAcc w s (sw z s (vA V m) (vB V m)) x r).1) (nI i) M' ∧ RuM (sAcc w s (sw z s (vA V m) (vB V m)) x r).2.1 (sAcc w s (sw z s (vA V m) (vB V m)) x r).2.2 M' ∧ Cy M M' ∧ (sAcc w s (sw z s (vA V m) (vB V m)) x r).1 < ns z := by
  obtain ⟨hg, hw, ho, hn, hmv⟩ := hr
  have hm10 : m < 10 := by omega
  obtain ⟨b0, b1, b2, b3, b4, b5, b6⟩ := hmv.2 m hm
  obtain ⟨o1, o2, o3, o4, o5, o6⟩ := ho m hm
  rw [ek] at b0
  have hpl := (o2 (by omega)).2.1 (by omega)
  obtain ⟨hb, hab, hz⟩ := (o2 (by omega)).2.2 ek
  have hx1 := (gz_8 z hg.1 s hs _ hpl _ hb hab hz).2.1
  obtain ⟨M2, c1, c2, c3, c4⟩ := m_accepted h hg hw hu hs hx1
  rw [lp_X7_done_12, if_neg (nI_nle (by omega) (by omega)), G_66_23 h, Option.bind_some, pk_m1, A_82 h hi, Option.bind_some, hp, G_66_6 h, Option.bind_some, A_70 h hm10, Option.bind_some, G_66_5 h, Option.bind_some, A_69 h hm10, Option.bind_some, b0]
  simp only [op_jn]
  rw [if_neg (show ¬ nI 2 = (0 : Int32) by decide), if_neg (show ¬ nI 2 = (1 : Int32) by decide), if_pos (show nI 2 = (2 : Int32) from rfl), G_66_7 h, Option.bind_some, A_71 h hm10, Option.bind_some, I_66 h, Option.bind_some, b1 (by omega), b2 (by omega), m_swapped h hg hs hpl hb hab hz, Option.bind_some, Option.bind_some, c1, Option.bind_some]
  exact ⟨M2, rfl, c2, c3, c4⟩
theorem m_dn3 (h : Shp M) (hr : RB z w V nm M) (hu : RuM x r M) (hm : m < nm) (hs : s < ns z) (hi : i < 8) (hp : mm_I M 82 i = nI m) (ek : vK V m = 3) : ∃ M', lp_X7_done_12 66 (k + 1) (nI s) (nI (i + 1)) M = lp_X7_done_12 66 k (nI (sTol w (vT V m) (ns z) s x r).1) (nI i) M' ∧ RuM (sTol w (vT V m) (ns z) s x r).2.1 (sTol w (vT V m) (ns z) s x r).2.2 M' ∧ Cy M M' ∧ (sTol w (vT V m) (ns z) s x r).1 < ns z := by
  obtain ⟨hg, hw, ho, hn, hmv⟩ := hr
  have hm10 : m < 10 := by omega
  obtain ⟨b0, b1, b2, b3, b4, b5, b6⟩ := hmv.2 m hm
  rw [ek] at b0
  obtain ⟨M2, c1, c2, c3, c4⟩ := m_toldRun h hg hw hm10 b6 hu hs
  rw [lp_X7_done_12, if_neg (nI_nle (by omega) (by omega)), G_66_23 h, Option.bind_some, pk_m1, A_82 h hi, Option.bind_some, hp, G_66_6 h, Option.bind_some, A_70 h hm10, Option.bind_some, G_66_5 h, Option.bind_some, A_69 h hm10, Option.bind_some, b0]
  simp only [op_jn]
  rw [if_neg (show ¬ nI 3 = (0 : Int32) by decide), if_neg (show ¬ nI 3 = (1 : Int32) by decide), if_neg (show ¬ nI 3 = (2 : Int32) by decide), if_pos (show nI 3 = (3 : Int32) from rfl), I_66 h, Option.bind_some, c1, Option.bind_some]
  exact ⟨M2, rfl, c2, c3, c4⟩
theorem m_dn4 (h : Shp M) (hr : RB z w V nm M) (hu : RuM x r M) (hm : m < nm) (hs : s < ns z) (hi : i < 8) (hp : mm_I M 82 i = nI m) (ek : vK V m = 4) : ∃ M', lp_X7_done_12 66 (k + 1) (nI s) (nI (i + 1)) M = lp_X7_done_12 66 k (nI (sSli z w (vA V m) s x r).1) (nI i) M' ∧ RuM (sSli z w (vA V m) s x r).2.1 (sSli z w (vA V m) s x r).2.2 M' ∧ Cy M M' ∧ (sSli z w (vA V m) s x r).1 < ns z := by
  obtain ⟨hg, hw, ho, hn, hmv⟩ := hr
  have hm10 : m < 10 := by omega
  obtain ⟨b0, b1, b2, b3, b4, b5, b6⟩ := hmv.2 m hm
  obtain ⟨o1, o2, o3, o4, o5, o6⟩ := ho m hm
  rw [ek] at b0
  have hpl := (o2 (by omega)).2.1 (by omega)
  obtain ⟨M2, c1, c2, c3, c4⟩ := m_wslice h hg hw hu hs hpl
  rw [lp_X7_done_12, if_neg (nI_nle (by omega) (by omega)), G_66_23 h, Option.bind_some, pk_m1, A_82 h hi, Option.bind_some, hp, G_66_6 h, Option.bind_some, A_70 h hm10, Option.bind_some, G_66_5 h, Option.bind_some, A_69 h hm10, Option.bind_some, b0]
  simp only [op_jn]
  rw [if_neg (show ¬ nI 4 = (0 : Int32) by decide), if_neg (show ¬ nI 4 = (1 : Int32) by decide), if_neg (show ¬ nI 4 = (2 : Int32) by decide), if_neg (show ¬ nI 4 = (3 : Int32) by decide), if_pos (show nI 4 = (4 : Int32) from rfl), I_66 h, Option.bind_some, b1 (by omega), c1, Option.bind_some]
  exact ⟨M2, rfl, c2, c3, c4⟩
theorem m_dnP (h : Shp M) (hr : RB z w V nm M) (hu : RuM x r M) (hm : m < nm) (hs : s < ns z) (hi : i < 8) (hp : mm_I M 82 i = nI m) (hk : vK V m < 5) : ∃ M', lp_X7_done_12 66 (k + 1) (nI s) (nI (i + 1)) M = lp_X7_done_12 66 k (nI (sPl z w (vK V m) (vA V m) (vB V m) (vT V m) s x r).1) (nI i) M' ∧ RuM (sPl z w (vK V m) (vA V m) (vB V m) (vT V m) s x r).2.1 (sPl z w (vK V m) (vA V m) (vB V m) (vT V m) s x r).2.2 M' ∧ Cy M M' ∧ (sPl z w (vK V m) (vA V m) (vB V m) (vT V m) s x r).1 < ns z := by
  by_cases e0 : vK V m = 0
  · rw [e0, sPl_0]
    exact m_dn0 h hr hu hm hs hi hp e0
  · by_cases e1 : vK V m = 1
    · obtain ⟨b, hb⟩ : ∃ b, dv x 2 = b := ⟨_, rfl⟩
      rw [e1, sPl_1 hb]
      exact m_dn1 h hr hu hm hs hi hp e1 hb
    · by_cases e2 : vK V m = 2
      · rw [e2, sPl_2]
        exact m_dn2 h hr hu hm hs hi hp e2
      · by_cases e3 : vK V m = 3
        · rw [e3, sPl_3]
          exact m_dn3 h hr hu hm hs hi hp e3
        · have e4 : vK V m = 4 := by omega
          rw [e4, sPl_4]
          exact m_dn4 h hr hu hm hs hi hp e4
theorem m_dn : ∀ (d m s x : Nat) (r : Int32) (M : Mm) (i k : Nat), Shp M → RB z w V nm M → RuM x r M → m < nm → s < ns z → vD V m ≤ d → i + d < 8 → mm_I M 82 i = nI m → cst d ≤ k → ∃ k' M', k ≤ k' + cst d ∧ lp_X7_done_12 66 k (nI s) (nI (i + 1)) M = lp_X7_done_12 66 k' (nI (sM z w V d m s x r).1) (nI i) M' ∧ RuM (sM z w V d m s x r).2.1 (sM z w V d m s x r).2.2 M' ∧ Cz i M M' ∧ (sM z w V d m s x r).1 < ns z := by
  intro d
  induction d with
  | zero =>
    intro m s x r M i k h hr hu hm hs hd hi hp hk
    have hk5 : vK V m < 5 := by
      obtain ⟨o1, o2, o3, -⟩ := hr.2.2.1 m hm
      by_cases e : 5 ≤ vK V m
      · have := (o3 e).2.2; omega
      · omega
    obtain ⟨k, rfl⟩ : ∃ j, k = j + 1 := ⟨k - 1, by have : cst 0 = 1 := rfl; omega⟩
    obtain ⟨M1, a1, a2, a3, a4⟩ := m_dnP (k := k) h hr hu hm hs (by omega) hp hk5
    have e : sM z w V 0 m s x r = sPl z w (vK V m) (vA V m) (vB V m) (vT V m) s x r := by rw [sM]
    rw [e]
    exact ⟨k, M1, by have : cst 0 = 1 := rfl; omega, a1, a2, Cz.cy a3, a4⟩
  | succ d ih =>
    intro m s x r M i k h hr hu hm hs hd hi hp hk
    have hc : cst (d + 1) = 1 + cst d + cst d := rfl
    have hm10 : m < 10 := by have := hr.2.2.2.1; omega
    obtain ⟨o1, o2, o3, o4, ⟨p1, p2, q1, q2⟩, o6⟩ := hr.2.2.1 m hm
    obtain ⟨b0, b1, b2, b3, b4, b5, b6⟩ := hr.2.2.2.2.2 m hm
    obtain ⟨k, rfl⟩ : ∃ j, k = j + 1 := ⟨k - 1, by omega⟩
    by_cases hk5 : vK V m < 5
    · have e : sM z w V (d + 1) m s x r = sPl z w (vK V m) (vA V m) (vB V m) (vT V m) s x r := by
        rw [sM, if_neg (by omega), if_neg (by omega)]
      rw [e]
      obtain ⟨M1, a1, a2, a3, a4⟩ := m_dnP (k := k) h hr hu hm hs (by omega) hp hk5
      exact ⟨k, M1, by omega, a1, a2, Cz.cy a3, a4⟩
    · obtain ⟨ha, hb, hdd⟩ := o3 (by omega)
      have m1 := Nat.le_max_left (vD V (vA V m)) (vD V (vB V m))
      have m2 := Nat.le_max_right (vD V (vA V m)) (vD V (vB V m))
      have key : ∀ {C' : Nat}, vK V m ≠ C' → C' < 10 → ¬ nI (vK V m) = nI C' := fun hne hc e => hne ((nI_eq (by omega) (by omega)).mp e)
      rw [lp_X7_done_12, if_neg (nI_nle (by omega) (by omega)), G_66_23 h, Option.bind_some, pk_m1, A_82 h (by omega), Option.bind_some, hp, G_66_6 h, Option.bind_some, A_70 h hm10, Option.bind_some, G_66_5 h, Option.bind_some, A_69 h hm10, Option.bind_some, b0]
      simp only [op_jn]
      rw [if_neg (show ¬ nI (vK V m) = (0 : Int32) from key (C' := 0) (by omega) (by omega)), if_neg (show ¬ nI (vK V m) = (1 : Int32) from key (C' := 1) (by omega) (by omega)), if_neg (show ¬ nI (vK V m) = (2 : Int32) from key (C' := 2) (by omega) (by omega)), if_neg (show ¬ nI (vK V m) = (3 : Int32) from key (C' := 3) (by omega) (by omega)), if_neg (show ¬ nI (vK V m) = (4 : Int32) from key (C' := 4) (by omega) (by omega))]
      by_cases e5 : vK V m = 5
      · have e : sM z w V (d + 1) m s x r = if dv x (vP V m + vQ V m) < vP V m then sM z w V d (vA V m) s (dn x) r else sM z w V d (vB V m) s (dn x) r := by rw [sM, if_pos e5]
        rw [e]
        obtain ⟨M1, a1, a2, a3⟩ := m_draw (n := vP V m + vQ V m) h hu (by omega) (by omega)
        have h1 := a3.1 h
        have hd1 := dv_lt (x := x) (n := vP V m + vQ V m) (by omega)
        have f : ∀ a k, 67 ≤ a → mm_I M1 a k = mm_I M a k := fun a k ha => a3.2.1 _ _ (by omega)
        rw [if_pos (show nI (vK V m) = (5 : Int32) by rw [e5]; rfl), Option.bind_some, G_66_9 h, Option.bind_some, A_73 h hm10, Option.bind_some, G_66_10 h, Option.bind_some, A_74 h hm10, Option.bind_some, I_66 h, Option.bind_some, b3, b4, nI_add, nI_l (by omega), a1, Option.bind_some, G_66_9 h1, Option.bind_some, A_73 h1 hm10, Option.bind_some, f 73 m (by omega), b3, nI_l (by omega)]
        dsimp only
        by_cases q : dv x (vP V m + vQ V m) < vP V m
        · rw [if_neg (show ¬ lN (vP V m) ≤ lN (dv x (vP V m + vQ V m)) from fun e => by have := (pk_lLE (by omega) (by omega)).mp e; omega), S_82 h1 (by omega), Option.bind_some, b1 (by omega), nI_1, if_pos q]
          have c2 : Cz i M (mm_wI M1 82 i (nI (vA V m))) := (Cz.cy a3).tr (Cz.wr (Nat.le_refl _))
          obtain ⟨k', M2, d1, d2, d3, d4, d5⟩ := ih (vA V m) s (dn x) r (mm_wI M1 82 i (nI (vA V m))) i k (sh_wI h1) (hr.cz c2) ⟨a2.1, a2.2.1, by rw [mI_wI, if_neg (by omega)]; exact a2.2.2⟩ (by omega) hs (by omega) (by omega) (by rw [mI_wI, if_pos ⟨rfl, rfl⟩]) (by omega)
          exact ⟨k', M2, by omega, d2, d3, c2.tr d4, d5⟩
        · rw [if_pos (show lN (vP V m) ≤ lN (dv x (vP V m + vQ V m)) from (pk_lLE (by omega) (by omega)).mpr (by omega)), G_66_7 h1, Option.bind_some, A_71 h1 hm10, Option.bind_some, f 71 m (by omega), b2 (by omega), S_82 h1 (by omega), Option.bind_some, nI_1, if_neg q]
          have c2 : Cz i M (mm_wI M1 82 i (nI (vB V m))) := (Cz.cy a3).tr (Cz.wr (Nat.le_refl _))
          obtain ⟨k', M2, d1, d2, d3, d4, d5⟩ := ih (vB V m) s (dn x) r (mm_wI M1 82 i (nI (vB V m))) i k (sh_wI h1) (hr.cz c2) ⟨a2.1, a2.2.1, by rw [mI_wI, if_neg (by omega)]; exact a2.2.2⟩ (by omega) hs (by omega) (by omega) (by rw [mI_wI, if_pos ⟨rfl, rfl⟩]) (by omega)
          exact ⟨k', M2, by omega, d2, d3, c2.tr d4, d5⟩
      · have e6 : vK V m = 6 := by omega
        have e : sM z w V (d + 1) m s x r = sM z w V d (vB V m) (sM z w V d (vA V m) s x r).1 (sM z w V d (vA V m) s x r).2.1 (sM z w V d (vA V m) s x r).2.2 := by
          rw [sM, if_neg e5, if_pos e6]
        rw [e, if_neg (show ¬ nI (vK V m) = (5 : Int32) from key (C' := 5) e5 (by omega)), Option.bind_some, G_66_7 h, Option.bind_some, A_71 h hm10, Option.bind_some, b1 (by omega), b2 (by omega), S_82 h (by omega), Option.bind_some, G_66_23 (sh_wI h), Option.bind_some, nI_1, S_82 (sh_wI h) (by omega), Option.bind_some, show nI i + 2 = nI (i + 1 + 1) from nI_add i 2]
        have c1 : Cz i M (mm_wI (mm_wI M 82 i (nI (vB V m))) 82 (i + 1) (nI (vA V m))) := (Cz.wr (Nat.le_refl _)).tr (Cz.wr (by omega))
        obtain ⟨k1, M1, a0, a1, a2, a3, a4⟩ := ih (vA V m) s x r (mm_wI (mm_wI M 82 i (nI (vB V m))) 82 (i + 1) (nI (vA V m))) (i + 1) k (sh_wI (sh_wI h)) (hr.cz c1) ⟨hu.1, hu.2.1, by rw [mI_wI, if_neg (by omega), mI_wI, if_neg (by omega)]; exact hu.2.2⟩ (by omega) hs (by omega) (by omega) (by rw [mI_wI, if_pos ⟨rfl, rfl⟩]) (by omega)
        have h1 := a3.1 (sh_wI (sh_wI h))
        have c2 := c1.tr (a3.mo (i := i) (by omega))
        obtain ⟨k2, M2, d0, d1, d2, d3, d4⟩ := ih (vB V m) (sM z w V d (vA V m) s x r).1 (sM z w V d (vA V m) s x r).2.1 (sM z w V d (vA V m) s x r).2.2 M1 i k1 h1 (hr.cz c2) a2 (by omega) a4 (by omega) (by omega) (by rw [a3.2.1 82 i (by omega) (by omega), mI_wI, if_neg (by omega), mI_wI, if_pos ⟨rfl, rfl⟩]) (by omega)
        exact ⟨k2, M2, by omega, a1.trans d1, d2, c2.tr d3, d4⟩
theorem m_done (h : Shp M) (hr : RB z w V nm M) (hu : RuM x r M) (hm : m < nm) (hs : s < ns z) : ∃ M', f_X7_done 66 (nI m) (nI s) M = some (nI (sM z w V 3 m s x r).1, M') ∧ RuM (sM z w V 3 m s x r).2.1 (sM z w V 3 m s x r).2.2 M' ∧ Cz 0 M M' ∧ (sM z w V 3 m s x r).1 < ns z := by
  have hd := dpt hr.2.2.1 hm
  unfold f_X7_done
  rw [G_66_23 h, Option.bind_some, show (0 : Int32) = nI 0 from rfl, S_82 h (by omega), Option.bind_some]
  have c1 : Cz 0 M (mm_wI M 82 0 (nI m)) := Cz.wr (Nat.le_refl _)
  have hc : cst 3 = 15 := rfl
  obtain ⟨k1, M1, a0, a1, a2, a3, a4⟩ := m_dn 3 m s x r (mm_wI M 82 0 (nI m)) 0 FU (sh_wI h) (hr.cz c1) ⟨hu.1, hu.2.1, by rw [mI_wI, if_neg (by omega)]; exact hu.2.2⟩ hm hs (by omega) (by omega) (by rw [mI_wI, if_pos ⟨rfl, rfl⟩]) (by unfold FU; omega)
  refine ⟨M1, ?_, a2, c1.tr a3, a4⟩
  refine Eq.trans a1 ?_
  obtain ⟨k1, rfl⟩ : ∃ j, k1 = j + 1 := ⟨k1 - 1, by unfold FU at a0; omega⟩
  rw [lp_X7_done_12, if_pos (show nI 0 ≤ (0 : Int32) from nI_le (b := 0) (Nat.le_refl _) (by omega))]
def Hs (M M' : Mm) : Prop := (Shp M → Shp M') ∧ (∀ a k, ¬ (a = 66 ∧ (k = 17 ∨ k = 19)) → a ≠ 81 → a ≠ 82 → mm_I M' a k = mm_I M a k) ∧ ∀ a k, ¬ (a = 66 ∧ k = 20) → mm_L M' a k = mm_L M a k
theorem Hs.rf : Hs M M := ⟨id, fun _ _ _ _ _ => rfl, fun _ _ _ => rfl⟩
theorem Hs.tr (h : Hs M M') (h' : Hs M' M'') : Hs M M'' := ⟨fun z => h'.1 (h.1 z), fun a k q p u => (h'.2.1 a k q p u).trans (h.2.1 a k q p u), fun a k q => (h'.2.2 a k q).trans (h.2.2 a k q)⟩
theorem Hs.cz (h : Cz i M M') : Hs M M' := ⟨h.1, fun a k q p u => h.2.1 a k (by omega) (by omega), h.2.2⟩
theorem RB.hs (h : RB z w V nm M) (hc : Hs M M') : RB z w V nm M' := h.fr (fun a k e => hc.2.1 a k (by omega) (by omega) (by omega))
theorem CaM.hs (h : CaM z w V nm M) (hc : Hs M M') : CaM z w V nm M' := fun j hj => by
  rw [hc.2.1 78 j (by omega) (by omega) (by omega)]
  refine ⟨(h j hj).1, fun e s hs t ht => ?_⟩
  rw [hc.2.2 76 _ (by omega), hc.2.2 77 _ (by omega)]
  exact (h j hj).2 e s hs t ht
theorem m_run_l (K : Mm → Option (Int32 × Mm)) (hm : m < nm) (hn : n ≤ 200) : ∀ (k i : Nat) (M : Mm), i ≤ n → n - i < k → Shp M → RB z w V nm M → RuM (sT z w V m s x i).2.1 (sT z w V m s x i).2.2 M → (∀ j, j ≤ i → mm_I M 81 j = nI (sT z w V m s x j).1 ∧ (sT z w V m s x j).1 < ns z) → ∃ M', lp_X7_run_69 K 66 (nI m) (nI n) k (nI (i + 1)) M = K M' ∧ Hs M M' ∧ mm_I M' 66 17 = mm_I M 66 17 ∧ mm_I M' 66 19 = (sT z w V m s x n).2.2 ∧ ∀ j, j ≤ n → mm_I M' 81 j = nI (sT z w V m s x j).1 ∧ (sT z w V m s x j).1 < ns z
  | 0, i, M, _, h2, _, _, _, _ => absurd h2 (by omega)
  | k + 1, i, M, h1, h2, h, hr, hu, hp => by
    rw [lp_X7_run_69]
    by_cases e : i = n
    · subst e
      rw [if_pos (nI_lt (by omega) (by omega))]
      exact ⟨M, rfl, Hs.rf, rfl, hu.2.2, hp⟩
    · obtain ⟨M1, a1, a2, a3, a4⟩ := m_done h hr hu hm (hp i (by omega)).2
      have h1' := a3.1 h
      rw [if_neg (nI_nlt (by omega) (by omega)), G_66_18 h, Option.bind_some, Option.bind_some, nI_pred, A_81 h (by omega), Option.bind_some, I_66 h, Option.bind_some, (hp i (by omega)).1, a1, Option.bind_some]
      dsimp only
      rw [S_81 h1' (by omega), Option.bind_some, nI_1]
      have cw : Hs M1 (mm_wI M1 81 (i + 1) (nI (sT z w V m s x (i + 1)).1)) := ⟨fun q => q, fun a j _ p _ => by rw [mI_wI, if_neg (fun e => p e.1)], fun _ _ _ => rfl⟩
      have c1 : Hs M M1 := Hs.cz a3
      have f81 : ∀ j, mm_I M1 81 j = mm_I M 81 j := fun j => a3.2.1 _ _ (by omega) (by omega)
      obtain ⟨M2, b1, b2, b3, b4, b5⟩ := m_run_l K hm hn k (i + 1) (mm_wI M1 81 (i + 1) (nI (sT z w V m s x (i + 1)).1)) (by omega) (by omega) (sh_wI h1') ((hr.hs c1).hs cw) ⟨a2.1, a2.2.1, by rw [mI_wI, if_neg (by omega)]; exact a2.2.2⟩ (fun j hj => by
        by_cases ej : j = i + 1
        · subst ej
          exact ⟨by rw [mI_wI, if_pos ⟨rfl, rfl⟩], a4⟩
        · rw [mI_wI, if_neg (fun q => ej q.2), f81]
          exact hp j (by omega))
      refine ⟨M2, b1, (c1.tr cw).tr b2, ?_, b4, b5⟩
      rw [b3, mI_wI, if_neg (by omega)]
      exact a3.2.1 _ _ (by omega) (by omega)
end
