def sPl (z : Zt) (w : Nat → Nat) (k a b : Nat) (c : Nat → Nat → Nat) (s x : Nat) (r : Int32) : Rs :=
  if k = 0 then sRed z w a s x r else if k = 1 then sAcc w s (if dv x 2 = 0 then nx z s a else bf z s a) (dn x) r else if k = 2 then sAcc w s (sw z s a b) x r else if k = 3 then sTol w c (ns z) s x r else sSli z w a s x r
def sM (z : Zt) (w : Nat → Nat) (V : Mv) : Nat → Nat → Nat → Nat → Int32 → Rs
  | 0, m, s, x, r => sPl z w (vK V m) (vA V m) (vB V m) (vT V m) s x r
  | d + 1, m, s, x, r => if vK V m = 5 then (if dv x (vP V m + vQ V m) < vP V m then sM z w V d (vA V m) s (dn x) r else sM z w V d (vB V m) s (dn x) r) else if vK V m = 6 then sM z w V d (vB V m) (sM z w V d (vA V m) s x r).1 (sM z w V d (vA V m) s x r).2.1 (sM z w V d (vA V m) s x r).2.2 else sPl z w (vK V m) (vA V m) (vB V m) (vT V m) s x r
def RW (z : Zt) (w : Nat → Nat) (V : Mv) (nm : Nat) (M : Mm) : Prop := GeoC z M ∧ WtC w M ∧ okV z V nm ∧ nm ≤ 10 ∧ MvC V nm (ns z) M
section
variable {M M' M'' : Mm} {z : Zt} {w : Nat → Nat} {V : Mv} {x n s t p m nm dep : Nat} {r : Int32}
theorem RW.cx (h : RW z w V nm M) (hc : Cx M M') : RW z w V nm M' := by
  obtain ⟨g, wt, ho, hn, m1, m2⟩ := h
  refine ⟨g.cx hc, wt.cx hc, ho, hn, (hc.2.1 _ _ (by omega)).trans m1, fun m hm => ?_⟩
  obtain ⟨a0, a1, a2, a3, a4, a5, a6⟩ := m2 m hm
  have f : ∀ k, mm_I M' (7 + 5 * m) k = mm_I M (7 + 5 * m) k := fun k => hc.2.1 _ _ (by omega)
  exact ⟨(f 0).trans a0, fun e => (f 1).trans (a1 e), fun e => (f 2).trans (a2 e), (f 3).trans a3, (f 4).trans a4, (f 5).trans a5, a6.cx (by omega) hc⟩
/-- one plain move -/
theorem p_leadP {d : Nat} (h : Shp M) (hr : RW z w V nm M) (hu : RuC x r M) (hm : m < nm) (hs : s < ns z) (hd : dep ≤ 2) (hk : vK V m < 5) : ∃ M', f_X5_lead (d + 1) 64 (nI m) (nI s) (nI dep) M = some (nI (sPl z w (vK V m) (vA V m) (vB V m) (vT V m) s x r).1, M') ∧ RuC (sPl z w (vK V m) (vA V m) (vB V m) (vT V m) s x r).2.1 (sPl z w (vK V m) (vA V m) (vB V m) (vT V m) s x r).2.2 M' ∧ Cx M M' ∧ (sPl z w (vK V m) (vA V m) (vB V m) (vT V m) s x r).1 < ns z := by
  obtain ⟨hg, hw, ho, hn, hmv⟩ := hr
  have hm10 : m < 10 := by omega
  obtain ⟨b0, b1, b2, b3, b4, b5, b6⟩ := hmv.2 m hm
  obtain ⟨o1, o2, o3, o4, o5, o6⟩ := ho m hm
  have key : ∀ {C' : Nat}, vK V m ≠ C' → C' < 10 → ¬ nI (vK V m) = nI C' := fun hne hc e => hne ((nI_eq (by omega) (by omega)).mp e)
  rw [f_X5_lead, if_pos (show nI dep ≤ (2 : Int32) from nI_le (b := 2) hd (by omega)), G_64_1 h, Option.bind_some, A_6 h hm10, Option.bind_some, G_m_0 h hm10, Option.bind_some, b0]
  unfold sPl
  by_cases e0 : vK V m = 0
  · have hp := (o2 hk).2.1 (by omega)
    obtain ⟨M1, a1, a2, a3, a4⟩ := p_wredraw h hg hw hu hs hp
    rw [if_pos (show nI (vK V m) = (0 : Int32) by rw [e0]; rfl), G_m_1 h hm10, Option.bind_some, I_64 h, Option.bind_some, b1 (by omega), a1, Option.bind_some, if_pos e0]
    exact ⟨M1, rfl, a2, a3, a4⟩
  · rw [if_neg (show ¬ nI (vK V m) = (0 : Int32) from key (C' := 0) e0 (by omega)), if_neg e0]
    by_cases e1 : vK V m = 1
    · have hp := (o2 hk).2.1 (by omega)
      have hx1 := gz_9 z hg.1 s hs (vA V m) hp
      obtain ⟨M1, a1, a2, a3⟩ := p_draw (n := 2) h hu (by omega) (by omega)
      have h1 := a3.1 h
      have g1 := hg.cx a3
      have w1 := hw.cx a3
      have f1 : mm_I M1 (7 + 5 * m) 1 = nI (vA V m) := (a3.2.1 _ _ (by omega)).trans (b1 (by omega))
      rw [if_pos (show nI (vK V m) = (1 : Int32) by rw [e1]; rfl), I_64 h, Option.bind_some, show f_X5_draw 64 (2 : Int64) M = some (lN (dv x 2), M1) from a1, Option.bind_some, if_pos e1]
      simp only [op_jn]
      by_cases q : dv x 2 = 0
      · obtain ⟨M2, c1, c2, c3, c4⟩ := p_accept h1 g1 w1 a2 hs hx1.1
        rw [if_pos (show lN (dv x 2) = (0 : Int64) by rw [q]; rfl), G_64_0 h1, Option.bind_some, G_m_1 h1 hm10, Option.bind_some, I_1 h1, Option.bind_some, f1, p_next h1 g1 hs hp, Option.bind_some, I_64 h1, Option.bind_some, c1, Option.bind_some, if_pos q]
        exact ⟨M2, rfl, c2, a3.tr c3, c4⟩
      · have hq := dv_lt (x := x) (n := 2) (by omega)
        obtain ⟨M2, c1, c2, c3, c4⟩ := p_accept h1 g1 w1 a2 hs hx1.2
        rw [if_neg (show ¬ lN (dv x 2) = (0 : Int64) from fun e => q ((ln_eq0 (by omega)).mp e)), G_64_0 h1, Option.bind_some, G_m_1 h1 hm10, Option.bind_some, I_1 h1, Option.bind_some, f1, p_before h1 g1 hs hp, Option.bind_some, I_64 h1, Option.bind_some, c1, Option.bind_some, if_neg q]
        exact ⟨M2, rfl, c2, a3.tr c3, c4⟩
    · rw [if_neg (show ¬ nI (vK V m) = (1 : Int32) from key (C' := 1) e1 (by omega)), if_neg e1]
      by_cases e2 : vK V m = 2
      · have hp := (o2 hk).2.1 (by omega)
        obtain ⟨hb, hab, hz⟩ := (o2 hk).2.2 e2
        have hx1 := (gz_8 z hg.1 s hs _ hp _ hb hab hz).2.1
        obtain ⟨M2, c1, c2, c3, c4⟩ := p_accept h hg hw hu hs hx1
        rw [if_pos (show nI (vK V m) = (2 : Int32) by rw [e2]; rfl), G_64_0 h, Option.bind_some, G_m_1 h hm10, Option.bind_some, G_m_2 h hm10, Option.bind_some, I_1 h, Option.bind_some, b1 (by omega), b2 (by omega), p_exchanged h hg hs hp hb hab hz, Option.bind_some, I_64 h, Option.bind_some, c1, Option.bind_some, if_pos e2]
        exact ⟨M2, rfl, c2, c3, c4⟩
      · rw [if_neg (show ¬ nI (vK V m) = (2 : Int32) from key (C' := 2) e2 (by omega)), if_neg e2]
        by_cases e3 : vK V m = 3
        · obtain ⟨M2, c1, c2, c3, c4⟩ := p_followTold h hg hw hm10 b6 hu hs
          rw [if_pos (show nI (vK V m) = (3 : Int32) by rw [e3]; rfl), I_64 h, Option.bind_some, c1, Option.bind_some, if_pos e3]
          exact ⟨M2, rfl, c2, c3, c4⟩
        · have hp := (o2 hk).2.1 e3
          obtain ⟨M2, c1, c2, c3, c4⟩ := p_wslice h hg hw hu hs hp
          rw [if_neg (show ¬ nI (vK V m) = (3 : Int32) from key (C' := 3) e3 (by omega)), if_pos (show nI (vK V m) = (4 : Int32) by rw [show vK V m = 4 by omega]; rfl), G_m_1 h hm10, Option.bind_some, I_64 h, Option.bind_some, b1 e3, c1, Option.bind_some, if_neg e3]
          exact ⟨M2, rfl, c2, c3, c4⟩
theorem p_lead : ∀ (d m s dep x : Nat) (r : Int32) (M : Mm), Shp M → RW z w V nm M → RuC x r M → m < nm → s < ns z → vD V m + dep ≤ 2 → vD V m ≤ d → ∃ M', f_X5_lead (d + 1) 64 (nI m) (nI s) (nI dep) M = some (nI (sM z w V d m s x r).1, M') ∧ RuC (sM z w V d m s x r).2.1 (sM z w V d m s x r).2.2 M' ∧ Cx M M' ∧ (sM z w V d m s x r).1 < ns z := by
  intro d
  induction d with
  | zero =>
    intro m s dep x r M h hr hu hm hs hd hl
    have hk : vK V m < 5 := by
      obtain ⟨o1, o2, o3, -⟩ := hr.2.2.1 m hm
      by_cases e : 5 ≤ vK V m
      · have := (o3 e).2.2; omega
      · omega
    exact p_leadP h hr hu hm hs (by omega) hk
  | succ d ih =>
    intro m s dep x r M h hr hu hm hs hd hl
    have hm10 : m < 10 := by have := hr.2.2.2.1; omega
    obtain ⟨o1, o2, o3, o4, ⟨p1, p2, q1, q2⟩, o6⟩ := hr.2.2.1 m hm
    obtain ⟨b0, b1, b2, b3, b4, b5, b6⟩ := hr.2.2.2.2.2 m hm
    by_cases hk : vK V m < 5
    · have e : sM z w V (d + 1) m s x r = sPl z w (vK V m) (vA V m) (vB V m) (vT V m) s x r := by
        show (if vK V m = 5 then _ else if vK V m = 6 then _ else _) = _
        rw [if_neg (by omega), if_neg (by omega)]
      rw [e]
      exact p_leadP h hr hu hm hs (by omega) hk
    · obtain ⟨ha, hb, hdd⟩ := o3 (by omega)
      have m1 := Nat.le_max_left (vD V (vA V m)) (vD V (vB V m))
      have m2 := Nat.le_max_right (vD V (vA V m)) (vD V (vB V m))
      have key : ∀ {C' : Nat}, vK V m ≠ C' → C' < 10 → ¬ nI (vK V m) = nI C' := fun hne hc e => hne ((nI_eq (by omega) (by omega)).mp e)
      rw [f_X5_lead, if_pos (show nI dep ≤ (2 : Int32) from nI_le (b := 2) (by omega) (by omega)), G_64_1 h, Option.bind_some, A_6 h hm10, Option.bind_some, G_m_0 h hm10, Option.bind_some, b0, if_neg (show ¬ nI (vK V m) = (0 : Int32) from key (C' := 0) (by omega) (by omega)), if_neg (show ¬ nI (vK V m) = (1 : Int32) from key (C' := 1) (by omega) (by omega)), if_neg (show ¬ nI (vK V m) = (2 : Int32) from key (C' := 2) (by omega) (by omega)), if_neg (show ¬ nI (vK V m) = (3 : Int32) from key (C' := 3) (by omega) (by omega)), if_neg (show ¬ nI (vK V m) = (4 : Int32) from key (C' := 4) (by omega) (by omega))]
      by_cases e5 : vK V m = 5
      · have e : sM z w V (d + 1) m s x r = if dv x (vP V m + vQ V m) < vP V m then sM z w V d (vA V m) s (dn x) r else sM z w V d (vB V m) s (dn x) r := if_pos e5
        rw [e]
        obtain ⟨M1, a1, a2, a3⟩ := p_draw (n := vP V m + vQ V m) h hu (by omega) (by omega)
        have h1 := a3.1 h
        have r1 := hr.cx a3
        have hd1 := dv_lt (x := x) (n := vP V m + vQ V m) (by omega)
        have f : ∀ k, mm_I M1 (7 + 5 * m) k = mm_I M (7 + 5 * m) k := fun k => a3.2.1 _ _ (by omega)
        simp only [op_jn]
        rw [if_pos (show nI (vK V m) = (5 : Int32) by rw [e5]; rfl), G_m_3 h hm10, Option.bind_some, G_m_4 h hm10, Option.bind_some, I_64 h, Option.bind_some, b3, b4, nI_add, nI_l (by omega), a1, Option.bind_some, G_m_3 h1 hm10, Option.bind_some, f 3, b3, nI_l (by omega), nI_1]
        by_cases q : dv x (vP V m + vQ V m) < vP V m
        · obtain ⟨M2, c1, c2, c3, c4⟩ := ih (vA V m) s (dep + 1) (dn x) r M1 h1 r1 a2 (by omega) hs (by omega) (by omega)
          rw [if_neg (show ¬ lN (vP V m) ≤ lN (dv x (vP V m + vQ V m)) from fun e => by have := (pk_lLE (by omega) (by omega)).mp e; omega), G_m_1 h1 hm10, Option.bind_some, f 1, b1 (by omega), I_64 h1, Option.bind_some, c1, Option.bind_some, if_pos q]
          exact ⟨M2, rfl, c2, a3.tr c3, c4⟩
        · obtain ⟨M2, c1, c2, c3, c4⟩ := ih (vB V m) s (dep + 1) (dn x) r M1 h1 r1 a2 (by omega) hs (by omega) (by omega)
          rw [if_pos (show lN (vP V m) ≤ lN (dv x (vP V m + vQ V m)) from (pk_lLE (by omega) (by omega)).mpr (by omega)), G_m_2 h1 hm10, Option.bind_some, f 2, b2 (by omega), I_64 h1, Option.bind_some, c1, Option.bind_some, if_neg q]
          exact ⟨M2, rfl, c2, a3.tr c3, c4⟩
      · have e6 : vK V m = 6 := by omega
        have e : sM z w V (d + 1) m s x r = sM z w V d (vB V m) (sM z w V d (vA V m) s x r).1 (sM z w V d (vA V m) s x r).2.1 (sM z w V d (vA V m) s x r).2.2 := by
          show (if vK V m = 5 then _ else if vK V m = 6 then _ else _) = _
          rw [if_neg e5, if_pos e6]
        rw [e]
        obtain ⟨M1, a1, a2, a3, a4⟩ := ih (vA V m) s (dep + 1) x r M h hr hu (by omega) hs (by omega) (by omega)
        have h1 := a3.1 h
        have r1 := hr.cx a3
        obtain ⟨M2, c1, c2, c3, c4⟩ := ih (vB V m) (sM z w V d (vA V m) s x r).1 (dep + 1) (sM z w V d (vA V m) s x r).2.1 (sM z w V d (vA V m) s x r).2.2 M1 h1 r1 a2 (by omega) a4 (by omega) (by omega)
        rw [if_neg (show ¬ nI (vK V m) = (5 : Int32) from key (C' := 5) e5 (by omega)), G_m_2 h hm10, Option.bind_some, G_m_1 h hm10, Option.bind_some, I_64 h, Option.bind_some, b1 (by omega), b2 (by omega), nI_1, a1, Option.bind_some]
        dsimp only
        rw [I_64 h1, Option.bind_some, c1, Option.bind_some]
        exact ⟨M2, rfl, c2, a3.tr c3, c4⟩
end
