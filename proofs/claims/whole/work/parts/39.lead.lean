def sPl (z : Zt) (w : Nat → Nat) (k a b : Nat) (c : Nat → Nat → Nat) (s x : Nat) (r : Int32) : Rs :=
  if k = 0 then sRed z w a s x r else if k = 1 then sAcc w s (if dv x 2 = 0 then nx z s a else bf z s a) (dn x) r else if k = 2 then sAcc w s (sw z s a b) x r else if k = 3 then sTol w c (ns z) s x r else sSli z w a s x r
def sM (z : Zt) (w : Nat → Nat) (V : Mv) : Nat → Nat → Nat → Nat → Int32 → Rs
  | 0, m, s, x, r => sPl z w (vK V m) (vA V m) (vB V m) (vT V m) s x r
  | d + 1, m, s, x, r => if vK V m = 5 then (if dv x (vP V m + vQ V m) < vP V m then sM z w V d (vA V m) s (dn x) r else sM z w V d (vB V m) s (dn x) r) else if vK V m = 6 then sM z w V d (vB V m) (sM z w V d (vA V m) s x r).1 (sM z w V d (vA V m) s x r).2.1 (sM z w V d (vA V m) s x r).2.2 else sPl z w (vK V m) (vA V m) (vB V m) (vT V m) s x r
def RW (z : Zt) (w : Nat → Nat) (V : Mv) (nm : Nat) (M : Mm) : Prop := GeoC z M ∧ WtC w M ∧ okV z V nm ∧ nm ≤ 10 ∧ MvC V nm (ns z) M
section
variable {M M' M'' : Mm} {z : Zt} {w : Nat → Nat} {V : Mv} {x n s t p m nm dep : Nat} {r : Int32}
theorem RW.cx (h : RW z w V nm M) (hc : Cx M M') : RW z w V nm M' := by
  obtain ⟨g, wt, ho, hn, m1, m2⟩ := h
  refine ⟨g.cx hc, wt.cx hc, ho, hn, (hc.2.1 _ _ (by omega)).trans m1, fun m hm => ?_⟩
  obtain ⟨a0, a1, a2, a3, a4, a5, a6⟩ := m2 m hm
  have f : ∀ k, mm_I M' (7 + 5 * m) k = mm_I M (7 + 5 * m) k := fun k => hc.2.1 _ _ (by omega)
  exact ⟨(f 0).trans a0, fun e => (f 1).trans (a1 e), fun e => (f 2).trans (a2 e), (f 3).trans a3, (f 4).trans a4, (f 5).trans a5, a6.cx (by omega) hc⟩
theorem p_lead0 {d : Nat} (h : Shp M) (hr : RW z w V nm M) (hu : RuC x r M) (hm : m < nm) (hs : s < ns z) (hd : dep ≤ 2) (ek : vK V m = 0) : ∃ M', f_X5_lead (d + 1) 64 (nI m) (nI s) (nI dep) M = some (nI (sRed z w (vA V m) s x r).1, M') ∧ RuC (sRed z w (vA V m) s x r).2.1 (sRed z w (vA V m) s x r).2.2 M' ∧ Cx M M' ∧ (sRed z w (vA V m) s x r).1 < ns z := by
  obtain ⟨hg, hw, ho, hn, hmv⟩ := hr
  have hm10 : m < 10 := by omega
  obtain ⟨b0, b1, b2, b3, b4, b5, b6⟩ := hmv.2 m hm
  obtain ⟨o1, o2, o3, o4, o5, o6⟩ := ho m hm
  rw [ek] at b0
  have hdp : nI dep ≤ (2 : Int32) := nI_le (b := 2) hd (by omega)
  have hp := (o2 (by omega)).2.1 (by omega)
  obtain ⟨M1, a1, a2, a3, a4⟩ := p_wredraw h hg hw hu hs hp
  rw [f_X5_lead, if_pos hdp, G_64_1 h, Option.bind_some, A_6 h hm10, Option.bind_some, G_m_0 h hm10, Option.bind_some, b0, if_pos (show nI 0 = (0 : Int32) from rfl), G_m_1 h hm10, Option.bind_some, I_64 h, Option.bind_some, b1 (by omega), a1, Option.bind_some]
  exact ⟨M1, rfl, a2, a3, a4⟩
theorem p_lead2 {d : Nat} (h : Shp M) (hr : RW z w V nm M) (hu : RuC x r M) (hm : m < nm) (hs : s < ns z) (hd : dep ≤ 2) (ek : vK V m = 2) : ∃ M', f_X5_lead (d + 1) 64 (nI m) (nI s) (nI dep) M = some (nI (sAcc w s (sw z s (vA V m) (vB V m)) x r).1, M') ∧ RuC (sAcc w s (sw z s (vA V m) (vB V m)) x r).2.1 (sAcc w s (sw z s (vA V m) (vB V m)) x r).2.2 M' ∧ Cx M M' ∧ (sAcc w s (sw z s (vA V m) (vB V m)) x r).1 < ns z := by
  obtain ⟨hg, hw, ho, hn, hmv⟩ := hr
  have hm10 : m < 10 := by omega
  obtain ⟨b0, b1, b2, b3, b4, b5, b6⟩ := hmv.2 m hm
  obtain ⟨o1, o2, o3, o4, o5, o6⟩ := ho m hm
  rw [ek] at b0
  have hdp : nI dep ≤ (2 : Int32) := nI_le (b := 2) hd (by omega)
  have hp := (o2 (by omega)).2.1 (by omega)
  obtain ⟨hb, hab, hz⟩ := (o2 (by omega)).2.2 ek
  have hx1 := (gz_8 z hg.1 s hs _ hp _ hb hab hz).2.1
  obtain ⟨M2, c1, c2, c3, c4⟩ := p_accept h hg hw hu hs hx1
  rw [f_X5_lead, if_pos hdp, G_64_1 h, Option.bind_some, A_6 h hm10, Option.bind_some, G_m_0 h hm10, Option.bind_some, b0, if_neg (show ¬ nI 2 = (0 : Int32) by decide), if_neg (show ¬ nI 2 = (1 : Int32) by decide), if_pos (show nI 2 = (2 : Int32) from rfl), G_64_0 h, Option.bind_some, G_m_1 h hm10, Option.bind_some, G_m_2 h hm10, Option.bind_some, I_1 h, Option.bind_some, b1 (by omega), b2 (by omega), p_exchanged h hg hs hp hb hab hz, Option.bind_some, I_64 h, Option.bind_some, c1, Option.bind_some]
  exact ⟨M2, rfl, c2, c3, c4⟩
theorem p_lead3 {d : Nat} (h : Shp M) (hr : RW z w V nm M) (hu : RuC x r M) (hm : m < nm) (hs : s < ns z) (hd : dep ≤ 2) (ek : vK V m = 3) : ∃ M', f_X5_lead (d + 1) 64 (nI m) (nI s) (nI dep) M = some (nI (sTol w (vT V m) (ns z) s x r).1, M') ∧ RuC (sTol w (vT V m) (ns z) s x r).2.1 (sTol w (vT V m) (ns z) s x r).2.2 M' ∧ Cx M M' ∧ (sTol w (vT V m) (ns z) s x r).1 < ns z := by
  obtain ⟨hg, hw, ho, hn, hmv⟩ := hr
  have hm10 : m < 10 := by omega
  obtain ⟨b0, b1, b2, b3, b4, b5, b6⟩ := hmv.2 m hm
  obtain ⟨o1, o2, o3, o4, o5, o6⟩ := ho m hm
  rw [ek] at b0
  have hdp : nI dep ≤ (2 : Int32) := nI_le (b := 2) hd (by omega)
  obtain ⟨M2, c1, c2, c3, c4⟩ := p_followTold h hg hw hm10 b6 hu hs
  rw [f_X5_lead, if_pos hdp, G_64_1 h, Option.bind_some, A_6 h hm10, Option.bind_some, G_m_0 h hm10, Option.bind_some, b0, if_neg (show ¬ nI 3 = (0 : Int32) by decide), if_neg (show ¬ nI 3 = (1 : Int32) by decide), if_neg (show ¬ nI 3 = (2 : Int32) by decide), if_pos (show nI 3 = (3 : Int32) from rfl), I_64 h, Option.bind_some, c1, Option.bind_some]
  exact ⟨M2, rfl, c2, c3, c4⟩
theorem p_lead4 {d : Nat} (h : Shp M) (hr : RW z w V nm M) (hu : RuC x r M) (hm : m < nm) (hs : s < ns z) (hd : dep ≤ 2) (ek : vK V m = 4) : ∃ M', f_X5_lead (d + 1) 64 (nI m) (nI s) (nI dep) M = some (nI (sSli z w (vA V m) s x r).1, M') ∧ RuC (sSli z w (vA V m) s x r).2.1 (sSli z w (vA V m) s x r).2.2 M' ∧ Cx M M' ∧ (sSli z w (vA V m) s x r).1 < ns z := by
  obtain ⟨hg, hw, ho, hn, hmv⟩ := hr
  have hm10 : m < 10 := by omega
  obtain ⟨b0, b1, b2, b3, b4, b5, b6⟩ := hmv.2 m hm
  obtain ⟨o1, o2, o3, o4, o5, o6⟩ := ho m hm
  rw [ek] at b0
  have hdp : nI dep ≤ (2 : Int32) := nI_le (b := 2) hd (by omega)
  have hp := (o2 (by omega)).2.1 (by omega)
  obtain ⟨M2, c1, c2, c3, c4⟩ := p_wslice h hg hw hu hs hp
  rw [f_X5_lead, if_pos hdp, G_64_1 h, Option.bind_some, A_6 h hm10, Option.bind_some, G_m_0 h hm10, Option.bind_some, b0, if_neg (show ¬ nI 4 = (0 : Int32) by decide), if_neg (show ¬ nI 4 = (1 : Int32) by decide), if_neg (show ¬ nI 4 = (2 : Int32) by decide), if_neg (show ¬ nI 4 = (3 : Int32) by decide), if_pos (show nI 4 = (4 : Int32) from rfl), G_m_1 h hm10, Option.bind_some, I_64 h, Option.bind_some, b1 (by omega), c1, Option.bind_some]
  exact ⟨M2, rfl, c2, c3, c4⟩
end
