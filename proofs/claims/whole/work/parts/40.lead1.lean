section
variable {M M' M'' : Mm} {z : Zt} {w : Nat → Nat} {V : Mv} {x n s t p m nm dep : Nat} {r : Int32}
theorem p_lead1 {d b : Nat} (h : Shp M) (hr : RW z w V nm M) (hu : RuC x r M) (hm : m < nm) (hs : s < ns z) (hd : dep ≤ 2) (ek : vK V m = 1) (hb : dv x 2 = b) : ∃ M', f_X5_lead (d + 1) 64 (nI m) (nI s) (nI dep) M = some (nI (sAcc w s (if b = 0 then nx z s (vA V m) else bf z s (vA V m)) (dn x) r).1, M') ∧ RuC (sAcc w s (if b = 0 then nx z s (vA V m) else bf z s (vA V m)) (dn x) r).2.1 (sAcc w s (if b = 0 then nx z s (vA V m) else bf z s (vA V m)) (dn x) r).2.2 M' ∧ Cx M M' ∧ (sAcc w s (if b = 0 then nx z s (vA V m) else bf z s (vA V m)) (dn x) r).1 < ns z := by
  obtain ⟨hg, hw, ho, hn, hmv⟩ := hr
  have hm10 : m < 10 := by omega
  obtain ⟨b0, b1, b2, b3, b4, b5, b6⟩ := hmv.2 m hm
  obtain ⟨o1, o2, o3, o4, o5, o6⟩ := ho m hm
  rw [ek] at b0
  have hdp : nI dep ≤ (2 : Int32) := nI_le (b := 2) hd (by omega)
  have hp := (o2 (by omega)).2.1 (by omega)
  have hx1 := gz_9 z hg.1 s hs (vA V m) hp
  obtain ⟨M1, a1, a2, a3⟩ := p_draw (n := 2) h hu (by omega) (by omega)
  have hb2 := dv_lt (x := x) (n := 2) (by omega)
  rw [hb] at a1 hb2
  have a1' : f_X5_draw 64 (2 : Int64) M = some (lN b, M1) := by
    rw [show (2 : Int64) = lN 2 from rfl]
    exact a1
  clear a1 hb
  have h1 := a3.1 h
  have g1 := hg.cx a3
  have w1 := hw.cx a3
  have f1 : mm_I M1 (7 + 5 * m) 1 = nI (vA V m) := (a3.2.1 _ _ (by omega)).trans (b1 (by omega))
  rw [f_X5_lead, if_pos hdp, G_64_1 h, Option.bind_some, A_6 h hm10, Option.bind_some, G_m_0 h hm10, Option.bind_some, b0, if_neg (show ¬ nI 1 = (0 : Int32) by decide), if_pos (show nI 1 = (1 : Int32) from rfl), I_64 h, Option.bind_some, a1', Option.bind_some]
  simp only [op_jn]
  by_cases q : b = 0
  · obtain ⟨M2, c1, c2, c3, c4⟩ := p_accept h1 g1 w1 a2 hs hx1.1
    rw [if_pos ((ln_eq0 (by omega)).mpr q), G_64_0 h1, Option.bind_some, G_m_1 h1 hm10, Option.bind_some, I_1 h1, Option.bind_some, f1, p_next h1 g1 hs hp, Option.bind_some, I_64 h1, Option.bind_some, c1, Option.bind_some, if_pos q]
    exact ⟨M2, rfl, c2, a3.tr c3, c4⟩
  · obtain ⟨M2, c1, c2, c3, c4⟩ := p_accept h1 g1 w1 a2 hs hx1.2
    rw [if_neg (fun e => q ((ln_eq0 (by omega)).mp e)), G_64_0 h1, Option.bind_some, G_m_1 h1 hm10, Option.bind_some, I_1 h1, Option.bind_some, f1, p_before h1 g1 hs hp, Option.bind_some, I_64 h1, Option.bind_some, c1, Option.bind_some, if_neg q]
    exact ⟨M2, rfl, c2, a3.tr c3, c4⟩
end
