section
variable {M M' M'' : Mm} {z : Zt} {w : Nat → Nat} {c : Nat → Nat → Nat} {x n s t p m : Nat} {r : Int32}
theorem p_dt_l (h : Shp M) (hg : GeoC z M) (hm : m < 10) (htd : TdC m c (ns z) M) (hs : s < ns z) {d : Nat} (hd : d < sm (c s) (ns z)) : ∀ (k j i : Nat), i + j = ns z → j < k → sm (c s) i ≤ d → lp_X5_drawTold_15 64 (7 + 5 * m) (nI s) M k (lN (d - sm (c s) i)) (nI i) = some (nI (fi (c s) d j i), M)
  | 0, j, i, _, h2, _ => absurd h2 (by omega)
  | k + 1, j, i, h1, h2, h3 => by
    have h16 := (gz_1 z hg.1).2.1
    have hs16 := gz_n hg.1 hs
    have hl := cS_le (s := s) htd.1 h16
    rw [lp_X5_drawTold_15, G_64_0 h, Option.bind_some, G_1_1 h, Option.bind_some, hg.2.2.1]
    cases j with
    | zero =>
      exfalso
      have e : i = ns z := by omega
      rw [e] at h3
      exact absurd hd (Nat.not_lt.mpr h3)
    | succ j =>
      have kc := htd.1 s i
      rw [if_neg (nI_ge (by omega) (by omega)), I_m h hm, Option.bind_some, p_toldOf h hm htd hs16 (by omega), Option.bind_some, nI_l (by omega)]
      have es : sm (c s) (i + 1) = sm (c s) i + c s i := rfl
      show (if _ then _ else _) = some (nI (if d < sm (c s) (i + 1) then i else fi (c s) d j (i + 1)), M)
      by_cases q : d < sm (c s) (i + 1)
      · rw [if_neg (l_neg (by omega) (by omega)), if_pos q]
      · rw [if_pos (l_pos (by omega) (by omega)), if_neg q, lN_sub (by omega), nI_1, show d - sm (c s) i - c s i = d - sm (c s) (i + 1) by omega]
        exact p_dt_l h hg hm htd hs hd k j (i + 1) (by omega) (by omega) (by omega)
theorem p_followTold (h : Shp M) (hg : GeoC z M) (hw : WtC w M) (hm : m < 10) (htd : TdC m c (ns z) M) (hu : RuC x r M) (hs : s < ns z) : ∃ M', f_X5_followTold 64 (7 + 5 * m) (nI s) M = some (nI (sTol w c (ns z) s x r).1, M') ∧ RuC (sTol w c (ns z) s x r).2.1 (sTol w c (ns z) s x r).2.2 M' ∧ Cx M M' ∧ (sTol w c (ns z) s x r).1 < ns z := by
  have h16 := (gz_1 z hg.1).2.1
  have hs16 := gz_n hg.1 hs
  have hl := cS_le (s := s) htd.1 h16
  have k1 := hw.1 s
  unfold f_X5_followTold sTol
  rw [G_m_7 h hm, Option.bind_some, A_m_1 h hm hs16, Option.bind_some, htd.2.2 s hs16]
  by_cases e : sm (c s) (ns z) = 0
  · rw [e, if_pos (show nI 0 = (0 : Int32) from rfl), if_pos rfl]
    exact ⟨M, rfl, hu, Cx.rf, hs⟩
  · obtain ⟨M1, a1, a2, a3⟩ := p_draw h hu (show 0 < sm (c s) (ns z) by omega) (by omega)
    have hd := dv_lt (x := x) (show 0 < sm (c s) (ns z) by omega)
    have hf := fi_lt (f := c s) hd (ns z) 0 (by omega) (by have := (gz_1 z hg.1).1; omega)
    have h1 := a3.1 h
    have g1 := hg.cx a3
    have w1 := hw.cx a3
    have t1 := htd.cx hm a3
    have e1 := p_dt_l h1 g1 hm t1 hs hd FU (ns z) 0 (by omega) (by unfold FU; omega) (Nat.zero_le _)
    rw [show dv x (sm (c s) (ns z)) - sm (c s) 0 = dv x (sm (c s) (ns z)) from Nat.sub_zero _] at e1
    have dt : f_X5_drawTold 64 (7 + 5 * m) (nI s) M = some (nI (fi (c s) (dv x (sm (c s) (ns z))) (ns z) 0), M1) := by
      unfold f_X5_drawTold
      rw [G_m_7 h hm, Option.bind_some, A_m_1 h hm hs16, Option.bind_some, I_64 h, Option.bind_some, htd.2.2 s hs16, nI_l (by omega), a1, Option.bind_some]
      exact e1
    rw [if_neg (nI_ne0 (by omega) (by omega)), if_neg e, I_64 h, Option.bind_some, dt, Option.bind_some]
    generalize fi (c s) (dv x (sm (c s) (ns z))) (ns z) 0 = t at hf
    have ht16 := gz_n hg.1 hf
    have k4 := cX_le (s := s) (t := t) hw.1 htd.1 h16
    have k5 := cX_le (s := t) (t := s) hw.1 htd.1 h16
    dsimp only
    rw [G_64_0 h1, Option.bind_some, G_1_5 h1, Option.bind_some, A_5 h1 hs16, Option.bind_some, w1.2 s hs16]
    by_cases e2 : w s = 0
    · rw [e2, if_pos (show nI 0 = (0 : Int32) from rfl), if_pos rfl]
      exact ⟨M1, rfl, a2, a3, hf⟩
    · rw [if_neg (nI_ne0 (by omega) (by omega)), if_neg e2, Option.bind_some, I_1 h1, Option.bind_some, p_pull h1 hm w1 t1 h16 hs16 ht16, Option.bind_some, Option.bind_some, I_1 h1, Option.bind_some, p_pull h1 hm w1 t1 h16 ht16 hs16, Option.bind_some]
      by_cases e3 : cX w c (ns z) s t = 0
      · obtain ⟨M2, b1, b2, b3⟩ := p_refuse (a := nI s) h1 a2
        rw [if_pos (show lN (cX w c (ns z) s t) ≤ (0 : Int64) by rw [e3]; decide), if_pos e3, I_64 h1, Option.bind_some, b1, Option.bind_some]
        exact ⟨M2, rfl, b2, a3.tr b3, hs⟩
      · obtain ⟨M2, b1, b2, b3⟩ := p_decide (a := cX w c (ns z) s t) (b := cX w c (ns z) t s) h1 a2 (by omega) (by omega)
        have h2 := b3.1 h1
        rw [if_neg (show ¬ lN (cX w c (ns z) s t) ≤ (0 : Int64) by rw [l0, pk_lLE (by omega) (by decide)]; omega), if_neg e3, I_64 h1, Option.bind_some, b1, Option.bind_some]
        by_cases e4 : cX w c (ns z) t s ≤ cX w c (ns z) s t
        · rw [if_pos e4] at b2
          rw [if_pos (Or.inl e4), if_pos e4, if_neg (show ¬ (1 : Int32) = 0 by decide)]
          exact ⟨M2, rfl, b2, a3.tr b3, hf⟩
        · rw [if_neg e4] at b2
          rw [if_neg e4]
          by_cases e5 : dv (dn x) (cX w c (ns z) t s) < cX w c (ns z) s t
          · rw [if_pos (Or.inr e5), if_pos e5, if_neg (show ¬ (1 : Int32) = 0 by decide)]
            exact ⟨M2, rfl, b2, a3.tr b3, hf⟩
          · obtain ⟨M3, d1, d2, d3⟩ := p_refuse (a := nI s) h2 b2
            have e0 : (if cX w c (ns z) t s ≤ cX w c (ns z) s t ∨ dv (dn x) (cX w c (ns z) t s) < cX w c (ns z) s t then (1 : Int32) else 0) = 0 := if_neg (fun q2 => q2.elim e4 e5)
            rw [e0, if_neg e5]
            dsimp only
            rw [if_pos rfl, I_64 h2, Option.bind_some, d1, Option.bind_some]
            exact ⟨M3, rfl, d2, (a3.tr b3).tr d3, hs⟩
theorem p_sl_l (h : Shp M) (hg : GeoC z M) (hw : WtC w M) (hs : s < ns z) (hp : p < np z) {lv d : Nat} (hlv : lv < 2 ^ 31) (hd : d < lc z w s p lv) : ∀ (k j i : Nat), i + j = zs z p → j < k → sm (fun v => if lv ≤ w (il z s p v) then 1 else 0) i ≤ d → lp_X5_slice_52 64 (nI p) (nI s) (nI lv) M k (lN (d - sm (fun v => if lv ≤ w (il z s p v) then 1 else 0) i)) (nI i) = some (nI (il z s p (fi (fun v => if lv ≤ w (il z s p v) then 1 else 0) d j i)), M)
  | 0, j, i, _, h2, _ => absurd h2 (by omega)
  | k + 1, j, i, h1, h2, h3 => by
    have hz := gz_2 z hg.1 p hp
    have hp4 := gz_p hg.1 hp
    have hs16 := gz_n hg.1 hs
    have hl := lc_le (w := w) (s := s) (lv := lv) hg.1 hp
    rw [lp_X5_slice_52, G_64_0 h, Option.bind_some, G_1_2 h, Option.bind_some, A_2 h hp4, Option.bind_some, hg.2.2.2.1 p hp4]
    cases j with
    | zero =>
      exfalso
      have e : i = zs z p := by omega
      rw [e] at h3
      exact absurd hd (Nat.not_lt.mpr h3)
    | succ j =>
      have hlt : i < zs z p := by omega
      have hil16 := gz_n hg.1 (gz_5 z hg.1 s hs p hp i hlt).1
      have kw := hw.1 (il z s p i)
      have ei : (if nI (w (il z s p i)) < nI lv then (0 : Int64) else (1 : Int64)) = lN (if lv ≤ w (il z s p i) then 1 else 0) := by
        by_cases hc : lv ≤ w (il z s p i)
        · rw [if_pos hc, if_neg (nI_nlt hc (by omega))]; rfl
        · rw [if_neg hc, if_pos (nI_lt (by omega) hlv)]; rfl
      have eb : (if lv ≤ w (il z s p i) then 1 else 0) ≤ 1 := by by_cases hc : lv ≤ w (il z s p i) <;> simp [hc]
      rw [if_neg (nI_ge hlt (by omega)), Option.bind_some, I_1 h, Option.bind_some, p_inLine h hg hs16 hp4, Option.bind_some, Option.bind_some, G_1_5 h, Option.bind_some, A_5 h hil16, Option.bind_some, hw.2 _ hil16, ei]
      have es : sm (fun v => if lv ≤ w (il z s p v) then 1 else 0) (i + 1) = sm (fun v => if lv ≤ w (il z s p v) then 1 else 0) i + (if lv ≤ w (il z s p i) then 1 else 0) := rfl
      show (if _ then _ else _) = some (nI (il z s p (if d < sm (fun v => if lv ≤ w (il z s p v) then 1 else 0) (i + 1) then i else fi (fun v => if lv ≤ w (il z s p v) then 1 else 0) d j (i + 1))), M)
      by_cases q : d < sm (fun v => if lv ≤ w (il z s p v) then 1 else 0) (i + 1)
      · rw [if_neg (l_neg (by omega) (by omega)), if_pos q]
      · rw [if_pos (l_pos (by omega) (by omega)), if_neg q, lN_sub (by omega), nI_1, show d - sm (fun v => if lv ≤ w (il z s p v) then 1 else 0) i - (if lv ≤ w (il z s p i) then 1 else 0) = d - sm (fun v => if lv ≤ w (il z s p v) then 1 else 0) (i + 1) by omega]
        exact p_sl_l h hg hw hs hp hlv hd k j (i + 1) (by omega) (by omega) (by omega)
theorem p_wslice (h : Shp M) (hg : GeoC z M) (hw : WtC w M) (hu : RuC x r M) (hs : s < ns z) (hp : p < np z) : ∃ M', f_X5_slice 64 (nI p) (nI s) M = some (nI (sSli z w p s x r).1, M') ∧ RuC (sSli z w p s x r).2.1 (sSli z w p s x r).2.2 M' ∧ Cx M M' ∧ (sSli z w p s x r).1 < ns z := by
  have hs16 := gz_n hg.1 hs
  have hz := gz_2 z hg.1 p hp
  have k1 := hw.1 s
  unfold f_X5_slice sSli
  rw [G_64_0 h, Option.bind_some, G_1_5 h, Option.bind_some, A_5 h hs16, Option.bind_some, hw.2 s hs16]
  by_cases e : w s = 0
  · rw [e, if_pos (show nI 0 = (0 : Int32) from rfl), if_pos rfl]
    exact ⟨M, rfl, hu, Cx.rf, hs⟩
  · obtain ⟨M1, a1, a2, a3⟩ := p_draw h hu (show 0 < w s by omega) (by omega)
    have hd := dv_lt (x := x) (show 0 < w s by omega)
    have h1 := a3.1 h
    have g1 := hg.cx a3
    have w1 := hw.cx a3
    have e1 : (1 : Int32) + (lN (dv x (w s))).toInt32 = nI (1 + dv x (w s)) := by rw [lN_i, show (1 : Int32) = nI 1 from rfl, nI_add]
    have hc := lc_pos (x := z) (w := w) (s := s) (p := p) (lv := 1 + dv x (w s)) (gz_14 z hg.1 s hs p hp) (by rw [gz_7 z hg.1 s hs p hp]; omega)
    have hc6 := lc_le (w := w) (s := s) (lv := 1 + dv x (w s)) hg.1 hp
    obtain ⟨M2, b1, b2, b3⟩ := p_draw h1 a2 (show 0 < lc z w s p (1 + dv x (w s)) by omega) (by omega)
    have hd2 := dv_lt (x := dn x) (show 0 < lc z w s p (1 + dv x (w s)) by omega)
    have h2 := b3.1 h1
    have hf := fi_lt (f := fun v => if 1 + dv x (w s) ≤ w (il z s p v) then 1 else 0) hd2 (zs z p) 0 (by omega) (by omega)
    have e2 := p_sl_l h2 (g1.cx b3) (w1.cx b3) hs hp (lv := 1 + dv x (w s)) (by omega) hd2 FU (zs z p) 0 (by omega) (by unfold FU; omega) (Nat.zero_le _)
    rw [show dv (dn x) (lc z w s p (1 + dv x (w s))) - sm (fun v => if 1 + dv x (w s) ≤ w (il z s p v) then 1 else 0) 0 = dv (dn x) (lc z w s p (1 + dv x (w s))) from Nat.sub_zero _] at e2
    refine ⟨M2, ?_, by rw [if_neg e]; exact b2, a3.tr b3, by rw [if_neg e]; exact (gz_5 z hg.1 s hs p hp _ hf).1⟩
    rw [if_neg (nI_ne0 (by omega) (by omega)), if_neg e, Option.bind_some, G_1_5 h, Option.bind_some, A_5 h hs16, Option.bind_some, I_64 h, Option.bind_some, hw.2 s hs16, nI_l (by omega), a1, Option.bind_some]
    dsimp only
    rw [e1, G_64_0 h1, Option.bind_some, I_1 h1, Option.bind_some, p_lineCount h1 g1 w1 hs hp (by omega), Option.bind_some, I_64 h1, Option.bind_some, nI_l (by omega), b1, Option.bind_some]
    exact e2
end
