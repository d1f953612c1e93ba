section
variable {M M' M'' : Mm} {z : Zt} {w : Nat → Nat} {V : Mv} {c : Nat → Nat → Nat} {x n s t p m nm i k : Nat} {r : Int32}
theorem RB.fr (h : RB z w V nm M) (f : ∀ a k, (a = 66 ∧ k < 5) ∨ (67 ≤ a ∧ a ≤ 75) → mm_I M' a k = mm_I M a k) : RB z w V nm M' := by
  obtain ⟨⟨g1, g2, g3, g4⟩, ⟨w1, w2⟩, ho, hn, m1, m2⟩ := h
  refine ⟨⟨g1, (f _ _ (by omega)).trans g2, (f _ _ (by omega)).trans g3, fun p hp => (f _ _ (by omega)).trans (g4 p hp)⟩, ⟨w1, fun s hs => (f _ _ (by omega)).trans (w2 s hs)⟩, ho, hn, (f _ _ (by omega)).trans m1, fun m hm => ?_⟩
  obtain ⟨a0, a1, a2, a3, a4, a5, a6⟩ := m2 m hm
  exact ⟨(f _ _ (by omega)).trans a0, fun e => (f _ _ (by omega)).trans (a1 e), fun e => (f _ _ (by omega)).trans (a2 e), (f _ _ (by omega)).trans a3, (f _ _ (by omega)).trans a4, (f _ _ (by omega)).trans a5, a6.1, fun s hs t ht => (f _ _ (by omega)).trans (a6.2 s hs t ht)⟩
theorem GeoM.cy (h : GeoM z M) (hc : Cy M M') : GeoM z M' := ⟨h.1, (hc.2.1 _ _ (by omega)).trans h.2.1, (hc.2.1 _ _ (by omega)).trans h.2.2.1, fun p hp => (hc.2.1 _ _ (by omega)).trans (h.2.2.2 p hp)⟩
theorem WtM.cy (h : WtM w M) (hc : Cy M M') : WtM w M' := ⟨h.1, fun s hs => (hc.2.1 _ _ (by omega)).trans (h.2 s hs)⟩
theorem TdM.cy (h : TdM m c M) (hc : Cy M M') : TdM m c M' := ⟨h.1, fun s hs t ht => (hc.2.1 _ _ (by omega)).trans (h.2 s hs t ht)⟩
theorem RB.cy (h : RB z w V nm M) (hc : Cy M M') : RB z w V nm M' := h.fr (fun a k e => hc.2.1 a k (by omega))
theorem m_refuse (h : Shp M) (hu : RuM x r M) : ∃ M', ((op_gI M 7 66 19).bind fun x_12 => op_pI M 7 66 19 (x_12 + (1 : Int32))) = some M' ∧ RuM x (r + 1) M' ∧ Cy M M' := by
  rw [G_66_19 h, Option.bind_some, hu.2.2, P_66_19 h]
  exact ⟨_, rfl, ⟨hu.1, hu.2.1, by rw [mI_wI, if_pos ⟨rfl, rfl⟩]⟩, ⟨fun q => q, fun a k q => by rw [mI_wI, if_neg q], fun _ _ _ => rfl⟩⟩
theorem m_refuse2 {a : Int32} (h : Shp M) (hu : RuM x r M) : ∃ M', ((op_gI M 7 66 19).bind fun x_12 => (op_pI M 7 66 19 (x_12 + (1 : Int32))).bind fun M_13 => some (a, M_13)) = some (a, M') ∧ RuM x (r + 1) M' ∧ Cy M M' := by
  rw [G_66_19 h, Option.bind_some, hu.2.2, P_66_19 h, Option.bind_some]
  exact ⟨_, rfl, ⟨hu.1, hu.2.1, by rw [mI_wI, if_pos ⟨rfl, rfl⟩]⟩, ⟨fun q => q, fun a k q => by rw [mI_wI, if_neg q], fun _ _ _ => rfl⟩⟩
theorem m_accepted (h : Shp M) (hg : GeoM z M) (hw : WtM w M) (hu : RuM x r M) (hs : s < ns z) (ht : t < ns z) : ∃ M', f_X7_accepted 66 (nI s) (nI t) M = some (nI (sAcc w s t x r).1, M') ∧ RuM (sAcc w s t x r).2.1 (sAcc w s t x r).2.2 M' ∧ Cy M M' ∧ (sAcc w s t x r).1 < ns z := by
  have hs16 := gz_n hg.1 hs
  have ht16 := gz_n hg.1 ht
  have k1 := hw.1 s
  have k2 := hw.1 t
  unfold f_X7_accepted sAcc
  rw [G_66_3 h, Option.bind_some, A_68 h ht16, Option.bind_some, Option.bind_some, A_68 h hs16, Option.bind_some, hw.2 s hs16, hw.2 t ht16]
  by_cases e : w s ≤ w t
  · rw [if_pos (nI_le e (by omega)), if_pos e]
    exact ⟨M, rfl, hu, Cy.rf, ht⟩
  · obtain ⟨M1, a1, a2, a3⟩ := m_draw h hu (show 0 < w s by omega) (by omega)
    have hd := dv_lt (x := x) (show 0 < w s by omega)
    have h1 := a3.1 h
    rw [if_neg (nI_ge (by omega) (by omega)), if_neg e, Option.bind_some, A_68 h hs16, Option.bind_some, I_66 h, Option.bind_some, hw.2 s hs16, nI_l (by omega), a1, Option.bind_some, G_66_3 h1, Option.bind_some, A_68 h1 ht16, Option.bind_some, (hw.cy a3).2 t ht16, nI_l (by omega)]
    generalize hdd : dv x (w s) = dd at hd a1
    dsimp only
    by_cases q : dd < w t
    · rw [if_neg (show ¬ lN (w t) ≤ lN dd from fun q2 => by have := (pk_lLE (by omega) (by omega)).mp q2; omega), if_pos q]
      exact ⟨M1, rfl, a2, a3, ht⟩
    · obtain ⟨M2, b1, b2, b3⟩ := m_refuse2 (a := nI s) h1 a2
      rw [if_pos (show lN (w t) ≤ lN dd from (pk_lLE (by omega) (by omega)).mpr (by omega)), if_neg q]
      exact ⟨M2, b1, b2, a3.tr b3, hs⟩
theorem m_red_l (K : Int32 → Option (Int32 × Mm)) (h : Shp M) (hg : GeoM z M) (hw : WtM w M) (hs : s < ns z) (hp : p < np z) {d : Nat} (hd : d < lsum z w s p) : ∀ (k j i : Nat), i + j = zs z p → 0 < j → j ≤ k → lp_X7_redraw_39 K 66 (nI s) (nI p) (lN d) M k (nI i) (lN (sm (fun v => w (il z s p v)) (i + 1))) = K (nI (fi (fun v => w (il z s p v)) d j i))
  | 0, j, i, _, h2, h3 => absurd h2 (by omega)
  | k + 1, j, i, h1, h2, h3 => by
    have hz := gz_2 z hg.1 p hp
    have hs16 := gz_n hg.1 hs
    have hl := lsum_le (s := s) hw.1 hg.1 hp
    obtain ⟨j, rfl⟩ : ∃ j', j = j' + 1 := ⟨j - 1, by omega⟩
    have hm : sm (fun v => w (il z s p v)) (i + 1) ≤ lsum z w s p := sm_up (by omega)
    rw [lp_X7_redraw_39]
    show (if _ then _ else _) = K (nI (if d < sm (fun v => w (il z s p v)) (i + 1) then i else fi (fun v => w (il z s p v)) d j (i + 1)))
    by_cases q : d < sm (fun v => w (il z s p v)) (i + 1)
    · rw [if_pos ((pk_lLT (by omega) (by omega)).mpr q), if_pos q]
    · have hj : 0 < j := by
        by_cases ej : j = 0
        · exfalso
          rw [show i + 1 = zs z p by omega] at q
          exact q hd
        · omega
      have hlt : i + 1 < zs z p := by omega
      have hil16 := gz_n hg.1 (gz_5 z hg.1 s hs p hp (i + 1) hlt).1
      have kw := hw.1 (il z s p (i + 1))
      rw [if_neg (fun q2 => q ((pk_lLT (by omega) (by omega)).mp q2)), if_neg q, G_66_3 h, Option.bind_some, I_66 h, Option.bind_some, nI_1, m_with h hg hs16 hp, Option.bind_some, A_68 h hil16, Option.bind_some, hw.2 _ hil16, nI_l (by omega), lN_add]
      exact m_red_l K h hg hw hs hp hd k j (i + 1) (by omega) hj (by omega)
theorem m_redraw (h : Shp M) (hg : GeoM z M) (hw : WtM w M) (hu : RuM x r M) (hs : s < ns z) (hp : p < np z) : ∃ M', f_X7_redraw 66 (nI s) (nI p) M = some (nI (sRed z w p s x r).1, M') ∧ RuM (sRed z w p s x r).2.1 (sRed z w p s x r).2.2 M' ∧ Cy M M' ∧ (sRed z w p s x r).1 < ns z := by
  have hl := lsum_le (s := s) hw.1 hg.1 hp
  have hz := gz_2 z hg.1 p hp
  have hs16 := gz_n hg.1 hs
  unfold f_X7_redraw sRed
  rw [I_66 h, Option.bind_some, m_sumOfLine h hg hw hs hp, Option.bind_some]
  by_cases e : lsum z w s p = 0
  · rw [e, if_pos (show nI 0 = (0 : Int32) from rfl), if_pos rfl]
    exact ⟨M, rfl, hu, Cy.rf, hs⟩
  · obtain ⟨M1, a1, a2, a3⟩ := m_draw h hu (show 0 < lsum z w s p by omega) (by omega)
    have hd := dv_lt (x := x) (show 0 < lsum z w s p by omega)
    have h1 := a3.1 h
    have g1 := hg.cy a3
    have w1 := hw.cy a3
    have i16 := gz_n hg.1 (gz_5 z hg.1 s hs p hp 0 (by omega)).1
    have kw := hw.1 (il z s p 0)
    have hf := fi_lt (f := fun v => w (il z s p v)) hd (zs z p) 0 (by omega) (by omega)
    rw [if_neg (nI_ne0 (by omega) (by omega)), if_neg e, Option.bind_some, nI_l (by omega), a1, Option.bind_some, G_66_3 h1, Option.bind_some, I_66 h1, Option.bind_some, show (0 : Int32) = nI 0 from rfl, m_with h1 g1 hs16 hp, Option.bind_some, A_68 h1 i16, Option.bind_some, w1.2 _ i16, nI_l (by omega)]
    refine ⟨M1, ?_, a2, a3, (gz_5 z hg.1 s hs p hp _ hf).1⟩
    have e1 := fun K => m_red_l (M := M1) K h1 g1 w1 hs hp hd FU (zs z p) 0 (by omega) (by omega) (by unfold FU; omega)
    rw [show sm (fun v => w (il z s p v)) (0 + 1) = w (il z s p 0) from Nat.zero_add _] at e1
    dsimp only
    rw [e1, Option.bind_some, m_with h1 g1 hs16 hp, Option.bind_some]
theorem m_tr_l (K : Int32 → Option (Int32 × Mm)) (h : Shp M) (hg : GeoM z M) (hm : m < 10) (htd : TdM m c M) (hs : s < ns z) {d : Nat} (hd : d < sm (c s) (ns z)) : ∀ (k j i : Nat), i + j = ns z → 0 < j → j ≤ k → lp_X7_toldRun_39 K 66 (nI m) (nI s) (lN d) M k (nI i) (lN (sm (c s) (i + 1))) = K (nI (fi (c s) d j i))
  | 0, j, i, _, h2, h3 => absurd h2 (by omega)
  | k + 1, j, i, h1, h2, h3 => by
    have h16 := (gz_1 z hg.1).2.1
    have hs16 := gz_n hg.1 hs
    have hl := cS_le (s := s) htd.1 h16
    obtain ⟨j, rfl⟩ : ∃ j', j = j' + 1 := ⟨j - 1, by omega⟩
    have hmo : sm (c s) (i + 1) ≤ sm (c s) (ns z) := sm_up (by omega)
    rw [lp_X7_toldRun_39]
    show (if _ then _ else _) = K (nI (if d < sm (c s) (i + 1) then i else fi (c s) d j (i + 1)))
    by_cases q : d < sm (c s) (i + 1)
    · rw [if_pos ((pk_lLT (by omega) (by omega)).mpr q), if_pos q]
    · have hj : 0 < j := by
        by_cases ej : j = 0
        · exfalso
          rw [show i + 1 = ns z by omega] at q
          exact q hd
        · omega
      have kc := htd.1 s (i + 1)
      rw [if_neg (fun q2 => q ((pk_lLT (by omega) (by omega)).mp q2)), if_neg q, G_66_11 h, Option.bind_some, I_66 h, Option.bind_some, nI_1, m_at, Option.bind_some, A_75 h (by omega), Option.bind_some, htd.2 s hs16 (i + 1) (by omega), nI_l (by omega), lN_add]
      exact m_tr_l K h hg hm htd hs hd k j (i + 1) (by omega) hj (by omega)
theorem m_toldRun (h : Shp M) (hg : GeoM z M) (hw : WtM w M) (hm : m < 10) (htd : TdM m c M) (hu : RuM x r M) (hs : s < ns z) : ∃ M', f_X7_toldRun 66 (nI m) (nI s) M = some (nI (sTol w c (ns z) s x r).1, M') ∧ RuM (sTol w c (ns z) s x r).2.1 (sTol w c (ns z) s x r).2.2 M' ∧ Cy M M' ∧ (sTol w c (ns z) s x r).1 < ns z := by
  have h16 := (gz_1 z hg.1).2.1
  have h2n := (gz_1 z hg.1).1
  have hs16 := gz_n hg.1 hs
  have hl := cS_le (s := s) htd.1 h16
  have k1 := hw.1 s
  unfold f_X7_toldRun sTol
  rw [I_66 h, Option.bind_some, m_sumOfTold h hg htd hm hs16, Option.bind_some]
  by_cases e : sm (c s) (ns z) = 0
  · rw [e, if_pos (show nI 0 = (0 : Int32) from rfl), if_pos rfl]
    exact ⟨M, rfl, hu, Cy.rf, hs⟩
  · obtain ⟨M1, a1, a2, a3⟩ := m_draw h hu (show 0 < sm (c s) (ns z) by omega) (by omega)
    have hd := dv_lt (x := x) (show 0 < sm (c s) (ns z) by omega)
    have h1 := a3.1 h
    have g1 := hg.cy a3
    have w1 := hw.cy a3
    have t1 := htd.cy a3
    have kc := htd.1 s 0
    have hf := fi_lt (f := c s) hd (ns z) 0 (by omega) (by omega)
    rw [if_neg (nI_ne0 (by omega) (by omega)), if_neg e, Option.bind_some, nI_l (by omega), a1, Option.bind_some, G_66_11 h1, Option.bind_some, I_66 h1, Option.bind_some, show (0 : Int32) = nI 0 from rfl, m_at, Option.bind_some, A_75 h1 (by omega), Option.bind_some, t1.2 s hs16 0 (by omega), nI_l (by omega)]
    have e1 := fun K => m_tr_l (M := M1) K h1 g1 hm t1 hs hd FU (ns z) 0 (by omega) (by omega) (by unfold FU; omega)
    rw [show sm (c s) (0 + 1) = c s 0 from Nat.zero_add _] at e1
    generalize fi (c s) (dv x (sm (c s) (ns z))) (ns z) 0 = u at hf e1
    have hu16 := gz_n hg.1 hf
    dsimp only
    rw [e1]
    have b1 := cX_le (s := s) (t := u) hw.1 htd.1 h16
    have b2 := cX_le (s := u) (t := s) hw.1 htd.1 h16
    rw [G_66_3 h1, Option.bind_some, A_68 h1 hs16, Option.bind_some, w1.2 s hs16]
    by_cases e2 : w s = 0
    · rw [e2, if_pos rfl, if_pos rfl]
      exact ⟨M1, rfl, a2, a3, hf⟩
    · rw [if_neg (show ¬ nI (w s) = nI 0 from nI_ne0 (by omega) (by omega)), if_neg e2, Option.bind_some, m_above h1 g1 w1 t1 hm hs16 hu16, Option.bind_some, Option.bind_some, m_below h1 g1 w1 t1 hm hs16 hu16, Option.bind_some]
      by_cases e3 : cX w c (ns z) s u = 0
      · obtain ⟨M2, d1, d2, d3⟩ := m_refuse2 (a := nI s) h1 a2
        rw [e3, if_pos (show lN 0 ≤ (0 : Int64) by decide), if_pos rfl]
        exact ⟨M2, d1, d2, a3.tr d3, hs⟩
      · rw [if_neg (show ¬ lN (cX w c (ns z) s u) ≤ (0 : Int64) by rw [l0, pk_lLE (by omega) (by decide)]; omega), if_neg e3]
        by_cases e4 : cX w c (ns z) u s ≤ cX w c (ns z) s u
        · rw [if_pos ((pk_lLE (by omega) (by omega)).mpr e4), if_pos e4]
          exact ⟨M1, rfl, a2, a3, hf⟩
        · obtain ⟨M2, d1, d2, d3⟩ := m_draw h1 a2 (show 0 < cX w c (ns z) u s by omega) (by omega)
          have hd2 := dv_lt (x := dn x) (show 0 < cX w c (ns z) u s by omega)
          have h2 := d3.1 h1
          rw [if_neg (fun q => e4 ((pk_lLE (by omega) (by omega)).mp q)), if_neg e4, Option.bind_some, d1, Option.bind_some]
          by_cases e5 : dv (dn x) (cX w c (ns z) u s) < cX w c (ns z) s u
          · rw [if_neg (fun q2 => by have := (pk_lLE (by omega) (by omega)).mp q2; omega), if_pos e5]
            exact ⟨M2, rfl, d2, a3.tr d3, hf⟩
          · obtain ⟨M3, f1, f2, f3⟩ := m_refuse2 (a := nI s) h2 d2
            rw [if_pos ((pk_lLE (by omega) (by omega)).mpr (by omega)), if_neg e5]
            exact ⟨M3, f1, f2, (a3.tr d3).tr f3, hs⟩
theorem m_sl_l (K : Int32 → Option (Int32 × Mm)) (h : Shp M) (hg : GeoM z M) (hw : WtM w M) (hs : s < ns z) (hp : p < np z) {lv d : Nat} (hlv : lv < 2 ^ 31) (hd : d < lc z w s p lv) : ∀ (k j i : Nat), i + j = zs z p → j < k → sm (fun v => if lv ≤ w (il z s p v) then 1 else 0) i ≤ d → lp_X7_slice_43 K 66 (nI s) (nI p) (nI lv) M k (lN (d - sm (fun v => if lv ≤ w (il z s p v) then 1 else 0) i)) (nI i) = K (nI (fi (fun v => if lv ≤ w (il z s p v) then 1 else 0) d j i))
  | 0, j, i, _, h2, _ => absurd h2 (by omega)
  | k + 1, j, i, h1, h2, h3 => by
    have hz := gz_2 z hg.1 p hp
    have hs16 := gz_n hg.1 hs
    have hl := lc_le (w := w) (s := s) (lv := lv) hg.1 hp
    cases j with
    | zero =>
      exfalso
      have e : i = zs z p := by omega
      rw [e] at h3
      exact absurd hd (Nat.not_lt.mpr h3)
    | succ j =>
      have hlt : i < zs z p := by omega
      have hil16 := gz_n hg.1 (gz_5 z hg.1 s hs p hp i hlt).1
      have kw := hw.1 (il z s p i)
      have es : sm (fun v => if lv ≤ w (il z s p v) then 1 else 0) (i + 1) = sm (fun v => if lv ≤ w (il z s p v) then 1 else 0) i + (if lv ≤ w (il z s p i) then 1 else 0) := rfl
      rw [lp_X7_slice_43, G_66_3 h, Option.bind_some, I_66 h, Option.bind_some, m_with h hg hs16 hp, Option.bind_some, A_68 h hil16, Option.bind_some, hw.2 _ hil16]
      simp only [op_jn]
      show (if _ then _ else _) = K (nI (if d < sm (fun v => if lv ≤ w (il z s p v) then 1 else 0) (i + 1) then i else fi (fun v => if lv ≤ w (il z s p v) then 1 else 0) d j (i + 1)))
      by_cases hc : lv ≤ w (il z s p i)
      · rw [if_pos hc] at es
        rw [if_neg (nI_nlt hc (by omega))]
        by_cases q : d < sm (fun v => if lv ≤ w (il z s p v) then 1 else 0) (i + 1)
        · rw [if_pos (show lN (d - sm (fun v => if lv ≤ w (il z s p v) then 1 else 0) i) ≤ (0 : Int64) by rw [show d - sm (fun v => if lv ≤ w (il z s p v) then 1 else 0) i = 0 by omega]; decide), if_pos q]
        · rw [if_neg (show ¬ lN (d - sm (fun v => if lv ≤ w (il z s p v) then 1 else 0) i) ≤ (0 : Int64) by rw [l0, pk_lLE (by omega) (by decide)]; omega), if_neg q, Option.bind_some, Option.bind_some, m_with h hg hs16 hp, Option.bind_some, A_68 h hil16, Option.bind_some, hw.2 _ hil16, if_neg (nI_nlt hc (by omega)), l1, lN_sub (by omega), nI_1, show d - sm (fun v => if lv ≤ w (il z s p v) then 1 else 0) i - 1 = d - sm (fun v => if lv ≤ w (il z s p v) then 1 else 0) (i + 1) by omega]
          exact m_sl_l K h hg hw hs hp hlv hd k j (i + 1) (by omega) (by omega) (by omega)
      · rw [if_neg hc] at es
        rw [if_pos (nI_lt (by omega) hlv), if_neg (show ¬ d < sm (fun v => if lv ≤ w (il z s p v) then 1 else 0) (i + 1) by omega), Option.bind_some, Option.bind_some, Option.bind_some, A_68 h hil16, Option.bind_some, hw.2 _ hil16, if_pos (nI_lt (by omega) hlv), l0, lN_sub (by omega), nI_1, show d - sm (fun v => if lv ≤ w (il z s p v) then 1 else 0) i - 0 = d - sm (fun v => if lv ≤ w (il z s p v) then 1 else 0) (i + 1) by omega]
        exact m_sl_l K h hg hw hs hp hlv hd k j (i + 1) (by omega) (by omega) (by omega)
theorem m_wslice (h : Shp M) (hg : GeoM z M) (hw : WtM w M) (hu : RuM x r M) (hs : s < ns z) (hp : p < np z) : ∃ M', f_X7_slice 66 (nI s) (nI p) M = some (nI (sSli z w p s x r).1, M') ∧ RuM (sSli z w p s x r).2.1 (sSli z w p s x r).2.2 M' ∧ Cy M M' ∧ (sSli z w p s x r).1 < ns z := by
  have hs16 := gz_n hg.1 hs
  have hz := gz_2 z hg.1 p hp
  have k1 := hw.1 s
  unfold f_X7_slice sSli
  rw [G_66_3 h, Option.bind_some, A_68 h hs16, Option.bind_some, hw.2 s hs16]
  by_cases e : w s = 0
  · rw [e, if_pos (show nI 0 = (0 : Int32) from rfl), if_pos rfl]
    exact ⟨M, rfl, hu, Cy.rf, hs⟩
  · obtain ⟨M1, a1, a2, a3⟩ := m_draw h hu (show 0 < w s by omega) (by omega)
    have hd := dv_lt (x := x) (show 0 < w s by omega)
    have h1 := a3.1 h
    have g1 := hg.cy a3
    have w1 := hw.cy a3
    have e1 : (1 : Int32) + (lN (dv x (w s))).toInt32 = nI (1 + dv x (w s)) := by rw [lN_i, show (1 : Int32) = nI 1 from rfl, nI_add]
    have hc := lc_pos (x := z) (w := w) (s := s) (p := p) (lv := 1 + dv x (w s)) (gz_14 z hg.1 s hs p hp) (by rw [gz_7 z hg.1 s hs p hp]; omega)
    have hc6 := lc_le (w := w) (s := s) (lv := 1 + dv x (w s)) hg.1 hp
    obtain ⟨M2, b1, b2, b3⟩ := m_draw h1 a2 (show 0 < lc z w s p (1 + dv x (w s)) by omega) (by omega)
    have hd2 := dv_lt (x := dn x) (show 0 < lc z w s p (1 + dv x (w s)) by omega)
    have h2 := b3.1 h1
    have hf := fi_lt (f := fun v => if 1 + dv x (w s) ≤ w (il z s p v) then 1 else 0) hd2 (zs z p) 0 (by omega) (by omega)
    have e2 := fun K => m_sl_l (M := M2) K h2 (g1.cy b3) (w1.cy b3) hs hp (lv := 1 + dv x (w s)) (by omega) hd2 FU (zs z p) 0 (by omega) (by unfold FU; omega) (Nat.zero_le _)
    rw [show dv (dn x) (lc z w s p (1 + dv x (w s))) - sm (fun v => if 1 + dv x (w s) ≤ w (il z s p v) then 1 else 0) 0 = dv (dn x) (lc z w s p (1 + dv x (w s))) from Nat.sub_zero _] at e2
    refine ⟨M2, ?_, by rw [if_neg e]; exact b2, a3.tr b3, by rw [if_neg e]; exact (gz_5 z hg.1 s hs p hp _ hf).1⟩
    rw [if_neg (nI_ne0 (by omega) (by omega)), if_neg e, Option.bind_some, A_68 h hs16, Option.bind_some, I_66 h, Option.bind_some, hw.2 s hs16, nI_l (by omega), a1, Option.bind_some]
    dsimp only
    rw [e1, I_66 h1, Option.bind_some, m_manyFrom h1 g1 w1 hs hp (by omega), Option.bind_some, Option.bind_some, nI_l (by omega), b1, Option.bind_some]
    dsimp only
    refine Eq.trans (e2 _) ?_
    rw [I_66 h2, Option.bind_some, m_with h2 (g1.cy b3) hs16 hp, Option.bind_some]
end
