/-- the told chances of the reference: row m of its table -/
def TdM (m : Nat) (c : Nat → Nat → Nat) (M : Mm) : Prop := (∀ s t, c s t ≤ 100) ∧ ∀ s, s < 16 → ∀ t, t < 16 → mm_I M 75 (256 * m + 16 * s + t) = nI (c s t)
section
variable {M M' : Mm} {x : Zt} {w : Nat → Nat} {c : Nat → Nat → Nat} {s p t m n : Nat}
theorem GeoM.cu (h : GeoM x M) (hc : Cu M M') : GeoM x M' := by unfold GeoM; rw [hc.2.1]; exact h
theorem WtM.cu (h : WtM w M) (hc : Cu M M') : WtM w M' := by unfold WtM; rw [hc.2.1]; exact h
theorem TdM.cu (h : TdM m c M) (hc : Cu M M') : TdM m c M' := by unfold TdM; rw [hc.2.1]; exact h
theorem e_at {m s t : Nat} : ((256 : Int32) * nI m + (16 : Int32) * nI s) + nI t = nI (256 * m + 16 * s + t) := by
  rw [show (256 : Int32) = nI 256 from rfl, show (16 : Int32) = nI 16 from rfl, pk_mul, pk_mul, nI_add, nI_add]
theorem m_st_l (h : Shp M) (hg : GeoM x M) (ht : TdM m c M) (hm : m < 10) (hs : s < 16) : ∀ (n i : Nat), i ≤ ns x → ns x - i < n → lp_X7_sumOfTold_5 66 (nI m) (nI s) M n (nI (sm (c s) i)) (nI i) = some (nI (sm (c s) (ns x)))
  | 0, i, _, h2 => absurd h2 (by omega)
  | n + 1, i, h1, h2 => by
    have hn := (gz_1 x hg.1).2.1
    rw [lp_X7_sumOfTold_5, G_66_2 h, Option.bind_some, hg.2.2.1]
    by_cases hi : i = ns x
    · rw [if_pos (nI_le (by omega) (by omega)), hi]
    · rw [if_neg (nI_ge (by omega) (by omega)), G_66_11 h, Option.bind_some, e_at, A_75 h (by omega), Option.bind_some, ht.2 s hs i (by omega), nI_add, nI_1]
      exact m_st_l h hg ht hm hs n (i + 1) (by omega) (by omega)
theorem m_sumOfTold (h : Shp M) (hg : GeoM x M) (ht : TdM m c M) (hm : m < 10) (hs : s < 16) : f_X7_sumOfTold 66 (nI m) (nI s) M = some (nI (sm (c s) (ns x))) := by
  unfold f_X7_sumOfTold
  exact m_st_l h hg ht hm hs FU 0 (by omega) (by have := (gz_1 x hg.1).2.1; unfold FU; omega)
theorem m_above (h : Shp M) (hg : GeoM x M) (hw : WtM w M) (ht : TdM m c M) (hm : m < 10) (hs : s < 16) (hu : t < 16) : f_X7_above 66 (nI m) (nI s) (nI t) M = some (lN (cX w c (ns x) s t)) := by
  have k1 := hw.1 t
  have k2 := ht.1 t s
  have k3 := cS_le (s := s) ht.1 (gz_1 x hg.1).2.1
  unfold f_X7_above
  rw [G_66_3 h, Option.bind_some, A_68 h hu, Option.bind_some, G_66_11 h, Option.bind_some, e_at, A_75 h (by omega), Option.bind_some, I_66 h, Option.bind_some, m_sumOfTold h hg ht hm hs, Option.bind_some, hw.2 t hu, ht.2 t hu s hs, nI_l (by omega), nI_l (by omega), nI_l (by omega), lN_mul, lN_mul]
  rfl
theorem m_below (h : Shp M) (hg : GeoM x M) (hw : WtM w M) (ht : TdM m c M) (hm : m < 10) (hs : s < 16) (hu : t < 16) : f_X7_below 66 (nI m) (nI s) (nI t) M = some (lN (cX w c (ns x) t s)) := by
  have k1 := hw.1 s
  have k2 := ht.1 s t
  have k3 := cS_le (s := t) ht.1 (gz_1 x hg.1).2.1
  unfold f_X7_below
  rw [G_66_3 h, Option.bind_some, A_68 h hs, Option.bind_some, G_66_11 h, Option.bind_some, e_at, A_75 h (by omega), Option.bind_some, I_66 h, Option.bind_some, m_sumOfTold h hg ht hm hu, Option.bind_some, hw.2 s hs, ht.2 s hs t hu, nI_l (by omega), nI_l (by omega), nI_l (by omega), lN_mul, lN_mul]
  rfl
/-- two fractions in lowest terms, multiplied, give the lowest terms of the plain product -/
theorem low_low {a b c d : Nat} (hb : 0 < b) (hd : 0 < d) : low ((low a b).1 * (low c d).1) ((low a b).2 * (low c d).2) = low (a * c) (b * d) := by
  have hg : 0 < Nat.gcd a b := Nat.gcd_pos_of_pos_right a hb
  have hk : 0 < Nat.gcd c d := Nat.gcd_pos_of_pos_right c hd
  obtain ⟨a', ha⟩ := Nat.gcd_dvd_left a b
  obtain ⟨b', hb'⟩ := Nat.gcd_dvd_right a b
  obtain ⟨c', hc⟩ := Nat.gcd_dvd_left c d
  obtain ⟨d', hd'⟩ := Nat.gcd_dvd_right c d
  have e1 : (low a b).1 = a' := by show a / Nat.gcd a b = a'; exact Nat.div_eq_of_eq_mul_right hg ha
  have e2 : (low a b).2 = b' := by show b / Nat.gcd a b = b'; exact Nat.div_eq_of_eq_mul_right hg hb'
  have e3 : (low c d).1 = c' := by show c / Nat.gcd c d = c'; exact Nat.div_eq_of_eq_mul_right hk hc
  have e4 : (low c d).2 = d' := by show d / Nat.gcd c d = d'; exact Nat.div_eq_of_eq_mul_right hk hd'
  have f1 : a * c = (Nat.gcd a b * Nat.gcd c d) * (a' * c') := by
    calc a * c = (Nat.gcd a b * a') * (Nat.gcd c d * c') := by rw [← ha, ← hc]
      _ = _ := by simp only [Nat.mul_comm, Nat.mul_left_comm, Nat.mul_assoc]
  have f2 : b * d = (Nat.gcd a b * Nat.gcd c d) * (b' * d') := by
    calc b * d = (Nat.gcd a b * b') * (Nat.gcd c d * d') := by rw [← hb', ← hd']
      _ = _ := by simp only [Nat.mul_comm, Nat.mul_left_comm, Nat.mul_assoc]
  rw [e1, e2, e3, e4, f1, f2]
  have hh : 0 < Nat.gcd a b * Nat.gcd c d := Nat.mul_pos hg hk
  unfold low
  rw [Nat.gcd_mul_left, Nat.mul_div_mul_left _ _ hh, Nat.mul_div_mul_left _ _ hh]
theorem low_01 : low 0 1 = (0, 1) := by decide
theorem low_k {k a b : Nat} (hk : 0 < k) : low (k * a) (k * b) = low a b := by
  unfold low
  rw [Nat.gcd_mul_left, Nat.mul_div_mul_left _ _ hk, Nat.mul_div_mul_left _ _ hk]
theorem m_lay0 (h : Shp M) : f_X7_lay 66 (0 : Int64) (1 : Int64) M = some (stM M (low 0 1)) := m_lay (a := 0) (b := 1) h (by omega) (by omega) (by omega)
theorem m_toldChance (h : Shp M) (hg : GeoM x M) (hw : WtM w M) (ht : TdM m c M) (hm : m < 10) (hs : s < ns x) (hu : t < ns x) : ∃ M', f_X7_toldChance 66 (nI m) (nI s) (nI t) M = some M' ∧ FrM (some (cTo w c (ns x) s t)) M' ∧ Cu M M' := by
  have hn := (gz_1 x hg.1).2.1
  have hs16 : s < 16 := by omega
  have hu16 : t < 16 := by omega
  have k1 := hw.1 s
  have k2 := ht.1 s t
  have k3 := cS_le (s := s) ht.1 hn
  have k4 := cX_le (s := s) (t := t) hw.1 ht.1 hn
  have k5 := cX_le (s := t) (t := s) hw.1 ht.1 hn
  have k6 := cp1 (s := s) (t := t) hw.1 ht.1 hn
  have k7 := cp2 (s := s) (t := t) hw.1 ht.1 hn
  have c1 : Cu M (stM M (low 0 1)) := stM_c
  have h1 := c1.1 h
  have g1 := hg.cu c1
  have w1 := hw.cu c1
  have t1 := ht.cu c1
  unfold f_X7_toldChance
  rw [G_66_11 h, Option.bind_some, e_at, A_75 h (by omega), Option.bind_some, ht.2 s hs16 t hu16, I_66 h, Option.bind_some, m_lay0 h, Option.bind_some]
  unfold cTo
  by_cases e1 : c s t = 0
  · rw [if_pos e1, e1, if_pos (show nI 0 = (0 : Int32) from rfl)]
    exact ⟨_, rfl, stM_r, c1⟩
  · have h3 := cS_pos hu e1
    rw [if_neg e1, if_neg (nI_ne0 (by omega) (by omega)), I_66 h1, Option.bind_some, m_above h1 g1 w1 t1 hm hs16 hu16, Option.bind_some, Option.bind_some, m_below h1 g1 w1 t1 hm hs16 hu16, Option.bind_some, Option.bind_some, m_sumOfTold h1 g1 t1 hm hs16, Option.bind_some, Option.bind_some, nI_l (by omega), nI_l (by omega), m_lay h1 (by omega) (by omega) h3, Option.bind_some]
    have c2 : Cu (stM M (low 0 1)) (stM (stM M (low 0 1)) (low (c s t) (sm (c s) (ns x)))) := stM_c
    have h2 := c2.1 h1
    have w2 := w1.cu c2
    have r2 : FrM (some (low (c s t) (sm (c s) (ns x)))) (stM (stM M (low 0 1)) (low (c s t) (sm (c s) (ns x)))) := stM_r
    generalize stM (stM M (low 0 1)) (low (c s t) (sm (c s) (ns x))) = M2 at c2 h2 w2 r2
    rw [G_66_3 h2, Option.bind_some, A_68 h2 hs16, Option.bind_some, w2.2 s hs16]
    by_cases e2 : w s = 0
    · rw [if_pos e2, e2, if_pos (show nI 0 ≤ (0 : Int32) by decide), Option.bind_some, A_68 h2 hs16, Option.bind_some, w2.2 s hs16, e2, if_pos (show nI 0 ≤ (0 : Int32) by decide)]
      exact ⟨_, rfl, r2, c1.tr c2⟩
    · rw [if_neg e2, if_neg (nI_nle (by omega) (by omega))]
      have fin : cX w c (ns x) s t ≠ 0 → cX w c (ns x) s t < cX w c (ns x) t s → ∃ M', ((f_X7_divisorOf (lN (cX w c (ns x) s t)) (lN (cX w c (ns x) t s))).bind fun z_24 => if z_24 = 0 then none else if z_24 = 0 then none else (op_is M2 66 7).bind fun _ => (f_X7_times 66 (lN (cX w c (ns x) s t) / z_24) (lN (cX w c (ns x) t s) / z_24) M2).bind fun z_27 => some z_27) = some M' ∧ FrM (some (low (c s t * cX w c (ns x) s t) (sm (c s) (ns x) * cX w c (ns x) t s))) M' ∧ Cu M M' := by
        intro e3 e4
        have hgp : 0 < Nat.gcd (cX w c (ns x) s t) (cX w c (ns x) t s) := Nat.gcd_pos_of_pos_right _ (by omega)
        have hgl : Nat.gcd (cX w c (ns x) s t) (cX w c (ns x) t s) < 2 ^ 63 := Nat.lt_of_le_of_lt (Nat.gcd_le_right _ (by omega)) (show cX w c (ns x) t s < 2 ^ 63 by omega)
        have hn0 : ¬ lN (Nat.gcd (cX w c (ns x) s t) (cX w c (ns x) t s)) = 0 := fun e => by have := (ln_eq0 hgl).mp e; omega
        rw [m_divisorOf (by omega) (by omega), Option.bind_some, if_neg hn0, if_neg hn0, I_66 h2, Option.bind_some, pk_lDiv (by omega) hgp hgl, pk_lDiv (by omega) hgp hgl]
        obtain ⟨M3, a1, a2, a3⟩ := m_times (y := some (low (c s t) (sm (c s) (ns x)))) (z := some (low (cX w c (ns x) s t) (cX w c (ns x) t s))) h2 r2 (A := lN (cX w c (ns x) s t / Nat.gcd (cX w c (ns x) s t) (cX w c (ns x) t s))) (B := lN (cX w c (ns x) t s / Nat.gcd (cX w c (ns x) s t) (cX w c (ns x) t s))) ⟨rfl, rfl⟩ (low_ok h3 (by omega) (by omega)) (low_ok (by omega) (by omega) (by omega))
        rw [a1, Option.bind_some]
        refine ⟨M3, rfl, ?_, (c1.tr c2).tr a3⟩
        have q1 : (low (c s t) (sm (c s) (ns x))).1 * (low (cX w c (ns x) s t) (cX w c (ns x) t s)).1 ≤ 16000000000 := Nat.le_trans (Nat.mul_le_mul (Nat.div_le_self _ _) (Nat.div_le_self _ _)) k6
        have q2 : (low (c s t) (sm (c s) (ns x))).2 * (low (cX w c (ns x) s t) (cX w c (ns x) t s)).2 ≤ 256000000000 := Nat.le_trans (Nat.mul_le_mul (Nat.div_le_self _ _) (Nat.div_le_self _ _)) k7
        have e : fmul (some (low (c s t) (sm (c s) (ns x)))) (some (low (cX w c (ns x) s t) (cX w c (ns x) t s))) = some (low (c s t * cX w c (ns x) s t) (sm (c s) (ns x) * cX w c (ns x) t s)) := by
          rw [← low_low h3 (show 0 < cX w c (ns x) t s by omega)]
          exact if_pos ⟨Nat.lt_of_le_of_lt q1 (by decide), Nat.lt_of_le_of_lt q2 (by decide)⟩
        rw [e] at a2
        exact a2
      by_cases e4 : cX w c (ns x) s t < cX w c (ns x) t s
      · rw [if_pos ((pk_lLT (by omega) (by omega)).mpr e4)]
        by_cases e3 : cX w c (ns x) s t = 0
        · rw [if_pos e3, e3, if_pos (show lN 0 = (0 : Int64) from rfl), I_66 h2, Option.bind_some, m_lay0 h2, Option.bind_some]
          exact ⟨_, rfl, stM_r, (c1.tr c2).tr stM_c⟩
        · rw [if_neg e3, if_pos e4, if_neg (fun e => e3 ((ln_eq0 (by omega)).mp e))]
          exact fin e3 e4
      · rw [if_neg (fun e => e4 ((pk_lLT (by omega) (by omega)).mp e)), Option.bind_some, A_68 h2 hs16, Option.bind_some, w2.2 s hs16, if_neg (nI_nle (by omega) (by omega))]
        by_cases e3 : cX w c (ns x) s t = 0
        · rw [if_pos e3, e3, if_pos (show lN 0 = (0 : Int64) from rfl), if_pos (show lN 0 = (0 : Int64) from rfl), I_66 h2, Option.bind_some, m_lay0 h2, Option.bind_some]
          exact ⟨_, rfl, stM_r, (c1.tr c2).tr stM_c⟩
        · rw [if_neg e3, if_neg e4, if_neg (fun e => e3 ((ln_eq0 (by omega)).mp e))]
          exact ⟨_, rfl, r2, c1.tr c2⟩
end
