section
variable {M M' : Mm} {x : Zt} {w : Nat → Nat} {c : Nat → Nat → Nat} {s p t m n : Nat}
theorem Ar_of {y : Fq} {M : Mm} (h : FrM y M) : Ar y (mm_L M 66 21) (mm_L M 66 22) := by
  cases y with
  | none => exact h
  | some z => exact h
theorem Fr_put {y : Fq} {A B : Int64} {M : Mm} (h : Ar y A B) : FrM y (mm_wL (mm_wL M 66 21 A) 66 22 B) := by
  have e1 : mm_L (mm_wL (mm_wL M 66 21 A) 66 22 B) 66 21 = A := by rw [mL_wL, if_neg (by decide), mL_wL, if_pos ⟨rfl, rfl⟩]
  have e2 : mm_L (mm_wL (mm_wL M 66 21 A) 66 22 B) 66 22 = B := by rw [mL_wL, if_pos ⟨rfl, rfl⟩]
  cases y with
  | none => exact e2.trans h
  | some z => exact ⟨e1.trans h.1, e2.trans h.2⟩
theorem Cu_put {A B : Int64} {M : Mm} : Cu M (mm_wL (mm_wL M 66 21 A) 66 22 B) := Cu.w1.tr Cu.w2
theorem m_tf_l (K : Int64 → Int64 → Mm → Option Mm) (hm : m < 10) (hx : x ∈ OKZ) (hs : s < ns x) : ∀ (k u : Nat) (A B : Int64) (M : Mm), u ≤ ns x → ns x - u < k → Shp M → GeoM x M → WtM w M → TdM m c M → Ar (cTl w c (ns x) s u) A B → ∃ A' B' M', lp_X7_toldFrom_22 K 66 (nI m) (nI s) k A B (nI u) M = K A' B' M' ∧ Ar (cTl w c (ns x) s (ns x)) A' B' ∧ Cu M M'
  | 0, u, A, B, M, _, h2, _, _, _, _, _ => absurd h2 (by omega)
  | k + 1, u, A, B, M, h1, h2, h, hg, hw, ht, hf => by
    have hn := (gz_1 x hx).2.1
    have hs16 := gz_n hx hs
    rw [lp_X7_toldFrom_22, G_66_2 h, Option.bind_some, hg.2.2.1]
    by_cases hu : u = ns x
    · rw [if_pos (nI_le (by omega) (by omega))]
      subst hu
      exact ⟨A, B, M, rfl, hf, Cu.rf⟩
    · have hlt : u < ns x := by omega
      rw [if_neg (nI_ge hlt (by omega))]
      simp only [op_jn]
      by_cases e : u = s
      · rw [if_pos (by rw [e]), nI_1]
        exact m_tf_l K hm hx hs k (u + 1) A B M (by omega) (by omega) h hg hw ht (by rw [show cTl w c (ns x) s (u + 1) = cTl w c (ns x) s u from if_pos e]; exact hf)
      · obtain ⟨M1, a1, a2, a3⟩ := m_toldChance h hg hw ht hm hs hlt
        have h1' := a3.1 h
        have p2 : Cu M1 (mm_wL (mm_wL M1 66 21 A) 66 22 B) := Cu_put
        have hok := cTo_ok (s := s) hw.1 ht.1 hn hlt
        obtain ⟨M2, b1, b2, b3⟩ := m_and (sh_wL (sh_wL h1')) (Fr_put hf) (Ar_of a2) (cTl_in (s := s) hw.1 ht.1 hn u (by omega)).1 hok (sg := 1) (R := fsub (cTl w c (ns x) s u) (some (cTo w c (ns x) s u))) (Or.inr ⟨rfl, rfl, cTl_nn hw.1 ht.1 hn hlt e⟩)
        have h2' := b3.1 (sh_wL (sh_wL h1'))
        rw [if_neg (fun q => e ((nI_eq (by omega) (by omega)).mp q)), I_66 h, Option.bind_some, a1, Option.bind_some, G_66_21 h1', Option.bind_some, G_66_22 h1', Option.bind_some, P_66_21 h1', Option.bind_some, P_66_22 (sh_wL h1'), Option.bind_some, I_66 (sh_wL (sh_wL h1')), Option.bind_some, b1, Option.bind_some, G_66_21 h2', Option.bind_some, G_66_22 h2', Option.bind_some, nI_1]
        have c2 : Cu M M2 := (a3.tr p2).tr b3
        obtain ⟨A3, B3, M3, d1, d2, d3⟩ := m_tf_l K hm hx hs k (u + 1) (mm_L M2 66 21) (mm_L M2 66 22) M2 (by omega) (by omega) h2' (hg.cu c2) (hw.cu c2) (ht.cu c2) (by rw [show cTl w c (ns x) s (u + 1) = fsub (cTl w c (ns x) s u) (some (cTo w c (ns x) s u)) from if_neg e]; exact Ar_of b2)
        exact ⟨A3, B3, M3, d1, d2, c2.tr d3⟩
theorem m_toldFrom (h : Shp M) (hg : GeoM x M) (hw : WtM w M) (ht : TdM m c M) (hm : m < 10) (hs : s < ns x) (hu : t < ns x) : ∃ M', f_X7_toldFrom 66 (nI m) (nI s) (nI t) M = some M' ∧ FrM (cTel w c (ns x) s t) M' ∧ Cu M M' := by
  have hn := (gz_1 x hg.1).2.1
  have hs16 := gz_n hg.1 hs
  have hu16 := gz_n hg.1 hu
  unfold f_X7_toldFrom cTel
  by_cases e : s = t
  · rw [if_pos (by rw [e]), if_pos e]
    obtain ⟨A, B, M1, a1, a2, a3⟩ := m_tf_l (w := w) (c := c) (fun (l_15_4 : Int64) (l_15_6 : Int64) (M_15 : Mm) => (op_pL M_15 7 66 21 l_15_4).bind fun M_16 => (op_pL M_16 7 66 22 l_15_6).bind fun M_17 => some M_17) hm hg.1 hs FU 0 (1 : Int64) (1 : Int64) M (by omega) (by unfold FU; omega) h hg hw ht ⟨rfl, rfl⟩
    have h1 := a3.1 h
    refine ⟨mm_wL (mm_wL M1 66 21 A) 66 22 B, ?_, Fr_put a2, a3.tr Cu_put⟩
    refine Eq.trans a1 ?_
    show (op_pL M1 7 66 21 A).bind (fun M_16 => (op_pL M_16 7 66 22 B).bind fun M_17 => some M_17) = _
    rw [P_66_21 h1, Option.bind_some, P_66_22 (sh_wL h1), Option.bind_some]
  · obtain ⟨M1, a1, a2, a3⟩ := m_toldChance h hg hw ht hm hs hu
    rw [if_neg (fun q => e ((nI_eq (by omega) (by omega)).mp q)), if_neg e, I_66 h, Option.bind_some, a1, Option.bind_some]
    exact ⟨M1, rfl, a2, a3⟩
theorem m_sl1 (K : Int32 → Option Mm) (h : Shp M) (hg : GeoM x M) (hw : WtM w M) (hs : s < ns x) (hp : p < np x) {lo hi : Nat} (hlo : lo ≤ 1000) (hhi : hi ≤ 1000) (hlt : lo < hi) (a2 : Int32) (a4 : Int64) (a6 : Int32) : ∀ (n i : Nat), i ≤ zs x p → zs x p - i < n → lp_X7_sliceChance_28 K 66 (nI s) a2 (nI p) a4 a6 (nI (lo + 1)) M n (nI (nwf x w s p lo hi i)) (nI i) = K (nI (nwf x w s p lo hi (zs x p)))
  | 0, i, _, h2 => absurd h2 (by omega)
  | n + 1, i, h1, h2 => by
    have hz := gz_2 x hg.1 p hp
    have hp4 := gz_p hg.1 hp
    have hs16 := gz_n hg.1 hs
    rw [lp_X7_sliceChance_28, G_66_1 h, Option.bind_some, A_67 h hp4, Option.bind_some, hg.2.2.2 p hp4]
    by_cases hi' : i = zs x p
    · rw [if_pos (nI_le (by omega) (by omega)), hi']
    · have hl : i < zs x p := by omega
      have hil16 := gz_n hg.1 (gz_5 x hg.1 s hs p hp i hl).1
      have hw1 := hw.1 (il x s p i)
      have hb := (nwf_in (x := x) (w := w) (s := s) (p := p) hlt i).2.1
      rw [if_neg (nI_ge hl (by omega)), G_66_3 h, Option.bind_some, I_66 h, Option.bind_some, m_with h hg hs16 hp, Option.bind_some, A_68 h hil16, Option.bind_some, hw.2 _ hil16, nI_1]
      have e : (if nI (w (il x s p i)) < nI (lo + 1) then nI (nwf x w s p lo hi i) else if nI (nwf x w s p lo hi i) ≤ nI (w (il x s p i)) then nI (nwf x w s p lo hi i) else nI (w (il x s p i))) = nI (nwf x w s p lo hi (i + 1)) := by
        show _ = nI (if w (il x s p i) ≤ lo then nwf x w s p lo hi i else if nwf x w s p lo hi i ≤ w (il x s p i) then nwf x w s p lo hi i else w (il x s p i))
        by_cases e1 : w (il x s p i) ≤ lo
        · rw [if_pos e1, if_pos (nI_lt (by omega) (by omega))]
        · rw [if_neg e1, if_neg (nI_nlt (by omega) (by omega))]
          by_cases e2 : nwf x w s p lo hi i ≤ w (il x s p i)
          · rw [if_pos e2, if_pos (nI_le e2 (by omega))]
          · rw [if_neg e2, if_neg (nI_ge (by omega) (by omega))]
      rw [e]
      exact m_sl1 K h hg hw hs hp hlo hhi hlt a2 a4 a6 n (i + 1) (by omega) (by omega)
theorem m_sl2 (K : Int64 → Option Mm) (h : Shp M) (hg : GeoM x M) (hw : WtM w M) (hs : s < ns x) (ht : t < ns x) (hp : p < np x) {v : Nat} (hv : v < zs x p) (hvt : il x s p v = t) {u : Nat} (hu : u < zs x p) (hus : il x s p u = s) : ∀ (n lo : Nat), lo ≤ w s → w s - lo < n → lp_X7_sliceChance_14 K 66 (nI s) (nI t) (nI p) (nI (w s)) M n (lN (slN x w s p (if w t < lo then w t else lo))) (nI (lo + 1)) = K (lN (slN x w s p (if w t < w s then w t else w s)))
  | 0, lo, _, h2 => absurd h2 (by omega)
  | n + 1, lo, h1, h2 => by
    have ht16 := gz_n hg.1 ht
    have k1 := hw.1 s
    have k2 := hw.1 t
    rw [lp_X7_sliceChance_14]
    by_cases e : lo = w s
    · rw [if_pos (nI_lt (by omega) (by omega)), e]
    · have hlt : lo < w s := by omega
      obtain ⟨a1, a2, a3, a4⟩ := nwf_in (x := x) (w := w) (s := s) (p := p) hlt (zs x p)
      rw [if_neg (nI_nlt (by omega) (by omega))]
      refine Eq.trans (m_sl1 _ h hg hw hs hp (by omega) k1 hlt _ _ _ FU 0 (by omega) (by have := (gz_2 x hg.1 p hp).2.1; unfold FU; omega)) ?_
      rw [G_66_3 h, Option.bind_some, A_68 h ht16, Option.bind_some, hw.2 t ht16]
      simp only [op_jn]
      have ih := m_sl2 K h hg hw hs ht hp hv hvt hu hus n (nwf x w s p lo (w s) (zs x p)) a2 (by omega)
      by_cases e2 : w t < lo + 1
      · rw [if_pos (nI_lt e2 (by omega)), show (0 : Int64) = lN 0 from rfl, lN_add, Nat.add_zero, nI_1]
        have r1 : (if w t < lo then w t else lo) = w t := by
          by_cases q : w t < lo
          · rw [if_pos q]
          · rw [if_neg q]; omega
        have r2 : (if w t < nwf x w s p lo (w s) (zs x p) then w t else nwf x w s p lo (w s) (zs x p)) = w t := if_pos (by omega)
        rw [r2] at ih
        rw [r1]
        exact ih
      · have h5 := lc_pos (x := x) (w := w) (s := s) (p := p) (lv := lo + 1) hu (by rw [hus]; omega)
        have h6 := lc_le (w := w) (s := s) (lv := lo + 1) hg.1 hp
        have h7 := (a3 v hv).resolve_left (by rw [hvt]; omega)
        rw [hvt] at h7
        have r1 : (if w t < lo then w t else lo) = lo := if_neg (by omega)
        have r2 : (if w t < nwf x w s p lo (w s) (zs x p) then w t else nwf x w s p lo (w s) (zs x p)) = nwf x w s p lo (w s) (zs x p) := if_neg (by omega)
        rw [r2] at ih
        have k3 := slN_le (x := x) (w := w) (s := s) (p := p) (n := nwf x w s p lo (w s) (zs x p))
        rw [if_neg (nI_nlt (by omega) (by omega)), I_66 h, Option.bind_some, m_manyFrom h hg hw hs hp (by omega), Option.bind_some, if_neg (nI_ne0 (by omega) (by omega)), show (60 : Int32) = nI 60 from rfl, pk_div (by omega) (by omega) (by omega), pk_sub (by omega), nI_1, nI_l (by omega), nI_l (by have : 60 / lc x w s p (lo + 1) ≤ 60 := Nat.div_le_self _ _; omega), lN_mul, lN_add, r1, show nwf x w s p lo (w s) (zs x p) - (lo + 1) + 1 = nwf x w s p lo (w s) (zs x p) - lo by omega, ← sl_step hlt, nI_1]
        exact ih
theorem gz_14 : ∀ x ∈ OKZ, ∀ s, s < ns x → ∀ p, p < np x → vl x s p < zs x p := by decide +kernel
theorem m_sliceChance (h : Shp M) (hg : GeoM x M) (hw : WtM w M) (hs : s < ns x) (ht : t < ns x) (hp : p < np x) (hl : il x s p (vl x t p) = t) (h0 : w s ≠ 0) : f_X7_sliceChance 66 (nI s) (nI t) (nI p) M = some (stM M (low (slN x w s p (if w t < w s then w t else w s)) (60 * w s))) := by
  have hs16 := gz_n hg.1 hs
  have k1 := hw.1 s
  have hb : (if w t < w s then w t else w s) ≤ 1000 := by by_cases q : w t < w s <;> simp [q] <;> omega
  have k3 := slN_le (x := x) (w := w) (s := s) (p := p) (n := if w t < w s then w t else w s)
  unfold f_X7_sliceChance
  rw [G_66_3 h, Option.bind_some, A_68 h hs16, Option.bind_some, hw.2 s hs16]
  have e := m_sl2 (fun (l_31_4 : Int64) => (op_is M 66 7).bind fun _ => (f_X7_lay 66 l_31_4 ((60 : Int64) * (nI (w s)).toInt64) M).bind fun z_32 => some z_32) h hg hw hs ht hp (gz_14 x hg.1 t ht p hp) hl (gz_14 x hg.1 s hs p hp) (gz_7 x hg.1 s hs p hp) FU 0 (by omega) (by unfold FU; omega)
  rw [show (if w t < 0 then w t else 0) = 0 from if_neg (by omega)] at e
  refine Eq.trans e ?_
  rw [I_66 h, Option.bind_some, nI_l (by omega), show (60 : Int64) = lN 60 from rfl, lN_mul, m_lay h (by omega) (by omega) (by omega), Option.bind_some]
end
