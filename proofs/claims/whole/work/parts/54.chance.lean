theorem i_as (x y o s : Int32) (e : x + y = s + o) : x + (y - o) = s := by
  rw [Int32.sub_eq_add_neg, ← Int32.add_assoc, e, ← Int32.sub_eq_add_neg, Int32.add_sub_cancel]
theorem sm_upd {f : Nat → Nat} {t v : Nat} : ∀ {n : Nat}, t < n → sm (fun j => if j = t then v else f j) n + f t = sm f n + v
  | 0, h => absurd h (by omega)
  | n + 1, h => by
    show sm (fun j => if j = t then v else f j) n + (if n = t then v else f n) + f t = sm f n + f n + v
    by_cases e : n = t
    · subst e
      rw [if_pos rfl]
      have : sm (fun j => if j = n then v else f j) n = sm f n := sm_cg (fun i hi => if_neg (by omega))
      rw [this]
      omega
    · have := sm_upd (f := f) (t := t) (v := v) (n := n) (by omega)
      rw [if_neg e]
      omega
def uT (c : Nat → Nat → Nat) (s t v : Nat) : Nat → Nat → Nat := fun x y => if x = s then (if y = t then v else c x y) else c x y
section
variable {M M' M'' : Mm} {z : Zt} {w : Nat → Nat} {V V' : Mv} {n nm cg m s t : Nat} {a b c d : Int32}
theorem uT_s {c : Nat → Nat → Nat} {v x : Nat} (h : x = s) : uT c s t v x = fun y => if y = t then v else c x y := by
  funext y
  unfold uT
  rw [if_pos h]
theorem uT_o {c : Nat → Nat → Nat} {v x : Nat} (h : ¬ x = s) : uT c s t v x = c x := by
  funext y
  unfold uT
  rw [if_neg h]
theorem s_chance (I : Inv cg M) (hcg : cg + 1 < 2 ^ 30) : Agr cg (f_X6_chance 0 a b c d M) (f_X7_chance 66 a b c d) := by
  obtain ⟨h, J⟩ := id I
  rcases J with J | ⟨z, w, V, nm, C, B, ca, R⟩
  · refine Agr.no (A := -2) I ?_ ?_
    · unfold f_X6_chance
      simp only [I_0 h, pH0 h J.2.2.1, Option.bind_some, ↓reduceIte]
    · unfold f_X7_chance
      simp only [G_66_2 h, J.2.2.2.2.2.2.1, Option.bind_some, ↓reduceIte]
  · have hg := C.1
    have gm := B.1
    have hn := B.2.2.2.1
    by_cases q : ok nm a
    · obtain ⟨m, hm, rfl⟩ := q
      have hm10 : m < 10 := by omega
      obtain ⟨o1, o2, o3, o4, o5, o6⟩ := B.2.2.1 m hm
      have mo := p_isMO (k := 3) (e := 3) h C.2.2.2.2.1 hn hm rfl (by omega) o1
      have kk := (B.2.2.2.2.2 m hm).1
      by_cases e3 : vK V m = 3
      · rw [if_pos e3] at mo
        have k3 : nI (vK V m) = (3 : Int32) := by rw [e3]; rfl
        rw [k3] at kk
        by_cases q : ok (ns z) b
        · obtain ⟨s, hs, rfl⟩ := q
          have hs16 := gz_n hg.1 hs
          by_cases q : ok (ns z) c
          · obtain ⟨t, ht, rfl⟩ := q
            have ht16 := gz_n hg.1 ht
            by_cases c1 : d < 0
            · refine Agr.no (A := -1) I ?_ ?_
              · unfold f_X6_chance
                simp only [I_0 h, pH1 h hg, mo, G_0_0 h, I_1 h, p_isState h hg hs, p_isState h hg ht, c1, i10, Option.bind_some, ↓reduceIte]
              · unfold f_X7_chance
                simp only [G_66_2 h, ns_n0 gm, I_66 h, m_isM1 h B.2.2.2.2.1 hn hm, G_66_5 h, A_69 h hm10, kk, m_isState h gm hs, m_isState h gm ht, m_isI0 (hi := 100) (Or.inl c1), i10, Option.bind_some, ↓reduceIte]
            · by_cases c2 : d ≤ 100
              · obtain ⟨v, hv, rfl⟩ := nI_of2 (M := 100) (n := 100) rfl c1 c2
                obtain ⟨td1, td2, td3⟩ := (C.2.2.2.2.1.2 m hm).2.2.2.2.2.2
                have tdm := (B.2.2.2.2.2 m hm).2.2.2.2.2.2
                have old := td1 s t
                have hn16 := (gz_1 z hg.1).2.1
                have su := sm_upd (f := vT V m s) (t := t) (v := v) ht
                have lt : s * 16 + t < 256 := by omega
                have e57 : mm_I M 57 7 = nI cg := C.2.2.2.2.2.1
                have esum : nI (sm (vT V m s) (ns z)) + (nI v - nI (vT V m s t)) = nI (sm (fun j => if j = t then v else vT V m s j) (ns z)) := i_as _ _ _ _ (by rw [nI_add, nI_add, su])
                have cx : f_X6_chance 0 (nI m) (nI s) (nI t) (nI v) M = some (nI (vT V m s t), mm_wI (mm_wI (mm_wI M 57 7 (nI (cg + 1))) (8 + 5 * m) (s * 16 + t) (nI v)) (9 + 5 * m) s (nI (sm (fun j => if j = t then v else vT V m s j) (ns z)))) := by
                  unfold f_X6_chance f_X2_tell f_X2_toldOf
                  have n1 : mm_I (mm_wI M 57 7 (nI (cg + 1))) (8 + 5 * m) (s * 16 + t) = nI (vT V m s t) := by rw [mI_wI, if_neg (by omega)]; exact td2 s hs16 t ht16
                  have n2 : mm_I (mm_wI (mm_wI M 57 7 (nI (cg + 1))) (8 + 5 * m) (s * 16 + t) (nI v)) (9 + 5 * m) s = nI (sm (vT V m s) (ns z)) := by rw [mI_wI, if_neg (by omega), mI_wI, if_neg (by omega)]; exact td3 s hs16
                  simp only [I_0 h, pH1 h hg, mo, G_0_0 h, I_1 h, p_isState h hg hs, p_isState h hg ht, c1, c2, G_0_2 h, I_57 h, p_forget h e57, G_0_1 (sh_wI h), A_6 (sh_wI h) hm10, I_m (sh_wI h) hm10, G_m_6 (sh_wI h) hm10, e_cell, A_m_0 (sh_wI h) hm10 lt, S_m_0 (sh_wI h) hm10 lt, G_m_7 (sh_wI (sh_wI h)) hm10, A_m_1 (sh_wI (sh_wI h)) hm10 hs16, S_m_1 (sh_wI (sh_wI h)) hm10 hs16, n1, n2, esum, i10, Option.bind_some, ↓reduceIte]
                have h1 : Shp (mm_wI (mm_wI (mm_wI M 57 7 (nI (cg + 1))) (8 + 5 * m) (s * 16 + t) (nI v)) (9 + 5 * m) s (nI (sm (fun j => if j = t then v else vT V m s j) (ns z)))) := sh_wI (sh_wI (sh_wI h))
                have f1 : ∀ x k, ¬ (x = 57 ∧ k = 7) → ¬ (x = 8 + 5 * m ∧ k = s * 16 + t) → ¬ (x = 9 + 5 * m ∧ k = s) → mm_I (mm_wI (mm_wI (mm_wI M 57 7 (nI (cg + 1))) (8 + 5 * m) (s * 16 + t) (nI v)) (9 + 5 * m) s (nI (sm (fun j => if j = t then v else vT V m s j) (ns z)))) x k = mm_I M x k := fun x k u1 u2 u3 => by rw [mI_wI, if_neg u3, mI_wI, if_neg u2, mI_wI, if_neg u1]
                have v1 : mm_I (mm_wI (mm_wI (mm_wI M 57 7 (nI (cg + 1))) (8 + 5 * m) (s * 16 + t) (nI v)) (9 + 5 * m) s (nI (sm (fun j => if j = t then v else vT V m s j) (ns z)))) (8 + 5 * m) (s * 16 + t) = nI v := by rw [mI_wI, if_neg (by omega), mI_wI, if_pos ⟨rfl, rfl⟩]
                have v2 : mm_I (mm_wI (mm_wI (mm_wI M 57 7 (nI (cg + 1))) (8 + 5 * m) (s * 16 + t) (nI v)) (9 + 5 * m) s (nI (sm (fun j => if j = t then v else vT V m s j) (ns z)))) (9 + 5 * m) s = nI (sm (fun j => if j = t then v else vT V m s j) (ns z)) := by rw [mI_wI, if_pos ⟨rfl, rfl⟩]
                have v3 : mm_I (mm_wI (mm_wI (mm_wI M 57 7 (nI (cg + 1))) (8 + 5 * m) (s * 16 + t) (nI v)) (9 + 5 * m) s (nI (sm (fun j => if j = t then v else vT V m s j) (ns z)))) 57 7 = nI (cg + 1) := by rw [mI_wI, if_neg (by omega), mI_wI, if_neg (by omega), mI_wI, if_pos ⟨rfl, rfl⟩]
                generalize mm_wI (mm_wI (mm_wI M 57 7 (nI (cg + 1))) (8 + 5 * m) (s * 16 + t) (nI v)) (9 + 5 * m) s (nI (sm (fun j => if j = t then v else vT V m s j) (ns z))) = M1 at h1 f1 v1 v2 v3 cx
                have B1 : RB z w V nm M1 := B.fr (fun x k e => f1 x k (by omega) (by omega) (by omega))
                have l75 := at_lt hg.1 hm10 hs ht
                have f2 : ∀ x k, ¬ (x = 75 ∧ k = 256 * m + 16 * s + t) → mm_I (mm_wI M1 75 (256 * m + 16 * s + t) (nI v)) x k = mm_I M1 x k := fun x k u1 => by rw [mI_wI, if_neg u1]
                have y1 : mm_I (mm_wI M1 75 (256 * m + 16 * s + t) (nI v)) 75 (256 * m + 16 * s + t) = nI v := by rw [mI_wI, if_pos ⟨rfl, rfl⟩]
                obtain ⟨M3, d1, d2, d3, d4, d5⟩ := m_changed (M := mm_wI M1 75 (256 * m + 16 * s + t) (nI v)) (sh_wI h1)
                have mx : f_X7_chance 66 (nI m) (nI s) (nI t) (nI v) M1 = some (nI (vT V m s t), M3) := by
                  have kk1 : mm_I M1 69 m = 3 := (f1 69 m (by omega) (by omega) (by omega)).trans kk
                  have t1 : mm_I M1 75 (256 * m + 16 * s + t) = nI (vT V m s t) := (B1.2.2.2.2.2 m hm).2.2.2.2.2.2.2 s hs16 t ht16
                  unfold f_X7_chance
                  simp only [G_66_2 h1, ns_n0 B1.1, I_66 h1, m_isM1 h1 B1.2.2.2.2.1 hn hm, G_66_5 h1, A_69 h1 hm10, kk1, m_isState h1 B1.1 hs, m_isState h1 B1.1 ht, m_isI c1 c2, G_66_11 h1, e_at, A_75 h1 l75, S_75 h1 l75, t1, I_66 (sh_wI h1), d1, i10, Option.bind_some, ↓reduceIte]
                have fA : ∀ x k, ¬ (x = 57 ∧ k = 7) → ¬ (x = 8 + 5 * m ∧ k = s * 16 + t) → ¬ (x = 9 + 5 * m ∧ k = s) → ¬ (x = 75 ∧ k = 256 * m + 16 * s + t) → x ≠ 78 → mm_I M3 x k = mm_I M x k := fun x k u1 u2 u3 u4 u5 => ((d4 x k u5).trans (f2 x k u4)).trans (f1 x k u1 u2 u3)
                have okN : okV z (V.1, V.2.1, V.2.2.1, V.2.2.2.1, V.2.2.2.2.1, V.2.2.2.2.2.1, (fun j => if j = m then uT (vT V m) s t v else vT V j)) nm := fun i hi => by
                  obtain ⟨z1, z2, z3, z4, z5, z9⟩ := B.2.2.1 i hi
                  refine ⟨z1, z2, z3, z4, z5, fun x y => ?_⟩
                  show (if i = m then uT (vT V m) s t v else vT V i) x y ≤ 100
                  by_cases ei : i = m
                  · rw [if_pos ei]
                    unfold uT
                    by_cases ex : x = s
                    · rw [if_pos ex]
                      by_cases ey : y = t
                      · rw [if_pos ey]; exact hv
                      · rw [if_neg ey]; exact o6 x y
                    · rw [if_neg ex]; exact o6 x y
                  · rw [if_neg ei]; exact z9 x y
                refine ⟨nI (vT V m s t), M1, M3, cg + 1, cx, h1, mx, d2, by omega, by omega, Or.inr ⟨z, w, (V.1, V.2.1, V.2.2.1, V.2.2.2.1, V.2.2.2.2.1, V.2.2.2.2.2.1, (fun j => if j = m then uT (vT V m) s t v else vT V j)), nm, ⟨⟨hg.1, (fA _ _ (by omega) (by omega) (by omega) (by omega) (by omega)).trans hg.2.1, (fA _ _ (by omega) (by omega) (by omega) (by omega) (by omega)).trans hg.2.2.1, fun p hp => (fA _ _ (by omega) (by omega) (by omega) (by omega) (by omega)).trans (hg.2.2.2.1 p hp), fun p hp => (fA _ _ (by omega) (by omega) (by omega) (by omega) (by omega)).trans (hg.2.2.2.2.1 p hp), fun s hs p hp => (fA _ _ (by omega) (by omega) (by omega) (by omega) (by omega)).trans (hg.2.2.2.2.2 s hs p hp)⟩, ⟨C.2.1.1, fun j hj => (fA _ _ (by omega) (by omega) (by omega) (by omega) (by omega)).trans (C.2.1.2 j hj)⟩, okN, hn, ⟨(fA _ _ (by omega) (by omega) (by omega) (by omega) (by omega)).trans C.2.2.2.2.1.1, fun i hi => ?_⟩, CaC_new ?_ hcg (fun i hi => ?_) hn⟩, ⟨⟨gm.1, (fA _ _ (by omega) (by omega) (by omega) (by omega) (by omega)).trans gm.2.1, (fA _ _ (by omega) (by omega) (by omega) (by omega) (by omega)).trans gm.2.2.1, fun p hp => (fA _ _ (by omega) (by omega) (by omega) (by omega) (by omega)).trans (gm.2.2.2 p hp)⟩, ⟨B.2.1.1, fun j hj => (fA _ _ (by omega) (by omega) (by omega) (by omega) (by omega)).trans (B.2.1.2 j hj)⟩, okN, hn, ⟨(fA _ _ (by omega) (by omega) (by omega) (by omega) (by omega)).trans B.2.2.2.2.1, fun i hi => ?_⟩⟩, CaM_new d5 hn, R.fr (fun x k e => fA x k (by omega) (by omega) (by omega) (by omega) (by omega))⟩⟩
                · obtain ⟨b0, b1, b2, b3, b4, b5, b6⟩ := C.2.2.2.2.1.2 i hi
                  have f : ∀ k, mm_I M3 (7 + 5 * i) k = mm_I M (7 + 5 * i) k := fun k => fA _ _ (by omega) (by omega) (by omega) (by omega) (by omega)
                  refine ⟨(f 0).trans b0, fun e => (f 1).trans (b1 e), fun e => (f 2).trans (b2 e), (f 3).trans b3, (f 4).trans b4, (f 5).trans b5, (okN i hi).2.2.2.2.2, fun x hx y hy => ?_, fun x hx => ?_⟩
                  · show mm_I M3 (8 + 5 * i) (x * 16 + y) = nI ((if i = m then uT (vT V m) s t v else vT V i) x y)
                    by_cases ei : i = m
                    · subst ei
                      rw [if_pos rfl]
                      by_cases ex : x = s
                      · rw [uT_s ex]
                        show _ = nI (if y = t then v else vT V i x y)
                        by_cases ey : y = t
                        · rw [if_pos ey, ex, ey, d4 _ _ (by omega), f2 _ _ (by omega), v1]
                        · rw [if_neg ey, fA _ _ (by omega) (by omega) (by omega) (by omega) (by omega)]
                          exact b6.2.1 x hx y hy
                      · rw [uT_o ex, fA _ _ (by omega) (by omega) (by omega) (by omega) (by omega)]
                        exact b6.2.1 x hx y hy
                    · rw [if_neg ei, fA _ _ (by omega) (by omega) (by omega) (by omega) (by omega)]
                      exact b6.2.1 x hx y hy
                  · show mm_I M3 (9 + 5 * i) x = nI (sm ((if i = m then uT (vT V m) s t v else vT V i) x) (ns z))
                    by_cases ei : i = m
                    · subst ei
                      rw [if_pos rfl]
                      by_cases ex : x = s
                      · rw [uT_s ex, ex, d4 _ _ (by omega), f2 _ _ (by omega), v2]
                      · rw [uT_o ex, fA _ _ (by omega) (by omega) (by omega) (by omega) (by omega)]
                        exact b6.2.2 x hx
                    · rw [if_neg ei, fA _ _ (by omega) (by omega) (by omega) (by omega) (by omega)]
                      exact b6.2.2 x hx
                · rw [d4 57 7 (by omega), f2 57 7 (by omega), v3]
                · obtain ⟨r, r1, r2, -⟩ := C.2.2.2.2.2.2.2.1 i hi
                  exact ⟨r, r1, (fA _ _ (by omega) (by omega) (by omega) (by omega) (by omega)).trans r2⟩
                · obtain ⟨b0, b1, b2, b3, b4, b5, b6⟩ := B.2.2.2.2.2 i hi
                  refine ⟨(fA _ _ (by omega) (by omega) (by omega) (by omega) (by omega)).trans b0, fun e => (fA _ _ (by omega) (by omega) (by omega) (by omega) (by omega)).trans (b1 e), fun e => (fA _ _ (by omega) (by omega) (by omega) (by omega) (by omega)).trans (b2 e), (fA _ _ (by omega) (by omega) (by omega) (by omega) (by omega)).trans b3, (fA _ _ (by omega) (by omega) (by omega) (by omega) (by omega)).trans b4, (fA _ _ (by omega) (by omega) (by omega) (by omega) (by omega)).trans b5, (okN i hi).2.2.2.2.2, fun x hx y hy => ?_⟩
                  show mm_I M3 75 (256 * i + 16 * x + y) = nI ((if i = m then uT (vT V m) s t v else vT V i) x y)
                  by_cases ei : i = m
                  · subst ei
                    rw [if_pos rfl]
                    by_cases ex : x = s
                    · rw [uT_s ex]
                      show _ = nI (if y = t then v else vT V i x y)
                      by_cases ey : y = t
                      · rw [if_pos ey, ex, ey, d4 _ _ (by omega), y1]
                      · rw [if_neg ey, fA _ _ (by omega) (by omega) (by omega) (by omega) (by omega)]
                        exact b6.2 x hx y hy
                    · rw [uT_o ex, fA _ _ (by omega) (by omega) (by omega) (by omega) (by omega)]
                      exact b6.2 x hx y hy
                  · rw [if_neg ei, fA _ _ (by omega) (by omega) (by omega) (by omega) (by omega)]
                    exact b6.2 x hx y hy
              · refine Agr.no (A := -1) I ?_ ?_
                · unfold f_X6_chance
                  simp only [I_0 h, pH1 h hg, mo, G_0_0 h, I_1 h, p_isState h hg hs, p_isState h hg ht, c1, c2, i10, Option.bind_some, ↓reduceIte]
                · unfold f_X7_chance
                  simp only [G_66_2 h, ns_n0 gm, I_66 h, m_isM1 h B.2.2.2.2.1 hn hm, G_66_5 h, A_69 h hm10, kk, m_isState h gm hs, m_isState h gm ht, m_isI0 (lo := 0) (Or.inr c2), i10, Option.bind_some, ↓reduceIte]
          · refine Agr.no (A := -1) I ?_ ?_
            · unfold f_X6_chance
              simp only [I_0 h, pH1 h hg, mo, G_0_0 h, I_1 h, p_isState h hg hs, p_isS0 h hg q, i10, Option.bind_some, ↓reduceIte]
            · unfold f_X7_chance
              simp only [G_66_2 h, ns_n0 gm, I_66 h, m_isM1 h B.2.2.2.2.1 hn hm, G_66_5 h, A_69 h hm10, kk, m_isState h gm hs, m_isS0 h gm q, i10, Option.bind_some, ↓reduceIte]
        · refine Agr.no (A := -1) I ?_ ?_
          · unfold f_X6_chance
            simp only [I_0 h, pH1 h hg, mo, G_0_0 h, I_1 h, p_isS0 h hg q, i10, Option.bind_some, ↓reduceIte]
          · unfold f_X7_chance
            simp only [G_66_2 h, ns_n0 gm, I_66 h, m_isM1 h B.2.2.2.2.1 hn hm, G_66_5 h, A_69 h hm10, kk, m_isS0 h gm q, i10, Option.bind_some, ↓reduceIte]
      · rw [if_neg e3] at mo
        have n3 : ¬ nI (vK V m) = (3 : Int32) := fun q => e3 ((nI_eq (by omega) (by omega)).mp q)
        refine Agr.no (A := -1) I ?_ ?_
        · unfold f_X6_chance
          simp only [I_0 h, pH1 h hg, mo, i10, Option.bind_some, ↓reduceIte]
        · unfold f_X7_chance
          simp only [G_66_2 h, ns_n0 gm, I_66 h, m_isM1 h B.2.2.2.2.1 hn hm, G_66_5 h, A_69 h hm10, kk, n3, i10, Option.bind_some, ↓reduceIte]
    · refine Agr.no (A := -1) I ?_ ?_
      · unfold f_X6_chance
        simp only [I_0 h, pH1 h hg, p_isMO0 h C.2.2.2.2.1.1 hn q, i10, Option.bind_some, ↓reduceIte]
      · unfold f_X7_chance
        simp only [G_66_2 h, ns_n0 gm, I_66 h, m_isM0 h B.2.2.2.2.1 hn q, i10, Option.bind_some, ↓reduceIte]
end
