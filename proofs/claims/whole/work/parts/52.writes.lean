section
variable {M M' M'' : Mm} {z : Zt} {w : Nat → Nat} {V V' : Mv} {n nm cg m s t : Nat} {a b c d : Int32}
theorem CaC_new (hx : mm_I M 57 7 = nI (cg + 1)) (hc : cg + 1 < 2 ^ 30) (h : ∀ m, m < 10 → ∃ r, r ≤ cg ∧ mm_I M (7 + 5 * m) 10 = nI r) (hn : nm ≤ 10) : CaC z w V nm (cg + 1) M := by
  refine ⟨hx, hc, fun m hm => ?_, fun m hm e => ?_⟩
  · obtain ⟨r, r1, r2⟩ := h m hm
    exact ⟨r, by omega, r2, fun _ => by omega⟩
  · obtain ⟨r, r1, r2⟩ := h m (by omega)
    rw [r2] at e
    have := (nI_eq (by omega) (by omega)).mp e
    omega
theorem CaC.fr0 (h : CaC z w V nm cg M) : Fr0 cg M := ⟨h.1, h.2.1, fun m hm => by obtain ⟨r, r1, r2, -⟩ := h.2.2.1 m hm; exact ⟨r, r1, r2⟩⟩
theorem p_forget (h : Shp M) (e : mm_I M 57 7 = nI cg) : f_X0_forget 57 M = some (mm_wI M 57 7 (nI (cg + 1))) := by
  unfold f_X0_forget
  simp only [G_57_7 h, P_57_7 h, e, nI_1, i10, Option.bind_some, ↓reduceIte]
theorem m_chg_l : ∀ (k i : Nat) (M : Mm), i ≤ 10 → 10 - i < k → Shp M → ∃ M', lp_X7_changed_2 66 k (nI i) M = some M' ∧ Shp M' ∧ mm_L M' = mm_L M ∧ (∀ a k, a ≠ 78 → mm_I M' a k = mm_I M a k) ∧ (∀ j, j < i → mm_I M' 78 j = mm_I M 78 j) ∧ ∀ j, i ≤ j → j < 10 → mm_I M' 78 j = 0
  | 0, i, M, _, h2, _ => absurd h2 (by omega)
  | k + 1, i, M, h1, h2, h => by
    rw [lp_X7_changed_2]
    by_cases e : i = 10
    · rw [if_pos (show (10 : Int32) ≤ nI i by rw [e]; decide)]
      exact ⟨M, rfl, h, rfl, fun _ _ _ => rfl, fun _ _ => rfl, fun j q1 q2 => absurd q1 (by omega)⟩
    · rw [if_neg (show ¬ (10 : Int32) ≤ nI i from nI_ge (a := i) (b := 10) (by omega) (by omega)), G_66_14 h, Option.bind_some, S_78 h (by omega) (Or.inl rfl), Option.bind_some, nI_1]
      obtain ⟨M1, a1, a2, a3, a4, a5, a6⟩ := m_chg_l k (i + 1) (mm_wI M 78 i 0) (by omega) (by omega) (sh_wI h)
      refine ⟨M1, a1, a2, a3, fun a j ha => ?_, fun j hj => ?_, fun j q1 q2 => ?_⟩
      · rw [a4 a j ha, mI_wI, if_neg (fun e => ha e.1)]
      · rw [a5 j (by omega), mI_wI, if_neg (fun e => by omega)]
      · by_cases ej : j = i
        · rw [a5 j (by omega), mI_wI, if_pos ⟨rfl, ej⟩]
        · exact a6 j (by omega) q2
theorem m_changed (h : Shp M) : ∃ M', f_X7_changed 66 M = some M' ∧ Shp M' ∧ mm_L M' = mm_L M ∧ (∀ a k, a ≠ 78 → mm_I M' a k = mm_I M a k) ∧ ∀ j, j < 10 → mm_I M' 78 j = 0 := by
  unfold f_X7_changed
  obtain ⟨M1, a1, a2, a3, a4, a5, a6⟩ := m_chg_l FU 0 M (by omega) (by unfold FU; omega) h
  exact ⟨M1, a1, a2, a3, a4, fun j hj => a6 j (by omega) hj⟩
theorem CaM_new (h : ∀ j, j < 10 → mm_I M 78 j = 0) (hn : nm ≤ 10) : CaM z w V nm M := fun j hj => ⟨Or.inl (h j (by omega)), fun e => by rw [h j (by omega)] at e; exact absurd e (by decide)⟩
theorem s_weight (I : Inv cg M) (hcg : cg + 1 < 2 ^ 30) : Agr cg (f_X6_weight 0 a b M) (f_X7_weight 66 a b) := by
  obtain ⟨h, J⟩ := id I
  rcases J with J | ⟨z, w, V, nm, C, B, ca, R⟩
  · refine Agr.no (A := -2) I ?_ ?_
    · unfold f_X6_weight
      simp only [I_0 h, pH0 h J.2.2.1, i10, Option.bind_some, ↓reduceIte]
    · unfold f_X7_weight
      simp only [G_66_2 h, J.2.2.2.2.2.2.1, i10, Option.bind_some, ↓reduceIte]
  · have hg := C.1
    have gm := B.1
    have hn := B.2.2.2.1
    by_cases q : ok (ns z) a
    · obtain ⟨s, hs, rfl⟩ := q
      have hs16 := gz_n hg.1 hs
      by_cases c1 : b < 0
      · refine Agr.no (A := -1) I ?_ ?_
        · unfold f_X6_weight
          simp only [I_0 h, pH1 h hg, G_0_0 h, I_1 h, p_isState h hg hs, c1, i10, Option.bind_some, ↓reduceIte]
        · unfold f_X7_weight
          simp only [G_66_2 h, ns_n0 gm, I_66 h, m_isState h gm hs, m_isI0 (Or.inl c1), i10, Option.bind_some, ↓reduceIte]
      · by_cases c2 : b ≤ 1000
        · obtain ⟨v, hv, rfl⟩ := nI_of2 (M := 1000) (n := 1000) rfl c1 c2
          have e57 : mm_I (mm_wI M 5 s (nI v)) 57 7 = nI cg := by rw [mI_wI, if_neg (by omega)]; exact C.2.2.2.2.2.1
          have h1 : Shp (mm_wI (mm_wI M 5 s (nI v)) 57 7 (nI (cg + 1))) := sh_wI (sh_wI h)
          have f1 : ∀ q k, ¬ (q = 5 ∧ k = s) → ¬ (q = 57 ∧ k = 7) → mm_I (mm_wI (mm_wI M 5 s (nI v)) 57 7 (nI (cg + 1))) q k = mm_I M q k := fun q k q1 q2 => by rw [mI_wI, if_neg q2, mI_wI, if_neg q1]
          have v1 : mm_I (mm_wI (mm_wI M 5 s (nI v)) 57 7 (nI (cg + 1))) 5 s = nI v := by rw [mI_wI, if_neg (by omega), mI_wI, if_pos ⟨rfl, rfl⟩]
          have v2 : mm_I (mm_wI (mm_wI M 5 s (nI v)) 57 7 (nI (cg + 1))) 57 7 = nI (cg + 1) := by rw [mI_wI, if_pos ⟨rfl, rfl⟩]
          have v3 : mm_L (mm_wI (mm_wI M 5 s (nI v)) 57 7 (nI (cg + 1))) = mm_L M := rfl
          have cx : f_X6_weight 0 (nI s) (nI v) M = some (nI (w s), mm_wI (mm_wI M 5 s (nI v)) 57 7 (nI (cg + 1))) := by
            unfold f_X6_weight
            simp only [I_0 h, pH1 h hg, G_0_0 h, I_1 h, p_isState h hg hs, c1, c2, i10, Option.bind_some, ↓reduceIte]
            simp only [Option.bind_some, G_1_5 h, A_5 h hs16, S_5 h hs16, G_0_2 (sh_wI h), I_57 (sh_wI h), p_forget (sh_wI h) e57, C.2.1.2 s hs16]
          generalize mm_wI (mm_wI M 5 s (nI v)) 57 7 (nI (cg + 1)) = M1 at h1 f1 v1 v2 v3 cx
          have r1 : mm_I (mm_wI M1 68 s (nI v)) 68 s = nI v := by rw [mI_wI, if_pos ⟨rfl, rfl⟩]
          have f2 : ∀ q k, ¬ (q = 68 ∧ k = s) → mm_I (mm_wI M1 68 s (nI v)) q k = mm_I M1 q k := fun q k q1 => by rw [mI_wI, if_neg q1]
          have g1 : GeoM z M1 := ⟨gm.1, (f1 _ _ (by omega) (by omega)).trans gm.2.1, (f1 _ _ (by omega) (by omega)).trans gm.2.2.1, fun p hp => (f1 _ _ (by omega) (by omega)).trans (gm.2.2.2 p hp)⟩
          have w1 : mm_I M1 68 s = nI (w s) := (f1 _ _ (by omega) (by omega)).trans (B.2.1.2 s hs16)
          obtain ⟨M3, d1, d2, d3, d4, d5⟩ := m_changed (sh_wI h1 (q := 68) (k := s) (x := nI v))
          have mx : f_X7_weight 66 (nI s) (nI v) M1 = some (nI (w s), M3) := by
            unfold f_X7_weight
            simp only [G_66_2 h1, ns_n0 g1, I_66 h1, m_isState h1 g1 hs, m_isI c1 c2, i10, Option.bind_some, ↓reduceIte]
            simp only [Option.bind_some, G_66_3 h1, A_68 h1 hs16, S_68 h1 hs16, w1, I_66 (sh_wI h1), d1]
          have fA : ∀ q k, ¬ (q = 5 ∧ k = s) → ¬ (q = 57 ∧ k = 7) → ¬ (q = 68 ∧ k = s) → q ≠ 78 → mm_I M3 q k = mm_I M q k := fun q k q1 q2 q3 q4 => ((d4 q k q4).trans (f2 q k q3)).trans (f1 q k q1 q2)
          have hL : mm_L M3 = mm_L M := d3.trans v3
          refine ⟨nI (w s), M1, M3, cg + 1, cx, h1, mx, d2, by omega, by omega, Or.inr ⟨z, fun j => if j = s then v else w j, V, nm, ⟨⟨hg.1, (fA _ _ (by omega) (by omega) (by omega) (by omega)).trans hg.2.1, (fA _ _ (by omega) (by omega) (by omega) (by omega)).trans hg.2.2.1, fun p hp => (fA _ _ (by omega) (by omega) (by omega) (by omega)).trans (hg.2.2.2.1 p hp), fun p hp => (fA _ _ (by omega) (by omega) (by omega) (by omega)).trans (hg.2.2.2.2.1 p hp), fun s hs p hp => (fA _ _ (by omega) (by omega) (by omega) (by omega)).trans (hg.2.2.2.2.2 s hs p hp)⟩, ⟨fun j => ?_, fun j hj => ?_⟩, C.2.2.1, hn, ⟨(fA _ _ (by omega) (by omega) (by omega) (by omega)).trans C.2.2.2.2.1.1, fun m hm => ?_⟩, CaC_new ?_ hcg (fun m hm => ?_) hn⟩, ⟨⟨gm.1, (fA _ _ (by omega) (by omega) (by omega) (by omega)).trans gm.2.1, (fA _ _ (by omega) (by omega) (by omega) (by omega)).trans gm.2.2.1, fun p hp => (fA _ _ (by omega) (by omega) (by omega) (by omega)).trans (gm.2.2.2 p hp)⟩, ⟨fun j => ?_, fun j hj => ?_⟩, B.2.2.1, hn, ⟨(fA _ _ (by omega) (by omega) (by omega) (by omega)).trans B.2.2.2.2.1, fun m hm => ?_⟩⟩, CaM_new d5 hn, R.fr (fun q k e => fA q k (by omega) (by omega) (by omega) (by omega))⟩⟩
          · show (if j = s then v else w j) ≤ 1000
            by_cases ej : j = s
            · rw [if_pos ej]; exact hv
            · rw [if_neg ej]; exact C.2.1.1 j
          · show mm_I M3 5 j = nI (if j = s then v else w j)
            by_cases ej : j = s
            · rw [if_pos ej, ej, d4 5 s (by omega), f2 5 s (by omega), v1]
            · rw [if_neg ej, fA 5 j (by omega) (by omega) (by omega) (by omega)]
              exact C.2.1.2 j hj
          · obtain ⟨b0, b1, b2, b3, b4, b5, b6⟩ := C.2.2.2.2.1.2 m hm
            have f : ∀ k, mm_I M3 (7 + 5 * m) k = mm_I M (7 + 5 * m) k := fun k => fA _ _ (by omega) (by omega) (by omega) (by omega)
            exact ⟨(f 0).trans b0, fun e => (f 1).trans (b1 e), fun e => (f 2).trans (b2 e), (f 3).trans b3, (f 4).trans b4, (f 5).trans b5, b6.1, fun s hs t ht => (fA _ _ (by omega) (by omega) (by omega) (by omega)).trans (b6.2.1 s hs t ht), fun s hs => (fA _ _ (by omega) (by omega) (by omega) (by omega)).trans (b6.2.2 s hs)⟩
          · rw [d4 57 7 (by omega), f2 57 7 (by omega), v2]
          · obtain ⟨r, r1, r2, -⟩ := C.2.2.2.2.2.2.2.1 m hm
            exact ⟨r, r1, (fA _ _ (by omega) (by omega) (by omega) (by omega)).trans r2⟩
          · show (if j = s then v else w j) ≤ 1000
            by_cases ej : j = s
            · rw [if_pos ej]; exact hv
            · rw [if_neg ej]; exact C.2.1.1 j
          · show mm_I M3 68 j = nI (if j = s then v else w j)
            by_cases ej : j = s
            · rw [if_pos ej, ej, d4 68 s (by omega), r1]
            · rw [if_neg ej, fA 68 j (by omega) (by omega) (by omega) (by omega)]
              exact B.2.1.2 j hj
          · obtain ⟨b0, b1, b2, b3, b4, b5, b6⟩ := B.2.2.2.2.2 m hm
            exact ⟨(fA _ _ (by omega) (by omega) (by omega) (by omega)).trans b0, fun e => (fA _ _ (by omega) (by omega) (by omega) (by omega)).trans (b1 e), fun e => (fA _ _ (by omega) (by omega) (by omega) (by omega)).trans (b2 e), (fA _ _ (by omega) (by omega) (by omega) (by omega)).trans b3, (fA _ _ (by omega) (by omega) (by omega) (by omega)).trans b4, (fA _ _ (by omega) (by omega) (by omega) (by omega)).trans b5, b6.1, fun s hs t ht => (fA _ _ (by omega) (by omega) (by omega) (by omega)).trans (b6.2 s hs t ht)⟩
        · refine Agr.no (A := -1) I ?_ ?_
          · unfold f_X6_weight
            simp only [I_0 h, pH1 h hg, G_0_0 h, I_1 h, p_isState h hg hs, c1, c2, i10, Option.bind_some, ↓reduceIte]
          · unfold f_X7_weight
            simp only [G_66_2 h, ns_n0 gm, I_66 h, m_isState h gm hs, m_isI0 (Or.inr c2), i10, Option.bind_some, ↓reduceIte]
    · refine Agr.no (A := -1) I ?_ ?_
      · unfold f_X6_weight
        simp only [I_0 h, pH1 h hg, G_0_0 h, I_1 h, p_isS0 h hg q, i10, Option.bind_some, ↓reduceIte]
      · unfold f_X7_weight
        simp only [G_66_2 h, ns_n0 gm, I_66 h, m_isS0 h gm q, i10, Option.bind_some, ↓reduceIte]
end
