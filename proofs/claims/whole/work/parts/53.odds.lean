section
variable {M M' M'' : Mm} {z : Zt} {w : Nat → Nat} {V V' : Mv} {n nm cg m s t : Nat} {a b c d : Int32}
theorem p_isMO {k : Nat} {e : Int32} (h : Shp M) (hr : MvC V nm n M) (hn : nm ≤ 10) (hm : m < nm) (hk : e = nI k) (hk2 : k < 10) (ho : vK V m ≤ 6) : f_X6_isMoveOf 0 (nI m) e M = some (if vK V m = k then 1 else 0) := by
  have hm10 : m < 10 := by omega
  have b0 := (hr.2 m hm).1
  unfold f_X6_isMoveOf
  by_cases q : vK V m = k
  · have q' : nI (vK V m) = nI k := by rw [q]
    simp only [I_0 h, p_isM1 h hr.1 hn hm, G_0_1 h, A_6 h hm10, G_m_0 h hm10, b0, hk, q', q, i10, Option.bind_some, ↓reduceIte]
  · have q' : ¬ nI (vK V m) = nI k := fun e => q ((nI_eq (by omega) (by omega)).mp e)
    simp only [I_0 h, p_isM1 h hr.1 hn hm, G_0_1 h, A_6 h hm10, G_m_0 h hm10, b0, hk, q', q, i10, Option.bind_some, ↓reduceIte]
theorem p_isMO0 {e : Int32} (h : Shp M) (hr : mm_I M 0 5 = nI nm) (hn : nm ≤ 10) (q : ¬ ok nm a) : f_X6_isMoveOf 0 a e M = some 0 := by
  unfold f_X6_isMoveOf
  simp only [I_0 h, p_isM0 h hr hn q, i10, Option.bind_some, ↓reduceIte]
theorem i_ge1 (c1 : ¬ b < 1) (c2 : b ≤ 100) : ∃ p, 1 ≤ p ∧ p ≤ 100 ∧ b = nI p := by
  have c0 : ¬ b < 0 := by
    rw [Int32.lt_iff_toInt_lt] at c1 ⊢
    have e1 : (1 : Int32).toInt = 1 := rfl
    have e0 : (0 : Int32).toInt = 0 := rfl
    rw [e1] at c1
    rw [e0]
    omega
  obtain ⟨p, hp, rfl⟩ := nI_of2 (M := 100) (n := 100) rfl c0 c2
  refine ⟨p, ?_, hp, rfl⟩
  by_cases e : p = 0
  · subst e; exact absurd (show nI 0 < 1 by decide) c1
  · omega
theorem s_odds (I : Inv cg M) (hcg : cg + 1 < 2 ^ 30) : Agr cg (f_X6_odds 0 a b c M) (f_X7_odds 66 a b c) := by
  obtain ⟨h, J⟩ := id I
  rcases J with J | ⟨z, w, V, nm, C, B, ca, R⟩
  · refine Agr.no (A := -2) I ?_ ?_
    · unfold f_X6_odds
      simp only [I_0 h, pH0 h J.2.2.1, i10, Option.bind_some, ↓reduceIte]
    · unfold f_X7_odds
      simp only [G_66_2 h, J.2.2.2.2.2.2.1, i10, Option.bind_some, ↓reduceIte]
  · have hg := C.1
    have gm := B.1
    have hn := B.2.2.2.1
    by_cases q : ok nm a
    · obtain ⟨m, hm, rfl⟩ := q
      have hm10 : m < 10 := by omega
      obtain ⟨o1, o2, o3, o4, o5, o6⟩ := B.2.2.1 m hm
      have mo := p_isMO (k := 5) (e := 5) h C.2.2.2.2.1 hn hm rfl (by omega) o1
      have kk := (B.2.2.2.2.2 m hm).1
      have pre : ∀ {A : Int32} {X : Mm}, (if (if vK V m = 5 then (1 : Int32) else 0) = 0 then some ((-1 : Int32), M) else if b < (1 : Int32) then some ((-1 : Int32), M) else if (100 : Int32) < b then some ((-1 : Int32), M) else if c < (1 : Int32) then some ((-1 : Int32), M) else if c ≤ (100 : Int32) then (op_gR M 6 0 1).bind fun x_9 => (op_aR M x_9 (nI m)).bind fun x_10 => (op_pI M 2 x_10 3 b).bind fun M_11 => (op_gR M_11 6 0 1).bind fun x_12 => (op_aR M_11 x_12 (nI m)).bind fun x_13 => (op_pI M_11 2 x_13 4 c).bind fun M_14 => (op_gR M_14 6 0 2).bind fun x_15 => (op_is M_14 x_15 0).bind fun _ => (f_X0_forget x_15 M_14).bind fun z_16 => some ((1 : Int32), z_16) else some ((-1 : Int32), M)) = some (A, X) → f_X6_odds 0 (nI m) b c M = some (A, X) := fun e => by
        unfold f_X6_odds
        simp only [I_0 h, pH1 h hg, mo, i10, Option.bind_some, ↓reduceIte]
        exact e
      have prm : ∀ {N : Mm} {A : Int32} {X : Mm}, Shp N → RB z w V nm N → (if nI (vK V m) = (5 : Int32) then (f_X7_isIn b (1 : Int32) (100 : Int32)).bind fun z_8 => if z_8 = 0 then some ((-1 : Int32), N) else (f_X7_isIn c (1 : Int32) (100 : Int32)).bind fun z_10 => if z_10 = 0 then some ((-1 : Int32), N) else (op_gR N 7 66 9).bind fun x_12 => (op_sI N x_12 (nI m) b).bind fun M_13 => (op_gR M_13 7 66 10).bind fun x_14 => (op_sI M_13 x_14 (nI m) c).bind fun M_15 => (op_is M_15 66 7).bind fun _ => (f_X7_changed 66 M_15).bind fun z_16 => some ((1 : Int32), z_16) else some ((-1 : Int32), N)) = some (A, X) → f_X7_odds 66 (nI m) b c N = some (A, X) := fun hN rN e => by
        unfold f_X7_odds
        simp only [G_66_2 hN, ns_n0 rN.1, I_66 hN, m_isM1 hN rN.2.2.2.2.1 hn hm, G_66_5 hN, A_69 hN hm10, (rN.2.2.2.2.2 m hm).1, i10, Option.bind_some, ↓reduceIte]
        exact e
      by_cases e5 : vK V m = 5
      · have k5 : nI (vK V m) = (5 : Int32) := by rw [e5]; rfl
        by_cases c1 : b < 1
        · exact Agr.no (A := -1) I (pre (by rw [if_pos e5, if_neg (by decide), if_pos c1])) (prm h B (by rw [if_pos k5, m_isI0 (Or.inl c1), Option.bind_some, if_pos rfl]))
        · by_cases c2 : b ≤ 100
          · by_cases c3 : c < 1
            · exact Agr.no (A := -1) I (pre (by rw [if_pos e5, if_neg (by decide), if_neg c1, if_neg (Int32.not_lt.mpr c2), if_pos c3])) (prm h B (by rw [if_pos k5, m_isI c1 c2, Option.bind_some, if_neg (by decide), m_isI0 (Or.inl c3), Option.bind_some, if_pos rfl]))
            · by_cases c4 : c ≤ 100
              · obtain ⟨p, p1, p2, rfl⟩ := i_ge1 c1 c2
                obtain ⟨q, q1, q2, rfl⟩ := i_ge1 c3 c4
                have e57 : mm_I (mm_wI (mm_wI M (7 + 5 * m) 3 (nI p)) (7 + 5 * m) 4 (nI q)) 57 7 = nI cg := by rw [mI_wI, if_neg (by omega), mI_wI, if_neg (by omega)]; exact C.2.2.2.2.2.1
                have h1 : Shp (mm_wI (mm_wI (mm_wI M (7 + 5 * m) 3 (nI p)) (7 + 5 * m) 4 (nI q)) 57 7 (nI (cg + 1))) := sh_wI (sh_wI (sh_wI h))
                have f1 : ∀ x k, ¬ (x = 7 + 5 * m ∧ (k = 3 ∨ k = 4)) → ¬ (x = 57 ∧ k = 7) → mm_I (mm_wI (mm_wI (mm_wI M (7 + 5 * m) 3 (nI p)) (7 + 5 * m) 4 (nI q)) 57 7 (nI (cg + 1))) x k = mm_I M x k := fun x k u1 u2 => by rw [mI_wI, if_neg u2, mI_wI, if_neg (by omega), mI_wI, if_neg (by omega)]
                have v1 : mm_I (mm_wI (mm_wI (mm_wI M (7 + 5 * m) 3 (nI p)) (7 + 5 * m) 4 (nI q)) 57 7 (nI (cg + 1))) (7 + 5 * m) 3 = nI p := by rw [mI_wI, if_neg (by omega), mI_wI, if_neg (by omega), mI_wI, if_pos ⟨rfl, rfl⟩]
                have v2 : mm_I (mm_wI (mm_wI (mm_wI M (7 + 5 * m) 3 (nI p)) (7 + 5 * m) 4 (nI q)) 57 7 (nI (cg + 1))) (7 + 5 * m) 4 = nI q := by rw [mI_wI, if_neg (by omega), mI_wI, if_pos ⟨rfl, rfl⟩]
                have v3 : mm_I (mm_wI (mm_wI (mm_wI M (7 + 5 * m) 3 (nI p)) (7 + 5 * m) 4 (nI q)) 57 7 (nI (cg + 1))) 57 7 = nI (cg + 1) := by rw [mI_wI, if_pos ⟨rfl, rfl⟩]
                have cx : f_X6_odds 0 (nI m) (nI p) (nI q) M = some (1, mm_wI (mm_wI (mm_wI M (7 + 5 * m) 3 (nI p)) (7 + 5 * m) 4 (nI q)) 57 7 (nI (cg + 1))) := pre (by
                  rw [if_pos e5, if_neg (by decide), if_neg c1, if_neg (Int32.not_lt.mpr c2), if_neg c3, if_pos c4]
                  simp only [Option.bind_some, G_0_1 h, A_6 h hm10, P_m_3 h hm10, G_0_1 (sh_wI h), A_6 (sh_wI h) hm10, P_m_4 (sh_wI h) hm10, G_0_2 (sh_wI (sh_wI h)), I_57 (sh_wI (sh_wI h)), p_forget (sh_wI (sh_wI h)) e57])
                generalize mm_wI (mm_wI (mm_wI M (7 + 5 * m) 3 (nI p)) (7 + 5 * m) 4 (nI q)) 57 7 (nI (cg + 1)) = M1 at h1 f1 v1 v2 v3 cx
                have B1 : RB z w V nm M1 := B.fr (fun x k e => f1 x k (by omega) (by omega))
                have f2 : ∀ x k, ¬ (x = 73 ∧ k = m) → ¬ (x = 74 ∧ k = m) → mm_I (mm_wI (mm_wI M1 73 m (nI p)) 74 m (nI q)) x k = mm_I M1 x k := fun x k u1 u2 => by rw [mI_wI, if_neg u2, mI_wI, if_neg u1]
                have y1 : mm_I (mm_wI (mm_wI M1 73 m (nI p)) 74 m (nI q)) 73 m = nI p := by rw [mI_wI, if_neg (by omega), mI_wI, if_pos ⟨rfl, rfl⟩]
                have y2 : mm_I (mm_wI (mm_wI M1 73 m (nI p)) 74 m (nI q)) 74 m = nI q := by rw [mI_wI, if_pos ⟨rfl, rfl⟩]
                obtain ⟨M3, d1, d2, d3, d4, d5⟩ := m_changed (M := mm_wI (mm_wI M1 73 m (nI p)) 74 m (nI q)) (sh_wI (sh_wI h1))
                have mx : f_X7_odds 66 (nI m) (nI p) (nI q) M1 = some (1, M3) := prm h1 B1 (by
                  rw [if_pos k5, m_isI c1 c2, Option.bind_some, if_neg (by decide), m_isI c3 c4, Option.bind_some, if_neg (by decide)]
                  simp only [Option.bind_some, G_66_9 h1, S_73 h1 hm10, G_66_10 (sh_wI h1), S_74 (sh_wI h1) hm10, I_66 (sh_wI (sh_wI h1)), d1])
                have fA : ∀ x k, ¬ (x = 7 + 5 * m ∧ (k = 3 ∨ k = 4)) → ¬ (x = 57 ∧ k = 7) → ¬ (x = 73 ∧ k = m) → ¬ (x = 74 ∧ k = m) → x ≠ 78 → mm_I M3 x k = mm_I M x k := fun x k u1 u2 u3 u4 u5 => ((d4 x k u5).trans (f2 x k u3 u4)).trans (f1 x k u1 u2)
                refine ⟨1, M1, M3, cg + 1, cx, h1, mx, d2, by omega, by omega, Or.inr ⟨z, w, (V.1, V.2.1, V.2.2.1, (fun j => if j = m then p else vP V j), (fun j => if j = m then q else vQ V j), V.2.2.2.2.2.1, V.2.2.2.2.2.2), nm, ⟨⟨hg.1, (fA _ _ (by omega) (by omega) (by omega) (by omega) (by omega)).trans hg.2.1, (fA _ _ (by omega) (by omega) (by omega) (by omega) (by omega)).trans hg.2.2.1, fun p hp => (fA _ _ (by omega) (by omega) (by omega) (by omega) (by omega)).trans (hg.2.2.2.1 p hp), fun p hp => (fA _ _ (by omega) (by omega) (by omega) (by omega) (by omega)).trans (hg.2.2.2.2.1 p hp), fun s hs p hp => (fA _ _ (by omega) (by omega) (by omega) (by omega) (by omega)).trans (hg.2.2.2.2.2 s hs p hp)⟩, ⟨C.2.1.1, fun j hj => (fA _ _ (by omega) (by omega) (by omega) (by omega) (by omega)).trans (C.2.1.2 j hj)⟩, ?_, hn, ⟨(fA _ _ (by omega) (by omega) (by omega) (by omega) (by omega)).trans C.2.2.2.2.1.1, fun i hi => ?_⟩, CaC_new ?_ hcg (fun i hi => ?_) hn⟩, ⟨⟨gm.1, (fA _ _ (by omega) (by omega) (by omega) (by omega) (by omega)).trans gm.2.1, (fA _ _ (by omega) (by omega) (by omega) (by omega) (by omega)).trans gm.2.2.1, fun p hp => (fA _ _ (by omega) (by omega) (by omega) (by omega) (by omega)).trans (gm.2.2.2 p hp)⟩, ⟨B.2.1.1, fun j hj => (fA _ _ (by omega) (by omega) (by omega) (by omega) (by omega)).trans (B.2.1.2 j hj)⟩, ?_, hn, ⟨(fA _ _ (by omega) (by omega) (by omega) (by omega) (by omega)).trans B.2.2.2.2.1, fun i hi => ?_⟩⟩, CaM_new d5 hn, R.fr (fun x k e => fA x k (by omega) (by omega) (by omega) (by omega) (by omega))⟩⟩
                · intro i hi
                  obtain ⟨z1, z2, z3, z4, ⟨z5, z6, z7, z8⟩, z9⟩ := B.2.2.1 i hi
                  refine ⟨z1, z2, z3, z4, ?_, z9⟩
                  show 1 ≤ (if i = m then p else vP V i) ∧ (if i = m then p else vP V i) ≤ 100 ∧ 1 ≤ (if i = m then q else vQ V i) ∧ (if i = m then q else vQ V i) ≤ 100
                  by_cases ei : i = m
                  · rw [if_pos ei, if_pos ei]; exact ⟨p1, p2, q1, q2⟩
                  · rw [if_neg ei, if_neg ei]; exact ⟨z5, z6, z7, z8⟩
                · obtain ⟨b0, b1, b2, b3, b4, b5, b6⟩ := C.2.2.2.2.1.2 i hi
                  have f : ∀ k, ¬ (k = 3 ∨ k = 4) → mm_I M3 (7 + 5 * i) k = mm_I M (7 + 5 * i) k := fun k hk => fA _ _ (by omega) (by omega) (by omega) (by omega) (by omega)
                  refine ⟨(f 0 (by omega)).trans b0, fun e => (f 1 (by omega)).trans (b1 e), fun e => (f 2 (by omega)).trans (b2 e), ?_, ?_, (f 5 (by omega)).trans b5, b6.1, fun s hs t ht => (fA _ _ (by omega) (by omega) (by omega) (by omega) (by omega)).trans (b6.2.1 s hs t ht), fun s hs => (fA _ _ (by omega) (by omega) (by omega) (by omega) (by omega)).trans (b6.2.2 s hs)⟩
                  · show mm_I M3 (7 + 5 * i) 3 = nI (if i = m then p else vP V i)
                    by_cases ei : i = m
                    · rw [if_pos ei, ei, d4 _ _ (by omega), f2 _ _ (by omega) (by omega), v1]
                    · rw [if_neg ei, fA _ _ (by omega) (by omega) (by omega) (by omega) (by omega)]
                      exact b3
                  · show mm_I M3 (7 + 5 * i) 4 = nI (if i = m then q else vQ V i)
                    by_cases ei : i = m
                    · rw [if_pos ei, ei, d4 _ _ (by omega), f2 _ _ (by omega) (by omega), v2]
                    · rw [if_neg ei, fA _ _ (by omega) (by omega) (by omega) (by omega) (by omega)]
                      exact b4
                · rw [d4 57 7 (by omega), f2 57 7 (by omega) (by omega), v3]
                · obtain ⟨r, r1, r2, -⟩ := C.2.2.2.2.2.2.2.1 i hi
                  exact ⟨r, r1, (fA _ _ (by omega) (by omega) (by omega) (by omega) (by omega)).trans r2⟩
                · intro i hi
                  obtain ⟨z1, z2, z3, z4, ⟨z5, z6, z7, z8⟩, z9⟩ := B.2.2.1 i hi
                  refine ⟨z1, z2, z3, z4, ?_, z9⟩
                  show 1 ≤ (if i = m then p else vP V i) ∧ (if i = m then p else vP V i) ≤ 100 ∧ 1 ≤ (if i = m then q else vQ V i) ∧ (if i = m then q else vQ V i) ≤ 100
                  by_cases ei : i = m
                  · rw [if_pos ei, if_pos ei]; exact ⟨p1, p2, q1, q2⟩
                  · rw [if_neg ei, if_neg ei]; exact ⟨z5, z6, z7, z8⟩
                · obtain ⟨b0, b1, b2, b3, b4, b5, b6⟩ := B.2.2.2.2.2 i hi
                  refine ⟨(fA _ _ (by omega) (by omega) (by omega) (by omega) (by omega)).trans b0, fun e => (fA _ _ (by omega) (by omega) (by omega) (by omega) (by omega)).trans (b1 e), fun e => (fA _ _ (by omega) (by omega) (by omega) (by omega) (by omega)).trans (b2 e), ?_, ?_, (fA _ _ (by omega) (by omega) (by omega) (by omega) (by omega)).trans b5, b6.1, fun s hs t ht => (fA _ _ (by omega) (by omega) (by omega) (by omega) (by omega)).trans (b6.2 s hs t ht)⟩
                  · show mm_I M3 73 i = nI (if i = m then p else vP V i)
                    by_cases ei : i = m
                    · rw [if_pos ei, ei, d4 _ _ (by omega), y1]
                    · rw [if_neg ei, fA _ _ (by omega) (by omega) (by omega) (by omega) (by omega)]
                      exact b3
                  · show mm_I M3 74 i = nI (if i = m then q else vQ V i)
                    by_cases ei : i = m
                    · rw [if_pos ei, ei, d4 _ _ (by omega), y2]
                    · rw [if_neg ei, fA _ _ (by omega) (by omega) (by omega) (by omega) (by omega)]
                      exact b4
              · exact Agr.no (A := -1) I (pre (by rw [if_pos e5, if_neg (by decide), if_neg c1, if_neg (Int32.not_lt.mpr c2), if_neg c3, if_neg c4])) (prm h B (by rw [if_pos k5, m_isI c1 c2, Option.bind_some, if_neg (by decide), m_isI0 (Or.inr c4), Option.bind_some, if_pos rfl]))
          · exact Agr.no (A := -1) I (pre (by rw [if_pos e5, if_neg (by decide), if_neg c1, if_pos (Int32.not_le.mp c2)])) (prm h B (by rw [if_pos k5, m_isI0 (Or.inr c2), Option.bind_some, if_pos rfl]))
      · exact Agr.no (A := -1) I (pre (by rw [if_neg e5, if_pos rfl])) (prm h B (by rw [if_neg (show ¬ nI (vK V m) = (5 : Int32) from fun q => e5 ((nI_eq (by omega) (by omega)).mp q))]))
    · refine Agr.no (A := -1) I ?_ ?_
      · unfold f_X6_odds
        simp only [I_0 h, pH1 h hg, p_isMO0 h C.2.2.2.2.1.1 hn q, i10, Option.bind_some, ↓reduceIte]
      · unfold f_X7_odds
        simp only [G_66_2 h, ns_n0 gm, I_66 h, m_isM0 h B.2.2.2.2.1 hn q, i10, Option.bind_some, ↓reduceIte]
end
