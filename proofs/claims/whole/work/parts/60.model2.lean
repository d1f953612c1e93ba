section
variable {M M' M'' : Mm} {z : Zt} {w : Nat → Nat} {V V' : Mv} {n nm cg m s t k p : Nat} {a b c d v : Int32}
theorem m_mdR (h : okM a b c d = false ∨ (okM a b c d = true ∧ ¬ nM a b c d ≤ 16)) : f_X7_model 66 a b c d M = some (-1, M) := by
  unfold f_X7_model
  rw [m_gd]
  rcases h with h | ⟨h1, h2⟩
  · have e0 : (if okM a b c d = true then (1 : Int32) else 0) = 0 := by rw [h]; rfl
    rw [e0, if_pos rfl]
  · have e1 : (if okM a b c d = true then (1 : Int32) else 0) = 1 := by rw [h1]; rfl
    rw [e1, if_neg (by decide), if_neg (show ¬ (1 : Int32) = 0 by decide)]
    exact if_neg h2
theorem m_mdA (h : Shp M) (hz : z ∈ OKZ) (ho : okM (nI z.1) (nI z.2.1) (nI z.2.2.1) (nI z.2.2.2) = true) (hq : nM (nI z.1) (nI z.2.1) (nI z.2.2.1) (nI z.2.2.2) ≤ 16) : ∃ M', f_X7_model 66 (nI z.1) (nI z.2.1) (nI z.2.2.1) (nI z.2.2.2) M = some (nI (ns z), M') ∧ Shp M' ∧ mm_L M' = mm_L M ∧ (∀ x j, x < 66 → mm_I M' x j = mm_I M x j) ∧ GeoM z M' ∧ WtM (fun _ => 1) M' ∧ mm_I M' 66 4 = 0 ∧ mm_I M' 66 17 = -1 ∧ ∀ j, j < 10 → mm_I M' 78 j = 0 := by
  obtain ⟨-, -, -, -, qn, qp⟩ := gz_21 z hz
  have h16 := gz_1 z hz
  have S67 : ∀ {N : Mm} (hN : Shp N) {x : Int32}, op_sI N 67 0 x = some (mm_wI N 67 0 x) ∧ op_sI N 67 1 x = some (mm_wI N 67 1 x) ∧ op_sI N 67 2 x = some (mm_wI N 67 2 x) ∧ op_sI N 67 3 x = some (mm_wI N 67 3 x) := fun hN => ⟨S_67 hN (i := 0) (by omega), S_67 hN (i := 1) (by omega), S_67 hN (i := 2) (by omega), S_67 hN (i := 3) (by omega)⟩
  have h6 : Shp (mm_wI (mm_wI (mm_wI (mm_wI (mm_wI (mm_wI M 67 0 (nI z.1)) 67 1 (nI z.2.1)) 67 2 (nI z.2.2.1)) 67 3 (nI z.2.2.2)) 66 0 (nI (np z))) 66 2 (nI (ns z))) := sh_wI (sh_wI (sh_wI (sh_wI (sh_wI (sh_wI h)))))
  have f6 : ∀ x j, x ≠ 67 → ¬ (x = 66 ∧ (j = 0 ∨ j = 2)) → mm_I (mm_wI (mm_wI (mm_wI (mm_wI (mm_wI (mm_wI M 67 0 (nI z.1)) 67 1 (nI z.2.1)) 67 2 (nI z.2.2.1)) 67 3 (nI z.2.2.2)) 66 0 (nI (np z))) 66 2 (nI (ns z))) x j = mm_I M x j := fun x j u1 u2 => by rw [mI_wI, if_neg (by omega), mI_wI, if_neg (by omega), mI_wI, if_neg (by omega), mI_wI, if_neg (by omega), mI_wI, if_neg (by omega), mI_wI, if_neg (by omega)]
  have s6 : ∀ p, p < 4 → mm_I (mm_wI (mm_wI (mm_wI (mm_wI (mm_wI (mm_wI M 67 0 (nI z.1)) 67 1 (nI z.2.1)) 67 2 (nI z.2.2.1)) 67 3 (nI z.2.2.2)) 66 0 (nI (np z))) 66 2 (nI (ns z))) 67 p = nI (zs z p) := fun p hp => by
    have : p = 0 ∨ p = 1 ∨ p = 2 ∨ p = 3 := by omega
    rcases this with e | e | e | e <;> subst e <;> rfl
  have x6 : mm_I (mm_wI (mm_wI (mm_wI (mm_wI (mm_wI (mm_wI M 67 0 (nI z.1)) 67 1 (nI z.2.1)) 67 2 (nI z.2.2.1)) 67 3 (nI z.2.2.2)) 66 0 (nI (np z))) 66 2 (nI (ns z))) 66 0 = nI (np z) := rfl
  have y6 : mm_I (mm_wI (mm_wI (mm_wI (mm_wI (mm_wI (mm_wI M 67 0 (nI z.1)) 67 1 (nI z.2.1)) 67 2 (nI z.2.2.1)) 67 3 (nI z.2.2.2)) 66 0 (nI (np z))) 66 2 (nI (ns z))) 66 2 = nI (ns z) := rfl
  have L6 : mm_L (mm_wI (mm_wI (mm_wI (mm_wI (mm_wI (mm_wI M 67 0 (nI z.1)) 67 1 (nI z.2.1)) 67 2 (nI z.2.2.1)) 67 3 (nI z.2.2.2)) 66 0 (nI (np z))) 66 2 (nI (ns z))) = mm_L M := rfl
  have e0 : f_X7_model 66 (nI z.1) (nI z.2.1) (nI z.2.2.1) (nI z.2.2.2) M = lp_X7_model_204 (fun (M_91 : Mm) => (op_pI M_91 7 66 4 (0 : Int32)).bind fun M_92 => (op_pI M_92 7 66 17 (-1 : Int32)).bind fun M_93 => (op_pI M_93 7 66 19 (0 : Int32)).bind fun M_94 => (op_is M_94 66 7).bind fun _ => (f_X7_changed 66 M_94).bind fun z_95 => (op_gI z_95 7 66 2).bind fun x_96 => some (x_96, z_95)) 66 FU (nI 0) (mm_wI (mm_wI (mm_wI (mm_wI (mm_wI (mm_wI M 67 0 (nI z.1)) 67 1 (nI z.2.1)) 67 2 (nI z.2.2.1)) 67 3 (nI z.2.2.2)) 66 0 (nI (np z))) 66 2 (nI (ns z))) := by
    unfold f_X7_model
    have e1 : (if okM (nI z.1) (nI z.2.1) (nI z.2.2.1) (nI z.2.2.2) = true then (1 : Int32) else 0) = 1 := by rw [ho]; rfl
    rw [m_gd, e1, if_neg (by decide), if_neg (show ¬ (1 : Int32) = 0 by decide)]
    refine Eq.trans (if_pos hq) ?_
    have ep : (if nI z.2.1 = 0 then (1 : Int32) else (if nI z.2.2.1 = 0 then (2 : Int32) else (if nI z.2.2.2 = 0 then (3 : Int32) else (4 : Int32)))) = nI (np z) := qp
    have en : (if nI z.2.1 = 0 then (if nI z.2.2.1 = 0 then (if nI z.2.2.2 = 0 then (((nI z.1 * (1 : Int32)) * (1 : Int32)) * (1 : Int32)) else (((nI z.1 * (1 : Int32)) * (1 : Int32)) * nI z.2.2.2)) else (if nI z.2.2.2 = 0 then (((nI z.1 * (1 : Int32)) * nI z.2.2.1) * (1 : Int32)) else (((nI z.1 * (1 : Int32)) * nI z.2.2.1) * nI z.2.2.2))) else (if nI z.2.2.1 = 0 then (if nI z.2.2.2 = 0 then (((nI z.1 * nI z.2.1) * (1 : Int32)) * (1 : Int32)) else (((nI z.1 * nI z.2.1) * (1 : Int32)) * nI z.2.2.2)) else (if nI z.2.2.2 = 0 then (((nI z.1 * nI z.2.1) * nI z.2.2.1) * (1 : Int32)) else (((nI z.1 * nI z.2.1) * nI z.2.2.1) * nI z.2.2.2)))) = nI (ns z) := qn
    rw [ep, en]
    simp only [G_66_1 h, (S67 h).1, G_66_1 (sh_wI h), (S67 (sh_wI h)).2.1, G_66_1 (sh_wI (sh_wI h)), (S67 (sh_wI (sh_wI h))).2.2.1, G_66_1 (sh_wI (sh_wI (sh_wI h))), (S67 (sh_wI (sh_wI (sh_wI h)))).2.2.2, P_66_0 (sh_wI (sh_wI (sh_wI (sh_wI h)))), P_66_2 (sh_wI (sh_wI (sh_wI (sh_wI (sh_wI h))))), Option.bind_some]
    rfl
  generalize mm_wI (mm_wI (mm_wI (mm_wI (mm_wI (mm_wI M 67 0 (nI z.1)) 67 1 (nI z.2.1)) 67 2 (nI z.2.2.1)) 67 3 (nI z.2.2.2)) 66 0 (nI (np z))) 66 2 (nI (ns z)) = N0 at h6 f6 s6 x6 y6 L6 e0
  obtain ⟨N1, a1, a2, a3, a4, a5, a6⟩ := m_w1_l (fun (M_91 : Mm) => (op_pI M_91 7 66 4 (0 : Int32)).bind fun M_92 => (op_pI M_92 7 66 17 (-1 : Int32)).bind fun M_93 => (op_pI M_93 7 66 19 (0 : Int32)).bind fun M_94 => (op_is M_94 66 7).bind fun _ => (f_X7_changed 66 M_94).bind fun z_95 => (op_gI z_95 7 66 2).bind fun x_96 => some (x_96, z_95)) FU 0 N0 (by omega) (by unfold FU; omega) h6
  have h7 : Shp (mm_wI (mm_wI (mm_wI N1 66 4 0) 66 17 (-1)) 66 19 0) := sh_wI (sh_wI (sh_wI a2))
  obtain ⟨N2, d1, d2, d3, d4, d5⟩ := m_changed h7
  have g : ∀ x j, x ≠ 78 → ¬ (x = 66 ∧ (j = 4 ∨ j = 17 ∨ j = 19)) → mm_I N2 x j = mm_I N1 x j := fun x j u1 u2 => by rw [d4 x j u1, mI_wI, if_neg (by omega), mI_wI, if_neg (by omega), mI_wI, if_neg (by omega)]
  have n2 : mm_I N2 66 2 = nI (ns z) := by rw [g _ _ (by omega) (by omega), a4 _ _ (by omega)]; exact y6
  refine ⟨N2, ?_, d2, d3.trans (a3.trans L6), fun x j hx => ?_, ⟨hz, ?_, n2, fun p hp => ?_⟩, ⟨fun _ => (by decide : 1 ≤ 1000), fun j hj => ?_⟩, ?_, ?_, d5⟩
  · rw [e0, a1]
    simp only [P_66_4 a2, P_66_17 (sh_wI a2), P_66_19 (sh_wI (sh_wI a2)), I_66 h7, d1, G_66_2 d2, n2, Option.bind_some]
  · rw [g _ _ (by omega) (by omega), a4 _ _ (by omega)]
    exact f6 x j (by omega) (by omega)
  · rw [g _ _ (by omega) (by omega), a4 _ _ (by omega)]
    exact x6
  · rw [g _ _ (by omega) (by omega), a4 _ _ (by omega)]
    exact s6 p hp
  · rw [g _ _ (by omega) (by omega)]
    exact a6 j (by omega) hj
  · rw [d4 _ _ (by omega), mI_wI, if_neg (by omega), mI_wI, if_neg (by omega), mI_wI, if_pos ⟨rfl, rfl⟩]
  · rw [d4 _ _ (by omega), mI_wI, if_neg (by omega), mI_wI, if_pos ⟨rfl, rfl⟩]
theorem s_model (I : Inv cg M) (hcg : cg + 1 < 2 ^ 30) : Agr cg (f_X6_model 0 a b c d M) (f_X7_model 66 a b c d) := by
  obtain ⟨h, J⟩ := id I
  have fr : Fr0 cg M := by
    rcases J with J | ⟨z, w, V, nm, C, B, ca, R⟩
    · exact J.1
    · exact C.2.2.2.2.2.fr0
  by_cases q : ok 7 a ∧ ok 7 b ∧ ok 7 c ∧ ok 7 d
  · obtain ⟨⟨z1, l1, rfl⟩, ⟨z2, l2, rfl⟩, ⟨z3, l3, rfl⟩, ⟨z4, l4, rfl⟩⟩ := q
    have t1 := cb_t z1 l1 z2 l2 z3 l3 z4 l4
    have t2 := mb_t z1 l1 z2 l2 z3 l3 z4 l4
    by_cases hz : (z1, z2, z3, z4) ∈ OKZ
    · rw [if_pos hz] at t1
      rw [decide_eq_true hz, Bool.and_eq_true] at t2
      obtain ⟨M1, a1, a2, a3, a4, a5, a6⟩ := p_lay h hz
      have a1 : f_X3_lay 1 (nI z1) (nI z2) (nI z3) (nI z4) M = some M1 := a1
      have e57 : mm_I (mm_wI M1 0 5 0) 57 7 = nI cg := by rw [mI_wI, if_neg (by omega), a4 _ _ (by omega)]; exact fr.1
      have f2 : ∀ x j, ¬ (x = 0 ∧ j = 5) → ¬ (x = 57 ∧ j = 7) → ¬ (x = 64 ∧ j = 3) → mm_I (mm_wI (mm_wI (mm_wI M1 0 5 0) 57 7 (nI (cg + 1))) 64 3 (-1)) x j = mm_I M1 x j := fun x j u1 u2 u3 => by rw [mI_wI, if_neg u3, mI_wI, if_neg u2, mI_wI, if_neg u1]
      have h2 : Shp (mm_wI (mm_wI (mm_wI M1 0 5 0) 57 7 (nI (cg + 1))) 64 3 (-1)) := sh_wI (sh_wI (sh_wI a2))
      have y1 : mm_I (mm_wI (mm_wI (mm_wI M1 0 5 0) 57 7 (nI (cg + 1))) 64 3 (-1)) 0 5 = 0 := rfl
      have y2 : mm_I (mm_wI (mm_wI (mm_wI M1 0 5 0) 57 7 (nI (cg + 1))) 64 3 (-1)) 57 7 = nI (cg + 1) := rfl
      have y3 : mm_I (mm_wI (mm_wI (mm_wI M1 0 5 0) 57 7 (nI (cg + 1))) 64 3 (-1)) 64 3 = -1 := rfl
      have cx : f_X6_model 0 (nI z1) (nI z2) (nI z3) (nI z4) M = some (nI (ns (z1, z2, z3, z4)), mm_wI (mm_wI (mm_wI M1 0 5 0) 57 7 (nI (cg + 1))) 64 3 (-1)) := by
        have n1 : mm_I (mm_wI (mm_wI (mm_wI M1 0 5 0) 57 7 (nI (cg + 1))) 64 3 (-1)) 1 1 = nI (ns (z1, z2, z3, z4)) := (f2 1 1 (by omega) (by omega) (by omega)).trans a5.2.2.1
        unfold f_X6_model f_X5_forget
        simp only [t1, G_0_0 h, I_1 h, a1, P_0_5 a2, G_0_2 (sh_wI a2), I_57 (sh_wI a2), p_forget (sh_wI a2) e57, G_0_4 (sh_wI (sh_wI a2)), I_64 (sh_wI (sh_wI a2)), P_64_3 (sh_wI (sh_wI a2)), G_0_0 h2, G_1_1 h2, n1, i10, Option.bind_some, ↓reduceIte]
      generalize mm_wI (mm_wI (mm_wI M1 0 5 0) 57 7 (nI (cg + 1))) 64 3 (-1) = M2 at f2 h2 y1 y2 y3 cx
      obtain ⟨M3, b1, b2, b3, b4, b5, b6, b7, b8, b9⟩ := m_mdA h2 hz t2.1 (of_decide_eq_true t2.2)
      refine ⟨nI (ns (z1, z2, z3, z4)), M2, M3, cg + 1, cx, h2, b1, b2, by omega, by omega, Or.inr ⟨(z1, z2, z3, z4), fun _ => 1, ((fun _ => 0), (fun _ => 0), (fun _ => 0), (fun _ => 0), (fun _ => 0), (fun _ => 0), (fun _ _ _ => 0)), 0, ⟨⟨a5.1, ?_, ?_, fun p hp => ?_, fun p hp => ?_, fun s hs p hp => ?_⟩, ⟨a6.1, fun s hs => ?_⟩, fun m hm => absurd hm (by omega), by omega, ⟨?_, fun m hm => absurd hm (by omega)⟩, CaC_new ?_ hcg (fun m hm => ?_) (by omega)⟩, ⟨b5, b6, fun m hm => absurd hm (by omega), by omega, ⟨b7, fun m hm => absurd hm (by omega)⟩⟩, CaM_new b9 (by omega), Or.inl ⟨?_, b8⟩⟩⟩
      · rw [b4 _ _ (by omega), f2 _ _ (by omega) (by omega) (by omega)]; exact a5.2.1
      · rw [b4 _ _ (by omega), f2 _ _ (by omega) (by omega) (by omega)]; exact a5.2.2.1
      · rw [b4 _ _ (by omega), f2 _ _ (by omega) (by omega) (by omega)]; exact a5.2.2.2.1 p hp
      · rw [b4 _ _ (by omega), f2 _ _ (by omega) (by omega) (by omega)]; exact a5.2.2.2.2.1 p hp
      · rw [b4 _ _ (by omega), f2 _ _ (by omega) (by omega) (by omega)]; exact a5.2.2.2.2.2 s hs p hp
      · rw [b4 _ _ (by omega), f2 _ _ (by omega) (by omega) (by omega)]; exact a6.2 s hs
      · rw [b4 _ _ (by omega), y1]; rfl
      · rw [b4 _ _ (by omega), y2]
      · obtain ⟨r, r1, r2⟩ := fr.2.2 m hm
        refine ⟨r, r1, ?_⟩
        rw [b4 _ _ (by omega), f2 _ _ (by omega) (by omega) (by omega), a4 _ _ (by omega)]
        exact r2
      · rw [b4 _ _ (by omega), y3]
    · rw [if_neg hz] at t1
      rw [decide_eq_false hz] at t2
      refine Agr.no (A := -1) I ?_ (m_mdR ?_)
      · unfold f_X6_model
        simp only [t1, Option.bind_some, ↓reduceIte]
      · cases e : okM (nI z1) (nI z2) (nI z3) (nI z4) with
        | false => exact Or.inl rfl
        | true =>
          rw [e, Bool.true_and] at t2
          exact Or.inr ⟨rfl, of_decide_eq_false t2⟩
  · refine Agr.no (A := -1) I ?_ (m_mdR (Or.inl (m_cb0 q)))
    unfold f_X6_model
    simp only [p_cb0 q, Option.bind_some, ↓reduceIte]
end
