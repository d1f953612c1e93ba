section
variable {M M' M'' : Mm} {z : Zt} {w : Nat → Nat} {V V' : Mv} {n nm cg m s t k : Nat} {a b c d : Int32}
/-- the reference's look at a name, its answer handed on -/
theorem m_name (K : Int32 → Option (Int32 × Mm)) (h : Shp M) (hg : GeoM z M) (e : mm_I M 66 4 = nI nm) (hn : nm ≤ 10) (hk : k ≤ 6) : (nOk z nm k a b → (if nI k = (0 : Int32) then (op_is M 66 7).bind fun _ => (f_X7_isPlace 66 a M).bind fun z_8 => K z_8 else if nI k = (1 : Int32) then (op_is M 66 7).bind fun _ => (f_X7_isPlace 66 a M).bind fun z_10 => K z_10 else if nI k = (4 : Int32) then (op_is M 66 7).bind fun _ => (f_X7_isPlace 66 a M).bind fun z_30 => K z_30 else if nI k = (2 : Int32) then (op_is M 66 7).bind fun _ => (f_X7_isPlace 66 a M).bind fun z_19 => if z_19 = 0 then K (0 : Int32) else (op_is M 66 7).bind fun _ => (f_X7_isPlace 66 b M).bind fun z_22 => if z_22 = 0 then K (0 : Int32) else if a = b then K (0 : Int32) else (op_gR M 7 66 1).bind fun x_25 => (op_aI M x_25 a).bind fun x_26 => (op_gR M 7 66 1).bind fun x_27 => (op_aI M x_27 b).bind fun x_28 => if x_26 = x_28 then K (1 : Int32) else K (0 : Int32) else if nI k < (5 : Int32) then K (if nI k = (3 : Int32) then (1 : Int32) else (0 : Int32)) else (op_is M 66 7).bind fun _ => (f_X7_isMove 66 a M).bind fun z_14 => if z_14 = 0 then K (0 : Int32) else (op_is M 66 7).bind fun _ => (f_X7_isMove 66 b M).bind fun z_17 => if z_17 = 0 then K (0 : Int32) else K (1 : Int32)) = K 1) ∧ (¬ nOk z nm k a b → (if nI k = (0 : Int32) then (op_is M 66 7).bind fun _ => (f_X7_isPlace 66 a M).bind fun z_8 => K z_8 else if nI k = (1 : Int32) then (op_is M 66 7).bind fun _ => (f_X7_isPlace 66 a M).bind fun z_10 => K z_10 else if nI k = (4 : Int32) then (op_is M 66 7).bind fun _ => (f_X7_isPlace 66 a M).bind fun z_30 => K z_30 else if nI k = (2 : Int32) then (op_is M 66 7).bind fun _ => (f_X7_isPlace 66 a M).bind fun z_19 => if z_19 = 0 then K (0 : Int32) else (op_is M 66 7).bind fun _ => (f_X7_isPlace 66 b M).bind fun z_22 => if z_22 = 0 then K (0 : Int32) else if a = b then K (0 : Int32) else (op_gR M 7 66 1).bind fun x_25 => (op_aI M x_25 a).bind fun x_26 => (op_gR M 7 66 1).bind fun x_27 => (op_aI M x_27 b).bind fun x_28 => if x_26 = x_28 then K (1 : Int32) else K (0 : Int32) else if nI k < (5 : Int32) then K (if nI k = (3 : Int32) then (1 : Int32) else (0 : Int32)) else (op_is M 66 7).bind fun _ => (f_X7_isMove 66 a M).bind fun z_14 => if z_14 = 0 then K (0 : Int32) else (op_is M 66 7).bind fun _ => (f_X7_isMove 66 b M).bind fun z_17 => if z_17 = 0 then K (0 : Int32) else K (1 : Int32)) = K 0) := by
  simp only [I_66 h, Option.bind_some]
  by_cases k1 : k = 0 ∨ k = 1 ∨ k = 4
  · have key : ∀ r : Int32, f_X7_isPlace 66 a M = some r → (if nI k = (0 : Int32) then (f_X7_isPlace 66 a M).bind fun z_8 => K z_8 else if nI k = (1 : Int32) then (f_X7_isPlace 66 a M).bind fun z_10 => K z_10 else if nI k = (4 : Int32) then (f_X7_isPlace 66 a M).bind fun z_30 => K z_30 else if nI k = (2 : Int32) then (f_X7_isPlace 66 a M).bind fun z_19 => if z_19 = 0 then K (0 : Int32) else (f_X7_isPlace 66 b M).bind fun z_22 => if z_22 = 0 then K (0 : Int32) else if a = b then K (0 : Int32) else (op_gR M 7 66 1).bind fun x_25 => (op_aI M x_25 a).bind fun x_26 => (op_gR M 7 66 1).bind fun x_27 => (op_aI M x_27 b).bind fun x_28 => if x_26 = x_28 then K (1 : Int32) else K (0 : Int32) else if nI k < (5 : Int32) then K (if nI k = (3 : Int32) then (1 : Int32) else (0 : Int32)) else (f_X7_isMove 66 a M).bind fun z_14 => if z_14 = 0 then K (0 : Int32) else (f_X7_isMove 66 b M).bind fun z_17 => if z_17 = 0 then K (0 : Int32) else K (1 : Int32)) = K r := fun r hr => by
      rcases k1 with e | e | e <;> subst e
      · simp only [show (nI 0 = (0 : Int32)) = True from eq_true rfl, hr, Option.bind_some, ↓reduceIte]
      · simp only [show (nI 1 = (0 : Int32)) = False from eq_false (by decide), show (nI 1 = (1 : Int32)) = True from eq_true rfl, hr, Option.bind_some, ↓reduceIte]
      · simp only [show (nI 4 = (0 : Int32)) = False from eq_false (by decide), show (nI 4 = (1 : Int32)) = False from eq_false (by decide), show (nI 4 = (4 : Int32)) = True from eq_true rfl, hr, Option.bind_some, ↓reduceIte]
    by_cases q : ok (np z) a
    · obtain ⟨i, hi, rfl⟩ := q
      exact ⟨fun _ => key 1 (m_isPlace h hg hi), fun o => absurd ⟨by omega, fun _ => ⟨i, hi, rfl⟩, fun q => by omega, fun q => by omega⟩ o⟩
    · exact ⟨fun o => absurd (o.2.1 k1) q, fun _ => key 0 (m_isP0 h hg q)⟩
  · by_cases k2 : k = 2
    · subst k2
      simp only [show (nI 2 = (0 : Int32)) = False from eq_false (by decide), show (nI 2 = (1 : Int32)) = False from eq_false (by decide), show (nI 2 = (4 : Int32)) = False from eq_false (by decide), show (nI 2 = (2 : Int32)) = True from eq_true rfl, ↓reduceIte]
      by_cases q1 : ok (np z) a
      · obtain ⟨i, hi, rfl⟩ := q1
        by_cases q2 : ok (np z) b
        · obtain ⟨j, hj, rfl⟩ := q2
          have hi4 := gz_p hg.1 hi
          have hj4 := gz_p hg.1 hj
          have zi := gz_2 z hg.1 i hi
          have zj := gz_2 z hg.1 j hj
          by_cases q3 : i = j
          · have q3' : nI i = nI j := by rw [q3]
            simp only [m_isPlace h hg hi, m_isPlace h hg hj, q3', i10, Option.bind_some, ↓reduceIte]
            refine ⟨fun o => ?_, fun _ => trivial⟩
            obtain ⟨-, -, o, -⟩ := o
            obtain ⟨i', j', h1, h2, h3, h4, h5, h6⟩ := o rfl
            exfalso
            have l1 := gz_p hg.1 h1
            have l2 := gz_p hg.1 h2
            have e5 := (nI_eq (by omega) (by omega)).mp h5
            have e6 := (nI_eq (by omega) (by omega)).mp h6
            omega
          · have q3' : ¬ nI i = nI j := fun q => q3 ((nI_eq (by omega) (by omega)).mp q)
            by_cases q4 : zs z i = zs z j
            · have q4' : mm_I M 67 i = mm_I M 67 j := by rw [hg.2.2.2 i hi4, hg.2.2.2 j hj4, q4]
              simp only [m_isPlace h hg hi, m_isPlace h hg hj, q3', G_66_1 h, A_67 h hi4, A_67 h hj4, q4', i10, Option.bind_some, ↓reduceIte]
              exact ⟨fun _ => trivial, fun o => absurd ⟨by omega, fun q => by omega, fun _ => ⟨i, j, hi, hj, q3, q4, rfl, rfl⟩, fun q => by omega⟩ o⟩
            · have q4' : ¬ mm_I M 67 i = mm_I M 67 j := by rw [hg.2.2.2 i hi4, hg.2.2.2 j hj4]; exact fun q => q4 ((nI_eq (by omega) (by omega)).mp q)
              simp only [m_isPlace h hg hi, m_isPlace h hg hj, q3', G_66_1 h, A_67 h hi4, A_67 h hj4, q4', i10, Option.bind_some, ↓reduceIte]
              refine ⟨fun o => ?_, fun _ => trivial⟩
              obtain ⟨-, -, o, -⟩ := o
              obtain ⟨i', j', h1, h2, h3, h4, h5, h6⟩ := o rfl
              have l1 := gz_p hg.1 h1
              have l2 := gz_p hg.1 h2
              have e5 := (nI_eq (by omega) (by omega)).mp h5
              have e6 := (nI_eq (by omega) (by omega)).mp h6
              rw [e5, e6] at q4
              exact absurd h4 q4
        · simp only [m_isPlace h hg hi, m_isP0 h hg q2, i10, Option.bind_some, ↓reduceIte]
          refine ⟨fun o => ?_, fun _ => trivial⟩
          obtain ⟨-, -, o, -⟩ := o
          obtain ⟨i', j', h1, h2, h3, h4, h5, h6⟩ := o rfl
          exact absurd ⟨j', h2, h6⟩ q2
      · simp only [m_isP0 h hg q1, i10, Option.bind_some, ↓reduceIte]
        refine ⟨fun o => ?_, fun _ => trivial⟩
        obtain ⟨-, -, o, -⟩ := o
        obtain ⟨i', j', h1, h2, h3, h4, h5, h6⟩ := o rfl
        exact absurd ⟨i', h1, h5⟩ q1
    · by_cases k3 : k = 3
      · subst k3
        simp only [show (nI 3 = (0 : Int32)) = False from eq_false (by decide), show (nI 3 = (1 : Int32)) = False from eq_false (by decide), show (nI 3 = (4 : Int32)) = False from eq_false (by decide), show (nI 3 = (2 : Int32)) = False from eq_false (by decide), show (nI 3 < (5 : Int32)) = True from eq_true (by decide), show (nI 3 = (3 : Int32)) = True from eq_true rfl, ↓reduceIte]
        exact ⟨fun _ => trivial, fun o => absurd ⟨by omega, fun q => by omega, fun q => by omega, fun q => by omega⟩ o⟩
      · have f0 : ∀ c, c < 5 → ¬ nI k = nI c := fun c hc q => by have := (nI_eq (by omega) (by omega)).mp q; omega
        have f5 : ¬ nI k < (5 : Int32) := nI_nlt (b := 5) (by omega) (by omega)
        simp only [show (nI k = (0 : Int32)) = False from eq_false (f0 0 (by omega)), show (nI k = (1 : Int32)) = False from eq_false (f0 1 (by omega)), show (nI k = (4 : Int32)) = False from eq_false (f0 4 (by omega)), show (nI k = (2 : Int32)) = False from eq_false (f0 2 (by omega)), f5, ↓reduceIte]
        by_cases q : ok nm a
        · obtain ⟨i, hi, rfl⟩ := q
          by_cases q : ok nm b
          · obtain ⟨j, hj, rfl⟩ := q
            simp only [m_isM1 h e hn hi, m_isM1 h e hn hj, i10, Option.bind_some, ↓reduceIte]
            exact ⟨fun _ => trivial, fun o => absurd ⟨by omega, fun q => by omega, fun q => by omega, fun _ => ⟨⟨i, hi, rfl⟩, ⟨j, hj, rfl⟩⟩⟩ o⟩
          · simp only [m_isM1 h e hn hi, m_isM0 h e hn q, i10, Option.bind_some, ↓reduceIte]
            exact ⟨fun o => absurd (o.2.2.2 (by omega)).2 q, fun _ => trivial⟩
        · simp only [m_isM0 h e hn q, Option.bind_some, ↓reduceIte]
          exact ⟨fun o => absurd (o.2.2.2 (by omega)).1 q, fun _ => trivial⟩
theorem m_tz_l (K : Mm → Option (Int32 × Mm)) (hm : m < 10) : ∀ (k i : Nat) (M : Mm), i ≤ 256 → 256 - i < k → Shp M → ∃ M', lp_X7_move_276 K 66 (nI m) k (nI i) M = K M' ∧ Shp M' ∧ mm_L M' = mm_L M ∧ (∀ a j, ¬ (a = 75 ∧ 256 * m ≤ j ∧ j < 256 * m + 256) → mm_I M' a j = mm_I M a j) ∧ (∀ j, j < i → mm_I M' 75 (256 * m + j) = mm_I M 75 (256 * m + j)) ∧ ∀ j, i ≤ j → j < 256 → mm_I M' 75 (256 * m + j) = 0
  | 0, i, M, _, h2, _ => absurd h2 (by omega)
  | k + 1, i, M, h1, h2, h => by
    rw [lp_X7_move_276]
    by_cases e : i = 256
    · rw [if_pos (show (256 : Int32) ≤ nI i by rw [e]; decide)]
      exact ⟨M, rfl, h, rfl, fun _ _ _ => rfl, fun _ _ => rfl, fun j q1 q2 => absurd q1 (by omega)⟩
    · rw [if_neg (show ¬ (256 : Int32) ≤ nI i from nI_ge (a := i) (b := 256) (by omega) (by omega)), G_66_11 h, Option.bind_some, show (256 : Int32) = nI 256 from rfl, pk_mul, nI_add, S_75 h (by omega), Option.bind_some, nI_1]
      obtain ⟨M1, a1, a2, a3, a4, a5, a6⟩ := m_tz_l K hm k (i + 1) (mm_wI M 75 (256 * m + i) 0) (by omega) (by omega) (sh_wI h)
      refine ⟨M1, a1, a2, a3, fun a j ha => ?_, fun j hj => ?_, fun j q1 q2 => ?_⟩
      · rw [a4 a j ha, mI_wI, if_neg (fun e => ha ⟨e.1, by omega, by omega⟩)]
      · rw [a5 j (by omega), mI_wI, if_neg (fun e => by omega)]
      · by_cases ej : j = i
        · rw [a5 j (by omega), mI_wI, if_pos ⟨rfl, by omega⟩]
        · exact a6 j (by omega) q2
def Vag (nm : Nat) (V V' : Mv) : Prop := ∀ j, j < nm → vK V' j = vK V j ∧ vA V' j = vA V j ∧ vB V' j = vB V j ∧ vP V' j = vP V j ∧ vQ V' j = vQ V j ∧ vD V' j = vD V j ∧ vT V' j = vT V j
theorem CH_cg (ho : okV z V nm) (hv : Vag nm V V') : ∀ d m, m < nm → ∀ s t, CH z w V' d m s t = CH z w V d m s t
  | 0, m, hm, s, t => by
    obtain ⟨q1, q2, q3, q4, q5, q6, q7⟩ := hv m hm
    show chP z w (vK V' m) (vA V' m) (vB V' m) (vT V' m) s t = chP z w (vK V m) (vA V m) (vB V m) (vT V m) s t
    rw [q1, q2, q3, q7]
  | d + 1, m, hm, s, t => by
    obtain ⟨q1, q2, q3, q4, q5, q6, q7⟩ := hv m hm
    obtain ⟨o1, o2, o3, o4, o5, o6⟩ := ho m hm
    show (if vK V' m = 5 then _ else if vK V' m = 6 then _ else _) = (if vK V m = 5 then _ else if vK V m = 6 then _ else _)
    rw [q1, q2, q3, q4, q5, q7]
    by_cases e5 : 5 ≤ vK V m
    · obtain ⟨r1, r2, r3⟩ := o3 e5
      have f1 : ∀ s t, CH z w V' d (vA V m) s t = CH z w V d (vA V m) s t := CH_cg ho hv d _ (by omega)
      have f2 : ∀ s t, CH z w V' d (vB V m) s t = CH z w V d (vB V m) s t := CH_cg ho hv d _ (by omega)
      simp only [f1, f2]
    · rw [if_neg (by omega), if_neg (by omega), if_neg (by omega), if_neg (by omega)]
theorem chm_cg (ho : okV z V nm) (hv : Vag nm V V') (hm : m < nm) : chm z w V' m s t = chm z w V m s t := by
  unfold chm
  rw [(hv m hm).2.2.2.2.2.1]
  exact CH_cg ho hv _ m hm s t
end
