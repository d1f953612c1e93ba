def iB (x : Int32) : Bool := decide (¬ x < 2 ∧ ¬ 6 < x)
def okM (a b c d : Int32) : Bool := iB a && (decide (b = 0) || iB b) && (decide (c = 0) || iB c) && (decide (d = 0) || iB d) && (!decide (b = 0) || decide (c = 0)) && (!decide (c = 0) || decide (d = 0))
def nM (a b c d : Int32) : Int32 := (if b = 0 then (if c = 0 then (if d = 0 then (((a * (1 : Int32)) * (1 : Int32)) * (1 : Int32)) else (((a * (1 : Int32)) * (1 : Int32)) * d)) else (if d = 0 then (((a * (1 : Int32)) * c) * (1 : Int32)) else (((a * (1 : Int32)) * c) * d))) else (if c = 0 then (if d = 0 then (((a * b) * (1 : Int32)) * (1 : Int32)) else (((a * b) * (1 : Int32)) * d)) else (if d = 0 then (((a * b) * c) * (1 : Int32)) else (((a * b) * c) * d))))
def pM (b c d : Int32) : Int32 := (if b = 0 then (1 : Int32) else (if c = 0 then (2 : Int32) else (if d = 0 then (3 : Int32) else (4 : Int32))))
theorem m_iB (x : Int32) : f_X7_isIn x 2 6 = some (if iB x = true then 1 else 0) := by
  unfold f_X7_isIn iB
  by_cases q1 : x < 2
  · rw [if_pos q1, if_neg (fun e => (of_decide_eq_true e).1 q1)]
  · rw [if_neg q1]
    by_cases q2 : 6 < x
    · rw [if_pos q2, if_neg (fun e => (of_decide_eq_true e).2 q2)]
    · rw [if_neg q2, if_pos (decide_eq_true ⟨q1, q2⟩)]
theorem m_gd (a b c d : Int32) (K : Int32 → Option (Int32 × Mm)) : ((f_X7_isIn a (2 : Int32) (6 : Int32)).bind fun z_1 => op_jn K fun j_2 => if z_1 = 0 then j_2 (0 : Int32) else if b = 0 then if c = 0 then if d = 0 then if b = 0 then if c = 0 then if c = 0 then if d = 0 then j_2 (1 : Int32) else j_2 (0 : Int32) else j_2 (1 : Int32) else j_2 (0 : Int32) else if c = 0 then if d = 0 then j_2 (1 : Int32) else j_2 (0 : Int32) else j_2 (1 : Int32) else (f_X7_isIn d (2 : Int32) (6 : Int32)).bind fun z_13 => if z_13 = 0 then j_2 (0 : Int32) else if b = 0 then if c = 0 then if c = 0 then if d = 0 then j_2 (1 : Int32) else j_2 (0 : Int32) else j_2 (1 : Int32) else j_2 (0 : Int32) else if c = 0 then if d = 0 then j_2 (1 : Int32) else j_2 (0 : Int32) else j_2 (1 : Int32) else (f_X7_isIn c (2 : Int32) (6 : Int32)).bind fun z_21 => if z_21 = 0 then j_2 (0 : Int32) else if d = 0 then if b = 0 then if c = 0 then if c = 0 then if d = 0 then j_2 (1 : Int32) else j_2 (0 : Int32) else j_2 (1 : Int32) else j_2 (0 : Int32) else if c = 0 then if d = 0 then j_2 (1 : Int32) else j_2 (0 : Int32) else j_2 (1 : Int32) else (f_X7_isIn d (2 : Int32) (6 : Int32)).bind fun z_30 => if z_30 = 0 then j_2 (0 : Int32) else if b = 0 then if c = 0 then if c = 0 then if d = 0 then j_2 (1 : Int32) else j_2 (0 : Int32) else j_2 (1 : Int32) else j_2 (0 : Int32) else if c = 0 then if d = 0 then j_2 (1 : Int32) else j_2 (0 : Int32) else j_2 (1 : Int32) else (f_X7_isIn b (2 : Int32) (6 : Int32)).bind fun z_38 => if z_38 = 0 then j_2 (0 : Int32) else if c = 0 then if d = 0 then if b = 0 then if c = 0 then if c = 0 then if d = 0 then j_2 (1 : Int32) else j_2 (0 : Int32) else j_2 (1 : Int32) else j_2 (0 : Int32) else if c = 0 then if d = 0 then j_2 (1 : Int32) else j_2 (0 : Int32) else j_2 (1 : Int32) else (f_X7_isIn d (2 : Int32) (6 : Int32)).bind fun z_48 => if z_48 = 0 then j_2 (0 : Int32) else if b = 0 then if c = 0 then if c = 0 then if d = 0 then j_2 (1 : Int32) else j_2 (0 : Int32) else j_2 (1 : Int32) else j_2 (0 : Int32) else if c = 0 then if d = 0 then j_2 (1 : Int32) else j_2 (0 : Int32) else j_2 (1 : Int32) else (f_X7_isIn c (2 : Int32) (6 : Int32)).bind fun z_56 => if z_56 = 0 then j_2 (0 : Int32) else if d = 0 then if b = 0 then if c = 0 then if c = 0 then if d = 0 then j_2 (1 : Int32) else j_2 (0 : Int32) else j_2 (1 : Int32) else j_2 (0 : Int32) else if c = 0 then if d = 0 then j_2 (1 : Int32) else j_2 (0 : Int32) else j_2 (1 : Int32) else (f_X7_isIn d (2 : Int32) (6 : Int32)).bind fun z_65 => if z_65 = 0 then j_2 (0 : Int32) else if b = 0 then if c = 0 then if c = 0 then if d = 0 then j_2 (1 : Int32) else j_2 (0 : Int32) else j_2 (1 : Int32) else j_2 (0 : Int32) else if c = 0 then if d = 0 then j_2 (1 : Int32) else j_2 (0 : Int32) else j_2 (1 : Int32)) = K (if okM a b c d = true then 1 else 0) := by
  rw [m_iB, Option.bind_some]
  simp only [op_jn, m_iB, Option.bind_some]
  unfold okM
  by_cases hb : b = 0 <;> by_cases hc : c = 0 <;> by_cases hd : d = 0 <;> cases iB a <;> cases iB b <;> cases iB c <;> cases iB d <;> simp [hb, hc, hd]
theorem cb_t : ∀ a, a < 7 → ∀ b, b < 7 → ∀ c, c < 7 → ∀ d, d < 7 → f_X3_canBe (nI a) (nI b) (nI c) (nI d) = some (if (a, b, c, d) ∈ OKZ then 1 else 0) := by decide +kernel
theorem mb_t : ∀ a, a < 7 → ∀ b, b < 7 → ∀ c, c < 7 → ∀ d, d < 7 → (okM (nI a) (nI b) (nI c) (nI d) && decide (nM (nI a) (nI b) (nI c) (nI d) ≤ 16)) = decide ((a, b, c, d) ∈ OKZ) := by decide +kernel
theorem gz_21 : ∀ z ∈ OKZ, z.1 < 7 ∧ z.2.1 < 7 ∧ z.2.2.1 < 7 ∧ z.2.2.2 < 7 ∧ nM (nI z.1) (nI z.2.1) (nI z.2.2.1) (nI z.2.2.2) = nI (ns z) ∧ pM (nI z.2.1) (nI z.2.2.1) (nI z.2.2.2) = nI (np z) := by decide +kernel
theorem gz_22 : ∀ z ∈ OKZ, sd z 3 = 1 ∧ sd z 3 * zm (zs z 3) = sd z 2 ∧ sd z 2 * zm (zs z 2) = sd z 1 ∧ sd z 1 * zm (zs z 1) = sd z 0 ∧ sd z 0 * zm (zs z 0) = ns z ∧ (((if zs z 3 = 0 then 0 else 1) + (if zs z 2 = 0 then 0 else 1)) + (if zs z 1 = 0 then 0 else 1)) + (if zs z 0 = 0 then 0 else 1) = np z := by decide +kernel
theorem gz_23 : ∀ z ∈ OKZ, ∀ p, p < 4 → 1 ≤ sd z p ∧ sd z p ≤ 16 ∧ 1 ≤ zm (zs z p) ∧ zm (zs z p) ≤ 6 ∧ zs z p ≤ 6 := by decide +kernel
section
variable {M M' M'' : Mm} {z : Zt} {w : Nat → Nat} {V V' : Mv} {n nm cg m s t k p : Nat} {a b c d v : Int32}
theorem p_isSize01 : f_X3_isSize a = some 0 ∨ f_X3_isSize a = some 1 := by
  unfold f_X3_isSize
  by_cases q0 : a = 0
  · exact Or.inr (by rw [if_pos q0])
  · by_cases q1 : a < 2
    · exact Or.inl (by rw [if_neg q0, if_pos q1])
    · by_cases q2 : 6 < a
      · exact Or.inl (by rw [if_neg q0, if_neg q1, if_pos q2])
      · exact Or.inr (by rw [if_neg q0, if_neg q1, if_neg q2])
theorem nok7 (h : ¬ ok 7 a) : ¬ a = 0 ∧ (a < 2 ∨ 6 < a) := by
  refine ⟨fun e => h ⟨0, by omega, e⟩, ?_⟩
  rcases nok (by omega) h with q | q
  · left
    rw [Int32.lt_iff_toInt_lt] at q ⊢
    have e1 : (2 : Int32).toInt = 2 := rfl
    have e0 : (0 : Int32).toInt = 0 := rfl
    rw [e0] at q
    rw [e1]
    omega
  · right
    rw [Int32.le_iff_toInt_le] at q
    rw [Int32.lt_iff_toInt_lt]
    have e7 : (nI 7).toInt = 7 := rfl
    have e6 : (6 : Int32).toInt = 6 := rfl
    rw [e7] at q
    rw [e6]
    omega
theorem p_isSz0 (h : ¬ ok 7 a) : f_X3_isSize a = some 0 := by
  obtain ⟨q0, q⟩ := nok7 h
  unfold f_X3_isSize
  rw [if_neg q0]
  by_cases q1 : a < 2
  · rw [if_pos q1]
  · rw [if_neg q1, if_pos (q.resolve_left q1)]
theorem m_iB0 (h : ¬ ok 7 a) : iB a = false ∧ decide (a = 0) = false := by
  obtain ⟨q0, q⟩ := nok7 h
  refine ⟨decide_eq_false (fun e => ?_), decide_eq_false q0⟩
  rcases q with q | q
  · exact e.1 q
  · exact e.2 q
theorem p_cb0 (h : ¬ (ok 7 a ∧ ok 7 b ∧ ok 7 c ∧ ok 7 d)) : f_X3_canBe a b c d = some 0 := by
  have one : f_X3_isSize a = some 0 ∨ f_X3_isSize b = some 0 ∨ f_X3_isSize c = some 0 ∨ f_X3_isSize d = some 0 := by
    by_cases qa : ok 7 a
    · by_cases qb : ok 7 b
      · by_cases qc : ok 7 c
        · by_cases qd : ok 7 d
          · exact absurd ⟨qa, qb, qc, qd⟩ h
          · exact Or.inr (Or.inr (Or.inr (p_isSz0 qd)))
        · exact Or.inr (Or.inr (Or.inl (p_isSz0 qc)))
      · exact Or.inr (Or.inl (p_isSz0 qb))
    · exact Or.inl (p_isSz0 qa)
  unfold f_X3_canBe
  simp only [op_jn]
  by_cases a0 : a = 0
  · simp only [a0, ↓reduceIte]
  · rcases p_isSize01 (a := a) with v0 | v0
    · simp only [a0, v0, Option.bind_some, ↓reduceIte]
    · rcases p_isSize01 (a := b) with v1 | v1
      · simp only [a0, v0, v1, i10, Option.bind_some, ↓reduceIte]
      · rcases p_isSize01 (a := c) with v2 | v2
        · simp only [a0, v0, v1, v2, i10, Option.bind_some, ↓reduceIte]
        · rcases p_isSize01 (a := d) with v3 | v3
          · simp only [a0, v0, v1, v2, v3, i10, Option.bind_some, ↓reduceIte]
          · exfalso
            rw [v0, v1, v2, v3] at one
            rcases one with e | e | e | e <;> exact absurd (Option.some.inj e) (by decide)
theorem m_cb0 (h : ¬ (ok 7 a ∧ ok 7 b ∧ ok 7 c ∧ ok 7 d)) : okM a b c d = false := by
  unfold okM
  by_cases qa : ok 7 a
  · by_cases qb : ok 7 b
    · by_cases qc : ok 7 c
      · by_cases qd : ok 7 d
        · exact absurd ⟨qa, qb, qc, qd⟩ h
        · obtain ⟨e1, e2⟩ := m_iB0 qd
          rw [e1, e2]
          simp
      · obtain ⟨e1, e2⟩ := m_iB0 qc
        rw [e1, e2]
        simp
    · obtain ⟨e1, e2⟩ := m_iB0 qb
      rw [e1, e2]
      simp
  · obtain ⟨e1, e2⟩ := m_iB0 qa
    rw [e1]
    simp
theorem p_l70 (K : Mm → Option Mm) {D Z : Nat} (hp : p < 4) (hD : 1 ≤ D) (hD2 : D ≤ 16) (hZ : 1 ≤ Z) (hZ2 : Z ≤ 6) : ∀ (k i : Nat) (M : Mm), i ≤ 16 → 16 - i < k → Shp M → ∃ M', lp_X3_lay_70 K 1 (nI D) (nI p) (nI Z) k (nI i) M = K M' ∧ Shp M' ∧ mm_L M' = mm_L M ∧ (∀ a j, ¬ (a = 4 ∧ j % 4 = p) → mm_I M' a j = mm_I M a j) ∧ (∀ s, s < i → mm_I M' 4 (s * 4 + p) = mm_I M 4 (s * 4 + p)) ∧ ∀ s, i ≤ s → s < 16 → mm_I M' 4 (s * 4 + p) = nI (s / D % Z)
  | 0, i, M, _, h2, _ => absurd h2 (by omega)
  | k + 1, i, M, h1, h2, h => by
    rw [lp_X3_lay_70]
    by_cases e : i = 16
    · rw [if_pos (show (16 : Int32) ≤ nI i by rw [e]; decide)]
      exact ⟨M, rfl, h, rfl, fun _ _ _ => rfl, fun _ _ => rfl, fun s q1 q2 => absurd q1 (by omega)⟩
    · have hq : i / D ≤ i := Nat.div_le_self _ _
      rw [if_neg (show ¬ (16 : Int32) ≤ nI i from nI_ge (a := i) (b := 16) (by omega) (by omega)), G_1_4 h, Option.bind_some, if_neg (nI_ne0 (by omega) (by omega)), if_neg (nI_ne0 (by omega) (by omega)), pk_div (by omega) (by omega) (by omega), pk_rem (by omega) (by omega) (by omega), show (4 : Int32) = nI 4 from rfl, pk_mul, nI_add, S_4 h (by omega), Option.bind_some, nI_1]
      obtain ⟨M1, a1, a2, a3, a4, a5, a6⟩ := p_l70 K hp hD hD2 hZ hZ2 k (i + 1) (mm_wI M 4 (i * 4 + p) (nI (i / D % Z))) (by omega) (by omega) (sh_wI h)
      refine ⟨M1, a1, a2, a3, fun a j ha => ?_, fun s hs => ?_, fun s q1 q2 => ?_⟩
      · rw [a4 a j ha, mI_wI, if_neg (fun e => ha ⟨e.1, by omega⟩)]
      · rw [a5 s (by omega), mI_wI, if_neg (fun e => by omega)]
      · by_cases es : s = i
        · subst es
          rw [a5 s (by omega), mI_wI, if_pos ⟨rfl, rfl⟩]
        · exact a6 s (by omega) q2
theorem p_l40 (K : Int32 → Mm → Option Mm) (hz : z ∈ OKZ) (hp : p < 4) (h : Shp M) (hs : mm_I M 2 p = nI (zs z p)) {x : Nat} (h0 : mm_I M 1 0 = nI x) : ∃ M', lp_X3_lay_40 K 1 (k + 1) (nI (sd z p)) (nI p) M = lp_X3_lay_40 K 1 k (nI (sd z p * zm (zs z p))) (nI p + (-1)) M' ∧ Shp M' ∧ mm_L M' = mm_L M ∧ (∀ a j, ¬ (a = 4 ∧ j % 4 = p) → ¬ (a = 3 ∧ j = p) → ¬ (a = 1 ∧ j = 0) → mm_I M' a j = mm_I M a j) ∧ (∀ s, s < 16 → mm_I M' 4 (s * 4 + p) = nI (s / sd z p % zm (zs z p))) ∧ mm_I M' 3 p = nI (sd z p) ∧ mm_I M' 1 0 = nI (x + (if zs z p = 0 then 0 else 1)) := by
  obtain ⟨g1, g2, g3, g4, g5⟩ := gz_23 z hz p hp
  have em : (if nI (zs z p) < (1 : Int32) then (1 : Int32) else nI (zs z p)) = nI (zm (zs z p)) := by
    unfold zm
    by_cases q : zs z p = 0
    · rw [if_pos q, q]; rfl
    · rw [if_neg q, if_neg (show ¬ nI (zs z p) < (1 : Int32) from nI_nlt (b := 1) (by omega) (by omega))]
  have ec : (if nI (zs z p) ≤ 0 then (0 : Int32) else (1 : Int32)) = nI (if zs z p = 0 then 0 else 1) := by
    by_cases q : zs z p = 0
    · rw [q]; rfl
    · rw [if_neg q, if_neg (nI_nle (by omega) (by omega))]; rfl
  obtain ⟨M1, a1, a2, a3, a4, a5, a6⟩ := p_l70 (p := p) (D := sd z p) (Z := zm (zs z p)) (fun (M_21 : Mm) => (op_gI M_21 3 1 0).bind fun x_22 => (op_gR M_21 3 1 2).bind fun x_23 => (op_aI M_21 x_23 (nI p)).bind fun x_24 => (op_pI M_21 3 1 0 (x_22 + (if x_24 ≤ 0 then (0 : Int32) else (1 : Int32)))).bind fun M_26 => lp_X3_lay_40 K 1 k (nI (sd z p) * nI (zm (zs z p))) (nI p + (-1)) M_26) hp g1 g2 g3 g4 FU 0 (mm_wI M 3 p (nI (sd z p))) (by omega) (by unfold FU; omega) (sh_wI h)
  have s1 : mm_I M1 2 p = nI (zs z p) := by rw [a4 _ _ (by omega), mI_wI, if_neg (by omega)]; exact hs
  have x1 : mm_I M1 1 0 = nI x := by rw [a4 _ _ (by omega), mI_wI, if_neg (by omega)]; exact h0
  refine ⟨mm_wI M1 1 0 (nI (x + (if zs z p = 0 then 0 else 1))), ?_, sh_wI a2, a3, fun a j q1 q2 q3 => ?_, fun s hs => ?_, ?_, ?_⟩
  · rw [lp_X3_lay_40, if_neg (nI_pos (by omega)), G_1_2 h, Option.bind_some, A_2 h hp, Option.bind_some, G_1_3 h, Option.bind_some, S_3 h hp, Option.bind_some, hs, em]
    refine Eq.trans a1 ?_
    simp only [G_1_0 a2, x1, G_1_2 a2, A_2 a2 hp, s1, ec, nI_add, P_1_0 a2, pk_mul, Option.bind_some]
  · rw [mI_wI, if_neg q3, a4 a j q1, mI_wI, if_neg q2]
  · rw [mI_wI, if_neg (by omega)]
    exact a6 s (by omega) hs
  · rw [mI_wI, if_neg (by omega), a4 _ _ (by omega), mI_wI, if_pos ⟨rfl, rfl⟩]
  · rw [mI_wI, if_pos ⟨rfl, rfl⟩]
theorem p_lay (h : Shp M) (hz : z ∈ OKZ) : ∃ M', f_X3_lay 1 (nI z.1) (nI z.2.1) (nI z.2.2.1) (nI z.2.2.2) M = some M' ∧ Shp M' ∧ mm_L M' = mm_L M ∧ (∀ a j, a = 0 ∨ 6 ≤ a → mm_I M' a j = mm_I M a j) ∧ GeoC z M' ∧ WtC (fun _ => 1) M' := by
  obtain ⟨q3, q2, q1, q0, qn, qp⟩ := gz_22 z hz
  have h5 : Shp (mm_wI (mm_wI (mm_wI (mm_wI (mm_wI M 2 0 (nI z.1)) 2 1 (nI z.2.1)) 2 2 (nI z.2.2.1)) 2 3 (nI z.2.2.2)) 1 0 0) := sh_wI (sh_wI (sh_wI (sh_wI (sh_wI h))))
  have f5 : ∀ a j, a ≠ 2 → ¬ (a = 1 ∧ j = 0) → mm_I (mm_wI (mm_wI (mm_wI (mm_wI (mm_wI M 2 0 (nI z.1)) 2 1 (nI z.2.1)) 2 2 (nI z.2.2.1)) 2 3 (nI z.2.2.2)) 1 0 0) a j = mm_I M a j := fun a j u1 u2 => by rw [mI_wI, if_neg u2, mI_wI, if_neg (by omega), mI_wI, if_neg (by omega), mI_wI, if_neg (by omega), mI_wI, if_neg (by omega)]
  have s5 : ∀ p, p < 4 → mm_I (mm_wI (mm_wI (mm_wI (mm_wI (mm_wI M 2 0 (nI z.1)) 2 1 (nI z.2.1)) 2 2 (nI z.2.2.1)) 2 3 (nI z.2.2.2)) 1 0 0) 2 p = nI (zs z p) := fun p hp => by
    have : p = 0 ∨ p = 1 ∨ p = 2 ∨ p = 3 := by omega
    rcases this with e | e | e | e <;> subst e <;> rfl
  have x5 : mm_I (mm_wI (mm_wI (mm_wI (mm_wI (mm_wI M 2 0 (nI z.1)) 2 1 (nI z.2.1)) 2 2 (nI z.2.2.1)) 2 3 (nI z.2.2.2)) 1 0 0) 1 0 = nI 0 := by rw [mI_wI, if_pos ⟨rfl, rfl⟩]; rfl
  have L5 : mm_L (mm_wI (mm_wI (mm_wI (mm_wI (mm_wI M 2 0 (nI z.1)) 2 1 (nI z.2.1)) 2 2 (nI z.2.2.1)) 2 3 (nI z.2.2.2)) 1 0 0) = mm_L M := rfl
  have S2 : ∀ {N : Mm} (hN : Shp N) {x : Int32}, op_sI N 2 0 x = some (mm_wI N 2 0 x) ∧ op_sI N 2 1 x = some (mm_wI N 2 1 x) ∧ op_sI N 2 2 x = some (mm_wI N 2 2 x) ∧ op_sI N 2 3 x = some (mm_wI N 2 3 x) := fun hN => ⟨S_2 hN (i := 0) (by omega), S_2 hN (i := 1) (by omega), S_2 hN (i := 2) (by omega), S_2 hN (i := 3) (by omega)⟩
  have e0 : f_X3_lay 1 (nI z.1) (nI z.2.1) (nI z.2.2.1) (nI z.2.2.2) M = lp_X3_lay_40 (fun (l_34_5 : Int32) (M_34 : Mm) => (op_pI M_34 3 1 1 l_34_5).bind fun M_35 => (op_gR M_35 3 1 5).bind fun x_36 => (f_J7_fill_53178 x_36 (1 : Int32) M_35).bind fun z_37 => some z_37) 1 (999995 + 1 + 1 + 1 + 1 + 1) (nI (sd z 3)) (nI 3) (mm_wI (mm_wI (mm_wI (mm_wI (mm_wI M 2 0 (nI z.1)) 2 1 (nI z.2.1)) 2 2 (nI z.2.2.1)) 2 3 (nI z.2.2.2)) 1 0 0) := by
    unfold f_X3_lay
    simp only [G_1_2 h, (S2 h).1, G_1_2 (sh_wI h), (S2 (sh_wI h)).2.1, G_1_2 (sh_wI (sh_wI h)), (S2 (sh_wI (sh_wI h))).2.2.1, G_1_2 (sh_wI (sh_wI (sh_wI h))), (S2 (sh_wI (sh_wI (sh_wI h)))).2.2.2, P_1_0 (sh_wI (sh_wI (sh_wI (sh_wI h)))), Option.bind_some]
    rw [q3]
    rfl
  generalize mm_wI (mm_wI (mm_wI (mm_wI (mm_wI M 2 0 (nI z.1)) 2 1 (nI z.2.1)) 2 2 (nI z.2.2.1)) 2 3 (nI z.2.2.2)) 1 0 0 = N0 at h5 f5 s5 x5 L5 e0
  obtain ⟨N1, a1, a2, a3, a4, a5, a6, a7⟩ := p_l40 (p := 3) (k := 999995 + 1 + 1 + 1 + 1) (fun (l_34_5 : Int32) (M_34 : Mm) => (op_pI M_34 3 1 1 l_34_5).bind fun M_35 => (op_gR M_35 3 1 5).bind fun x_36 => (f_J7_fill_53178 x_36 (1 : Int32) M_35).bind fun z_37 => some z_37) hz (by omega) h5 (s5 3 (by omega)) x5
  obtain ⟨N2, b1, b2, b3, b4, b5, b6, b7⟩ := p_l40 (p := 2) (k := 999995 + 1 + 1 + 1) (fun (l_34_5 : Int32) (M_34 : Mm) => (op_pI M_34 3 1 1 l_34_5).bind fun M_35 => (op_gR M_35 3 1 5).bind fun x_36 => (f_J7_fill_53178 x_36 (1 : Int32) M_35).bind fun z_37 => some z_37) hz (by omega) a2 ((a4 _ _ (by omega) (by omega) (by omega)).trans (s5 2 (by omega))) a7
  obtain ⟨N3, c1, c2, c3, c4, c5, c6, c7⟩ := p_l40 (p := 1) (k := 999995 + 1 + 1) (fun (l_34_5 : Int32) (M_34 : Mm) => (op_pI M_34 3 1 1 l_34_5).bind fun M_35 => (op_gR M_35 3 1 5).bind fun x_36 => (f_J7_fill_53178 x_36 (1 : Int32) M_35).bind fun z_37 => some z_37) hz (by omega) b2 ((b4 _ _ (by omega) (by omega) (by omega)).trans ((a4 _ _ (by omega) (by omega) (by omega)).trans (s5 1 (by omega)))) b7
  obtain ⟨N4, d1, d2, d3, d4, d5, d6, d7⟩ := p_l40 (p := 0) (k := 999995 + 1) (fun (l_34_5 : Int32) (M_34 : Mm) => (op_pI M_34 3 1 1 l_34_5).bind fun M_35 => (op_gR M_35 3 1 5).bind fun x_36 => (f_J7_fill_53178 x_36 (1 : Int32) M_35).bind fun z_37 => some z_37) hz (by omega) c2 ((c4 _ _ (by omega) (by omega) (by omega)).trans ((b4 _ _ (by omega) (by omega) (by omega)).trans ((a4 _ _ (by omega) (by omega) (by omega)).trans (s5 0 (by omega))))) c7
  have h6 : Shp (mm_wI N4 1 1 (nI (ns z))) := sh_wI d2
  obtain ⟨N5, e1, e2, e3, e4, e5⟩ := p_fillI (v := 1) (q := 5) h6 (by decide) (by decide)
  have g : ∀ a j, a ≠ 5 → ¬ (a = 1 ∧ j = 1) → mm_I N5 a j = mm_I N4 a j := fun a j u1 u2 => by rw [e4 a j u1, mI_wI, if_neg u2]
  have sz : ∀ p, p < 4 → mm_I N5 2 p = nI (zs z p) := fun p hp => by
    rw [g _ _ (by omega) (by omega), d4 _ _ (by omega) (by omega) (by omega), c4 _ _ (by omega) (by omega) (by omega), b4 _ _ (by omega) (by omega) (by omega), a4 _ _ (by omega) (by omega) (by omega)]
    exact s5 p hp
  have fu : ∀ p, p < 4 → p = 0 ∨ p = 1 ∨ p = 2 ∨ p = 3 := fun p hp => by omega
  refine ⟨N5, ?_, e2, e3.trans (d3.trans (c3.trans (b3.trans (a3.trans L5)))), fun a j ha => ?_, ⟨hz, ?_, ?_, sz, fun p hp => ?_, fun s hs p hp => ?_⟩, ⟨fun _ => (by decide : 1 ≤ 1000), fun s hs => e5 s hs⟩⟩
  · rw [e0, a1, q2, show nI 3 + (-1) = nI 2 from rfl, b1, q1, show nI 2 + (-1) = nI 1 from rfl, c1, q0, show nI 1 + (-1) = nI 0 from rfl, d1, qn, lp_X3_lay_40, if_pos (by decide)]
    simp only [P_1_1 d2, G_1_5 h6, e1, Option.bind_some]
  · rw [g _ _ (by omega) (by omega), d4 _ _ (by omega) (by omega) (by omega), c4 _ _ (by omega) (by omega) (by omega), b4 _ _ (by omega) (by omega) (by omega), a4 _ _ (by omega) (by omega) (by omega)]
    exact f5 a j (by omega) (by omega)
  · rw [g _ _ (by omega) (by omega), d7, Nat.zero_add, qp]
  · rw [e4 _ _ (by omega), mI_wI, if_pos ⟨rfl, rfl⟩]
  · rw [g _ _ (by omega) (by omega)]
    rcases fu p hp with e | e | e | e <;> subst e
    · exact d6
    · rw [d4 _ _ (by omega) (by omega) (by omega)]; exact c6
    · rw [d4 _ _ (by omega) (by omega) (by omega), c4 _ _ (by omega) (by omega) (by omega)]; exact b6
    · rw [d4 _ _ (by omega) (by omega) (by omega), c4 _ _ (by omega) (by omega) (by omega), b4 _ _ (by omega) (by omega) (by omega)]; exact a6
  · rw [g _ _ (by omega) (by omega)]
    rcases fu p hp with e | e | e | e <;> subst e
    · exact d5 s hs
    · rw [d4 _ _ (by omega) (by omega) (by omega)]; exact c5 s hs
    · rw [d4 _ _ (by omega) (by omega) (by omega), c4 _ _ (by omega) (by omega) (by omega)]; exact b5 s hs
    · rw [d4 _ _ (by omega) (by omega) (by omega), c4 _ _ (by omega) (by omega) (by omega), b4 _ _ (by omega) (by omega) (by omega)]; exact a5 s hs
theorem m_w1_l (K : Mm → Option (Int32 × Mm)) : ∀ (k i : Nat) (M : Mm), i ≤ 16 → 16 - i < k → Shp M → ∃ M', lp_X7_model_204 K 66 k (nI i) M = K M' ∧ Shp M' ∧ mm_L M' = mm_L M ∧ (∀ a j, a ≠ 68 → mm_I M' a j = mm_I M a j) ∧ (∀ j, j < i → mm_I M' 68 j = mm_I M 68 j) ∧ ∀ j, i ≤ j → j < 16 → mm_I M' 68 j = 1
  | 0, i, M, _, h2, _ => absurd h2 (by omega)
  | k + 1, i, M, h1, h2, h => by
    rw [lp_X7_model_204]
    by_cases e : i = 16
    · rw [if_pos (show (16 : Int32) ≤ nI i by rw [e]; decide)]
      exact ⟨M, rfl, h, rfl, fun _ _ _ => rfl, fun _ _ => rfl, fun j q1 q2 => absurd q1 (by omega)⟩
    · rw [if_neg (show ¬ (16 : Int32) ≤ nI i from nI_ge (a := i) (b := 16) (by omega) (by omega)), G_66_3 h, Option.bind_some, S_68 h (by omega), Option.bind_some, nI_1]
      obtain ⟨M1, a1, a2, a3, a4, a5, a6⟩ := m_w1_l K k (i + 1) (mm_wI M 68 i 1) (by omega) (by omega) (sh_wI h)
      refine ⟨M1, a1, a2, a3, fun a j ha => ?_, fun j hj => ?_, fun j q1 q2 => ?_⟩
      · rw [a4 a j ha, mI_wI, if_neg (fun e => ha e.1)]
      · rw [a5 j (by omega), mI_wI, if_neg (fun e => by omega)]
      · by_cases ej : j = i
        · rw [a5 j (by omega), mI_wI, if_pos ⟨rfl, ej⟩]
        · exact a6 j (by omega) q2
end
