def ar4 (a b c d : Int32) (p : Nat) : Int32 := if p = 0 then a else if p = 1 then b else if p = 2 then c else d
section
variable {M M' M'' : Mm} {z : Zt} {w : Nat → Nat} {V V' : Mv} {n nm cg m s t k p : Nat} {a b c d v : Int32}
theorem ar4_i (hp : p < 4) : (if nI p = 0 then a else (if nI p = (1 : Int32) then b else (if nI p = (2 : Int32) then c else d))) = ar4 a b c d p := by
  have : p = 0 ∨ p = 1 ∨ p = 2 ∨ p = 3 := by omega
  rcases this with e | e | e | e <;> subst e <;> rfl
theorem p_isPx (h : Shp M) (hg : GeoC z M) (hp : p < 4) (hq : np z ≤ p) : f_X3_isPlace 1 (nI p) M = some 0 := p_isP0 h hg (fun ⟨j, hj, e⟩ => by have := gz_p hg.1 hj; have := (nI_eq (by omega) (by omega)).mp e; omega)
theorem p_hvN (h : Shp M) (hg : GeoC z M) (hp : p < 4) (hq : np z ≤ p) : f_X3_hasValue 1 (nI p) v M = some 1 := by
  unfold f_X3_hasValue
  simp only [I_1 h, p_isPx h hg hp hq, Option.bind_some, ↓reduceIte]
theorem p_hv1 (h : Shp M) (hg : GeoC z M) (hp : p < np z) (o : ok (zs z p) v) : f_X3_hasValue 1 (nI p) v M = some 1 := by
  obtain ⟨u, hu, rfl⟩ := o
  have hp4 := gz_p hg.1 hp
  have hz := gz_2 z hg.1 p hp
  have q1 : ¬ nI u < 0 := nI_pos (by omega)
  have q2 : ¬ nI (zs z p) ≤ nI u := nI_ge hu (by omega)
  unfold f_X3_hasValue
  simp only [I_1 h, p_isPlace h hg hp, q1, G_1_2 h, A_2 h hp4, hg.2.2.2.1 p hp4, q2, i10, Option.bind_some, ↓reduceIte]
theorem p_hv0 (h : Shp M) (hg : GeoC z M) (hp : p < np z) (o : ¬ ok (zs z p) v) : f_X3_hasValue 1 (nI p) v M = some 0 := by
  have hp4 := gz_p hg.1 hp
  have hz := gz_2 z hg.1 p hp
  unfold f_X3_hasValue
  by_cases q1 : v < 0
  · simp only [I_1 h, p_isPlace h hg hp, q1, i10, Option.bind_some, ↓reduceIte]
  · have q2 : nI (zs z p) ≤ v := (nok (by omega) o).resolve_left q1
    simp only [I_1 h, p_isPlace h hg hp, q1, G_1_2 h, A_2 h hp4, hg.2.2.2.1 p hp4, q2, i10, Option.bind_some, ↓reduceIte]
theorem p_ptN (h : Shp M) (hg : GeoC z M) (hp : p < 4) (hq : np z ≤ p) : f_X3_part 1 (nI p) v M = some 0 := by
  unfold f_X3_part
  simp only [I_1 h, p_isPx h hg hp hq, Option.bind_some, ↓reduceIte]
theorem p_pt1 {u : Nat} (h : Shp M) (hg : GeoC z M) (hp : p < np z) : f_X3_part 1 (nI p) (nI u) M = some (nI (u * sd z p)) := by
  have hp4 := gz_p hg.1 hp
  unfold f_X3_part
  simp only [I_1 h, p_isPlace h hg hp, G_1_3 h, A_3 h hp4, hg.2.2.2.2.1 p hp4, pk_mul, i10, Option.bind_some, ↓reduceIte]
theorem m_stS {u acc : Nat} (h : Shp M) (hg : GeoM z M) (hp : p < np z) (hu : u < zs z p) (e : ar4 a b c d p = nI u) : lp_X7_state_16 66 a b c d M (k + 1) (nI acc) (nI p) = lp_X7_state_16 66 a b c d M k (nI (acc * zs z p + u)) (nI (p + 1)) := by
  have hp4 := gz_p hg.1 hp
  have hz := gz_2 z hg.1 p hp
  have hn := (gz_1 z hg.1).2.2.2
  have q : ¬ nI (np z) ≤ nI p := nI_ge hp (by omega)
  have i1 : f_X7_isIn (nI u) 0 (nI (zs z p) - 1) = some 1 := by
    obtain ⟨y, hy⟩ : ∃ y, zs z p = y + 1 := ⟨zs z p - 1, by omega⟩
    rw [hy, nI_pred]
    exact m_isIn (a := 0) (by omega) (by omega) (by omega)
  rw [lp_X7_state_16]
  simp only [G_66_0 h, hg.2.1, q, G_66_1 h, A_67 h hp4, hg.2.2.2 p hp4, ar4_i hp4, e, i1, pk_mul, nI_add, nI_1, i10, Option.bind_some, ↓reduceIte]
theorem m_stB {acc : Nat} (h : Shp M) (hg : GeoM z M) (hp : p < np z) (o : ¬ ok (zs z p) (ar4 a b c d p)) : lp_X7_state_16 66 a b c d M (k + 1) (nI acc) (nI p) = some (-1) := by
  have hp4 := gz_p hg.1 hp
  have hz := gz_2 z hg.1 p hp
  have hn := (gz_1 z hg.1).2.2.2
  have q : ¬ nI (np z) ≤ nI p := nI_ge hp (by omega)
  have i1 := m_in0 (n := zs z p) (by omega) o
  rw [lp_X7_state_16]
  simp only [G_66_0 h, hg.2.1, q, G_66_1 h, A_67 h hp4, hg.2.2.2 p hp4, ar4_i hp4, i1, Option.bind_some, ↓reduceIte]
theorem m_stE {acc : Nat} (h : Shp M) (hg : GeoM z M) (hp : p = np z) : lp_X7_state_16 66 a b c d M (k + 1) (nI acc) (nI p) = some (nI acc) := by
  have hn := (gz_1 z hg.1).2.2.2
  have q : nI (np z) ≤ nI p := nI_le (by omega) (by omega)
  rw [lp_X7_state_16]
  simp only [G_66_0 h, hg.2.1, q, Option.bind_some, ↓reduceIte]
theorem gz_20 : ∀ z ∈ OKZ, (np z = 1 → sd z 0 = 1) ∧ (np z = 2 → sd z 0 = zs z 1 ∧ sd z 1 = 1) ∧ (np z = 3 → sd z 0 = zs z 1 * zs z 2 ∧ sd z 1 = zs z 2 ∧ sd z 2 = 1) ∧ (np z = 4 → sd z 0 = zs z 1 * zs z 2 * zs z 3 ∧ sd z 1 = zs z 2 * zs z 3 ∧ sd z 2 = zs z 3 ∧ sd z 3 = 1) := by decide +kernel
theorem s_stG (h : Shp M) (hg : GeoC z M) (gm : GeoM z M) : ∃ A, f_X6_state 0 a b c d M = some A ∧ lp_X7_state_16 66 a b c d M FU (nI 0) (nI 0) = some A := by
  have h4 := (gz_1 z hg.1)
  have g20 := gz_20 z hg.1
  have n0 : (0 : Int32) = nI 0 := rfl
  have n1 : (1 : Int32) = nI 1 := rfl
  have n2 : (2 : Int32) = nI 2 := rfl
  have n3 : (3 : Int32) = nI 3 := rfl
  have fu : FU = 999995 + 1 + 1 + 1 + 1 + 1 := rfl
  have bad : ∀ p, p < np z → ¬ ok (zs z p) (ar4 a b c d p) → f_X6_state 0 a b c d M = some (-1) := fun p hp o => by
    have hv : ∀ q, q < 4 → f_X3_hasValue 1 (nI q) (ar4 a b c d q) M = some 0 ∨ f_X3_hasValue 1 (nI q) (ar4 a b c d q) M = some 1 := fun q hq => by
      by_cases q1 : q < np z
      · by_cases q2 : ok (zs z q) (ar4 a b c d q)
        · exact Or.inr (p_hv1 h hg q1 q2)
        · exact Or.inl (p_hv0 h hg q1 q2)
      · exact Or.inr (p_hvN h hg hq (by omega))
    have hb := p_hv0 h hg hp o
    have v0 : f_X3_hasValue 1 0 a M = some 0 ∨ f_X3_hasValue 1 0 a M = some 1 := hv 0 (by omega)
    have v1 : f_X3_hasValue 1 1 b M = some 0 ∨ f_X3_hasValue 1 1 b M = some 1 := hv 1 (by omega)
    have v2 : f_X3_hasValue 1 2 c M = some 0 ∨ f_X3_hasValue 1 2 c M = some 1 := hv 2 (by omega)
    have v3 : f_X3_hasValue 1 3 d M = some 0 ∨ f_X3_hasValue 1 3 d M = some 1 := hv 3 (by omega)
    have one : f_X3_hasValue 1 0 a M = some 0 ∨ f_X3_hasValue 1 1 b M = some 0 ∨ f_X3_hasValue 1 2 c M = some 0 ∨ f_X3_hasValue 1 3 d M = some 0 := by
      have : p = 0 ∨ p = 1 ∨ p = 2 ∨ p = 3 := by omega
      rcases this with e | e | e | e <;> subst e
      · exact Or.inl hb
      · exact Or.inr (Or.inl hb)
      · exact Or.inr (Or.inr (Or.inl hb))
      · exact Or.inr (Or.inr (Or.inr hb))
    unfold f_X6_state
    simp only [op_jn]
    rcases v0 with v0 | v0
    · simp only [I_0 h, pH1 h hg, G_0_0 h, I_1 h, v0, i10, Option.bind_some, ↓reduceIte]
    · rcases v1 with v1 | v1
      · simp only [I_0 h, pH1 h hg, G_0_0 h, I_1 h, v0, v1, i10, Option.bind_some, ↓reduceIte]
      · rcases v2 with v2 | v2
        · simp only [I_0 h, pH1 h hg, G_0_0 h, I_1 h, v0, v1, v2, i10, Option.bind_some, ↓reduceIte]
        · rcases v3 with v3 | v3
          · simp only [I_0 h, pH1 h hg, G_0_0 h, I_1 h, v0, v1, v2, v3, i10, Option.bind_some, ↓reduceIte]
          · exfalso
            rw [v0, v1, v2, v3] at one
            rcases one with e | e | e | e <;> exact absurd (Option.some.inj e) (by decide)
  have good : ∀ {x0 x1 x2 x3 : Int32}, f_X3_hasValue 1 0 a M = some 1 → f_X3_hasValue 1 1 b M = some 1 → f_X3_hasValue 1 2 c M = some 1 → f_X3_hasValue 1 3 d M = some 1 → f_X3_part 1 0 a M = some x0 → f_X3_part 1 1 b M = some x1 → f_X3_part 1 2 c M = some x2 → f_X3_part 1 3 d M = some x3 → f_X6_state 0 a b c d M = some (((x0 + x1) + x2) + x3) := fun v0 v1 v2 v3 w0 w1 w2 w3 => by
    unfold f_X6_state
    simp only [op_jn, I_0 h, pH1 h hg, G_0_0 h, I_1 h, v0, v1, v2, v3, w0, w1, w2, w3, i10, Option.bind_some, ↓reduceIte]
  have z0 : ∀ x : Int32, x + 0 = x := fun x => Int32.add_zero x
  by_cases o0 : ok (zs z 0) (ar4 a b c d 0)
  · obtain ⟨u0, hu0, e0⟩ := o0
    have e0' : a = nI u0 := e0
    have w0 := p_pt1 (u := u0) h hg (show 0 < np z by omega)
    have v0 := p_hv1 h hg (show 0 < np z by omega) ⟨u0, hu0, e0'⟩
    rw [← e0'] at w0
    by_cases k1 : np z = 1
    · refine ⟨nI (u0 * sd z 0), ?_, ?_⟩
      · have := good v0 (p_hvN h hg (p := 1) (by omega) (by omega)) (p_hvN h hg (p := 2) (by omega) (by omega)) (p_hvN h hg (p := 3) (by omega) (by omega)) w0 (p_ptN h hg (p := 1) (by omega) (by omega)) (p_ptN h hg (p := 2) (by omega) (by omega)) (p_ptN h hg (p := 3) (by omega) (by omega))
        rw [z0, z0, z0] at this
        exact this
      · rw [fu, m_stS h gm (by omega) hu0 e0, m_stE h gm (by omega), g20.1 k1]
        simp only [Nat.zero_mul, Nat.zero_add, Nat.mul_one]
    · by_cases o1 : ok (zs z 1) (ar4 a b c d 1)
      · obtain ⟨u1, hu1, e1⟩ := o1
        have e1' : b = nI u1 := e1
        have w1 := p_pt1 (u := u1) h hg (show 1 < np z by omega)
        have v1 := p_hv1 h hg (show 1 < np z by omega) ⟨u1, hu1, e1'⟩
        rw [← e1'] at w1
        by_cases k2 : np z = 2
        · refine ⟨nI (u0 * sd z 0 + u1 * sd z 1), ?_, ?_⟩
          · have := good v0 v1 (p_hvN h hg (p := 2) (by omega) (by omega)) (p_hvN h hg (p := 3) (by omega) (by omega)) w0 w1 (p_ptN h hg (p := 2) (by omega) (by omega)) (p_ptN h hg (p := 3) (by omega) (by omega))
            rw [z0, z0, nI_add] at this
            exact this
          · rw [fu, m_stS h gm (by omega) hu0 e0, m_stS h gm (by omega) hu1 e1, m_stE h gm (by omega), (g20.2.1 k2).1, (g20.2.1 k2).2]
            simp only [Nat.zero_mul, Nat.zero_add, Nat.mul_one]
        · by_cases o2 : ok (zs z 2) (ar4 a b c d 2)
          · obtain ⟨u2, hu2, e2⟩ := o2
            have e2' : c = nI u2 := e2
            have w2 := p_pt1 (u := u2) h hg (show 2 < np z by omega)
            have v2 := p_hv1 h hg (show 2 < np z by omega) ⟨u2, hu2, e2'⟩
            rw [← e2'] at w2
            by_cases k3 : np z = 3
            · refine ⟨nI (u0 * sd z 0 + u1 * sd z 1 + u2 * sd z 2), ?_, ?_⟩
              · have := good v0 v1 v2 (p_hvN h hg (p := 3) (by omega) (by omega)) w0 w1 w2 (p_ptN h hg (p := 3) (by omega) (by omega))
                rw [z0, nI_add, nI_add] at this
                exact this
              · obtain ⟨s0, s1, s2⟩ := g20.2.2.1 k3
                rw [fu, m_stS h gm (by omega) hu0 e0, m_stS h gm (by omega) hu1 e1, m_stS h gm (by omega) hu2 e2, m_stE h gm (by omega), s0, s1, s2]
                simp only [Nat.zero_mul, Nat.zero_add, Nat.mul_one, Nat.add_mul, Nat.mul_assoc]
            · by_cases o3 : ok (zs z 3) (ar4 a b c d 3)
              · obtain ⟨u3, hu3, e3⟩ := o3
                have e3' : d = nI u3 := e3
                have w3 := p_pt1 (u := u3) h hg (show 3 < np z by omega)
                have v3 := p_hv1 h hg (show 3 < np z by omega) ⟨u3, hu3, e3'⟩
                rw [← e3'] at w3
                refine ⟨nI (u0 * sd z 0 + u1 * sd z 1 + u2 * sd z 2 + u3 * sd z 3), ?_, ?_⟩
                · have := good v0 v1 v2 v3 w0 w1 w2 w3
                  rw [nI_add, nI_add, nI_add] at this
                  exact this
                · obtain ⟨s0, s1, s2, s3⟩ := g20.2.2.2 (by omega)
                  rw [fu, m_stS h gm (by omega) hu0 e0, m_stS h gm (by omega) hu1 e1, m_stS h gm (by omega) hu2 e2, m_stS h gm (by omega) hu3 e3, m_stE h gm (by omega), s0, s1, s2, s3]
                  simp only [Nat.zero_mul, Nat.zero_add, Nat.mul_one, Nat.add_mul, Nat.mul_assoc]
              · exact ⟨-1, bad 3 (by omega) o3, by rw [fu, m_stS h gm (by omega) hu0 e0, m_stS h gm (by omega) hu1 e1, m_stS h gm (by omega) hu2 e2, m_stB h gm (by omega) o3]⟩
          · exact ⟨-1, bad 2 (by omega) o2, by rw [fu, m_stS h gm (by omega) hu0 e0, m_stS h gm (by omega) hu1 e1, m_stB h gm (by omega) o2]⟩
      · exact ⟨-1, bad 1 (by omega) o1, by rw [fu, m_stS h gm (by omega) hu0 e0, m_stB h gm (by omega) o1]⟩
  · exact ⟨-1, bad 0 (by omega) o0, by rw [fu, m_stB h gm (by omega) o0]⟩
theorem s_state (I : Inv cg M) : ∃ A, f_X6_state 0 a b c d M = some A ∧ f_X7_state 66 a b c d M = some A := by
  obtain ⟨h, I⟩ := I
  rcases I with I | ⟨z, w, V, nm, C, B, -⟩
  · unfold f_X6_state f_X7_state
    simp only [I_0 h, G_66_2 h, pH0 h I.2.2.1, I.2.2.2.2.2.2.1, Option.bind_some, ↓reduceIte]
    exact ⟨_, rfl, rfl⟩
  · obtain ⟨A, a1, a2⟩ := s_stG (a := a) (b := b) (c := c) (d := d) h C.1 B.1
    refine ⟨A, a1, ?_⟩
    unfold f_X7_state
    simp only [G_66_2 h, ns_n0 B.1, Option.bind_some, ↓reduceIte]
    exact a2
end
