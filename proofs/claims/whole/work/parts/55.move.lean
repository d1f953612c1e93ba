def nOk (z : Zt) (nm k : Nat) (a b : Int32) : Prop := k ≤ 6 ∧ ((k = 0 ∨ k = 1 ∨ k = 4) → ok (np z) a) ∧ (k = 2 → ∃ i j, i < np z ∧ j < np z ∧ i ≠ j ∧ zs z i = zs z j ∧ a = nI i ∧ b = nI j) ∧ (5 ≤ k → ok nm a ∧ ok nm b)
section
variable {M M' M'' : Mm} {z : Zt} {w : Nat → Nat} {V V' : Mv} {n nm cg m s t k : Nat} {a b c d : Int32}
theorem p_cn2 (h : Shp M) (hg : GeoC z M) : (nOk z nm 2 a b → f_X6_canName 0 2 a b M = some 1) ∧ (¬ nOk z nm 2 a b → f_X6_canName 0 2 a b M = some 0) := by
  have e0 : ((2 : Int32) = 0) = False := eq_false (by decide)
  have e1 : ((2 : Int32) = 1) = False := eq_false (by decide)
  unfold f_X6_canName
  by_cases q1 : ok (np z) a
  · obtain ⟨i, hi, rfl⟩ := q1
    by_cases q2 : ok (np z) b
    · obtain ⟨j, hj, rfl⟩ := q2
      have hi4 := gz_p hg.1 hi
      have hj4 := gz_p hg.1 hj
      have zi := gz_2 z hg.1 i hi
      have zj := gz_2 z hg.1 j hj
      by_cases q3 : i = j
      · have q3' : nI i = nI j := by rw [q3]
        simp only [e0, e1, G_0_0 h, I_1 h, p_isPlace h hg hi, p_isPlace h hg hj, q3', i10, Option.bind_some, ↓reduceIte]
        refine ⟨fun o => ?_, fun _ => trivial⟩
        obtain ⟨-, -, o, -⟩ := o
        obtain ⟨i', j', h1, h2, h3, h4, h5, h6⟩ := o rfl
        exfalso
        have l1 := gz_p hg.1 h1
        have l2 := gz_p hg.1 h2
        have e5 := (nI_eq (by omega) (by omega)).mp h5
        have e6 := (nI_eq (by omega) (by omega)).mp h6
        omega
      · have q3' : ¬ nI i = nI j := fun q => q3 ((nI_eq (by omega) (by omega)).mp q)
        by_cases q4 : zs z i = zs z j
        · have q4' : mm_I M 2 i = mm_I M 2 j := by rw [hg.2.2.2.1 i hi4, hg.2.2.2.1 j hj4, q4]
          simp only [e0, e1, G_0_0 h, I_1 h, p_isPlace h hg hi, p_isPlace h hg hj, q3', G_1_2 h, A_2 h hi4, A_2 h hj4, q4', i10, Option.bind_some, ↓reduceIte]
          exact ⟨fun _ => trivial, fun o => absurd ⟨by omega, fun q => by omega, fun _ => ⟨i, j, hi, hj, q3, q4, rfl, rfl⟩, fun q => by omega⟩ o⟩
        · have q4' : ¬ mm_I M 2 i = mm_I M 2 j := by rw [hg.2.2.2.1 i hi4, hg.2.2.2.1 j hj4]; exact fun q => q4 ((nI_eq (by omega) (by omega)).mp q)
          simp only [e0, e1, G_0_0 h, I_1 h, p_isPlace h hg hi, p_isPlace h hg hj, q3', G_1_2 h, A_2 h hi4, A_2 h hj4, q4', i10, Option.bind_some, ↓reduceIte]
          refine ⟨fun o => ?_, fun _ => trivial⟩
          obtain ⟨-, -, o, -⟩ := o
          obtain ⟨i', j', h1, h2, h3, h4, h5, h6⟩ := o rfl
          have l1 := gz_p hg.1 h1
          have l2 := gz_p hg.1 h2
          have e5 := (nI_eq (by omega) (by omega)).mp h5
          have e6 := (nI_eq (by omega) (by omega)).mp h6
          rw [e5, e6] at q4
          exact absurd h4 q4
    · simp only [e0, e1, G_0_0 h, I_1 h, p_isPlace h hg hi, p_isP0 h hg q2, i10, Option.bind_some, ↓reduceIte]
      refine ⟨fun o => ?_, fun _ => trivial⟩
      obtain ⟨-, -, o, -⟩ := o
      obtain ⟨i', j', h1, h2, h3, h4, h5, h6⟩ := o rfl
      exact absurd ⟨j', h2, h6⟩ q2
  · simp only [e0, e1, G_0_0 h, I_1 h, p_isP0 h hg q1, i10, Option.bind_some, ↓reduceIte]
    refine ⟨fun o => ?_, fun _ => trivial⟩
    obtain ⟨-, -, o, -⟩ := o
    obtain ⟨i', j', h1, h2, h3, h4, h5, h6⟩ := o rfl
    exact absurd ⟨i', h1, h5⟩ q1
theorem p_cnP (h : Shp M) (hg : GeoC z M) (hk : k = 0 ∨ k = 1 ∨ k = 4) : (nOk z nm k a b → f_X6_canName 0 (nI k) a b M = some 1) ∧ (¬ nOk z nm k a b → f_X6_canName 0 (nI k) a b M = some 0) := by
  have key : ∀ r : Int32, f_X3_isPlace 1 a M = some r → op_rz r = some r → f_X6_canName 0 (nI k) a b M = some r := fun r h1 h2 => by
    unfold f_X6_canName
    rcases hk with e | e | e <;> subst e
    · simp only [show (nI 0 = (0 : Int32)) = True from eq_true rfl, G_0_0 h, I_1 h, h1, h2, Option.bind_some, ↓reduceIte]
    · simp only [show (nI 1 = (0 : Int32)) = False from eq_false (by decide), show (nI 1 = (1 : Int32)) = True from eq_true rfl, G_0_0 h, I_1 h, h1, h2, Option.bind_some, ↓reduceIte]
    · simp only [show (nI 4 = (0 : Int32)) = False from eq_false (by decide), show (nI 4 = (1 : Int32)) = False from eq_false (by decide), show (nI 4 = (2 : Int32)) = False from eq_false (by decide), show (nI 4 = (3 : Int32)) = False from eq_false (by decide), show (nI 4 = (4 : Int32)) = True from eq_true rfl, G_0_0 h, I_1 h, h1, h2, Option.bind_some, ↓reduceIte]
  by_cases q : ok (np z) a
  · obtain ⟨i, hi, rfl⟩ := q
    exact ⟨fun _ => key 1 (p_isPlace h hg hi) rz_1, fun o => absurd ⟨by omega, fun _ => ⟨i, hi, rfl⟩, fun q => by omega, fun q => by omega⟩ o⟩
  · exact ⟨fun o => absurd (o.2.1 hk) q, fun _ => key 0 (p_isP0 h hg q) rz_0⟩
theorem p_cn3 : f_X6_canName 0 (nI 3) a b M = some 1 := by
  unfold f_X6_canName
  simp only [show (nI 3 = (0 : Int32)) = False from eq_false (by decide), show (nI 3 = (1 : Int32)) = False from eq_false (by decide), show (nI 3 = (2 : Int32)) = False from eq_false (by decide), show (nI 3 = (3 : Int32)) = True from eq_true rfl, ↓reduceIte]
theorem p_cnM (h : Shp M) (e : mm_I M 0 5 = nI nm) (hn : nm ≤ 10) (hk : k = 5 ∨ k = 6) : (nOk z nm k a b → f_X6_canName 0 (nI k) a b M = some 1) ∧ (¬ nOk z nm k a b → f_X6_canName 0 (nI k) a b M = some 0) := by
  have key : ∀ r : Int32, ((f_X6_isMove 0 a M).bind fun z_30 => if z_30 = 0 then some (0 : Int32) else (f_X6_isMove 0 b M).bind fun z_32 => if z_32 = 0 then some (0 : Int32) else some (1 : Int32)) = some r → f_X6_canName 0 (nI k) a b M = some r := fun r h1 => by
    unfold f_X6_canName
    rcases hk with e | e <;> subst e
    · simp only [show (nI 5 = (0 : Int32)) = False from eq_false (by decide), show (nI 5 = (1 : Int32)) = False from eq_false (by decide), show (nI 5 = (2 : Int32)) = False from eq_false (by decide), show (nI 5 = (3 : Int32)) = False from eq_false (by decide), show (nI 5 = (4 : Int32)) = False from eq_false (by decide), show (nI 5 = (5 : Int32)) = True from eq_true rfl, I_0 h, Option.bind_some, ↓reduceIte]
      exact h1
    · simp only [show (nI 6 = (0 : Int32)) = False from eq_false (by decide), show (nI 6 = (1 : Int32)) = False from eq_false (by decide), show (nI 6 = (2 : Int32)) = False from eq_false (by decide), show (nI 6 = (3 : Int32)) = False from eq_false (by decide), show (nI 6 = (4 : Int32)) = False from eq_false (by decide), show (nI 6 = (5 : Int32)) = False from eq_false (by decide), show (nI 6 = (6 : Int32)) = True from eq_true rfl, I_0 h, Option.bind_some, ↓reduceIte]
      exact h1
  by_cases q : ok nm a
  · obtain ⟨i, hi, rfl⟩ := q
    by_cases q : ok nm b
    · obtain ⟨j, hj, rfl⟩ := q
      exact ⟨fun _ => key 1 (by simp only [p_isM1 h e hn hi, p_isM1 h e hn hj, i10, Option.bind_some, ↓reduceIte]), fun o => absurd ⟨by omega, fun q => by omega, fun q => by omega, fun _ => ⟨⟨i, hi, rfl⟩, ⟨j, hj, rfl⟩⟩⟩ o⟩
    · exact ⟨fun o => absurd (o.2.2.2 (by omega)).2 q, fun _ => key 0 (by simp only [p_isM1 h e hn hi, p_isM0 h e hn q, i10, Option.bind_some, ↓reduceIte])⟩
  · exact ⟨fun o => absurd (o.2.2.2 (by omega)).1 q, fun _ => key 0 (by simp only [p_isM0 h e hn q, Option.bind_some, ↓reduceIte])⟩
theorem p_canName (h : Shp M) (hg : GeoC z M) (e : mm_I M 0 5 = nI nm) (hn : nm ≤ 10) (hk : k ≤ 6) : (nOk z nm k a b → f_X6_canName 0 (nI k) a b M = some 1) ∧ (¬ nOk z nm k a b → f_X6_canName 0 (nI k) a b M = some 0) := by
  by_cases k1 : k = 0 ∨ k = 1 ∨ k = 4
  · exact p_cnP h hg k1
  · by_cases k2 : k = 2
    · subst k2; exact p_cn2 h hg
    · by_cases k3 : k = 3
      · subst k3; exact ⟨fun _ => p_cn3, fun o => absurd ⟨by omega, fun q => by omega, fun q => by omega, fun q => by omega⟩ o⟩
      · exact p_cnM h e hn (by omega)
theorem p_cnX (hk : ∀ k, k ≤ 6 → ¬ a = nI k) : f_X6_canName 0 a b c M = some 0 := by
  unfold f_X6_canName
  simp only [show (a = 0) = False from eq_false (hk 0 (by omega)), show (a = 1) = False from eq_false (hk 1 (by omega)), show (a = 2) = False from eq_false (hk 2 (by omega)), show (a = 3) = False from eq_false (hk 3 (by omega)), show (a = 4) = False from eq_false (hk 4 (by omega)), show (a = 5) = False from eq_false (hk 5 (by omega)), show (a = 6) = False from eq_false (hk 6 (by omega)), ↓reduceIte]
def nDp (V : Mv) (k i j : Nat) : Nat := if 5 ≤ k then 1 + max (vD V i) (vD V j) else 0
theorem p_dep (h : Shp M) (hr : MvC V nm n M) (hn : nm ≤ 10) (hk : k ≤ 6) {i j : Nat} (ho : ∀ m, m < nm → vD V m ≤ 2) (hi : 5 ≤ k → i < nm ∧ a = nI i) (hj : 5 ≤ k → j < nm ∧ b = nI j) : f_X6_depthOf 0 (nI k) a b M = some (nI (nDp V k i j)) := by
  unfold f_X6_depthOf nDp
  by_cases k5 : 5 ≤ k
  · obtain ⟨hi, ea⟩ := hi k5
    obtain ⟨hj, eb⟩ := hj k5
    rw [ea, eb]
    have e : ¬ (if nI k = (5 : Int32) then (1 : Int32) else (if nI k = (6 : Int32) then (1 : Int32) else (0 : Int32))) = 0 := by
      have : k = 5 ∨ k = 6 := by omega
      rcases this with e | e <;> subst e <;> decide
    have o1 := ho i hi
    have o2 := ho j hj
    have di := (hr.2 i hi).2.2.2.2.2.1
    have dj := (hr.2 j hj).2.2.2.2.2.1
    have em : (1 : Int32) + (if nI (vD V i) < nI (vD V j) then nI (vD V j) else nI (vD V i)) = nI (1 + max (vD V i) (vD V j)) := by
      by_cases q : vD V i < vD V j
      · rw [if_pos (nI_lt q (by omega)), Nat.max_eq_right (by omega)]
        exact nI_add 1 _
      · rw [if_neg (nI_nlt (by omega) (by omega)), Nat.max_eq_left (by omega)]
        exact nI_add 1 _
    simp only [e, I_0 h, p_isM1 h hr.1 hn hi, p_isM1 h hr.1 hn hj, G_0_1 h, A_6 h (show i < 10 by omega), A_6 h (show j < 10 by omega), G_m_5 h (show i < 10 by omega), G_m_5 h (show j < 10 by omega), di, dj, em, k5, i10, Option.bind_some, ↓reduceIte]
  · have e : (if nI k = (5 : Int32) then (1 : Int32) else (if nI k = (6 : Int32) then (1 : Int32) else (0 : Int32))) = 0 := by
      rw [if_neg (show ¬ nI k = (5 : Int32) from fun q => by have := (nI_eq (b := 5) (by omega) (by omega)).mp q; omega), if_neg (show ¬ nI k = (6 : Int32) from fun q => by have := (nI_eq (b := 6) (by omega) (by omega)).mp q; omega)]
    simp only [e, k5, ↓reduceIte]
    rfl
theorem p_fillI_l {v : Int32} {q : Nat} (hq : q < 83) (hk : KK q = 100) : ∀ (k i : Nat) (M : Mm), i ≤ SS q → SS q - i < k → Shp M → ∃ M', lp_J7_fill_53178_5 q v (nI (SS q)) k (nI i) M = some M' ∧ Shp M' ∧ mm_L M' = mm_L M ∧ (∀ a j, a ≠ q → mm_I M' a j = mm_I M a j) ∧ (∀ j, j < i → mm_I M' q j = mm_I M q j) ∧ ∀ j, i ≤ j → j < SS q → mm_I M' q j = v
  | 0, i, M, _, h2, _ => absurd h2 (by omega)
  | k + 1, i, M, h1, h2, h => by
    have hlt := SS_lt q hq
    rw [lp_J7_fill_53178_5]
    by_cases e : i = SS q
    · rw [if_pos (nI_le (by omega) (by omega))]
      exact ⟨M, rfl, h, rfl, fun _ _ _ => rfl, fun _ _ => rfl, fun j h3 h4 => absurd h3 (by omega)⟩
    · rw [if_neg (nI_ge (by omega) (by omega)), sh_sI h hq hk (by omega), Option.bind_some, nI_1]
      obtain ⟨M1, a1, a2, a3, a4, a5, a6⟩ := p_fillI_l (v := v) hq hk k (i + 1) (mm_wI M q i v) (by omega) (by omega) (sh_wI h)
      refine ⟨M1, a1, a2, a3, fun a j ha => ?_, fun j hj => ?_, fun j h3 h4 => ?_⟩
      · rw [a4 a j ha, mI_wI, if_neg (fun e => ha e.1)]
      · rw [a5 j (by omega), mI_wI, if_neg (fun e => by omega)]
      · by_cases e2 : j = i
        · rw [a5 j (by omega), mI_wI, if_pos ⟨rfl, e2⟩]
        · exact a6 j (by omega) h4
theorem p_fillI {v : Int32} {q : Nat} (h : Shp M) (hq : q < 83) (hk : KK q = 100) : ∃ M', f_J7_fill_53178 q v M = some M' ∧ Shp M' ∧ mm_L M' = mm_L M ∧ (∀ a j, a ≠ q → mm_I M' a j = mm_I M a j) ∧ ∀ j, j < SS q → mm_I M' q j = v := by
  unfold f_J7_fill_53178
  rw [sh_n h hq hk (by omega) (by omega), Option.bind_some]
  obtain ⟨M1, a1, a2, a3, a4, a5, a6⟩ := p_fillI_l (v := v) hq hk FU 0 M (by omega) (by have : SS q ≤ 3000 := (show ∀ q, q < 83 → SS q ≤ 3000 by decide) q hq; unfold FU; omega) h
  exact ⟨M1, a1, a2, a3, a4, fun j hj => a6 j (by omega) hj⟩
theorem p_become {x : Int32} (h : Shp M) (hm : m < 10) : ∃ M', f_X2_become (7 + 5 * m) a b c x M = some M' ∧ Shp M' ∧ mm_L M' = mm_L M ∧ (∀ q j, ¬ (q = 7 + 5 * m ∧ j < 6) → q ≠ 8 + 5 * m → q ≠ 9 + 5 * m → mm_I M' q j = mm_I M q j) ∧ mm_I M' (7 + 5 * m) 0 = a ∧ mm_I M' (7 + 5 * m) 1 = b ∧ mm_I M' (7 + 5 * m) 2 = c ∧ mm_I M' (7 + 5 * m) 3 = 1 ∧ mm_I M' (7 + 5 * m) 4 = 1 ∧ mm_I M' (7 + 5 * m) 5 = x ∧ (∀ j, j < 256 → mm_I M' (8 + 5 * m) j = 0) ∧ ∀ j, j < 16 → mm_I M' (9 + 5 * m) j = 0 := by
  obtain ⟨m1, m2, m3, m4, m5, m6, m7, -⟩ := mv_K m hm
  have h6 : Shp (mm_wI (mm_wI (mm_wI (mm_wI (mm_wI (mm_wI M (7 + 5 * m) 0 a) (7 + 5 * m) 1 b) (7 + 5 * m) 2 c) (7 + 5 * m) 3 1) (7 + 5 * m) 4 1) (7 + 5 * m) 5 x) := sh_wI (sh_wI (sh_wI (sh_wI (sh_wI (sh_wI h)))))
  obtain ⟨M1, a1, a2, a3, a4, a5⟩ := p_fillI (v := 0) (q := 8 + 5 * m) h6 (by omega) m2
  obtain ⟨M2, b1, b2, b3, b4, b5⟩ := p_fillI (v := 0) (q := 9 + 5 * m) a2 (by omega) m3
  have g : ∀ q j, q ≠ 8 + 5 * m → q ≠ 9 + 5 * m → mm_I M2 q j = mm_I (mm_wI (mm_wI (mm_wI (mm_wI (mm_wI (mm_wI M (7 + 5 * m) 0 a) (7 + 5 * m) 1 b) (7 + 5 * m) 2 c) (7 + 5 * m) 3 1) (7 + 5 * m) 4 1) (7 + 5 * m) 5 x) q j := fun q j q1 q2 => (b4 q j q2).trans (a4 q j q1)
  refine ⟨M2, ?_, b2, b3.trans a3, fun q j q0 q1 q2 => ?_, ?_, ?_, ?_, ?_, ?_, ?_, fun j hj => ?_, fun j hj => b5 j (by rw [m7]; exact hj)⟩
  · unfold f_X2_become
    simp only [P_m_0 h hm, P_m_1 (sh_wI h) hm, P_m_2 (sh_wI (sh_wI h)) hm, P_m_3 (sh_wI (sh_wI (sh_wI h))) hm, P_m_4 (sh_wI (sh_wI (sh_wI (sh_wI h)))) hm, P_m_5 (sh_wI (sh_wI (sh_wI (sh_wI (sh_wI h))))) hm, G_m_6 h6 hm, a1, G_m_7 a2 hm, b1, Option.bind_some]
  · rw [g q j q1 q2, mI_wI, if_neg (by omega), mI_wI, if_neg (by omega), mI_wI, if_neg (by omega), mI_wI, if_neg (by omega), mI_wI, if_neg (by omega), mI_wI, if_neg (by omega)]
  · rw [g _ _ (by omega) (by omega), mI_wI, if_neg (by omega), mI_wI, if_neg (by omega), mI_wI, if_neg (by omega), mI_wI, if_neg (by omega), mI_wI, if_neg (by omega), mI_wI, if_pos ⟨rfl, rfl⟩]
  · rw [g _ _ (by omega) (by omega), mI_wI, if_neg (by omega), mI_wI, if_neg (by omega), mI_wI, if_neg (by omega), mI_wI, if_neg (by omega), mI_wI, if_pos ⟨rfl, rfl⟩]
  · rw [g _ _ (by omega) (by omega), mI_wI, if_neg (by omega), mI_wI, if_neg (by omega), mI_wI, if_neg (by omega), mI_wI, if_pos ⟨rfl, rfl⟩]
  · rw [g _ _ (by omega) (by omega), mI_wI, if_neg (by omega), mI_wI, if_neg (by omega), mI_wI, if_pos ⟨rfl, rfl⟩]
  · rw [g _ _ (by omega) (by omega), mI_wI, if_neg (by omega), mI_wI, if_pos ⟨rfl, rfl⟩]
  · rw [g _ _ (by omega) (by omega), mI_wI, if_pos ⟨rfl, rfl⟩]
  · rw [b4 _ _ (by omega)]
    exact a5 j (by rw [m6]; exact hj)
end
