def RunR (z : Zt) (M : Mm) : Prop := (mm_I M 64 3 = -1 ∧ mm_I M 66 17 = -1) ∨ ∃ (n : Nat) (tr : Nat → Nat), n ≤ 200 ∧ mm_I M 64 3 = nI n ∧ mm_I M 66 17 = nI n ∧ mm_I M 64 4 = mm_I M 66 19 ∧ ∀ j, j ≤ n → tr j < ns z ∧ mm_I M 65 j = nI (tr j) ∧ mm_I M 81 j = nI (tr j)
def Fr0 (cg : Nat) (M : Mm) : Prop := mm_I M 57 7 = nI cg ∧ cg < 2 ^ 30 ∧ ∀ m, m < 10 → ∃ r, r ≤ cg ∧ mm_I M (7 + 5 * m) 10 = nI r
def No (cg : Nat) (M : Mm) : Prop := Fr0 cg M ∧ mm_I M 1 0 = 0 ∧ mm_I M 1 1 = 0 ∧ mm_I M 0 5 = 0 ∧ mm_I M 64 3 = -1 ∧ mm_I M 66 0 = 0 ∧ mm_I M 66 2 = 0 ∧ mm_I M 66 4 = 0 ∧ mm_I M 66 17 = -1
def Go (z : Zt) (w : Nat → Nat) (V : Mv) (nm cg : Nat) (M : Mm) : Prop := RC z w V nm cg M ∧ RB z w V nm M ∧ CaM z w V nm M ∧ RunR z M
def Inv (cg : Nat) (M : Mm) : Prop := Shp M ∧ (No cg M ∨ ∃ z w V nm, Go z w V nm cg M)
def ok (n : Nat) (a : Int32) : Prop := ∃ j, j < n ∧ a = nI j
section
variable {M M' M'' : Mm} {z : Zt} {w : Nat → Nat} {V : Mv} {n nm cg : Nat} {a lo hi : Int32}
theorem nok (hn : n < 2 ^ 31) (h : ¬ ok n a) : a < 0 ∨ nI n ≤ a := by
  rcases pk_ix a hn with q | q | q
  · exact Or.inl q
  · exact Or.inr q
  · exact absurd q h
theorem pH0 (h : Shp M) (e : mm_I M 1 1 = 0) : f_X6_hasModel 0 M = some 0 := by
  unfold f_X6_hasModel
  rw [G_0_0 h, Option.bind_some, G_1_1 h, Option.bind_some, e, if_pos (by decide)]
theorem pH1 (h : Shp M) (hg : GeoC z M) : f_X6_hasModel 0 M = some 1 := by
  have hn := (gz_1 z hg.1)
  unfold f_X6_hasModel
  rw [G_0_0 h, Option.bind_some, G_1_1 h, Option.bind_some, hg.2.2.1, if_neg (nI_nle (by omega) (by omega))]
theorem p_isS0 (h : Shp M) (hg : GeoC z M) (q : ¬ ok (ns z) a) : f_X3_isState 1 a M = some 0 := by
  have hn := (gz_1 z hg.1)
  unfold f_X3_isState
  by_cases c : a < 0
  · rw [if_pos c]
  · rw [if_neg c, G_1_1 h, Option.bind_some, hg.2.2.1, if_pos ((nok (by omega) q).resolve_left c)]
theorem p_isP0 (h : Shp M) (hg : GeoC z M) (q : ¬ ok (np z) a) : f_X3_isPlace 1 a M = some 0 := by
  have hn := (gz_1 z hg.1)
  unfold f_X3_isPlace
  by_cases c : a < 0
  · rw [if_pos c]
  · rw [if_neg c, G_1_0 h, Option.bind_some, hg.2.1, if_pos ((nok (by omega) q).resolve_left c)]
theorem p_isM0 (h : Shp M) (e : mm_I M 0 5 = nI nm) (hn : nm ≤ 10) (q : ¬ ok nm a) : f_X6_isMove 0 a M = some 0 := by
  unfold f_X6_isMove
  by_cases c : a < 0
  · rw [if_pos c]
  · rw [if_neg c, G_0_5 h, Option.bind_some, e, if_pos ((nok (by omega) q).resolve_left c)]
theorem p_isM1 {m : Nat} (h : Shp M) (e : mm_I M 0 5 = nI nm) (hn : nm ≤ 10) (hm : m < nm) : f_X6_isMove 0 (nI m) M = some 1 := by
  unfold f_X6_isMove
  rw [if_neg (nI_pos (by omega)), G_0_5 h, Option.bind_some, e, if_neg (nI_ge hm (by omega))]
theorem m_isI (c1 : ¬ a < lo) (c2 : a ≤ hi) : f_X7_isIn a lo hi = some 1 := by
  unfold f_X7_isIn
  rw [if_neg c1, if_neg (Int32.not_lt.mpr c2)]
theorem m_isI0 (c : a < lo ∨ ¬ a ≤ hi) : f_X7_isIn a lo hi = some 0 := by
  unfold f_X7_isIn
  by_cases c1 : a < lo
  · rw [if_pos c1]
  · rw [if_neg c1, if_pos (Int32.not_le.mp (c.resolve_left c1))]
theorem i_prl (hn : n < 2 ^ 31) (h1 : nI n ≤ a) : ¬ a ≤ nI n - 1 := by
  rw [Int32.le_iff_toInt_le] at h1
  rw [Int32.le_iff_toInt_le, Int32.toInt_sub, nI_toInt hn]
  rw [nI_toInt hn] at h1
  have e1 : (1 : Int32).toInt = 1 := rfl
  rw [e1, Int.bmod_def]
  have l := Int32.toInt_lt a
  split <;> omega
theorem m_in0 (hn : n < 2 ^ 31) (q : ¬ ok n a) : f_X7_isIn a 0 (nI n - 1) = some 0 := by
  apply m_isI0
  by_cases c : a < 0
  · exact Or.inl c
  · exact Or.inr (i_prl hn ((nok hn q).resolve_left c))
theorem m_isS0 (h : Shp M) (hg : GeoM z M) (q : ¬ ok (ns z) a) : f_X7_isState 66 a M = some 0 := by
  have hn := (gz_1 z hg.1)
  unfold f_X7_isState
  rw [G_66_2 h, Option.bind_some, hg.2.2.1, m_in0 (by omega) q, Option.bind_some, rz_0, Option.bind_some]
theorem m_isP0 (h : Shp M) (hg : GeoM z M) (q : ¬ ok (np z) a) : f_X7_isPlace 66 a M = some 0 := by
  have hn := (gz_1 z hg.1)
  unfold f_X7_isPlace
  rw [G_66_0 h, Option.bind_some, hg.2.1, m_in0 (by omega) q, Option.bind_some, rz_0, Option.bind_some]
theorem m_isM0 (h : Shp M) (e : mm_I M 66 4 = nI nm) (hn : nm ≤ 10) (q : ¬ ok nm a) : f_X7_isMove 66 a M = some 0 := by
  unfold f_X7_isMove
  rw [G_66_4 h, Option.bind_some, e, m_in0 (by omega) q, Option.bind_some, rz_0, Option.bind_some]
theorem m_isM1 {m : Nat} (h : Shp M) (e : mm_I M 66 4 = nI nm) (hn : nm ≤ 10) (hm : m < nm) : f_X7_isMove 66 (nI m) M = some 1 := by
  obtain ⟨k, rfl⟩ : ∃ k, nm = k + 1 := ⟨nm - 1, by omega⟩
  unfold f_X7_isMove
  rw [G_66_4 h, Option.bind_some, e, nI_pred, show (0 : Int32) = nI 0 from rfl, m_isIn (by omega) (by omega) (by omega), Option.bind_some, rz_1, Option.bind_some]
theorem ns_n0 (hg : GeoM z M) : ¬ mm_I M 66 2 = 0 := by
  have hn := (gz_1 z hg.1)
  rw [hg.2.2.1]
  exact nI_ne0 (by omega) (by omega)
end
section
variable {M M' M'' : Mm} {z : Zt} {w : Nat → Nat} {V : Mv} {n nm cg : Nat} {a b c d : Int32}
theorem i10 : ((1 : Int32) = 0) = False := eq_false (by decide)
theorem s_value (I : Inv cg M) : ∃ A, f_X6_value 0 a b M = some A ∧ f_X7_value 66 a b M = some A := by
  obtain ⟨h, I⟩ := I
  unfold f_X6_value f_X7_value
  rcases I with I | ⟨z, w, V, nm, C, B, -⟩
  · simp only [I_0 h, G_66_2 h, pH0 h I.2.2.1, I.2.2.2.2.2.2.1, Option.bind_some, ↓reduceIte]
    exact ⟨_, rfl, rfl⟩
  · have hg := C.1
    have gm := B.1
    by_cases q : ok (ns z) a
    · obtain ⟨s, hs, rfl⟩ := q
      have hs16 := gz_n hg.1 hs
      by_cases q : ok (np z) b
      · obtain ⟨p, hp, rfl⟩ := q
        simp only [I_0 h, G_66_2 h, pH1 h hg, ns_n0 gm, G_0_0 h, I_1 h, I_66 h, p_isState h hg hs, m_isState h gm hs, p_isPlace h hg hp, m_isPlace h gm hp, p_valueAt h hg hs16 (gz_p hg.1 hp), m_valueOf h gm hs16 hp, i10, Option.bind_some, ↓reduceIte]
        exact ⟨_, rfl, rfl⟩
      · simp only [I_0 h, G_66_2 h, pH1 h hg, ns_n0 gm, G_0_0 h, I_1 h, I_66 h, p_isState h hg hs, m_isState h gm hs, p_isP0 h hg q, m_isP0 h gm q, i10, Option.bind_some, ↓reduceIte]
        exact ⟨_, rfl, rfl⟩
    · simp only [I_0 h, G_66_2 h, pH1 h hg, ns_n0 gm, G_0_0 h, I_1 h, I_66 h, p_isS0 h hg q, m_isS0 h gm q, i10, Option.bind_some, ↓reduceIte]
      exact ⟨_, rfl, rfl⟩
theorem s_count (I : Inv cg M) : ∃ A, f_X6_count 0 a M = some A ∧ f_X7_count 66 a M = some A := by
  obtain ⟨h, I⟩ := I
  have e : mm_I M 1 0 = mm_I M 66 0 ∧ mm_I M 1 1 = mm_I M 66 2 ∧ mm_I M 0 5 = mm_I M 66 4 ∧ mm_I M 64 3 = mm_I M 66 17 := by
    rcases I with I | ⟨z, w, V, nm, C, B, -, R⟩
    · obtain ⟨-, a1, a2, a3, a4, a5, a6, a7, a8⟩ := I
      rw [a1, a2, a3, a4, a5, a6, a7, a8]
      exact ⟨rfl, rfl, rfl, rfl⟩
    · refine ⟨C.1.2.1.trans B.1.2.1.symm, C.1.2.2.1.trans B.1.2.2.1.symm, C.2.2.2.2.1.1.trans B.2.2.2.2.1.symm, ?_⟩
      rcases R with R | ⟨n, tr, -, r1, r2, -⟩
      · exact R.1.trans R.2.symm
      · exact r1.trans r2.symm
  obtain ⟨e1, e2, e3, e4⟩ := e
  unfold f_X6_count f_X7_count
  by_cases q0 : a = 0
  · rw [if_pos q0, if_pos q0, G_0_0 h, Option.bind_some, G_1_0 h, Option.bind_some, G_66_0 h, Option.bind_some, e1]
    exact ⟨_, rfl, rfl⟩
  · rw [if_neg q0, if_neg q0]
    by_cases q1 : a = 1
    · rw [if_pos q1, if_pos q1, G_0_0 h, Option.bind_some, G_1_1 h, Option.bind_some, G_66_2 h, Option.bind_some, e2]
      exact ⟨_, rfl, rfl⟩
    · rw [if_neg q1, if_neg q1]
      by_cases q2 : a = 2
      · rw [if_pos q2, if_pos q2, G_0_5 h, Option.bind_some, G_66_4 h, Option.bind_some, e3]
        exact ⟨_, rfl, rfl⟩
      · rw [if_neg q2, if_neg q2]
        by_cases q3 : a = 3
        · rw [if_pos q3, if_pos q3, G_0_4 h, Option.bind_some, G_64_3 h, Option.bind_some, G_66_17 h, Option.bind_some, e4]
          exact ⟨_, rfl, rfl⟩
        · rw [if_neg q3, if_neg q3]
          exact ⟨_, rfl, rfl⟩
theorem p_th0 (h : Shp M) (e : mm_I M 64 3 = -1) : f_X5_isThere 64 M = some 0 := by
  unfold f_X5_isThere
  rw [G_64_3 h, Option.bind_some, e, if_pos rfl]
theorem nI_m1 (hn : n < 2 ^ 31) : ¬ nI n = -1 := fun e => nI_pos hn (by rw [e]; decide)
theorem p_th1 (h : Shp M) (hn : n ≤ 200) (e : mm_I M 64 3 = nI n) : f_X5_isThere 64 M = some 1 := by
  unfold f_X5_isThere
  rw [G_64_3 h, Option.bind_some, e, if_neg (nI_m1 (by omega))]
theorem Inv.ru (I : No cg M ∨ ∃ z w V nm, Go z w V nm cg M) : (mm_I M 64 3 = -1 ∧ mm_I M 66 17 = -1) ∨ ∃ (z : Zt) (n : Nat) (tr : Nat → Nat), GeoC z M ∧ GeoM z M ∧ n ≤ 200 ∧ mm_I M 64 3 = nI n ∧ mm_I M 66 17 = nI n ∧ mm_I M 64 4 = mm_I M 66 19 ∧ ∀ j, j ≤ n → tr j < ns z ∧ mm_I M 65 j = nI (tr j) ∧ mm_I M 81 j = nI (tr j) := by
  rcases I with I | ⟨z, w, V, nm, C, B, -, R⟩
  · exact Or.inl ⟨I.2.2.2.2.1, I.2.2.2.2.2.2.2.2⟩
  · rcases R with R | ⟨n, tr, R⟩
    · exact Or.inl R
    · exact Or.inr ⟨z, n, tr, C.1, B.1, R⟩
theorem le0m : ((0 : Int32) ≤ -1) = False := eq_false (by decide)
theorem s_trace (I : Inv cg M) : ∃ A, f_X6_trace 0 a M = some A ∧ f_X7_trace 66 a M = some A := by
  obtain ⟨h, I⟩ := I
  unfold f_X6_trace f_X7_trace
  rcases Inv.ru I with ⟨e1, e2⟩ | ⟨z, n, tr, hg, gm, hn, r1, r2, r3, r4⟩
  · simp only [G_0_4 h, I_64 h, G_66_17 h, p_th0 h e1, e2, le0m, Option.bind_some, ↓reduceIte]
    exact ⟨_, rfl, rfl⟩
  · have p0 : (0 : Int32) ≤ nI n := nI_pos' (by omega)
    by_cases c1 : a < 0
    · simp only [G_0_4 h, I_64 h, G_66_17 h, p_th1 h hn r1, r2, p0, c1, m_isI0 (hi := nI n) (Or.inl c1), i10, Option.bind_some, ↓reduceIte]
      exact ⟨_, rfl, rfl⟩
    · by_cases c2 : a ≤ nI n
      · obtain ⟨j, hj, rfl⟩ := nI_of2 (nI_toInt (show n < 2 ^ 31 by omega)) c1 c2
        simp only [G_0_4 h, I_64 h, G_66_17 h, p_th1 h hn r1, r2, p0, c1, G_64_3 h, r1, c2, m_isI c1 c2, G_64_2 h, A_65 h (show j < 201 by omega), G_66_18 h, A_81 h (show j < 201 by omega), (r4 j hj).2.1, (r4 j hj).2.2, i10, Option.bind_some, ↓reduceIte]
        exact ⟨_, rfl, rfl⟩
      · simp only [G_0_4 h, I_64 h, G_66_17 h, p_th1 h hn r1, r2, p0, c1, G_64_3 h, r1, c2, m_isI0 (lo := 0) (Or.inr c2), i10, Option.bind_some, ↓reduceIte]
        exact ⟨_, rfl, rfl⟩
theorem s_refused (I : Inv cg M) : ∃ A, f_X6_refused 0 M = some A ∧ f_X7_refused 66 M = some A := by
  obtain ⟨h, I⟩ := I
  unfold f_X6_refused f_X7_refused
  rcases Inv.ru I with ⟨e1, e2⟩ | ⟨z, n, tr, hg, gm, hn, r1, r2, r3, r4⟩
  · simp only [G_0_4 h, I_64 h, G_66_17 h, p_th0 h e1, e2, le0m, Option.bind_some, ↓reduceIte]
    exact ⟨_, rfl, rfl⟩
  · have p0 : (0 : Int32) ≤ nI n := nI_pos' (by omega)
    simp only [G_0_4 h, I_64 h, G_66_17 h, p_th1 h hn r1, r2, p0, G_64_4 h, G_66_19 h, r3, i10, Option.bind_some, ↓reduceIte]
    exact ⟨_, rfl, rfl⟩
theorem s_vis_l (h : Shp M) (hn : n ≤ 200) {tr : Nat → Nat} (r1 : mm_I M 64 3 = nI n) (r2 : mm_I M 66 17 = nI n) (r4 : ∀ j, j ≤ n → mm_I M 65 j = nI (tr j) ∧ mm_I M 81 j = nI (tr j)) : ∀ (k i : Nat) (v : Int32), i ≤ n + 1 → n + 1 - i < k → ∃ A, lp_X5_timesIn_4 64 a M k v (nI i) = some A ∧ lp_X7_visits_24 66 a M k v (nI i) = some A
  | 0, i, v, _, h2 => absurd h2 (by omega)
  | k + 1, i, v, h1, h2 => by
    simp only [lp_X5_timesIn_4, lp_X7_visits_24, G_64_3 h, G_66_17 h, Option.bind_some, r1, r2]
    by_cases e : i = n + 1
    · have q : nI n < nI i := nI_lt (by omega) (by omega)
      simp only [q, ↓reduceIte]
      exact ⟨_, rfl, rfl⟩
    · have q : ¬ nI n < nI i := nI_nlt (by omega) (by omega)
      simp only [q, ↓reduceIte, G_64_2 h, A_65 h (show i < 201 by omega), G_66_18 h, A_81 h (show i < 201 by omega), (r4 i (show i ≤ n by omega)).1, (r4 i (show i ≤ n by omega)).2, nI_1, Option.bind_some]
      exact s_vis_l h hn r1 r2 r4 k (i + 1) _ (by omega) (by omega)
theorem s_visits (I : Inv cg M) : ∃ A, f_X6_visits 0 a M = some A ∧ f_X7_visits 66 a M = some A := by
  obtain ⟨h, I⟩ := I
  unfold f_X6_visits f_X7_visits f_X5_timesIn
  rcases Inv.ru I with ⟨e1, e2⟩ | ⟨z, n, tr, hg, gm, hn, r1, r2, r3, r4⟩
  · simp only [G_0_4 h, I_64 h, G_66_17 h, p_th0 h e1, e2, le0m, Option.bind_some, ↓reduceIte]
    exact ⟨_, rfl, rfl⟩
  · have p0 : (0 : Int32) ≤ nI n := nI_pos' (by omega)
    by_cases q : ok (ns z) a
    · obtain ⟨s, hs, rfl⟩ := q
      obtain ⟨A, a1, a2⟩ := s_vis_l (a := nI s) h hn r1 r2 (fun j hj => (r4 j hj).2) FU 0 0 (by omega) (by unfold FU; omega)
      rw [show nI 0 = (0 : Int32) from rfl] at a1 a2
      simp only [G_0_4 h, I_64 h, G_66_17 h, p_th1 h hn r1, r2, p0, G_0_0 h, I_1 h, I_66 h, p_isState h hg hs, m_isState h gm hs, a1, a2, i10, Option.bind_some, ↓reduceIte]
      exact ⟨A, rfl, rfl⟩
    · simp only [G_0_4 h, I_64 h, G_66_17 h, p_th1 h hn r1, r2, p0, G_0_0 h, I_1 h, I_66 h, p_isS0 h hg q, m_isS0 h gm q, i10, Option.bind_some, ↓reduceIte]
      exact ⟨_, rfl, rfl⟩
theorem s_tog_l (h : Shp M) (hg : GeoC z M) (gm : GeoM z M) (hn : n ≤ 200) {tr : Nat → Nat} (r1 : mm_I M 64 3 = nI n) (r2 : mm_I M 66 17 = nI n) (r4 : ∀ j, j ≤ n → tr j < ns z ∧ mm_I M 65 j = nI (tr j) ∧ mm_I M 81 j = nI (tr j)) {p l : Nat} (hp : p < np z) (hl : l ≤ n) (K : Int64 → Int64 → Int64 → Option Int64) (K' : Int64 → Int64 → Int64 → Int64 → Option Int64) (i3 : Int64) (hK : ∀ u v y, ∃ A, K u v y = some A ∧ K' (lN (n + 1 - l)) u v y = some A) : ∀ (k i : Nat) (u v y : Int64), i + l ≤ n + 1 → n + 1 - l - i < k → ∃ A, lp_X5_covary_22 K 64 (nI p) (nI l) i3 M k u v y (nI i) = some A ∧ lp_X7_together_49 K' 66 (nI p) (nI l) M k (lN i) u v y (nI i) = some A
  | 0, i, u, v, y, _, h2 => absurd h2 (by omega)
  | k + 1, i, u, v, y, h1, h2 => by
    simp only [lp_X5_covary_22, lp_X7_together_49, G_64_3 h, G_66_17 h, Option.bind_some, r1, r2, nI_add]
    by_cases e : i + l = n + 1
    · have q : nI n < nI (i + l) := nI_lt (by omega) (by omega)
      simp only [q, ↓reduceIte]
      rw [show i = n + 1 - l by omega]
      exact hK u v y
    · have s1 := gz_n hg.1 (r4 i (by omega)).1
      have s2 := gz_n hg.1 (r4 (i + l) (by omega)).1
      have hp4 := gz_p hg.1 hp
      have q : ¬ nI n < nI (i + l) := nI_nlt (by omega) (by omega)
      simp only [q, ↓reduceIte, G_64_0 h, G_64_2 h, A_65 h (show i < 201 by omega), I_1 h, (r4 i (show i ≤ n by omega)).2.1, p_valueAt h hg s1 hp4, A_65 h (show i + l < 201 by omega), (r4 (i + l) (show i + l ≤ n by omega)).2.1, p_valueAt h hg s2 hp4, G_66_18 h, A_81 h (show i < 201 by omega), I_66 h, (r4 i (show i ≤ n by omega)).2.2, m_valueOf h gm s1 hp, A_81 h (show i + l < 201 by omega), (r4 (i + l) (show i + l ≤ n by omega)).2.2, m_valueOf h gm s2 hp, nI_1, lN_1, Option.bind_some]
      exact s_tog_l h hg gm hn r1 r2 r4 hp hl K K' i3 hK k (i + 1) _ _ _ (by omega) (by omega)
theorem s_together (I : Inv cg M) : ∃ A, f_X6_together 0 a b M = some A ∧ f_X7_together 66 a b M = some A := by
  obtain ⟨h, I⟩ := I
  unfold f_X6_together f_X7_together f_X5_covary
  rcases Inv.ru I with ⟨e1, e2⟩ | ⟨z, n, tr, hg, gm, hn, r1, r2, r3, r4⟩
  · simp only [G_0_4 h, I_64 h, G_66_17 h, p_th0 h e1, e2, le0m, Option.bind_some, ↓reduceIte]
    exact ⟨_, rfl, rfl⟩
  · have p0 : (0 : Int32) ≤ nI n := nI_pos' (by omega)
    by_cases q : ok (np z) a
    · obtain ⟨p, hp, rfl⟩ := q
      by_cases c1 : b < 0
      · simp only [G_0_4 h, I_64 h, G_66_17 h, p_th1 h hn r1, r2, p0, G_0_0 h, I_1 h, I_66 h, p_isPlace h hg hp, m_isPlace h gm hp, c1, m_isI0 (hi := nI n) (Or.inl c1), i10, Option.bind_some, ↓reduceIte]
        exact ⟨_, rfl, rfl⟩
      · by_cases c2 : b ≤ nI n
        · obtain ⟨l, hl, rfl⟩ := nI_of2 (nI_toInt (show n < 2 ^ 31 by omega)) c1 c2
          have e0 : ((nI n + (1 : Int32)) - nI l).toInt64 = lN (n + 1 - l) := by
            rw [nI_1]
            have : nI (n + 1) = nI (n + 1 - l) + nI l := by rw [nI_add, Nat.sub_add_cancel (by omega)]
            rw [this, Int32.add_sub_cancel, nI_l (by omega)]
          obtain ⟨A, a1, a2⟩ := s_tog_l h hg gm hn r1 r2 r4 hp hl (fun (l_13_5 : Int64) (l_13_7 : Int64) (l_13_9 : Int64) => some ((lN (n + 1 - l) * l_13_5) - (l_13_7 * l_13_9))) (fun (l_17_3 : Int64) (l_17_5 : Int64) (l_17_7 : Int64) (l_17_9 : Int64) => some ((l_17_3 * l_17_5) - (l_17_7 * l_17_9))) (lN (n + 1 - l)) (fun _ _ _ => ⟨_, rfl, rfl⟩) FU 0 0 0 0 (by omega) (by unfold FU; omega)
          rw [show nI 0 = (0 : Int32) from rfl] at a1 a2
          rw [show lN 0 = (0 : Int64) from rfl] at a2
          simp only [G_0_4 h, I_64 h, G_66_17 h, p_th1 h hn r1, r2, p0, G_0_0 h, I_1 h, I_66 h, p_isPlace h hg hp, m_isPlace h gm hp, c1, c2, G_64_3 h, r1, m_isI c1 c2, e0, a1, a2, i10, Option.bind_some, ↓reduceIte]
          exact ⟨A, rfl, rfl⟩
        · simp only [G_0_4 h, I_64 h, G_66_17 h, p_th1 h hn r1, r2, p0, G_0_0 h, I_1 h, I_66 h, p_isPlace h hg hp, m_isPlace h gm hp, c1, c2, G_64_3 h, r1, m_isI0 (lo := 0) (Or.inr c2), i10, Option.bind_some, ↓reduceIte]
          exact ⟨_, rfl, rfl⟩
    · simp only [G_0_4 h, I_64 h, G_66_17 h, p_th1 h hn r1, r2, p0, G_0_0 h, I_1 h, I_66 h, p_isP0 h hg q, m_isP0 h gm q, i10, Option.bind_some, ↓reduceIte]
      exact ⟨_, rfl, rfl⟩
end
