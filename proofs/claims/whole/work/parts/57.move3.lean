section
variable {M M' M'' : Mm} {z : Zt} {w : Nat → Nat} {V V' : Mv} {n nm cg m s t k : Nat} {a b c d : Int32}
theorem m_dep (K : Int32 → Option (Int32 × Mm)) (h : Shp M) (hr : MvM V nm M) (hn : nm ≤ 10) (hk : k ≤ 6) {i j : Nat} (ho : ∀ m, m < nm → vD V m ≤ 2) (hi : 5 ≤ k → i < nm ∧ a = nI i) (hj : 5 ≤ k → j < nm ∧ b = nI j) : op_jn K (fun j_32 => if (5 : Int32) ≤ nI k then (op_gR M 7 66 8).bind fun x_34 => (op_aI M x_34 a).bind fun x_35 => (op_gR M 7 66 8).bind fun x_36 => (op_aI M x_36 b).bind fun x_37 => op_jn (fun (x_38_0 : Int32) => j_32 ((1 : Int32) + x_38_0)) fun j_38 => if x_35 ≤ x_37 then (op_gR M 7 66 8).bind fun x_40 => (op_aI M x_40 b).bind fun x_41 => j_38 x_41 else (op_gR M 7 66 8).bind fun x_42 => (op_aI M x_42 a).bind fun x_43 => j_38 x_43 else j_32 (0 : Int32)) = K (nI (nDp V k i j)) := by
  unfold nDp
  simp only [op_jn]
  by_cases k5 : 5 ≤ k
  · obtain ⟨hi, ea⟩ := hi k5
    obtain ⟨hj, eb⟩ := hj k5
    rw [ea, eb]
    have q5 : (5 : Int32) ≤ nI k := nI_le (a := 5) k5 (by omega)
    have o1 := ho i hi
    have o2 := ho j hj
    have di := (hr.2 i hi).2.2.2.2.2.1
    have dj := (hr.2 j hj).2.2.2.2.2.1
    by_cases q : vD V i ≤ vD V j
    · have q' : nI (vD V i) ≤ nI (vD V j) := nI_le q (by omega)
      have em : (1 : Int32) + nI (vD V j) = nI (1 + max (vD V i) (vD V j)) := by rw [Nat.max_eq_right q]; exact nI_add 1 _
      simp only [q5, G_66_8 h, A_72 h (show i < 10 by omega), A_72 h (show j < 10 by omega), di, dj, q', em, k5, Option.bind_some, ↓reduceIte]
    · have q' : ¬ nI (vD V i) ≤ nI (vD V j) := nI_ge (by omega) (by omega)
      have em : (1 : Int32) + nI (vD V i) = nI (1 + max (vD V i) (vD V j)) := by rw [Nat.max_eq_left (by omega)]; exact nI_add 1 _
      simp only [q5, G_66_8 h, A_72 h (show i < 10 by omega), A_72 h (show j < 10 by omega), di, dj, q', em, k5, Option.bind_some, ↓reduceIte]
  · have q5 : ¬ (5 : Int32) ≤ nI k := nI_ge (b := 5) (by omega) (by omega)
    simp only [q5, k5, ↓reduceIte]
    rfl
theorem nOk_get (o : nOk z nm k a b) : ∃ A B, (k ≠ 3 → a = nI A) ∧ (k = 2 ∨ 5 ≤ k → b = nI B) ∧ (k < 5 → k ≠ 3 → A < np z) ∧ (k = 2 → B < np z ∧ A ≠ B ∧ zs z A = zs z B) ∧ (5 ≤ k → A < nm ∧ B < nm) := by
  obtain ⟨o0, o1, o2, o3⟩ := o
  by_cases k1 : k = 0 ∨ k = 1 ∨ k = 4
  · obtain ⟨i, hi, e⟩ := o1 k1
    exact ⟨i, 0, fun _ => e, fun q => by omega, fun _ _ => hi, fun q => by omega, fun q => by omega⟩
  · by_cases k2 : k = 2
    · obtain ⟨i, j, h1, h2, h3, h4, h5, h6⟩ := o2 k2
      exact ⟨i, j, fun _ => h5, fun _ => h6, fun _ _ => h1, fun _ => ⟨h2, h3, h4⟩, fun q => by omega⟩
    · by_cases k3 : k = 3
      · exact ⟨0, 0, fun q => absurd k3 q, fun q => by omega, fun _ q => absurd k3 q, fun q => absurd q k2, fun q => by omega⟩
      · obtain ⟨⟨i, hi, e1⟩, ⟨j, hj, e2⟩⟩ := o3 (by omega)
        exact ⟨i, j, fun _ => e1, fun _ => e2, fun q => by omega, fun q => by omega, fun _ => ⟨hi, hj⟩⟩
def aV (V : Mv) (nm k A B dp : Nat) : Mv := ((fun j => if j = nm then k else vK V j), (fun j => if j = nm then A else vA V j), (fun j => if j = nm then B else vB V j), (fun j => if j = nm then 1 else vP V j), (fun j => if j = nm then 1 else vQ V j), (fun j => if j = nm then dp else vD V j), (fun j => if j = nm then (fun _ _ => 0) else vT V j))
theorem aV_o {A B dp j : Nat} (h : j ≠ nm) : vK (aV V nm k A B dp) j = vK V j ∧ vA (aV V nm k A B dp) j = vA V j ∧ vB (aV V nm k A B dp) j = vB V j ∧ vP (aV V nm k A B dp) j = vP V j ∧ vQ (aV V nm k A B dp) j = vQ V j ∧ vD (aV V nm k A B dp) j = vD V j ∧ vT (aV V nm k A B dp) j = vT V j := ⟨if_neg h, if_neg h, if_neg h, if_neg h, if_neg h, if_neg h, if_neg h⟩
theorem aV_n {A B dp : Nat} : vK (aV V nm k A B dp) nm = k ∧ vA (aV V nm k A B dp) nm = A ∧ vB (aV V nm k A B dp) nm = B ∧ vP (aV V nm k A B dp) nm = 1 ∧ vQ (aV V nm k A B dp) nm = 1 ∧ vD (aV V nm k A B dp) nm = dp ∧ vT (aV V nm k A B dp) nm = (fun _ _ => 0) := ⟨if_pos rfl, if_pos rfl, if_pos rfl, if_pos rfl, if_pos rfl, if_pos rfl, if_pos rfl⟩
theorem aV_ag {A B dp : Nat} : Vag nm V (aV V nm k A B dp) := fun j hj => aV_o (by omega)
theorem aV_ok {A B dp : Nat} (ho : okV z V nm) (hk : k ≤ 6) (h1 : k < 5 → k ≠ 3 → A < np z) (h2 : k = 2 → B < np z ∧ A ≠ B ∧ zs z A = zs z B) (h3 : 5 ≤ k → A < nm ∧ B < nm) (hd : dp = nDp V k A B) (hd2 : dp ≤ 2) : okV z (aV V nm k A B dp) (nm + 1) := fun m hm => by
  by_cases e : m = nm
  · subst e
    obtain ⟨n1, n2, n3, n4, n5, n6, n7⟩ := aV_n (V := V) (nm := m) (k := k) (A := A) (B := B) (dp := dp)
    rw [n1, n2, n3, n4, n5, n6, n7]
    unfold nDp at hd
    refine ⟨hk, fun q => ⟨by rw [if_neg (by omega)] at hd; exact hd, fun q3 => h1 q q3, fun q2 => h2 q2⟩, fun q => ?_, hd2, ⟨by omega, by omega, by omega, by omega⟩, fun s t => Nat.zero_le _⟩
    obtain ⟨a1, a2⟩ := h3 q
    rw [if_pos q] at hd
    rw [(aV_o (V := V) (nm := m) (k := k) (A := A) (B := B) (dp := dp) (show A ≠ m by omega)).2.2.2.2.2.1, (aV_o (V := V) (nm := m) (k := k) (A := A) (B := B) (dp := dp) (show B ≠ m by omega)).2.2.2.2.2.1]
    exact ⟨a1, a2, hd⟩
  · obtain ⟨n1, n2, n3, n4, n5, n6, n7⟩ := aV_o (V := V) (nm := nm) (k := k) (A := A) (B := B) (dp := dp) e
    obtain ⟨o1, o2, o3, o4, o5, o6⟩ := ho m (by omega)
    rw [n1, n2, n3, n4, n5, n6, n7]
    refine ⟨o1, o2, fun q => ?_, o4, o5, o6⟩
    obtain ⟨r1, r2, r3⟩ := o3 q
    rw [(aV_o (V := V) (nm := nm) (k := k) (A := A) (B := B) (dp := dp) (show vA V m ≠ nm by omega)).2.2.2.2.2.1, (aV_o (V := V) (nm := nm) (k := k) (A := A) (B := B) (dp := dp) (show vB V m ≠ nm by omega)).2.2.2.2.2.1]
    exact ⟨r1, r2, r3⟩
theorem sm_0 : ∀ n, sm (fun _ => 0) n = 0
  | 0 => rfl
  | n + 1 => by show sm (fun _ => 0) n + 0 = 0; rw [sm_0 n]
theorem s_move (I : Inv cg M) : Agr cg (f_X6_move 0 c a b M) (f_X7_move 66 c a b) := by
  obtain ⟨h, J⟩ := id I
  rcases J with J | ⟨z, w, V, nm, C, B, ca, R⟩
  · refine Agr.no (A := -2) I ?_ ?_
    · unfold f_X6_move
      simp only [I_0 h, pH0 h J.2.2.1, Option.bind_some, ↓reduceIte]
    · unfold f_X7_move
      simp only [G_66_2 h, J.2.2.2.2.2.2.1, Option.bind_some, ↓reduceIte]
  · have hg := C.1
    have gm := B.1
    have hn := B.2.2.2.1
    have ho := B.2.2.1
    have ho2 : ∀ m, m < nm → vD V m ≤ 2 := fun m hm => (ho m hm).2.2.2.1
    by_cases q : ok 7 c
    · obtain ⟨k, hk, rfl⟩ := q
      have isI : f_X7_isIn (nI k) 0 6 = some 1 := m_isI (nI_pos (by omega)) (nI_le (b := 6) (by omega) (by omega))
      by_cases o : nOk z nm k a b
      · obtain ⟨A, Bb, g1, g2, g3, g4, g5⟩ := nOk_get o
        have pc := (p_canName (a := a) (b := b) h hg C.2.2.2.2.1.1 hn (show k ≤ 6 by omega)).1 o
        have pd := p_dep (a := a) (b := b) (k := k) (i := A) (j := Bb) h C.2.2.2.2.1 hn (by omega) ho2 (fun q => ⟨(g5 q).1, g1 (by omega)⟩) (fun q => ⟨(g5 q).2, g2 (by omega)⟩)
        have key1 : ∀ (N : Mm), Shp N → RB z w V nm N → ∀ K : Int32 → Option (Int32 × Mm), op_jn K (fun j_6 => if nI k = 0 then (op_is N 66 7).bind fun _ => (f_X7_isPlace 66 a N).bind fun z_8 => j_6 z_8 else if nI k = (1 : Int32) then (op_is N 66 7).bind fun _ => (f_X7_isPlace 66 a N).bind fun z_10 => j_6 z_10 else if nI k = (4 : Int32) then (op_is N 66 7).bind fun _ => (f_X7_isPlace 66 a N).bind fun z_30 => j_6 z_30 else if nI k = (2 : Int32) then (op_is N 66 7).bind fun _ => (f_X7_isPlace 66 a N).bind fun z_19 => op_jn (fun (x_20_0 : Int32) => j_6 x_20_0) fun j_20 => if z_19 = 0 then j_20 (0 : Int32) else (op_is N 66 7).bind fun _ => (f_X7_isPlace 66 b N).bind fun z_22 => if z_22 = 0 then j_20 (0 : Int32) else if a = b then j_20 (0 : Int32) else (op_gR N 7 66 1).bind fun x_25 => (op_aI N x_25 a).bind fun x_26 => (op_gR N 7 66 1).bind fun x_27 => (op_aI N x_27 b).bind fun x_28 => if x_26 = x_28 then j_20 (1 : Int32) else j_20 (0 : Int32) else if nI k < (5 : Int32) then j_6 (if nI k = (3 : Int32) then (1 : Int32) else (0 : Int32)) else (op_is N 66 7).bind fun _ => (f_X7_isMove 66 a N).bind fun z_14 => op_jn (fun (x_15_0 : Int32) => j_6 x_15_0) fun j_15 => if z_14 = 0 then j_15 (0 : Int32) else (op_is N 66 7).bind fun _ => (f_X7_isMove 66 b N).bind fun z_17 => if z_17 = 0 then j_15 (0 : Int32) else j_15 (1 : Int32)) = K 1 := fun N hN rN K => (m_name K hN rN.1 rN.2.2.2.2.1 hn (show k ≤ 6 by omega)).1 o
        have key2 : ∀ (N : Mm), Shp N → RB z w V nm N → ∀ K : Int32 → Option (Int32 × Mm), op_jn K (fun j_32 => if (5 : Int32) ≤ nI k then (op_gR N 7 66 8).bind fun x_34 => (op_aI N x_34 a).bind fun x_35 => (op_gR N 7 66 8).bind fun x_36 => (op_aI N x_36 b).bind fun x_37 => op_jn (fun (x_38_0 : Int32) => j_32 ((1 : Int32) + x_38_0)) fun j_38 => if x_35 ≤ x_37 then (op_gR N 7 66 8).bind fun x_40 => (op_aI N x_40 b).bind fun x_41 => j_38 x_41 else (op_gR N 7 66 8).bind fun x_42 => (op_aI N x_42 a).bind fun x_43 => j_38 x_43 else j_32 (0 : Int32)) = K (nI (nDp V k A Bb)) := fun N hN rN K => m_dep K hN rN.2.2.2.2 hn (by omega) ho2 (fun q => ⟨(g5 q).1, g1 (by omega)⟩) (fun q => ⟨(g5 q).2, g2 (by omega)⟩)
        have pre : ∀ (N : Mm), Shp N → RB z w V nm N → f_X7_move 66 (nI k) a b N = (if nI (nDp V k A Bb) ≤ (2 : Int32) then (op_gI N 7 66 4).bind fun x_45 => if x_45 = (10 : Int32) then some ((-3 : Int32), N) else (op_gI N 7 66 4).bind fun x_47 => (op_gI N 7 66 4).bind fun x_48 => (op_pI N 7 66 4 (x_48 + (1 : Int32))).bind fun M_49 => (op_gR M_49 7 66 5).bind fun x_50 => (op_sI M_49 x_50 x_47 (nI k)).bind fun M_51 => (op_gR M_51 7 66 6).bind fun x_52 => (op_sI M_51 x_52 x_47 a).bind fun M_53 => (op_gR M_53 7 66 7).bind fun x_54 => (op_sI M_53 x_54 x_47 b).bind fun M_55 => (op_gR M_55 7 66 8).bind fun x_56 => (op_sI M_55 x_56 x_47 (nI (nDp V k A Bb))).bind fun M_57 => (op_gR M_57 7 66 9).bind fun x_58 => (op_sI M_57 x_58 x_47 (1 : Int32)).bind fun M_59 => (op_gR M_59 7 66 10).bind fun x_60 => (op_sI M_59 x_60 x_47 (1 : Int32)).bind fun M_61 => lp_X7_move_276 (fun (M_66 : Mm) => (op_gR M_66 7 66 14).bind fun x_67 => (op_sZ M_66 x_67 x_47 (0 : Int32)).bind fun M_68 => some (x_47, M_68)) 66 x_47 FU (0 : Int32) M_61 else some ((-5 : Int32), N)) := fun N hN rN => by
          unfold f_X7_move
          rw [G_66_2 hN, Option.bind_some, if_neg (ns_n0 rN.1), isI, Option.bind_some, if_neg (by decide), key1 N hN rN]
          rw [if_neg (by decide), key2 N hN rN]
        by_cases d2 : nDp V k A Bb ≤ 2
        · have d2' : nI (nDp V k A Bb) ≤ (2 : Int32) := nI_le (b := 2) d2 (by omega)
          by_cases n10 : nm = 10
          · refine Agr.no (A := -3) I ?_ ?_
            · have q10 : ¬ nI nm < (10 : Int32) := by rw [n10]; decide
              unfold f_X6_move
              simp only [I_0 h, pH1 h hg, pc, pd, d2', G_0_5 h, C.2.2.2.2.1.1, q10, i10, Option.bind_some, ↓reduceIte]
            · have q10 : nI nm = (10 : Int32) := by rw [n10]; rfl
              rw [pre M h B]
              simp only [d2', G_66_4 h, B.2.2.2.2.1, q10, Option.bind_some, ↓reduceIte]
          · have hnm : nm < 10 := by omega
            have q10 : nI nm < (10 : Int32) := nI_lt (b := 10) hnm (by omega)
            have r10 : ¬ nI nm = (10 : Int32) := fun e => by have := (nI_eq (b := 10) (by omega) (by omega)).mp e; omega
            obtain ⟨M1, a1, a2, a3, a4, t0, t1, t2, t3, t4, t5, t6, t7⟩ := p_become (a := nI k) (b := a) (c := b) (x := nI (nDp V k A Bb)) h hnm
            have e05 : mm_I M1 0 5 = nI nm := (a4 0 5 (by omega) (by omega) (by omega)).trans C.2.2.2.2.1.1
            have cx : f_X6_move 0 (nI k) a b M = some (nI nm, mm_wI M1 0 5 (nI (nm + 1))) := by
              have n5 : mm_I (mm_wI M1 0 5 (nI (nm + 1))) 0 5 = nI (nm + 1) := by rw [mI_wI, if_pos ⟨rfl, rfl⟩]
              unfold f_X6_move
              simp only [I_0 h, pH1 h hg, pc, pd, d2', G_0_5 h, C.2.2.2.2.1.1, q10, G_0_1 h, A_6 h hnm, I_m h hnm, a1, G_0_5 a2, e05, nI_1, P_0_5 a2, G_0_5 (sh_wI a2), n5, nI_pred, i10, Option.bind_some, ↓reduceIte]
            have h1 : Shp (mm_wI M1 0 5 (nI (nm + 1))) := sh_wI a2
            have f1 : ∀ q j, ¬ (q = 7 + 5 * nm ∧ j < 6) → q ≠ 8 + 5 * nm → q ≠ 9 + 5 * nm → ¬ (q = 0 ∧ j = 5) → mm_I (mm_wI M1 0 5 (nI (nm + 1))) q j = mm_I M q j := fun q j u1 u2 u3 u4 => by rw [mI_wI, if_neg u4]; exact a4 q j u1 u2 u3
            have g05 : mm_I (mm_wI M1 0 5 (nI (nm + 1))) 0 5 = nI (nm + 1) := by rw [mI_wI, if_pos ⟨rfl, rfl⟩]
            have gk : ∀ q j, 1 ≤ q → mm_I (mm_wI M1 0 5 (nI (nm + 1))) q j = mm_I M1 q j := fun q j hq => by rw [mI_wI, if_neg (by omega)]
            have hL1 : mm_L (mm_wI M1 0 5 (nI (nm + 1))) = mm_L M := a3
            generalize mm_wI M1 0 5 (nI (nm + 1)) = M2 at cx h1 f1 g05 gk hL1
            have B2 : RB z w V nm M2 := B.fr (fun x j e => f1 x j (by omega) (by omega) (by omega) (by omega))
            have x4 : mm_I M2 66 4 = nI nm := B2.2.2.2.2.1
            have sB : Shp (mm_wI (mm_wI (mm_wI (mm_wI (mm_wI (mm_wI (mm_wI M2 66 4 (nI (nm + 1))) 69 nm (nI k)) 70 nm a) 71 nm b) 72 nm (nI (nDp V k A Bb))) 73 nm 1) 74 nm 1) := sh_wI (sh_wI (sh_wI (sh_wI (sh_wI (sh_wI (sh_wI h1))))))
            have fB : ∀ q j, ¬ (q = 66 ∧ j = 4) → ¬ (69 ≤ q ∧ q ≤ 74 ∧ j = nm) → mm_I (mm_wI (mm_wI (mm_wI (mm_wI (mm_wI (mm_wI (mm_wI M2 66 4 (nI (nm + 1))) 69 nm (nI k)) 70 nm a) 71 nm b) 72 nm (nI (nDp V k A Bb))) 73 nm 1) 74 nm 1) q j = mm_I M2 q j := fun q j u1 u2 => by rw [mI_wI, if_neg (by omega), mI_wI, if_neg (by omega), mI_wI, if_neg (by omega), mI_wI, if_neg (by omega), mI_wI, if_neg (by omega), mI_wI, if_neg (by omega), mI_wI, if_neg (by omega)]
            have y4 : mm_I (mm_wI (mm_wI (mm_wI (mm_wI (mm_wI (mm_wI (mm_wI M2 66 4 (nI (nm + 1))) 69 nm (nI k)) 70 nm a) 71 nm b) 72 nm (nI (nDp V k A Bb))) 73 nm 1) 74 nm 1) 66 4 = nI (nm + 1) := by rw [mI_wI, if_neg (by omega), mI_wI, if_neg (by omega), mI_wI, if_neg (by omega), mI_wI, if_neg (by omega), mI_wI, if_neg (by omega), mI_wI, if_neg (by omega), mI_wI, if_pos ⟨rfl, rfl⟩]
            have y69 : mm_I (mm_wI (mm_wI (mm_wI (mm_wI (mm_wI (mm_wI (mm_wI M2 66 4 (nI (nm + 1))) 69 nm (nI k)) 70 nm a) 71 nm b) 72 nm (nI (nDp V k A Bb))) 73 nm 1) 74 nm 1) 69 nm = nI k := by rw [mI_wI, if_neg (by omega), mI_wI, if_neg (by omega), mI_wI, if_neg (by omega), mI_wI, if_neg (by omega), mI_wI, if_neg (by omega), mI_wI, if_pos ⟨rfl, rfl⟩]
            have y70 : mm_I (mm_wI (mm_wI (mm_wI (mm_wI (mm_wI (mm_wI (mm_wI M2 66 4 (nI (nm + 1))) 69 nm (nI k)) 70 nm a) 71 nm b) 72 nm (nI (nDp V k A Bb))) 73 nm 1) 74 nm 1) 70 nm = a := by rw [mI_wI, if_neg (by omega), mI_wI, if_neg (by omega), mI_wI, if_neg (by omega), mI_wI, if_neg (by omega), mI_wI, if_pos ⟨rfl, rfl⟩]
            have y71 : mm_I (mm_wI (mm_wI (mm_wI (mm_wI (mm_wI (mm_wI (mm_wI M2 66 4 (nI (nm + 1))) 69 nm (nI k)) 70 nm a) 71 nm b) 72 nm (nI (nDp V k A Bb))) 73 nm 1) 74 nm 1) 71 nm = b := by rw [mI_wI, if_neg (by omega), mI_wI, if_neg (by omega), mI_wI, if_neg (by omega), mI_wI, if_pos ⟨rfl, rfl⟩]
            have y72 : mm_I (mm_wI (mm_wI (mm_wI (mm_wI (mm_wI (mm_wI (mm_wI M2 66 4 (nI (nm + 1))) 69 nm (nI k)) 70 nm a) 71 nm b) 72 nm (nI (nDp V k A Bb))) 73 nm 1) 74 nm 1) 72 nm = nI (nDp V k A Bb) := by rw [mI_wI, if_neg (by omega), mI_wI, if_neg (by omega), mI_wI, if_pos ⟨rfl, rfl⟩]
            have y73 : mm_I (mm_wI (mm_wI (mm_wI (mm_wI (mm_wI (mm_wI (mm_wI M2 66 4 (nI (nm + 1))) 69 nm (nI k)) 70 nm a) 71 nm b) 72 nm (nI (nDp V k A Bb))) 73 nm 1) 74 nm 1) 73 nm = 1 := by rw [mI_wI, if_neg (by omega), mI_wI, if_pos ⟨rfl, rfl⟩]
            have y74 : mm_I (mm_wI (mm_wI (mm_wI (mm_wI (mm_wI (mm_wI (mm_wI M2 66 4 (nI (nm + 1))) 69 nm (nI k)) 70 nm a) 71 nm b) 72 nm (nI (nDp V k A Bb))) 73 nm 1) 74 nm 1) 74 nm = 1 := by rw [mI_wI, if_pos ⟨rfl, rfl⟩]
            have hLB : mm_L (mm_wI (mm_wI (mm_wI (mm_wI (mm_wI (mm_wI (mm_wI M2 66 4 (nI (nm + 1))) 69 nm (nI k)) 70 nm a) 71 nm b) 72 nm (nI (nDp V k A Bb))) 73 nm 1) 74 nm 1) = mm_L M2 := rfl
            have mx1 : f_X7_move 66 (nI k) a b M2 = lp_X7_move_276 (fun (M_66 : Mm) => (op_gR M_66 7 66 14).bind fun x_67 => (op_sZ M_66 x_67 (nI nm) (0 : Int32)).bind fun M_68 => some (nI nm, M_68)) 66 (nI nm) FU (nI 0) (mm_wI (mm_wI (mm_wI (mm_wI (mm_wI (mm_wI (mm_wI M2 66 4 (nI (nm + 1))) 69 nm (nI k)) 70 nm a) 71 nm b) 72 nm (nI (nDp V k A Bb))) 73 nm 1) 74 nm 1) := by
              rw [pre M2 h1 B2]
              simp only [d2', G_66_4 h1, x4, r10, nI_1, P_66_4 h1, G_66_5 (sh_wI h1), S_69 (sh_wI h1) hnm, G_66_6 (sh_wI (sh_wI h1)), S_70 (sh_wI (sh_wI h1)) hnm, G_66_7 (sh_wI (sh_wI (sh_wI h1))), S_71 (sh_wI (sh_wI (sh_wI h1))) hnm, G_66_8 (sh_wI (sh_wI (sh_wI (sh_wI h1)))), S_72 (sh_wI (sh_wI (sh_wI (sh_wI h1)))) hnm, G_66_9 (sh_wI (sh_wI (sh_wI (sh_wI (sh_wI h1))))), S_73 (sh_wI (sh_wI (sh_wI (sh_wI (sh_wI h1))))) hnm, G_66_10 (sh_wI (sh_wI (sh_wI (sh_wI (sh_wI (sh_wI h1)))))), S_74 (sh_wI (sh_wI (sh_wI (sh_wI (sh_wI (sh_wI h1)))))) hnm, Option.bind_some, ↓reduceIte]
              rfl
            generalize mm_wI (mm_wI (mm_wI (mm_wI (mm_wI (mm_wI (mm_wI M2 66 4 (nI (nm + 1))) 69 nm (nI k)) 70 nm a) 71 nm b) 72 nm (nI (nDp V k A Bb))) 73 nm 1) 74 nm 1 = M3 at sB fB y4 y69 y70 y71 y72 y73 y74 hLB mx1
            obtain ⟨M4, c1, c2, c3, c4, c5, c6⟩ := m_tz_l (fun (M_66 : Mm) => (op_gR M_66 7 66 14).bind fun x_67 => (op_sZ M_66 x_67 (nI nm) (0 : Int32)).bind fun M_68 => some (nI nm, M_68)) hnm FU 0 M3 (by omega) (by unfold FU; omega) sB
            have mx : f_X7_move 66 (nI k) a b M2 = some (nI nm, mm_wI M4 78 nm 0) := by
              rw [mx1, c1]
              simp only [G_66_14 c2, S_78 c2 hnm (Or.inl rfl), Option.bind_some]
            have fC : ∀ q j, ¬ (q = 78 ∧ j = nm) → ¬ (q = 75 ∧ 256 * nm ≤ j ∧ j < 256 * nm + 256) → mm_I (mm_wI M4 78 nm 0) q j = mm_I M3 q j := fun q j u1 u2 => by rw [mI_wI, if_neg u1]; exact c4 q j u2
            have y75 : ∀ j, j < 256 → mm_I (mm_wI M4 78 nm 0) 75 (256 * nm + j) = 0 := fun j hj => by rw [mI_wI, if_neg (by omega)]; exact c6 j (by omega) hj
            have y78 : mm_I (mm_wI M4 78 nm 0) 78 nm = 0 := by rw [mI_wI, if_pos ⟨rfl, rfl⟩]
            have hLC : mm_L (mm_wI M4 78 nm 0) = mm_L M := ((show mm_L (mm_wI M4 78 nm 0) = mm_L M4 from rfl).trans c3).trans (hLB.trans hL1)
            have sC : Shp (mm_wI M4 78 nm 0) := sh_wI c2
            generalize mm_wI M4 78 nm 0 = M5 at mx fC y75 y78 hLC sC
            have fA : ∀ q j, ¬ (q = 7 + 5 * nm ∧ j < 6) → q ≠ 8 + 5 * nm → q ≠ 9 + 5 * nm → ¬ (q = 0 ∧ j = 5) → ¬ (q = 66 ∧ j = 4) → ¬ (69 ≤ q ∧ q ≤ 74 ∧ j = nm) → ¬ (q = 78 ∧ j = nm) → ¬ (q = 75 ∧ 256 * nm ≤ j ∧ j < 256 * nm + 256) → mm_I M5 q j = mm_I M q j := fun q j u1 u2 u3 u4 u5 u6 u7 u8 => ((fC q j u7 u8).trans (fB q j u5 u6)).trans (f1 q j u1 u2 u3 u4)
            have fN : ∀ q j, 1 ≤ q → q ≤ 65 → mm_I M5 q j = mm_I M1 q j := fun q j u1 u2 => ((fC q j (by omega) (by omega)).trans (fB q j (by omega) (by omega))).trans (gk q j u1)
            have okN := aV_ok (V := V) (nm := nm) (k := k) (A := A) (B := Bb) (dp := nDp V k A Bb) ho (by omega) g3 g4 g5 rfl d2
            refine ⟨nI nm, M2, M5, cg, cx, h1, mx, sC, by omega, by omega, Or.inr ⟨z, w, aV V nm k A Bb (nDp V k A Bb), nm + 1, ⟨⟨hg.1, (fA _ _ (by omega) (by omega) (by omega) (by omega) (by omega) (by omega) (by omega) (by omega)).trans hg.2.1, (fA _ _ (by omega) (by omega) (by omega) (by omega) (by omega) (by omega) (by omega) (by omega)).trans hg.2.2.1, fun p hp => (fA _ _ (by omega) (by omega) (by omega) (by omega) (by omega) (by omega) (by omega) (by omega)).trans (hg.2.2.2.1 p hp), fun p hp => (fA _ _ (by omega) (by omega) (by omega) (by omega) (by omega) (by omega) (by omega) (by omega)).trans (hg.2.2.2.2.1 p hp), fun s hs p hp => (fA _ _ (by omega) (by omega) (by omega) (by omega) (by omega) (by omega) (by omega) (by omega)).trans (hg.2.2.2.2.2 s hs p hp)⟩, ⟨C.2.1.1, fun j hj => (fA _ _ (by omega) (by omega) (by omega) (by omega) (by omega) (by omega) (by omega) (by omega)).trans (C.2.1.2 j hj)⟩, okN, by omega, ⟨?_, fun i hi => ?_⟩, ⟨(fA _ _ (by omega) (by omega) (by omega) (by omega) (by omega) (by omega) (by omega) (by omega)).trans C.2.2.2.2.2.1, C.2.2.2.2.2.2.1, fun i hi => ?_, fun i hi e s hs t ht => ?_⟩⟩, ⟨⟨gm.1, (fA _ _ (by omega) (by omega) (by omega) (by omega) (by omega) (by omega) (by omega) (by omega)).trans gm.2.1, (fA _ _ (by omega) (by omega) (by omega) (by omega) (by omega) (by omega) (by omega) (by omega)).trans gm.2.2.1, fun p hp => (fA _ _ (by omega) (by omega) (by omega) (by omega) (by omega) (by omega) (by omega) (by omega)).trans (gm.2.2.2 p hp)⟩, ⟨B.2.1.1, fun j hj => (fA _ _ (by omega) (by omega) (by omega) (by omega) (by omega) (by omega) (by omega) (by omega)).trans (B.2.1.2 j hj)⟩, okN, by omega, ⟨?_, fun i hi => ?_⟩⟩, fun i hi => ?_, R.fr (fun x j e => fA x j (by omega) (by omega) (by omega) (by omega) (by omega) (by omega) (by omega) (by omega))⟩⟩
            · rw [fC 0 5 (by omega) (by omega), fB 0 5 (by omega) (by omega), g05]
            · by_cases ei : i = nm
              · subst ei
                obtain ⟨n1, n2, n3, n4, n5, n6, n7⟩ := aV_n (V := V) (nm := i) (k := k) (A := A) (B := Bb) (dp := nDp V k A Bb)
                rw [n1, n2, n3, n4, n5, n6, n7, fN _ _ (by omega) (by omega), fN _ _ (by omega) (by omega), fN _ _ (by omega) (by omega), fN _ _ (by omega) (by omega), fN _ _ (by omega) (by omega), fN _ _ (by omega) (by omega)]
                refine ⟨t0, fun q => t1.trans (g1 q), fun q => t2.trans (g2 q), t3, t4, t5, fun _ _ => Nat.zero_le _, fun s hs t ht => ?_, fun s hs => ?_⟩
                · rw [fN _ _ (by omega) (by omega), t6 _ (by omega)]
                  rfl
                · rw [fN _ _ (by omega) (by omega), t7 s hs, sm_0]
                  rfl
              · obtain ⟨n1, n2, n3, n4, n5, n6, n7⟩ := aV_o (V := V) (nm := nm) (k := k) (A := A) (B := Bb) (dp := nDp V k A Bb) ei
                obtain ⟨b0, b1, b2, b3, b4, b5, b6⟩ := C.2.2.2.2.1.2 i (by omega)
                have f : ∀ j, mm_I M5 (7 + 5 * i) j = mm_I M (7 + 5 * i) j := fun j => fA _ _ (by omega) (by omega) (by omega) (by omega) (by omega) (by omega) (by omega) (by omega)
                rw [n1, n2, n3, n4, n5, n6, n7]
                exact ⟨(f 0).trans b0, fun e => (f 1).trans (b1 e), fun e => (f 2).trans (b2 e), (f 3).trans b3, (f 4).trans b4, (f 5).trans b5, b6.1, fun s hs t ht => (fA _ _ (by omega) (by omega) (by omega) (by omega) (by omega) (by omega) (by omega) (by omega)).trans (b6.2.1 s hs t ht), fun s hs => (fA _ _ (by omega) (by omega) (by omega) (by omega) (by omega) (by omega) (by omega) (by omega)).trans (b6.2.2 s hs)⟩
            · obtain ⟨r, r1, r2, r3⟩ := C.2.2.2.2.2.2.2.1 i hi
              exact ⟨r, r1, (fA _ _ (by omega) (by omega) (by omega) (by omega) (by omega) (by omega) (by omega) (by omega)).trans r2, fun q => r3 (by omega)⟩
            · obtain ⟨r, r1, r2, r3⟩ := C.2.2.2.2.2.2.2.1 i (by omega)
              have e : mm_I M (7 + 5 * i) 10 = nI cg := (fA _ _ (by omega) (by omega) (by omega) (by omega) (by omega) (by omega) (by omega) (by omega)).symm.trans e
              have hcg := C.2.2.2.2.2.2.1
              by_cases ei : i = nm
              · exfalso
                rw [r2] at e
                have e := (nI_eq (by omega) (by omega)).mp e
                have := r3 (by omega)
                omega
              · rw [hLC, chm_cg ho aV_ag (show i < nm by omega)]
                exact C.2.2.2.2.2.2.2.2 i (by omega) e s hs t ht
            · rw [fC 66 4 (by omega) (by omega), y4]
            · by_cases ei : i = nm
              · subst ei
                obtain ⟨n1, n2, n3, n4, n5, n6, n7⟩ := aV_n (V := V) (nm := i) (k := k) (A := A) (B := Bb) (dp := nDp V k A Bb)
                rw [n1, n2, n3, n4, n5, n6, n7, fC 69 i (by omega) (by omega), fC 70 i (by omega) (by omega), fC 71 i (by omega) (by omega), fC 72 i (by omega) (by omega), fC 73 i (by omega) (by omega), fC 74 i (by omega) (by omega)]
                refine ⟨y69, fun q => y70.trans (g1 q), fun q => y71.trans (g2 q), y73, y74, y72, fun _ _ => Nat.zero_le _, fun s hs t ht => ?_⟩
                rw [Nat.add_assoc, y75 (16 * s + t) (by omega)]
                rfl
              · obtain ⟨n1, n2, n3, n4, n5, n6, n7⟩ := aV_o (V := V) (nm := nm) (k := k) (A := A) (B := Bb) (dp := nDp V k A Bb) ei
                obtain ⟨b0, b1, b2, b3, b4, b5, b6⟩ := B.2.2.2.2.2 i (by omega)
                rw [n1, n2, n3, n4, n5, n6, n7]
                exact ⟨(fA _ _ (by omega) (by omega) (by omega) (by omega) (by omega) (by omega) (by omega) (by omega)).trans b0, fun e => (fA _ _ (by omega) (by omega) (by omega) (by omega) (by omega) (by omega) (by omega) (by omega)).trans (b1 e), fun e => (fA _ _ (by omega) (by omega) (by omega) (by omega) (by omega) (by omega) (by omega) (by omega)).trans (b2 e), (fA _ _ (by omega) (by omega) (by omega) (by omega) (by omega) (by omega) (by omega) (by omega)).trans b3, (fA _ _ (by omega) (by omega) (by omega) (by omega) (by omega) (by omega) (by omega) (by omega)).trans b4, (fA _ _ (by omega) (by omega) (by omega) (by omega) (by omega) (by omega) (by omega) (by omega)).trans b5, b6.1, fun s hs t ht => (fA _ _ (by omega) (by omega) (by omega) (by omega) (by omega) (by omega) (by omega) (by omega)).trans (b6.2 s hs t ht)⟩
            · by_cases ei : i = nm
              · subst ei
                rw [y78]
                exact ⟨Or.inl rfl, fun e => absurd e (by decide)⟩
              · rw [fA 78 i (by omega) (by omega) (by omega) (by omega) (by omega) (by omega) (by omega) (by omega)]
                refine ⟨(ca i (by omega)).1, fun e s hs t ht => ?_⟩
                rw [hLC, chm_cg ho aV_ag (show i < nm by omega)]
                exact (ca i (by omega)).2 e s hs t ht
        · have dl : nDp V k A Bb < 2 ^ 31 := by
            unfold nDp
            by_cases q : 5 ≤ k
            · rw [if_pos q]
              have u1 := ho2 A (g5 q).1
              have u2 := ho2 Bb (g5 q).2
              have := Nat.max_le.mpr ⟨u1, u2⟩
              omega
            · rw [if_neg q]; omega
          have d2' : ¬ nI (nDp V k A Bb) ≤ (2 : Int32) := nI_ge (a := 2) (by omega) dl
          refine Agr.no (A := -5) I ?_ ?_
          · unfold f_X6_move
            simp only [I_0 h, pH1 h hg, pc, pd, d2', i10, Option.bind_some, ↓reduceIte]
          · rw [pre M h B]
            simp only [d2', ↓reduceIte]
      · have pc := (p_canName (a := a) (b := b) h hg C.2.2.2.2.1.1 hn (show k ≤ 6 by omega)).2 o
        have key1 : ∀ K : Int32 → Option (Int32 × Mm), op_jn K (fun j_6 => if nI k = 0 then (op_is M 66 7).bind fun _ => (f_X7_isPlace 66 a M).bind fun z_8 => j_6 z_8 else if nI k = (1 : Int32) then (op_is M 66 7).bind fun _ => (f_X7_isPlace 66 a M).bind fun z_10 => j_6 z_10 else if nI k = (4 : Int32) then (op_is M 66 7).bind fun _ => (f_X7_isPlace 66 a M).bind fun z_30 => j_6 z_30 else if nI k = (2 : Int32) then (op_is M 66 7).bind fun _ => (f_X7_isPlace 66 a M).bind fun z_19 => op_jn (fun (x_20_0 : Int32) => j_6 x_20_0) fun j_20 => if z_19 = 0 then j_20 (0 : Int32) else (op_is M 66 7).bind fun _ => (f_X7_isPlace 66 b M).bind fun z_22 => if z_22 = 0 then j_20 (0 : Int32) else if a = b then j_20 (0 : Int32) else (op_gR M 7 66 1).bind fun x_25 => (op_aI M x_25 a).bind fun x_26 => (op_gR M 7 66 1).bind fun x_27 => (op_aI M x_27 b).bind fun x_28 => if x_26 = x_28 then j_20 (1 : Int32) else j_20 (0 : Int32) else if nI k < (5 : Int32) then j_6 (if nI k = (3 : Int32) then (1 : Int32) else (0 : Int32)) else (op_is M 66 7).bind fun _ => (f_X7_isMove 66 a M).bind fun z_14 => op_jn (fun (x_15_0 : Int32) => j_6 x_15_0) fun j_15 => if z_14 = 0 then j_15 (0 : Int32) else (op_is M 66 7).bind fun _ => (f_X7_isMove 66 b M).bind fun z_17 => if z_17 = 0 then j_15 (0 : Int32) else j_15 (1 : Int32)) = K 0 := fun K => (m_name K h gm B.2.2.2.2.1 hn (show k ≤ 6 by omega)).2 o
        refine Agr.no (A := -1) I ?_ ?_
        · unfold f_X6_move
          simp only [I_0 h, pH1 h hg, pc, i10, Option.bind_some, ↓reduceIte]
        · unfold f_X7_move
          rw [G_66_2 h, Option.bind_some, if_neg (ns_n0 gm), isI, Option.bind_some, if_neg (by decide), key1]
          rfl
    · have q1 : ∀ k, k ≤ 6 → ¬ c = nI k := fun k hk e => q ⟨k, by omega, e⟩
      have isI : f_X7_isIn c 0 6 = some 0 := by
        apply m_isI0
        by_cases c0 : c < 0
        · exact Or.inl c0
        · exact Or.inr (i_prl (n := 7) (by omega) ((nok (by omega) q).resolve_left c0))
      refine Agr.no (A := -1) I ?_ ?_
      · unfold f_X6_move
        simp only [I_0 h, pH1 h hg, p_cnX (b := a) (c := b) q1, i10, Option.bind_some, ↓reduceIte]
      · unfold f_X7_move
        simp only [G_66_2 h, ns_n0 gm, isI, Option.bind_some, ↓reduceIte]
end
