def rm_X7_row : Room := { frames := 7, cells := 0, slots := 0, locals := 197 }
def f_X7_row (o : Nat) (a1 : Int32) (a2 : Int32) (a3 : Int32) (a4 : Int32) (M : Mm) : Option (Int64 × Mm) :=
    (op_gI M 7 o 2).bind fun x_1 =>
    if x_1 = 0 then
    some ((-2 : Int64), M)
    else
    (op_is M o 7).bind fun _ =>
    (f_X7_isMove o a1 M).bind fun z_3 =>
    if z_3 = 0 then
    some ((-1 : Int64), M)
    else
    (op_is M o 7).bind fun _ =>
    (f_X7_isState o a2 M).bind fun z_5 =>
    if z_5 = 0 then
    some ((-1 : Int64), M)
    else
    (op_is M o 7).bind fun _ =>
    (f_X7_isState o a3 M).bind fun z_7 =>
    if z_7 = 0 then
    some ((-1 : Int64), M)
    else
    (f_X7_isIn a4 (0 : Int32) (1 : Int32)).bind fun z_9 =>
    if z_9 = 0 then
    some ((-1 : Int64), M)
    else
    (op_is M o 7).bind fun _ =>
    (f_X7_know o a1 M).bind fun z_11 =>
    (op_is z_11 o 7).bind fun _ =>
    (f_X7_at o a1 a2 a3).bind fun z_12 =>
    (op_is z_11 o 7).bind fun _ =>
    (f_X7_takes o z_12 z_11).bind fun z_13 =>
    (op_gL z_13 7 o 22).bind fun x_14 =>
    if x_14 = (0 : Int64) then
    some ((-4 : Int64), z_13)
    else
    if a4 = 0 then
    (op_gL z_13 7 o 21).bind fun x_18 =>
    some (x_18, z_13)
    else
    (op_gL z_13 7 o 22).bind fun x_17 =>
    some (x_17, z_13)
set_option maxHeartbeats 4000000 in
set_option maxRecDepth 100000 in
theorem c_X7_row (l : Launch) (D : va_G) (cA : Nat → ClassId) (ad : Nat → Nat) (o : Nat) (a1 : Int32) (a2 : Int32) (a3 : Int32) (a4 : Int32) (M : Mm) (zr : Int64 × Mm) (hf : f_X7_row o a1 a2 a3 a4 M = some zr) : KL l yX7_row cX7_row 5 (some .long) rm_X7_row D cA ad [.ref (ad o), .int a1, .int a2, .int a3, .int a4] M zr.1 zr.2 := by
  refine KL_of (by decide) (Nat.le_of_ble_eq_true rfl) ?_
  intro p e s m args below meth c ls Q A H locs hZ hE hl hret
  have hx := hZ.1
  have hb := hZ.2.1
  have hown := hZ.2.2.2.1
  have hts := hZ.2.2.2.2.1
  have hl : lv_has ls 5 [(0, .ref (ad o)), (1, .int a1), (2, .int a2), (3, .int a3), (4, .int a4)] := hl
  unfold f_X7_row at hf
  refine lv_aload_n hx hb dX7_row_0 rfl (lv_at hl 0 rfl) ?_
  obtain ⟨x_1, g_1, hf⟩ := b_some hf
  refine xx_gI hZ hE k_X7 2 (by decide) rfl tw_363 g_1 dX7_row_1 ?_
  refine lv_if_ne (tgt := 11) hx hb dX7_row_4 (by decide) (fun h_2 => ?_) (fun h_2 => ?_)
  · have hf := it_n h_2 hf
    refine lv_aload_n hx hb dX7_row_11 rfl (lv_at hl 0 rfl) ?_
    refine lv_iload_n hx hb dX7_row_12 rfl (lv_at hl 1 rfl) ?_
    obtain ⟨_, i_3, hf⟩ := b_some hf
    obtain ⟨z_3, c_3, hf⟩ := b_some hf
    refine xx_cVi hZ hE (As := [.int a1]) (rest := []) k_X7 (is_m i_3) tw_390 tw_391 (c_X7_isMove l D cA ad o a1 M _ c_3) cw_X7_isMove tw_389 ⟨rfl, rfl⟩ ⟨Nat.le_of_ble_eq_true rfl, Nat.le_of_ble_eq_true rfl⟩ rfl hl.1 rfl (Nat.le_of_ble_eq_true rfl) ⟨Nat.le_of_ble_eq_true rfl, Nat.le_of_ble_eq_true rfl⟩ dX7_row_13 (fun H locs hE => ?_)
    refine lv_if_eq (tgt := 45) hx hb dX7_row_16 (by decide) (fun h_4 => ?_) (fun h_4 => ?_)
    · have hf := it_y h_4 hf
      refine lv_ldc2 (v := -1) hx hb hown (hts _ tw_480) dX7_row_45 ?_
      exact hret _ _ _ _ _ _ (pr_1 hf) (pr_2 hf) dX7_row_48 hE
    · have hf := it_n h_4 hf
      refine lv_aload_n hx hb dX7_row_19 rfl (lv_at hl 0 rfl) ?_
      refine lv_iload_n hx hb dX7_row_20 rfl (lv_at hl 2 rfl) ?_
      obtain ⟨_, i_5, hf⟩ := b_some hf
      obtain ⟨z_5, c_5, hf⟩ := b_some hf
      refine xx_cVi hZ hE (As := [.int a2]) (rest := []) k_X7 (is_m i_5) tw_378 tw_379 (c_X7_isState l D cA ad o a2 M _ c_5) cw_X7_isState tw_377 ⟨rfl, rfl⟩ ⟨Nat.le_of_ble_eq_true rfl, Nat.le_of_ble_eq_true rfl⟩ rfl hl.1 rfl (Nat.le_of_ble_eq_true rfl) ⟨Nat.le_of_ble_eq_true rfl, Nat.le_of_ble_eq_true rfl⟩ dX7_row_21 (fun H locs hE => ?_)
      refine lv_if_eq (tgt := 45) hx hb dX7_row_24 (by decide) (fun h_6 => ?_) (fun h_6 => ?_)
      · have hf := it_y h_6 hf
        refine lv_ldc2 (v := -1) hx hb hown (hts _ tw_480) dX7_row_45 ?_
        exact hret _ _ _ _ _ _ (pr_1 hf) (pr_2 hf) dX7_row_48 hE
      · have hf := it_n h_6 hf
        refine lv_aload_n hx hb dX7_row_27 rfl (lv_at hl 0 rfl) ?_
        refine lv_iload_n hx hb dX7_row_28 rfl (lv_at hl 3 rfl) ?_
        obtain ⟨_, i_7, hf⟩ := b_some hf
        obtain ⟨z_7, c_7, hf⟩ := b_some hf
        refine xx_cVi hZ hE (As := [.int a3]) (rest := []) k_X7 (is_m i_7) tw_378 tw_379 (c_X7_isState l D cA ad o a3 M _ c_7) cw_X7_isState tw_377 ⟨rfl, rfl⟩ ⟨Nat.le_of_ble_eq_true rfl, Nat.le_of_ble_eq_true rfl⟩ rfl hl.1 rfl (Nat.le_of_ble_eq_true rfl) ⟨Nat.le_of_ble_eq_true rfl, Nat.le_of_ble_eq_true rfl⟩ dX7_row_29 (fun H locs hE => ?_)
        refine lv_if_eq (tgt := 45) hx hb dX7_row_32 (by decide) (fun h_8 => ?_) (fun h_8 => ?_)
        · have hf := it_y h_8 hf
          refine lv_ldc2 (v := -1) hx hb hown (hts _ tw_480) dX7_row_45 ?_
          exact hret _ _ _ _ _ _ (pr_1 hf) (pr_2 hf) dX7_row_48 hE
        · have hf := it_n h_8 hf
          refine lv_iload hx hb dX7_row_35 (lv_at hl 4 rfl) ?_
          refine lv_iconst (v := 0) hx hb dX7_row_37 (by decide) ?_
          refine lv_iconst (v := 1) hx hb dX7_row_38 (by decide) ?_
          obtain ⟨z_9, c_9, hf⟩ := b_some hf
          refine xx_cSi hZ hE (As := [.int a4, .int (0 : Int32), .int (1 : Int32)]) (rest := []) tw_366 (c_X7_isIn l D cA ad a4 (0 : Int32) (1 : Int32) M _ c_9) cw_X7_isIn tw_364 ⟨rfl, rfl⟩ ⟨Nat.le_of_ble_eq_true rfl, Nat.le_of_ble_eq_true rfl⟩ rfl hl.1 rfl (Nat.le_of_ble_eq_true rfl) ⟨Nat.le_of_ble_eq_true rfl, Nat.le_of_ble_eq_true rfl⟩ dX7_row_39 (fun H locs hE => ?_)
          refine lv_if_ne (tgt := 49) hx hb dX7_row_42 (by decide) (fun h_10 => ?_) (fun h_10 => ?_)
          · have hf := it_n h_10 hf
            refine lv_aload_n hx hb dX7_row_49 rfl (lv_at hl 0 rfl) ?_
            refine lv_iload_n hx hb dX7_row_50 rfl (lv_at hl 1 rfl) ?_
            obtain ⟨_, i_11, hf⟩ := b_some hf
            obtain ⟨z_11, c_11, hf⟩ := b_some hf
            refine xx_cVv hZ hE (As := [.int a1]) (rest := []) k_X7 (is_m i_11) tw_482 tw_483 (c_X7_know l D cA ad o a1 M _ c_11) cw_X7_know tw_481 ⟨rfl, rfl⟩ ⟨Nat.le_of_ble_eq_true rfl, Nat.le_of_ble_eq_true rfl⟩ rfl hl.1 rfl (Nat.le_of_ble_eq_true rfl) ⟨Nat.le_of_ble_eq_true rfl, Nat.le_of_ble_eq_true rfl⟩ dX7_row_51 (fun H locs hE => ?_)
            refine lv_aload_n hx hb dX7_row_54 rfl (lv_at hl 0 rfl) ?_
            refine lv_aload_n hx hb dX7_row_55 rfl (lv_at hl 0 rfl) ?_
            refine lv_iload_n hx hb dX7_row_56 rfl (lv_at hl 1 rfl) ?_
            refine lv_iload_n hx hb dX7_row_57 rfl (lv_at hl 2 rfl) ?_
            refine lv_iload_n hx hb dX7_row_58 rfl (lv_at hl 3 rfl) ?_
            obtain ⟨_, i_12, hf⟩ := b_some hf
            obtain ⟨z_12, c_12, hf⟩ := b_some hf
            refine xx_cVi hZ hE (As := [.int a1, .int a2, .int a3]) (rest := [.ref (ad o)]) k_X7 (is_m i_12) tw_462 tw_463 (c_X7_at l D cA ad o a1 a2 a3 z_11 _ c_12) cw_X7_at tw_461 ⟨rfl, rfl⟩ ⟨Nat.le_of_ble_eq_true rfl, Nat.le_of_ble_eq_true rfl⟩ rfl hl.1 rfl (Nat.le_of_ble_eq_true rfl) ⟨Nat.le_of_ble_eq_true rfl, Nat.le_of_ble_eq_true rfl⟩ dX7_row_59 (fun H locs hE => ?_)
            obtain ⟨_, i_13, hf⟩ := b_some hf
            obtain ⟨z_13, c_13, hf⟩ := b_some hf
            refine xx_cVv hZ hE (As := [.int z_12]) (rest := []) k_X7 (is_m i_13) tw_465 tw_466 (c_X7_takes l D cA ad o z_12 z_11 _ c_13) cw_X7_takes tw_464 ⟨rfl, rfl⟩ ⟨Nat.le_of_ble_eq_true rfl, Nat.le_of_ble_eq_true rfl⟩ rfl hl.1 rfl (Nat.le_of_ble_eq_true rfl) ⟨Nat.le_of_ble_eq_true rfl, Nat.le_of_ble_eq_true rfl⟩ dX7_row_62 (fun H locs hE => ?_)
            refine lv_aload_n hx hb dX7_row_65 rfl (lv_at hl 0 rfl) ?_
            obtain ⟨x_14, g_14, hf⟩ := b_some hf
            refine xx_gL hZ hE k_X7 22 (by decide) rfl tw_403 g_14 dX7_row_66 ?_
            refine lv_lconst (v := 0) hx hb dX7_row_69 (by decide) ?_
            refine xx_lne (tgt := 80) hx hb dX7_row_70 dX7_row_71 (by decide) (fun h_15 => ?_) (fun h_15 => ?_)
            · have hf := it_n h_15 hf
              refine lv_iload hx hb dX7_row_80 (lv_at hl 4 rfl) ?_
              refine lv_if_ne (tgt := 92) hx hb dX7_row_82 (by decide) (fun h_16 => ?_) (fun h_16 => ?_)
              · have hf := it_n h_16 hf
                refine lv_aload_n hx hb dX7_row_92 rfl (lv_at hl 0 rfl) ?_
                obtain ⟨x_17, g_17, hf⟩ := b_some hf
                refine xx_gL hZ hE k_X7 22 (by decide) rfl tw_403 g_17 dX7_row_93 ?_
                exact hret _ _ _ _ _ _ (pr_1 hf) (pr_2 hf) dX7_row_96 hE
              · have hf := it_y h_16 hf
                refine lv_aload_n hx hb dX7_row_85 rfl (lv_at hl 0 rfl) ?_
                obtain ⟨x_18, g_18, hf⟩ := b_some hf
                refine xx_gL hZ hE k_X7 21 (by decide) rfl tw_402 g_18 dX7_row_86 ?_
                refine lv_goto (tgt := 96) hx hb dX7_row_89 (by decide) ?_
                exact hret _ _ _ _ _ _ (pr_1 hf) (pr_2 hf) dX7_row_96 hE
            · have hf := it_y h_15 hf
              refine lv_ldc2 (v := -4) hx hb hown (hts _ tw_484) dX7_row_74 ?_
              refine lv_goto (tgt := 96) hx hb dX7_row_77 (by decide) ?_
              exact hret _ _ _ _ _ _ (pr_1 hf) (pr_2 hf) dX7_row_96 hE
          · have hf := it_y h_10 hf
            refine lv_ldc2 (v := -1) hx hb hown (hts _ tw_480) dX7_row_45 ?_
            exact hret _ _ _ _ _ _ (pr_1 hf) (pr_2 hf) dX7_row_48 hE
  · have hf := it_y h_2 hf
    refine lv_ldc2 (v := -2) hx hb hown (hts _ tw_485) dX7_row_7 ?_
    exact hret _ _ _ _ _ _ (pr_1 hf) (pr_2 hf) dX7_row_10 hE
def lp_X7_keeps_43 (k_138 : Int64 → Int64 → Mm → Option (Int32 × Mm)) (i_0 : Nat) (i_1 : Int32) (i_2 : Int32) : Nat → Int64 → Int64 → Int32 → Mm → Option (Int32 × Mm)
  | 0, _, _, _, _ => none
  | n_43 + 1, v_3, v_5, v_7, M =>
    (op_gI M 7 i_0 2).bind fun x_8 =>
    if x_8 ≤ v_7 then
    k_138 v_3 v_5 M
    else
    (op_is M i_0 7).bind fun _ =>
    (f_X7_at i_0 i_1 v_7 i_2).bind fun z_10 =>
    (op_is M i_0 7).bind fun _ =>
    (f_X7_takes i_0 z_10 M).bind fun z_11 =>
    (op_gR z_11 7 i_0 3).bind fun x_12 =>
    (op_aI z_11 x_12 v_7).bind fun x_13 =>
    (op_is z_11 i_0 7).bind fun _ =>
    (f_X7_times i_0 x_13.toInt64 (1 : Int64) z_11).bind fun z_14 =>
    (op_gL z_14 7 i_0 21).bind fun x_15 =>
    (op_gL z_14 7 i_0 22).bind fun x_16 =>
    (op_pL z_14 7 i_0 21 v_3).bind fun M_17 =>
    (op_pL M_17 7 i_0 22 v_5).bind fun M_18 =>
    (op_is M_18 i_0 7).bind fun _ =>
    (f_X7_and i_0 x_15 x_16 (0 : Int32) M_18).bind fun z_19 =>
    (op_gL z_19 7 i_0 22).bind fun x_20 =>
    if x_20 = (0 : Int64) then
    some ((-4 : Int32), z_19)
    else
    (op_gL z_19 7 i_0 21).bind fun x_22 =>
    (op_gL z_19 7 i_0 22).bind fun x_23 =>
    lp_X7_keeps_43 k_138 i_0 i_1 i_2 n_43 x_22 x_23 (v_7 + 1) z_19
theorem lp_X7_keeps_43_s (k_138 : Int64 → Int64 → Mm → Option (Int32 × Mm)) (i_0 : Nat) (i_1 : Int32) (i_2 : Int32) {n_43 : Nat} {v_3 : Int64} {v_5 : Int64} {v_7 : Int32} {M : Mm} {zr : Int32 × Mm} (hf : lp_X7_keeps_43 k_138 i_0 i_1 i_2 (n_43 + 1) v_3 v_5 v_7 M = some zr) : (
    (op_gI M 7 i_0 2).bind fun x_8 =>
    if x_8 ≤ v_7 then
    k_138 v_3 v_5 M
    else
    (op_is M i_0 7).bind fun _ =>
    (f_X7_at i_0 i_1 v_7 i_2).bind fun z_10 =>
    (op_is M i_0 7).bind fun _ =>
    (f_X7_takes i_0 z_10 M).bind fun z_11 =>
    (op_gR z_11 7 i_0 3).bind fun x_12 =>
    (op_aI z_11 x_12 v_7).bind fun x_13 =>
    (op_is z_11 i_0 7).bind fun _ =>
    (f_X7_times i_0 x_13.toInt64 (1 : Int64) z_11).bind fun z_14 =>
    (op_gL z_14 7 i_0 21).bind fun x_15 =>
    (op_gL z_14 7 i_0 22).bind fun x_16 =>
    (op_pL z_14 7 i_0 21 v_3).bind fun M_17 =>
    (op_pL M_17 7 i_0 22 v_5).bind fun M_18 =>
    (op_is M_18 i_0 7).bind fun _ =>
    (f_X7_and i_0 x_15 x_16 (0 : Int32) M_18).bind fun z_19 =>
    (op_gL z_19 7 i_0 22).bind fun x_20 =>
    if x_20 = (0 : Int64) then
    some ((-4 : Int32), z_19)
    else
    (op_gL z_19 7 i_0 21).bind fun x_22 =>
    (op_gL z_19 7 i_0 22).bind fun x_23 =>
    lp_X7_keeps_43 k_138 i_0 i_1 i_2 n_43 x_22 x_23 (v_7 + 1) z_19) = some zr := hf
theorem lp_X7_keeps_43_k {k_138 : Int64 → Int64 → Mm → Option (Int32 × Mm)} {i_0 : Nat} {i_1 : Int32} {i_2 : Int32} {n : Nat} {v_3 : Int64} {v_5 : Int64} {v_7 : Int32} {M : Mm} {zr : Int32 × Mm} (hf : lp_X7_keeps_43 k_138 i_0 i_1 i_2 n v_3 v_5 v_7 M = some zr) : ∃ (m_138 : Int64 → Int64 → Mm → Option (Int32 × Mm)), m_138 = k_138 ∧ lp_X7_keeps_43 m_138 i_0 i_1 i_2 n v_3 v_5 v_7 M = some zr := ⟨k_138, rfl, hf⟩
def lp_X7_keeps_27 (i_0 : Nat) (i_1 : Int32) : Nat → Int32 → Mm → Option (Int32 × Mm)
  | 0, _, _ => none
  | n_27 + 1, v_2, M =>
    (op_gI M 7 i_0 2).bind fun x_6 =>
    if x_6 ≤ v_2 then
    some ((1 : Int32), M)
    else
    lp_X7_keeps_43 (fun (l_25_3 : Int64) (l_25_5 : Int64) (M_25 : Mm) =>
    if l_25_5 = (1 : Int64) then
    (op_gR M_25 7 i_0 3).bind fun x_27 =>
    (op_aI M_25 x_27 v_2).bind fun x_28 =>
    if l_25_3 = x_28.toInt64 then
    lp_X7_keeps_27 i_0 i_1 n_27 (v_2 + 1) M_25
    else
    some ((0 : Int32), M_25)
    else
    some ((0 : Int32), M_25)) i_0 i_1 v_2 FU (0 : Int64) (1 : Int64) (0 : Int32) M
theorem lp_X7_keeps_27_s (i_0 : Nat) (i_1 : Int32) {n_27 : Nat} {v_2 : Int32} {M : Mm} {zr : Int32 × Mm} (hf : lp_X7_keeps_27 i_0 i_1 (n_27 + 1) v_2 M = some zr) : (
    (op_gI M 7 i_0 2).bind fun x_6 =>
    if x_6 ≤ v_2 then
    some ((1 : Int32), M)
    else
    lp_X7_keeps_43 (fun (l_25_3 : Int64) (l_25_5 : Int64) (M_25 : Mm) =>
    if l_25_5 = (1 : Int64) then
    (op_gR M_25 7 i_0 3).bind fun x_27 =>
    (op_aI M_25 x_27 v_2).bind fun x_28 =>
    if l_25_3 = x_28.toInt64 then
    lp_X7_keeps_27 i_0 i_1 n_27 (v_2 + 1) M_25
    else
    some ((0 : Int32), M_25)
    else
    some ((0 : Int32), M_25)) i_0 i_1 v_2 FU (0 : Int64) (1 : Int64) (0 : Int32) M) = some zr := hf
def rm_X7_keeps : Room := { frames := 7, cells := 0, slots := 0, locals := 197 }
def f_X7_keeps (o : Nat) (a1 : Int32) (M : Mm) : Option (Int32 × Mm) :=
    (op_gI M 7 o 2).bind fun x_1 =>
    if x_1 = 0 then
    some ((-2 : Int32), M)
    else
    (op_is M o 7).bind fun _ =>
    (f_X7_isMove o a1 M).bind fun z_3 =>
    if z_3 = 0 then
    some ((-1 : Int32), M)
    else
    (op_is M o 7).bind fun _ =>
    (f_X7_know o a1 M).bind fun z_5 =>
    lp_X7_keeps_27  o a1 FU (0 : Int32) z_5
set_option maxHeartbeats 4000000 in
set_option maxRecDepth 100000 in
theorem c_X7_keeps (l : Launch) (D : va_G) (cA : Nat → ClassId) (ad : Nat → Nat) (o : Nat) (a1 : Int32) (M : Mm) (zr : Int32 × Mm) (hf : f_X7_keeps o a1 M = some zr) : KI l yX7_keeps cX7_keeps 12 (some .int) rm_X7_keeps D cA ad [.ref (ad o), .int a1] M zr.1 zr.2 := by
  refine KI_of (by decide) (Nat.le_of_ble_eq_true rfl) ?_
  intro p e s m args below meth c ls Q A H locs hZ hE hl hret
  have hx := hZ.1
  have hb := hZ.2.1
  have hown := hZ.2.2.2.1
  have hts := hZ.2.2.2.2.1
  have hl : lv_has ls 12 [(0, .ref (ad o)), (1, .int a1)] := hl
  unfold f_X7_keeps at hf
  refine lv_aload_n hx hb dX7_keeps_0 rfl (lv_at hl 0 rfl) ?_
  obtain ⟨x_1, g_1, hf⟩ := b_some hf
  refine xx_gI hZ hE k_X7 2 (by decide) rfl tw_363 g_1 dX7_keeps_1 ?_
  refine lv_if_ne (tgt := 10) hx hb dX7_keeps_4 (by decide) (fun h_2 => ?_) (fun h_2 => ?_)
  · have hf := it_n h_2 hf
    refine lv_aload_n hx hb dX7_keeps_10 rfl (lv_at hl 0 rfl) ?_
    refine lv_iload_n hx hb dX7_keeps_11 rfl (lv_at hl 1 rfl) ?_
    obtain ⟨_, i_3, hf⟩ := b_some hf
    obtain ⟨z_3, c_3, hf⟩ := b_some hf
    refine xx_cVi hZ hE (As := [.int a1]) (rest := []) k_X7 (is_m i_3) tw_390 tw_391 (c_X7_isMove l D cA ad o a1 M _ c_3) cw_X7_isMove tw_389 ⟨rfl, rfl⟩ ⟨Nat.le_of_ble_eq_true rfl, Nat.le_of_ble_eq_true rfl⟩ rfl hl.1 rfl (Nat.le_of_ble_eq_true rfl) ⟨Nat.le_of_ble_eq_true rfl, Nat.le_of_ble_eq_true rfl⟩ dX7_keeps_12 (fun H locs hE => ?_)
    refine lv_if_ne (tgt := 20) hx hb dX7_keeps_15 (by decide) (fun h_4 => ?_) (fun h_4 => ?_)
    · have hf := it_n h_4 hf
      refine lv_aload_n hx hb dX7_keeps_20 rfl (lv_at hl 0 rfl) ?_
      refine lv_iload_n hx hb dX7_keeps_21 rfl (lv_at hl 1 rfl) ?_
      obtain ⟨_, i_5, hf⟩ := b_some hf
      obtain ⟨z_5, c_5, hf⟩ := b_some hf
      refine xx_cVv hZ hE (As := [.int a1]) (rest := []) k_X7 (is_m i_5) tw_482 tw_483 (c_X7_know l D cA ad o a1 M _ c_5) cw_X7_know tw_481 ⟨rfl, rfl⟩ ⟨Nat.le_of_ble_eq_true rfl, Nat.le_of_ble_eq_true rfl⟩ rfl hl.1 rfl (Nat.le_of_ble_eq_true rfl) ⟨Nat.le_of_ble_eq_true rfl, Nat.le_of_ble_eq_true rfl⟩ dX7_keeps_22 (fun H locs hE => ?_)
      refine lv_iconst (v := 0) hx hb dX7_keeps_25 (by decide) ?_
      refine lv_istore_n (lv' := [(2, .int (0 : Int32)), (0, .ref (ad o)), (1, .int a1)]) hx hb dX7_keeps_26 rfl hl (by decide) rfl (fun ls hl => ?_)
      have L_46 : ∀ (n_27 : Nat) (w_46_2 : Int32) (M_46 : Mm) (H : Heap) (locs : List Loc) (ls : Array Slot), lp_X7_keeps_27 o a1 n_27 w_46_2 M_46 = some zr → En D cA ad s A M_46 H locs → lv_has ls 12 [(0, .ref (ad o)), (1, .int a1), (2, .int w_46_2)] → W p l e rm_X7_keeps s m args below meth c H locs 0 0 Q (F0 m 27 ls []) := by
        intro n_27
        induction n_27 with
        | zero =>
          intro w_46_2 M_46 H locs ls hf
          cases (show (none : Option (Int32 × Mm)) = some zr from hf)
        | succ n_27 ih_27 =>
          intro w_46_2 M_46 H locs ls hf hE hl
          have hf := lp_X7_keeps_27_s _ _ hf
          refine lv_iload_n hx hb dX7_keeps_27 rfl (lv_at hl 2 rfl) ?_
          refine lv_aload_n hx hb dX7_keeps_28 rfl (lv_at hl 0 rfl) ?_
          obtain ⟨x_47, g_47, hf⟩ := b_some hf
          refine xx_gI hZ hE k_X7 2 (by decide) rfl tw_363 g_47 dX7_keeps_29 ?_
          refine lv_icmp_ge (tgt := 165) hx hb dX7_keeps_32 (by decide) (fun h_48 => ?_) (fun h_48 => ?_)
          · have hf := it_y h_48 hf
            refine lv_iconst (v := 1) hx hb dX7_keeps_165 (by decide) ?_
            exact hret _ _ _ _ _ _ (pr_1 hf) (pr_2 hf) rfl dX7_keeps_166 hE
          · have hf := it_n h_48 hf
            refine lv_lconst (v := 0) hx hb dX7_keeps_35 (by decide) ?_
            refine lv_lstore_n (lv' := [(3, .long (0 : Int64)), (0, .ref (ad o)), (1, .int a1), (2, .int w_46_2)]) hx hb dX7_keeps_36 rfl hl (by decide) rfl (fun ls hl => ?_)
            refine lv_lconst (v := 1) hx hb dX7_keeps_37 (by decide) ?_
            refine lv_lstore (lv' := [(5, .long (1 : Int64)), (3, .long (0 : Int64)), (0, .ref (ad o)), (1, .int a1), (2, .int w_46_2)]) hx hb dX7_keeps_38 hl (by decide) rfl (fun ls hl => ?_)
            refine lv_iconst (v := 0) hx hb dX7_keeps_40 (by decide) ?_
            refine lv_istore (lv' := [(7, .int (0 : Int32)), (5, .long (1 : Int64)), (3, .long (0 : Int64)), (0, .ref (ad o)), (1, .int a1), (2, .int w_46_2)]) hx hb dX7_keeps_41 hl (by decide) rfl (fun ls hl => ?_)
            obtain ⟨k_138_50, ek_138_50, hf⟩ := lp_X7_keeps_43_k hf
            have o_138_50 : ∀ (l_50_3 : Int64) (l_50_5 : Int64) (M_50 : Mm) (H : Heap) (locs : List Loc) (ls : Array Slot), k_138_50 l_50_3 l_50_5 M_50 = some zr → En D cA ad s A M_50 H locs → lv_has ls 12 [(0, .ref (ad o)), (1, .int a1), (2, .int w_46_2), (3, .long l_50_3), (5, .long l_50_5)] → W p l e rm_X7_keeps s m args below meth c H locs 0 0 Q (F0 m 138 ls []) := by
              intro l_50_3 l_50_5 M_50 H locs ls hf hE hl
              rw [ek_138_50] at hf
              refine lv_lload hx hb dX7_keeps_138 (lv_at hl 4 rfl) ?_
              refine lv_lconst (v := 1) hx hb dX7_keeps_140 (by decide) ?_
              refine xx_lne (tgt := 157) hx hb dX7_keeps_141 dX7_keeps_142 (by decide) (fun h_51 => ?_) (fun h_51 => ?_)
              · have hf := it_n h_51 hf
                refine lv_iconst (v := 0) hx hb dX7_keeps_157 (by decide) ?_
                exact hret _ _ _ _ _ _ (pr_1 hf) (pr_2 hf) rfl dX7_keeps_158 hE
              · have hf := it_y h_51 hf
                refine lv_lload_n hx hb dX7_keeps_145 rfl (lv_at hl 3 rfl) ?_
                refine lv_aload_n hx hb dX7_keeps_146 rfl (lv_at hl 0 rfl) ?_
                obtain ⟨x_52, g_52, hf⟩ := b_some hf
                refine xx_gR hZ hE k_X7 3 (by decide) rfl tw_371 g_52 dX7_keeps_147 ?_
                refine lv_iload_n hx hb dX7_keeps_150 rfl (lv_at hl 2 rfl) ?_
                obtain ⟨x_53, g_53, hf⟩ := b_some hf
                refine xx_aI hZ hE g_53 dX7_keeps_151 ?_
                refine lv_i2l hx hb dX7_keeps_152 rfl ?_
                refine xx_leq (tgt := 159) hx hb dX7_keeps_153 dX7_keeps_154 (by decide) (fun h_54 => ?_) (fun h_54 => ?_)
                · have hf := it_y h_54 hf
                  refine lv_iinc (v := (w_46_2 + 1)) (lv' := [(2, .int (w_46_2 + 1)), (0, .ref (ad o)), (1, .int a1), (3, .long l_50_3), (5, .long l_50_5)]) hx hb dX7_keeps_159 hl (k := 2) rfl rfl (by decide) rfl (fun ls hl => ?_)
                  refine lv_goto (tgt := 27) hx hb dX7_keeps_162 (by decide) ?_
                  exact ih_27 _ _ _ _ _ hf hE (lv_sub hl [1, 2, 0] rfl)
                · have hf := it_n h_54 hf
                  refine lv_iconst (v := 0) hx hb dX7_keeps_157 (by decide) ?_
                  exact hret _ _ _ _ _ _ (pr_1 hf) (pr_2 hf) rfl dX7_keeps_158 hE
            have L_49 : ∀ (n_43 : Nat) (w_49_3 : Int64) (w_49_5 : Int64) (w_49_7 : Int32) (M_49 : Mm) (H : Heap) (locs : List Loc) (ls : Array Slot), lp_X7_keeps_43 k_138_50 o a1 w_46_2 n_43 w_49_3 w_49_5 w_49_7 M_49 = some zr → En D cA ad s A M_49 H locs → lv_has ls 12 [(0, .ref (ad o)), (1, .int a1), (2, .int w_46_2), (3, .long w_49_3), (5, .long w_49_5), (7, .int w_49_7)] → W p l e rm_X7_keeps s m args below meth c H locs 0 0 Q (F0 m 43 ls []) := by
              intro n_43
              induction n_43 with
              | zero =>
                intro w_49_3 w_49_5 w_49_7 M_49 H locs ls hf
                cases (show (none : Option (Int32 × Mm)) = some zr from hf)
              | succ n_43 ih_43 =>
                intro w_49_3 w_49_5 w_49_7 M_49 H locs ls hf hE hl
                have hf := lp_X7_keeps_43_s _ _ _ _ hf
                refine lv_iload hx hb dX7_keeps_43 (lv_at hl 5 rfl) ?_
                refine lv_aload_n hx hb dX7_keeps_45 rfl (lv_at hl 0 rfl) ?_
                obtain ⟨x_55, g_55, hf⟩ := b_some hf
                refine xx_gI hZ hE k_X7 2 (by decide) rfl tw_363 g_55 dX7_keeps_46 ?_
                refine lv_icmp_ge (tgt := 138) hx hb dX7_keeps_49 (by decide) (fun h_56 => ?_) (fun h_56 => ?_)
                · have hf := it_y h_56 hf
                  exact o_138_50 _ _ _ _ _ _ hf hE (lv_sub hl [0, 1, 2, 3, 4] rfl)
                · have hf := it_n h_56 hf
                  refine lv_aload_n hx hb dX7_keeps_52 rfl (lv_at hl 0 rfl) ?_
                  refine lv_aload_n hx hb dX7_keeps_53 rfl (lv_at hl 0 rfl) ?_
                  refine lv_iload_n hx hb dX7_keeps_54 rfl (lv_at hl 1 rfl) ?_
                  refine lv_iload hx hb dX7_keeps_55 (lv_at hl 5 rfl) ?_
                  refine lv_iload_n hx hb dX7_keeps_57 rfl (lv_at hl 2 rfl) ?_
                  obtain ⟨_, i_57, hf⟩ := b_some hf
                  obtain ⟨z_57, c_57, hf⟩ := b_some hf
                  refine xx_cVi hZ hE (As := [.int a1, .int w_49_7, .int w_46_2]) (rest := [.ref (ad o)]) k_X7 (is_m i_57) tw_462 tw_463 (c_X7_at l D cA ad o a1 w_49_7 w_46_2 M_49 _ c_57) cw_X7_at tw_461 ⟨rfl, rfl⟩ ⟨Nat.le_of_ble_eq_true rfl, Nat.le_of_ble_eq_true rfl⟩ rfl hl.1 rfl (Nat.le_of_ble_eq_true rfl) ⟨Nat.le_of_ble_eq_true rfl, Nat.le_of_ble_eq_true rfl⟩ dX7_keeps_58 (fun H locs hE => ?_)
                  obtain ⟨_, i_58, hf⟩ := b_some hf
                  obtain ⟨z_58, c_58, hf⟩ := b_some hf
                  refine xx_cVv hZ hE (As := [.int z_57]) (rest := []) k_X7 (is_m i_58) tw_465 tw_466 (c_X7_takes l D cA ad o z_57 M_49 _ c_58) cw_X7_takes tw_464 ⟨rfl, rfl⟩ ⟨Nat.le_of_ble_eq_true rfl, Nat.le_of_ble_eq_true rfl⟩ rfl hl.1 rfl (Nat.le_of_ble_eq_true rfl) ⟨Nat.le_of_ble_eq_true rfl, Nat.le_of_ble_eq_true rfl⟩ dX7_keeps_61 (fun H locs hE => ?_)
                  refine lv_aload_n hx hb dX7_keeps_64 rfl (lv_at hl 0 rfl) ?_
                  refine lv_aload_n hx hb dX7_keeps_65 rfl (lv_at hl 0 rfl) ?_
                  obtain ⟨x_59, g_59, hf⟩ := b_some hf
                  refine xx_gR hZ hE k_X7 3 (by decide) rfl tw_371 g_59 dX7_keeps_66 ?_
                  refine lv_iload hx hb dX7_keeps_69 (lv_at hl 5 rfl) ?_
                  obtain ⟨x_60, g_60, hf⟩ := b_some hf
                  refine xx_aI hZ hE g_60 dX7_keeps_71 ?_
                  refine lv_i2l hx hb dX7_keeps_72 rfl ?_
                  refine lv_lconst (v := 1) hx hb dX7_keeps_73 (by decide) ?_
                  obtain ⟨_, i_61, hf⟩ := b_some hf
                  obtain ⟨z_61, c_61, hf⟩ := b_some hf
                  refine xx_cVv hZ hE (As := [.long x_60.toInt64, .long (1 : Int64)]) (rest := []) k_X7 (is_m i_61) tw_422 tw_423 (c_X7_times l D cA ad o x_60.toInt64 (1 : Int64) z_58 _ c_61) cw_X7_times tw_421 ⟨rfl, rfl⟩ ⟨Nat.le_of_ble_eq_true rfl, Nat.le_of_ble_eq_true rfl⟩ rfl hl.1 rfl (Nat.le_of_ble_eq_true rfl) ⟨Nat.le_of_ble_eq_true rfl, Nat.le_of_ble_eq_true rfl⟩ dX7_keeps_74 (fun H locs hE => ?_)
                  refine lv_aload_n hx hb dX7_keeps_77 rfl (lv_at hl 0 rfl) ?_
                  obtain ⟨x_62, g_62, hf⟩ := b_some hf
                  refine xx_gL hZ hE k_X7 21 (by decide) rfl tw_402 g_62 dX7_keeps_78 ?_
                  refine lv_lstore (lv' := [(8, .long x_62), (0, .ref (ad o)), (1, .int a1), (2, .int w_46_2), (3, .long w_49_3), (5, .long w_49_5), (7, .int w_49_7)]) hx hb dX7_keeps_81 hl (by decide) rfl (fun ls hl => ?_)
                  refine lv_aload_n hx hb dX7_keeps_83 rfl (lv_at hl 1 rfl) ?_
                  obtain ⟨x_63, g_63, hf⟩ := b_some hf
                  refine xx_gL hZ hE k_X7 22 (by decide) rfl tw_403 g_63 dX7_keeps_84 ?_
                  refine lv_lstore (lv' := [(10, .long x_63), (8, .long x_62), (0, .ref (ad o)), (1, .int a1), (2, .int w_46_2), (3, .long w_49_3), (5, .long w_49_5), (7, .int w_49_7)]) hx hb dX7_keeps_87 hl (by decide) rfl (fun ls hl => ?_)
                  refine lv_aload_n hx hb dX7_keeps_89 rfl (lv_at hl 2 rfl) ?_
                  refine lv_lload_n hx hb dX7_keeps_90 rfl (lv_at hl 5 rfl) ?_
                  obtain ⟨M_64, g_64, hf⟩ := b_some hf
                  refine xx_pL hZ hE k_X7 21 (by decide) rfl rfl rfl tw_402 g_64 dX7_keeps_91 (fun H locs hE => ?_)
                  refine lv_aload_n hx hb dX7_keeps_94 rfl (lv_at hl 2 rfl) ?_
                  refine lv_lload hx hb dX7_keeps_95 (lv_at hl 6 rfl) ?_
                  obtain ⟨M_65, g_65, hf⟩ := b_some hf
                  refine xx_pL hZ hE k_X7 22 (by decide) rfl rfl rfl tw_403 g_65 dX7_keeps_97 (fun H locs hE => ?_)
                  refine lv_aload_n hx hb dX7_keeps_100 rfl (lv_at hl 2 rfl) ?_
                  refine lv_lload hx hb dX7_keeps_101 (lv_at hl 1 rfl) ?_
                  refine lv_lload hx hb dX7_keeps_103 (lv_at hl 0 rfl) ?_
                  refine lv_iconst (v := 0) hx hb dX7_keeps_105 (by decide) ?_
                  obtain ⟨_, i_66, hf⟩ := b_some hf
                  obtain ⟨z_66, c_66, hf⟩ := b_some hf
                  refine xx_cVv hZ hE (As := [.long x_62, .long x_63, .int (0 : Int32)]) (rest := []) k_X7 (is_m i_66) tw_428 tw_429 (c_X7_and l D cA ad o x_62 x_63 (0 : Int32) M_65 _ c_66) cw_X7_and tw_427 ⟨rfl, rfl⟩ ⟨Nat.le_of_ble_eq_true rfl, Nat.le_of_ble_eq_true rfl⟩ rfl hl.1 rfl (Nat.le_of_ble_eq_true rfl) ⟨Nat.le_of_ble_eq_true rfl, Nat.le_of_ble_eq_true rfl⟩ dX7_keeps_106 (fun H locs hE => ?_)
                  refine lv_aload_n hx hb dX7_keeps_109 rfl (lv_at hl 2 rfl) ?_
                  obtain ⟨x_67, g_67, hf⟩ := b_some hf
                  refine xx_gL hZ hE k_X7 22 (by decide) rfl tw_403 g_67 dX7_keeps_110 ?_
                  refine lv_lconst (v := 0) hx hb dX7_keeps_113 (by decide) ?_
                  refine xx_lne (tgt := 121) hx hb dX7_keeps_114 dX7_keeps_115 (by decide) (fun h_68 => ?_) (fun h_68 => ?_)
                  · have hf := it_n h_68 hf
                    refine lv_aload_n hx hb dX7_keeps_121 rfl (lv_at hl 2 rfl) ?_
                    obtain ⟨x_69, g_69, hf⟩ := b_some hf
                    refine xx_gL hZ hE k_X7 21 (by decide) rfl tw_402 g_69 dX7_keeps_122 ?_
                    refine lv_lstore_n (lv' := [(3, .long x_69), (10, .long x_63), (8, .long x_62), (0, .ref (ad o)), (1, .int a1), (2, .int w_46_2), (5, .long w_49_5), (7, .int w_49_7)]) hx hb dX7_keeps_125 rfl hl (by decide) rfl (fun ls hl => ?_)
                    refine lv_aload_n hx hb dX7_keeps_126 rfl (lv_at hl 3 rfl) ?_
                    obtain ⟨x_70, g_70, hf⟩ := b_some hf
                    refine xx_gL hZ hE k_X7 22 (by decide) rfl tw_403 g_70 dX7_keeps_127 ?_
                    refine lv_lstore (lv' := [(5, .long x_70), (3, .long x_69), (10, .long x_63), (8, .long x_62), (0, .ref (ad o)), (1, .int a1), (2, .int w_46_2), (7, .int w_49_7)]) hx hb dX7_keeps_130 hl (by decide) rfl (fun ls hl => ?_)
                    refine lv_iinc (v := (w_49_7 + 1)) (lv' := [(7, .int (w_49_7 + 1)), (5, .long x_70), (3, .long x_69), (10, .long x_63), (8, .long x_62), (0, .ref (ad o)), (1, .int a1), (2, .int w_46_2)]) hx hb dX7_keeps_132 hl (k := 7) rfl rfl (by decide) rfl (fun ls hl => ?_)
                    refine lv_goto (tgt := 43) hx hb dX7_keeps_135 (by decide) ?_
                    exact ih_43 _ _ _ _ _ _ _ hf hE (lv_sub hl [5, 6, 7, 2, 1, 0] rfl)
                  · have hf := it_y h_68 hf
                    refine lv_bipush (v := -4) hx hb dX7_keeps_118 (by decide) ?_
                    exact hret _ _ _ _ _ _ (pr_1 hf) (pr_2 hf) rfl dX7_keeps_120 hE
            exact L_49 _ _ _ _ _ _ _ _ hf hE (lv_sub hl [3, 4, 5, 2, 1, 0] rfl)
      exact L_46 _ _ _ _ _ _ hf hE (lv_sub hl [1, 2, 0] rfl)
    · have hf := it_y h_4 hf
      refine lv_iconst (v := -1) hx hb dX7_keeps_18 (by decide) ?_
      exact hret _ _ _ _ _ _ (pr_1 hf) (pr_2 hf) rfl dX7_keeps_19 hE
  · have hf := it_y h_2 hf
    refine lv_bipush (v := -2) hx hb dX7_keeps_7 (by decide) ?_
    exact hret _ _ _ _ _ _ (pr_1 hf) (pr_2 hf) rfl dX7_keeps_9 hE
def lp_X7_goesBack_39 (k_152 : Mm → Option (Int32 × Mm)) (i_0 : Nat) (i_1 : Int32) (i_2 : Int32) : Nat → Int32 → Mm → Option (Int32 × Mm)
  | 0, _, _ => none
  | n_39 + 1, v_3, M =>
    (op_gI M 7 i_0 2).bind fun x_8 =>
    if x_8 ≤ v_3 then
    k_152 M
    else
    (op_is M i_0 7).bind fun _ =>
    (f_X7_at i_0 i_1 i_2 v_3).bind fun z_10 =>
    (op_is M i_0 7).bind fun _ =>
    (f_X7_takes i_0 z_10 M).bind fun z_11 =>
    (op_gR z_11 7 i_0 3).bind fun x_12 =>
    (op_aI z_11 x_12 i_2).bind fun x_13 =>
    (op_is z_11 i_0 7).bind fun _ =>
    (f_X7_times i_0 x_13.toInt64 (1 : Int64) z_11).bind fun z_14 =>
    (op_gL z_14 7 i_0 21).bind fun x_15 =>
    (op_gL z_14 7 i_0 22).bind fun x_16 =>
    (op_is z_14 i_0 7).bind fun _ =>
    (f_X7_at i_0 i_1 v_3 i_2).bind fun z_17 =>
    (op_is z_14 i_0 7).bind fun _ =>
    (f_X7_takes i_0 z_17 z_14).bind fun z_18 =>
    (op_gR z_18 7 i_0 3).bind fun x_19 =>
    (op_aI z_18 x_19 v_3).bind fun x_20 =>
    (op_is z_18 i_0 7).bind fun _ =>
    (f_X7_times i_0 x_20.toInt64 (1 : Int64) z_18).bind fun z_21 =>
    if x_16 = (0 : Int64) then
    some ((-4 : Int32), z_21)
    else
    (op_gL z_21 7 i_0 22).bind fun x_23 =>
    if x_23 = (0 : Int64) then
    some ((-4 : Int32), z_21)
    else
    (op_gL z_21 7 i_0 21).bind fun x_25 =>
    if x_15 = x_25 then
    (op_gL z_21 7 i_0 22).bind fun x_27 =>
    if x_16 = x_27 then
    lp_X7_goesBack_39 k_152 i_0 i_1 i_2 n_39 (v_3 + 1) z_21
    else
    some ((0 : Int32), z_21)
    else
    some ((0 : Int32), z_21)
theorem lp_X7_goesBack_39_s (k_152 : Mm → Option (Int32 × Mm)) (i_0 : Nat) (i_1 : Int32) (i_2 : Int32) {n_39 : Nat} {v_3 : Int32} {M : Mm} {zr : Int32 × Mm} (hf : lp_X7_goesBack_39 k_152 i_0 i_1 i_2 (n_39 + 1) v_3 M = some zr) : (
    (op_gI M 7 i_0 2).bind fun x_8 =>
    if x_8 ≤ v_3 then
    k_152 M
    else
    (op_is M i_0 7).bind fun _ =>
    (f_X7_at i_0 i_1 i_2 v_3).bind fun z_10 =>
    (op_is M i_0 7).bind fun _ =>
    (f_X7_takes i_0 z_10 M).bind fun z_11 =>
    (op_gR z_11 7 i_0 3).bind fun x_12 =>
    (op_aI z_11 x_12 i_2).bind fun x_13 =>
    (op_is z_11 i_0 7).bind fun _ =>
    (f_X7_times i_0 x_13.toInt64 (1 : Int64) z_11).bind fun z_14 =>
    (op_gL z_14 7 i_0 21).bind fun x_15 =>
    (op_gL z_14 7 i_0 22).bind fun x_16 =>
    (op_is z_14 i_0 7).bind fun _ =>
    (f_X7_at i_0 i_1 v_3 i_2).bind fun z_17 =>
    (op_is z_14 i_0 7).bind fun _ =>
    (f_X7_takes i_0 z_17 z_14).bind fun z_18 =>
    (op_gR z_18 7 i_0 3).bind fun x_19 =>
    (op_aI z_18 x_19 v_3).bind fun x_20 =>
    (op_is z_18 i_0 7).bind fun _ =>
    (f_X7_times i_0 x_20.toInt64 (1 : Int64) z_18).bind fun z_21 =>
    if x_16 = (0 : Int64) then
    some ((-4 : Int32), z_21)
    else
    (op_gL z_21 7 i_0 22).bind fun x_23 =>
    if x_23 = (0 : Int64) then
    some ((-4 : Int32), z_21)
    else
    (op_gL z_21 7 i_0 21).bind fun x_25 =>
    if x_15 = x_25 then
    (op_gL z_21 7 i_0 22).bind fun x_27 =>
    if x_16 = x_27 then
    lp_X7_goesBack_39 k_152 i_0 i_1 i_2 n_39 (v_3 + 1) z_21
    else
    some ((0 : Int32), z_21)
    else
    some ((0 : Int32), z_21)) = some zr := hf
theorem lp_X7_goesBack_39_k {k_152 : Mm → Option (Int32 × Mm)} {i_0 : Nat} {i_1 : Int32} {i_2 : Int32} {n : Nat} {v_3 : Int32} {M : Mm} {zr : Int32 × Mm} (hf : lp_X7_goesBack_39 k_152 i_0 i_1 i_2 n v_3 M = some zr) : ∃ (m_152 : Mm → Option (Int32 × Mm)), m_152 = k_152 ∧ lp_X7_goesBack_39 m_152 i_0 i_1 i_2 n v_3 M = some zr := ⟨k_152, rfl, hf⟩
def lp_X7_goesBack_27 (i_0 : Nat) (i_1 : Int32) : Nat → Int32 → Mm → Option (Int32 × Mm)
  | 0, _, _ => none
  | n_27 + 1, v_2, M =>
    (op_gI M 7 i_0 2).bind fun x_6 =>
    if x_6 ≤ v_2 then
    some ((1 : Int32), M)
    else
    lp_X7_goesBack_39 (fun (M_30 : Mm) =>
    lp_X7_goesBack_27 i_0 i_1 n_27 (v_2 + 1) M_30) i_0 i_1 v_2 FU (v_2 + (1 : Int32)) M
theorem lp_X7_goesBack_27_s (i_0 : Nat) (i_1 : Int32) {n_27 : Nat} {v_2 : Int32} {M : Mm} {zr : Int32 × Mm} (hf : lp_X7_goesBack_27 i_0 i_1 (n_27 + 1) v_2 M = some zr) : (
    (op_gI M 7 i_0 2).bind fun x_6 =>
    if x_6 ≤ v_2 then
    some ((1 : Int32), M)
    else
    lp_X7_goesBack_39 (fun (M_30 : Mm) =>
    lp_X7_goesBack_27 i_0 i_1 n_27 (v_2 + 1) M_30) i_0 i_1 v_2 FU (v_2 + (1 : Int32)) M) = some zr := hf
def rm_X7_goesBack : Room := { frames := 7, cells := 0, slots := 0, locals := 197 }
def f_X7_goesBack (o : Nat) (a1 : Int32) (M : Mm) : Option (Int32 × Mm) :=
    (op_gI M 7 o 2).bind fun x_1 =>
    if x_1 = 0 then
    some ((-2 : Int32), M)
    else
    (op_is M o 7).bind fun _ =>
    (f_X7_isMove o a1 M).bind fun z_3 =>
    if z_3 = 0 then
    some ((-1 : Int32), M)
    else
    (op_is M o 7).bind fun _ =>
    (f_X7_know o a1 M).bind fun z_5 =>
    lp_X7_goesBack_27  o a1 FU (0 : Int32) z_5
set_option maxHeartbeats 4000000 in
set_option maxRecDepth 100000 in
theorem c_X7_goesBack (l : Launch) (D : va_G) (cA : Nat → ClassId) (ad : Nat → Nat) (o : Nat) (a1 : Int32) (M : Mm) (zr : Int32 × Mm) (hf : f_X7_goesBack o a1 M = some zr) : KI l yX7_goesBack cX7_goesBack 8 (some .int) rm_X7_goesBack D cA ad [.ref (ad o), .int a1] M zr.1 zr.2 := by
  refine KI_of (by decide) (Nat.le_of_ble_eq_true rfl) ?_
  intro p e s m args below meth c ls Q A H locs hZ hE hl hret
  have hx := hZ.1
  have hb := hZ.2.1
  have hown := hZ.2.2.2.1
  have hts := hZ.2.2.2.2.1
  have hl : lv_has ls 8 [(0, .ref (ad o)), (1, .int a1)] := hl
  unfold f_X7_goesBack at hf
  refine lv_aload_n hx hb dX7_goesBack_0 rfl (lv_at hl 0 rfl) ?_
  obtain ⟨x_1, g_1, hf⟩ := b_some hf
  refine xx_gI hZ hE k_X7 2 (by decide) rfl tw_363 g_1 dX7_goesBack_1 ?_
  refine lv_if_ne (tgt := 10) hx hb dX7_goesBack_4 (by decide) (fun h_2 => ?_) (fun h_2 => ?_)
  · have hf := it_n h_2 hf
    refine lv_aload_n hx hb dX7_goesBack_10 rfl (lv_at hl 0 rfl) ?_
    refine lv_iload_n hx hb dX7_goesBack_11 rfl (lv_at hl 1 rfl) ?_
    obtain ⟨_, i_3, hf⟩ := b_some hf
    obtain ⟨z_3, c_3, hf⟩ := b_some hf
    refine xx_cVi hZ hE (As := [.int a1]) (rest := []) k_X7 (is_m i_3) tw_390 tw_391 (c_X7_isMove l D cA ad o a1 M _ c_3) cw_X7_isMove tw_389 ⟨rfl, rfl⟩ ⟨Nat.le_of_ble_eq_true rfl, Nat.le_of_ble_eq_true rfl⟩ rfl hl.1 rfl (Nat.le_of_ble_eq_true rfl) ⟨Nat.le_of_ble_eq_true rfl, Nat.le_of_ble_eq_true rfl⟩ dX7_goesBack_12 (fun H locs hE => ?_)
    refine lv_if_ne (tgt := 20) hx hb dX7_goesBack_15 (by decide) (fun h_4 => ?_) (fun h_4 => ?_)
    · have hf := it_n h_4 hf
      refine lv_aload_n hx hb dX7_goesBack_20 rfl (lv_at hl 0 rfl) ?_
      refine lv_iload_n hx hb dX7_goesBack_21 rfl (lv_at hl 1 rfl) ?_
      obtain ⟨_, i_5, hf⟩ := b_some hf
      obtain ⟨z_5, c_5, hf⟩ := b_some hf
      refine xx_cVv hZ hE (As := [.int a1]) (rest := []) k_X7 (is_m i_5) tw_482 tw_483 (c_X7_know l D cA ad o a1 M _ c_5) cw_X7_know tw_481 ⟨rfl, rfl⟩ ⟨Nat.le_of_ble_eq_true rfl, Nat.le_of_ble_eq_true rfl⟩ rfl hl.1 rfl (Nat.le_of_ble_eq_true rfl) ⟨Nat.le_of_ble_eq_true rfl, Nat.le_of_ble_eq_true rfl⟩ dX7_goesBack_22 (fun H locs hE => ?_)
      refine lv_iconst (v := 0) hx hb dX7_goesBack_25 (by decide) ?_
      refine lv_istore_n (lv' := [(2, .int (0 : Int32)), (0, .ref (ad o)), (1, .int a1)]) hx hb dX7_goesBack_26 rfl hl (by decide) rfl (fun ls hl => ?_)
      have L_52 : ∀ (n_27 : Nat) (w_52_2 : Int32) (M_52 : Mm) (H : Heap) (locs : List Loc) (ls : Array Slot), lp_X7_goesBack_27 o a1 n_27 w_52_2 M_52 = some zr → En D cA ad s A M_52 H locs → lv_has ls 8 [(0, .ref (ad o)), (1, .int a1), (2, .int w_52_2)] → W p l e rm_X7_goesBack s m args below meth c H locs 0 0 Q (F0 m 27 ls []) := by
        intro n_27
        induction n_27 with
        | zero =>
          intro w_52_2 M_52 H locs ls hf
          cases (show (none : Option (Int32 × Mm)) = some zr from hf)
        | succ n_27 ih_27 =>
          intro w_52_2 M_52 H locs ls hf hE hl
          have hf := lp_X7_goesBack_27_s _ _ hf
          refine lv_iload_n hx hb dX7_goesBack_27 rfl (lv_at hl 2 rfl) ?_
          refine lv_aload_n hx hb dX7_goesBack_28 rfl (lv_at hl 0 rfl) ?_
          obtain ⟨x_53, g_53, hf⟩ := b_some hf
          refine xx_gI hZ hE k_X7 2 (by decide) rfl tw_363 g_53 dX7_goesBack_29 ?_
          refine lv_icmp_ge (tgt := 158) hx hb dX7_goesBack_32 (by decide) (fun h_54 => ?_) (fun h_54 => ?_)
          · have hf := it_y h_54 hf
            refine lv_iconst (v := 1) hx hb dX7_goesBack_158 (by decide) ?_
            exact hret _ _ _ _ _ _ (pr_1 hf) (pr_2 hf) rfl dX7_goesBack_159 hE
          · have hf := it_n h_54 hf
            refine lv_iload_n hx hb dX7_goesBack_35 rfl (lv_at hl 2 rfl) ?_
            refine lv_iconst (v := 1) hx hb dX7_goesBack_36 (by decide) ?_
            refine lv_iadd hx hb dX7_goesBack_37 ?_
            refine lv_istore_n (lv' := [(3, .int (w_52_2 + (1 : Int32))), (0, .ref (ad o)), (1, .int a1), (2, .int w_52_2)]) hx hb dX7_goesBack_38 rfl hl (by decide) rfl (fun ls hl => ?_)
            obtain ⟨k_152_56, ek_152_56, hf⟩ := lp_X7_goesBack_39_k hf
            have o_152_56 : ∀ (M_56 : Mm) (H : Heap) (locs : List Loc) (ls : Array Slot), k_152_56 M_56 = some zr → En D cA ad s A M_56 H locs → lv_has ls 8 [(0, .ref (ad o)), (1, .int a1), (2, .int w_52_2)] → W p l e rm_X7_goesBack s m args below meth c H locs 0 0 Q (F0 m 152 ls []) := by
              intro M_56 H locs ls hf hE hl
              rw [ek_152_56] at hf
              refine lv_iinc (v := (w_52_2 + 1)) (lv' := [(2, .int (w_52_2 + 1)), (0, .ref (ad o)), (1, .int a1)]) hx hb dX7_goesBack_152 hl (k := 2) rfl rfl (by decide) rfl (fun ls hl => ?_)
              refine lv_goto (tgt := 27) hx hb dX7_goesBack_155 (by decide) ?_
              exact ih_27 _ _ _ _ _ hf hE (lv_sub hl [1, 2, 0] rfl)
            have L_55 : ∀ (n_39 : Nat) (w_55_3 : Int32) (M_55 : Mm) (H : Heap) (locs : List Loc) (ls : Array Slot), lp_X7_goesBack_39 k_152_56 o a1 w_52_2 n_39 w_55_3 M_55 = some zr → En D cA ad s A M_55 H locs → lv_has ls 8 [(0, .ref (ad o)), (1, .int a1), (2, .int w_52_2), (3, .int w_55_3)] → W p l e rm_X7_goesBack s m args below meth c H locs 0 0 Q (F0 m 39 ls []) := by
              intro n_39
              induction n_39 with
              | zero =>
                intro w_55_3 M_55 H locs ls hf
                cases (show (none : Option (Int32 × Mm)) = some zr from hf)
              | succ n_39 ih_39 =>
                intro w_55_3 M_55 H locs ls hf hE hl
                have hf := lp_X7_goesBack_39_s _ _ _ _ hf
                refine lv_iload_n hx hb dX7_goesBack_39 rfl (lv_at hl 3 rfl) ?_
                refine lv_aload_n hx hb dX7_goesBack_40 rfl (lv_at hl 0 rfl) ?_
                obtain ⟨x_57, g_57, hf⟩ := b_some hf
                refine xx_gI hZ hE k_X7 2 (by decide) rfl tw_363 g_57 dX7_goesBack_41 ?_
                refine lv_icmp_ge (tgt := 152) hx hb dX7_goesBack_44 (by decide) (fun h_58 => ?_) (fun h_58 => ?_)
                · have hf := it_y h_58 hf
                  exact o_152_56 _ _ _ _ hf hE (lv_sub hl [0, 1, 2] rfl)
                · have hf := it_n h_58 hf
                  refine lv_aload_n hx hb dX7_goesBack_47 rfl (lv_at hl 0 rfl) ?_
                  refine lv_aload_n hx hb dX7_goesBack_48 rfl (lv_at hl 0 rfl) ?_
                  refine lv_iload_n hx hb dX7_goesBack_49 rfl (lv_at hl 1 rfl) ?_
                  refine lv_iload_n hx hb dX7_goesBack_50 rfl (lv_at hl 2 rfl) ?_
                  refine lv_iload_n hx hb dX7_goesBack_51 rfl (lv_at hl 3 rfl) ?_
                  obtain ⟨_, i_59, hf⟩ := b_some hf
                  obtain ⟨z_59, c_59, hf⟩ := b_some hf
                  refine xx_cVi hZ hE (As := [.int a1, .int w_52_2, .int w_55_3]) (rest := [.ref (ad o)]) k_X7 (is_m i_59) tw_462 tw_463 (c_X7_at l D cA ad o a1 w_52_2 w_55_3 M_55 _ c_59) cw_X7_at tw_461 ⟨rfl, rfl⟩ ⟨Nat.le_of_ble_eq_true rfl, Nat.le_of_ble_eq_true rfl⟩ rfl hl.1 rfl (Nat.le_of_ble_eq_true rfl) ⟨Nat.le_of_ble_eq_true rfl, Nat.le_of_ble_eq_true rfl⟩ dX7_goesBack_52 (fun H locs hE => ?_)
                  obtain ⟨_, i_60, hf⟩ := b_some hf
                  obtain ⟨z_60, c_60, hf⟩ := b_some hf
                  refine xx_cVv hZ hE (As := [.int z_59]) (rest := []) k_X7 (is_m i_60) tw_465 tw_466 (c_X7_takes l D cA ad o z_59 M_55 _ c_60) cw_X7_takes tw_464 ⟨rfl, rfl⟩ ⟨Nat.le_of_ble_eq_true rfl, Nat.le_of_ble_eq_true rfl⟩ rfl hl.1 rfl (Nat.le_of_ble_eq_true rfl) ⟨Nat.le_of_ble_eq_true rfl, Nat.le_of_ble_eq_true rfl⟩ dX7_goesBack_55 (fun H locs hE => ?_)
                  refine lv_aload_n hx hb dX7_goesBack_58 rfl (lv_at hl 0 rfl) ?_
                  refine lv_aload_n hx hb dX7_goesBack_59 rfl (lv_at hl 0 rfl) ?_
                  obtain ⟨x_61, g_61, hf⟩ := b_some hf
                  refine xx_gR hZ hE k_X7 3 (by decide) rfl tw_371 g_61 dX7_goesBack_60 ?_
                  refine lv_iload_n hx hb dX7_goesBack_63 rfl (lv_at hl 2 rfl) ?_
                  obtain ⟨x_62, g_62, hf⟩ := b_some hf
                  refine xx_aI hZ hE g_62 dX7_goesBack_64 ?_
                  refine lv_i2l hx hb dX7_goesBack_65 rfl ?_
                  refine lv_lconst (v := 1) hx hb dX7_goesBack_66 (by decide) ?_
                  obtain ⟨_, i_63, hf⟩ := b_some hf
                  obtain ⟨z_63, c_63, hf⟩ := b_some hf
                  refine xx_cVv hZ hE (As := [.long x_62.toInt64, .long (1 : Int64)]) (rest := []) k_X7 (is_m i_63) tw_422 tw_423 (c_X7_times l D cA ad o x_62.toInt64 (1 : Int64) z_60 _ c_63) cw_X7_times tw_421 ⟨rfl, rfl⟩ ⟨Nat.le_of_ble_eq_true rfl, Nat.le_of_ble_eq_true rfl⟩ rfl hl.1 rfl (Nat.le_of_ble_eq_true rfl) ⟨Nat.le_of_ble_eq_true rfl, Nat.le_of_ble_eq_true rfl⟩ dX7_goesBack_67 (fun H locs hE => ?_)
                  refine lv_aload_n hx hb dX7_goesBack_70 rfl (lv_at hl 0 rfl) ?_
                  obtain ⟨x_64, g_64, hf⟩ := b_some hf
                  refine xx_gL hZ hE k_X7 21 (by decide) rfl tw_402 g_64 dX7_goesBack_71 ?_
                  refine lv_lstore (lv' := [(4, .long x_64), (0, .ref (ad o)), (1, .int a1), (2, .int w_52_2), (3, .int w_55_3)]) hx hb dX7_goesBack_74 hl (by decide) rfl (fun ls hl => ?_)
                  refine lv_aload_n hx hb dX7_goesBack_76 rfl (lv_at hl 1 rfl) ?_
                  obtain ⟨x_65, g_65, hf⟩ := b_some hf
                  refine xx_gL hZ hE k_X7 22 (by decide) rfl tw_403 g_65 dX7_goesBack_77 ?_
                  refine lv_lstore (lv' := [(6, .long x_65), (4, .long x_64), (0, .ref (ad o)), (1, .int a1), (2, .int w_52_2), (3, .int w_55_3)]) hx hb dX7_goesBack_80 hl (by decide) rfl (fun ls hl => ?_)
                  refine lv_aload_n hx hb dX7_goesBack_82 rfl (lv_at hl 2 rfl) ?_
                  refine lv_aload_n hx hb dX7_goesBack_83 rfl (lv_at hl 2 rfl) ?_
                  refine lv_iload_n hx hb dX7_goesBack_84 rfl (lv_at hl 3 rfl) ?_
                  refine lv_iload_n hx hb dX7_goesBack_85 rfl (lv_at hl 5 rfl) ?_
                  refine lv_iload_n hx hb dX7_goesBack_86 rfl (lv_at hl 4 rfl) ?_
                  obtain ⟨_, i_66, hf⟩ := b_some hf
                  obtain ⟨z_66, c_66, hf⟩ := b_some hf
                  refine xx_cVi hZ hE (As := [.int a1, .int w_55_3, .int w_52_2]) (rest := [.ref (ad o)]) k_X7 (is_m i_66) tw_462 tw_463 (c_X7_at l D cA ad o a1 w_55_3 w_52_2 z_63 _ c_66) cw_X7_at tw_461 ⟨rfl, rfl⟩ ⟨Nat.le_of_ble_eq_true rfl, Nat.le_of_ble_eq_true rfl⟩ rfl hl.1 rfl (Nat.le_of_ble_eq_true rfl) ⟨Nat.le_of_ble_eq_true rfl, Nat.le_of_ble_eq_true rfl⟩ dX7_goesBack_87 (fun H locs hE => ?_)
                  obtain ⟨_, i_67, hf⟩ := b_some hf
                  obtain ⟨z_67, c_67, hf⟩ := b_some hf
                  refine xx_cVv hZ hE (As := [.int z_66]) (rest := []) k_X7 (is_m i_67) tw_465 tw_466 (c_X7_takes l D cA ad o z_66 z_63 _ c_67) cw_X7_takes tw_464 ⟨rfl, rfl⟩ ⟨Nat.le_of_ble_eq_true rfl, Nat.le_of_ble_eq_true rfl⟩ rfl hl.1 rfl (Nat.le_of_ble_eq_true rfl) ⟨Nat.le_of_ble_eq_true rfl, Nat.le_of_ble_eq_true rfl⟩ dX7_goesBack_90 (fun H locs hE => ?_)
                  refine lv_aload_n hx hb dX7_goesBack_93 rfl (lv_at hl 2 rfl) ?_
                  refine lv_aload_n hx hb dX7_goesBack_94 rfl (lv_at hl 2 rfl) ?_
                  obtain ⟨x_68, g_68, hf⟩ := b_some hf
                  refine xx_gR hZ hE k_X7 3 (by decide) rfl tw_371 g_68 dX7_goesBack_95 ?_
                  refine lv_iload_n hx hb dX7_goesBack_98 rfl (lv_at hl 5 rfl) ?_
                  obtain ⟨x_69, g_69, hf⟩ := b_some hf
                  refine xx_aI hZ hE g_69 dX7_goesBack_99 ?_
                  refine lv_i2l hx hb dX7_goesBack_100 rfl ?_
                  refine lv_lconst (v := 1) hx hb dX7_goesBack_101 (by decide) ?_
                  obtain ⟨_, i_70, hf⟩ := b_some hf
                  obtain ⟨z_70, c_70, hf⟩ := b_some hf
                  refine xx_cVv hZ hE (As := [.long x_69.toInt64, .long (1 : Int64)]) (rest := []) k_X7 (is_m i_70) tw_422 tw_423 (c_X7_times l D cA ad o x_69.toInt64 (1 : Int64) z_67 _ c_70) cw_X7_times tw_421 ⟨rfl, rfl⟩ ⟨Nat.le_of_ble_eq_true rfl, Nat.le_of_ble_eq_true rfl⟩ rfl hl.1 rfl (Nat.le_of_ble_eq_true rfl) ⟨Nat.le_of_ble_eq_true rfl, Nat.le_of_ble_eq_true rfl⟩ dX7_goesBack_102 (fun H locs hE => ?_)
                  refine lv_lload hx hb dX7_goesBack_105 (lv_at hl 0 rfl) ?_
                  refine lv_lconst (v := 0) hx hb dX7_goesBack_107 (by decide) ?_
                  refine xx_leq (tgt := 121) hx hb dX7_goesBack_108 dX7_goesBack_109 (by decide) (fun h_71 => ?_) (fun h_71 => ?_)
                  · have hf := it_y h_71 hf
                    refine lv_bipush (v := -4) hx hb dX7_goesBack_121 (by decide) ?_
                    exact hret _ _ _ _ _ _ (pr_1 hf) (pr_2 hf) rfl dX7_goesBack_123 hE
                  · have hf := it_n h_71 hf
                    refine lv_aload_n hx hb dX7_goesBack_112 rfl (lv_at hl 2 rfl) ?_
                    obtain ⟨x_72, g_72, hf⟩ := b_some hf
                    refine xx_gL hZ hE k_X7 22 (by decide) rfl tw_403 g_72 dX7_goesBack_113 ?_
                    refine lv_lconst (v := 0) hx hb dX7_goesBack_116 (by decide) ?_
                    refine xx_lne (tgt := 124) hx hb dX7_goesBack_117 dX7_goesBack_118 (by decide) (fun h_73 => ?_) (fun h_73 => ?_)
                    · have hf := it_n h_73 hf
                      refine lv_lload hx hb dX7_goesBack_124 (lv_at hl 1 rfl) ?_
                      refine lv_aload_n hx hb dX7_goesBack_126 rfl (lv_at hl 2 rfl) ?_
                      obtain ⟨x_74, g_74, hf⟩ := b_some hf
                      refine xx_gL hZ hE k_X7 21 (by decide) rfl tw_402 g_74 dX7_goesBack_127 ?_
                      refine xx_lne (tgt := 144) hx hb dX7_goesBack_130 dX7_goesBack_131 (by decide) (fun h_75 => ?_) (fun h_75 => ?_)
                      · have hf := it_n h_75 hf
                        refine lv_iconst (v := 0) hx hb dX7_goesBack_144 (by decide) ?_
                        exact hret _ _ _ _ _ _ (pr_1 hf) (pr_2 hf) rfl dX7_goesBack_145 hE
                      · have hf := it_y h_75 hf
                        refine lv_lload hx hb dX7_goesBack_134 (lv_at hl 0 rfl) ?_
                        refine lv_aload_n hx hb dX7_goesBack_136 rfl (lv_at hl 2 rfl) ?_
                        obtain ⟨x_76, g_76, hf⟩ := b_some hf
                        refine xx_gL hZ hE k_X7 22 (by decide) rfl tw_403 g_76 dX7_goesBack_137 ?_
                        refine xx_leq (tgt := 146) hx hb dX7_goesBack_140 dX7_goesBack_141 (by decide) (fun h_77 => ?_) (fun h_77 => ?_)
                        · have hf := it_y h_77 hf
                          refine lv_iinc (v := (w_55_3 + 1)) (lv' := [(3, .int (w_55_3 + 1)), (6, .long x_65), (4, .long x_64), (0, .ref (ad o)), (1, .int a1), (2, .int w_52_2)]) hx hb dX7_goesBack_146 hl (k := 5) rfl rfl (by decide) rfl (fun ls hl => ?_)
                          refine lv_goto (tgt := 39) hx hb dX7_goesBack_149 (by decide) ?_
                          exact ih_39 _ _ _ _ _ hf hE (lv_sub hl [3, 4, 5, 0] rfl)
                        · have hf := it_n h_77 hf
                          refine lv_iconst (v := 0) hx hb dX7_goesBack_144 (by decide) ?_
                          exact hret _ _ _ _ _ _ (pr_1 hf) (pr_2 hf) rfl dX7_goesBack_145 hE
                    · have hf := it_y h_73 hf
                      refine lv_bipush (v := -4) hx hb dX7_goesBack_121 (by decide) ?_
                      exact hret _ _ _ _ _ _ (pr_1 hf) (pr_2 hf) rfl dX7_goesBack_123 hE
            exact L_55 _ _ _ _ _ _ hf hE (lv_sub hl [1, 2, 3, 0] rfl)
      exact L_52 _ _ _ _ _ _ hf hE (lv_sub hl [1, 2, 0] rfl)
    · have hf := it_y h_4 hf
      refine lv_iconst (v := -1) hx hb dX7_goesBack_18 (by decide) ?_
      exact hret _ _ _ _ _ _ (pr_1 hf) (pr_2 hf) rfl dX7_goesBack_19 hE
  · have hf := it_y h_2 hf
    refine lv_bipush (v := -2) hx hb dX7_goesBack_7 (by decide) ?_
    exact hret _ _ _ _ _ _ (pr_1 hf) (pr_2 hf) rfl dX7_goesBack_9 hE
def rm_X7_leads : Room := { frames := 1, cells := 0, slots := 0, locals := 23 }
def f_X7_leads (o : Nat) (a1 : Int32) (a2 : Int32) (a3 : Int32) (M : Mm) : Option (Mm) :=
    (op_gR M 7 o 15).bind fun x_1 =>
    (op_is M o 7).bind fun _ =>
    (f_X7_at o a1 a2 a3).bind fun z_2 =>
    (op_sZ M x_1 z_2 (1 : Int32)).bind fun M_3 =>
    some M_3
set_option maxHeartbeats 4000000 in
set_option maxRecDepth 100000 in
theorem c_X7_leads (l : Launch) (D : va_G) (cA : Nat → ClassId) (ad : Nat → Nat) (o : Nat) (a1 : Int32) (a2 : Int32) (a3 : Int32) (M : Mm) (zr : Mm) (hf : f_X7_leads o a1 a2 a3 M = some zr) : KV l yX7_leads cX7_leads 4 none rm_X7_leads D cA ad [.ref (ad o), .int a1, .int a2, .int a3] M zr := by
  refine KV_of (by decide) (Nat.le_of_ble_eq_true rfl) ?_
  intro p e s m args below meth c ls Q A H locs hZ hE hl hret
  have hx := hZ.1
  have hb := hZ.2.1
  have hown := hZ.2.2.2.1
  have hts := hZ.2.2.2.2.1
  have hl : lv_has ls 4 [(0, .ref (ad o)), (1, .int a1), (2, .int a2), (3, .int a3)] := hl
  unfold f_X7_leads at hf
  refine lv_aload_n hx hb dX7_leads_0 rfl (lv_at hl 0 rfl) ?_
  obtain ⟨x_1, g_1, hf⟩ := b_some hf
  refine xx_gR hZ hE k_X7 15 (by decide) rfl tw_486 g_1 dX7_leads_1 ?_
  refine lv_aload_n hx hb dX7_leads_4 rfl (lv_at hl 0 rfl) ?_
  refine lv_iload_n hx hb dX7_leads_5 rfl (lv_at hl 1 rfl) ?_
  refine lv_iload_n hx hb dX7_leads_6 rfl (lv_at hl 2 rfl) ?_
  refine lv_iload_n hx hb dX7_leads_7 rfl (lv_at hl 3 rfl) ?_
  obtain ⟨_, i_2, hf⟩ := b_some hf
  obtain ⟨z_2, c_2, hf⟩ := b_some hf
  refine xx_cVi hZ hE (As := [.int a1, .int a2, .int a3]) (rest := [.ref (ad x_1)]) k_X7 (is_m i_2) tw_462 tw_463 (c_X7_at l D cA ad o a1 a2 a3 M _ c_2) cw_X7_at tw_461 ⟨rfl, rfl⟩ ⟨Nat.le_of_ble_eq_true rfl, Nat.le_of_ble_eq_true rfl⟩ rfl hl.1 rfl (Nat.le_of_ble_eq_true rfl) ⟨Nat.le_of_ble_eq_true rfl, Nat.le_of_ble_eq_true rfl⟩ dX7_leads_8 (fun H locs hE => ?_)
  refine lv_iconst (v := 1) hx hb dX7_leads_11 (by decide) ?_
  obtain ⟨M_3, g_3, hf⟩ := b_some hf
  refine xx_sZ hZ hE g_3 dX7_leads_12 (fun H locs hE => ?_)
  exact hret _ _ _ _ _ (Option.some.inj hf) dX7_leads_13 hE
def rm_X7_proposes : Room := { frames := 2, cells := 0, slots := 0, locals := 46 }
def f_X7_proposes (o : Nat) (a1 : Int32) (a2 : Int32) (a3 : Int32) (M : Mm) : Option (Mm) :=
    (op_gR M 7 o 3).bind fun x_1 =>
    (op_aI M x_1 a2).bind fun x_2 =>
    op_jn (fun (M_3 : Mm) =>
    (op_gR M_3 7 o 3).bind fun x_10 =>
    (op_aI M_3 x_10 a3).bind fun x_11 =>
    (op_gR M_3 7 o 3).bind fun x_12 =>
    (op_aI M_3 x_12 a2).bind fun x_13 =>
    if x_13 ≤ x_11 then
    some M_3
    else
    (op_is M_3 o 7).bind fun _ =>
    (f_X7_leads o a1 a2 a2 M_3).bind fun z_15 =>
    some z_15)
    fun j_3 =>
    if x_2 = 0 then
    (op_is M o 7).bind fun _ =>
    (f_X7_leads o a1 a2 a3 M).bind fun z_5 =>
    j_3 z_5
    else
    (op_gR M 7 o 3).bind fun x_6 =>
    (op_aI M x_6 a3).bind fun x_7 =>
    if x_7 ≤ 0 then
    j_3 M
    else
    (op_is M o 7).bind fun _ =>
    (f_X7_leads o a1 a2 a3 M).bind fun z_9 =>
    j_3 z_9
set_option maxHeartbeats 4000000 in
set_option maxRecDepth 100000 in
theorem c_X7_proposes (l : Launch) (D : va_G) (cA : Nat → ClassId) (ad : Nat → Nat) (o : Nat) (a1 : Int32) (a2 : Int32) (a3 : Int32) (M : Mm) (zr : Mm) (hf : f_X7_proposes o a1 a2 a3 M = some zr) : KV l yX7_proposes cX7_proposes 4 none rm_X7_proposes D cA ad [.ref (ad o), .int a1, .int a2, .int a3] M zr := by
  refine KV_of (by decide) (Nat.le_of_ble_eq_true rfl) ?_
  intro p e s m args below meth c ls Q A H locs hZ hE hl hret
  have hx := hZ.1
  have hb := hZ.2.1
  have hown := hZ.2.2.2.1
  have hts := hZ.2.2.2.2.1
  have hl : lv_has ls 4 [(0, .ref (ad o)), (1, .int a1), (2, .int a2), (3, .int a3)] := hl
  unfold f_X7_proposes at hf
  refine lv_aload_n hx hb dX7_proposes_0 rfl (lv_at hl 0 rfl) ?_
  obtain ⟨x_1, g_1, hf⟩ := b_some hf
  refine xx_gR hZ hE k_X7 3 (by decide) rfl tw_371 g_1 dX7_proposes_1 ?_
  refine lv_iload_n hx hb dX7_proposes_4 rfl (lv_at hl 2 rfl) ?_
  obtain ⟨x_2, g_2, hf⟩ := b_some hf
  refine xx_aI hZ hE g_2 dX7_proposes_5 ?_
  obtain ⟨j_3, ej_3, hf⟩ := jn_e hf
  have q_3 : ∀ (M_3 : Mm) (H : Heap) (locs : List Loc) (ls : Array Slot), j_3 M_3 = some zr → En D cA ad s A M_3 H locs → lv_has ls 4 [(0, .ref (ad o)), (1, .int a1), (2, .int a2), (3, .int a3)] → W p l e rm_X7_proposes s m args below meth c H locs 0 0 Q (F0 m 25 ls []) := by
    intro M_3 H locs ls hf hE hl
    rw [ej_3] at hf
    refine lv_aload_n hx hb dX7_proposes_25 rfl (lv_at hl 0 rfl) ?_
    obtain ⟨x_10, g_10, hf⟩ := b_some hf
    refine xx_gR hZ hE k_X7 3 (by decide) rfl tw_371 g_10 dX7_proposes_26 ?_
    refine lv_iload_n hx hb dX7_proposes_29 rfl (lv_at hl 3 rfl) ?_
    obtain ⟨x_11, g_11, hf⟩ := b_some hf
    refine xx_aI hZ hE g_11 dX7_proposes_30 ?_
    refine lv_aload_n hx hb dX7_proposes_31 rfl (lv_at hl 0 rfl) ?_
    obtain ⟨x_12, g_12, hf⟩ := b_some hf
    refine xx_gR hZ hE k_X7 3 (by decide) rfl tw_371 g_12 dX7_proposes_32 ?_
    refine lv_iload_n hx hb dX7_proposes_35 rfl (lv_at hl 2 rfl) ?_
    obtain ⟨x_13, g_13, hf⟩ := b_some hf
    refine xx_aI hZ hE g_13 dX7_proposes_36 ?_
    refine lv_icmp_ge (tgt := 47) hx hb dX7_proposes_37 (by decide) (fun h_14 => ?_) (fun h_14 => ?_)
    · have hf := it_y h_14 hf
      exact hret _ _ _ _ _ (Option.some.inj hf) dX7_proposes_47 hE
    · have hf := it_n h_14 hf
      refine lv_aload_n hx hb dX7_proposes_40 rfl (lv_at hl 0 rfl) ?_
      refine lv_iload_n hx hb dX7_proposes_41 rfl (lv_at hl 1 rfl) ?_
      refine lv_iload_n hx hb dX7_proposes_42 rfl (lv_at hl 2 rfl) ?_
      refine lv_iload_n hx hb dX7_proposes_43 rfl (lv_at hl 2 rfl) ?_
      obtain ⟨_, i_15, hf⟩ := b_some hf
      obtain ⟨z_15, c_15, hf⟩ := b_some hf
      refine xx_cVv hZ hE (As := [.int a1, .int a2, .int a2]) (rest := []) k_X7 (is_m i_15) tw_488 tw_489 (c_X7_leads l D cA ad o a1 a2 a2 M_3 _ c_15) cw_X7_leads tw_487 ⟨rfl, rfl⟩ ⟨Nat.le_of_ble_eq_true rfl, Nat.le_of_ble_eq_true rfl⟩ rfl hl.1 rfl (Nat.le_of_ble_eq_true rfl) ⟨Nat.le_of_ble_eq_true rfl, Nat.le_of_ble_eq_true rfl⟩ dX7_proposes_44 (fun H locs hE => ?_)
      exact hret _ _ _ _ _ (Option.some.inj hf) dX7_proposes_47 hE
  refine lv_if_eq (tgt := 18) hx hb dX7_proposes_6 (by decide) (fun h_4 => ?_) (fun h_4 => ?_)
  · have hf := it_y h_4 hf
    refine lv_aload_n hx hb dX7_proposes_18 rfl (lv_at hl 0 rfl) ?_
    refine lv_iload_n hx hb dX7_proposes_19 rfl (lv_at hl 1 rfl) ?_
    refine lv_iload_n hx hb dX7_proposes_20 rfl (lv_at hl 2 rfl) ?_
    refine lv_iload_n hx hb dX7_proposes_21 rfl (lv_at hl 3 rfl) ?_
    obtain ⟨_, i_5, hf⟩ := b_some hf
    obtain ⟨z_5, c_5, hf⟩ := b_some hf
    refine xx_cVv hZ hE (As := [.int a1, .int a2, .int a3]) (rest := []) k_X7 (is_m i_5) tw_488 tw_489 (c_X7_leads l D cA ad o a1 a2 a3 M _ c_5) cw_X7_leads tw_487 ⟨rfl, rfl⟩ ⟨Nat.le_of_ble_eq_true rfl, Nat.le_of_ble_eq_true rfl⟩ rfl hl.1 rfl (Nat.le_of_ble_eq_true rfl) ⟨Nat.le_of_ble_eq_true rfl, Nat.le_of_ble_eq_true rfl⟩ dX7_proposes_22 (fun H locs hE => ?_)
    exact q_3 _ _ _ _ hf hE (lv_sub hl [0, 1, 2, 3] rfl)
  · have hf := it_n h_4 hf
    refine lv_aload_n hx hb dX7_proposes_9 rfl (lv_at hl 0 rfl) ?_
    obtain ⟨x_6, g_6, hf⟩ := b_some hf
    refine xx_gR hZ hE k_X7 3 (by decide) rfl tw_371 g_6 dX7_proposes_10 ?_
    refine lv_iload_n hx hb dX7_proposes_13 rfl (lv_at hl 3 rfl) ?_
    obtain ⟨x_7, g_7, hf⟩ := b_some hf
    refine xx_aI hZ hE g_7 dX7_proposes_14 ?_
    refine lv_if_le (tgt := 25) hx hb dX7_proposes_15 (by decide) (fun h_8 => ?_) (fun h_8 => ?_)
    · have hf := it_y h_8 hf
      exact q_3 _ _ _ _ hf hE (lv_sub hl [0, 1, 2, 3] rfl)
    · have hf := it_n h_8 hf
      refine lv_aload_n hx hb dX7_proposes_18 rfl (lv_at hl 0 rfl) ?_
      refine lv_iload_n hx hb dX7_proposes_19 rfl (lv_at hl 1 rfl) ?_
      refine lv_iload_n hx hb dX7_proposes_20 rfl (lv_at hl 2 rfl) ?_
      refine lv_iload_n hx hb dX7_proposes_21 rfl (lv_at hl 3 rfl) ?_
      obtain ⟨_, i_9, hf⟩ := b_some hf
      obtain ⟨z_9, c_9, hf⟩ := b_some hf
      refine xx_cVv hZ hE (As := [.int a1, .int a2, .int a3]) (rest := []) k_X7 (is_m i_9) tw_488 tw_489 (c_X7_leads l D cA ad o a1 a2 a3 M _ c_9) cw_X7_leads tw_487 ⟨rfl, rfl⟩ ⟨Nat.le_of_ble_eq_true rfl, Nat.le_of_ble_eq_true rfl⟩ rfl hl.1 rfl (Nat.le_of_ble_eq_true rfl) ⟨Nat.le_of_ble_eq_true rfl, Nat.le_of_ble_eq_true rfl⟩ dX7_proposes_22 (fun H locs hE => ?_)
      exact q_3 _ _ _ _ hf hE (lv_sub hl [0, 1, 2, 3] rfl)
def lp_X7_toldLeads_18 (i_0 : Nat) (i_1 : Int32) (i_2 : Int32) : Nat → Int32 → Mm → Option (Mm)
  | 0, _, _ => none
  | n_18 + 1, v_3, M =>
    (op_gI M 7 i_0 2).bind fun x_5 =>
    if x_5 ≤ v_3 then
    some M
    else
    (op_gR M 7 i_0 11).bind fun x_7 =>
    (op_is M i_0 7).bind fun _ =>
    (f_X7_at i_0 i_1 i_2 v_3).bind fun z_8 =>
    (op_aI M x_7 z_8).bind fun x_9 =>
    op_jn (fun (M_10 : Mm) =>
    lp_X7_toldLeads_18 i_0 i_1 i_2 n_18 (v_3 + 1) M_10)
    fun j_10 =>
    if x_9 ≤ 0 then
    j_10 M
    else
    (op_gR M 7 i_0 3).bind fun x_12 =>
    (op_aI M x_12 i_2).bind fun x_13 =>
    (op_is M i_0 7).bind fun _ =>
    (f_X7_above i_0 i_1 i_2 v_3 M).bind fun z_15 =>
    op_jn (fun (M_16 : Mm) =>
    if (if x_13 = 0 then (1 : Int32) else (if v_3 = i_2 then (1 : Int32) else (0 : Int32))) = 0 then
    (op_is M_16 i_0 7).bind fun _ =>
    (f_X7_below i_0 i_1 i_2 v_3 M_16).bind fun z_25 =>
    if z_15 < z_25 then
    (op_is M_16 i_0 7).bind fun _ =>
    (f_X7_leads i_0 i_1 i_2 i_2 M_16).bind fun z_27 =>
    j_10 z_27
    else
    if (if x_13 = 0 then (1 : Int32) else (if v_3 = i_2 then (1 : Int32) else (0 : Int32))) = 0 then
    if z_15 = (0 : Int64) then
    (op_is M_16 i_0 7).bind fun _ =>
    (f_X7_leads i_0 i_1 i_2 i_2 M_16).bind fun z_30 =>
    j_10 z_30
    else
    j_10 M_16
    else
    j_10 M_16
    else
    if (if x_13 = 0 then (1 : Int32) else (if v_3 = i_2 then (1 : Int32) else (0 : Int32))) = 0 then
    if z_15 = (0 : Int64) then
    (op_is M_16 i_0 7).bind fun _ =>
    (f_X7_leads i_0 i_1 i_2 i_2 M_16).bind fun z_24 =>
    j_10 z_24
    else
    j_10 M_16
    else
    j_10 M_16)
    fun j_16 =>
    if (if x_13 = 0 then (1 : Int32) else (if v_3 = i_2 then (1 : Int32) else (0 : Int32))) = 0 then
    if z_15 ≤ (0 : Int64) then
    j_16 M
    else
    (op_is M i_0 7).bind fun _ =>
    (f_X7_leads i_0 i_1 i_2 v_3 M).bind fun z_20 =>
    j_16 z_20
    else
    (op_is M i_0 7).bind fun _ =>
    (f_X7_leads i_0 i_1 i_2 v_3 M).bind fun z_18 =>
    j_16 z_18
theorem lp_X7_toldLeads_18_s (i_0 : Nat) (i_1 : Int32) (i_2 : Int32) {n_18 : Nat} {v_3 : Int32} {M : Mm} {zr : Mm} (hf : lp_X7_toldLeads_18 i_0 i_1 i_2 (n_18 + 1) v_3 M = some zr) : (
    (op_gI M 7 i_0 2).bind fun x_5 =>
    if x_5 ≤ v_3 then
    some M
    else
    (op_gR M 7 i_0 11).bind fun x_7 =>
    (op_is M i_0 7).bind fun _ =>
    (f_X7_at i_0 i_1 i_2 v_3).bind fun z_8 =>
    (op_aI M x_7 z_8).bind fun x_9 =>
    op_jn (fun (M_10 : Mm) =>
    lp_X7_toldLeads_18 i_0 i_1 i_2 n_18 (v_3 + 1) M_10)
    fun j_10 =>
    if x_9 ≤ 0 then
    j_10 M
    else
    (op_gR M 7 i_0 3).bind fun x_12 =>
    (op_aI M x_12 i_2).bind fun x_13 =>
    (op_is M i_0 7).bind fun _ =>
    (f_X7_above i_0 i_1 i_2 v_3 M).bind fun z_15 =>
    op_jn (fun (M_16 : Mm) =>
    if (if x_13 = 0 then (1 : Int32) else (if v_3 = i_2 then (1 : Int32) else (0 : Int32))) = 0 then
    (op_is M_16 i_0 7).bind fun _ =>
    (f_X7_below i_0 i_1 i_2 v_3 M_16).bind fun z_25 =>
    if z_15 < z_25 then
    (op_is M_16 i_0 7).bind fun _ =>
    (f_X7_leads i_0 i_1 i_2 i_2 M_16).bind fun z_27 =>
    j_10 z_27
    else
    if (if x_13 = 0 then (1 : Int32) else (if v_3 = i_2 then (1 : Int32) else (0 : Int32))) = 0 then
    if z_15 = (0 : Int64) then
    (op_is M_16 i_0 7).bind fun _ =>
    (f_X7_leads i_0 i_1 i_2 i_2 M_16).bind fun z_30 =>
    j_10 z_30
    else
    j_10 M_16
    else
    j_10 M_16
    else
    if (if x_13 = 0 then (1 : Int32) else (if v_3 = i_2 then (1 : Int32) else (0 : Int32))) = 0 then
    if z_15 = (0 : Int64) then
    (op_is M_16 i_0 7).bind fun _ =>
    (f_X7_leads i_0 i_1 i_2 i_2 M_16).bind fun z_24 =>
    j_10 z_24
    else
    j_10 M_16
    else
    j_10 M_16)
    fun j_16 =>
    if (if x_13 = 0 then (1 : Int32) else (if v_3 = i_2 then (1 : Int32) else (0 : Int32))) = 0 then
    if z_15 ≤ (0 : Int64) then
    j_16 M
    else
    (op_is M i_0 7).bind fun _ =>
    (f_X7_leads i_0 i_1 i_2 v_3 M).bind fun z_20 =>
    j_16 z_20
    else
    (op_is M i_0 7).bind fun _ =>
    (f_X7_leads i_0 i_1 i_2 v_3 M).bind fun z_18 =>
    j_16 z_18) = some zr := hf
def rm_X7_toldLeads : Room := { frames := 2, cells := 0, slots := 0, locals := 47 }
def f_X7_toldLeads (o : Nat) (a1 : Int32) (a2 : Int32) (M : Mm) : Option (Mm) :=
    (op_is M o 7).bind fun _ =>
    (f_X7_sumOfTold o a1 a2 M).bind fun z_1 =>
    op_jn (fun (M_2 : Mm) =>
    lp_X7_toldLeads_18  o a1 a2 FU (0 : Int32) M_2)
    fun j_2 =>
    if z_1 = 0 then
    (op_is M o 7).bind fun _ =>
    (f_X7_leads o a1 a2 a2 M).bind fun z_4 =>
    j_2 z_4
    else
    j_2 M
set_option maxHeartbeats 4000000 in
set_option maxRecDepth 100000 in
theorem c_X7_toldLeads (l : Launch) (D : va_G) (cA : Nat → ClassId) (ad : Nat → Nat) (o : Nat) (a1 : Int32) (a2 : Int32) (M : Mm) (zr : Mm) (hf : f_X7_toldLeads o a1 a2 M = some zr) : KV l yX7_toldLeads cX7_toldLeads 7 none rm_X7_toldLeads D cA ad [.ref (ad o), .int a1, .int a2] M zr := by
  refine KV_of (by decide) (Nat.le_of_ble_eq_true rfl) ?_
  intro p e s m args below meth c ls Q A H locs hZ hE hl hret
  have hx := hZ.1
  have hb := hZ.2.1
  have hown := hZ.2.2.2.1
  have hts := hZ.2.2.2.2.1
  have hl : lv_has ls 7 [(0, .ref (ad o)), (1, .int a1), (2, .int a2)] := hl
  unfold f_X7_toldLeads at hf
  refine lv_aload_n hx hb dX7_toldLeads_0 rfl (lv_at hl 0 rfl) ?_
  refine lv_iload_n hx hb dX7_toldLeads_1 rfl (lv_at hl 1 rfl) ?_
  refine lv_iload_n hx hb dX7_toldLeads_2 rfl (lv_at hl 2 rfl) ?_
  obtain ⟨_, i_1, hf⟩ := b_some hf
  obtain ⟨z_1, c_1, hf⟩ := b_some hf
  refine xx_cVi hZ hE (As := [.int a1, .int a2]) (rest := []) k_X7 (is_m i_1) tw_413 tw_414 (c_X7_sumOfTold l D cA ad o a1 a2 M _ c_1) cw_X7_sumOfTold tw_412 ⟨rfl, rfl⟩ ⟨Nat.le_of_ble_eq_true rfl, Nat.le_of_ble_eq_true rfl⟩ rfl hl.1 rfl (Nat.le_of_ble_eq_true rfl) ⟨Nat.le_of_ble_eq_true rfl, Nat.le_of_ble_eq_true rfl⟩ dX7_toldLeads_3 (fun H locs hE => ?_)
  obtain ⟨j_2, ej_2, hf⟩ := jn_e hf
  have q_2 : ∀ (M_2 : Mm) (H : Heap) (locs : List Loc) (ls : Array Slot), j_2 M_2 = some zr → En D cA ad s A M_2 H locs → lv_has ls 7 [(0, .ref (ad o)), (1, .int a1), (2, .int a2)] → W p l e rm_X7_toldLeads s m args below meth c H locs 0 0 Q (F0 m 16 ls []) := by
    intro M_2 H locs ls hf hE hl
    rw [ej_2] at hf
    refine lv_iconst (v := 0) hx hb dX7_toldLeads_16 (by decide) ?_
    refine lv_istore_n (lv' := [(3, .int (0 : Int32)), (0, .ref (ad o)), (1, .int a1), (2, .int a2)]) hx hb dX7_toldLeads_17 rfl hl (by decide) rfl (fun ls hl => ?_)
    have L_33 : ∀ (n_18 : Nat) (w_33_3 : Int32) (M_33 : Mm) (H : Heap) (locs : List Loc) (ls : Array Slot), lp_X7_toldLeads_18 o a1 a2 n_18 w_33_3 M_33 = some zr → En D cA ad s A M_33 H locs → lv_has ls 7 [(0, .ref (ad o)), (1, .int a1), (2, .int a2), (3, .int w_33_3)] → W p l e rm_X7_toldLeads s m args below meth c H locs 0 0 Q (F0 m 18 ls []) := by
      intro n_18
      induction n_18 with
      | zero =>
        intro w_33_3 M_33 H locs ls hf
        cases (show (none : Option (Mm)) = some zr from hf)
      | succ n_18 ih_18 =>
        intro w_33_3 M_33 H locs ls hf hE hl
        have hf := lp_X7_toldLeads_18_s _ _ _ hf
        refine lv_iload_n hx hb dX7_toldLeads_18 rfl (lv_at hl 3 rfl) ?_
        refine lv_aload_n hx hb dX7_toldLeads_19 rfl (lv_at hl 0 rfl) ?_
        obtain ⟨x_34, g_34, hf⟩ := b_some hf
        refine xx_gI hZ hE k_X7 2 (by decide) rfl tw_363 g_34 dX7_toldLeads_20 ?_
        refine lv_icmp_ge (tgt := 133) hx hb dX7_toldLeads_23 (by decide) (fun h_35 => ?_) (fun h_35 => ?_)
        · have hf := it_y h_35 hf
          exact hret _ _ _ _ _ (Option.some.inj hf) dX7_toldLeads_133 hE
        · have hf := it_n h_35 hf
          refine lv_aload_n hx hb dX7_toldLeads_26 rfl (lv_at hl 0 rfl) ?_
          obtain ⟨x_36, g_36, hf⟩ := b_some hf
          refine xx_gR hZ hE k_X7 11 (by decide) rfl tw_398 g_36 dX7_toldLeads_27 ?_
          refine lv_aload_n hx hb dX7_toldLeads_30 rfl (lv_at hl 0 rfl) ?_
          refine lv_iload_n hx hb dX7_toldLeads_31 rfl (lv_at hl 1 rfl) ?_
          refine lv_iload_n hx hb dX7_toldLeads_32 rfl (lv_at hl 2 rfl) ?_
          refine lv_iload_n hx hb dX7_toldLeads_33 rfl (lv_at hl 3 rfl) ?_
          obtain ⟨_, i_37, hf⟩ := b_some hf
          obtain ⟨z_37, c_37, hf⟩ := b_some hf
          refine xx_cVi hZ hE (As := [.int a1, .int a2, .int w_33_3]) (rest := [.ref (ad x_36)]) k_X7 (is_m i_37) tw_462 tw_463 (c_X7_at l D cA ad o a1 a2 w_33_3 M_33 _ c_37) cw_X7_at tw_461 ⟨rfl, rfl⟩ ⟨Nat.le_of_ble_eq_true rfl, Nat.le_of_ble_eq_true rfl⟩ rfl hl.1 rfl (Nat.le_of_ble_eq_true rfl) ⟨Nat.le_of_ble_eq_true rfl, Nat.le_of_ble_eq_true rfl⟩ dX7_toldLeads_34 (fun H locs hE => ?_)
          obtain ⟨x_38, g_38, hf⟩ := b_some hf
          refine xx_aI hZ hE g_38 dX7_toldLeads_37 ?_
          obtain ⟨j_39, ej_39, hf⟩ := jn_e hf
          have q_39 : ∀ (M_39 : Mm) (H : Heap) (locs : List Loc) (ls : Array Slot), j_39 M_39 = some zr → En D cA ad s A M_39 H locs → lv_has ls 7 [(0, .ref (ad o)), (1, .int a1), (2, .int a2), (3, .int w_33_3)] → W p l e rm_X7_toldLeads s m args below meth c H locs 0 0 Q (F0 m 127 ls []) := by
            intro M_39 H locs ls hf hE hl
            rw [ej_39] at hf
            refine lv_iinc (v := (w_33_3 + 1)) (lv' := [(3, .int (w_33_3 + 1)), (0, .ref (ad o)), (1, .int a1), (2, .int a2)]) hx hb dX7_toldLeads_127 hl (k := 3) rfl rfl (by decide) rfl (fun ls hl => ?_)
            refine lv_goto (tgt := 18) hx hb dX7_toldLeads_130 (by decide) ?_
            exact ih_18 _ _ _ _ _ hf hE (lv_sub hl [1, 2, 3, 0] rfl)
          refine lv_if_le (tgt := 127) hx hb dX7_toldLeads_38 (by decide) (fun h_40 => ?_) (fun h_40 => ?_)
          · have hf := it_y h_40 hf
            exact q_39 _ _ _ _ hf hE (lv_sub hl [0, 1, 2, 3] rfl)
          · have hf := it_n h_40 hf
            refine lv_aload_n hx hb dX7_toldLeads_41 rfl (lv_at hl 0 rfl) ?_
            obtain ⟨x_41, g_41, hf⟩ := b_some hf
            refine xx_gR hZ hE k_X7 3 (by decide) rfl tw_371 g_41 dX7_toldLeads_42 ?_
            refine lv_iload_n hx hb dX7_toldLeads_45 rfl (lv_at hl 2 rfl) ?_
            obtain ⟨x_42, g_42, hf⟩ := b_some hf
            refine xx_aI hZ hE g_42 dX7_toldLeads_46 ?_
            have q_43 : ∀ x_43 : Int32, x_43 = (if x_42 = 0 then (1 : Int32) else (if w_33_3 = a2 then (1 : Int32) else (0 : Int32))) → W p l e rm_X7_toldLeads s m args below meth c H locs 0 0 Q (F0 m 60 ls [.int x_43]) := by
              intro x_43 e_43
              subst e_43
              refine lv_istore (lv' := [(4, .int (if x_42 = 0 then (1 : Int32) else (if w_33_3 = a2 then (1 : Int32) else (0 : Int32)))), (0, .ref (ad o)), (1, .int a1), (2, .int a2), (3, .int w_33_3)]) hx hb dX7_toldLeads_60 hl (by decide) rfl (fun ls hl => ?_)
              refine lv_aload_n hx hb dX7_toldLeads_62 rfl (lv_at hl 1 rfl) ?_
              refine lv_iload_n hx hb dX7_toldLeads_63 rfl (lv_at hl 2 rfl) ?_
              refine lv_iload_n hx hb dX7_toldLeads_64 rfl (lv_at hl 3 rfl) ?_
              refine lv_iload_n hx hb dX7_toldLeads_65 rfl (lv_at hl 4 rfl) ?_
              obtain ⟨_, i_44, hf⟩ := b_some hf
              obtain ⟨z_44, c_44, hf⟩ := b_some hf
              refine xx_cVl hZ hE (As := [.int a1, .int a2, .int w_33_3]) (rest := []) k_X7 (is_m i_44) tw_416 tw_417 (c_X7_above l D cA ad o a1 a2 w_33_3 M_33 _ c_44) cw_X7_above tw_415 ⟨rfl, rfl⟩ ⟨Nat.le_of_ble_eq_true rfl, Nat.le_of_ble_eq_true rfl⟩ rfl hl.1 rfl (Nat.le_of_ble_eq_true rfl) ⟨Nat.le_of_ble_eq_true rfl, Nat.le_of_ble_eq_true rfl⟩ dX7_toldLeads_66 (fun H locs hE => ?_)
              refine lv_lstore (lv' := [(5, .long z_44), (4, .int (if x_42 = 0 then (1 : Int32) else (if w_33_3 = a2 then (1 : Int32) else (0 : Int32)))), (0, .ref (ad o)), (1, .int a1), (2, .int a2), (3, .int w_33_3)]) hx hb dX7_toldLeads_69 hl (by decide) rfl (fun ls hl => ?_)
              refine lv_iload hx hb dX7_toldLeads_71 (lv_at hl 1 rfl) ?_
              obtain ⟨j_45, ej_45, hf⟩ := jn_e hf
              have q_45 : ∀ (M_45 : Mm) (H : Heap) (locs : List Loc) (ls : Array Slot), j_45 M_45 = some zr → En D cA ad s A M_45 H locs → lv_has ls 7 [(0, .ref (ad o)), (1, .int a1), (2, .int a2), (3, .int w_33_3), (4, .int (if x_42 = 0 then (1 : Int32) else (if w_33_3 = a2 then (1 : Int32) else (0 : Int32)))), (5, .long z_44)] → W p l e rm_X7_toldLeads s m args below meth c H locs 0 0 Q (F0 m 90 ls []) := by
                intro M_45 H locs ls hf hE hl
                rw [ej_45] at hf
                refine lv_iload hx hb dX7_toldLeads_90 (lv_at hl 4 rfl) ?_
                refine lv_if_ne (tgt := 108) hx hb dX7_toldLeads_92 (by decide) (fun h_50 => ?_) (fun h_50 => ?_)
                · have hf := it_n h_50 hf
                  refine lv_iload hx hb dX7_toldLeads_108 (lv_at hl 4 rfl) ?_
                  refine lv_if_ne (tgt := 127) hx hb dX7_toldLeads_110 (by decide) (fun h_51 => ?_) (fun h_51 => ?_)
                  · have hf := it_n h_51 hf
                    exact q_39 _ _ _ _ hf hE (lv_sub hl [0, 1, 2, 3] rfl)
                  · have hf := it_y h_51 hf
                    refine lv_lload hx hb dX7_toldLeads_113 (lv_at hl 5 rfl) ?_
                    refine lv_lconst (v := 0) hx hb dX7_toldLeads_115 (by decide) ?_
                    refine xx_lne (tgt := 127) hx hb dX7_toldLeads_116 dX7_toldLeads_117 (by decide) (fun h_52 => ?_) (fun h_52 => ?_)
                    · have hf := it_n h_52 hf
                      exact q_39 _ _ _ _ hf hE (lv_sub hl [0, 1, 2, 3] rfl)
                    · have hf := it_y h_52 hf
                      refine lv_aload_n hx hb dX7_toldLeads_120 rfl (lv_at hl 0 rfl) ?_
                      refine lv_iload_n hx hb dX7_toldLeads_121 rfl (lv_at hl 1 rfl) ?_
                      refine lv_iload_n hx hb dX7_toldLeads_122 rfl (lv_at hl 2 rfl) ?_
                      refine lv_iload_n hx hb dX7_toldLeads_123 rfl (lv_at hl 2 rfl) ?_
                      obtain ⟨_, i_53, hf⟩ := b_some hf
                      obtain ⟨z_53, c_53, hf⟩ := b_some hf
                      refine xx_cVv hZ hE (As := [.int a1, .int a2, .int a2]) (rest := []) k_X7 (is_m i_53) tw_488 tw_489 (c_X7_leads l D cA ad o a1 a2 a2 M_45 _ c_53) cw_X7_leads tw_487 ⟨rfl, rfl⟩ ⟨Nat.le_of_ble_eq_true rfl, Nat.le_of_ble_eq_true rfl⟩ rfl hl.1 rfl (Nat.le_of_ble_eq_true rfl) ⟨Nat.le_of_ble_eq_true rfl, Nat.le_of_ble_eq_true rfl⟩ dX7_toldLeads_124 (fun H locs hE => ?_)
                      exact q_39 _ _ _ _ hf hE (lv_sub hl [0, 1, 2, 3] rfl)
                · have hf := it_y h_50 hf
                  refine lv_lload hx hb dX7_toldLeads_95 (lv_at hl 5 rfl) ?_
                  refine lv_aload_n hx hb dX7_toldLeads_97 rfl (lv_at hl 0 rfl) ?_
                  refine lv_iload_n hx hb dX7_toldLeads_98 rfl (lv_at hl 1 rfl) ?_
                  refine lv_iload_n hx hb dX7_toldLeads_99 rfl (lv_at hl 2 rfl) ?_
                  refine lv_iload_n hx hb dX7_toldLeads_100 rfl (lv_at hl 3 rfl) ?_
                  obtain ⟨_, i_54, hf⟩ := b_some hf
                  obtain ⟨z_54, c_54, hf⟩ := b_some hf
                  refine xx_cVl hZ hE (As := [.int a1, .int a2, .int w_33_3]) (rest := [.long z_44]) k_X7 (is_m i_54) tw_419 tw_420 (c_X7_below l D cA ad o a1 a2 w_33_3 M_45 _ c_54) cw_X7_below tw_418 ⟨rfl, rfl⟩ ⟨Nat.le_of_ble_eq_true rfl, Nat.le_of_ble_eq_true rfl⟩ rfl hl.1 rfl (Nat.le_of_ble_eq_true rfl) ⟨Nat.le_of_ble_eq_true rfl, Nat.le_of_ble_eq_true rfl⟩ dX7_toldLeads_101 (fun H locs hE => ?_)
                  refine xx_llt (tgt := 120) hx hb dX7_toldLeads_104 dX7_toldLeads_105 (by decide) (fun h_55 => ?_) (fun h_55 => ?_)
                  · have hf := it_y h_55 hf
                    refine lv_aload_n hx hb dX7_toldLeads_120 rfl (lv_at hl 0 rfl) ?_
                    refine lv_iload_n hx hb dX7_toldLeads_121 rfl (lv_at hl 1 rfl) ?_
                    refine lv_iload_n hx hb dX7_toldLeads_122 rfl (lv_at hl 2 rfl) ?_
                    refine lv_iload_n hx hb dX7_toldLeads_123 rfl (lv_at hl 2 rfl) ?_
                    obtain ⟨_, i_56, hf⟩ := b_some hf
                    obtain ⟨z_56, c_56, hf⟩ := b_some hf
                    refine xx_cVv hZ hE (As := [.int a1, .int a2, .int a2]) (rest := []) k_X7 (is_m i_56) tw_488 tw_489 (c_X7_leads l D cA ad o a1 a2 a2 M_45 _ c_56) cw_X7_leads tw_487 ⟨rfl, rfl⟩ ⟨Nat.le_of_ble_eq_true rfl, Nat.le_of_ble_eq_true rfl⟩ rfl hl.1 rfl (Nat.le_of_ble_eq_true rfl) ⟨Nat.le_of_ble_eq_true rfl, Nat.le_of_ble_eq_true rfl⟩ dX7_toldLeads_124 (fun H locs hE => ?_)
                    exact q_39 _ _ _ _ hf hE (lv_sub hl [0, 1, 2, 3] rfl)
                  · have hf := it_n h_55 hf
                    refine lv_iload hx hb dX7_toldLeads_108 (lv_at hl 4 rfl) ?_
                    refine lv_if_ne (tgt := 127) hx hb dX7_toldLeads_110 (by decide) (fun h_57 => ?_) (fun h_57 => ?_)
                    · have hf := it_n h_57 hf
                      exact q_39 _ _ _ _ hf hE (lv_sub hl [0, 1, 2, 3] rfl)
                    · have hf := it_y h_57 hf
                      refine lv_lload hx hb dX7_toldLeads_113 (lv_at hl 5 rfl) ?_
                      refine lv_lconst (v := 0) hx hb dX7_toldLeads_115 (by decide) ?_
                      refine xx_lne (tgt := 127) hx hb dX7_toldLeads_116 dX7_toldLeads_117 (by decide) (fun h_58 => ?_) (fun h_58 => ?_)
                      · have hf := it_n h_58 hf
                        exact q_39 _ _ _ _ hf hE (lv_sub hl [0, 1, 2, 3] rfl)
                      · have hf := it_y h_58 hf
                        refine lv_aload_n hx hb dX7_toldLeads_120 rfl (lv_at hl 0 rfl) ?_
                        refine lv_iload_n hx hb dX7_toldLeads_121 rfl (lv_at hl 1 rfl) ?_
                        refine lv_iload_n hx hb dX7_toldLeads_122 rfl (lv_at hl 2 rfl) ?_
                        refine lv_iload_n hx hb dX7_toldLeads_123 rfl (lv_at hl 2 rfl) ?_
                        obtain ⟨_, i_59, hf⟩ := b_some hf
                        obtain ⟨z_59, c_59, hf⟩ := b_some hf
                        refine xx_cVv hZ hE (As := [.int a1, .int a2, .int a2]) (rest := []) k_X7 (is_m i_59) tw_488 tw_489 (c_X7_leads l D cA ad o a1 a2 a2 M_45 _ c_59) cw_X7_leads tw_487 ⟨rfl, rfl⟩ ⟨Nat.le_of_ble_eq_true rfl, Nat.le_of_ble_eq_true rfl⟩ rfl hl.1 rfl (Nat.le_of_ble_eq_true rfl) ⟨Nat.le_of_ble_eq_true rfl, Nat.le_of_ble_eq_true rfl⟩ dX7_toldLeads_124 (fun H locs hE => ?_)
                        exact q_39 _ _ _ _ hf hE (lv_sub hl [0, 1, 2, 3] rfl)
              refine lv_if_ne (tgt := 83) hx hb dX7_toldLeads_73 (by decide) (fun h_46 => ?_) (fun h_46 => ?_)
              · have hf := it_n h_46 hf
                refine lv_aload_n hx hb dX7_toldLeads_83 rfl (lv_at hl 2 rfl) ?_
                refine lv_iload_n hx hb dX7_toldLeads_84 rfl (lv_at hl 3 rfl) ?_
                refine lv_iload_n hx hb dX7_toldLeads_85 rfl (lv_at hl 4 rfl) ?_
                refine lv_iload_n hx hb dX7_toldLeads_86 rfl (lv_at hl 5 rfl) ?_
                obtain ⟨_, i_47, hf⟩ := b_some hf
                obtain ⟨z_47, c_47, hf⟩ := b_some hf
                refine xx_cVv hZ hE (As := [.int a1, .int a2, .int w_33_3]) (rest := []) k_X7 (is_m i_47) tw_488 tw_489 (c_X7_leads l D cA ad o a1 a2 w_33_3 M_33 _ c_47) cw_X7_leads tw_487 ⟨rfl, rfl⟩ ⟨Nat.le_of_ble_eq_true rfl, Nat.le_of_ble_eq_true rfl⟩ rfl hl.1 rfl (Nat.le_of_ble_eq_true rfl) ⟨Nat.le_of_ble_eq_true rfl, Nat.le_of_ble_eq_true rfl⟩ dX7_toldLeads_87 (fun H locs hE => ?_)
                exact q_45 _ _ _ _ hf hE (lv_sub hl [2, 3, 4, 5, 1, 0] rfl)
              · have hf := it_y h_46 hf
                refine lv_lload hx hb dX7_toldLeads_76 (lv_at hl 0 rfl) ?_
                refine lv_lconst (v := 0) hx hb dX7_toldLeads_78 (by decide) ?_
                refine xx_lle (tgt := 90) hx hb dX7_toldLeads_79 dX7_toldLeads_80 (by decide) (fun h_48 => ?_) (fun h_48 => ?_)
                · have hf := it_y h_48 hf
                  exact q_45 _ _ _ _ hf hE (lv_sub hl [2, 3, 4, 5, 1, 0] rfl)
                · have hf := it_n h_48 hf
                  refine lv_aload_n hx hb dX7_toldLeads_83 rfl (lv_at hl 2 rfl) ?_
                  refine lv_iload_n hx hb dX7_toldLeads_84 rfl (lv_at hl 3 rfl) ?_
                  refine lv_iload_n hx hb dX7_toldLeads_85 rfl (lv_at hl 4 rfl) ?_
                  refine lv_iload_n hx hb dX7_toldLeads_86 rfl (lv_at hl 5 rfl) ?_
                  obtain ⟨_, i_49, hf⟩ := b_some hf
                  obtain ⟨z_49, c_49, hf⟩ := b_some hf
                  refine xx_cVv hZ hE (As := [.int a1, .int a2, .int w_33_3]) (rest := []) k_X7 (is_m i_49) tw_488 tw_489 (c_X7_leads l D cA ad o a1 a2 w_33_3 M_33 _ c_49) cw_X7_leads tw_487 ⟨rfl, rfl⟩ ⟨Nat.le_of_ble_eq_true rfl, Nat.le_of_ble_eq_true rfl⟩ rfl hl.1 rfl (Nat.le_of_ble_eq_true rfl) ⟨Nat.le_of_ble_eq_true rfl, Nat.le_of_ble_eq_true rfl⟩ dX7_toldLeads_87 (fun H locs hE => ?_)
                  exact q_45 _ _ _ _ hf hE (lv_sub hl [2, 3, 4, 5, 1, 0] rfl)
            refine lv_if_eq (tgt := 55) hx hb dX7_toldLeads_47 (by decide) (fun h_60 => ?_) (fun h_60 => ?_)
            · refine lv_iconst (v := 1) hx hb dX7_toldLeads_55 (by decide) ?_
              refine lv_goto (tgt := 60) hx hb dX7_toldLeads_56 (by decide) ?_
              exact q_43 _ (by rw [if_pos h_60])
            · refine lv_iload_n hx hb dX7_toldLeads_50 rfl (lv_at hl 3 rfl) ?_
              refine lv_iload_n hx hb dX7_toldLeads_51 rfl (lv_at hl 2 rfl) ?_
              refine lv_icmp_ne (tgt := 59) hx hb dX7_toldLeads_52 (by decide) (fun h_61 => ?_) (fun h_61 => ?_)
              · refine lv_iconst (v := 0) hx hb dX7_toldLeads_59 (by decide) ?_
                exact q_43 _ (by rw [if_neg h_60, if_neg h_61])
              · refine lv_iconst (v := 1) hx hb dX7_toldLeads_55 (by decide) ?_
                refine lv_goto (tgt := 60) hx hb dX7_toldLeads_56 (by decide) ?_
                exact q_43 _ (by rw [if_neg h_60, if_pos h_61])
    exact L_33 _ _ _ _ _ _ hf hE (lv_sub hl [1, 2, 3, 0] rfl)
  refine lv_if_ne (tgt := 16) hx hb dX7_toldLeads_6 (by decide) (fun h_3 => ?_) (fun h_3 => ?_)
  · have hf := it_n h_3 hf
    exact q_2 _ _ _ _ hf hE (lv_sub hl [0, 1, 2] rfl)
  · have hf := it_y h_3 hf
    refine lv_aload_n hx hb dX7_toldLeads_9 rfl (lv_at hl 0 rfl) ?_
    refine lv_iload_n hx hb dX7_toldLeads_10 rfl (lv_at hl 1 rfl) ?_
    refine lv_iload_n hx hb dX7_toldLeads_11 rfl (lv_at hl 2 rfl) ?_
    refine lv_iload_n hx hb dX7_toldLeads_12 rfl (lv_at hl 2 rfl) ?_
    obtain ⟨_, i_4, hf⟩ := b_some hf
    obtain ⟨z_4, c_4, hf⟩ := b_some hf
    refine xx_cVv hZ hE (As := [.int a1, .int a2, .int a2]) (rest := []) k_X7 (is_m i_4) tw_488 tw_489 (c_X7_leads l D cA ad o a1 a2 a2 M _ c_4) cw_X7_leads tw_487 ⟨rfl, rfl⟩ ⟨Nat.le_of_ble_eq_true rfl, Nat.le_of_ble_eq_true rfl⟩ rfl hl.1 rfl (Nat.le_of_ble_eq_true rfl) ⟨Nat.le_of_ble_eq_true rfl, Nat.le_of_ble_eq_true rfl⟩ dX7_toldLeads_13 (fun H locs hE => ?_)
    exact q_2 _ _ _ _ hf hE (lv_sub hl [0, 1, 2] rfl)
def lp_X7_plainLeads_105 (i_0 : Nat) (i_1 : Int32) (i_2 : Int32) (i_3 : Int32) (i_4 : Int32) : Nat → Int32 → Mm → Option (Mm)
  | 0, _, _ => none
  | n_105 + 1, v_5, M =>
    (op_gR M 7 i_0 1).bind fun x_18 =>
    (op_aI M x_18 i_3).bind fun x_19 =>
    if x_19 ≤ v_5 then
    some M
    else
    if i_4 = 0 then
    (op_gR M 7 i_0 3).bind fun x_22 =>
    (op_is M i_0 7).bind fun _ =>
    (f_X7_with i_0 i_2 i_3 v_5 M).bind fun z_23 =>
    (op_aI M x_22 z_23).bind fun x_24 =>
    op_jn (fun (M_25 : Mm) =>
    lp_X7_plainLeads_105 i_0 i_1 i_2 i_3 i_4 n_105 (v_5 + 1) M_25)
    fun j_25 =>
    if x_24 ≤ 0 then
    j_25 M
    else
    (op_is M i_0 7).bind fun _ =>
    (f_X7_with i_0 i_2 i_3 v_5 M).bind fun z_27 =>
    (op_is M i_0 7).bind fun _ =>
    (f_X7_leads i_0 i_1 i_2 z_27 M).bind fun z_28 =>
    j_25 z_28
    else
    some M
theorem lp_X7_plainLeads_105_s (i_0 : Nat) (i_1 : Int32) (i_2 : Int32) (i_3 : Int32) (i_4 : Int32) {n_105 : Nat} {v_5 : Int32} {M : Mm} {zr : Mm} (hf : lp_X7_plainLeads_105 i_0 i_1 i_2 i_3 i_4 (n_105 + 1) v_5 M = some zr) : (
    (op_gR M 7 i_0 1).bind fun x_18 =>
    (op_aI M x_18 i_3).bind fun x_19 =>
    if x_19 ≤ v_5 then
    some M
    else
    if i_4 = 0 then
    (op_gR M 7 i_0 3).bind fun x_22 =>
    (op_is M i_0 7).bind fun _ =>
    (f_X7_with i_0 i_2 i_3 v_5 M).bind fun z_23 =>
    (op_aI M x_22 z_23).bind fun x_24 =>
    op_jn (fun (M_25 : Mm) =>
    lp_X7_plainLeads_105 i_0 i_1 i_2 i_3 i_4 n_105 (v_5 + 1) M_25)
    fun j_25 =>
    if x_24 ≤ 0 then
    j_25 M
    else
    (op_is M i_0 7).bind fun _ =>
    (f_X7_with i_0 i_2 i_3 v_5 M).bind fun z_27 =>
    (op_is M i_0 7).bind fun _ =>
    (f_X7_leads i_0 i_1 i_2 z_27 M).bind fun z_28 =>
    j_25 z_28
    else
    some M) = some zr := hf
def rm_X7_plainLeads : Room := { frames := 4, cells := 0, slots := 0, locals := 93 }
def f_X7_plainLeads (o : Nat) (a1 : Int32) (a2 : Int32) (M : Mm) : Option (Mm) :=
    (op_gR M 7 o 6).bind fun x_1 =>
    (op_aI M x_1 a1).bind fun x_2 =>
    (op_gR M 7 o 5).bind fun x_3 =>
    (op_aI M x_3 a1).bind fun x_4 =>
    if x_4 = 0 then
    (op_gR M 7 o 5).bind fun x_6 =>
    (op_aI M x_6 a1).bind fun x_7 =>
    op_jn (fun (x_8_0 : Int32) =>
    op_jn (fun (M_15 : Mm) =>
    lp_X7_plainLeads_105  o a1 a2 x_2 x_8_0 FU (0 : Int32) M_15)
    fun j_15 =>
    if x_8_0 = 0 then
    j_15 M
    else
    (op_is M o 7).bind fun _ =>
    (f_X7_leads o a1 a2 a2 M).bind fun z_17 =>
    j_15 z_17)
    fun j_8 =>
    if x_7 = 0 then
    (op_is M o 7).bind fun _ =>
    (f_X7_sumOfLine o a2 x_2 M).bind fun z_13 =>
    if z_13 = 0 then
    j_8 (1 : Int32)
    else
    j_8 (0 : Int32)
    else
    (op_gR M 7 o 3).bind fun x_10 =>
    (op_aI M x_10 a2).bind fun x_11 =>
    if x_11 = 0 then
    j_8 (1 : Int32)
    else
    j_8 (0 : Int32)
    else
    if x_4 = 1 then
    (op_is M o 7).bind fun _ =>
    (f_X7_neighbour o a2 x_2 (1 : Int32) M).bind fun z_42 =>
    (op_is M o 7).bind fun _ =>
    (f_X7_proposes o a1 a2 z_42 M).bind fun z_43 =>
    (op_is z_43 o 7).bind fun _ =>
    (f_X7_neighbour o a2 x_2 (0 : Int32) z_43).bind fun z_44 =>
    (op_is z_43 o 7).bind fun _ =>
    (f_X7_proposes o a1 a2 z_44 z_43).bind fun z_45 =>
    some z_45
    else
    if x_4 = 2 then
    (op_gR M 7 o 7).bind fun x_47 =>
    (op_aI M x_47 a1).bind fun x_48 =>
    (op_is M o 7).bind fun _ =>
    (f_X7_swapped o a2 x_2 x_48 M).bind fun z_49 =>
    if z_49 = a2 then
    (op_is M o 7).bind fun _ =>
    (f_X7_leads o a1 a2 a2 M).bind fun z_52 =>
    some z_52
    else
    (op_is M o 7).bind fun _ =>
    (f_X7_proposes o a1 a2 z_49 M).bind fun z_51 =>
    some z_51
    else
    if x_4 = 3 then
    (op_is M o 7).bind fun _ =>
    (f_X7_toldLeads o a1 a2 M).bind fun z_54 =>
    some z_54
    else
    if x_4 = 4 then
    (op_gR M 7 o 5).bind fun x_56 =>
    (op_aI M x_56 a1).bind fun x_57 =>
    op_jn (fun (x_58_0 : Int32) =>
    op_jn (fun (M_65 : Mm) =>
    lp_X7_plainLeads_105  o a1 a2 x_2 x_58_0 FU (0 : Int32) M_65)
    fun j_65 =>
    if x_58_0 = 0 then
    j_65 M
    else
    (op_is M o 7).bind fun _ =>
    (f_X7_leads o a1 a2 a2 M).bind fun z_67 =>
    j_65 z_67)
    fun j_58 =>
    if x_57 = 0 then
    (op_is M o 7).bind fun _ =>
    (f_X7_sumOfLine o a2 x_2 M).bind fun z_63 =>
    if z_63 = 0 then
    j_58 (1 : Int32)
    else
    j_58 (0 : Int32)
    else
    (op_gR M 7 o 3).bind fun x_60 =>
    (op_aI M x_60 a2).bind fun x_61 =>
    if x_61 = 0 then
    j_58 (1 : Int32)
    else
    j_58 (0 : Int32)
    else
    (op_is M o 7).bind fun _ =>
    (f_X7_toldLeads o a1 a2 M).bind fun z_80 =>
    some z_80
set_option maxHeartbeats 4000000 in
set_option maxRecDepth 100000 in
theorem c_X7_plainLeads (l : Launch) (D : va_G) (cA : Nat → ClassId) (ad : Nat → Nat) (o : Nat) (a1 : Int32) (a2 : Int32) (M : Mm) (zr : Mm) (hf : f_X7_plainLeads o a1 a2 M = some zr) : KV l yX7_plainLeads cX7_plainLeads 6 none rm_X7_plainLeads D cA ad [.ref (ad o), .int a1, .int a2] M zr := by
  refine KV_of (by decide) (Nat.le_of_ble_eq_true rfl) ?_
  intro p e s m args below meth c ls Q A H locs hZ hE hl hret
  have hx := hZ.1
  have hb := hZ.2.1
  have hown := hZ.2.2.2.1
  have hts := hZ.2.2.2.2.1
  have hl : lv_has ls 6 [(0, .ref (ad o)), (1, .int a1), (2, .int a2)] := hl
  unfold f_X7_plainLeads at hf
  refine lv_aload_n hx hb dX7_plainLeads_0 rfl (lv_at hl 0 rfl) ?_
  obtain ⟨x_1, g_1, hf⟩ := b_some hf
  refine xx_gR hZ hE k_X7 6 (by decide) rfl tw_394 g_1 dX7_plainLeads_1 ?_
  refine lv_iload_n hx hb dX7_plainLeads_4 rfl (lv_at hl 1 rfl) ?_
  obtain ⟨x_2, g_2, hf⟩ := b_some hf
  refine xx_aI hZ hE g_2 dX7_plainLeads_5 ?_
  refine lv_istore_n (lv' := [(3, .int x_2), (0, .ref (ad o)), (1, .int a1), (2, .int a2)]) hx hb dX7_plainLeads_6 rfl hl (by decide) rfl (fun ls hl => ?_)
  refine lv_aload_n hx hb dX7_plainLeads_7 rfl (lv_at hl 1 rfl) ?_
  obtain ⟨x_3, g_3, hf⟩ := b_some hf
  refine xx_gR hZ hE k_X7 5 (by decide) rfl tw_393 g_3 dX7_plainLeads_8 ?_
  refine lv_iload_n hx hb dX7_plainLeads_11 rfl (lv_at hl 2 rfl) ?_
  obtain ⟨x_4, g_4, hf⟩ := b_some hf
  refine xx_aI hZ hE g_4 dX7_plainLeads_12 ?_
  by_cases h_5 : x_4 = 0
  · have hf := it_y h_5 hf
    refine xx_tsw (off := 35) (tgt := 48) hx hb dX7_plainLeads_13 0 h_5 (by decide) (by decide) ?_
    refine lv_aload_n hx hb dX7_plainLeads_48 rfl (lv_at hl 1 rfl) ?_
    obtain ⟨x_6, g_6, hf⟩ := b_some hf
    refine xx_gR hZ hE k_X7 5 (by decide) rfl tw_393 g_6 dX7_plainLeads_49 ?_
    refine lv_iload_n hx hb dX7_plainLeads_52 rfl (lv_at hl 2 rfl) ?_
    obtain ⟨x_7, g_7, hf⟩ := b_some hf
    refine xx_aI hZ hE g_7 dX7_plainLeads_53 ?_
    obtain ⟨j_8, ej_8, hf⟩ := jn_e hf
    have q_8 : ∀ (x_8_0 : Int32) (H : Heap) (locs : List Loc) (ls : Array Slot), j_8 x_8_0 = some zr → En D cA ad s A M H locs → lv_has ls 6 [(0, .ref (ad o)), (1, .int a1), (2, .int a2), (3, .int x_2)] → W p l e rm_X7_plainLeads s m args below meth c H locs 0 0 Q (F0 m 88 ls [.int x_8_0]) := by
      intro x_8_0 H locs ls hf hE hl
      rw [ej_8] at hf
      refine lv_istore (lv' := [(4, .int x_8_0), (0, .ref (ad o)), (1, .int a1), (2, .int a2), (3, .int x_2)]) hx hb dX7_plainLeads_88 hl (by decide) rfl (fun ls hl => ?_)
      refine lv_iload hx hb dX7_plainLeads_90 (lv_at hl 0 rfl) ?_
      obtain ⟨j_15, ej_15, hf⟩ := jn_e hf
      have q_15 : ∀ (M_15 : Mm) (H : Heap) (locs : List Loc) (ls : Array Slot), j_15 M_15 = some zr → En D cA ad s A M_15 H locs → lv_has ls 6 [(0, .ref (ad o)), (1, .int a1), (2, .int a2), (3, .int x_2), (4, .int x_8_0)] → W p l e rm_X7_plainLeads s m args below meth c H locs 0 0 Q (F0 m 102 ls []) := by
        intro M_15 H locs ls hf hE hl
        rw [ej_15] at hf
        refine lv_iconst (v := 0) hx hb dX7_plainLeads_102 (by decide) ?_
        refine lv_istore (lv' := [(5, .int (0 : Int32)), (0, .ref (ad o)), (1, .int a1), (2, .int a2), (3, .int x_2), (4, .int x_8_0)]) hx hb dX7_plainLeads_103 hl (by decide) rfl (fun ls hl => ?_)
        have L_29 : ∀ (n_105 : Nat) (w_29_5 : Int32) (M_29 : Mm) (H : Heap) (locs : List Loc) (ls : Array Slot), lp_X7_plainLeads_105 o a1 a2 x_2 x_8_0 n_105 w_29_5 M_29 = some zr → En D cA ad s A M_29 H locs → lv_has ls 6 [(0, .ref (ad o)), (1, .int a1), (2, .int a2), (3, .int x_2), (4, .int x_8_0), (5, .int w_29_5)] → W p l e rm_X7_plainLeads s m args below meth c H locs 0 0 Q (F0 m 105 ls []) := by
          intro n_105
          induction n_105 with
          | zero =>
            intro w_29_5 M_29 H locs ls hf
            cases (show (none : Option (Mm)) = some zr from hf)
          | succ n_105 ih_105 =>
            intro w_29_5 M_29 H locs ls hf hE hl
            have hf := lp_X7_plainLeads_105_s _ _ _ _ _ hf
            refine lv_iload hx hb dX7_plainLeads_105 (lv_at hl 5 rfl) ?_
            refine lv_aload_n hx hb dX7_plainLeads_107 rfl (lv_at hl 0 rfl) ?_
            obtain ⟨x_30, g_30, hf⟩ := b_some hf
            refine xx_gR hZ hE k_X7 1 (by decide) rfl tw_370 g_30 dX7_plainLeads_108 ?_
            refine lv_iload_n hx hb dX7_plainLeads_111 rfl (lv_at hl 3 rfl) ?_
            obtain ⟨x_31, g_31, hf⟩ := b_some hf
            refine xx_aI hZ hE g_31 dX7_plainLeads_112 ?_
            refine lv_icmp_ge (tgt := 157) hx hb dX7_plainLeads_113 (by decide) (fun h_32 => ?_) (fun h_32 => ?_)
            · have hf := it_y h_32 hf
              exact hret _ _ _ _ _ (Option.some.inj hf) dX7_plainLeads_157 hE
            · have hf := it_n h_32 hf
              refine lv_iload hx hb dX7_plainLeads_116 (lv_at hl 4 rfl) ?_
              refine lv_if_ne (tgt := 157) hx hb dX7_plainLeads_118 (by decide) (fun h_33 => ?_) (fun h_33 => ?_)
              · have hf := it_n h_33 hf
                exact hret _ _ _ _ _ (Option.some.inj hf) dX7_plainLeads_157 hE
              · have hf := it_y h_33 hf
                refine lv_aload_n hx hb dX7_plainLeads_121 rfl (lv_at hl 0 rfl) ?_
                obtain ⟨x_34, g_34, hf⟩ := b_some hf
                refine xx_gR hZ hE k_X7 3 (by decide) rfl tw_371 g_34 dX7_plainLeads_122 ?_
                refine lv_aload_n hx hb dX7_plainLeads_125 rfl (lv_at hl 0 rfl) ?_
                refine lv_iload_n hx hb dX7_plainLeads_126 rfl (lv_at hl 2 rfl) ?_
                refine lv_iload_n hx hb dX7_plainLeads_127 rfl (lv_at hl 3 rfl) ?_
                refine lv_iload hx hb dX7_plainLeads_128 (lv_at hl 5 rfl) ?_
                obtain ⟨_, i_35, hf⟩ := b_some hf
                obtain ⟨z_35, c_35, hf⟩ := b_some hf
                refine xx_cVi hZ hE (As := [.int a2, .int x_2, .int w_29_5]) (rest := [.ref (ad x_34)]) k_X7 (is_m i_35) tw_410 tw_411 (c_X7_with l D cA ad o a2 x_2 w_29_5 M_29 _ c_35) cw_X7_with tw_409 ⟨rfl, rfl⟩ ⟨Nat.le_of_ble_eq_true rfl, Nat.le_of_ble_eq_true rfl⟩ rfl hl.1 rfl (Nat.le_of_ble_eq_true rfl) ⟨Nat.le_of_ble_eq_true rfl, Nat.le_of_ble_eq_true rfl⟩ dX7_plainLeads_130 (fun H locs hE => ?_)
                obtain ⟨x_36, g_36, hf⟩ := b_some hf
                refine xx_aI hZ hE g_36 dX7_plainLeads_133 ?_
                obtain ⟨j_37, ej_37, hf⟩ := jn_e hf
                have q_37 : ∀ (M_37 : Mm) (H : Heap) (locs : List Loc) (ls : Array Slot), j_37 M_37 = some zr → En D cA ad s A M_37 H locs → lv_has ls 6 [(0, .ref (ad o)), (1, .int a1), (2, .int a2), (3, .int x_2), (4, .int x_8_0), (5, .int w_29_5)] → W p l e rm_X7_plainLeads s m args below meth c H locs 0 0 Q (F0 m 151 ls []) := by
                  intro M_37 H locs ls hf hE hl
                  rw [ej_37] at hf
                  refine lv_iinc (v := (w_29_5 + 1)) (lv' := [(5, .int (w_29_5 + 1)), (0, .ref (ad o)), (1, .int a1), (2, .int a2), (3, .int x_2), (4, .int x_8_0)]) hx hb dX7_plainLeads_151 hl (k := 5) rfl rfl (by decide) rfl (fun ls hl => ?_)
                  refine lv_goto (tgt := 105) hx hb dX7_plainLeads_154 (by decide) ?_
                  exact ih_105 _ _ _ _ _ hf hE (lv_sub hl [1, 2, 3, 4, 5, 0] rfl)
                refine lv_if_le (tgt := 151) hx hb dX7_plainLeads_134 (by decide) (fun h_38 => ?_) (fun h_38 => ?_)
                · have hf := it_y h_38 hf
                  exact q_37 _ _ _ _ hf hE (lv_sub hl [0, 1, 2, 3, 4, 5] rfl)
                · have hf := it_n h_38 hf
                  refine lv_aload_n hx hb dX7_plainLeads_137 rfl (lv_at hl 0 rfl) ?_
                  refine lv_iload_n hx hb dX7_plainLeads_138 rfl (lv_at hl 1 rfl) ?_
                  refine lv_iload_n hx hb dX7_plainLeads_139 rfl (lv_at hl 2 rfl) ?_
                  refine lv_aload_n hx hb dX7_plainLeads_140 rfl (lv_at hl 0 rfl) ?_
                  refine lv_iload_n hx hb dX7_plainLeads_141 rfl (lv_at hl 2 rfl) ?_
                  refine lv_iload_n hx hb dX7_plainLeads_142 rfl (lv_at hl 3 rfl) ?_
                  refine lv_iload hx hb dX7_plainLeads_143 (lv_at hl 5 rfl) ?_
                  obtain ⟨_, i_39, hf⟩ := b_some hf
                  obtain ⟨z_39, c_39, hf⟩ := b_some hf
                  refine xx_cVi hZ hE (As := [.int a2, .int x_2, .int w_29_5]) (rest := [.int a2, .int a1, .ref (ad o)]) k_X7 (is_m i_39) tw_410 tw_411 (c_X7_with l D cA ad o a2 x_2 w_29_5 M_29 _ c_39) cw_X7_with tw_409 ⟨rfl, rfl⟩ ⟨Nat.le_of_ble_eq_true rfl, Nat.le_of_ble_eq_true rfl⟩ rfl hl.1 rfl (Nat.le_of_ble_eq_true rfl) ⟨Nat.le_of_ble_eq_true rfl, Nat.le_of_ble_eq_true rfl⟩ dX7_plainLeads_145 (fun H locs hE => ?_)
                  obtain ⟨_, i_40, hf⟩ := b_some hf
                  obtain ⟨z_40, c_40, hf⟩ := b_some hf
                  refine xx_cVv hZ hE (As := [.int a1, .int a2, .int z_39]) (rest := []) k_X7 (is_m i_40) tw_488 tw_489 (c_X7_leads l D cA ad o a1 a2 z_39 M_29 _ c_40) cw_X7_leads tw_487 ⟨rfl, rfl⟩ ⟨Nat.le_of_ble_eq_true rfl, Nat.le_of_ble_eq_true rfl⟩ rfl hl.1 rfl (Nat.le_of_ble_eq_true rfl) ⟨Nat.le_of_ble_eq_true rfl, Nat.le_of_ble_eq_true rfl⟩ dX7_plainLeads_148 (fun H locs hE => ?_)
                  exact q_37 _ _ _ _ hf hE (lv_sub hl [0, 1, 2, 3, 4, 5] rfl)
        exact L_29 _ _ _ _ _ _ hf hE (lv_sub hl [1, 2, 3, 4, 5, 0] rfl)
      refine lv_if_eq (tgt := 102) hx hb dX7_plainLeads_92 (by decide) (fun h_16 => ?_) (fun h_16 => ?_)
      · have hf := it_y h_16 hf
        exact q_15 _ _ _ _ hf hE (lv_sub hl [1, 2, 3, 4, 0] rfl)
      · have hf := it_n h_16 hf
        refine lv_aload_n hx hb dX7_plainLeads_95 rfl (lv_at hl 1 rfl) ?_
        refine lv_iload_n hx hb dX7_plainLeads_96 rfl (lv_at hl 2 rfl) ?_
        refine lv_iload_n hx hb dX7_plainLeads_97 rfl (lv_at hl 3 rfl) ?_
        refine lv_iload_n hx hb dX7_plainLeads_98 rfl (lv_at hl 3 rfl) ?_
        obtain ⟨_, i_17, hf⟩ := b_some hf
        obtain ⟨z_17, c_17, hf⟩ := b_some hf
        refine xx_cVv hZ hE (As := [.int a1, .int a2, .int a2]) (rest := []) k_X7 (is_m i_17) tw_488 tw_489 (c_X7_leads l D cA ad o a1 a2 a2 M _ c_17) cw_X7_leads tw_487 ⟨rfl, rfl⟩ ⟨Nat.le_of_ble_eq_true rfl, Nat.le_of_ble_eq_true rfl⟩ rfl hl.1 rfl (Nat.le_of_ble_eq_true rfl) ⟨Nat.le_of_ble_eq_true rfl, Nat.le_of_ble_eq_true rfl⟩ dX7_plainLeads_99 (fun H locs hE => ?_)
        exact q_15 _ _ _ _ hf hE (lv_sub hl [1, 2, 3, 4, 0] rfl)
    refine lv_if_ne (tgt := 74) hx hb dX7_plainLeads_54 (by decide) (fun h_9 => ?_) (fun h_9 => ?_)
    · have hf := it_n h_9 hf
      refine lv_aload_n hx hb dX7_plainLeads_74 rfl (lv_at hl 1 rfl) ?_
      obtain ⟨x_10, g_10, hf⟩ := b_some hf
      refine xx_gR hZ hE k_X7 3 (by decide) rfl tw_371 g_10 dX7_plainLeads_75 ?_
      refine lv_iload_n hx hb dX7_plainLeads_78 rfl (lv_at hl 3 rfl) ?_
      obtain ⟨x_11, g_11, hf⟩ := b_some hf
      refine xx_aI hZ hE g_11 dX7_plainLeads_79 ?_
      refine lv_if_ne (tgt := 87) hx hb dX7_plainLeads_80 (by decide) (fun h_12 => ?_) (fun h_12 => ?_)
      · have hf := it_n h_12 hf
        refine lv_iconst (v := 0) hx hb dX7_plainLeads_87 (by decide) ?_
        exact q_8 _ _ _ _ hf hE (lv_sub hl [1, 2, 3, 0] rfl)
      · have hf := it_y h_12 hf
        refine lv_iconst (v := 1) hx hb dX7_plainLeads_83 (by decide) ?_
        refine lv_goto (tgt := 88) hx hb dX7_plainLeads_84 (by decide) ?_
        exact q_8 _ _ _ _ hf hE (lv_sub hl [1, 2, 3, 0] rfl)
    · have hf := it_y h_9 hf
      refine lv_aload_n hx hb dX7_plainLeads_57 rfl (lv_at hl 1 rfl) ?_
      refine lv_iload_n hx hb dX7_plainLeads_58 rfl (lv_at hl 3 rfl) ?_
      refine lv_iload_n hx hb dX7_plainLeads_59 rfl (lv_at hl 0 rfl) ?_
      obtain ⟨_, i_13, hf⟩ := b_some hf
      obtain ⟨z_13, c_13, hf⟩ := b_some hf
      refine xx_cVi hZ hE (As := [.int a2, .int x_2]) (rest := []) k_X7 (is_m i_13) tw_435 tw_436 (c_X7_sumOfLine l D cA ad o a2 x_2 M _ c_13) cw_X7_sumOfLine tw_434 ⟨rfl, rfl⟩ ⟨Nat.le_of_ble_eq_true rfl, Nat.le_of_ble_eq_true rfl⟩ rfl hl.1 rfl (Nat.le_of_ble_eq_true rfl) ⟨Nat.le_of_ble_eq_true rfl, Nat.le_of_ble_eq_true rfl⟩ dX7_plainLeads_60 (fun H locs hE => ?_)
      refine lv_if_ne (tgt := 70) hx hb dX7_plainLeads_63 (by decide) (fun h_14 => ?_) (fun h_14 => ?_)
      · have hf := it_n h_14 hf
        refine lv_iconst (v := 0) hx hb dX7_plainLeads_70 (by decide) ?_
        refine lv_goto (tgt := 88) hx hb dX7_plainLeads_71 (by decide) ?_
        exact q_8 _ _ _ _ hf hE (lv_sub hl [1, 2, 3, 0] rfl)
      · have hf := it_y h_14 hf
        refine lv_iconst (v := 1) hx hb dX7_plainLeads_66 (by decide) ?_
        refine lv_goto (tgt := 88) hx hb dX7_plainLeads_67 (by decide) ?_
        exact q_8 _ _ _ _ hf hE (lv_sub hl [1, 2, 3, 0] rfl)
  · have hf := it_n h_5 hf
    by_cases h_41 : x_4 = 1
    · have hf := it_y h_41 hf
      refine xx_tsw (off := 145) (tgt := 158) hx hb dX7_plainLeads_13 1 h_41 (by decide) (by decide) ?_
      refine lv_aload_n hx hb dX7_plainLeads_158 rfl (lv_at hl 1 rfl) ?_
      refine lv_iload_n hx hb dX7_plainLeads_159 rfl (lv_at hl 2 rfl) ?_
      refine lv_iload_n hx hb dX7_plainLeads_160 rfl (lv_at hl 3 rfl) ?_
      refine lv_aload_n hx hb dX7_plainLeads_161 rfl (lv_at hl 1 rfl) ?_
      refine lv_iload_n hx hb dX7_plainLeads_162 rfl (lv_at hl 3 rfl) ?_
      refine lv_iload_n hx hb dX7_plainLeads_163 rfl (lv_at hl 0 rfl) ?_
      refine lv_iconst (v := 1) hx hb dX7_plainLeads_164 (by decide) ?_
      obtain ⟨_, i_42, hf⟩ := b_some hf
      obtain ⟨z_42, c_42, hf⟩ := b_some hf
      refine xx_cVi hZ hE (As := [.int a2, .int x_2, .int (1 : Int32)]) (rest := [.int a2, .int a1, .ref (ad o)]) k_X7 (is_m i_42) tw_441 tw_442 (c_X7_neighbour l D cA ad o a2 x_2 (1 : Int32) M _ c_42) cw_X7_neighbour tw_440 ⟨rfl, rfl⟩ ⟨Nat.le_of_ble_eq_true rfl, Nat.le_of_ble_eq_true rfl⟩ rfl hl.1 rfl (Nat.le_of_ble_eq_true rfl) ⟨Nat.le_of_ble_eq_true rfl, Nat.le_of_ble_eq_true rfl⟩ dX7_plainLeads_165 (fun H locs hE => ?_)
      obtain ⟨_, i_43, hf⟩ := b_some hf
      obtain ⟨z_43, c_43, hf⟩ := b_some hf
      refine xx_cVv hZ hE (As := [.int a1, .int a2, .int z_42]) (rest := []) k_X7 (is_m i_43) tw_491 tw_492 (c_X7_proposes l D cA ad o a1 a2 z_42 M _ c_43) cw_X7_proposes tw_490 ⟨rfl, rfl⟩ ⟨Nat.le_of_ble_eq_true rfl, Nat.le_of_ble_eq_true rfl⟩ rfl hl.1 rfl (Nat.le_of_ble_eq_true rfl) ⟨Nat.le_of_ble_eq_true rfl, Nat.le_of_ble_eq_true rfl⟩ dX7_plainLeads_168 (fun H locs hE => ?_)
      refine lv_aload_n hx hb dX7_plainLeads_171 rfl (lv_at hl 1 rfl) ?_
      refine lv_iload_n hx hb dX7_plainLeads_172 rfl (lv_at hl 2 rfl) ?_
      refine lv_iload_n hx hb dX7_plainLeads_173 rfl (lv_at hl 3 rfl) ?_
      refine lv_aload_n hx hb dX7_plainLeads_174 rfl (lv_at hl 1 rfl) ?_
      refine lv_iload_n hx hb dX7_plainLeads_175 rfl (lv_at hl 3 rfl) ?_
      refine lv_iload_n hx hb dX7_plainLeads_176 rfl (lv_at hl 0 rfl) ?_
      refine lv_iconst (v := 0) hx hb dX7_plainLeads_177 (by decide) ?_
      obtain ⟨_, i_44, hf⟩ := b_some hf
      obtain ⟨z_44, c_44, hf⟩ := b_some hf
      refine xx_cVi hZ hE (As := [.int a2, .int x_2, .int (0 : Int32)]) (rest := [.int a2, .int a1, .ref (ad o)]) k_X7 (is_m i_44) tw_441 tw_442 (c_X7_neighbour l D cA ad o a2 x_2 (0 : Int32) z_43 _ c_44) cw_X7_neighbour tw_440 ⟨rfl, rfl⟩ ⟨Nat.le_of_ble_eq_true rfl, Nat.le_of_ble_eq_true rfl⟩ rfl hl.1 rfl (Nat.le_of_ble_eq_true rfl) ⟨Nat.le_of_ble_eq_true rfl, Nat.le_of_ble_eq_true rfl⟩ dX7_plainLeads_178 (fun H locs hE => ?_)
      obtain ⟨_, i_45, hf⟩ := b_some hf
      obtain ⟨z_45, c_45, hf⟩ := b_some hf
      refine xx_cVv hZ hE (As := [.int a1, .int a2, .int z_44]) (rest := []) k_X7 (is_m i_45) tw_491 tw_492 (c_X7_proposes l D cA ad o a1 a2 z_44 z_43 _ c_45) cw_X7_proposes tw_490 ⟨rfl, rfl⟩ ⟨Nat.le_of_ble_eq_true rfl, Nat.le_of_ble_eq_true rfl⟩ rfl hl.1 rfl (Nat.le_of_ble_eq_true rfl) ⟨Nat.le_of_ble_eq_true rfl, Nat.le_of_ble_eq_true rfl⟩ dX7_plainLeads_181 (fun H locs hE => ?_)
      exact hret _ _ _ _ _ (Option.some.inj hf) dX7_plainLeads_184 hE
    · have hf := it_n h_41 hf
      by_cases h_46 : x_4 = 2
      · have hf := it_y h_46 hf
        refine xx_tsw (off := 172) (tgt := 185) hx hb dX7_plainLeads_13 2 h_46 (by decide) (by decide) ?_
        refine lv_aload_n hx hb dX7_plainLeads_185 rfl (lv_at hl 1 rfl) ?_
        refine lv_iload_n hx hb dX7_plainLeads_186 rfl (lv_at hl 3 rfl) ?_
        refine lv_iload_n hx hb dX7_plainLeads_187 rfl (lv_at hl 0 rfl) ?_
        refine lv_aload_n hx hb dX7_plainLeads_188 rfl (lv_at hl 1 rfl) ?_
        obtain ⟨x_47, g_47, hf⟩ := b_some hf
        refine xx_gR hZ hE k_X7 7 (by decide) rfl tw_395 g_47 dX7_plainLeads_189 ?_
        refine lv_iload_n hx hb dX7_plainLeads_192 rfl (lv_at hl 2 rfl) ?_
        obtain ⟨x_48, g_48, hf⟩ := b_some hf
        refine xx_aI hZ hE g_48 dX7_plainLeads_193 ?_
        obtain ⟨_, i_49, hf⟩ := b_some hf
        obtain ⟨z_49, c_49, hf⟩ := b_some hf
        refine xx_cVi hZ hE (As := [.int a2, .int x_2, .int x_48]) (rest := []) k_X7 (is_m i_49) tw_451 tw_452 (c_X7_swapped l D cA ad o a2 x_2 x_48 M _ c_49) cw_X7_swapped tw_450 ⟨rfl, rfl⟩ ⟨Nat.le_of_ble_eq_true rfl, Nat.le_of_ble_eq_true rfl⟩ rfl hl.1 rfl (Nat.le_of_ble_eq_true rfl) ⟨Nat.le_of_ble_eq_true rfl, Nat.le_of_ble_eq_true rfl⟩ dX7_plainLeads_194 (fun H locs hE => ?_)
        refine lv_istore (lv' := [(5, .int z_49), (3, .int x_2), (0, .ref (ad o)), (1, .int a1), (2, .int a2)]) hx hb dX7_plainLeads_197 hl (by decide) rfl (fun ls hl => ?_)
        refine lv_iload hx hb dX7_plainLeads_199 (lv_at hl 0 rfl) ?_
        refine lv_iload_n hx hb dX7_plainLeads_201 rfl (lv_at hl 4 rfl) ?_
        refine lv_icmp_ne (tgt := 215) hx hb dX7_plainLeads_202 (by decide) (fun h_50 => ?_) (fun h_50 => ?_)
        · have hf := it_n h_50 hf
          refine lv_aload_n hx hb dX7_plainLeads_215 rfl (lv_at hl 2 rfl) ?_
          refine lv_iload_n hx hb dX7_plainLeads_216 rfl (lv_at hl 3 rfl) ?_
          refine lv_iload_n hx hb dX7_plainLeads_217 rfl (lv_at hl 4 rfl) ?_
          refine lv_iload hx hb dX7_plainLeads_218 (lv_at hl 0 rfl) ?_
          obtain ⟨_, i_51, hf⟩ := b_some hf
          obtain ⟨z_51, c_51, hf⟩ := b_some hf
          refine xx_cVv hZ hE (As := [.int a1, .int a2, .int z_49]) (rest := []) k_X7 (is_m i_51) tw_491 tw_492 (c_X7_proposes l D cA ad o a1 a2 z_49 M _ c_51) cw_X7_proposes tw_490 ⟨rfl, rfl⟩ ⟨Nat.le_of_ble_eq_true rfl, Nat.le_of_ble_eq_true rfl⟩ rfl hl.1 rfl (Nat.le_of_ble_eq_true rfl) ⟨Nat.le_of_ble_eq_true rfl, Nat.le_of_ble_eq_true rfl⟩ dX7_plainLeads_220 (fun H locs hE => ?_)
          exact hret _ _ _ _ _ (Option.some.inj hf) dX7_plainLeads_223 hE
        · have hf := it_y h_50 hf
          refine lv_aload_n hx hb dX7_plainLeads_205 rfl (lv_at hl 2 rfl) ?_
          refine lv_iload_n hx hb dX7_plainLeads_206 rfl (lv_at hl 3 rfl) ?_
          refine lv_iload_n hx hb dX7_plainLeads_207 rfl (lv_at hl 4 rfl) ?_
          refine lv_iload_n hx hb dX7_plainLeads_208 rfl (lv_at hl 4 rfl) ?_
          obtain ⟨_, i_52, hf⟩ := b_some hf
          obtain ⟨z_52, c_52, hf⟩ := b_some hf
          refine xx_cVv hZ hE (As := [.int a1, .int a2, .int a2]) (rest := []) k_X7 (is_m i_52) tw_488 tw_489 (c_X7_leads l D cA ad o a1 a2 a2 M _ c_52) cw_X7_leads tw_487 ⟨rfl, rfl⟩ ⟨Nat.le_of_ble_eq_true rfl, Nat.le_of_ble_eq_true rfl⟩ rfl hl.1 rfl (Nat.le_of_ble_eq_true rfl) ⟨Nat.le_of_ble_eq_true rfl, Nat.le_of_ble_eq_true rfl⟩ dX7_plainLeads_209 (fun H locs hE => ?_)
          refine lv_goto (tgt := 223) hx hb dX7_plainLeads_212 (by decide) ?_
          exact hret _ _ _ _ _ (Option.some.inj hf) dX7_plainLeads_223 hE
      · have hf := it_n h_46 hf
        by_cases h_53 : x_4 = 3
        · have hf := it_y h_53 hf
          refine xx_tsw (off := 211) (tgt := 224) hx hb dX7_plainLeads_13 3 h_53 (by decide) (by decide) ?_
          refine lv_aload_n hx hb dX7_plainLeads_224 rfl (lv_at hl 1 rfl) ?_
          refine lv_iload_n hx hb dX7_plainLeads_225 rfl (lv_at hl 2 rfl) ?_
          refine lv_iload_n hx hb dX7_plainLeads_226 rfl (lv_at hl 3 rfl) ?_
          obtain ⟨_, i_54, hf⟩ := b_some hf
          obtain ⟨z_54, c_54, hf⟩ := b_some hf
          refine xx_cVv hZ hE (As := [.int a1, .int a2]) (rest := []) k_X7 (is_m i_54) tw_494 tw_495 (c_X7_toldLeads l D cA ad o a1 a2 M _ c_54) cw_X7_toldLeads tw_493 ⟨rfl, rfl⟩ ⟨Nat.le_of_ble_eq_true rfl, Nat.le_of_ble_eq_true rfl⟩ rfl hl.1 rfl (Nat.le_of_ble_eq_true rfl) ⟨Nat.le_of_ble_eq_true rfl, Nat.le_of_ble_eq_true rfl⟩ dX7_plainLeads_227 (fun H locs hE => ?_)
          exact hret _ _ _ _ _ (Option.some.inj hf) dX7_plainLeads_230 hE
        · have hf := it_n h_53 hf
          by_cases h_55 : x_4 = 4
          · have hf := it_y h_55 hf
            refine xx_tsw (off := 35) (tgt := 48) hx hb dX7_plainLeads_13 4 h_55 (by decide) (by decide) ?_
            refine lv_aload_n hx hb dX7_plainLeads_48 rfl (lv_at hl 1 rfl) ?_
            obtain ⟨x_56, g_56, hf⟩ := b_some hf
            refine xx_gR hZ hE k_X7 5 (by decide) rfl tw_393 g_56 dX7_plainLeads_49 ?_
            refine lv_iload_n hx hb dX7_plainLeads_52 rfl (lv_at hl 2 rfl) ?_
            obtain ⟨x_57, g_57, hf⟩ := b_some hf
            refine xx_aI hZ hE g_57 dX7_plainLeads_53 ?_
            obtain ⟨j_58, ej_58, hf⟩ := jn_e hf
            have q_58 : ∀ (x_58_0 : Int32) (H : Heap) (locs : List Loc) (ls : Array Slot), j_58 x_58_0 = some zr → En D cA ad s A M H locs → lv_has ls 6 [(0, .ref (ad o)), (1, .int a1), (2, .int a2), (3, .int x_2)] → W p l e rm_X7_plainLeads s m args below meth c H locs 0 0 Q (F0 m 88 ls [.int x_58_0]) := by
              intro x_58_0 H locs ls hf hE hl
              rw [ej_58] at hf
              refine lv_istore (lv' := [(4, .int x_58_0), (0, .ref (ad o)), (1, .int a1), (2, .int a2), (3, .int x_2)]) hx hb dX7_plainLeads_88 hl (by decide) rfl (fun ls hl => ?_)
              refine lv_iload hx hb dX7_plainLeads_90 (lv_at hl 0 rfl) ?_
              obtain ⟨j_65, ej_65, hf⟩ := jn_e hf
              have q_65 : ∀ (M_65 : Mm) (H : Heap) (locs : List Loc) (ls : Array Slot), j_65 M_65 = some zr → En D cA ad s A M_65 H locs → lv_has ls 6 [(0, .ref (ad o)), (1, .int a1), (2, .int a2), (3, .int x_2), (4, .int x_58_0)] → W p l e rm_X7_plainLeads s m args below meth c H locs 0 0 Q (F0 m 102 ls []) := by
                intro M_65 H locs ls hf hE hl
                rw [ej_65] at hf
                refine lv_iconst (v := 0) hx hb dX7_plainLeads_102 (by decide) ?_
                refine lv_istore (lv' := [(5, .int (0 : Int32)), (0, .ref (ad o)), (1, .int a1), (2, .int a2), (3, .int x_2), (4, .int x_58_0)]) hx hb dX7_plainLeads_103 hl (by decide) rfl (fun ls hl => ?_)
                have L_68 : ∀ (n_105 : Nat) (w_68_5 : Int32) (M_68 : Mm) (H : Heap) (locs : List Loc) (ls : Array Slot), lp_X7_plainLeads_105 o a1 a2 x_2 x_58_0 n_105 w_68_5 M_68 = some zr → En D cA ad s A M_68 H locs → lv_has ls 6 [(0, .ref (ad o)), (1, .int a1), (2, .int a2), (3, .int x_2), (4, .int x_58_0), (5, .int w_68_5)] → W p l e rm_X7_plainLeads s m args below meth c H locs 0 0 Q (F0 m 105 ls []) := by
                  intro n_105
                  induction n_105 with
                  | zero =>
                    intro w_68_5 M_68 H locs ls hf
                    cases (show (none : Option (Mm)) = some zr from hf)
                  | succ n_105 ih_105 =>
                    intro w_68_5 M_68 H locs ls hf hE hl
                    have hf := lp_X7_plainLeads_105_s _ _ _ _ _ hf
                    refine lv_iload hx hb dX7_plainLeads_105 (lv_at hl 5 rfl) ?_
                    refine lv_aload_n hx hb dX7_plainLeads_107 rfl (lv_at hl 0 rfl) ?_
                    obtain ⟨x_69, g_69, hf⟩ := b_some hf
                    refine xx_gR hZ hE k_X7 1 (by decide) rfl tw_370 g_69 dX7_plainLeads_108 ?_
                    refine lv_iload_n hx hb dX7_plainLeads_111 rfl (lv_at hl 3 rfl) ?_
                    obtain ⟨x_70, g_70, hf⟩ := b_some hf
                    refine xx_aI hZ hE g_70 dX7_plainLeads_112 ?_
                    refine lv_icmp_ge (tgt := 157) hx hb dX7_plainLeads_113 (by decide) (fun h_71 => ?_) (fun h_71 => ?_)
                    · have hf := it_y h_71 hf
                      exact hret _ _ _ _ _ (Option.some.inj hf) dX7_plainLeads_157 hE
                    · have hf := it_n h_71 hf
                      refine lv_iload hx hb dX7_plainLeads_116 (lv_at hl 4 rfl) ?_
                      refine lv_if_ne (tgt := 157) hx hb dX7_plainLeads_118 (by decide) (fun h_72 => ?_) (fun h_72 => ?_)
                      · have hf := it_n h_72 hf
                        exact hret _ _ _ _ _ (Option.some.inj hf) dX7_plainLeads_157 hE
                      · have hf := it_y h_72 hf
                        refine lv_aload_n hx hb dX7_plainLeads_121 rfl (lv_at hl 0 rfl) ?_
                        obtain ⟨x_73, g_73, hf⟩ := b_some hf
                        refine xx_gR hZ hE k_X7 3 (by decide) rfl tw_371 g_73 dX7_plainLeads_122 ?_
                        refine lv_aload_n hx hb dX7_plainLeads_125 rfl (lv_at hl 0 rfl) ?_
                        refine lv_iload_n hx hb dX7_plainLeads_126 rfl (lv_at hl 2 rfl) ?_
                        refine lv_iload_n hx hb dX7_plainLeads_127 rfl (lv_at hl 3 rfl) ?_
                        refine lv_iload hx hb dX7_plainLeads_128 (lv_at hl 5 rfl) ?_
                        obtain ⟨_, i_74, hf⟩ := b_some hf
                        obtain ⟨z_74, c_74, hf⟩ := b_some hf
                        refine xx_cVi hZ hE (As := [.int a2, .int x_2, .int w_68_5]) (rest := [.ref (ad x_73)]) k_X7 (is_m i_74) tw_410 tw_411 (c_X7_with l D cA ad o a2 x_2 w_68_5 M_68 _ c_74) cw_X7_with tw_409 ⟨rfl, rfl⟩ ⟨Nat.le_of_ble_eq_true rfl, Nat.le_of_ble_eq_true rfl⟩ rfl hl.1 rfl (Nat.le_of_ble_eq_true rfl) ⟨Nat.le_of_ble_eq_true rfl, Nat.le_of_ble_eq_true rfl⟩ dX7_plainLeads_130 (fun H locs hE => ?_)
                        obtain ⟨x_75, g_75, hf⟩ := b_some hf
                        refine xx_aI hZ hE g_75 dX7_plainLeads_133 ?_
                        obtain ⟨j_76, ej_76, hf⟩ := jn_e hf
                        have q_76 : ∀ (M_76 : Mm) (H : Heap) (locs : List Loc) (ls : Array Slot), j_76 M_76 = some zr → En D cA ad s A M_76 H locs → lv_has ls 6 [(0, .ref (ad o)), (1, .int a1), (2, .int a2), (3, .int x_2), (4, .int x_58_0), (5, .int w_68_5)] → W p l e rm_X7_plainLeads s m args below meth c H locs 0 0 Q (F0 m 151 ls []) := by
                          intro M_76 H locs ls hf hE hl
                          rw [ej_76] at hf
                          refine lv_iinc (v := (w_68_5 + 1)) (lv' := [(5, .int (w_68_5 + 1)), (0, .ref (ad o)), (1, .int a1), (2, .int a2), (3, .int x_2), (4, .int x_58_0)]) hx hb dX7_plainLeads_151 hl (k := 5) rfl rfl (by decide) rfl (fun ls hl => ?_)
                          refine lv_goto (tgt := 105) hx hb dX7_plainLeads_154 (by decide) ?_
                          exact ih_105 _ _ _ _ _ hf hE (lv_sub hl [1, 2, 3, 4, 5, 0] rfl)
                        refine lv_if_le (tgt := 151) hx hb dX7_plainLeads_134 (by decide) (fun h_77 => ?_) (fun h_77 => ?_)
                        · have hf := it_y h_77 hf
                          exact q_76 _ _ _ _ hf hE (lv_sub hl [0, 1, 2, 3, 4, 5] rfl)
                        · have hf := it_n h_77 hf
                          refine lv_aload_n hx hb dX7_plainLeads_137 rfl (lv_at hl 0 rfl) ?_
                          refine lv_iload_n hx hb dX7_plainLeads_138 rfl (lv_at hl 1 rfl) ?_
                          refine lv_iload_n hx hb dX7_plainLeads_139 rfl (lv_at hl 2 rfl) ?_
                          refine lv_aload_n hx hb dX7_plainLeads_140 rfl (lv_at hl 0 rfl) ?_
                          refine lv_iload_n hx hb dX7_plainLeads_141 rfl (lv_at hl 2 rfl) ?_
                          refine lv_iload_n hx hb dX7_plainLeads_142 rfl (lv_at hl 3 rfl) ?_
                          refine lv_iload hx hb dX7_plainLeads_143 (lv_at hl 5 rfl) ?_
                          obtain ⟨_, i_78, hf⟩ := b_some hf
                          obtain ⟨z_78, c_78, hf⟩ := b_some hf
                          refine xx_cVi hZ hE (As := [.int a2, .int x_2, .int w_68_5]) (rest := [.int a2, .int a1, .ref (ad o)]) k_X7 (is_m i_78) tw_410 tw_411 (c_X7_with l D cA ad o a2 x_2 w_68_5 M_68 _ c_78) cw_X7_with tw_409 ⟨rfl, rfl⟩ ⟨Nat.le_of_ble_eq_true rfl, Nat.le_of_ble_eq_true rfl⟩ rfl hl.1 rfl (Nat.le_of_ble_eq_true rfl) ⟨Nat.le_of_ble_eq_true rfl, Nat.le_of_ble_eq_true rfl⟩ dX7_plainLeads_145 (fun H locs hE => ?_)
                          obtain ⟨_, i_79, hf⟩ := b_some hf
                          obtain ⟨z_79, c_79, hf⟩ := b_some hf
                          refine xx_cVv hZ hE (As := [.int a1, .int a2, .int z_78]) (rest := []) k_X7 (is_m i_79) tw_488 tw_489 (c_X7_leads l D cA ad o a1 a2 z_78 M_68 _ c_79) cw_X7_leads tw_487 ⟨rfl, rfl⟩ ⟨Nat.le_of_ble_eq_true rfl, Nat.le_of_ble_eq_true rfl⟩ rfl hl.1 rfl (Nat.le_of_ble_eq_true rfl) ⟨Nat.le_of_ble_eq_true rfl, Nat.le_of_ble_eq_true rfl⟩ dX7_plainLeads_148 (fun H locs hE => ?_)
                          exact q_76 _ _ _ _ hf hE (lv_sub hl [0, 1, 2, 3, 4, 5] rfl)
                exact L_68 _ _ _ _ _ _ hf hE (lv_sub hl [1, 2, 3, 4, 5, 0] rfl)
              refine lv_if_eq (tgt := 102) hx hb dX7_plainLeads_92 (by decide) (fun h_66 => ?_) (fun h_66 => ?_)
              · have hf := it_y h_66 hf
                exact q_65 _ _ _ _ hf hE (lv_sub hl [1, 2, 3, 4, 0] rfl)
              · have hf := it_n h_66 hf
                refine lv_aload_n hx hb dX7_plainLeads_95 rfl (lv_at hl 1 rfl) ?_
                refine lv_iload_n hx hb dX7_plainLeads_96 rfl (lv_at hl 2 rfl) ?_
                refine lv_iload_n hx hb dX7_plainLeads_97 rfl (lv_at hl 3 rfl) ?_
                refine lv_iload_n hx hb dX7_plainLeads_98 rfl (lv_at hl 3 rfl) ?_
                obtain ⟨_, i_67, hf⟩ := b_some hf
                obtain ⟨z_67, c_67, hf⟩ := b_some hf
                refine xx_cVv hZ hE (As := [.int a1, .int a2, .int a2]) (rest := []) k_X7 (is_m i_67) tw_488 tw_489 (c_X7_leads l D cA ad o a1 a2 a2 M _ c_67) cw_X7_leads tw_487 ⟨rfl, rfl⟩ ⟨Nat.le_of_ble_eq_true rfl, Nat.le_of_ble_eq_true rfl⟩ rfl hl.1 rfl (Nat.le_of_ble_eq_true rfl) ⟨Nat.le_of_ble_eq_true rfl, Nat.le_of_ble_eq_true rfl⟩ dX7_plainLeads_99 (fun H locs hE => ?_)
                exact q_65 _ _ _ _ hf hE (lv_sub hl [1, 2, 3, 4, 0] rfl)
            refine lv_if_ne (tgt := 74) hx hb dX7_plainLeads_54 (by decide) (fun h_59 => ?_) (fun h_59 => ?_)
            · have hf := it_n h_59 hf
              refine lv_aload_n hx hb dX7_plainLeads_74 rfl (lv_at hl 1 rfl) ?_
              obtain ⟨x_60, g_60, hf⟩ := b_some hf
              refine xx_gR hZ hE k_X7 3 (by decide) rfl tw_371 g_60 dX7_plainLeads_75 ?_
              refine lv_iload_n hx hb dX7_plainLeads_78 rfl (lv_at hl 3 rfl) ?_
              obtain ⟨x_61, g_61, hf⟩ := b_some hf
              refine xx_aI hZ hE g_61 dX7_plainLeads_79 ?_
              refine lv_if_ne (tgt := 87) hx hb dX7_plainLeads_80 (by decide) (fun h_62 => ?_) (fun h_62 => ?_)
              · have hf := it_n h_62 hf
                refine lv_iconst (v := 0) hx hb dX7_plainLeads_87 (by decide) ?_
                exact q_58 _ _ _ _ hf hE (lv_sub hl [1, 2, 3, 0] rfl)
              · have hf := it_y h_62 hf
                refine lv_iconst (v := 1) hx hb dX7_plainLeads_83 (by decide) ?_
                refine lv_goto (tgt := 88) hx hb dX7_plainLeads_84 (by decide) ?_
                exact q_58 _ _ _ _ hf hE (lv_sub hl [1, 2, 3, 0] rfl)
            · have hf := it_y h_59 hf
              refine lv_aload_n hx hb dX7_plainLeads_57 rfl (lv_at hl 1 rfl) ?_
              refine lv_iload_n hx hb dX7_plainLeads_58 rfl (lv_at hl 3 rfl) ?_
              refine lv_iload_n hx hb dX7_plainLeads_59 rfl (lv_at hl 0 rfl) ?_
              obtain ⟨_, i_63, hf⟩ := b_some hf
              obtain ⟨z_63, c_63, hf⟩ := b_some hf
              refine xx_cVi hZ hE (As := [.int a2, .int x_2]) (rest := []) k_X7 (is_m i_63) tw_435 tw_436 (c_X7_sumOfLine l D cA ad o a2 x_2 M _ c_63) cw_X7_sumOfLine tw_434 ⟨rfl, rfl⟩ ⟨Nat.le_of_ble_eq_true rfl, Nat.le_of_ble_eq_true rfl⟩ rfl hl.1 rfl (Nat.le_of_ble_eq_true rfl) ⟨Nat.le_of_ble_eq_true rfl, Nat.le_of_ble_eq_true rfl⟩ dX7_plainLeads_60 (fun H locs hE => ?_)
              refine lv_if_ne (tgt := 70) hx hb dX7_plainLeads_63 (by decide) (fun h_64 => ?_) (fun h_64 => ?_)
              · have hf := it_n h_64 hf
                refine lv_iconst (v := 0) hx hb dX7_plainLeads_70 (by decide) ?_
                refine lv_goto (tgt := 88) hx hb dX7_plainLeads_71 (by decide) ?_
                exact q_58 _ _ _ _ hf hE (lv_sub hl [1, 2, 3, 0] rfl)
              · have hf := it_y h_64 hf
                refine lv_iconst (v := 1) hx hb dX7_plainLeads_66 (by decide) ?_
                refine lv_goto (tgt := 88) hx hb dX7_plainLeads_67 (by decide) ?_
                exact q_58 _ _ _ _ hf hE (lv_sub hl [1, 2, 3, 0] rfl)
          · have hf := it_n h_55 hf
            have sw := (⟨i32m h_5 (n := 0) (by decide), i32m h_41 (n := 1) (by decide), i32m h_46 (n := 2) (by decide), i32m h_53 (n := 3) (by decide), i32m h_55 (n := 4) (by decide), trivial⟩ : x_4.toInt ≠ 0 ∧ x_4.toInt ≠ 1 ∧ x_4.toInt ≠ 2 ∧ x_4.toInt ≠ 3 ∧ x_4.toInt ≠ 4 ∧ True)
            refine lv_tableOut (tgt := 224) hx hb dX7_plainLeads_13 (by omega) (by decide) ?_
            refine lv_aload_n hx hb dX7_plainLeads_224 rfl (lv_at hl 1 rfl) ?_
            refine lv_iload_n hx hb dX7_plainLeads_225 rfl (lv_at hl 2 rfl) ?_
            refine lv_iload_n hx hb dX7_plainLeads_226 rfl (lv_at hl 3 rfl) ?_
            obtain ⟨_, i_80, hf⟩ := b_some hf
            obtain ⟨z_80, c_80, hf⟩ := b_some hf
            refine xx_cVv hZ hE (As := [.int a1, .int a2]) (rest := []) k_X7 (is_m i_80) tw_494 tw_495 (c_X7_toldLeads l D cA ad o a1 a2 M _ c_80) cw_X7_toldLeads tw_493 ⟨rfl, rfl⟩ ⟨Nat.le_of_ble_eq_true rfl, Nat.le_of_ble_eq_true rfl⟩ rfl hl.1 rfl (Nat.le_of_ble_eq_true rfl) ⟨Nat.le_of_ble_eq_true rfl, Nat.le_of_ble_eq_true rfl⟩ dX7_plainLeads_227 (fun H locs hE => ?_)
            exact hret _ _ _ _ _ (Option.some.inj hf) dX7_plainLeads_230 hE
def lp_X7_nestedLeads_76 (k_143 : Int32 → Option (Mm)) (i_0 : Nat) (i_1 : Int32) (i_2 : Int32) (i_3 : Int32) (M : Mm) : Nat → Int32 → Int32 → Option (Mm)
  | 0, _, _ => none
  | n_76 + 1, v_4, v_5 =>
    (op_gI M 7 i_0 2).bind fun x_7 =>
    if x_7 ≤ v_5 then
    k_143 v_4
    else
    (op_gR M 7 i_0 15).bind fun x_9 =>
    (op_gR M 7 i_0 6).bind fun x_10 =>
    (op_aI M x_10 i_1).bind fun x_11 =>
    (op_is M i_0 7).bind fun _ =>
    (f_X7_at i_0 x_11 i_2 v_5).bind fun z_12 =>
    (op_aZ M x_9 z_12).bind fun x_13 =>
    op_jn (fun (x_14_0 : Int32) =>
    lp_X7_nestedLeads_76 k_143 i_0 i_1 i_2 i_3 M n_76 (v_4 ||| x_14_0) (v_5 + 1))
    fun j_14 =>
    if x_13 = 0 then
    j_14 (0 : Int32)
    else
    (op_gR M 7 i_0 15).bind fun x_16 =>
    (op_gR M 7 i_0 7).bind fun x_17 =>
    (op_aI M x_17 i_1).bind fun x_18 =>
    (op_is M i_0 7).bind fun _ =>
    (f_X7_at i_0 x_18 v_5 i_3).bind fun z_19 =>
    (op_aZ M x_16 z_19).bind fun x_20 =>
    if x_20 = 0 then
    j_14 (0 : Int32)
    else
    j_14 (1 : Int32)
theorem lp_X7_nestedLeads_76_s (k_143 : Int32 → Option (Mm)) (i_0 : Nat) (i_1 : Int32) (i_2 : Int32) (i_3 : Int32) (M : Mm) {n_76 : Nat} {v_4 : Int32} {v_5 : Int32} {zr : Mm} (hf : lp_X7_nestedLeads_76 k_143 i_0 i_1 i_2 i_3 M (n_76 + 1) v_4 v_5 = some zr) : (
    (op_gI M 7 i_0 2).bind fun x_7 =>
    if x_7 ≤ v_5 then
    k_143 v_4
    else
    (op_gR M 7 i_0 15).bind fun x_9 =>
    (op_gR M 7 i_0 6).bind fun x_10 =>
    (op_aI M x_10 i_1).bind fun x_11 =>
    (op_is M i_0 7).bind fun _ =>
    (f_X7_at i_0 x_11 i_2 v_5).bind fun z_12 =>
    (op_aZ M x_9 z_12).bind fun x_13 =>
    op_jn (fun (x_14_0 : Int32) =>
    lp_X7_nestedLeads_76 k_143 i_0 i_1 i_2 i_3 M n_76 (v_4 ||| x_14_0) (v_5 + 1))
    fun j_14 =>
    if x_13 = 0 then
    j_14 (0 : Int32)
    else
    (op_gR M 7 i_0 15).bind fun x_16 =>
    (op_gR M 7 i_0 7).bind fun x_17 =>
    (op_aI M x_17 i_1).bind fun x_18 =>
    (op_is M i_0 7).bind fun _ =>
    (f_X7_at i_0 x_18 v_5 i_3).bind fun z_19 =>
    (op_aZ M x_16 z_19).bind fun x_20 =>
    if x_20 = 0 then
    j_14 (0 : Int32)
    else
    j_14 (1 : Int32)) = some zr := hf
theorem lp_X7_nestedLeads_76_k {k_143 : Int32 → Option (Mm)} {i_0 : Nat} {i_1 : Int32} {i_2 : Int32} {i_3 : Int32} {M : Mm} {n : Nat} {v_4 : Int32} {v_5 : Int32} {zr : Mm} (hf : lp_X7_nestedLeads_76 k_143 i_0 i_1 i_2 i_3 M n v_4 v_5 = some zr) : ∃ (m_143 : Int32 → Option (Mm)), m_143 = k_143 ∧ lp_X7_nestedLeads_76 m_143 i_0 i_1 i_2 i_3 M n v_4 v_5 = some zr := ⟨k_143, rfl, hf⟩
def lp_X7_nestedLeads_2 (i_0 : Nat) (i_1 : Int32) (i_2 : Int32) : Nat → Int32 → Mm → Option (Mm)
  | 0, _, _ => none
  | n_2 + 1, v_3, M =>
    (op_gI M 7 i_0 2).bind fun x_1 =>
    if x_1 ≤ v_3 then
    some M
    else
    (op_gR M 7 i_0 5).bind fun x_3 =>
    (op_aI M x_3 i_1).bind fun x_4 =>
    op_jn (fun (l_5_4 : Int32) =>
    (op_gR M 7 i_0 15).bind fun x_52 =>
    (op_is M i_0 7).bind fun _ =>
    (f_X7_at i_0 i_1 i_2 v_3).bind fun z_53 =>
    (op_sZ M x_52 z_53 l_5_4).bind fun M_54 =>
    lp_X7_nestedLeads_2 i_0 i_1 i_2 n_2 (v_3 + 1) M_54)
    fun j_5 =>
    if x_4 = (5 : Int32) then
    (op_gR M 7 i_0 15).bind fun x_39 =>
    (op_gR M 7 i_0 6).bind fun x_40 =>
    (op_aI M x_40 i_1).bind fun x_41 =>
    (op_is M i_0 7).bind fun _ =>
    (f_X7_at i_0 x_41 i_2 v_3).bind fun z_42 =>
    (op_aZ M x_39 z_42).bind fun x_43 =>
    op_jn (fun (x_44_0 : Int32) =>
    j_5 x_44_0)
    fun j_44 =>
    if x_43 = 0 then
    (op_gR M 7 i_0 15).bind fun x_46 =>
    (op_gR M 7 i_0 7).bind fun x_47 =>
    (op_aI M x_47 i_1).bind fun x_48 =>
    (op_is M i_0 7).bind fun _ =>
    (f_X7_at i_0 x_48 i_2 v_3).bind fun z_49 =>
    (op_aZ M x_46 z_49).bind fun x_50 =>
    if x_50 = 0 then
    j_44 (0 : Int32)
    else
    j_44 (1 : Int32)
    else
    j_44 (1 : Int32)
    else
    lp_X7_nestedLeads_76 (fun (l_23_4 : Int32) =>
    j_5 l_23_4) i_0 i_1 i_2 v_3 M FU (0 : Int32) (0 : Int32)
theorem lp_X7_nestedLeads_2_s (i_0 : Nat) (i_1 : Int32) (i_2 : Int32) {n_2 : Nat} {v_3 : Int32} {M : Mm} {zr : Mm} (hf : lp_X7_nestedLeads_2 i_0 i_1 i_2 (n_2 + 1) v_3 M = some zr) : (
    (op_gI M 7 i_0 2).bind fun x_1 =>
    if x_1 ≤ v_3 then
    some M
    else
    (op_gR M 7 i_0 5).bind fun x_3 =>
    (op_aI M x_3 i_1).bind fun x_4 =>
    op_jn (fun (l_5_4 : Int32) =>
    (op_gR M 7 i_0 15).bind fun x_52 =>
    (op_is M i_0 7).bind fun _ =>
    (f_X7_at i_0 i_1 i_2 v_3).bind fun z_53 =>
    (op_sZ M x_52 z_53 l_5_4).bind fun M_54 =>
    lp_X7_nestedLeads_2 i_0 i_1 i_2 n_2 (v_3 + 1) M_54)
    fun j_5 =>
    if x_4 = (5 : Int32) then
    (op_gR M 7 i_0 15).bind fun x_39 =>
    (op_gR M 7 i_0 6).bind fun x_40 =>
    (op_aI M x_40 i_1).bind fun x_41 =>
    (op_is M i_0 7).bind fun _ =>
    (f_X7_at i_0 x_41 i_2 v_3).bind fun z_42 =>
    (op_aZ M x_39 z_42).bind fun x_43 =>
    op_jn (fun (x_44_0 : Int32) =>
    j_5 x_44_0)
    fun j_44 =>
    if x_43 = 0 then
    (op_gR M 7 i_0 15).bind fun x_46 =>
    (op_gR M 7 i_0 7).bind fun x_47 =>
    (op_aI M x_47 i_1).bind fun x_48 =>
    (op_is M i_0 7).bind fun _ =>
    (f_X7_at i_0 x_48 i_2 v_3).bind fun z_49 =>
    (op_aZ M x_46 z_49).bind fun x_50 =>
    if x_50 = 0 then
    j_44 (0 : Int32)
    else
    j_44 (1 : Int32)
    else
    j_44 (1 : Int32)
    else
    lp_X7_nestedLeads_76 (fun (l_23_4 : Int32) =>
    j_5 l_23_4) i_0 i_1 i_2 v_3 M FU (0 : Int32) (0 : Int32)) = some zr := hf
def rm_X7_nestedLeads : Room := { frames := 1, cells := 0, slots := 0, locals := 23 }
def f_X7_nestedLeads (o : Nat) (a1 : Int32) (a2 : Int32) (M : Mm) : Option (Mm) :=
    lp_X7_nestedLeads_2  o a1 a2 FU (0 : Int32) M
set_option maxHeartbeats 4000000 in
set_option maxRecDepth 100000 in
theorem c_X7_nestedLeads (l : Launch) (D : va_G) (cA : Nat → ClassId) (ad : Nat → Nat) (o : Nat) (a1 : Int32) (a2 : Int32) (M : Mm) (zr : Mm) (hf : f_X7_nestedLeads o a1 a2 M = some zr) : KV l yX7_nestedLeads cX7_nestedLeads 6 none rm_X7_nestedLeads D cA ad [.ref (ad o), .int a1, .int a2] M zr := by
  refine KV_of (by decide) (Nat.le_of_ble_eq_true rfl) ?_
  intro p e s m args below meth c ls Q A H locs hZ hE hl hret
  have hx := hZ.1
  have hb := hZ.2.1
  have hown := hZ.2.2.2.1
  have hts := hZ.2.2.2.2.1
  have hl : lv_has ls 6 [(0, .ref (ad o)), (1, .int a1), (2, .int a2)] := hl
  unfold f_X7_nestedLeads at hf
  refine lv_iconst (v := 0) hx hb dX7_nestedLeads_0 (by decide) ?_
  refine lv_istore_n (lv' := [(3, .int (0 : Int32)), (0, .ref (ad o)), (1, .int a1), (2, .int a2)]) hx hb dX7_nestedLeads_1 rfl hl (by decide) rfl (fun ls hl => ?_)
  have L_55 : ∀ (n_2 : Nat) (w_55_3 : Int32) (M_55 : Mm) (H : Heap) (locs : List Loc) (ls : Array Slot), lp_X7_nestedLeads_2 o a1 a2 n_2 w_55_3 M_55 = some zr → En D cA ad s A M_55 H locs → lv_has ls 6 [(0, .ref (ad o)), (1, .int a1), (2, .int a2), (3, .int w_55_3)] → W p l e rm_X7_nestedLeads s m args below meth c H locs 0 0 Q (F0 m 2 ls []) := by
    intro n_2
    induction n_2 with
    | zero =>
      intro w_55_3 M_55 H locs ls hf
      cases (show (none : Option (Mm)) = some zr from hf)
    | succ n_2 ih_2 =>
      intro w_55_3 M_55 H locs ls hf hE hl
      have hf := lp_X7_nestedLeads_2_s _ _ _ hf
      refine lv_iload_n hx hb dX7_nestedLeads_2 rfl (lv_at hl 3 rfl) ?_
      refine lv_aload_n hx hb dX7_nestedLeads_3 rfl (lv_at hl 0 rfl) ?_
      obtain ⟨x_56, g_56, hf⟩ := b_some hf
      refine xx_gI hZ hE k_X7 2 (by decide) rfl tw_363 g_56 dX7_nestedLeads_4 ?_
      refine lv_icmp_ge (tgt := 163) hx hb dX7_nestedLeads_7 (by decide) (fun h_57 => ?_) (fun h_57 => ?_)
      · have hf := it_y h_57 hf
        exact hret _ _ _ _ _ (Option.some.inj hf) dX7_nestedLeads_163 hE
      · have hf := it_n h_57 hf
        refine lv_iconst (v := 0) hx hb dX7_nestedLeads_10 (by decide) ?_
        refine lv_istore (lv' := [(4, .int (0 : Int32)), (0, .ref (ad o)), (1, .int a1), (2, .int a2), (3, .int w_55_3)]) hx hb dX7_nestedLeads_11 hl (by decide) rfl (fun ls hl => ?_)
        refine lv_aload_n hx hb dX7_nestedLeads_13 rfl (lv_at hl 1 rfl) ?_
        obtain ⟨x_58, g_58, hf⟩ := b_some hf
        refine xx_gR hZ hE k_X7 5 (by decide) rfl tw_393 g_58 dX7_nestedLeads_14 ?_
        refine lv_iload_n hx hb dX7_nestedLeads_17 rfl (lv_at hl 2 rfl) ?_
        obtain ⟨x_59, g_59, hf⟩ := b_some hf
        refine xx_aI hZ hE g_59 dX7_nestedLeads_18 ?_
        refine lv_iconst (v := 5) hx hb dX7_nestedLeads_19 (by decide) ?_
        obtain ⟨j_60, ej_60, hf⟩ := jn_e hf
        have q_60 : ∀ (l_60_4 : Int32) (H : Heap) (locs : List Loc) (ls : Array Slot), j_60 l_60_4 = some zr → En D cA ad s A M_55 H locs → lv_has ls 6 [(0, .ref (ad o)), (1, .int a1), (2, .int a2), (3, .int w_55_3), (4, .int l_60_4)] → W p l e rm_X7_nestedLeads s m args below meth c H locs 0 0 Q (F0 m 143 ls []) := by
          intro l_60_4 H locs ls hf hE hl
          rw [ej_60] at hf
          refine lv_aload_n hx hb dX7_nestedLeads_143 rfl (lv_at hl 0 rfl) ?_
          obtain ⟨x_92, g_92, hf⟩ := b_some hf
          refine xx_gR hZ hE k_X7 15 (by decide) rfl tw_486 g_92 dX7_nestedLeads_144 ?_
          refine lv_aload_n hx hb dX7_nestedLeads_147 rfl (lv_at hl 0 rfl) ?_
          refine lv_iload_n hx hb dX7_nestedLeads_148 rfl (lv_at hl 1 rfl) ?_
          refine lv_iload_n hx hb dX7_nestedLeads_149 rfl (lv_at hl 2 rfl) ?_
          refine lv_iload_n hx hb dX7_nestedLeads_150 rfl (lv_at hl 3 rfl) ?_
          obtain ⟨_, i_93, hf⟩ := b_some hf
          obtain ⟨z_93, c_93, hf⟩ := b_some hf
          refine xx_cVi hZ hE (As := [.int a1, .int a2, .int w_55_3]) (rest := [.ref (ad x_92)]) k_X7 (is_m i_93) tw_462 tw_463 (c_X7_at l D cA ad o a1 a2 w_55_3 M_55 _ c_93) cw_X7_at tw_461 ⟨rfl, rfl⟩ ⟨Nat.le_of_ble_eq_true rfl, Nat.le_of_ble_eq_true rfl⟩ rfl hl.1 rfl (Nat.le_of_ble_eq_true rfl) ⟨Nat.le_of_ble_eq_true rfl, Nat.le_of_ble_eq_true rfl⟩ dX7_nestedLeads_151 (fun H locs hE => ?_)
          refine lv_iload hx hb dX7_nestedLeads_154 (lv_at hl 4 rfl) ?_
          obtain ⟨M_94, g_94, hf⟩ := b_some hf
          refine xx_sZ hZ hE g_94 dX7_nestedLeads_156 (fun H locs hE => ?_)
          refine lv_iinc (v := (w_55_3 + 1)) (lv' := [(3, .int (w_55_3 + 1)), (0, .ref (ad o)), (1, .int a1), (2, .int a2), (4, .int l_60_4)]) hx hb dX7_nestedLeads_157 hl (k := 3) rfl rfl (by decide) rfl (fun ls hl => ?_)
          refine lv_goto (tgt := 2) hx hb dX7_nestedLeads_160 (by decide) ?_
          exact ih_2 _ _ _ _ _ hf hE (lv_sub hl [1, 2, 3, 0] rfl)
        refine lv_icmp_ne (tgt := 73) hx hb dX7_nestedLeads_20 (by decide) (fun h_61 => ?_) (fun h_61 => ?_)
        · have hf := it_n h_61 hf
          refine lv_iconst (v := 0) hx hb dX7_nestedLeads_73 (by decide) ?_
          refine lv_istore (lv' := [(5, .int (0 : Int32)), (4, .int (0 : Int32)), (0, .ref (ad o)), (1, .int a1), (2, .int a2), (3, .int w_55_3)]) hx hb dX7_nestedLeads_74 hl (by decide) rfl (fun ls hl => ?_)
          obtain ⟨k_143_63, ek_143_63, hf⟩ := lp_X7_nestedLeads_76_k hf
          have o_143_63 : ∀ (l_63_4 : Int32) (H : Heap) (locs : List Loc) (ls : Array Slot), k_143_63 l_63_4 = some zr → En D cA ad s A M_55 H locs → lv_has ls 6 [(0, .ref (ad o)), (1, .int a1), (2, .int a2), (3, .int w_55_3), (4, .int l_63_4)] → W p l e rm_X7_nestedLeads s m args below meth c H locs 0 0 Q (F0 m 143 ls []) := by
            intro l_63_4 H locs ls hf hE hl
            rw [ek_143_63] at hf
            exact q_60 _ _ _ _ hf hE (lv_sub hl [0, 1, 2, 3, 4] rfl)
          have L_62 : ∀ (n_76 : Nat) (w_62_4 : Int32) (w_62_5 : Int32) (H : Heap) (locs : List Loc) (ls : Array Slot), lp_X7_nestedLeads_76 k_143_63 o a1 a2 w_55_3 M_55 n_76 w_62_4 w_62_5 = some zr → En D cA ad s A M_55 H locs → lv_has ls 6 [(0, .ref (ad o)), (1, .int a1), (2, .int a2), (3, .int w_55_3), (4, .int w_62_4), (5, .int w_62_5)] → W p l e rm_X7_nestedLeads s m args below meth c H locs 0 0 Q (F0 m 76 ls []) := by
            intro n_76
            induction n_76 with
            | zero =>
              intro w_62_4 w_62_5 H locs ls hf
              cases (show (none : Option (Mm)) = some zr from hf)
            | succ n_76 ih_76 =>
              intro w_62_4 w_62_5 H locs ls hf hE hl
              have hf := lp_X7_nestedLeads_76_s _ _ _ _ _ _ hf
              refine lv_iload hx hb dX7_nestedLeads_76 (lv_at hl 5 rfl) ?_
              refine lv_aload_n hx hb dX7_nestedLeads_78 rfl (lv_at hl 0 rfl) ?_
              obtain ⟨x_64, g_64, hf⟩ := b_some hf
              refine xx_gI hZ hE k_X7 2 (by decide) rfl tw_363 g_64 dX7_nestedLeads_79 ?_
              refine lv_icmp_ge (tgt := 143) hx hb dX7_nestedLeads_82 (by decide) (fun h_65 => ?_) (fun h_65 => ?_)
              · have hf := it_y h_65 hf
                exact o_143_63 _ _ _ _ hf hE (lv_sub hl [0, 1, 2, 3, 4] rfl)
              · have hf := it_n h_65 hf
                refine lv_iload hx hb dX7_nestedLeads_85 (lv_at hl 4 rfl) ?_
                refine lv_aload_n hx hb dX7_nestedLeads_87 rfl (lv_at hl 0 rfl) ?_
                obtain ⟨x_66, g_66, hf⟩ := b_some hf
                refine xx_gR hZ hE k_X7 15 (by decide) rfl tw_486 g_66 dX7_nestedLeads_88 ?_
                refine lv_aload_n hx hb dX7_nestedLeads_91 rfl (lv_at hl 0 rfl) ?_
                refine lv_aload_n hx hb dX7_nestedLeads_92 rfl (lv_at hl 0 rfl) ?_
                obtain ⟨x_67, g_67, hf⟩ := b_some hf
                refine xx_gR hZ hE k_X7 6 (by decide) rfl tw_394 g_67 dX7_nestedLeads_93 ?_
                refine lv_iload_n hx hb dX7_nestedLeads_96 rfl (lv_at hl 1 rfl) ?_
                obtain ⟨x_68, g_68, hf⟩ := b_some hf
                refine xx_aI hZ hE g_68 dX7_nestedLeads_97 ?_
                refine lv_iload_n hx hb dX7_nestedLeads_98 rfl (lv_at hl 2 rfl) ?_
                refine lv_iload hx hb dX7_nestedLeads_99 (lv_at hl 5 rfl) ?_
                obtain ⟨_, i_69, hf⟩ := b_some hf
                obtain ⟨z_69, c_69, hf⟩ := b_some hf
                refine xx_cVi hZ hE (As := [.int x_68, .int a2, .int w_62_5]) (rest := [.ref (ad x_66), .int w_62_4]) k_X7 (is_m i_69) tw_462 tw_463 (c_X7_at l D cA ad o x_68 a2 w_62_5 M_55 _ c_69) cw_X7_at tw_461 ⟨rfl, rfl⟩ ⟨Nat.le_of_ble_eq_true rfl, Nat.le_of_ble_eq_true rfl⟩ rfl hl.1 rfl (Nat.le_of_ble_eq_true rfl) ⟨Nat.le_of_ble_eq_true rfl, Nat.le_of_ble_eq_true rfl⟩ dX7_nestedLeads_101 (fun H locs hE => ?_)
                obtain ⟨x_70, g_70, hf⟩ := b_some hf
                refine xx_aZ hZ hE g_70 dX7_nestedLeads_104 ?_
                obtain ⟨j_71, ej_71, hf⟩ := jn_e hf
                have q_71 : ∀ (x_71_0 : Int32) (H : Heap) (locs : List Loc) (ls : Array Slot), j_71 x_71_0 = some zr → En D cA ad s A M_55 H locs → lv_has ls 6 [(0, .ref (ad o)), (1, .int a1), (2, .int a2), (3, .int w_55_3), (5, .int w_62_5)] → W p l e rm_X7_nestedLeads s m args below meth c H locs 0 0 Q (F0 m 134 ls [.int x_71_0, .int w_62_4]) := by
                  intro x_71_0 H locs ls hf hE hl
                  rw [ej_71] at hf
                  refine lv_ior hx hb dX7_nestedLeads_134 ?_
                  refine lv_istore (lv' := [(4, .int (w_62_4 ||| x_71_0)), (0, .ref (ad o)), (1, .int a1), (2, .int a2), (3, .int w_55_3), (5, .int w_62_5)]) hx hb dX7_nestedLeads_135 hl (by decide) rfl (fun ls hl => ?_)
                  refine lv_iinc (v := (w_62_5 + 1)) (lv' := [(5, .int (w_62_5 + 1)), (4, .int (w_62_4 ||| x_71_0)), (0, .ref (ad o)), (1, .int a1), (2, .int a2), (3, .int w_55_3)]) hx hb dX7_nestedLeads_137 hl (k := 5) rfl rfl (by decide) rfl (fun ls hl => ?_)
                  refine lv_goto (tgt := 76) hx hb dX7_nestedLeads_140 (by decide) ?_
                  exact ih_76 _ _ _ _ _ hf hE (lv_sub hl [2, 3, 4, 5, 1, 0] rfl)
                refine lv_if_eq (tgt := 133) hx hb dX7_nestedLeads_105 (by decide) (fun h_72 => ?_) (fun h_72 => ?_)
                · have hf := it_y h_72 hf
                  refine lv_iconst (v := 0) hx hb dX7_nestedLeads_133 (by decide) ?_
                  exact q_71 _ _ _ _ hf hE (lv_sub hl [0, 1, 2, 3, 5] rfl)
                · have hf := it_n h_72 hf
                  refine lv_aload_n hx hb dX7_nestedLeads_108 rfl (lv_at hl 0 rfl) ?_
                  obtain ⟨x_73, g_73, hf⟩ := b_some hf
                  refine xx_gR hZ hE k_X7 15 (by decide) rfl tw_486 g_73 dX7_nestedLeads_109 ?_
                  refine lv_aload_n hx hb dX7_nestedLeads_112 rfl (lv_at hl 0 rfl) ?_
                  refine lv_aload_n hx hb dX7_nestedLeads_113 rfl (lv_at hl 0 rfl) ?_
                  obtain ⟨x_74, g_74, hf⟩ := b_some hf
                  refine xx_gR hZ hE k_X7 7 (by decide) rfl tw_395 g_74 dX7_nestedLeads_114 ?_
                  refine lv_iload_n hx hb dX7_nestedLeads_117 rfl (lv_at hl 1 rfl) ?_
                  obtain ⟨x_75, g_75, hf⟩ := b_some hf
                  refine xx_aI hZ hE g_75 dX7_nestedLeads_118 ?_
                  refine lv_iload hx hb dX7_nestedLeads_119 (lv_at hl 5 rfl) ?_
                  refine lv_iload_n hx hb dX7_nestedLeads_121 rfl (lv_at hl 3 rfl) ?_
                  obtain ⟨_, i_76, hf⟩ := b_some hf
                  obtain ⟨z_76, c_76, hf⟩ := b_some hf
                  refine xx_cVi hZ hE (As := [.int x_75, .int w_62_5, .int w_55_3]) (rest := [.ref (ad x_73), .int w_62_4]) k_X7 (is_m i_76) tw_462 tw_463 (c_X7_at l D cA ad o x_75 w_62_5 w_55_3 M_55 _ c_76) cw_X7_at tw_461 ⟨rfl, rfl⟩ ⟨Nat.le_of_ble_eq_true rfl, Nat.le_of_ble_eq_true rfl⟩ rfl hl.1 rfl (Nat.le_of_ble_eq_true rfl) ⟨Nat.le_of_ble_eq_true rfl, Nat.le_of_ble_eq_true rfl⟩ dX7_nestedLeads_122 (fun H locs hE => ?_)
                  obtain ⟨x_77, g_77, hf⟩ := b_some hf
                  refine xx_aZ hZ hE g_77 dX7_nestedLeads_125 ?_
                  refine lv_if_eq (tgt := 133) hx hb dX7_nestedLeads_126 (by decide) (fun h_78 => ?_) (fun h_78 => ?_)
                  · have hf := it_y h_78 hf
                    refine lv_iconst (v := 0) hx hb dX7_nestedLeads_133 (by decide) ?_
                    exact q_71 _ _ _ _ hf hE (lv_sub hl [0, 1, 2, 3, 5] rfl)
                  · have hf := it_n h_78 hf
                    refine lv_iconst (v := 1) hx hb dX7_nestedLeads_129 (by decide) ?_
                    refine lv_goto (tgt := 134) hx hb dX7_nestedLeads_130 (by decide) ?_
                    exact q_71 _ _ _ _ hf hE (lv_sub hl [0, 1, 2, 3, 5] rfl)
          exact L_62 _ _ _ _ _ _ hf hE (lv_sub hl [2, 3, 4, 5, 1, 0] rfl)
        · have hf := it_y h_61 hf
          refine lv_aload_n hx hb dX7_nestedLeads_23 rfl (lv_at hl 1 rfl) ?_
          obtain ⟨x_79, g_79, hf⟩ := b_some hf
          refine xx_gR hZ hE k_X7 15 (by decide) rfl tw_486 g_79 dX7_nestedLeads_24 ?_
          refine lv_aload_n hx hb dX7_nestedLeads_27 rfl (lv_at hl 1 rfl) ?_
          refine lv_aload_n hx hb dX7_nestedLeads_28 rfl (lv_at hl 1 rfl) ?_
          obtain ⟨x_80, g_80, hf⟩ := b_some hf
          refine xx_gR hZ hE k_X7 6 (by decide) rfl tw_394 g_80 dX7_nestedLeads_29 ?_
          refine lv_iload_n hx hb dX7_nestedLeads_32 rfl (lv_at hl 2 rfl) ?_
          obtain ⟨x_81, g_81, hf⟩ := b_some hf
          refine xx_aI hZ hE g_81 dX7_nestedLeads_33 ?_
          refine lv_iload_n hx hb dX7_nestedLeads_34 rfl (lv_at hl 3 rfl) ?_
          refine lv_iload_n hx hb dX7_nestedLeads_35 rfl (lv_at hl 4 rfl) ?_
          obtain ⟨_, i_82, hf⟩ := b_some hf
          obtain ⟨z_82, c_82, hf⟩ := b_some hf
          refine xx_cVi hZ hE (As := [.int x_81, .int a2, .int w_55_3]) (rest := [.ref (ad x_79)]) k_X7 (is_m i_82) tw_462 tw_463 (c_X7_at l D cA ad o x_81 a2 w_55_3 M_55 _ c_82) cw_X7_at tw_461 ⟨rfl, rfl⟩ ⟨Nat.le_of_ble_eq_true rfl, Nat.le_of_ble_eq_true rfl⟩ rfl hl.1 rfl (Nat.le_of_ble_eq_true rfl) ⟨Nat.le_of_ble_eq_true rfl, Nat.le_of_ble_eq_true rfl⟩ dX7_nestedLeads_36 (fun H locs hE => ?_)
          obtain ⟨x_83, g_83, hf⟩ := b_some hf
          refine xx_aZ hZ hE g_83 dX7_nestedLeads_39 ?_
          obtain ⟨j_84, ej_84, hf⟩ := jn_e hf
          have q_84 : ∀ (x_84_0 : Int32) (H : Heap) (locs : List Loc) (ls : Array Slot), j_84 x_84_0 = some zr → En D cA ad s A M_55 H locs → lv_has ls 6 [(0, .ref (ad o)), (1, .int a1), (2, .int a2), (3, .int w_55_3)] → W p l e rm_X7_nestedLeads s m args below meth c H locs 0 0 Q (F0 m 68 ls [.int x_84_0]) := by
            intro x_84_0 H locs ls hf hE hl
            rw [ej_84] at hf
            refine lv_istore (lv' := [(4, .int x_84_0), (0, .ref (ad o)), (1, .int a1), (2, .int a2), (3, .int w_55_3)]) hx hb dX7_nestedLeads_68 hl (by decide) rfl (fun ls hl => ?_)
            refine lv_goto (tgt := 143) hx hb dX7_nestedLeads_70 (by decide) ?_
            exact q_60 _ _ _ _ hf hE (lv_sub hl [1, 2, 3, 4, 0] rfl)
          refine lv_if_ne (tgt := 63) hx hb dX7_nestedLeads_40 (by decide) (fun h_85 => ?_) (fun h_85 => ?_)
          · have hf := it_n h_85 hf
            refine lv_iconst (v := 1) hx hb dX7_nestedLeads_63 (by decide) ?_
            refine lv_goto (tgt := 68) hx hb dX7_nestedLeads_64 (by decide) ?_
            exact q_84 _ _ _ _ hf hE (lv_sub hl [1, 2, 3, 4] rfl)
          · have hf := it_y h_85 hf
            refine lv_aload_n hx hb dX7_nestedLeads_43 rfl (lv_at hl 1 rfl) ?_
            obtain ⟨x_86, g_86, hf⟩ := b_some hf
            refine xx_gR hZ hE k_X7 15 (by decide) rfl tw_486 g_86 dX7_nestedLeads_44 ?_
            refine lv_aload_n hx hb dX7_nestedLeads_47 rfl (lv_at hl 1 rfl) ?_
            refine lv_aload_n hx hb dX7_nestedLeads_48 rfl (lv_at hl 1 rfl) ?_
            obtain ⟨x_87, g_87, hf⟩ := b_some hf
            refine xx_gR hZ hE k_X7 7 (by decide) rfl tw_395 g_87 dX7_nestedLeads_49 ?_
            refine lv_iload_n hx hb dX7_nestedLeads_52 rfl (lv_at hl 2 rfl) ?_
            obtain ⟨x_88, g_88, hf⟩ := b_some hf
            refine xx_aI hZ hE g_88 dX7_nestedLeads_53 ?_
            refine lv_iload_n hx hb dX7_nestedLeads_54 rfl (lv_at hl 3 rfl) ?_
            refine lv_iload_n hx hb dX7_nestedLeads_55 rfl (lv_at hl 4 rfl) ?_
            obtain ⟨_, i_89, hf⟩ := b_some hf
            obtain ⟨z_89, c_89, hf⟩ := b_some hf
            refine xx_cVi hZ hE (As := [.int x_88, .int a2, .int w_55_3]) (rest := [.ref (ad x_86)]) k_X7 (is_m i_89) tw_462 tw_463 (c_X7_at l D cA ad o x_88 a2 w_55_3 M_55 _ c_89) cw_X7_at tw_461 ⟨rfl, rfl⟩ ⟨Nat.le_of_ble_eq_true rfl, Nat.le_of_ble_eq_true rfl⟩ rfl hl.1 rfl (Nat.le_of_ble_eq_true rfl) ⟨Nat.le_of_ble_eq_true rfl, Nat.le_of_ble_eq_true rfl⟩ dX7_nestedLeads_56 (fun H locs hE => ?_)
            obtain ⟨x_90, g_90, hf⟩ := b_some hf
            refine xx_aZ hZ hE g_90 dX7_nestedLeads_59 ?_
            refine lv_if_eq (tgt := 67) hx hb dX7_nestedLeads_60 (by decide) (fun h_91 => ?_) (fun h_91 => ?_)
            · have hf := it_y h_91 hf
              refine lv_iconst (v := 0) hx hb dX7_nestedLeads_67 (by decide) ?_
              exact q_84 _ _ _ _ hf hE (lv_sub hl [1, 2, 3, 4] rfl)
            · have hf := it_n h_91 hf
              refine lv_iconst (v := 1) hx hb dX7_nestedLeads_63 (by decide) ?_
              refine lv_goto (tgt := 68) hx hb dX7_nestedLeads_64 (by decide) ?_
              exact q_84 _ _ _ _ hf hE (lv_sub hl [1, 2, 3, 4] rfl)
  exact L_55 _ _ _ _ _ _ hf hE (lv_sub hl [1, 2, 3, 0] rfl)
