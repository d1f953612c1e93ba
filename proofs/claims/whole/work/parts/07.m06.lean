def rm_X7_odds : Room := { frames := 2, cells := 0, slots := 0, locals := 43 }
def f_X7_odds (o : Nat) (a1 : Int32) (a2 : Int32) (a3 : Int32) (M : Mm) : Option (Int32 × Mm) :=
    (op_gI M 7 o 2).bind fun x_1 =>
    if x_1 = 0 then
    some ((-2 : Int32), M)
    else
    (op_is M o 7).bind fun _ =>
    (f_X7_isMove o a1 M).bind fun z_3 =>
    if z_3 = 0 then
    some ((-1 : Int32), M)
    else
    (op_gR M 7 o 5).bind fun x_5 =>
    (op_aI M x_5 a1).bind fun x_6 =>
    if x_6 = (5 : Int32) then
    (f_X7_isIn a2 (1 : Int32) (100 : Int32)).bind fun z_8 =>
    if z_8 = 0 then
    some ((-1 : Int32), M)
    else
    (f_X7_isIn a3 (1 : Int32) (100 : Int32)).bind fun z_10 =>
    if z_10 = 0 then
    some ((-1 : Int32), M)
    else
    (op_gR M 7 o 9).bind fun x_12 =>
    (op_sI M x_12 a1 a2).bind fun M_13 =>
    (op_gR M_13 7 o 10).bind fun x_14 =>
    (op_sI M_13 x_14 a1 a3).bind fun M_15 =>
    (op_is M_15 o 7).bind fun _ =>
    (f_X7_changed o M_15).bind fun z_16 =>
    some ((1 : Int32), z_16)
    else
    some ((-1 : Int32), M)
set_option maxHeartbeats 4000000 in
set_option maxRecDepth 100000 in
theorem c_X7_odds (l : Launch) (D : va_G) (cA : Nat → ClassId) (ad : Nat → Nat) (o : Nat) (a1 : Int32) (a2 : Int32) (a3 : Int32) (M : Mm) (zr : Int32 × Mm) (hf : f_X7_odds o a1 a2 a3 M = some zr) : KI l yX7_odds cX7_odds 4 (some .int) rm_X7_odds D cA ad [.ref (ad o), .int a1, .int a2, .int a3] M zr.1 zr.2 := by
  refine KI_of (by decide) (Nat.le_of_ble_eq_true rfl) ?_
  intro p e s m args below meth c ls Q A H locs hZ hE hl hret
  have hx := hZ.1
  have hb := hZ.2.1
  have hown := hZ.2.2.2.1
  have hts := hZ.2.2.2.2.1
  have hl : lv_has ls 4 [(0, .ref (ad o)), (1, .int a1), (2, .int a2), (3, .int a3)] := hl
  unfold f_X7_odds at hf
  refine lv_aload_n hx hb dX7_odds_0 rfl (lv_at hl 0 rfl) ?_
  obtain ⟨x_1, g_1, hf⟩ := b_some hf
  refine xx_gI hZ hE k_X7 2 (by decide) rfl tw_363 g_1 dX7_odds_1 ?_
  refine lv_if_ne (tgt := 10) hx hb dX7_odds_4 (by decide) (fun h_2 => ?_) (fun h_2 => ?_)
  · have hf := it_n h_2 hf
    refine lv_aload_n hx hb dX7_odds_10 rfl (lv_at hl 0 rfl) ?_
    refine lv_iload_n hx hb dX7_odds_11 rfl (lv_at hl 1 rfl) ?_
    obtain ⟨_, i_3, hf⟩ := b_some hf
    obtain ⟨z_3, c_3, hf⟩ := b_some hf
    refine xx_cVi hZ hE (As := [.int a1]) (rest := []) k_X7 (is_m i_3) tw_390 tw_391 (c_X7_isMove l D cA ad o a1 M _ c_3) cw_X7_isMove tw_389 ⟨rfl, rfl⟩ ⟨Nat.le_of_ble_eq_true rfl, Nat.le_of_ble_eq_true rfl⟩ rfl hl.1 rfl (Nat.le_of_ble_eq_true rfl) ⟨Nat.le_of_ble_eq_true rfl, Nat.le_of_ble_eq_true rfl⟩ dX7_odds_12 (fun H locs hE => ?_)
    refine lv_if_eq (tgt := 48) hx hb dX7_odds_15 (by decide) (fun h_4 => ?_) (fun h_4 => ?_)
    · have hf := it_y h_4 hf
      refine lv_iconst (v := -1) hx hb dX7_odds_48 (by decide) ?_
      exact hret _ _ _ _ _ _ (pr_1 hf) (pr_2 hf) rfl dX7_odds_49 hE
    · have hf := it_n h_4 hf
      refine lv_aload_n hx hb dX7_odds_18 rfl (lv_at hl 0 rfl) ?_
      obtain ⟨x_5, g_5, hf⟩ := b_some hf
      refine xx_gR hZ hE k_X7 5 (by decide) rfl tw_393 g_5 dX7_odds_19 ?_
      refine lv_iload_n hx hb dX7_odds_22 rfl (lv_at hl 1 rfl) ?_
      obtain ⟨x_6, g_6, hf⟩ := b_some hf
      refine xx_aI hZ hE g_6 dX7_odds_23 ?_
      refine lv_iconst (v := 5) hx hb dX7_odds_24 (by decide) ?_
      refine lv_icmp_ne (tgt := 48) hx hb dX7_odds_25 (by decide) (fun h_7 => ?_) (fun h_7 => ?_)
      · have hf := it_n h_7 hf
        refine lv_iconst (v := -1) hx hb dX7_odds_48 (by decide) ?_
        exact hret _ _ _ _ _ _ (pr_1 hf) (pr_2 hf) rfl dX7_odds_49 hE
      · have hf := it_y h_7 hf
        refine lv_iload_n hx hb dX7_odds_28 rfl (lv_at hl 2 rfl) ?_
        refine lv_iconst (v := 1) hx hb dX7_odds_29 (by decide) ?_
        refine lv_bipush (v := 100) hx hb dX7_odds_30 (by decide) ?_
        obtain ⟨z_8, c_8, hf⟩ := b_some hf
        refine xx_cSi hZ hE (As := [.int a2, .int (1 : Int32), .int (100 : Int32)]) (rest := []) tw_366 (c_X7_isIn l D cA ad a2 (1 : Int32) (100 : Int32) M _ c_8) cw_X7_isIn tw_364 ⟨rfl, rfl⟩ ⟨Nat.le_of_ble_eq_true rfl, Nat.le_of_ble_eq_true rfl⟩ rfl hl.1 rfl (Nat.le_of_ble_eq_true rfl) ⟨Nat.le_of_ble_eq_true rfl, Nat.le_of_ble_eq_true rfl⟩ dX7_odds_32 (fun H locs hE => ?_)
        refine lv_if_eq (tgt := 48) hx hb dX7_odds_35 (by decide) (fun h_9 => ?_) (fun h_9 => ?_)
        · have hf := it_y h_9 hf
          refine lv_iconst (v := -1) hx hb dX7_odds_48 (by decide) ?_
          exact hret _ _ _ _ _ _ (pr_1 hf) (pr_2 hf) rfl dX7_odds_49 hE
        · have hf := it_n h_9 hf
          refine lv_iload_n hx hb dX7_odds_38 rfl (lv_at hl 3 rfl) ?_
          refine lv_iconst (v := 1) hx hb dX7_odds_39 (by decide) ?_
          refine lv_bipush (v := 100) hx hb dX7_odds_40 (by decide) ?_
          obtain ⟨z_10, c_10, hf⟩ := b_some hf
          refine xx_cSi hZ hE (As := [.int a3, .int (1 : Int32), .int (100 : Int32)]) (rest := []) tw_366 (c_X7_isIn l D cA ad a3 (1 : Int32) (100 : Int32) M _ c_10) cw_X7_isIn tw_364 ⟨rfl, rfl⟩ ⟨Nat.le_of_ble_eq_true rfl, Nat.le_of_ble_eq_true rfl⟩ rfl hl.1 rfl (Nat.le_of_ble_eq_true rfl) ⟨Nat.le_of_ble_eq_true rfl, Nat.le_of_ble_eq_true rfl⟩ dX7_odds_42 (fun H locs hE => ?_)
          refine lv_if_ne (tgt := 50) hx hb dX7_odds_45 (by decide) (fun h_11 => ?_) (fun h_11 => ?_)
          · have hf := it_n h_11 hf
            refine lv_aload_n hx hb dX7_odds_50 rfl (lv_at hl 0 rfl) ?_
            obtain ⟨x_12, g_12, hf⟩ := b_some hf
            refine xx_gR hZ hE k_X7 9 (by decide) rfl tw_396 g_12 dX7_odds_51 ?_
            refine lv_iload_n hx hb dX7_odds_54 rfl (lv_at hl 1 rfl) ?_
            refine lv_iload_n hx hb dX7_odds_55 rfl (lv_at hl 2 rfl) ?_
            obtain ⟨M_13, g_13, hf⟩ := b_some hf
            refine xx_sI hZ hE g_13 dX7_odds_56 (fun H locs hE => ?_)
            refine lv_aload_n hx hb dX7_odds_57 rfl (lv_at hl 0 rfl) ?_
            obtain ⟨x_14, g_14, hf⟩ := b_some hf
            refine xx_gR hZ hE k_X7 10 (by decide) rfl tw_397 g_14 dX7_odds_58 ?_
            refine lv_iload_n hx hb dX7_odds_61 rfl (lv_at hl 1 rfl) ?_
            refine lv_iload_n hx hb dX7_odds_62 rfl (lv_at hl 3 rfl) ?_
            obtain ⟨M_15, g_15, hf⟩ := b_some hf
            refine xx_sI hZ hE g_15 dX7_odds_63 (fun H locs hE => ?_)
            refine lv_aload_n hx hb dX7_odds_64 rfl (lv_at hl 0 rfl) ?_
            obtain ⟨_, i_16, hf⟩ := b_some hf
            obtain ⟨z_16, c_16, hf⟩ := b_some hf
            refine xx_cVv hZ hE (As := []) (rest := []) k_X7 (is_m i_16) tw_375 tw_376 (c_X7_changed l D cA ad o M_15 _ c_16) cw_X7_changed tw_374 ⟨rfl, rfl⟩ ⟨Nat.le_of_ble_eq_true rfl, Nat.le_of_ble_eq_true rfl⟩ rfl hl.1 rfl (Nat.le_of_ble_eq_true rfl) ⟨Nat.le_of_ble_eq_true rfl, Nat.le_of_ble_eq_true rfl⟩ dX7_odds_65 (fun H locs hE => ?_)
            refine lv_iconst (v := 1) hx hb dX7_odds_68 (by decide) ?_
            exact hret _ _ _ _ _ _ (pr_1 hf) (pr_2 hf) rfl dX7_odds_69 hE
          · have hf := it_y h_11 hf
            refine lv_iconst (v := -1) hx hb dX7_odds_48 (by decide) ?_
            exact hret _ _ _ _ _ _ (pr_1 hf) (pr_2 hf) rfl dX7_odds_49 hE
  · have hf := it_y h_2 hf
    refine lv_bipush (v := -2) hx hb dX7_odds_7 (by decide) ?_
    exact hret _ _ _ _ _ _ (pr_1 hf) (pr_2 hf) rfl dX7_odds_9 hE
def rm_X7_chance : Room := { frames := 2, cells := 0, slots := 0, locals := 43 }
def f_X7_chance (o : Nat) (a1 : Int32) (a2 : Int32) (a3 : Int32) (a4 : Int32) (M : Mm) : Option (Int32 × Mm) :=
    (op_gI M 7 o 2).bind fun x_1 =>
    if x_1 = 0 then
    some ((-2 : Int32), M)
    else
    (op_is M o 7).bind fun _ =>
    (f_X7_isMove o a1 M).bind fun z_3 =>
    if z_3 = 0 then
    some ((-1 : Int32), M)
    else
    (op_gR M 7 o 5).bind fun x_5 =>
    (op_aI M x_5 a1).bind fun x_6 =>
    if x_6 = (3 : Int32) then
    (op_is M o 7).bind fun _ =>
    (f_X7_isState o a2 M).bind fun z_8 =>
    if z_8 = 0 then
    some ((-1 : Int32), M)
    else
    (op_is M o 7).bind fun _ =>
    (f_X7_isState o a3 M).bind fun z_10 =>
    if z_10 = 0 then
    some ((-1 : Int32), M)
    else
    (f_X7_isIn a4 (0 : Int32) (100 : Int32)).bind fun z_12 =>
    if z_12 = 0 then
    some ((-1 : Int32), M)
    else
    (op_gR M 7 o 11).bind fun x_14 =>
    (op_aI M x_14 ((((256 : Int32) * a1) + ((16 : Int32) * a2)) + a3)).bind fun x_15 =>
    (op_gR M 7 o 11).bind fun x_16 =>
    (op_sI M x_16 ((((256 : Int32) * a1) + ((16 : Int32) * a2)) + a3) a4).bind fun M_17 =>
    (op_is M_17 o 7).bind fun _ =>
    (f_X7_changed o M_17).bind fun z_18 =>
    some (x_15, z_18)
    else
    some ((-1 : Int32), M)
set_option maxHeartbeats 4000000 in
set_option maxRecDepth 100000 in
theorem c_X7_chance (l : Launch) (D : va_G) (cA : Nat → ClassId) (ad : Nat → Nat) (o : Nat) (a1 : Int32) (a2 : Int32) (a3 : Int32) (a4 : Int32) (M : Mm) (zr : Int32 × Mm) (hf : f_X7_chance o a1 a2 a3 a4 M = some zr) : KI l yX7_chance cX7_chance 7 (some .int) rm_X7_chance D cA ad [.ref (ad o), .int a1, .int a2, .int a3, .int a4] M zr.1 zr.2 := by
  refine KI_of (by decide) (Nat.le_of_ble_eq_true rfl) ?_
  intro p e s m args below meth c ls Q A H locs hZ hE hl hret
  have hx := hZ.1
  have hb := hZ.2.1
  have hown := hZ.2.2.2.1
  have hts := hZ.2.2.2.2.1
  have hl : lv_has ls 7 [(0, .ref (ad o)), (1, .int a1), (2, .int a2), (3, .int a3), (4, .int a4)] := hl
  unfold f_X7_chance at hf
  refine lv_aload_n hx hb dX7_chance_0 rfl (lv_at hl 0 rfl) ?_
  obtain ⟨x_1, g_1, hf⟩ := b_some hf
  refine xx_gI hZ hE k_X7 2 (by decide) rfl tw_363 g_1 dX7_chance_1 ?_
  refine lv_if_ne (tgt := 10) hx hb dX7_chance_4 (by decide) (fun h_2 => ?_) (fun h_2 => ?_)
  · have hf := it_n h_2 hf
    refine lv_aload_n hx hb dX7_chance_10 rfl (lv_at hl 0 rfl) ?_
    refine lv_iload_n hx hb dX7_chance_11 rfl (lv_at hl 1 rfl) ?_
    obtain ⟨_, i_3, hf⟩ := b_some hf
    obtain ⟨z_3, c_3, hf⟩ := b_some hf
    refine xx_cVi hZ hE (As := [.int a1]) (rest := []) k_X7 (is_m i_3) tw_390 tw_391 (c_X7_isMove l D cA ad o a1 M _ c_3) cw_X7_isMove tw_389 ⟨rfl, rfl⟩ ⟨Nat.le_of_ble_eq_true rfl, Nat.le_of_ble_eq_true rfl⟩ rfl hl.1 rfl (Nat.le_of_ble_eq_true rfl) ⟨Nat.le_of_ble_eq_true rfl, Nat.le_of_ble_eq_true rfl⟩ dX7_chance_12 (fun H locs hE => ?_)
    refine lv_if_eq (tgt := 55) hx hb dX7_chance_15 (by decide) (fun h_4 => ?_) (fun h_4 => ?_)
    · have hf := it_y h_4 hf
      refine lv_iconst (v := -1) hx hb dX7_chance_55 (by decide) ?_
      exact hret _ _ _ _ _ _ (pr_1 hf) (pr_2 hf) rfl dX7_chance_56 hE
    · have hf := it_n h_4 hf
      refine lv_aload_n hx hb dX7_chance_18 rfl (lv_at hl 0 rfl) ?_
      obtain ⟨x_5, g_5, hf⟩ := b_some hf
      refine xx_gR hZ hE k_X7 5 (by decide) rfl tw_393 g_5 dX7_chance_19 ?_
      refine lv_iload_n hx hb dX7_chance_22 rfl (lv_at hl 1 rfl) ?_
      obtain ⟨x_6, g_6, hf⟩ := b_some hf
      refine xx_aI hZ hE g_6 dX7_chance_23 ?_
      refine lv_iconst (v := 3) hx hb dX7_chance_24 (by decide) ?_
      refine lv_icmp_ne (tgt := 55) hx hb dX7_chance_25 (by decide) (fun h_7 => ?_) (fun h_7 => ?_)
      · have hf := it_n h_7 hf
        refine lv_iconst (v := -1) hx hb dX7_chance_55 (by decide) ?_
        exact hret _ _ _ _ _ _ (pr_1 hf) (pr_2 hf) rfl dX7_chance_56 hE
      · have hf := it_y h_7 hf
        refine lv_aload_n hx hb dX7_chance_28 rfl (lv_at hl 0 rfl) ?_
        refine lv_iload_n hx hb dX7_chance_29 rfl (lv_at hl 2 rfl) ?_
        obtain ⟨_, i_8, hf⟩ := b_some hf
        obtain ⟨z_8, c_8, hf⟩ := b_some hf
        refine xx_cVi hZ hE (As := [.int a2]) (rest := []) k_X7 (is_m i_8) tw_378 tw_379 (c_X7_isState l D cA ad o a2 M _ c_8) cw_X7_isState tw_377 ⟨rfl, rfl⟩ ⟨Nat.le_of_ble_eq_true rfl, Nat.le_of_ble_eq_true rfl⟩ rfl hl.1 rfl (Nat.le_of_ble_eq_true rfl) ⟨Nat.le_of_ble_eq_true rfl, Nat.le_of_ble_eq_true rfl⟩ dX7_chance_30 (fun H locs hE => ?_)
        refine lv_if_eq (tgt := 55) hx hb dX7_chance_33 (by decide) (fun h_9 => ?_) (fun h_9 => ?_)
        · have hf := it_y h_9 hf
          refine lv_iconst (v := -1) hx hb dX7_chance_55 (by decide) ?_
          exact hret _ _ _ _ _ _ (pr_1 hf) (pr_2 hf) rfl dX7_chance_56 hE
        · have hf := it_n h_9 hf
          refine lv_aload_n hx hb dX7_chance_36 rfl (lv_at hl 0 rfl) ?_
          refine lv_iload_n hx hb dX7_chance_37 rfl (lv_at hl 3 rfl) ?_
          obtain ⟨_, i_10, hf⟩ := b_some hf
          obtain ⟨z_10, c_10, hf⟩ := b_some hf
          refine xx_cVi hZ hE (As := [.int a3]) (rest := []) k_X7 (is_m i_10) tw_378 tw_379 (c_X7_isState l D cA ad o a3 M _ c_10) cw_X7_isState tw_377 ⟨rfl, rfl⟩ ⟨Nat.le_of_ble_eq_true rfl, Nat.le_of_ble_eq_true rfl⟩ rfl hl.1 rfl (Nat.le_of_ble_eq_true rfl) ⟨Nat.le_of_ble_eq_true rfl, Nat.le_of_ble_eq_true rfl⟩ dX7_chance_38 (fun H locs hE => ?_)
          refine lv_if_eq (tgt := 55) hx hb dX7_chance_41 (by decide) (fun h_11 => ?_) (fun h_11 => ?_)
          · have hf := it_y h_11 hf
            refine lv_iconst (v := -1) hx hb dX7_chance_55 (by decide) ?_
            exact hret _ _ _ _ _ _ (pr_1 hf) (pr_2 hf) rfl dX7_chance_56 hE
          · have hf := it_n h_11 hf
            refine lv_iload hx hb dX7_chance_44 (lv_at hl 4 rfl) ?_
            refine lv_iconst (v := 0) hx hb dX7_chance_46 (by decide) ?_
            refine lv_bipush (v := 100) hx hb dX7_chance_47 (by decide) ?_
            obtain ⟨z_12, c_12, hf⟩ := b_some hf
            refine xx_cSi hZ hE (As := [.int a4, .int (0 : Int32), .int (100 : Int32)]) (rest := []) tw_366 (c_X7_isIn l D cA ad a4 (0 : Int32) (100 : Int32) M _ c_12) cw_X7_isIn tw_364 ⟨rfl, rfl⟩ ⟨Nat.le_of_ble_eq_true rfl, Nat.le_of_ble_eq_true rfl⟩ rfl hl.1 rfl (Nat.le_of_ble_eq_true rfl) ⟨Nat.le_of_ble_eq_true rfl, Nat.le_of_ble_eq_true rfl⟩ dX7_chance_49 (fun H locs hE => ?_)
            refine lv_if_ne (tgt := 57) hx hb dX7_chance_52 (by decide) (fun h_13 => ?_) (fun h_13 => ?_)
            · have hf := it_n h_13 hf
              refine lv_sipush (v := 256) hx hb dX7_chance_57 (by decide) ?_
              refine lv_iload_n hx hb dX7_chance_60 rfl (lv_at hl 1 rfl) ?_
              refine lv_imul hx hb dX7_chance_61 ?_
              refine lv_bipush (v := 16) hx hb dX7_chance_62 (by decide) ?_
              refine lv_iload_n hx hb dX7_chance_64 rfl (lv_at hl 2 rfl) ?_
              refine lv_imul hx hb dX7_chance_65 ?_
              refine lv_iadd hx hb dX7_chance_66 ?_
              refine lv_iload_n hx hb dX7_chance_67 rfl (lv_at hl 3 rfl) ?_
              refine lv_iadd hx hb dX7_chance_68 ?_
              refine lv_istore (lv' := [(5, .int ((((256 : Int32) * a1) + ((16 : Int32) * a2)) + a3)), (0, .ref (ad o)), (1, .int a1), (2, .int a2), (3, .int a3), (4, .int a4)]) hx hb dX7_chance_69 hl (by decide) rfl (fun ls hl => ?_)
              refine lv_aload_n hx hb dX7_chance_71 rfl (lv_at hl 1 rfl) ?_
              obtain ⟨x_14, g_14, hf⟩ := b_some hf
              refine xx_gR hZ hE k_X7 11 (by decide) rfl tw_398 g_14 dX7_chance_72 ?_
              refine lv_iload hx hb dX7_chance_75 (lv_at hl 0 rfl) ?_
              obtain ⟨x_15, g_15, hf⟩ := b_some hf
              refine xx_aI hZ hE g_15 dX7_chance_77 ?_
              refine lv_istore (lv' := [(6, .int x_15), (5, .int ((((256 : Int32) * a1) + ((16 : Int32) * a2)) + a3)), (0, .ref (ad o)), (1, .int a1), (2, .int a2), (3, .int a3), (4, .int a4)]) hx hb dX7_chance_78 hl (by decide) rfl (fun ls hl => ?_)
              refine lv_aload_n hx hb dX7_chance_80 rfl (lv_at hl 2 rfl) ?_
              obtain ⟨x_16, g_16, hf⟩ := b_some hf
              refine xx_gR hZ hE k_X7 11 (by decide) rfl tw_398 g_16 dX7_chance_81 ?_
              refine lv_iload hx hb dX7_chance_84 (lv_at hl 1 rfl) ?_
              refine lv_iload hx hb dX7_chance_86 (lv_at hl 6 rfl) ?_
              obtain ⟨M_17, g_17, hf⟩ := b_some hf
              refine xx_sI hZ hE g_17 dX7_chance_88 (fun H locs hE => ?_)
              refine lv_aload_n hx hb dX7_chance_89 rfl (lv_at hl 2 rfl) ?_
              obtain ⟨_, i_18, hf⟩ := b_some hf
              obtain ⟨z_18, c_18, hf⟩ := b_some hf
              refine xx_cVv hZ hE (As := []) (rest := []) k_X7 (is_m i_18) tw_375 tw_376 (c_X7_changed l D cA ad o M_17 _ c_18) cw_X7_changed tw_374 ⟨rfl, rfl⟩ ⟨Nat.le_of_ble_eq_true rfl, Nat.le_of_ble_eq_true rfl⟩ rfl hl.1 rfl (Nat.le_of_ble_eq_true rfl) ⟨Nat.le_of_ble_eq_true rfl, Nat.le_of_ble_eq_true rfl⟩ dX7_chance_90 (fun H locs hE => ?_)
              refine lv_iload hx hb dX7_chance_93 (lv_at hl 0 rfl) ?_
              exact hret _ _ _ _ _ _ (pr_1 hf) (pr_2 hf) rfl dX7_chance_95 hE
            · have hf := it_y h_13 hf
              refine lv_iconst (v := -1) hx hb dX7_chance_55 (by decide) ?_
              exact hret _ _ _ _ _ _ (pr_1 hf) (pr_2 hf) rfl dX7_chance_56 hE
  · have hf := it_y h_2 hf
    refine lv_bipush (v := -2) hx hb dX7_chance_7 (by decide) ?_
    exact hret _ _ _ _ _ _ (pr_1 hf) (pr_2 hf) rfl dX7_chance_9 hE
def lp_X7_divisorOf_6  : Nat → Int64 → Int64 → Option (Int64)
  | 0, _, _ => none
  | n_6 + 1, v_4, v_6 =>
    if v_6 = (0 : Int64) then
    some v_4
    else
    if v_6 = 0 then none else
    lp_X7_divisorOf_6 n_6 v_6 (v_4 - v_4 / v_6 * v_6)
theorem lp_X7_divisorOf_6_s  {n_6 : Nat} {v_4 : Int64} {v_6 : Int64} {zr : Int64} (hf : lp_X7_divisorOf_6  (n_6 + 1) v_4 v_6 = some zr) : (
    if v_6 = (0 : Int64) then
    some v_4
    else
    if v_6 = 0 then none else
    lp_X7_divisorOf_6 n_6 v_6 (v_4 - v_4 / v_6 * v_6)) = some zr := hf
def rm_X7_divisorOf : Room := { frames := 0, cells := 0, slots := 0, locals := 0 }
def f_X7_divisorOf (a1 : Int64) (a2 : Int64) : Option (Int64) :=
    lp_X7_divisorOf_6  FU a1 a2
set_option maxHeartbeats 4000000 in
set_option maxRecDepth 100000 in
theorem c_X7_divisorOf (l : Launch) (D : va_G) (cA : Nat → ClassId) (ad : Nat → Nat) (a1 : Int64) (a2 : Int64) (M : Mm) (zr : Int64) (hf : f_X7_divisorOf a1 a2 = some zr) : KL l yX7_divisorOf cX7_divisorOf 10 (some .long) rm_X7_divisorOf D cA ad [.long a1, .long a2] M zr M := by
  refine KL_of (by decide) (Nat.le_of_ble_eq_true rfl) ?_
  intro p e s m args below meth c ls Q A H locs hZ hE hl hret
  have hx := hZ.1
  have hb := hZ.2.1
  have hown := hZ.2.2.2.1
  have hts := hZ.2.2.2.2.1
  have hl : lv_has ls 10 [(0, .long a1), (2, .long a2)] := hl
  unfold f_X7_divisorOf at hf
  refine lv_lload_n hx hb dX7_divisorOf_0 rfl (lv_at hl 0 rfl) ?_
  refine lv_lstore (lv' := [(4, .long a1), (0, .long a1), (2, .long a2)]) hx hb dX7_divisorOf_1 hl (by decide) rfl (fun ls hl => ?_)
  refine lv_lload_n hx hb dX7_divisorOf_3 rfl (lv_at hl 2 rfl) ?_
  refine lv_lstore (lv' := [(6, .long a2), (4, .long a1), (0, .long a1), (2, .long a2)]) hx hb dX7_divisorOf_4 hl (by decide) rfl (fun ls hl => ?_)
  have L_3 : ∀ (n_6 : Nat) (w_3_4 : Int64) (w_3_6 : Int64) (H : Heap) (locs : List Loc) (ls : Array Slot), lp_X7_divisorOf_6 n_6 w_3_4 w_3_6 = some zr → En D cA ad s A M H locs → lv_has ls 10 [(4, .long w_3_4), (6, .long w_3_6)] → W p l e rm_X7_divisorOf s m args below meth c H locs 0 0 Q (F0 m 6 ls []) := by
    intro n_6
    induction n_6 with
    | zero =>
      intro w_3_4 w_3_6 H locs ls hf
      cases (show (none : Option (Int64)) = some zr from hf)
    | succ n_6 ih_6 =>
      intro w_3_4 w_3_6 H locs ls hf hE hl
      have hf := lp_X7_divisorOf_6_s hf
      refine lv_lload hx hb dX7_divisorOf_6 (lv_at hl 1 rfl) ?_
      refine lv_lconst (v := 0) hx hb dX7_divisorOf_8 (by decide) ?_
      refine xx_leq (tgt := 31) hx hb dX7_divisorOf_9 dX7_divisorOf_10 (by decide) (fun h_4 => ?_) (fun h_4 => ?_)
      · have hf := it_y h_4 hf
        refine lv_lload hx hb dX7_divisorOf_31 (lv_at hl 0 rfl) ?_
        exact hret _ _ _ _ _ _ (Option.some.inj hf) rfl dX7_divisorOf_33 hE
      · have hf := it_n h_4 hf
        refine lv_lload hx hb dX7_divisorOf_13 (lv_at hl 0 rfl) ?_
        refine lv_lload hx hb dX7_divisorOf_15 (lv_at hl 1 rfl) ?_
        obtain ⟨h_5, hf⟩ := e_some hf
        refine lv_lrem hx hb dX7_divisorOf_17 h_5 ?_
        refine lv_lstore (lv' := [(8, .long (w_3_4 - w_3_4 / w_3_6 * w_3_6)), (4, .long w_3_4), (6, .long w_3_6)]) hx hb dX7_divisorOf_18 hl (by decide) rfl (fun ls hl => ?_)
        refine lv_lload hx hb dX7_divisorOf_20 (lv_at hl 2 rfl) ?_
        refine lv_lstore (lv' := [(4, .long w_3_6), (8, .long (w_3_4 - w_3_4 / w_3_6 * w_3_6)), (6, .long w_3_6)]) hx hb dX7_divisorOf_22 hl (by decide) rfl (fun ls hl => ?_)
        refine lv_lload hx hb dX7_divisorOf_24 (lv_at hl 1 rfl) ?_
        refine lv_lstore (lv' := [(6, .long (w_3_4 - w_3_4 / w_3_6 * w_3_6)), (4, .long w_3_6), (8, .long (w_3_4 - w_3_4 / w_3_6 * w_3_6))]) hx hb dX7_divisorOf_26 hl (by decide) rfl (fun ls hl => ?_)
        refine lv_goto (tgt := 6) hx hb dX7_divisorOf_28 (by decide) ?_
        exact ih_6 _ _ _ _ _ hf hE (lv_sub hl [1, 0] rfl)
  exact L_3 _ _ _ _ _ _ hf hE (lv_sub hl [1, 0] rfl)
def rm_X7_isProduct : Room := { frames := 0, cells := 0, slots := 0, locals := 0 }
def f_X7_isProduct (a1 : Int64) (a2 : Int64) : Option (Int32) :=
    if a2 = (0 : Int64) then
    some (1 : Int32)
    else
    if a2 = 0 then none else
    if ((9223372036854775807 : Int64) / a2) < a1 then
    some (0 : Int32)
    else
    some (1 : Int32)
set_option maxHeartbeats 4000000 in
set_option maxRecDepth 100000 in
theorem c_X7_isProduct (l : Launch) (D : va_G) (cA : Nat → ClassId) (ad : Nat → Nat) (a1 : Int64) (a2 : Int64) (M : Mm) (zr : Int32) (hf : f_X7_isProduct a1 a2 = some zr) : KI l yX7_isProduct cX7_isProduct 4 (some .boolean) rm_X7_isProduct D cA ad [.long a1, .long a2] M zr M := by
  refine KI_of (by decide) (Nat.le_of_ble_eq_true rfl) ?_
  intro p e s m args below meth c ls Q A H locs hZ hE hl hret
  have hx := hZ.1
  have hb := hZ.2.1
  have hown := hZ.2.2.2.1
  have hts := hZ.2.2.2.2.1
  have hl : lv_has ls 4 [(0, .long a1), (2, .long a2)] := hl
  unfold f_X7_isProduct at hf
  refine lv_lload_n hx hb dX7_isProduct_0 rfl (lv_at hl 1 rfl) ?_
  refine lv_lconst (v := 0) hx hb dX7_isProduct_1 (by decide) ?_
  refine xx_leq (tgt := 16) hx hb dX7_isProduct_2 dX7_isProduct_3 (by decide) (fun h_1 => ?_) (fun h_1 => ?_)
  · have hf := it_y h_1 hf
    refine lv_iconst (v := 1) hx hb dX7_isProduct_16 (by decide) ?_
    refine lv_goto (tgt := 21) hx hb dX7_isProduct_17 (by decide) ?_
    exact hret _ _ _ _ _ _ (Option.some.inj hf) rfl rfl dX7_isProduct_21 hE
  · have hf := it_n h_1 hf
    refine lv_lload_n hx hb dX7_isProduct_6 rfl (lv_at hl 0 rfl) ?_
    refine lv_ldc2 (v := 9223372036854775807) hx hb hown (hts _ tw_399) dX7_isProduct_7 ?_
    refine lv_lload_n hx hb dX7_isProduct_10 rfl (lv_at hl 1 rfl) ?_
    obtain ⟨h_2, hf⟩ := e_some hf
    refine lv_ldiv hx hb dX7_isProduct_11 h_2 ?_
    refine xx_lgt (tgt := 20) hx hb dX7_isProduct_12 dX7_isProduct_13 (by decide) (fun h_3 => ?_) (fun h_3 => ?_)
    · have hf := it_y h_3 hf
      refine lv_iconst (v := 0) hx hb dX7_isProduct_20 (by decide) ?_
      exact hret _ _ _ _ _ _ (Option.some.inj hf) rfl rfl dX7_isProduct_21 hE
    · have hf := it_n h_3 hf
      refine lv_iconst (v := 1) hx hb dX7_isProduct_16 (by decide) ?_
      refine lv_goto (tgt := 21) hx hb dX7_isProduct_17 (by decide) ?_
      exact hret _ _ _ _ _ _ (Option.some.inj hf) rfl rfl dX7_isProduct_21 hE
def rm_X7_lay : Room := { frames := 1, cells := 0, slots := 0, locals := 29 }
def f_X7_lay (o : Nat) (a1 : Int64) (a2 : Int64) (M : Mm) : Option (Mm) :=
    (f_X7_divisorOf a1 a2).bind fun z_1 =>
    if z_1 = 0 then none else
    (op_pL M 7 o 21 (a1 / z_1)).bind fun M_3 =>
    if z_1 = 0 then none else
    (op_pL M_3 7 o 22 (a2 / z_1)).bind fun M_5 =>
    some M_5
set_option maxHeartbeats 4000000 in
set_option maxRecDepth 100000 in
theorem c_X7_lay (l : Launch) (D : va_G) (cA : Nat → ClassId) (ad : Nat → Nat) (o : Nat) (a1 : Int64) (a2 : Int64) (M : Mm) (zr : Mm) (hf : f_X7_lay o a1 a2 M = some zr) : KV l yX7_lay cX7_lay 7 none rm_X7_lay D cA ad [.ref (ad o), .long a1, .long a2] M zr := by
  refine KV_of (by decide) (Nat.le_of_ble_eq_true rfl) ?_
  intro p e s m args below meth c ls Q A H locs hZ hE hl hret
  have hx := hZ.1
  have hb := hZ.2.1
  have hown := hZ.2.2.2.1
  have hts := hZ.2.2.2.2.1
  have hl : lv_has ls 7 [(0, .ref (ad o)), (1, .long a1), (3, .long a2)] := hl
  unfold f_X7_lay at hf
  refine lv_lload_n hx hb dX7_lay_0 rfl (lv_at hl 1 rfl) ?_
  refine lv_lload_n hx hb dX7_lay_1 rfl (lv_at hl 2 rfl) ?_
  obtain ⟨z_1, c_1, hf⟩ := b_some hf
  refine xx_cSl hZ hE (As := [.long a1, .long a2]) (rest := []) tw_401 (c_X7_divisorOf l D cA ad a1 a2 M _ c_1) cw_X7_divisorOf tw_400 ⟨rfl, rfl⟩ ⟨Nat.le_of_ble_eq_true rfl, Nat.le_of_ble_eq_true rfl⟩ rfl hl.1 rfl (Nat.le_of_ble_eq_true rfl) ⟨Nat.le_of_ble_eq_true rfl, Nat.le_of_ble_eq_true rfl⟩ dX7_lay_2 (fun H locs hE => ?_)
  refine lv_lstore (lv' := [(5, .long z_1), (0, .ref (ad o)), (1, .long a1), (3, .long a2)]) hx hb dX7_lay_5 hl (by decide) rfl (fun ls hl => ?_)
  refine lv_aload_n hx hb dX7_lay_7 rfl (lv_at hl 1 rfl) ?_
  refine lv_lload_n hx hb dX7_lay_8 rfl (lv_at hl 2 rfl) ?_
  refine lv_lload hx hb dX7_lay_9 (lv_at hl 0 rfl) ?_
  obtain ⟨h_2, hf⟩ := e_some hf
  refine lv_ldiv hx hb dX7_lay_11 h_2 ?_
  obtain ⟨M_3, g_3, hf⟩ := b_some hf
  refine xx_pL hZ hE k_X7 21 (by decide) rfl rfl rfl tw_402 g_3 dX7_lay_12 (fun H locs hE => ?_)
  refine lv_aload_n hx hb dX7_lay_15 rfl (lv_at hl 1 rfl) ?_
  refine lv_lload_n hx hb dX7_lay_16 rfl (lv_at hl 3 rfl) ?_
  refine lv_lload hx hb dX7_lay_17 (lv_at hl 0 rfl) ?_
  obtain ⟨h_4, hf⟩ := e_some hf
  refine lv_ldiv hx hb dX7_lay_19 h_4 ?_
  obtain ⟨M_5, g_5, hf⟩ := b_some hf
  refine xx_pL hZ hE k_X7 22 (by decide) rfl rfl rfl tw_403 g_5 dX7_lay_20 (fun H locs hE => ?_)
  exact hret _ _ _ _ _ (Option.some.inj hf) dX7_lay_23 hE
def rm_X7_times : Room := { frames := 2, cells := 0, slots := 0, locals := 55 }
def f_X7_times (o : Nat) (a1 : Int64) (a2 : Int64) (M : Mm) : Option (Mm) :=
    (op_gL M 7 o 22).bind fun x_1 =>
    if x_1 = (0 : Int64) then
    (op_pL M 7 o 22 (0 : Int64)).bind fun M_3 =>
    some M_3
    else
    if a2 = (0 : Int64) then
    (op_pL M 7 o 22 (0 : Int64)).bind fun M_5 =>
    some M_5
    else
    (op_gL M 7 o 21).bind fun x_6 =>
    (f_X7_isProduct x_6 a1).bind fun z_7 =>
    if z_7 = 0 then
    (op_pL M 7 o 22 (0 : Int64)).bind fun M_9 =>
    some M_9
    else
    (op_gL M 7 o 22).bind fun x_10 =>
    (f_X7_isProduct x_10 a2).bind fun z_11 =>
    if z_11 = 0 then
    (op_pL M 7 o 22 (0 : Int64)).bind fun M_16 =>
    some M_16
    else
    (op_gL M 7 o 21).bind fun x_13 =>
    (op_gL M 7 o 22).bind fun x_14 =>
    (op_is M o 7).bind fun _ =>
    (f_X7_lay o (x_13 * a1) (x_14 * a2) M).bind fun z_15 =>
    some z_15
set_option maxHeartbeats 4000000 in
set_option maxRecDepth 100000 in
theorem c_X7_times (l : Launch) (D : va_G) (cA : Nat → ClassId) (ad : Nat → Nat) (o : Nat) (a1 : Int64) (a2 : Int64) (M : Mm) (zr : Mm) (hf : f_X7_times o a1 a2 M = some zr) : KV l yX7_times cX7_times 5 none rm_X7_times D cA ad [.ref (ad o), .long a1, .long a2] M zr := by
  refine KV_of (by decide) (Nat.le_of_ble_eq_true rfl) ?_
  intro p e s m args below meth c ls Q A H locs hZ hE hl hret
  have hx := hZ.1
  have hb := hZ.2.1
  have hown := hZ.2.2.2.1
  have hts := hZ.2.2.2.2.1
  have hl : lv_has ls 5 [(0, .ref (ad o)), (1, .long a1), (3, .long a2)] := hl
  unfold f_X7_times at hf
  refine lv_aload_n hx hb dX7_times_0 rfl (lv_at hl 0 rfl) ?_
  obtain ⟨x_1, g_1, hf⟩ := b_some hf
  refine xx_gL hZ hE k_X7 22 (by decide) rfl tw_403 g_1 dX7_times_1 ?_
  refine lv_lconst (v := 0) hx hb dX7_times_4 (by decide) ?_
  refine xx_leq (tgt := 37) hx hb dX7_times_5 dX7_times_6 (by decide) (fun h_2 => ?_) (fun h_2 => ?_)
  · have hf := it_y h_2 hf
    refine lv_aload_n hx hb dX7_times_37 rfl (lv_at hl 0 rfl) ?_
    refine lv_lconst (v := 0) hx hb dX7_times_38 (by decide) ?_
    obtain ⟨M_3, g_3, hf⟩ := b_some hf
    refine xx_pL hZ hE k_X7 22 (by decide) rfl rfl rfl tw_403 g_3 dX7_times_39 (fun H locs hE => ?_)
    exact hret _ _ _ _ _ (Option.some.inj hf) dX7_times_42 hE
  · have hf := it_n h_2 hf
    refine lv_lload_n hx hb dX7_times_9 rfl (lv_at hl 2 rfl) ?_
    refine lv_lconst (v := 0) hx hb dX7_times_10 (by decide) ?_
    refine xx_leq (tgt := 37) hx hb dX7_times_11 dX7_times_12 (by decide) (fun h_4 => ?_) (fun h_4 => ?_)
    · have hf := it_y h_4 hf
      refine lv_aload_n hx hb dX7_times_37 rfl (lv_at hl 0 rfl) ?_
      refine lv_lconst (v := 0) hx hb dX7_times_38 (by decide) ?_
      obtain ⟨M_5, g_5, hf⟩ := b_some hf
      refine xx_pL hZ hE k_X7 22 (by decide) rfl rfl rfl tw_403 g_5 dX7_times_39 (fun H locs hE => ?_)
      exact hret _ _ _ _ _ (Option.some.inj hf) dX7_times_42 hE
    · have hf := it_n h_4 hf
      refine lv_aload_n hx hb dX7_times_15 rfl (lv_at hl 0 rfl) ?_
      obtain ⟨x_6, g_6, hf⟩ := b_some hf
      refine xx_gL hZ hE k_X7 21 (by decide) rfl tw_402 g_6 dX7_times_16 ?_
      refine lv_lload_n hx hb dX7_times_19 rfl (lv_at hl 1 rfl) ?_
      obtain ⟨z_7, c_7, hf⟩ := b_some hf
      refine xx_cSi hZ hE (As := [.long x_6, .long a1]) (rest := []) tw_405 (c_X7_isProduct l D cA ad x_6 a1 M _ c_7) cw_X7_isProduct tw_404 ⟨rfl, rfl⟩ ⟨Nat.le_of_ble_eq_true rfl, Nat.le_of_ble_eq_true rfl⟩ rfl hl.1 rfl (Nat.le_of_ble_eq_true rfl) ⟨Nat.le_of_ble_eq_true rfl, Nat.le_of_ble_eq_true rfl⟩ dX7_times_20 (fun H locs hE => ?_)
      refine lv_if_eq (tgt := 37) hx hb dX7_times_23 (by decide) (fun h_8 => ?_) (fun h_8 => ?_)
      · have hf := it_y h_8 hf
        refine lv_aload_n hx hb dX7_times_37 rfl (lv_at hl 0 rfl) ?_
        refine lv_lconst (v := 0) hx hb dX7_times_38 (by decide) ?_
        obtain ⟨M_9, g_9, hf⟩ := b_some hf
        refine xx_pL hZ hE k_X7 22 (by decide) rfl rfl rfl tw_403 g_9 dX7_times_39 (fun H locs hE => ?_)
        exact hret _ _ _ _ _ (Option.some.inj hf) dX7_times_42 hE
      · have hf := it_n h_8 hf
        refine lv_aload_n hx hb dX7_times_26 rfl (lv_at hl 0 rfl) ?_
        obtain ⟨x_10, g_10, hf⟩ := b_some hf
        refine xx_gL hZ hE k_X7 22 (by decide) rfl tw_403 g_10 dX7_times_27 ?_
        refine lv_lload_n hx hb dX7_times_30 rfl (lv_at hl 2 rfl) ?_
        obtain ⟨z_11, c_11, hf⟩ := b_some hf
        refine xx_cSi hZ hE (As := [.long x_10, .long a2]) (rest := []) tw_405 (c_X7_isProduct l D cA ad x_10 a2 M _ c_11) cw_X7_isProduct tw_404 ⟨rfl, rfl⟩ ⟨Nat.le_of_ble_eq_true rfl, Nat.le_of_ble_eq_true rfl⟩ rfl hl.1 rfl (Nat.le_of_ble_eq_true rfl) ⟨Nat.le_of_ble_eq_true rfl, Nat.le_of_ble_eq_true rfl⟩ dX7_times_31 (fun H locs hE => ?_)
        refine lv_if_ne (tgt := 43) hx hb dX7_times_34 (by decide) (fun h_12 => ?_) (fun h_12 => ?_)
        · have hf := it_n h_12 hf
          refine lv_aload_n hx hb dX7_times_43 rfl (lv_at hl 0 rfl) ?_
          refine lv_aload_n hx hb dX7_times_44 rfl (lv_at hl 0 rfl) ?_
          obtain ⟨x_13, g_13, hf⟩ := b_some hf
          refine xx_gL hZ hE k_X7 21 (by decide) rfl tw_402 g_13 dX7_times_45 ?_
          refine lv_lload_n hx hb dX7_times_48 rfl (lv_at hl 1 rfl) ?_
          refine lv_lmul hx hb dX7_times_49 ?_
          refine lv_aload_n hx hb dX7_times_50 rfl (lv_at hl 0 rfl) ?_
          obtain ⟨x_14, g_14, hf⟩ := b_some hf
          refine xx_gL hZ hE k_X7 22 (by decide) rfl tw_403 g_14 dX7_times_51 ?_
          refine lv_lload_n hx hb dX7_times_54 rfl (lv_at hl 2 rfl) ?_
          refine lv_lmul hx hb dX7_times_55 ?_
          obtain ⟨_, i_15, hf⟩ := b_some hf
          obtain ⟨z_15, c_15, hf⟩ := b_some hf
          refine xx_cVv hZ hE (As := [.long (x_13 * a1), .long (x_14 * a2)]) (rest := []) k_X7 (is_m i_15) tw_407 tw_408 (c_X7_lay l D cA ad o (x_13 * a1) (x_14 * a2) M _ c_15) cw_X7_lay tw_406 ⟨rfl, rfl⟩ ⟨Nat.le_of_ble_eq_true rfl, Nat.le_of_ble_eq_true rfl⟩ rfl hl.1 rfl (Nat.le_of_ble_eq_true rfl) ⟨Nat.le_of_ble_eq_true rfl, Nat.le_of_ble_eq_true rfl⟩ dX7_times_56 (fun H locs hE => ?_)
          exact hret _ _ _ _ _ (Option.some.inj hf) dX7_times_59 hE
        · have hf := it_y h_12 hf
          refine lv_aload_n hx hb dX7_times_37 rfl (lv_at hl 0 rfl) ?_
          refine lv_lconst (v := 0) hx hb dX7_times_38 (by decide) ?_
          obtain ⟨M_16, g_16, hf⟩ := b_some hf
          refine xx_pL hZ hE k_X7 22 (by decide) rfl rfl rfl tw_403 g_16 dX7_times_39 (fun H locs hE => ?_)
          exact hret _ _ _ _ _ (Option.some.inj hf) dX7_times_42 hE
def rm_X7_and : Room := { frames := 2, cells := 0, slots := 0, locals := 55 }
def f_X7_and (o : Nat) (a1 : Int64) (a2 : Int64) (a3 : Int32) (M : Mm) : Option (Mm) :=
    (op_gL M 7 o 22).bind fun x_1 =>
    if x_1 = (0 : Int64) then
    (op_pL M 7 o 22 (0 : Int64)).bind fun M_3 =>
    some M_3
    else
    if a2 = (0 : Int64) then
    (op_pL M 7 o 22 (0 : Int64)).bind fun M_37 =>
    some M_37
    else
    (op_gL M 7 o 22).bind fun x_5 =>
    (f_X7_divisorOf x_5 a2).bind fun z_6 =>
    if z_6 = 0 then none else
    (op_gL M 7 o 22).bind fun x_8 =>
    if z_6 = 0 then none else
    (op_gL M 7 o 21).bind fun x_10 =>
    (f_X7_isProduct x_10 (a2 / z_6)).bind fun z_11 =>
    if z_11 = 0 then
    (op_pL M 7 o 22 (0 : Int64)).bind fun M_13 =>
    some M_13
    else
    (f_X7_isProduct a1 (x_8 / z_6)).bind fun z_14 =>
    if z_14 = 0 then
    (op_pL M 7 o 22 (0 : Int64)).bind fun M_16 =>
    some M_16
    else
    (op_gL M 7 o 22).bind fun x_17 =>
    (f_X7_isProduct x_17 (a2 / z_6)).bind fun z_18 =>
    if z_18 = 0 then
    (op_pL M 7 o 22 (0 : Int64)).bind fun M_20 =>
    some M_20
    else
    if a3 = 0 then
    (op_gL M 7 o 21).bind fun x_28 =>
    if (x_28 * (a2 / z_6)) ≤ ((9223372036854775807 : Int64) - (a1 * (x_8 / z_6))) then
    op_jn (fun (x_30_0 : Int64) =>
    (op_gL M 7 o 22).bind fun x_34 =>
    (op_is M o 7).bind fun _ =>
    (f_X7_lay o x_30_0 (x_34 * (a2 / z_6)) M).bind fun z_35 =>
    some z_35)
    fun j_30 =>
    if a3 = 0 then
    (op_gL M 7 o 21).bind fun x_32 =>
    j_30 ((x_32 * (a2 / z_6)) + (a1 * (x_8 / z_6)))
    else
    (op_gL M 7 o 21).bind fun x_33 =>
    j_30 ((x_33 * (a2 / z_6)) - (a1 * (x_8 / z_6)))
    else
    (op_pL M 7 o 22 (0 : Int64)).bind fun M_36 =>
    some M_36
    else
    op_jn (fun (x_22_0 : Int64) =>
    (op_gL M 7 o 22).bind fun x_26 =>
    (op_is M o 7).bind fun _ =>
    (f_X7_lay o x_22_0 (x_26 * (a2 / z_6)) M).bind fun z_27 =>
    some z_27)
    fun j_22 =>
    if a3 = 0 then
    (op_gL M 7 o 21).bind fun x_24 =>
    j_22 ((x_24 * (a2 / z_6)) + (a1 * (x_8 / z_6)))
    else
    (op_gL M 7 o 21).bind fun x_25 =>
    j_22 ((x_25 * (a2 / z_6)) - (a1 * (x_8 / z_6)))
set_option maxHeartbeats 4000000 in
set_option maxRecDepth 100000 in
theorem c_X7_and (l : Launch) (D : va_G) (cA : Nat → ClassId) (ad : Nat → Nat) (o : Nat) (a1 : Int64) (a2 : Int64) (a3 : Int32) (M : Mm) (zr : Mm) (hf : f_X7_and o a1 a2 a3 M = some zr) : KV l yX7_and cX7_and 12 none rm_X7_and D cA ad [.ref (ad o), .long a1, .long a2, .int a3] M zr := by
  refine KV_of (by decide) (Nat.le_of_ble_eq_true rfl) ?_
  intro p e s m args below meth c ls Q A H locs hZ hE hl hret
  have hx := hZ.1
  have hb := hZ.2.1
  have hown := hZ.2.2.2.1
  have hts := hZ.2.2.2.2.1
  have hl : lv_has ls 12 [(0, .ref (ad o)), (1, .long a1), (3, .long a2), (5, .int a3)] := hl
  unfold f_X7_and at hf
  refine lv_aload_n hx hb dX7_and_0 rfl (lv_at hl 0 rfl) ?_
  obtain ⟨x_1, g_1, hf⟩ := b_some hf
  refine xx_gL hZ hE k_X7 22 (by decide) rfl tw_403 g_1 dX7_and_1 ?_
  refine lv_lconst (v := 0) hx hb dX7_and_4 (by decide) ?_
  refine xx_leq (tgt := 15) hx hb dX7_and_5 dX7_and_6 (by decide) (fun h_2 => ?_) (fun h_2 => ?_)
  · have hf := it_y h_2 hf
    refine lv_aload_n hx hb dX7_and_15 rfl (lv_at hl 0 rfl) ?_
    refine lv_lconst (v := 0) hx hb dX7_and_16 (by decide) ?_
    obtain ⟨M_3, g_3, hf⟩ := b_some hf
    refine xx_pL hZ hE k_X7 22 (by decide) rfl rfl rfl tw_403 g_3 dX7_and_17 (fun H locs hE => ?_)
    exact hret _ _ _ _ _ (Option.some.inj hf) dX7_and_20 hE
  · have hf := it_n h_2 hf
    refine lv_lload_n hx hb dX7_and_9 rfl (lv_at hl 2 rfl) ?_
    refine lv_lconst (v := 0) hx hb dX7_and_10 (by decide) ?_
    refine xx_lne (tgt := 21) hx hb dX7_and_11 dX7_and_12 (by decide) (fun h_4 => ?_) (fun h_4 => ?_)
    · have hf := it_n h_4 hf
      refine lv_aload_n hx hb dX7_and_21 rfl (lv_at hl 0 rfl) ?_
      obtain ⟨x_5, g_5, hf⟩ := b_some hf
      refine xx_gL hZ hE k_X7 22 (by decide) rfl tw_403 g_5 dX7_and_22 ?_
      refine lv_lload_n hx hb dX7_and_25 rfl (lv_at hl 2 rfl) ?_
      obtain ⟨z_6, c_6, hf⟩ := b_some hf
      refine xx_cSl hZ hE (As := [.long x_5, .long a2]) (rest := []) tw_401 (c_X7_divisorOf l D cA ad x_5 a2 M _ c_6) cw_X7_divisorOf tw_400 ⟨rfl, rfl⟩ ⟨Nat.le_of_ble_eq_true rfl, Nat.le_of_ble_eq_true rfl⟩ rfl hl.1 rfl (Nat.le_of_ble_eq_true rfl) ⟨Nat.le_of_ble_eq_true rfl, Nat.le_of_ble_eq_true rfl⟩ dX7_and_26 (fun H locs hE => ?_)
      refine lv_lstore (lv' := [(6, .long z_6), (0, .ref (ad o)), (1, .long a1), (3, .long a2), (5, .int a3)]) hx hb dX7_and_29 hl (by decide) rfl (fun ls hl => ?_)
      refine lv_lload_n hx hb dX7_and_31 rfl (lv_at hl 3 rfl) ?_
      refine lv_lload hx hb dX7_and_32 (lv_at hl 0 rfl) ?_
      obtain ⟨h_7, hf⟩ := e_some hf
      refine lv_ldiv hx hb dX7_and_34 h_7 ?_
      refine lv_lstore (lv' := [(8, .long (a2 / z_6)), (6, .long z_6), (0, .ref (ad o)), (1, .long a1), (3, .long a2), (5, .int a3)]) hx hb dX7_and_35 hl (by decide) rfl (fun ls hl => ?_)
      refine lv_aload_n hx hb dX7_and_37 rfl (lv_at hl 2 rfl) ?_
      obtain ⟨x_8, g_8, hf⟩ := b_some hf
      refine xx_gL hZ hE k_X7 22 (by decide) rfl tw_403 g_8 dX7_and_38 ?_
      refine lv_lload hx hb dX7_and_41 (lv_at hl 1 rfl) ?_
      obtain ⟨h_9, hf⟩ := e_some hf
      refine lv_ldiv hx hb dX7_and_43 h_9 ?_
      refine lv_lstore (lv' := [(10, .long (x_8 / z_6)), (8, .long (a2 / z_6)), (6, .long z_6), (0, .ref (ad o)), (1, .long a1), (3, .long a2), (5, .int a3)]) hx hb dX7_and_44 hl (by decide) rfl (fun ls hl => ?_)
      refine lv_aload_n hx hb dX7_and_46 rfl (lv_at hl 3 rfl) ?_
      obtain ⟨x_10, g_10, hf⟩ := b_some hf
      refine xx_gL hZ hE k_X7 21 (by decide) rfl tw_402 g_10 dX7_and_47 ?_
      refine lv_lload hx hb dX7_and_50 (lv_at hl 1 rfl) ?_
      obtain ⟨z_11, c_11, hf⟩ := b_some hf
      refine xx_cSi hZ hE (As := [.long x_10, .long (a2 / z_6)]) (rest := []) tw_405 (c_X7_isProduct l D cA ad x_10 (a2 / z_6) M _ c_11) cw_X7_isProduct tw_404 ⟨rfl, rfl⟩ ⟨Nat.le_of_ble_eq_true rfl, Nat.le_of_ble_eq_true rfl⟩ rfl hl.1 rfl (Nat.le_of_ble_eq_true rfl) ⟨Nat.le_of_ble_eq_true rfl, Nat.le_of_ble_eq_true rfl⟩ dX7_and_52 (fun H locs hE => ?_)
      refine lv_if_eq (tgt := 103) hx hb dX7_and_55 (by decide) (fun h_12 => ?_) (fun h_12 => ?_)
      · have hf := it_y h_12 hf
        refine lv_aload_n hx hb dX7_and_103 rfl (lv_at hl 3 rfl) ?_
        refine lv_lconst (v := 0) hx hb dX7_and_104 (by decide) ?_
        obtain ⟨M_13, g_13, hf⟩ := b_some hf
        refine xx_pL hZ hE k_X7 22 (by decide) rfl rfl rfl tw_403 g_13 dX7_and_105 (fun H locs hE => ?_)
        exact hret _ _ _ _ _ (Option.some.inj hf) dX7_and_108 hE
      · have hf := it_n h_12 hf
        refine lv_lload_n hx hb dX7_and_58 rfl (lv_at hl 4 rfl) ?_
        refine lv_lload hx hb dX7_and_59 (lv_at hl 0 rfl) ?_
        obtain ⟨z_14, c_14, hf⟩ := b_some hf
        refine xx_cSi hZ hE (As := [.long a1, .long (x_8 / z_6)]) (rest := []) tw_405 (c_X7_isProduct l D cA ad a1 (x_8 / z_6) M _ c_14) cw_X7_isProduct tw_404 ⟨rfl, rfl⟩ ⟨Nat.le_of_ble_eq_true rfl, Nat.le_of_ble_eq_true rfl⟩ rfl hl.1 rfl (Nat.le_of_ble_eq_true rfl) ⟨Nat.le_of_ble_eq_true rfl, Nat.le_of_ble_eq_true rfl⟩ dX7_and_61 (fun H locs hE => ?_)
        refine lv_if_eq (tgt := 103) hx hb dX7_and_64 (by decide) (fun h_15 => ?_) (fun h_15 => ?_)
        · have hf := it_y h_15 hf
          refine lv_aload_n hx hb dX7_and_103 rfl (lv_at hl 3 rfl) ?_
          refine lv_lconst (v := 0) hx hb dX7_and_104 (by decide) ?_
          obtain ⟨M_16, g_16, hf⟩ := b_some hf
          refine xx_pL hZ hE k_X7 22 (by decide) rfl rfl rfl tw_403 g_16 dX7_and_105 (fun H locs hE => ?_)
          exact hret _ _ _ _ _ (Option.some.inj hf) dX7_and_108 hE
        · have hf := it_n h_15 hf
          refine lv_aload_n hx hb dX7_and_67 rfl (lv_at hl 3 rfl) ?_
          obtain ⟨x_17, g_17, hf⟩ := b_some hf
          refine xx_gL hZ hE k_X7 22 (by decide) rfl tw_403 g_17 dX7_and_68 ?_
          refine lv_lload hx hb dX7_and_71 (lv_at hl 1 rfl) ?_
          obtain ⟨z_18, c_18, hf⟩ := b_some hf
          refine xx_cSi hZ hE (As := [.long x_17, .long (a2 / z_6)]) (rest := []) tw_405 (c_X7_isProduct l D cA ad x_17 (a2 / z_6) M _ c_18) cw_X7_isProduct tw_404 ⟨rfl, rfl⟩ ⟨Nat.le_of_ble_eq_true rfl, Nat.le_of_ble_eq_true rfl⟩ rfl hl.1 rfl (Nat.le_of_ble_eq_true rfl) ⟨Nat.le_of_ble_eq_true rfl, Nat.le_of_ble_eq_true rfl⟩ dX7_and_73 (fun H locs hE => ?_)
          refine lv_if_eq (tgt := 103) hx hb dX7_and_76 (by decide) (fun h_19 => ?_) (fun h_19 => ?_)
          · have hf := it_y h_19 hf
            refine lv_aload_n hx hb dX7_and_103 rfl (lv_at hl 3 rfl) ?_
            refine lv_lconst (v := 0) hx hb dX7_and_104 (by decide) ?_
            obtain ⟨M_20, g_20, hf⟩ := b_some hf
            refine xx_pL hZ hE k_X7 22 (by decide) rfl rfl rfl tw_403 g_20 dX7_and_105 (fun H locs hE => ?_)
            exact hret _ _ _ _ _ (Option.some.inj hf) dX7_and_108 hE
          · have hf := it_n h_19 hf
            refine lv_iload hx hb dX7_and_79 (lv_at hl 6 rfl) ?_
            refine lv_if_ne (tgt := 109) hx hb dX7_and_81 (by decide) (fun h_21 => ?_) (fun h_21 => ?_)
            · have hf := it_n h_21 hf
              refine lv_aload_n hx hb dX7_and_109 rfl (lv_at hl 3 rfl) ?_
              refine lv_iload hx hb dX7_and_110 (lv_at hl 6 rfl) ?_
              obtain ⟨j_22, ej_22, hf⟩ := jn_e hf
              have q_22 : ∀ (x_22_0 : Int64) (H : Heap) (locs : List Loc) (ls : Array Slot), j_22 x_22_0 = some zr → En D cA ad s A M H locs → lv_has ls 12 [(0, .ref (ad o)), (8, .long (a2 / z_6))] → W p l e rm_X7_and s m args below meth c H locs 0 0 Q (F0 m 142 ls [.long x_22_0, .ref (ad o)]) := by
                intro x_22_0 H locs ls hf hE hl
                rw [ej_22] at hf
                refine lv_aload_n hx hb dX7_and_142 rfl (lv_at hl 0 rfl) ?_
                obtain ⟨x_26, g_26, hf⟩ := b_some hf
                refine xx_gL hZ hE k_X7 22 (by decide) rfl tw_403 g_26 dX7_and_143 ?_
                refine lv_lload hx hb dX7_and_146 (lv_at hl 1 rfl) ?_
                refine lv_lmul hx hb dX7_and_148 ?_
                obtain ⟨_, i_27, hf⟩ := b_some hf
                obtain ⟨z_27, c_27, hf⟩ := b_some hf
                refine xx_cVv hZ hE (As := [.long x_22_0, .long (x_26 * (a2 / z_6))]) (rest := []) k_X7 (is_m i_27) tw_407 tw_408 (c_X7_lay l D cA ad o x_22_0 (x_26 * (a2 / z_6)) M _ c_27) cw_X7_lay tw_406 ⟨rfl, rfl⟩ ⟨Nat.le_of_ble_eq_true rfl, Nat.le_of_ble_eq_true rfl⟩ rfl hl.1 rfl (Nat.le_of_ble_eq_true rfl) ⟨Nat.le_of_ble_eq_true rfl, Nat.le_of_ble_eq_true rfl⟩ dX7_and_149 (fun H locs hE => ?_)
                exact hret _ _ _ _ _ (Option.some.inj hf) dX7_and_152 hE
              refine lv_if_eq (tgt := 130) hx hb dX7_and_112 (by decide) (fun h_23 => ?_) (fun h_23 => ?_)
              · have hf := it_y h_23 hf
                refine lv_aload_n hx hb dX7_and_130 rfl (lv_at hl 3 rfl) ?_
                obtain ⟨x_24, g_24, hf⟩ := b_some hf
                refine xx_gL hZ hE k_X7 21 (by decide) rfl tw_402 g_24 dX7_and_131 ?_
                refine lv_lload hx hb dX7_and_134 (lv_at hl 1 rfl) ?_
                refine lv_lmul hx hb dX7_and_136 ?_
                refine lv_lload_n hx hb dX7_and_137 rfl (lv_at hl 4 rfl) ?_
                refine lv_lload hx hb dX7_and_138 (lv_at hl 0 rfl) ?_
                refine lv_lmul hx hb dX7_and_140 ?_
                refine lv_ladd hx hb dX7_and_141 ?_
                exact q_22 _ _ _ _ hf hE (lv_sub hl [3, 1] rfl)
              · have hf := it_n h_23 hf
                refine lv_aload_n hx hb dX7_and_115 rfl (lv_at hl 3 rfl) ?_
                obtain ⟨x_25, g_25, hf⟩ := b_some hf
                refine xx_gL hZ hE k_X7 21 (by decide) rfl tw_402 g_25 dX7_and_116 ?_
                refine lv_lload hx hb dX7_and_119 (lv_at hl 1 rfl) ?_
                refine lv_lmul hx hb dX7_and_121 ?_
                refine lv_lload_n hx hb dX7_and_122 rfl (lv_at hl 4 rfl) ?_
                refine lv_lload hx hb dX7_and_123 (lv_at hl 0 rfl) ?_
                refine lv_lmul hx hb dX7_and_125 ?_
                refine lv_lsub hx hb dX7_and_126 ?_
                refine lv_goto (tgt := 142) hx hb dX7_and_127 (by decide) ?_
                exact q_22 _ _ _ _ hf hE (lv_sub hl [3, 1] rfl)
            · have hf := it_y h_21 hf
              refine lv_aload_n hx hb dX7_and_84 rfl (lv_at hl 3 rfl) ?_
              obtain ⟨x_28, g_28, hf⟩ := b_some hf
              refine xx_gL hZ hE k_X7 21 (by decide) rfl tw_402 g_28 dX7_and_85 ?_
              refine lv_lload hx hb dX7_and_88 (lv_at hl 1 rfl) ?_
              refine lv_lmul hx hb dX7_and_90 ?_
              refine lv_ldc2 (v := 9223372036854775807) hx hb hown (hts _ tw_399) dX7_and_91 ?_
              refine lv_lload_n hx hb dX7_and_94 rfl (lv_at hl 4 rfl) ?_
              refine lv_lload hx hb dX7_and_95 (lv_at hl 0 rfl) ?_
              refine lv_lmul hx hb dX7_and_97 ?_
              refine lv_lsub hx hb dX7_and_98 ?_
              refine xx_lle (tgt := 109) hx hb dX7_and_99 dX7_and_100 (by decide) (fun h_29 => ?_) (fun h_29 => ?_)
              · have hf := it_y h_29 hf
                refine lv_aload_n hx hb dX7_and_109 rfl (lv_at hl 3 rfl) ?_
                refine lv_iload hx hb dX7_and_110 (lv_at hl 6 rfl) ?_
                obtain ⟨j_30, ej_30, hf⟩ := jn_e hf
                have q_30 : ∀ (x_30_0 : Int64) (H : Heap) (locs : List Loc) (ls : Array Slot), j_30 x_30_0 = some zr → En D cA ad s A M H locs → lv_has ls 12 [(0, .ref (ad o)), (8, .long (a2 / z_6))] → W p l e rm_X7_and s m args below meth c H locs 0 0 Q (F0 m 142 ls [.long x_30_0, .ref (ad o)]) := by
                  intro x_30_0 H locs ls hf hE hl
                  rw [ej_30] at hf
                  refine lv_aload_n hx hb dX7_and_142 rfl (lv_at hl 0 rfl) ?_
                  obtain ⟨x_34, g_34, hf⟩ := b_some hf
                  refine xx_gL hZ hE k_X7 22 (by decide) rfl tw_403 g_34 dX7_and_143 ?_
                  refine lv_lload hx hb dX7_and_146 (lv_at hl 1 rfl) ?_
                  refine lv_lmul hx hb dX7_and_148 ?_
                  obtain ⟨_, i_35, hf⟩ := b_some hf
                  obtain ⟨z_35, c_35, hf⟩ := b_some hf
                  refine xx_cVv hZ hE (As := [.long x_30_0, .long (x_34 * (a2 / z_6))]) (rest := []) k_X7 (is_m i_35) tw_407 tw_408 (c_X7_lay l D cA ad o x_30_0 (x_34 * (a2 / z_6)) M _ c_35) cw_X7_lay tw_406 ⟨rfl, rfl⟩ ⟨Nat.le_of_ble_eq_true rfl, Nat.le_of_ble_eq_true rfl⟩ rfl hl.1 rfl (Nat.le_of_ble_eq_true rfl) ⟨Nat.le_of_ble_eq_true rfl, Nat.le_of_ble_eq_true rfl⟩ dX7_and_149 (fun H locs hE => ?_)
                  exact hret _ _ _ _ _ (Option.some.inj hf) dX7_and_152 hE
                refine lv_if_eq (tgt := 130) hx hb dX7_and_112 (by decide) (fun h_31 => ?_) (fun h_31 => ?_)
                · have hf := it_y h_31 hf
                  refine lv_aload_n hx hb dX7_and_130 rfl (lv_at hl 3 rfl) ?_
                  obtain ⟨x_32, g_32, hf⟩ := b_some hf
                  refine xx_gL hZ hE k_X7 21 (by decide) rfl tw_402 g_32 dX7_and_131 ?_
                  refine lv_lload hx hb dX7_and_134 (lv_at hl 1 rfl) ?_
                  refine lv_lmul hx hb dX7_and_136 ?_
                  refine lv_lload_n hx hb dX7_and_137 rfl (lv_at hl 4 rfl) ?_
                  refine lv_lload hx hb dX7_and_138 (lv_at hl 0 rfl) ?_
                  refine lv_lmul hx hb dX7_and_140 ?_
                  refine lv_ladd hx hb dX7_and_141 ?_
                  exact q_30 _ _ _ _ hf hE (lv_sub hl [3, 1] rfl)
                · have hf := it_n h_31 hf
                  refine lv_aload_n hx hb dX7_and_115 rfl (lv_at hl 3 rfl) ?_
                  obtain ⟨x_33, g_33, hf⟩ := b_some hf
                  refine xx_gL hZ hE k_X7 21 (by decide) rfl tw_402 g_33 dX7_and_116 ?_
                  refine lv_lload hx hb dX7_and_119 (lv_at hl 1 rfl) ?_
                  refine lv_lmul hx hb dX7_and_121 ?_
                  refine lv_lload_n hx hb dX7_and_122 rfl (lv_at hl 4 rfl) ?_
                  refine lv_lload hx hb dX7_and_123 (lv_at hl 0 rfl) ?_
                  refine lv_lmul hx hb dX7_and_125 ?_
                  refine lv_lsub hx hb dX7_and_126 ?_
                  refine lv_goto (tgt := 142) hx hb dX7_and_127 (by decide) ?_
                  exact q_30 _ _ _ _ hf hE (lv_sub hl [3, 1] rfl)
              · have hf := it_n h_29 hf
                refine lv_aload_n hx hb dX7_and_103 rfl (lv_at hl 3 rfl) ?_
                refine lv_lconst (v := 0) hx hb dX7_and_104 (by decide) ?_
                obtain ⟨M_36, g_36, hf⟩ := b_some hf
                refine xx_pL hZ hE k_X7 22 (by decide) rfl rfl rfl tw_403 g_36 dX7_and_105 (fun H locs hE => ?_)
                exact hret _ _ _ _ _ (Option.some.inj hf) dX7_and_108 hE
    · have hf := it_y h_4 hf
      refine lv_aload_n hx hb dX7_and_15 rfl (lv_at hl 0 rfl) ?_
      refine lv_lconst (v := 0) hx hb dX7_and_16 (by decide) ?_
      obtain ⟨M_37, g_37, hf⟩ := b_some hf
      refine xx_pL hZ hE k_X7 22 (by decide) rfl rfl rfl tw_403 g_37 dX7_and_17 (fun H locs hE => ?_)
      exact hret _ _ _ _ _ (Option.some.inj hf) dX7_and_20 hE
def lp_X7_manyFrom_6 (i_0 : Nat) (i_1 : Int32) (i_2 : Int32) (i_3 : Int32) (M : Mm) : Nat → Int32 → Int32 → Option (Int32)
  | 0, _, _ => none
  | n_6 + 1, v_4, v_5 =>
    (op_gR M 7 i_0 1).bind fun x_1 =>
    (op_aI M x_1 i_2).bind fun x_2 =>
    if x_2 ≤ v_5 then
    some v_4
    else
    (op_gR M 7 i_0 3).bind fun x_4 =>
    (op_is M i_0 7).bind fun _ =>
    (f_X7_with i_0 i_1 i_2 v_5 M).bind fun z_5 =>
    (op_aI M x_4 z_5).bind fun x_6 =>
    lp_X7_manyFrom_6 i_0 i_1 i_2 i_3 M n_6 (v_4 + (if x_6 < i_3 then (0 : Int32) else (1 : Int32))) (v_5 + 1)
theorem lp_X7_manyFrom_6_s (i_0 : Nat) (i_1 : Int32) (i_2 : Int32) (i_3 : Int32) (M : Mm) {n_6 : Nat} {v_4 : Int32} {v_5 : Int32} {zr : Int32} (hf : lp_X7_manyFrom_6 i_0 i_1 i_2 i_3 M (n_6 + 1) v_4 v_5 = some zr) : (
    (op_gR M 7 i_0 1).bind fun x_1 =>
    (op_aI M x_1 i_2).bind fun x_2 =>
    if x_2 ≤ v_5 then
    some v_4
    else
    (op_gR M 7 i_0 3).bind fun x_4 =>
    (op_is M i_0 7).bind fun _ =>
    (f_X7_with i_0 i_1 i_2 v_5 M).bind fun z_5 =>
    (op_aI M x_4 z_5).bind fun x_6 =>
    lp_X7_manyFrom_6 i_0 i_1 i_2 i_3 M n_6 (v_4 + (if x_6 < i_3 then (0 : Int32) else (1 : Int32))) (v_5 + 1)) = some zr := hf
def rm_X7_manyFrom : Room := { frames := 3, cells := 0, slots := 0, locals := 68 }
def f_X7_manyFrom (o : Nat) (a1 : Int32) (a2 : Int32) (a3 : Int32) (M : Mm) : Option (Int32) :=
    lp_X7_manyFrom_6  o a1 a2 a3 M FU (0 : Int32) (0 : Int32)
set_option maxHeartbeats 4000000 in
set_option maxRecDepth 100000 in
theorem c_X7_manyFrom (l : Launch) (D : va_G) (cA : Nat → ClassId) (ad : Nat → Nat) (o : Nat) (a1 : Int32) (a2 : Int32) (a3 : Int32) (M : Mm) (zr : Int32) (hf : f_X7_manyFrom o a1 a2 a3 M = some zr) : KI l yX7_manyFrom cX7_manyFrom 6 (some .int) rm_X7_manyFrom D cA ad [.ref (ad o), .int a1, .int a2, .int a3] M zr M := by
  refine KI_of (by decide) (Nat.le_of_ble_eq_true rfl) ?_
  intro p e s m args below meth c ls Q A H locs hZ hE hl hret
  have hx := hZ.1
  have hb := hZ.2.1
  have hown := hZ.2.2.2.1
  have hts := hZ.2.2.2.2.1
  have hl : lv_has ls 6 [(0, .ref (ad o)), (1, .int a1), (2, .int a2), (3, .int a3)] := hl
  unfold f_X7_manyFrom at hf
  refine lv_iconst (v := 0) hx hb dX7_manyFrom_0 (by decide) ?_
  refine lv_istore (lv' := [(4, .int (0 : Int32)), (0, .ref (ad o)), (1, .int a1), (2, .int a2), (3, .int a3)]) hx hb dX7_manyFrom_1 hl (by decide) rfl (fun ls hl => ?_)
  refine lv_iconst (v := 0) hx hb dX7_manyFrom_3 (by decide) ?_
  refine lv_istore (lv' := [(5, .int (0 : Int32)), (4, .int (0 : Int32)), (0, .ref (ad o)), (1, .int a1), (2, .int a2), (3, .int a3)]) hx hb dX7_manyFrom_4 hl (by decide) rfl (fun ls hl => ?_)
  have L_9 : ∀ (n_6 : Nat) (w_9_4 : Int32) (w_9_5 : Int32) (H : Heap) (locs : List Loc) (ls : Array Slot), lp_X7_manyFrom_6 o a1 a2 a3 M n_6 w_9_4 w_9_5 = some zr → En D cA ad s A M H locs → lv_has ls 6 [(0, .ref (ad o)), (1, .int a1), (2, .int a2), (3, .int a3), (4, .int w_9_4), (5, .int w_9_5)] → W p l e rm_X7_manyFrom s m args below meth c H locs 0 0 Q (F0 m 6 ls []) := by
    intro n_6
    induction n_6 with
    | zero =>
      intro w_9_4 w_9_5 H locs ls hf
      cases (show (none : Option (Int32)) = some zr from hf)
    | succ n_6 ih_6 =>
      intro w_9_4 w_9_5 H locs ls hf hE hl
      have hf := lp_X7_manyFrom_6_s _ _ _ _ _ hf
      refine lv_iload hx hb dX7_manyFrom_6 (lv_at hl 5 rfl) ?_
      refine lv_aload_n hx hb dX7_manyFrom_8 rfl (lv_at hl 0 rfl) ?_
      obtain ⟨x_10, g_10, hf⟩ := b_some hf
      refine xx_gR hZ hE k_X7 1 (by decide) rfl tw_370 g_10 dX7_manyFrom_9 ?_
      refine lv_iload_n hx hb dX7_manyFrom_12 rfl (lv_at hl 2 rfl) ?_
      obtain ⟨x_11, g_11, hf⟩ := b_some hf
      refine xx_aI hZ hE g_11 dX7_manyFrom_13 ?_
      refine lv_icmp_ge (tgt := 50) hx hb dX7_manyFrom_14 (by decide) (fun h_12 => ?_) (fun h_12 => ?_)
      · have hf := it_y h_12 hf
        refine lv_iload hx hb dX7_manyFrom_50 (lv_at hl 4 rfl) ?_
        exact hret _ _ _ _ _ _ (Option.some.inj hf) rfl rfl dX7_manyFrom_52 hE
      · have hf := it_n h_12 hf
        refine lv_iload hx hb dX7_manyFrom_17 (lv_at hl 4 rfl) ?_
        refine lv_aload_n hx hb dX7_manyFrom_19 rfl (lv_at hl 0 rfl) ?_
        obtain ⟨x_13, g_13, hf⟩ := b_some hf
        refine xx_gR hZ hE k_X7 3 (by decide) rfl tw_371 g_13 dX7_manyFrom_20 ?_
        refine lv_aload_n hx hb dX7_manyFrom_23 rfl (lv_at hl 0 rfl) ?_
        refine lv_iload_n hx hb dX7_manyFrom_24 rfl (lv_at hl 1 rfl) ?_
        refine lv_iload_n hx hb dX7_manyFrom_25 rfl (lv_at hl 2 rfl) ?_
        refine lv_iload hx hb dX7_manyFrom_26 (lv_at hl 5 rfl) ?_
        obtain ⟨_, i_14, hf⟩ := b_some hf
        obtain ⟨z_14, c_14, hf⟩ := b_some hf
        refine xx_cVi hZ hE (As := [.int a1, .int a2, .int w_9_5]) (rest := [.ref (ad x_13), .int w_9_4]) k_X7 (is_m i_14) tw_410 tw_411 (c_X7_with l D cA ad o a1 a2 w_9_5 M _ c_14) cw_X7_with tw_409 ⟨rfl, rfl⟩ ⟨Nat.le_of_ble_eq_true rfl, Nat.le_of_ble_eq_true rfl⟩ rfl hl.1 rfl (Nat.le_of_ble_eq_true rfl) ⟨Nat.le_of_ble_eq_true rfl, Nat.le_of_ble_eq_true rfl⟩ dX7_manyFrom_28 (fun H locs hE => ?_)
        obtain ⟨x_15, g_15, hf⟩ := b_some hf
        refine xx_aI hZ hE g_15 dX7_manyFrom_31 ?_
        refine lv_iload_n hx hb dX7_manyFrom_32 rfl (lv_at hl 3 rfl) ?_
        have q_16 : ∀ x_16 : Int32, x_16 = (if x_15 < a3 then (0 : Int32) else (1 : Int32)) → W p l e rm_X7_manyFrom s m args below meth c H locs 0 0 Q (F0 m 41 ls [.int x_16, .int w_9_4]) := by
          intro x_16 e_16
          subst e_16
          refine lv_iadd hx hb dX7_manyFrom_41 ?_
          refine lv_istore (lv' := [(4, .int (w_9_4 + (if x_15 < a3 then (0 : Int32) else (1 : Int32)))), (0, .ref (ad o)), (1, .int a1), (2, .int a2), (3, .int a3), (5, .int w_9_5)]) hx hb dX7_manyFrom_42 hl (by decide) rfl (fun ls hl => ?_)
          refine lv_iinc (v := (w_9_5 + 1)) (lv' := [(5, .int (w_9_5 + 1)), (4, .int (w_9_4 + (if x_15 < a3 then (0 : Int32) else (1 : Int32)))), (0, .ref (ad o)), (1, .int a1), (2, .int a2), (3, .int a3)]) hx hb dX7_manyFrom_44 hl (k := 5) rfl rfl (by decide) rfl (fun ls hl => ?_)
          refine lv_goto (tgt := 6) hx hb dX7_manyFrom_47 (by decide) ?_
          exact ih_6 _ _ _ _ _ hf hE (lv_sub hl [2, 3, 4, 5, 1, 0] rfl)
        refine lv_icmp_lt (tgt := 40) hx hb dX7_manyFrom_33 (by decide) (fun h_17 => ?_) (fun h_17 => ?_)
        · refine lv_iconst (v := 0) hx hb dX7_manyFrom_40 (by decide) ?_
          exact q_16 _ (by rw [if_pos h_17])
        · refine lv_iconst (v := 1) hx hb dX7_manyFrom_36 (by decide) ?_
          refine lv_goto (tgt := 41) hx hb dX7_manyFrom_37 (by decide) ?_
          exact q_16 _ (by rw [if_neg h_17])
  exact L_9 _ _ _ _ _ _ hf hE (lv_sub hl [2, 3, 4, 5, 1, 0] rfl)
def rm_X7_isInLine : Room := { frames := 3, cells := 0, slots := 0, locals := 68 }
def f_X7_isInLine (o : Nat) (a1 : Int32) (a2 : Int32) (a3 : Int32) (M : Mm) : Option (Int32) :=
    (op_is M o 7).bind fun _ =>
    (f_X7_valueOf o a2 a3 M).bind fun z_1 =>
    (op_is M o 7).bind fun _ =>
    (f_X7_with o a1 a3 z_1 M).bind fun z_2 =>
    if z_2 = a2 then
    some (1 : Int32)
    else
    some (0 : Int32)
set_option maxHeartbeats 4000000 in
set_option maxRecDepth 100000 in
theorem c_X7_isInLine (l : Launch) (D : va_G) (cA : Nat → ClassId) (ad : Nat → Nat) (o : Nat) (a1 : Int32) (a2 : Int32) (a3 : Int32) (M : Mm) (zr : Int32) (hf : f_X7_isInLine o a1 a2 a3 M = some zr) : KI l yX7_isInLine cX7_isInLine 4 (some .boolean) rm_X7_isInLine D cA ad [.ref (ad o), .int a1, .int a2, .int a3] M zr M := by
  refine KI_of (by decide) (Nat.le_of_ble_eq_true rfl) ?_
  intro p e s m args below meth c ls Q A H locs hZ hE hl hret
  have hx := hZ.1
  have hb := hZ.2.1
  have hown := hZ.2.2.2.1
  have hts := hZ.2.2.2.2.1
  have hl : lv_has ls 4 [(0, .ref (ad o)), (1, .int a1), (2, .int a2), (3, .int a3)] := hl
  unfold f_X7_isInLine at hf
  refine lv_aload_n hx hb dX7_isInLine_0 rfl (lv_at hl 0 rfl) ?_
  refine lv_iload_n hx hb dX7_isInLine_1 rfl (lv_at hl 1 rfl) ?_
  refine lv_iload_n hx hb dX7_isInLine_2 rfl (lv_at hl 3 rfl) ?_
  refine lv_aload_n hx hb dX7_isInLine_3 rfl (lv_at hl 0 rfl) ?_
  refine lv_iload_n hx hb dX7_isInLine_4 rfl (lv_at hl 2 rfl) ?_
  refine lv_iload_n hx hb dX7_isInLine_5 rfl (lv_at hl 3 rfl) ?_
  obtain ⟨_, i_1, hf⟩ := b_some hf
  obtain ⟨z_1, c_1, hf⟩ := b_some hf
  refine xx_cVi hZ hE (As := [.int a2, .int a3]) (rest := [.int a3, .int a1, .ref (ad o)]) k_X7 (is_m i_1) tw_384 tw_385 (c_X7_valueOf l D cA ad o a2 a3 M _ c_1) cw_X7_valueOf tw_383 ⟨rfl, rfl⟩ ⟨Nat.le_of_ble_eq_true rfl, Nat.le_of_ble_eq_true rfl⟩ rfl hl.1 rfl (Nat.le_of_ble_eq_true rfl) ⟨Nat.le_of_ble_eq_true rfl, Nat.le_of_ble_eq_true rfl⟩ dX7_isInLine_6 (fun H locs hE => ?_)
  obtain ⟨_, i_2, hf⟩ := b_some hf
  obtain ⟨z_2, c_2, hf⟩ := b_some hf
  refine xx_cVi hZ hE (As := [.int a1, .int a3, .int z_1]) (rest := []) k_X7 (is_m i_2) tw_410 tw_411 (c_X7_with l D cA ad o a1 a3 z_1 M _ c_2) cw_X7_with tw_409 ⟨rfl, rfl⟩ ⟨Nat.le_of_ble_eq_true rfl, Nat.le_of_ble_eq_true rfl⟩ rfl hl.1 rfl (Nat.le_of_ble_eq_true rfl) ⟨Nat.le_of_ble_eq_true rfl, Nat.le_of_ble_eq_true rfl⟩ dX7_isInLine_9 (fun H locs hE => ?_)
  refine lv_iload_n hx hb dX7_isInLine_12 rfl (lv_at hl 2 rfl) ?_
  refine lv_icmp_ne (tgt := 20) hx hb dX7_isInLine_13 (by decide) (fun h_3 => ?_) (fun h_3 => ?_)
  · have hf := it_n h_3 hf
    refine lv_iconst (v := 0) hx hb dX7_isInLine_20 (by decide) ?_
    exact hret _ _ _ _ _ _ (Option.some.inj hf) rfl rfl dX7_isInLine_21 hE
  · have hf := it_y h_3 hf
    refine lv_iconst (v := 1) hx hb dX7_isInLine_16 (by decide) ?_
    refine lv_goto (tgt := 21) hx hb dX7_isInLine_17 (by decide) ?_
    exact hret _ _ _ _ _ _ (Option.some.inj hf) rfl rfl dX7_isInLine_21 hE
def lp_X7_sumOfLine_5 (i_0 : Nat) (i_1 : Int32) (i_2 : Int32) (M : Mm) : Nat → Int32 → Int32 → Option (Int32)
  | 0, _, _ => none
  | n_5 + 1, v_3, v_4 =>
    (op_gR M 7 i_0 1).bind fun x_1 =>
    (op_aI M x_1 i_2).bind fun x_2 =>
    if x_2 ≤ v_4 then
    some v_3
    else
    (op_gR M 7 i_0 3).bind fun x_4 =>
    (op_is M i_0 7).bind fun _ =>
    (f_X7_with i_0 i_1 i_2 v_4 M).bind fun z_5 =>
    (op_aI M x_4 z_5).bind fun x_6 =>
    lp_X7_sumOfLine_5 i_0 i_1 i_2 M n_5 (v_3 + x_6) (v_4 + 1)
theorem lp_X7_sumOfLine_5_s (i_0 : Nat) (i_1 : Int32) (i_2 : Int32) (M : Mm) {n_5 : Nat} {v_3 : Int32} {v_4 : Int32} {zr : Int32} (hf : lp_X7_sumOfLine_5 i_0 i_1 i_2 M (n_5 + 1) v_3 v_4 = some zr) : (
    (op_gR M 7 i_0 1).bind fun x_1 =>
    (op_aI M x_1 i_2).bind fun x_2 =>
    if x_2 ≤ v_4 then
    some v_3
    else
    (op_gR M 7 i_0 3).bind fun x_4 =>
    (op_is M i_0 7).bind fun _ =>
    (f_X7_with i_0 i_1 i_2 v_4 M).bind fun z_5 =>
    (op_aI M x_4 z_5).bind fun x_6 =>
    lp_X7_sumOfLine_5 i_0 i_1 i_2 M n_5 (v_3 + x_6) (v_4 + 1)) = some zr := hf
def rm_X7_sumOfLine : Room := { frames := 3, cells := 0, slots := 0, locals := 68 }
def f_X7_sumOfLine (o : Nat) (a1 : Int32) (a2 : Int32) (M : Mm) : Option (Int32) :=
    lp_X7_sumOfLine_5  o a1 a2 M FU (0 : Int32) (0 : Int32)
set_option maxHeartbeats 4000000 in
set_option maxRecDepth 100000 in
theorem c_X7_sumOfLine (l : Launch) (D : va_G) (cA : Nat → ClassId) (ad : Nat → Nat) (o : Nat) (a1 : Int32) (a2 : Int32) (M : Mm) (zr : Int32) (hf : f_X7_sumOfLine o a1 a2 M = some zr) : KI l yX7_sumOfLine cX7_sumOfLine 5 (some .int) rm_X7_sumOfLine D cA ad [.ref (ad o), .int a1, .int a2] M zr M := by
  refine KI_of (by decide) (Nat.le_of_ble_eq_true rfl) ?_
  intro p e s m args below meth c ls Q A H locs hZ hE hl hret
  have hx := hZ.1
  have hb := hZ.2.1
  have hown := hZ.2.2.2.1
  have hts := hZ.2.2.2.2.1
  have hl : lv_has ls 5 [(0, .ref (ad o)), (1, .int a1), (2, .int a2)] := hl
  unfold f_X7_sumOfLine at hf
  refine lv_iconst (v := 0) hx hb dX7_sumOfLine_0 (by decide) ?_
  refine lv_istore_n (lv' := [(3, .int (0 : Int32)), (0, .ref (ad o)), (1, .int a1), (2, .int a2)]) hx hb dX7_sumOfLine_1 rfl hl (by decide) rfl (fun ls hl => ?_)
  refine lv_iconst (v := 0) hx hb dX7_sumOfLine_2 (by decide) ?_
  refine lv_istore (lv' := [(4, .int (0 : Int32)), (3, .int (0 : Int32)), (0, .ref (ad o)), (1, .int a1), (2, .int a2)]) hx hb dX7_sumOfLine_3 hl (by decide) rfl (fun ls hl => ?_)
  have L_7 : ∀ (n_5 : Nat) (w_7_3 : Int32) (w_7_4 : Int32) (H : Heap) (locs : List Loc) (ls : Array Slot), lp_X7_sumOfLine_5 o a1 a2 M n_5 w_7_3 w_7_4 = some zr → En D cA ad s A M H locs → lv_has ls 5 [(0, .ref (ad o)), (1, .int a1), (2, .int a2), (3, .int w_7_3), (4, .int w_7_4)] → W p l e rm_X7_sumOfLine s m args below meth c H locs 0 0 Q (F0 m 5 ls []) := by
    intro n_5
    induction n_5 with
    | zero =>
      intro w_7_3 w_7_4 H locs ls hf
      cases (show (none : Option (Int32)) = some zr from hf)
    | succ n_5 ih_5 =>
      intro w_7_3 w_7_4 H locs ls hf hE hl
      have hf := lp_X7_sumOfLine_5_s _ _ _ _ hf
      refine lv_iload hx hb dX7_sumOfLine_5 (lv_at hl 4 rfl) ?_
      refine lv_aload_n hx hb dX7_sumOfLine_7 rfl (lv_at hl 0 rfl) ?_
      obtain ⟨x_8, g_8, hf⟩ := b_some hf
      refine xx_gR hZ hE k_X7 1 (by decide) rfl tw_370 g_8 dX7_sumOfLine_8 ?_
      refine lv_iload_n hx hb dX7_sumOfLine_11 rfl (lv_at hl 2 rfl) ?_
      obtain ⟨x_9, g_9, hf⟩ := b_some hf
      refine xx_aI hZ hE g_9 dX7_sumOfLine_12 ?_
      refine lv_icmp_ge (tgt := 38) hx hb dX7_sumOfLine_13 (by decide) (fun h_10 => ?_) (fun h_10 => ?_)
      · have hf := it_y h_10 hf
        refine lv_iload_n hx hb dX7_sumOfLine_38 rfl (lv_at hl 3 rfl) ?_
        exact hret _ _ _ _ _ _ (Option.some.inj hf) rfl rfl dX7_sumOfLine_39 hE
      · have hf := it_n h_10 hf
        refine lv_iload_n hx hb dX7_sumOfLine_16 rfl (lv_at hl 3 rfl) ?_
        refine lv_aload_n hx hb dX7_sumOfLine_17 rfl (lv_at hl 0 rfl) ?_
        obtain ⟨x_11, g_11, hf⟩ := b_some hf
        refine xx_gR hZ hE k_X7 3 (by decide) rfl tw_371 g_11 dX7_sumOfLine_18 ?_
        refine lv_aload_n hx hb dX7_sumOfLine_21 rfl (lv_at hl 0 rfl) ?_
        refine lv_iload_n hx hb dX7_sumOfLine_22 rfl (lv_at hl 1 rfl) ?_
        refine lv_iload_n hx hb dX7_sumOfLine_23 rfl (lv_at hl 2 rfl) ?_
        refine lv_iload hx hb dX7_sumOfLine_24 (lv_at hl 4 rfl) ?_
        obtain ⟨_, i_12, hf⟩ := b_some hf
        obtain ⟨z_12, c_12, hf⟩ := b_some hf
        refine xx_cVi hZ hE (As := [.int a1, .int a2, .int w_7_4]) (rest := [.ref (ad x_11), .int w_7_3]) k_X7 (is_m i_12) tw_410 tw_411 (c_X7_with l D cA ad o a1 a2 w_7_4 M _ c_12) cw_X7_with tw_409 ⟨rfl, rfl⟩ ⟨Nat.le_of_ble_eq_true rfl, Nat.le_of_ble_eq_true rfl⟩ rfl hl.1 rfl (Nat.le_of_ble_eq_true rfl) ⟨Nat.le_of_ble_eq_true rfl, Nat.le_of_ble_eq_true rfl⟩ dX7_sumOfLine_26 (fun H locs hE => ?_)
        obtain ⟨x_13, g_13, hf⟩ := b_some hf
        refine xx_aI hZ hE g_13 dX7_sumOfLine_29 ?_
        refine lv_iadd hx hb dX7_sumOfLine_30 ?_
        refine lv_istore_n (lv' := [(3, .int (w_7_3 + x_13)), (0, .ref (ad o)), (1, .int a1), (2, .int a2), (4, .int w_7_4)]) hx hb dX7_sumOfLine_31 rfl hl (by decide) rfl (fun ls hl => ?_)
        refine lv_iinc (v := (w_7_4 + 1)) (lv' := [(4, .int (w_7_4 + 1)), (3, .int (w_7_3 + x_13)), (0, .ref (ad o)), (1, .int a1), (2, .int a2)]) hx hb dX7_sumOfLine_32 hl (k := 4) rfl rfl (by decide) rfl (fun ls hl => ?_)
        refine lv_goto (tgt := 5) hx hb dX7_sumOfLine_35 (by decide) ?_
        exact ih_5 _ _ _ _ _ hf hE (lv_sub hl [2, 3, 4, 1, 0] rfl)
  exact L_7 _ _ _ _ _ _ hf hE (lv_sub hl [2, 3, 4, 1, 0] rfl)
def rm_X7_neighbour : Room := { frames := 3, cells := 0, slots := 0, locals := 68 }
def f_X7_neighbour (o : Nat) (a1 : Int32) (a2 : Int32) (a3 : Int32) (M : Mm) : Option (Int32) :=
    (op_is M o 7).bind fun _ =>
    (f_X7_valueOf o a1 a2 M).bind fun z_1 =>
    (op_gR M 7 o 1).bind fun x_2 =>
    (op_aI M x_2 a2).bind fun x_3 =>
    op_jn (fun (x_4_0 : Int32) =>
    (op_is M o 7).bind fun _ =>
    (f_X7_with o a1 a2 x_4_0 M).bind fun z_8 =>
    some z_8)
    fun j_4 =>
    if a3 = 0 then
    if x_3 = 0 then none else
    j_4 (((z_1 + x_3) - (1 : Int32)) - ((z_1 + x_3) - (1 : Int32)) / x_3 * x_3)
    else
    if x_3 = 0 then none else
    j_4 ((z_1 + (1 : Int32)) - (z_1 + (1 : Int32)) / x_3 * x_3)
set_option maxHeartbeats 4000000 in
set_option maxRecDepth 100000 in
theorem c_X7_neighbour (l : Launch) (D : va_G) (cA : Nat → ClassId) (ad : Nat → Nat) (o : Nat) (a1 : Int32) (a2 : Int32) (a3 : Int32) (M : Mm) (zr : Int32) (hf : f_X7_neighbour o a1 a2 a3 M = some zr) : KI l yX7_neighbour cX7_neighbour 6 (some .int) rm_X7_neighbour D cA ad [.ref (ad o), .int a1, .int a2, .int a3] M zr M := by
  refine KI_of (by decide) (Nat.le_of_ble_eq_true rfl) ?_
  intro p e s m args below meth c ls Q A H locs hZ hE hl hret
  have hx := hZ.1
  have hb := hZ.2.1
  have hown := hZ.2.2.2.1
  have hts := hZ.2.2.2.2.1
  have hl : lv_has ls 6 [(0, .ref (ad o)), (1, .int a1), (2, .int a2), (3, .int a3)] := hl
  unfold f_X7_neighbour at hf
  refine lv_aload_n hx hb dX7_neighbour_0 rfl (lv_at hl 0 rfl) ?_
  refine lv_iload_n hx hb dX7_neighbour_1 rfl (lv_at hl 1 rfl) ?_
  refine lv_iload_n hx hb dX7_neighbour_2 rfl (lv_at hl 2 rfl) ?_
  obtain ⟨_, i_1, hf⟩ := b_some hf
  obtain ⟨z_1, c_1, hf⟩ := b_some hf
  refine xx_cVi hZ hE (As := [.int a1, .int a2]) (rest := []) k_X7 (is_m i_1) tw_384 tw_385 (c_X7_valueOf l D cA ad o a1 a2 M _ c_1) cw_X7_valueOf tw_383 ⟨rfl, rfl⟩ ⟨Nat.le_of_ble_eq_true rfl, Nat.le_of_ble_eq_true rfl⟩ rfl hl.1 rfl (Nat.le_of_ble_eq_true rfl) ⟨Nat.le_of_ble_eq_true rfl, Nat.le_of_ble_eq_true rfl⟩ dX7_neighbour_3 (fun H locs hE => ?_)
  refine lv_istore (lv' := [(4, .int z_1), (0, .ref (ad o)), (1, .int a1), (2, .int a2), (3, .int a3)]) hx hb dX7_neighbour_6 hl (by decide) rfl (fun ls hl => ?_)
  refine lv_aload_n hx hb dX7_neighbour_8 rfl (lv_at hl 1 rfl) ?_
  obtain ⟨x_2, g_2, hf⟩ := b_some hf
  refine xx_gR hZ hE k_X7 1 (by decide) rfl tw_370 g_2 dX7_neighbour_9 ?_
  refine lv_iload_n hx hb dX7_neighbour_12 rfl (lv_at hl 3 rfl) ?_
  obtain ⟨x_3, g_3, hf⟩ := b_some hf
  refine xx_aI hZ hE g_3 dX7_neighbour_13 ?_
  refine lv_istore (lv' := [(5, .int x_3), (4, .int z_1), (0, .ref (ad o)), (1, .int a1), (2, .int a2), (3, .int a3)]) hx hb dX7_neighbour_14 hl (by decide) rfl (fun ls hl => ?_)
  refine lv_aload_n hx hb dX7_neighbour_16 rfl (lv_at hl 2 rfl) ?_
  refine lv_iload_n hx hb dX7_neighbour_17 rfl (lv_at hl 3 rfl) ?_
  refine lv_iload_n hx hb dX7_neighbour_18 rfl (lv_at hl 4 rfl) ?_
  refine lv_iload_n hx hb dX7_neighbour_19 rfl (lv_at hl 5 rfl) ?_
  obtain ⟨j_4, ej_4, hf⟩ := jn_e hf
  have q_4 : ∀ (x_4_0 : Int32) (H : Heap) (locs : List Loc) (ls : Array Slot), j_4 x_4_0 = some zr → En D cA ad s A M H locs → lv_has ls 6 [] → W p l e rm_X7_neighbour s m args below meth c H locs 0 0 Q (F0 m 43 ls [.int x_4_0, .int a2, .int a1, .ref (ad o)]) := by
    intro x_4_0 H locs ls hf hE hl
    rw [ej_4] at hf
    obtain ⟨_, i_8, hf⟩ := b_some hf
    obtain ⟨z_8, c_8, hf⟩ := b_some hf
    refine xx_cVi hZ hE (As := [.int a1, .int a2, .int x_4_0]) (rest := []) k_X7 (is_m i_8) tw_410 tw_411 (c_X7_with l D cA ad o a1 a2 x_4_0 M _ c_8) cw_X7_with tw_409 ⟨rfl, rfl⟩ ⟨Nat.le_of_ble_eq_true rfl, Nat.le_of_ble_eq_true rfl⟩ rfl hl.1 rfl (Nat.le_of_ble_eq_true rfl) ⟨Nat.le_of_ble_eq_true rfl, Nat.le_of_ble_eq_true rfl⟩ dX7_neighbour_43 (fun H locs hE => ?_)
    exact hret _ _ _ _ _ _ (Option.some.inj hf) rfl rfl dX7_neighbour_46 hE
  refine lv_if_eq (tgt := 33) hx hb dX7_neighbour_20 (by decide) (fun h_5 => ?_) (fun h_5 => ?_)
  · have hf := it_y h_5 hf
    refine lv_iload hx hb dX7_neighbour_33 (lv_at hl 1 rfl) ?_
    refine lv_iload hx hb dX7_neighbour_35 (lv_at hl 0 rfl) ?_
    refine lv_iadd hx hb dX7_neighbour_37 ?_
    refine lv_iconst (v := 1) hx hb dX7_neighbour_38 (by decide) ?_
    refine lv_isub hx hb dX7_neighbour_39 ?_
    refine lv_iload hx hb dX7_neighbour_40 (lv_at hl 0 rfl) ?_
    obtain ⟨h_6, hf⟩ := e_some hf
    refine lv_irem hx hb dX7_neighbour_42 h_6 ?_
    exact q_4 _ _ _ _ hf hE (lv_sub hl [] rfl)
  · have hf := it_n h_5 hf
    refine lv_iload hx hb dX7_neighbour_23 (lv_at hl 1 rfl) ?_
    refine lv_iconst (v := 1) hx hb dX7_neighbour_25 (by decide) ?_
    refine lv_iadd hx hb dX7_neighbour_26 ?_
    refine lv_iload hx hb dX7_neighbour_27 (lv_at hl 0 rfl) ?_
    obtain ⟨h_7, hf⟩ := e_some hf
    refine lv_irem hx hb dX7_neighbour_29 h_7 ?_
    refine lv_goto (tgt := 43) hx hb dX7_neighbour_30 (by decide) ?_
    exact q_4 _ _ _ _ hf hE (lv_sub hl [] rfl)
def rm_X7_swapped : Room := { frames := 3, cells := 0, slots := 0, locals := 68 }
def f_X7_swapped (o : Nat) (a1 : Int32) (a2 : Int32) (a3 : Int32) (M : Mm) : Option (Int32) :=
    (op_is M o 7).bind fun _ =>
    (f_X7_valueOf o a1 a3 M).bind fun z_1 =>
    (op_is M o 7).bind fun _ =>
    (f_X7_with o a1 a2 z_1 M).bind fun z_2 =>
    (op_is M o 7).bind fun _ =>
    (f_X7_valueOf o a1 a2 M).bind fun z_3 =>
    (op_is M o 7).bind fun _ =>
    (f_X7_with o z_2 a3 z_3 M).bind fun z_4 =>
    some z_4
set_option maxHeartbeats 4000000 in
set_option maxRecDepth 100000 in
theorem c_X7_swapped (l : Launch) (D : va_G) (cA : Nat → ClassId) (ad : Nat → Nat) (o : Nat) (a1 : Int32) (a2 : Int32) (a3 : Int32) (M : Mm) (zr : Int32) (hf : f_X7_swapped o a1 a2 a3 M = some zr) : KI l yX7_swapped cX7_swapped 4 (some .int) rm_X7_swapped D cA ad [.ref (ad o), .int a1, .int a2, .int a3] M zr M := by
  refine KI_of (by decide) (Nat.le_of_ble_eq_true rfl) ?_
  intro p e s m args below meth c ls Q A H locs hZ hE hl hret
  have hx := hZ.1
  have hb := hZ.2.1
  have hown := hZ.2.2.2.1
  have hts := hZ.2.2.2.2.1
  have hl : lv_has ls 4 [(0, .ref (ad o)), (1, .int a1), (2, .int a2), (3, .int a3)] := hl
  unfold f_X7_swapped at hf
  refine lv_aload_n hx hb dX7_swapped_0 rfl (lv_at hl 0 rfl) ?_
  refine lv_aload_n hx hb dX7_swapped_1 rfl (lv_at hl 0 rfl) ?_
  refine lv_iload_n hx hb dX7_swapped_2 rfl (lv_at hl 1 rfl) ?_
  refine lv_iload_n hx hb dX7_swapped_3 rfl (lv_at hl 2 rfl) ?_
  refine lv_aload_n hx hb dX7_swapped_4 rfl (lv_at hl 0 rfl) ?_
  refine lv_iload_n hx hb dX7_swapped_5 rfl (lv_at hl 1 rfl) ?_
  refine lv_iload_n hx hb dX7_swapped_6 rfl (lv_at hl 3 rfl) ?_
  obtain ⟨_, i_1, hf⟩ := b_some hf
  obtain ⟨z_1, c_1, hf⟩ := b_some hf
  refine xx_cVi hZ hE (As := [.int a1, .int a3]) (rest := [.int a2, .int a1, .ref (ad o), .ref (ad o)]) k_X7 (is_m i_1) tw_384 tw_385 (c_X7_valueOf l D cA ad o a1 a3 M _ c_1) cw_X7_valueOf tw_383 ⟨rfl, rfl⟩ ⟨Nat.le_of_ble_eq_true rfl, Nat.le_of_ble_eq_true rfl⟩ rfl hl.1 rfl (Nat.le_of_ble_eq_true rfl) ⟨Nat.le_of_ble_eq_true rfl, Nat.le_of_ble_eq_true rfl⟩ dX7_swapped_7 (fun H locs hE => ?_)
  obtain ⟨_, i_2, hf⟩ := b_some hf
  obtain ⟨z_2, c_2, hf⟩ := b_some hf
  refine xx_cVi hZ hE (As := [.int a1, .int a2, .int z_1]) (rest := [.ref (ad o)]) k_X7 (is_m i_2) tw_410 tw_411 (c_X7_with l D cA ad o a1 a2 z_1 M _ c_2) cw_X7_with tw_409 ⟨rfl, rfl⟩ ⟨Nat.le_of_ble_eq_true rfl, Nat.le_of_ble_eq_true rfl⟩ rfl hl.1 rfl (Nat.le_of_ble_eq_true rfl) ⟨Nat.le_of_ble_eq_true rfl, Nat.le_of_ble_eq_true rfl⟩ dX7_swapped_10 (fun H locs hE => ?_)
  refine lv_iload_n hx hb dX7_swapped_13 rfl (lv_at hl 3 rfl) ?_
  refine lv_aload_n hx hb dX7_swapped_14 rfl (lv_at hl 0 rfl) ?_
  refine lv_iload_n hx hb dX7_swapped_15 rfl (lv_at hl 1 rfl) ?_
  refine lv_iload_n hx hb dX7_swapped_16 rfl (lv_at hl 2 rfl) ?_
  obtain ⟨_, i_3, hf⟩ := b_some hf
  obtain ⟨z_3, c_3, hf⟩ := b_some hf
  refine xx_cVi hZ hE (As := [.int a1, .int a2]) (rest := [.int a3, .int z_2, .ref (ad o)]) k_X7 (is_m i_3) tw_384 tw_385 (c_X7_valueOf l D cA ad o a1 a2 M _ c_3) cw_X7_valueOf tw_383 ⟨rfl, rfl⟩ ⟨Nat.le_of_ble_eq_true rfl, Nat.le_of_ble_eq_true rfl⟩ rfl hl.1 rfl (Nat.le_of_ble_eq_true rfl) ⟨Nat.le_of_ble_eq_true rfl, Nat.le_of_ble_eq_true rfl⟩ dX7_swapped_17 (fun H locs hE => ?_)
  obtain ⟨_, i_4, hf⟩ := b_some hf
  obtain ⟨z_4, c_4, hf⟩ := b_some hf
  refine xx_cVi hZ hE (As := [.int z_2, .int a3, .int z_3]) (rest := []) k_X7 (is_m i_4) tw_410 tw_411 (c_X7_with l D cA ad o z_2 a3 z_3 M _ c_4) cw_X7_with tw_409 ⟨rfl, rfl⟩ ⟨Nat.le_of_ble_eq_true rfl, Nat.le_of_ble_eq_true rfl⟩ rfl hl.1 rfl (Nat.le_of_ble_eq_true rfl) ⟨Nat.le_of_ble_eq_true rfl, Nat.le_of_ble_eq_true rfl⟩ dX7_swapped_20 (fun H locs hE => ?_)
  exact hret _ _ _ _ _ _ (Option.some.inj hf) rfl rfl dX7_swapped_23 hE
def rm_X7_takenOf : Room := { frames := 0, cells := 0, slots := 0, locals := 0 }
def f_X7_takenOf (o : Nat) (a1 : Int32) (a2 : Int32) (M : Mm) : Option (Int32) :=
    (op_gR M 7 o 3).bind fun x_1 =>
    (op_aI M x_1 a1).bind fun x_2 =>
    if x_2 = 0 then
    some (1 : Int32)
    else
    (op_gR M 7 o 3).bind fun x_4 =>
    (op_aI M x_4 a2).bind fun x_5 =>
    (op_gR M 7 o 3).bind fun x_6 =>
    (op_aI M x_6 a1).bind fun x_7 =>
    if x_7 ≤ x_5 then
    (op_gR M 7 o 3).bind fun x_9 =>
    (op_aI M x_9 a1).bind fun x_10 =>
    some x_10
    else
    (op_gR M 7 o 3).bind fun x_11 =>
    (op_aI M x_11 a2).bind fun x_12 =>
    some x_12
set_option maxHeartbeats 4000000 in
set_option maxRecDepth 100000 in
theorem c_X7_takenOf (l : Launch) (D : va_G) (cA : Nat → ClassId) (ad : Nat → Nat) (o : Nat) (a1 : Int32) (a2 : Int32) (M : Mm) (zr : Int32) (hf : f_X7_takenOf o a1 a2 M = some zr) : KI l yX7_takenOf cX7_takenOf 3 (some .int) rm_X7_takenOf D cA ad [.ref (ad o), .int a1, .int a2] M zr M := by
  refine KI_of (by decide) (Nat.le_of_ble_eq_true rfl) ?_
  intro p e s m args below meth c ls Q A H locs hZ hE hl hret
  have hx := hZ.1
  have hb := hZ.2.1
  have hown := hZ.2.2.2.1
  have hts := hZ.2.2.2.2.1
  have hl : lv_has ls 3 [(0, .ref (ad o)), (1, .int a1), (2, .int a2)] := hl
  unfold f_X7_takenOf at hf
  refine lv_aload_n hx hb dX7_takenOf_0 rfl (lv_at hl 0 rfl) ?_
  obtain ⟨x_1, g_1, hf⟩ := b_some hf
  refine xx_gR hZ hE k_X7 3 (by decide) rfl tw_371 g_1 dX7_takenOf_1 ?_
  refine lv_iload_n hx hb dX7_takenOf_4 rfl (lv_at hl 1 rfl) ?_
  obtain ⟨x_2, g_2, hf⟩ := b_some hf
  refine xx_aI hZ hE g_2 dX7_takenOf_5 ?_
  refine lv_if_ne (tgt := 13) hx hb dX7_takenOf_6 (by decide) (fun h_3 => ?_) (fun h_3 => ?_)
  · have hf := it_n h_3 hf
    refine lv_aload_n hx hb dX7_takenOf_13 rfl (lv_at hl 0 rfl) ?_
    obtain ⟨x_4, g_4, hf⟩ := b_some hf
    refine xx_gR hZ hE k_X7 3 (by decide) rfl tw_371 g_4 dX7_takenOf_14 ?_
    refine lv_iload_n hx hb dX7_takenOf_17 rfl (lv_at hl 2 rfl) ?_
    obtain ⟨x_5, g_5, hf⟩ := b_some hf
    refine xx_aI hZ hE g_5 dX7_takenOf_18 ?_
    refine lv_aload_n hx hb dX7_takenOf_19 rfl (lv_at hl 0 rfl) ?_
    obtain ⟨x_6, g_6, hf⟩ := b_some hf
    refine xx_gR hZ hE k_X7 3 (by decide) rfl tw_371 g_6 dX7_takenOf_20 ?_
    refine lv_iload_n hx hb dX7_takenOf_23 rfl (lv_at hl 1 rfl) ?_
    obtain ⟨x_7, g_7, hf⟩ := b_some hf
    refine xx_aI hZ hE g_7 dX7_takenOf_24 ?_
    refine lv_icmp_ge (tgt := 37) hx hb dX7_takenOf_25 (by decide) (fun h_8 => ?_) (fun h_8 => ?_)
    · have hf := it_y h_8 hf
      refine lv_aload_n hx hb dX7_takenOf_37 rfl (lv_at hl 0 rfl) ?_
      obtain ⟨x_9, g_9, hf⟩ := b_some hf
      refine xx_gR hZ hE k_X7 3 (by decide) rfl tw_371 g_9 dX7_takenOf_38 ?_
      refine lv_iload_n hx hb dX7_takenOf_41 rfl (lv_at hl 1 rfl) ?_
      obtain ⟨x_10, g_10, hf⟩ := b_some hf
      refine xx_aI hZ hE g_10 dX7_takenOf_42 ?_
      exact hret _ _ _ _ _ _ (Option.some.inj hf) rfl rfl dX7_takenOf_43 hE
    · have hf := it_n h_8 hf
      refine lv_aload_n hx hb dX7_takenOf_28 rfl (lv_at hl 0 rfl) ?_
      obtain ⟨x_11, g_11, hf⟩ := b_some hf
      refine xx_gR hZ hE k_X7 3 (by decide) rfl tw_371 g_11 dX7_takenOf_29 ?_
      refine lv_iload_n hx hb dX7_takenOf_32 rfl (lv_at hl 2 rfl) ?_
      obtain ⟨x_12, g_12, hf⟩ := b_some hf
      refine xx_aI hZ hE g_12 dX7_takenOf_33 ?_
      refine lv_goto (tgt := 43) hx hb dX7_takenOf_34 (by decide) ?_
      exact hret _ _ _ _ _ _ (Option.some.inj hf) rfl rfl dX7_takenOf_43 hE
  · have hf := it_y h_3 hf
    refine lv_iconst (v := 1) hx hb dX7_takenOf_9 (by decide) ?_
    refine lv_goto (tgt := 43) hx hb dX7_takenOf_10 (by decide) ?_
    exact hret _ _ _ _ _ _ (Option.some.inj hf) rfl rfl dX7_takenOf_43 hE
def rm_X7_ofTaken : Room := { frames := 0, cells := 0, slots := 0, locals := 0 }
def f_X7_ofTaken (o : Nat) (a1 : Int32) (M : Mm) : Option (Int32) :=
    (op_gR M 7 o 3).bind fun x_1 =>
    (op_aI M x_1 a1).bind fun x_2 =>
    if x_2 = 0 then
    some (1 : Int32)
    else
    (op_gR M 7 o 3).bind fun x_4 =>
    (op_aI M x_4 a1).bind fun x_5 =>
    some x_5
set_option maxHeartbeats 4000000 in
set_option maxRecDepth 100000 in
theorem c_X7_ofTaken (l : Launch) (D : va_G) (cA : Nat → ClassId) (ad : Nat → Nat) (o : Nat) (a1 : Int32) (M : Mm) (zr : Int32) (hf : f_X7_ofTaken o a1 M = some zr) : KI l yX7_ofTaken cX7_ofTaken 2 (some .int) rm_X7_ofTaken D cA ad [.ref (ad o), .int a1] M zr M := by
  refine KI_of (by decide) (Nat.le_of_ble_eq_true rfl) ?_
  intro p e s m args below meth c ls Q A H locs hZ hE hl hret
  have hx := hZ.1
  have hb := hZ.2.1
  have hown := hZ.2.2.2.1
  have hts := hZ.2.2.2.2.1
  have hl : lv_has ls 2 [(0, .ref (ad o)), (1, .int a1)] := hl
  unfold f_X7_ofTaken at hf
  refine lv_aload_n hx hb dX7_ofTaken_0 rfl (lv_at hl 0 rfl) ?_
  obtain ⟨x_1, g_1, hf⟩ := b_some hf
  refine xx_gR hZ hE k_X7 3 (by decide) rfl tw_371 g_1 dX7_ofTaken_1 ?_
  refine lv_iload_n hx hb dX7_ofTaken_4 rfl (lv_at hl 1 rfl) ?_
  obtain ⟨x_2, g_2, hf⟩ := b_some hf
  refine xx_aI hZ hE g_2 dX7_ofTaken_5 ?_
  refine lv_if_ne (tgt := 13) hx hb dX7_ofTaken_6 (by decide) (fun h_3 => ?_) (fun h_3 => ?_)
  · have hf := it_n h_3 hf
    refine lv_aload_n hx hb dX7_ofTaken_13 rfl (lv_at hl 0 rfl) ?_
    obtain ⟨x_4, g_4, hf⟩ := b_some hf
    refine xx_gR hZ hE k_X7 3 (by decide) rfl tw_371 g_4 dX7_ofTaken_14 ?_
    refine lv_iload_n hx hb dX7_ofTaken_17 rfl (lv_at hl 1 rfl) ?_
    obtain ⟨x_5, g_5, hf⟩ := b_some hf
    refine xx_aI hZ hE g_5 dX7_ofTaken_18 ?_
    exact hret _ _ _ _ _ _ (Option.some.inj hf) rfl rfl dX7_ofTaken_19 hE
  · have hf := it_y h_3 hf
    refine lv_iconst (v := 1) hx hb dX7_ofTaken_9 (by decide) ?_
    refine lv_goto (tgt := 19) hx hb dX7_ofTaken_10 (by decide) ?_
    exact hret _ _ _ _ _ _ (Option.some.inj hf) rfl rfl dX7_ofTaken_19 hE
def lp_X7_sumOfTold_5 (i_0 : Nat) (i_1 : Int32) (i_2 : Int32) (M : Mm) : Nat → Int32 → Int32 → Option (Int32)
  | 0, _, _ => none
  | n_5 + 1, v_3, v_4 =>
    (op_gI M 7 i_0 2).bind fun x_1 =>
    if x_1 ≤ v_4 then
    some v_3
    else
    (op_gR M 7 i_0 11).bind fun x_3 =>
    (op_aI M x_3 ((((256 : Int32) * i_1) + ((16 : Int32) * i_2)) + v_4)).bind fun x_4 =>
    lp_X7_sumOfTold_5 i_0 i_1 i_2 M n_5 (v_3 + x_4) (v_4 + 1)
theorem lp_X7_sumOfTold_5_s (i_0 : Nat) (i_1 : Int32) (i_2 : Int32) (M : Mm) {n_5 : Nat} {v_3 : Int32} {v_4 : Int32} {zr : Int32} (hf : lp_X7_sumOfTold_5 i_0 i_1 i_2 M (n_5 + 1) v_3 v_4 = some zr) : (
    (op_gI M 7 i_0 2).bind fun x_1 =>
    if x_1 ≤ v_4 then
    some v_3
    else
    (op_gR M 7 i_0 11).bind fun x_3 =>
    (op_aI M x_3 ((((256 : Int32) * i_1) + ((16 : Int32) * i_2)) + v_4)).bind fun x_4 =>
    lp_X7_sumOfTold_5 i_0 i_1 i_2 M n_5 (v_3 + x_4) (v_4 + 1)) = some zr := hf
def rm_X7_sumOfTold : Room := { frames := 0, cells := 0, slots := 0, locals := 0 }
def f_X7_sumOfTold (o : Nat) (a1 : Int32) (a2 : Int32) (M : Mm) : Option (Int32) :=
    lp_X7_sumOfTold_5  o a1 a2 M FU (0 : Int32) (0 : Int32)
set_option maxHeartbeats 4000000 in
set_option maxRecDepth 100000 in
theorem c_X7_sumOfTold (l : Launch) (D : va_G) (cA : Nat → ClassId) (ad : Nat → Nat) (o : Nat) (a1 : Int32) (a2 : Int32) (M : Mm) (zr : Int32) (hf : f_X7_sumOfTold o a1 a2 M = some zr) : KI l yX7_sumOfTold cX7_sumOfTold 5 (some .int) rm_X7_sumOfTold D cA ad [.ref (ad o), .int a1, .int a2] M zr M := by
  refine KI_of (by decide) (Nat.le_of_ble_eq_true rfl) ?_
  intro p e s m args below meth c ls Q A H locs hZ hE hl hret
  have hx := hZ.1
  have hb := hZ.2.1
  have hown := hZ.2.2.2.1
  have hts := hZ.2.2.2.2.1
  have hl : lv_has ls 5 [(0, .ref (ad o)), (1, .int a1), (2, .int a2)] := hl
  unfold f_X7_sumOfTold at hf
  refine lv_iconst (v := 0) hx hb dX7_sumOfTold_0 (by decide) ?_
  refine lv_istore_n (lv' := [(3, .int (0 : Int32)), (0, .ref (ad o)), (1, .int a1), (2, .int a2)]) hx hb dX7_sumOfTold_1 rfl hl (by decide) rfl (fun ls hl => ?_)
  refine lv_iconst (v := 0) hx hb dX7_sumOfTold_2 (by decide) ?_
  refine lv_istore (lv' := [(4, .int (0 : Int32)), (3, .int (0 : Int32)), (0, .ref (ad o)), (1, .int a1), (2, .int a2)]) hx hb dX7_sumOfTold_3 hl (by decide) rfl (fun ls hl => ?_)
  have L_5 : ∀ (n_5 : Nat) (w_5_3 : Int32) (w_5_4 : Int32) (H : Heap) (locs : List Loc) (ls : Array Slot), lp_X7_sumOfTold_5 o a1 a2 M n_5 w_5_3 w_5_4 = some zr → En D cA ad s A M H locs → lv_has ls 5 [(0, .ref (ad o)), (1, .int a1), (2, .int a2), (3, .int w_5_3), (4, .int w_5_4)] → W p l e rm_X7_sumOfTold s m args below meth c H locs 0 0 Q (F0 m 5 ls []) := by
    intro n_5
    induction n_5 with
    | zero =>
      intro w_5_3 w_5_4 H locs ls hf
      cases (show (none : Option (Int32)) = some zr from hf)
    | succ n_5 ih_5 =>
      intro w_5_3 w_5_4 H locs ls hf hE hl
      have hf := lp_X7_sumOfTold_5_s _ _ _ _ hf
      refine lv_iload hx hb dX7_sumOfTold_5 (lv_at hl 4 rfl) ?_
      refine lv_aload_n hx hb dX7_sumOfTold_7 rfl (lv_at hl 0 rfl) ?_
      obtain ⟨x_6, g_6, hf⟩ := b_some hf
      refine xx_gI hZ hE k_X7 2 (by decide) rfl tw_363 g_6 dX7_sumOfTold_8 ?_
      refine lv_icmp_ge (tgt := 41) hx hb dX7_sumOfTold_11 (by decide) (fun h_7 => ?_) (fun h_7 => ?_)
      · have hf := it_y h_7 hf
        refine lv_iload_n hx hb dX7_sumOfTold_41 rfl (lv_at hl 3 rfl) ?_
        exact hret _ _ _ _ _ _ (Option.some.inj hf) rfl rfl dX7_sumOfTold_42 hE
      · have hf := it_n h_7 hf
        refine lv_iload_n hx hb dX7_sumOfTold_14 rfl (lv_at hl 3 rfl) ?_
        refine lv_aload_n hx hb dX7_sumOfTold_15 rfl (lv_at hl 0 rfl) ?_
        obtain ⟨x_8, g_8, hf⟩ := b_some hf
        refine xx_gR hZ hE k_X7 11 (by decide) rfl tw_398 g_8 dX7_sumOfTold_16 ?_
        refine lv_sipush (v := 256) hx hb dX7_sumOfTold_19 (by decide) ?_
        refine lv_iload_n hx hb dX7_sumOfTold_22 rfl (lv_at hl 1 rfl) ?_
        refine lv_imul hx hb dX7_sumOfTold_23 ?_
        refine lv_bipush (v := 16) hx hb dX7_sumOfTold_24 (by decide) ?_
        refine lv_iload_n hx hb dX7_sumOfTold_26 rfl (lv_at hl 2 rfl) ?_
        refine lv_imul hx hb dX7_sumOfTold_27 ?_
        refine lv_iadd hx hb dX7_sumOfTold_28 ?_
        refine lv_iload hx hb dX7_sumOfTold_29 (lv_at hl 4 rfl) ?_
        refine lv_iadd hx hb dX7_sumOfTold_31 ?_
        obtain ⟨x_9, g_9, hf⟩ := b_some hf
        refine xx_aI hZ hE g_9 dX7_sumOfTold_32 ?_
        refine lv_iadd hx hb dX7_sumOfTold_33 ?_
        refine lv_istore_n (lv' := [(3, .int (w_5_3 + x_9)), (0, .ref (ad o)), (1, .int a1), (2, .int a2), (4, .int w_5_4)]) hx hb dX7_sumOfTold_34 rfl hl (by decide) rfl (fun ls hl => ?_)
        refine lv_iinc (v := (w_5_4 + 1)) (lv' := [(4, .int (w_5_4 + 1)), (3, .int (w_5_3 + x_9)), (0, .ref (ad o)), (1, .int a1), (2, .int a2)]) hx hb dX7_sumOfTold_35 hl (k := 4) rfl rfl (by decide) rfl (fun ls hl => ?_)
        refine lv_goto (tgt := 5) hx hb dX7_sumOfTold_38 (by decide) ?_
        exact ih_5 _ _ _ _ _ hf hE (lv_sub hl [2, 3, 4, 1, 0] rfl)
  exact L_5 _ _ _ _ _ _ hf hE (lv_sub hl [2, 3, 4, 1, 0] rfl)
def rm_X7_above : Room := { frames := 1, cells := 0, slots := 0, locals := 24 }
def f_X7_above (o : Nat) (a1 : Int32) (a2 : Int32) (a3 : Int32) (M : Mm) : Option (Int64) :=
    (op_gR M 7 o 3).bind fun x_1 =>
    (op_aI M x_1 a3).bind fun x_2 =>
    (op_gR M 7 o 11).bind fun x_3 =>
    (op_aI M x_3 ((((256 : Int32) * a1) + ((16 : Int32) * a3)) + a2)).bind fun x_4 =>
    (op_is M o 7).bind fun _ =>
    (f_X7_sumOfTold o a1 a2 M).bind fun z_5 =>
    some ((x_2.toInt64 * x_4.toInt64) * z_5.toInt64)
set_option maxHeartbeats 4000000 in
set_option maxRecDepth 100000 in
theorem c_X7_above (l : Launch) (D : va_G) (cA : Nat → ClassId) (ad : Nat → Nat) (o : Nat) (a1 : Int32) (a2 : Int32) (a3 : Int32) (M : Mm) (zr : Int64) (hf : f_X7_above o a1 a2 a3 M = some zr) : KL l yX7_above cX7_above 4 (some .long) rm_X7_above D cA ad [.ref (ad o), .int a1, .int a2, .int a3] M zr M := by
  refine KL_of (by decide) (Nat.le_of_ble_eq_true rfl) ?_
  intro p e s m args below meth c ls Q A H locs hZ hE hl hret
  have hx := hZ.1
  have hb := hZ.2.1
  have hown := hZ.2.2.2.1
  have hts := hZ.2.2.2.2.1
  have hl : lv_has ls 4 [(0, .ref (ad o)), (1, .int a1), (2, .int a2), (3, .int a3)] := hl
  unfold f_X7_above at hf
  refine lv_aload_n hx hb dX7_above_0 rfl (lv_at hl 0 rfl) ?_
  obtain ⟨x_1, g_1, hf⟩ := b_some hf
  refine xx_gR hZ hE k_X7 3 (by decide) rfl tw_371 g_1 dX7_above_1 ?_
  refine lv_iload_n hx hb dX7_above_4 rfl (lv_at hl 3 rfl) ?_
  obtain ⟨x_2, g_2, hf⟩ := b_some hf
  refine xx_aI hZ hE g_2 dX7_above_5 ?_
  refine lv_i2l hx hb dX7_above_6 rfl ?_
  refine lv_aload_n hx hb dX7_above_7 rfl (lv_at hl 0 rfl) ?_
  obtain ⟨x_3, g_3, hf⟩ := b_some hf
  refine xx_gR hZ hE k_X7 11 (by decide) rfl tw_398 g_3 dX7_above_8 ?_
  refine lv_sipush (v := 256) hx hb dX7_above_11 (by decide) ?_
  refine lv_iload_n hx hb dX7_above_14 rfl (lv_at hl 1 rfl) ?_
  refine lv_imul hx hb dX7_above_15 ?_
  refine lv_bipush (v := 16) hx hb dX7_above_16 (by decide) ?_
  refine lv_iload_n hx hb dX7_above_18 rfl (lv_at hl 3 rfl) ?_
  refine lv_imul hx hb dX7_above_19 ?_
  refine lv_iadd hx hb dX7_above_20 ?_
  refine lv_iload_n hx hb dX7_above_21 rfl (lv_at hl 2 rfl) ?_
  refine lv_iadd hx hb dX7_above_22 ?_
  obtain ⟨x_4, g_4, hf⟩ := b_some hf
  refine xx_aI hZ hE g_4 dX7_above_23 ?_
  refine lv_i2l hx hb dX7_above_24 rfl ?_
  refine lv_lmul hx hb dX7_above_25 ?_
  refine lv_aload_n hx hb dX7_above_26 rfl (lv_at hl 0 rfl) ?_
  refine lv_iload_n hx hb dX7_above_27 rfl (lv_at hl 1 rfl) ?_
  refine lv_iload_n hx hb dX7_above_28 rfl (lv_at hl 2 rfl) ?_
  obtain ⟨_, i_5, hf⟩ := b_some hf
  obtain ⟨z_5, c_5, hf⟩ := b_some hf
  refine xx_cVi hZ hE (As := [.int a1, .int a2]) (rest := [.long (x_2.toInt64 * x_4.toInt64)]) k_X7 (is_m i_5) tw_413 tw_414 (c_X7_sumOfTold l D cA ad o a1 a2 M _ c_5) cw_X7_sumOfTold tw_412 ⟨rfl, rfl⟩ ⟨Nat.le_of_ble_eq_true rfl, Nat.le_of_ble_eq_true rfl⟩ rfl hl.1 rfl (Nat.le_of_ble_eq_true rfl) ⟨Nat.le_of_ble_eq_true rfl, Nat.le_of_ble_eq_true rfl⟩ dX7_above_29 (fun H locs hE => ?_)
  refine lv_i2l hx hb dX7_above_32 rfl ?_
  refine lv_lmul hx hb dX7_above_33 ?_
  exact hret _ _ _ _ _ _ (Option.some.inj hf) rfl dX7_above_34 hE
def rm_X7_below : Room := { frames := 1, cells := 0, slots := 0, locals := 24 }
def f_X7_below (o : Nat) (a1 : Int32) (a2 : Int32) (a3 : Int32) (M : Mm) : Option (Int64) :=
    (op_gR M 7 o 3).bind fun x_1 =>
    (op_aI M x_1 a2).bind fun x_2 =>
    (op_gR M 7 o 11).bind fun x_3 =>
    (op_aI M x_3 ((((256 : Int32) * a1) + ((16 : Int32) * a2)) + a3)).bind fun x_4 =>
    (op_is M o 7).bind fun _ =>
    (f_X7_sumOfTold o a1 a3 M).bind fun z_5 =>
    some ((x_2.toInt64 * x_4.toInt64) * z_5.toInt64)
set_option maxHeartbeats 4000000 in
set_option maxRecDepth 100000 in
theorem c_X7_below (l : Launch) (D : va_G) (cA : Nat → ClassId) (ad : Nat → Nat) (o : Nat) (a1 : Int32) (a2 : Int32) (a3 : Int32) (M : Mm) (zr : Int64) (hf : f_X7_below o a1 a2 a3 M = some zr) : KL l yX7_below cX7_below 4 (some .long) rm_X7_below D cA ad [.ref (ad o), .int a1, .int a2, .int a3] M zr M := by
  refine KL_of (by decide) (Nat.le_of_ble_eq_true rfl) ?_
  intro p e s m args below meth c ls Q A H locs hZ hE hl hret
  have hx := hZ.1
  have hb := hZ.2.1
  have hown := hZ.2.2.2.1
  have hts := hZ.2.2.2.2.1
  have hl : lv_has ls 4 [(0, .ref (ad o)), (1, .int a1), (2, .int a2), (3, .int a3)] := hl
  unfold f_X7_below at hf
  refine lv_aload_n hx hb dX7_below_0 rfl (lv_at hl 0 rfl) ?_
  obtain ⟨x_1, g_1, hf⟩ := b_some hf
  refine xx_gR hZ hE k_X7 3 (by decide) rfl tw_371 g_1 dX7_below_1 ?_
  refine lv_iload_n hx hb dX7_below_4 rfl (lv_at hl 2 rfl) ?_
  obtain ⟨x_2, g_2, hf⟩ := b_some hf
  refine xx_aI hZ hE g_2 dX7_below_5 ?_
  refine lv_i2l hx hb dX7_below_6 rfl ?_
  refine lv_aload_n hx hb dX7_below_7 rfl (lv_at hl 0 rfl) ?_
  obtain ⟨x_3, g_3, hf⟩ := b_some hf
  refine xx_gR hZ hE k_X7 11 (by decide) rfl tw_398 g_3 dX7_below_8 ?_
  refine lv_sipush (v := 256) hx hb dX7_below_11 (by decide) ?_
  refine lv_iload_n hx hb dX7_below_14 rfl (lv_at hl 1 rfl) ?_
  refine lv_imul hx hb dX7_below_15 ?_
  refine lv_bipush (v := 16) hx hb dX7_below_16 (by decide) ?_
  refine lv_iload_n hx hb dX7_below_18 rfl (lv_at hl 2 rfl) ?_
  refine lv_imul hx hb dX7_below_19 ?_
  refine lv_iadd hx hb dX7_below_20 ?_
  refine lv_iload_n hx hb dX7_below_21 rfl (lv_at hl 3 rfl) ?_
  refine lv_iadd hx hb dX7_below_22 ?_
  obtain ⟨x_4, g_4, hf⟩ := b_some hf
  refine xx_aI hZ hE g_4 dX7_below_23 ?_
  refine lv_i2l hx hb dX7_below_24 rfl ?_
  refine lv_lmul hx hb dX7_below_25 ?_
  refine lv_aload_n hx hb dX7_below_26 rfl (lv_at hl 0 rfl) ?_
  refine lv_iload_n hx hb dX7_below_27 rfl (lv_at hl 1 rfl) ?_
  refine lv_iload_n hx hb dX7_below_28 rfl (lv_at hl 3 rfl) ?_
  obtain ⟨_, i_5, hf⟩ := b_some hf
  obtain ⟨z_5, c_5, hf⟩ := b_some hf
  refine xx_cVi hZ hE (As := [.int a1, .int a3]) (rest := [.long (x_2.toInt64 * x_4.toInt64)]) k_X7 (is_m i_5) tw_413 tw_414 (c_X7_sumOfTold l D cA ad o a1 a3 M _ c_5) cw_X7_sumOfTold tw_412 ⟨rfl, rfl⟩ ⟨Nat.le_of_ble_eq_true rfl, Nat.le_of_ble_eq_true rfl⟩ rfl hl.1 rfl (Nat.le_of_ble_eq_true rfl) ⟨Nat.le_of_ble_eq_true rfl, Nat.le_of_ble_eq_true rfl⟩ dX7_below_29 (fun H locs hE => ?_)
  refine lv_i2l hx hb dX7_below_32 rfl ?_
  refine lv_lmul hx hb dX7_below_33 ?_
  exact hret _ _ _ _ _ _ (Option.some.inj hf) rfl dX7_below_34 hE
def rm_X7_toldChance : Room := { frames := 3, cells := 0, slots := 0, locals := 79 }
def f_X7_toldChance (o : Nat) (a1 : Int32) (a2 : Int32) (a3 : Int32) (M : Mm) : Option (Mm) :=
    (op_gR M 7 o 11).bind fun x_1 =>
    (op_aI M x_1 ((((256 : Int32) * a1) + ((16 : Int32) * a2)) + a3)).bind fun x_2 =>
    (op_is M o 7).bind fun _ =>
    (f_X7_lay o (0 : Int64) (1 : Int64) M).bind fun z_3 =>
    if x_2 = 0 then
    some z_3
    else
    (op_is z_3 o 7).bind fun _ =>
    (f_X7_above o a1 a2 a3 z_3).bind fun z_5 =>
    (op_is z_3 o 7).bind fun _ =>
    (f_X7_below o a1 a2 a3 z_3).bind fun z_6 =>
    (op_is z_3 o 7).bind fun _ =>
    (f_X7_sumOfTold o a1 a2 z_3).bind fun z_7 =>
    (op_is z_3 o 7).bind fun _ =>
    (f_X7_lay o x_2.toInt64 z_7.toInt64 z_3).bind fun z_8 =>
    (op_gR z_8 7 o 3).bind fun x_9 =>
    (op_aI z_8 x_9 a2).bind fun x_10 =>
    if x_10 ≤ 0 then
    (op_gR z_8 7 o 3).bind fun x_12 =>
    (op_aI z_8 x_12 a2).bind fun x_13 =>
    if x_13 ≤ 0 then
    some z_8
    else
    if z_5 = (0 : Int64) then
    if z_5 = (0 : Int64) then
    (op_is z_8 o 7).bind fun _ =>
    (f_X7_lay o (0 : Int64) (1 : Int64) z_8).bind fun z_21 =>
    some z_21
    else
    (f_X7_divisorOf z_5 z_6).bind fun z_17 =>
    if z_17 = 0 then none else
    if z_17 = 0 then none else
    (op_is z_8 o 7).bind fun _ =>
    (f_X7_times o (z_5 / z_17) (z_6 / z_17) z_8).bind fun z_20 =>
    some z_20
    else
    some z_8
    else
    if z_5 < z_6 then
    if z_5 = (0 : Int64) then
    (op_is z_8 o 7).bind fun _ =>
    (f_X7_lay o (0 : Int64) (1 : Int64) z_8).bind fun z_28 =>
    some z_28
    else
    (f_X7_divisorOf z_5 z_6).bind fun z_24 =>
    if z_24 = 0 then none else
    if z_24 = 0 then none else
    (op_is z_8 o 7).bind fun _ =>
    (f_X7_times o (z_5 / z_24) (z_6 / z_24) z_8).bind fun z_27 =>
    some z_27
    else
    (op_gR z_8 7 o 3).bind fun x_29 =>
    (op_aI z_8 x_29 a2).bind fun x_30 =>
    if x_30 ≤ 0 then
    some z_8
    else
    if z_5 = (0 : Int64) then
    if z_5 = (0 : Int64) then
    (op_is z_8 o 7).bind fun _ =>
    (f_X7_lay o (0 : Int64) (1 : Int64) z_8).bind fun z_38 =>
    some z_38
    else
    (f_X7_divisorOf z_5 z_6).bind fun z_34 =>
    if z_34 = 0 then none else
    if z_34 = 0 then none else
    (op_is z_8 o 7).bind fun _ =>
    (f_X7_times o (z_5 / z_34) (z_6 / z_34) z_8).bind fun z_37 =>
    some z_37
    else
    some z_8
set_option maxHeartbeats 4000000 in
set_option maxRecDepth 100000 in
theorem c_X7_toldChance (l : Launch) (D : va_G) (cA : Nat → ClassId) (ad : Nat → Nat) (o : Nat) (a1 : Int32) (a2 : Int32) (a3 : Int32) (M : Mm) (zr : Mm) (hf : f_X7_toldChance o a1 a2 a3 M = some zr) : KV l yX7_toldChance cX7_toldChance 11 none rm_X7_toldChance D cA ad [.ref (ad o), .int a1, .int a2, .int a3] M zr := by
  refine KV_of (by decide) (Nat.le_of_ble_eq_true rfl) ?_
  intro p e s m args below meth c ls Q A H locs hZ hE hl hret
  have hx := hZ.1
  have hb := hZ.2.1
  have hown := hZ.2.2.2.1
  have hts := hZ.2.2.2.2.1
  have hl : lv_has ls 11 [(0, .ref (ad o)), (1, .int a1), (2, .int a2), (3, .int a3)] := hl
  unfold f_X7_toldChance at hf
  refine lv_aload_n hx hb dX7_toldChance_0 rfl (lv_at hl 0 rfl) ?_
  obtain ⟨x_1, g_1, hf⟩ := b_some hf
  refine xx_gR hZ hE k_X7 11 (by decide) rfl tw_398 g_1 dX7_toldChance_1 ?_
  refine lv_sipush (v := 256) hx hb dX7_toldChance_4 (by decide) ?_
  refine lv_iload_n hx hb dX7_toldChance_7 rfl (lv_at hl 1 rfl) ?_
  refine lv_imul hx hb dX7_toldChance_8 ?_
  refine lv_bipush (v := 16) hx hb dX7_toldChance_9 (by decide) ?_
  refine lv_iload_n hx hb dX7_toldChance_11 rfl (lv_at hl 2 rfl) ?_
  refine lv_imul hx hb dX7_toldChance_12 ?_
  refine lv_iadd hx hb dX7_toldChance_13 ?_
  refine lv_iload_n hx hb dX7_toldChance_14 rfl (lv_at hl 3 rfl) ?_
  refine lv_iadd hx hb dX7_toldChance_15 ?_
  obtain ⟨x_2, g_2, hf⟩ := b_some hf
  refine xx_aI hZ hE g_2 dX7_toldChance_16 ?_
  refine lv_istore (lv' := [(4, .int x_2), (0, .ref (ad o)), (1, .int a1), (2, .int a2), (3, .int a3)]) hx hb dX7_toldChance_17 hl (by decide) rfl (fun ls hl => ?_)
  refine lv_aload_n hx hb dX7_toldChance_19 rfl (lv_at hl 1 rfl) ?_
  refine lv_lconst (v := 0) hx hb dX7_toldChance_20 (by decide) ?_
  refine lv_lconst (v := 1) hx hb dX7_toldChance_21 (by decide) ?_
  obtain ⟨_, i_3, hf⟩ := b_some hf
  obtain ⟨z_3, c_3, hf⟩ := b_some hf
  refine xx_cVv hZ hE (As := [.long (0 : Int64), .long (1 : Int64)]) (rest := []) k_X7 (is_m i_3) tw_407 tw_408 (c_X7_lay l D cA ad o (0 : Int64) (1 : Int64) M _ c_3) cw_X7_lay tw_406 ⟨rfl, rfl⟩ ⟨Nat.le_of_ble_eq_true rfl, Nat.le_of_ble_eq_true rfl⟩ rfl hl.1 rfl (Nat.le_of_ble_eq_true rfl) ⟨Nat.le_of_ble_eq_true rfl, Nat.le_of_ble_eq_true rfl⟩ dX7_toldChance_22 (fun H locs hE => ?_)
  refine lv_iload hx hb dX7_toldChance_25 (lv_at hl 0 rfl) ?_
  refine lv_if_ne (tgt := 31) hx hb dX7_toldChance_27 (by decide) (fun h_4 => ?_) (fun h_4 => ?_)
  · have hf := it_n h_4 hf
    refine lv_aload_n hx hb dX7_toldChance_31 rfl (lv_at hl 1 rfl) ?_
    refine lv_iload_n hx hb dX7_toldChance_32 rfl (lv_at hl 2 rfl) ?_
    refine lv_iload_n hx hb dX7_toldChance_33 rfl (lv_at hl 3 rfl) ?_
    refine lv_iload_n hx hb dX7_toldChance_34 rfl (lv_at hl 4 rfl) ?_
    obtain ⟨_, i_5, hf⟩ := b_some hf
    obtain ⟨z_5, c_5, hf⟩ := b_some hf
    refine xx_cVl hZ hE (As := [.int a1, .int a2, .int a3]) (rest := []) k_X7 (is_m i_5) tw_416 tw_417 (c_X7_above l D cA ad o a1 a2 a3 z_3 _ c_5) cw_X7_above tw_415 ⟨rfl, rfl⟩ ⟨Nat.le_of_ble_eq_true rfl, Nat.le_of_ble_eq_true rfl⟩ rfl hl.1 rfl (Nat.le_of_ble_eq_true rfl) ⟨Nat.le_of_ble_eq_true rfl, Nat.le_of_ble_eq_true rfl⟩ dX7_toldChance_35 (fun H locs hE => ?_)
    refine lv_lstore (lv' := [(5, .long z_5), (4, .int x_2), (0, .ref (ad o)), (1, .int a1), (2, .int a2), (3, .int a3)]) hx hb dX7_toldChance_38 hl (by decide) rfl (fun ls hl => ?_)
    refine lv_aload_n hx hb dX7_toldChance_40 rfl (lv_at hl 2 rfl) ?_
    refine lv_iload_n hx hb dX7_toldChance_41 rfl (lv_at hl 3 rfl) ?_
    refine lv_iload_n hx hb dX7_toldChance_42 rfl (lv_at hl 4 rfl) ?_
    refine lv_iload_n hx hb dX7_toldChance_43 rfl (lv_at hl 5 rfl) ?_
    obtain ⟨_, i_6, hf⟩ := b_some hf
    obtain ⟨z_6, c_6, hf⟩ := b_some hf
    refine xx_cVl hZ hE (As := [.int a1, .int a2, .int a3]) (rest := []) k_X7 (is_m i_6) tw_419 tw_420 (c_X7_below l D cA ad o a1 a2 a3 z_3 _ c_6) cw_X7_below tw_418 ⟨rfl, rfl⟩ ⟨Nat.le_of_ble_eq_true rfl, Nat.le_of_ble_eq_true rfl⟩ rfl hl.1 rfl (Nat.le_of_ble_eq_true rfl) ⟨Nat.le_of_ble_eq_true rfl, Nat.le_of_ble_eq_true rfl⟩ dX7_toldChance_44 (fun H locs hE => ?_)
    refine lv_lstore (lv' := [(7, .long z_6), (5, .long z_5), (4, .int x_2), (0, .ref (ad o)), (1, .int a1), (2, .int a2), (3, .int a3)]) hx hb dX7_toldChance_47 hl (by decide) rfl (fun ls hl => ?_)
    refine lv_aload_n hx hb dX7_toldChance_49 rfl (lv_at hl 3 rfl) ?_
    refine lv_iload hx hb dX7_toldChance_50 (lv_at hl 2 rfl) ?_
    refine lv_i2l hx hb dX7_toldChance_52 rfl ?_
    refine lv_aload_n hx hb dX7_toldChance_53 rfl (lv_at hl 3 rfl) ?_
    refine lv_iload_n hx hb dX7_toldChance_54 rfl (lv_at hl 4 rfl) ?_
    refine lv_iload_n hx hb dX7_toldChance_55 rfl (lv_at hl 5 rfl) ?_
    obtain ⟨_, i_7, hf⟩ := b_some hf
    obtain ⟨z_7, c_7, hf⟩ := b_some hf
    refine xx_cVi hZ hE (As := [.int a1, .int a2]) (rest := [.long x_2.toInt64, .ref (ad o)]) k_X7 (is_m i_7) tw_413 tw_414 (c_X7_sumOfTold l D cA ad o a1 a2 z_3 _ c_7) cw_X7_sumOfTold tw_412 ⟨rfl, rfl⟩ ⟨Nat.le_of_ble_eq_true rfl, Nat.le_of_ble_eq_true rfl⟩ rfl hl.1 rfl (Nat.le_of_ble_eq_true rfl) ⟨Nat.le_of_ble_eq_true rfl, Nat.le_of_ble_eq_true rfl⟩ dX7_toldChance_56 (fun H locs hE => ?_)
    refine lv_i2l hx hb dX7_toldChance_59 rfl ?_
    obtain ⟨_, i_8, hf⟩ := b_some hf
    obtain ⟨z_8, c_8, hf⟩ := b_some hf
    refine xx_cVv hZ hE (As := [.long x_2.toInt64, .long z_7.toInt64]) (rest := []) k_X7 (is_m i_8) tw_407 tw_408 (c_X7_lay l D cA ad o x_2.toInt64 z_7.toInt64 z_3 _ c_8) cw_X7_lay tw_406 ⟨rfl, rfl⟩ ⟨Nat.le_of_ble_eq_true rfl, Nat.le_of_ble_eq_true rfl⟩ rfl hl.1 rfl (Nat.le_of_ble_eq_true rfl) ⟨Nat.le_of_ble_eq_true rfl, Nat.le_of_ble_eq_true rfl⟩ dX7_toldChance_60 (fun H locs hE => ?_)
    refine lv_aload_n hx hb dX7_toldChance_63 rfl (lv_at hl 3 rfl) ?_
    obtain ⟨x_9, g_9, hf⟩ := b_some hf
    refine xx_gR hZ hE k_X7 3 (by decide) rfl tw_371 g_9 dX7_toldChance_64 ?_
    refine lv_iload_n hx hb dX7_toldChance_67 rfl (lv_at hl 5 rfl) ?_
    obtain ⟨x_10, g_10, hf⟩ := b_some hf
    refine xx_aI hZ hE g_10 dX7_toldChance_68 ?_
    refine lv_if_le (tgt := 80) hx hb dX7_toldChance_69 (by decide) (fun h_11 => ?_) (fun h_11 => ?_)
    · have hf := it_y h_11 hf
      refine lv_aload_n hx hb dX7_toldChance_80 rfl (lv_at hl 3 rfl) ?_
      obtain ⟨x_12, g_12, hf⟩ := b_some hf
      refine xx_gR hZ hE k_X7 3 (by decide) rfl tw_371 g_12 dX7_toldChance_81 ?_
      refine lv_iload_n hx hb dX7_toldChance_84 rfl (lv_at hl 5 rfl) ?_
      obtain ⟨x_13, g_13, hf⟩ := b_some hf
      refine xx_aI hZ hE g_13 dX7_toldChance_85 ?_
      refine lv_if_le (tgt := 135) hx hb dX7_toldChance_86 (by decide) (fun h_14 => ?_) (fun h_14 => ?_)
      · have hf := it_y h_14 hf
        exact hret _ _ _ _ _ (Option.some.inj hf) dX7_toldChance_135 hE
      · have hf := it_n h_14 hf
        refine lv_lload hx hb dX7_toldChance_89 (lv_at hl 1 rfl) ?_
        refine lv_lconst (v := 0) hx hb dX7_toldChance_91 (by decide) ?_
        refine xx_lne (tgt := 135) hx hb dX7_toldChance_92 dX7_toldChance_93 (by decide) (fun h_15 => ?_) (fun h_15 => ?_)
        · have hf := it_n h_15 hf
          exact hret _ _ _ _ _ (Option.some.inj hf) dX7_toldChance_135 hE
        · have hf := it_y h_15 hf
          refine lv_lload hx hb dX7_toldChance_96 (lv_at hl 1 rfl) ?_
          refine lv_lconst (v := 0) hx hb dX7_toldChance_98 (by decide) ?_
          refine xx_lne (tgt := 112) hx hb dX7_toldChance_99 dX7_toldChance_100 (by decide) (fun h_16 => ?_) (fun h_16 => ?_)
          · have hf := it_n h_16 hf
            refine lv_lload hx hb dX7_toldChance_112 (lv_at hl 1 rfl) ?_
            refine lv_lload hx hb dX7_toldChance_114 (lv_at hl 0 rfl) ?_
            obtain ⟨z_17, c_17, hf⟩ := b_some hf
            refine xx_cSl hZ hE (As := [.long z_5, .long z_6]) (rest := []) tw_401 (c_X7_divisorOf l D cA ad z_5 z_6 z_8 _ c_17) cw_X7_divisorOf tw_400 ⟨rfl, rfl⟩ ⟨Nat.le_of_ble_eq_true rfl, Nat.le_of_ble_eq_true rfl⟩ rfl hl.1 rfl (Nat.le_of_ble_eq_true rfl) ⟨Nat.le_of_ble_eq_true rfl, Nat.le_of_ble_eq_true rfl⟩ dX7_toldChance_116 (fun H locs hE => ?_)
            refine lv_lstore (lv' := [(9, .long z_17), (7, .long z_6), (5, .long z_5), (4, .int x_2), (0, .ref (ad o)), (1, .int a1), (2, .int a2), (3, .int a3)]) hx hb dX7_toldChance_119 hl (by decide) rfl (fun ls hl => ?_)
            refine lv_aload_n hx hb dX7_toldChance_121 rfl (lv_at hl 4 rfl) ?_
            refine lv_lload hx hb dX7_toldChance_122 (lv_at hl 2 rfl) ?_
            refine lv_lload hx hb dX7_toldChance_124 (lv_at hl 0 rfl) ?_
            obtain ⟨h_18, hf⟩ := e_some hf
            refine lv_ldiv hx hb dX7_toldChance_126 h_18 ?_
            refine lv_lload hx hb dX7_toldChance_127 (lv_at hl 1 rfl) ?_
            refine lv_lload hx hb dX7_toldChance_129 (lv_at hl 0 rfl) ?_
            obtain ⟨h_19, hf⟩ := e_some hf
            refine lv_ldiv hx hb dX7_toldChance_131 h_19 ?_
            obtain ⟨_, i_20, hf⟩ := b_some hf
            obtain ⟨z_20, c_20, hf⟩ := b_some hf
            refine xx_cVv hZ hE (As := [.long (z_5 / z_17), .long (z_6 / z_17)]) (rest := []) k_X7 (is_m i_20) tw_422 tw_423 (c_X7_times l D cA ad o (z_5 / z_17) (z_6 / z_17) z_8 _ c_20) cw_X7_times tw_421 ⟨rfl, rfl⟩ ⟨Nat.le_of_ble_eq_true rfl, Nat.le_of_ble_eq_true rfl⟩ rfl hl.1 rfl (Nat.le_of_ble_eq_true rfl) ⟨Nat.le_of_ble_eq_true rfl, Nat.le_of_ble_eq_true rfl⟩ dX7_toldChance_132 (fun H locs hE => ?_)
            exact hret _ _ _ _ _ (Option.some.inj hf) dX7_toldChance_135 hE
          · have hf := it_y h_16 hf
            refine lv_aload_n hx hb dX7_toldChance_103 rfl (lv_at hl 3 rfl) ?_
            refine lv_lconst (v := 0) hx hb dX7_toldChance_104 (by decide) ?_
            refine lv_lconst (v := 1) hx hb dX7_toldChance_105 (by decide) ?_
            obtain ⟨_, i_21, hf⟩ := b_some hf
            obtain ⟨z_21, c_21, hf⟩ := b_some hf
            refine xx_cVv hZ hE (As := [.long (0 : Int64), .long (1 : Int64)]) (rest := []) k_X7 (is_m i_21) tw_407 tw_408 (c_X7_lay l D cA ad o (0 : Int64) (1 : Int64) z_8 _ c_21) cw_X7_lay tw_406 ⟨rfl, rfl⟩ ⟨Nat.le_of_ble_eq_true rfl, Nat.le_of_ble_eq_true rfl⟩ rfl hl.1 rfl (Nat.le_of_ble_eq_true rfl) ⟨Nat.le_of_ble_eq_true rfl, Nat.le_of_ble_eq_true rfl⟩ dX7_toldChance_106 (fun H locs hE => ?_)
            refine lv_goto (tgt := 135) hx hb dX7_toldChance_109 (by decide) ?_
            exact hret _ _ _ _ _ (Option.some.inj hf) dX7_toldChance_135 hE
    · have hf := it_n h_11 hf
      refine lv_lload hx hb dX7_toldChance_72 (lv_at hl 1 rfl) ?_
      refine lv_lload hx hb dX7_toldChance_74 (lv_at hl 0 rfl) ?_
      refine xx_llt (tgt := 96) hx hb dX7_toldChance_76 dX7_toldChance_77 (by decide) (fun h_22 => ?_) (fun h_22 => ?_)
      · have hf := it_y h_22 hf
        refine lv_lload hx hb dX7_toldChance_96 (lv_at hl 1 rfl) ?_
        refine lv_lconst (v := 0) hx hb dX7_toldChance_98 (by decide) ?_
        refine xx_lne (tgt := 112) hx hb dX7_toldChance_99 dX7_toldChance_100 (by decide) (fun h_23 => ?_) (fun h_23 => ?_)
        · have hf := it_n h_23 hf
          refine lv_lload hx hb dX7_toldChance_112 (lv_at hl 1 rfl) ?_
          refine lv_lload hx hb dX7_toldChance_114 (lv_at hl 0 rfl) ?_
          obtain ⟨z_24, c_24, hf⟩ := b_some hf
          refine xx_cSl hZ hE (As := [.long z_5, .long z_6]) (rest := []) tw_401 (c_X7_divisorOf l D cA ad z_5 z_6 z_8 _ c_24) cw_X7_divisorOf tw_400 ⟨rfl, rfl⟩ ⟨Nat.le_of_ble_eq_true rfl, Nat.le_of_ble_eq_true rfl⟩ rfl hl.1 rfl (Nat.le_of_ble_eq_true rfl) ⟨Nat.le_of_ble_eq_true rfl, Nat.le_of_ble_eq_true rfl⟩ dX7_toldChance_116 (fun H locs hE => ?_)
          refine lv_lstore (lv' := [(9, .long z_24), (7, .long z_6), (5, .long z_5), (4, .int x_2), (0, .ref (ad o)), (1, .int a1), (2, .int a2), (3, .int a3)]) hx hb dX7_toldChance_119 hl (by decide) rfl (fun ls hl => ?_)
          refine lv_aload_n hx hb dX7_toldChance_121 rfl (lv_at hl 4 rfl) ?_
          refine lv_lload hx hb dX7_toldChance_122 (lv_at hl 2 rfl) ?_
          refine lv_lload hx hb dX7_toldChance_124 (lv_at hl 0 rfl) ?_
          obtain ⟨h_25, hf⟩ := e_some hf
          refine lv_ldiv hx hb dX7_toldChance_126 h_25 ?_
          refine lv_lload hx hb dX7_toldChance_127 (lv_at hl 1 rfl) ?_
          refine lv_lload hx hb dX7_toldChance_129 (lv_at hl 0 rfl) ?_
          obtain ⟨h_26, hf⟩ := e_some hf
          refine lv_ldiv hx hb dX7_toldChance_131 h_26 ?_
          obtain ⟨_, i_27, hf⟩ := b_some hf
          obtain ⟨z_27, c_27, hf⟩ := b_some hf
          refine xx_cVv hZ hE (As := [.long (z_5 / z_24), .long (z_6 / z_24)]) (rest := []) k_X7 (is_m i_27) tw_422 tw_423 (c_X7_times l D cA ad o (z_5 / z_24) (z_6 / z_24) z_8 _ c_27) cw_X7_times tw_421 ⟨rfl, rfl⟩ ⟨Nat.le_of_ble_eq_true rfl, Nat.le_of_ble_eq_true rfl⟩ rfl hl.1 rfl (Nat.le_of_ble_eq_true rfl) ⟨Nat.le_of_ble_eq_true rfl, Nat.le_of_ble_eq_true rfl⟩ dX7_toldChance_132 (fun H locs hE => ?_)
          exact hret _ _ _ _ _ (Option.some.inj hf) dX7_toldChance_135 hE
        · have hf := it_y h_23 hf
          refine lv_aload_n hx hb dX7_toldChance_103 rfl (lv_at hl 3 rfl) ?_
          refine lv_lconst (v := 0) hx hb dX7_toldChance_104 (by decide) ?_
          refine lv_lconst (v := 1) hx hb dX7_toldChance_105 (by decide) ?_
          obtain ⟨_, i_28, hf⟩ := b_some hf
          obtain ⟨z_28, c_28, hf⟩ := b_some hf
          refine xx_cVv hZ hE (As := [.long (0 : Int64), .long (1 : Int64)]) (rest := []) k_X7 (is_m i_28) tw_407 tw_408 (c_X7_lay l D cA ad o (0 : Int64) (1 : Int64) z_8 _ c_28) cw_X7_lay tw_406 ⟨rfl, rfl⟩ ⟨Nat.le_of_ble_eq_true rfl, Nat.le_of_ble_eq_true rfl⟩ rfl hl.1 rfl (Nat.le_of_ble_eq_true rfl) ⟨Nat.le_of_ble_eq_true rfl, Nat.le_of_ble_eq_true rfl⟩ dX7_toldChance_106 (fun H locs hE => ?_)
          refine lv_goto (tgt := 135) hx hb dX7_toldChance_109 (by decide) ?_
          exact hret _ _ _ _ _ (Option.some.inj hf) dX7_toldChance_135 hE
      · have hf := it_n h_22 hf
        refine lv_aload_n hx hb dX7_toldChance_80 rfl (lv_at hl 3 rfl) ?_
        obtain ⟨x_29, g_29, hf⟩ := b_some hf
        refine xx_gR hZ hE k_X7 3 (by decide) rfl tw_371 g_29 dX7_toldChance_81 ?_
        refine lv_iload_n hx hb dX7_toldChance_84 rfl (lv_at hl 5 rfl) ?_
        obtain ⟨x_30, g_30, hf⟩ := b_some hf
        refine xx_aI hZ hE g_30 dX7_toldChance_85 ?_
        refine lv_if_le (tgt := 135) hx hb dX7_toldChance_86 (by decide) (fun h_31 => ?_) (fun h_31 => ?_)
        · have hf := it_y h_31 hf
          exact hret _ _ _ _ _ (Option.some.inj hf) dX7_toldChance_135 hE
        · have hf := it_n h_31 hf
          refine lv_lload hx hb dX7_toldChance_89 (lv_at hl 1 rfl) ?_
          refine lv_lconst (v := 0) hx hb dX7_toldChance_91 (by decide) ?_
          refine xx_lne (tgt := 135) hx hb dX7_toldChance_92 dX7_toldChance_93 (by decide) (fun h_32 => ?_) (fun h_32 => ?_)
          · have hf := it_n h_32 hf
            exact hret _ _ _ _ _ (Option.some.inj hf) dX7_toldChance_135 hE
          · have hf := it_y h_32 hf
            refine lv_lload hx hb dX7_toldChance_96 (lv_at hl 1 rfl) ?_
            refine lv_lconst (v := 0) hx hb dX7_toldChance_98 (by decide) ?_
            refine xx_lne (tgt := 112) hx hb dX7_toldChance_99 dX7_toldChance_100 (by decide) (fun h_33 => ?_) (fun h_33 => ?_)
            · have hf := it_n h_33 hf
              refine lv_lload hx hb dX7_toldChance_112 (lv_at hl 1 rfl) ?_
              refine lv_lload hx hb dX7_toldChance_114 (lv_at hl 0 rfl) ?_
              obtain ⟨z_34, c_34, hf⟩ := b_some hf
              refine xx_cSl hZ hE (As := [.long z_5, .long z_6]) (rest := []) tw_401 (c_X7_divisorOf l D cA ad z_5 z_6 z_8 _ c_34) cw_X7_divisorOf tw_400 ⟨rfl, rfl⟩ ⟨Nat.le_of_ble_eq_true rfl, Nat.le_of_ble_eq_true rfl⟩ rfl hl.1 rfl (Nat.le_of_ble_eq_true rfl) ⟨Nat.le_of_ble_eq_true rfl, Nat.le_of_ble_eq_true rfl⟩ dX7_toldChance_116 (fun H locs hE => ?_)
              refine lv_lstore (lv' := [(9, .long z_34), (7, .long z_6), (5, .long z_5), (4, .int x_2), (0, .ref (ad o)), (1, .int a1), (2, .int a2), (3, .int a3)]) hx hb dX7_toldChance_119 hl (by decide) rfl (fun ls hl => ?_)
              refine lv_aload_n hx hb dX7_toldChance_121 rfl (lv_at hl 4 rfl) ?_
              refine lv_lload hx hb dX7_toldChance_122 (lv_at hl 2 rfl) ?_
              refine lv_lload hx hb dX7_toldChance_124 (lv_at hl 0 rfl) ?_
              obtain ⟨h_35, hf⟩ := e_some hf
              refine lv_ldiv hx hb dX7_toldChance_126 h_35 ?_
              refine lv_lload hx hb dX7_toldChance_127 (lv_at hl 1 rfl) ?_
              refine lv_lload hx hb dX7_toldChance_129 (lv_at hl 0 rfl) ?_
              obtain ⟨h_36, hf⟩ := e_some hf
              refine lv_ldiv hx hb dX7_toldChance_131 h_36 ?_
              obtain ⟨_, i_37, hf⟩ := b_some hf
              obtain ⟨z_37, c_37, hf⟩ := b_some hf
              refine xx_cVv hZ hE (As := [.long (z_5 / z_34), .long (z_6 / z_34)]) (rest := []) k_X7 (is_m i_37) tw_422 tw_423 (c_X7_times l D cA ad o (z_5 / z_34) (z_6 / z_34) z_8 _ c_37) cw_X7_times tw_421 ⟨rfl, rfl⟩ ⟨Nat.le_of_ble_eq_true rfl, Nat.le_of_ble_eq_true rfl⟩ rfl hl.1 rfl (Nat.le_of_ble_eq_true rfl) ⟨Nat.le_of_ble_eq_true rfl, Nat.le_of_ble_eq_true rfl⟩ dX7_toldChance_132 (fun H locs hE => ?_)
              exact hret _ _ _ _ _ (Option.some.inj hf) dX7_toldChance_135 hE
            · have hf := it_y h_33 hf
              refine lv_aload_n hx hb dX7_toldChance_103 rfl (lv_at hl 3 rfl) ?_
              refine lv_lconst (v := 0) hx hb dX7_toldChance_104 (by decide) ?_
              refine lv_lconst (v := 1) hx hb dX7_toldChance_105 (by decide) ?_
              obtain ⟨_, i_38, hf⟩ := b_some hf
              obtain ⟨z_38, c_38, hf⟩ := b_some hf
              refine xx_cVv hZ hE (As := [.long (0 : Int64), .long (1 : Int64)]) (rest := []) k_X7 (is_m i_38) tw_407 tw_408 (c_X7_lay l D cA ad o (0 : Int64) (1 : Int64) z_8 _ c_38) cw_X7_lay tw_406 ⟨rfl, rfl⟩ ⟨Nat.le_of_ble_eq_true rfl, Nat.le_of_ble_eq_true rfl⟩ rfl hl.1 rfl (Nat.le_of_ble_eq_true rfl) ⟨Nat.le_of_ble_eq_true rfl, Nat.le_of_ble_eq_true rfl⟩ dX7_toldChance_106 (fun H locs hE => ?_)
              refine lv_goto (tgt := 135) hx hb dX7_toldChance_109 (by decide) ?_
              exact hret _ _ _ _ _ (Option.some.inj hf) dX7_toldChance_135 hE
  · have hf := it_y h_4 hf
    exact hret _ _ _ _ _ (Option.some.inj hf) dX7_toldChance_30 hE
def lp_X7_toldFrom_22 (k_96 : Int64 → Int64 → Mm → Option (Mm)) (i_0 : Nat) (i_1 : Int32) (i_2 : Int32) : Nat → Int64 → Int64 → Int32 → Mm → Option (Mm)
  | 0, _, _, _, _ => none
  | n_22 + 1, v_4, v_6, v_8, M =>
    (op_gI M 7 i_0 2).bind fun x_2 =>
    if x_2 ≤ v_8 then
    k_96 v_4 v_6 M
    else
    op_jn (fun (l_4_4 : Int64) (l_4_6 : Int64) (M_4 : Mm) =>
    lp_X7_toldFrom_22 k_96 i_0 i_1 i_2 n_22 l_4_4 l_4_6 (v_8 + 1) M_4)
    fun j_4 =>
    if v_8 = i_2 then
    j_4 v_4 v_6 M
    else
    (op_is M i_0 7).bind fun _ =>
    (f_X7_toldChance i_0 i_1 i_2 v_8 M).bind fun z_6 =>
    (op_gL z_6 7 i_0 21).bind fun x_7 =>
    (op_gL z_6 7 i_0 22).bind fun x_8 =>
    (op_pL z_6 7 i_0 21 v_4).bind fun M_9 =>
    (op_pL M_9 7 i_0 22 v_6).bind fun M_10 =>
    (op_is M_10 i_0 7).bind fun _ =>
    (f_X7_and i_0 x_7 x_8 (1 : Int32) M_10).bind fun z_11 =>
    (op_gL z_11 7 i_0 21).bind fun x_12 =>
    (op_gL z_11 7 i_0 22).bind fun x_13 =>
    j_4 x_12 x_13 z_11
theorem lp_X7_toldFrom_22_s (k_96 : Int64 → Int64 → Mm → Option (Mm)) (i_0 : Nat) (i_1 : Int32) (i_2 : Int32) {n_22 : Nat} {v_4 : Int64} {v_6 : Int64} {v_8 : Int32} {M : Mm} {zr : Mm} (hf : lp_X7_toldFrom_22 k_96 i_0 i_1 i_2 (n_22 + 1) v_4 v_6 v_8 M = some zr) : (
    (op_gI M 7 i_0 2).bind fun x_2 =>
    if x_2 ≤ v_8 then
    k_96 v_4 v_6 M
    else
    op_jn (fun (l_4_4 : Int64) (l_4_6 : Int64) (M_4 : Mm) =>
    lp_X7_toldFrom_22 k_96 i_0 i_1 i_2 n_22 l_4_4 l_4_6 (v_8 + 1) M_4)
    fun j_4 =>
    if v_8 = i_2 then
    j_4 v_4 v_6 M
    else
    (op_is M i_0 7).bind fun _ =>
    (f_X7_toldChance i_0 i_1 i_2 v_8 M).bind fun z_6 =>
    (op_gL z_6 7 i_0 21).bind fun x_7 =>
    (op_gL z_6 7 i_0 22).bind fun x_8 =>
    (op_pL z_6 7 i_0 21 v_4).bind fun M_9 =>
    (op_pL M_9 7 i_0 22 v_6).bind fun M_10 =>
    (op_is M_10 i_0 7).bind fun _ =>
    (f_X7_and i_0 x_7 x_8 (1 : Int32) M_10).bind fun z_11 =>
    (op_gL z_11 7 i_0 21).bind fun x_12 =>
    (op_gL z_11 7 i_0 22).bind fun x_13 =>
    j_4 x_12 x_13 z_11) = some zr := hf
theorem lp_X7_toldFrom_22_k {k_96 : Int64 → Int64 → Mm → Option (Mm)} {i_0 : Nat} {i_1 : Int32} {i_2 : Int32} {n : Nat} {v_4 : Int64} {v_6 : Int64} {v_8 : Int32} {M : Mm} {zr : Mm} (hf : lp_X7_toldFrom_22 k_96 i_0 i_1 i_2 n v_4 v_6 v_8 M = some zr) : ∃ (m_96 : Int64 → Int64 → Mm → Option (Mm)), m_96 = k_96 ∧ lp_X7_toldFrom_22 m_96 i_0 i_1 i_2 n v_4 v_6 v_8 M = some zr := ⟨k_96, rfl, hf⟩
def rm_X7_toldFrom : Room := { frames := 4, cells := 0, slots := 0, locals := 109 }
def f_X7_toldFrom (o : Nat) (a1 : Int32) (a2 : Int32) (a3 : Int32) (M : Mm) : Option (Mm) :=
    if a2 = a3 then
    lp_X7_toldFrom_22 (fun (l_15_4 : Int64) (l_15_6 : Int64) (M_15 : Mm) =>
    (op_pL M_15 7 o 21 l_15_4).bind fun M_16 =>
    (op_pL M_16 7 o 22 l_15_6).bind fun M_17 =>
    some M_17) o a1 a2 FU (1 : Int64) (1 : Int64) (0 : Int32) M
    else
    (op_is M o 7).bind fun _ =>
    (f_X7_toldChance o a1 a2 a3 M).bind fun z_30 =>
    some z_30
set_option maxHeartbeats 4000000 in
set_option maxRecDepth 100000 in
theorem c_X7_toldFrom (l : Launch) (D : va_G) (cA : Nat → ClassId) (ad : Nat → Nat) (o : Nat) (a1 : Int32) (a2 : Int32) (a3 : Int32) (M : Mm) (zr : Mm) (hf : f_X7_toldFrom o a1 a2 a3 M = some zr) : KV l yX7_toldFrom cX7_toldFrom 13 none rm_X7_toldFrom D cA ad [.ref (ad o), .int a1, .int a2, .int a3] M zr := by
  refine KV_of (by decide) (Nat.le_of_ble_eq_true rfl) ?_
  intro p e s m args below meth c ls Q A H locs hZ hE hl hret
  have hx := hZ.1
  have hb := hZ.2.1
  have hown := hZ.2.2.2.1
  have hts := hZ.2.2.2.2.1
  have hl : lv_has ls 13 [(0, .ref (ad o)), (1, .int a1), (2, .int a2), (3, .int a3)] := hl
  unfold f_X7_toldFrom at hf
  refine lv_iload_n hx hb dX7_toldFrom_0 rfl (lv_at hl 2 rfl) ?_
  refine lv_iload_n hx hb dX7_toldFrom_1 rfl (lv_at hl 3 rfl) ?_
  refine lv_icmp_eq (tgt := 13) hx hb dX7_toldFrom_2 (by decide) (fun h_1 => ?_) (fun h_1 => ?_)
  · have hf := it_y h_1 hf
    refine lv_lconst (v := 1) hx hb dX7_toldFrom_13 (by decide) ?_
    refine lv_lstore (lv' := [(4, .long (1 : Int64)), (0, .ref (ad o)), (1, .int a1), (2, .int a2), (3, .int a3)]) hx hb dX7_toldFrom_14 hl (by decide) rfl (fun ls hl => ?_)
    refine lv_lconst (v := 1) hx hb dX7_toldFrom_16 (by decide) ?_
    refine lv_lstore (lv' := [(6, .long (1 : Int64)), (4, .long (1 : Int64)), (0, .ref (ad o)), (1, .int a1), (2, .int a2), (3, .int a3)]) hx hb dX7_toldFrom_17 hl (by decide) rfl (fun ls hl => ?_)
    refine lv_iconst (v := 0) hx hb dX7_toldFrom_19 (by decide) ?_
    refine lv_istore (lv' := [(8, .int (0 : Int32)), (6, .long (1 : Int64)), (4, .long (1 : Int64)), (0, .ref (ad o)), (1, .int a1), (2, .int a2), (3, .int a3)]) hx hb dX7_toldFrom_20 hl (by decide) rfl (fun ls hl => ?_)
    obtain ⟨k_96_15, ek_96_15, hf⟩ := lp_X7_toldFrom_22_k hf
    have o_96_15 : ∀ (l_15_4 : Int64) (l_15_6 : Int64) (M_15 : Mm) (H : Heap) (locs : List Loc) (ls : Array Slot), k_96_15 l_15_4 l_15_6 M_15 = some zr → En D cA ad s A M_15 H locs → lv_has ls 13 [(0, .ref (ad o)), (4, .long l_15_4), (6, .long l_15_6)] → W p l e rm_X7_toldFrom s m args below meth c H locs 0 0 Q (F0 m 96 ls []) := by
      intro l_15_4 l_15_6 M_15 H locs ls hf hE hl
      rw [ek_96_15] at hf
      refine lv_aload_n hx hb dX7_toldFrom_96 rfl (lv_at hl 0 rfl) ?_
      refine lv_lload hx hb dX7_toldFrom_97 (lv_at hl 1 rfl) ?_
      obtain ⟨M_16, g_16, hf⟩ := b_some hf
      refine xx_pL hZ hE k_X7 21 (by decide) rfl rfl rfl tw_402 g_16 dX7_toldFrom_99 (fun H locs hE => ?_)
      refine lv_aload_n hx hb dX7_toldFrom_102 rfl (lv_at hl 0 rfl) ?_
      refine lv_lload hx hb dX7_toldFrom_103 (lv_at hl 2 rfl) ?_
      obtain ⟨M_17, g_17, hf⟩ := b_some hf
      refine xx_pL hZ hE k_X7 22 (by decide) rfl rfl rfl tw_403 g_17 dX7_toldFrom_105 (fun H locs hE => ?_)
      exact hret _ _ _ _ _ (Option.some.inj hf) dX7_toldFrom_108 hE
    have L_14 : ∀ (n_22 : Nat) (w_14_4 : Int64) (w_14_6 : Int64) (w_14_8 : Int32) (M_14 : Mm) (H : Heap) (locs : List Loc) (ls : Array Slot), lp_X7_toldFrom_22 k_96_15 o a1 a2 n_22 w_14_4 w_14_6 w_14_8 M_14 = some zr → En D cA ad s A M_14 H locs → lv_has ls 13 [(0, .ref (ad o)), (1, .int a1), (2, .int a2), (4, .long w_14_4), (6, .long w_14_6), (8, .int w_14_8)] → W p l e rm_X7_toldFrom s m args below meth c H locs 0 0 Q (F0 m 22 ls []) := by
      intro n_22
      induction n_22 with
      | zero =>
        intro w_14_4 w_14_6 w_14_8 M_14 H locs ls hf
        cases (show (none : Option (Mm)) = some zr from hf)
      | succ n_22 ih_22 =>
        intro w_14_4 w_14_6 w_14_8 M_14 H locs ls hf hE hl
        have hf := lp_X7_toldFrom_22_s _ _ _ _ hf
        refine lv_iload hx hb dX7_toldFrom_22 (lv_at hl 5 rfl) ?_
        refine lv_aload_n hx hb dX7_toldFrom_24 rfl (lv_at hl 0 rfl) ?_
        obtain ⟨x_18, g_18, hf⟩ := b_some hf
        refine xx_gI hZ hE k_X7 2 (by decide) rfl tw_363 g_18 dX7_toldFrom_25 ?_
        refine lv_icmp_ge (tgt := 96) hx hb dX7_toldFrom_28 (by decide) (fun h_19 => ?_) (fun h_19 => ?_)
        · have hf := it_y h_19 hf
          exact o_96_15 _ _ _ _ _ _ hf hE (lv_sub hl [0, 3, 4] rfl)
        · have hf := it_n h_19 hf
          refine lv_iload hx hb dX7_toldFrom_31 (lv_at hl 5 rfl) ?_
          refine lv_iload_n hx hb dX7_toldFrom_33 rfl (lv_at hl 2 rfl) ?_
          obtain ⟨j_20, ej_20, hf⟩ := jn_e hf
          have q_20 : ∀ (l_20_4 : Int64) (l_20_6 : Int64) (M_20 : Mm) (H : Heap) (locs : List Loc) (ls : Array Slot), j_20 l_20_4 l_20_6 M_20 = some zr → En D cA ad s A M_20 H locs → lv_has ls 13 [(0, .ref (ad o)), (1, .int a1), (2, .int a2), (4, .long l_20_4), (6, .long l_20_6), (8, .int w_14_8)] → W p l e rm_X7_toldFrom s m args below meth c H locs 0 0 Q (F0 m 90 ls []) := by
            intro l_20_4 l_20_6 M_20 H locs ls hf hE hl
            rw [ej_20] at hf
            refine lv_iinc (v := (w_14_8 + 1)) (lv' := [(8, .int (w_14_8 + 1)), (0, .ref (ad o)), (1, .int a1), (2, .int a2), (4, .long l_20_4), (6, .long l_20_6)]) hx hb dX7_toldFrom_90 hl (k := 5) rfl rfl (by decide) rfl (fun ls hl => ?_)
            refine lv_goto (tgt := 22) hx hb dX7_toldFrom_93 (by decide) ?_
            exact ih_22 _ _ _ _ _ _ _ hf hE (lv_sub hl [1, 2, 3, 4, 5, 0] rfl)
          refine lv_icmp_eq (tgt := 90) hx hb dX7_toldFrom_34 (by decide) (fun h_21 => ?_) (fun h_21 => ?_)
          · have hf := it_y h_21 hf
            exact q_20 _ _ _ _ _ _ hf hE (lv_sub hl [0, 1, 2, 3, 4, 5] rfl)
          · have hf := it_n h_21 hf
            refine lv_aload_n hx hb dX7_toldFrom_37 rfl (lv_at hl 0 rfl) ?_
            refine lv_iload_n hx hb dX7_toldFrom_38 rfl (lv_at hl 1 rfl) ?_
            refine lv_iload_n hx hb dX7_toldFrom_39 rfl (lv_at hl 2 rfl) ?_
            refine lv_iload hx hb dX7_toldFrom_40 (lv_at hl 5 rfl) ?_
            obtain ⟨_, i_22, hf⟩ := b_some hf
            obtain ⟨z_22, c_22, hf⟩ := b_some hf
            refine xx_cVv hZ hE (As := [.int a1, .int a2, .int w_14_8]) (rest := []) k_X7 (is_m i_22) tw_425 tw_426 (c_X7_toldChance l D cA ad o a1 a2 w_14_8 M_14 _ c_22) cw_X7_toldChance tw_424 ⟨rfl, rfl⟩ ⟨Nat.le_of_ble_eq_true rfl, Nat.le_of_ble_eq_true rfl⟩ rfl hl.1 rfl (Nat.le_of_ble_eq_true rfl) ⟨Nat.le_of_ble_eq_true rfl, Nat.le_of_ble_eq_true rfl⟩ dX7_toldFrom_42 (fun H locs hE => ?_)
            refine lv_aload_n hx hb dX7_toldFrom_45 rfl (lv_at hl 0 rfl) ?_
            obtain ⟨x_23, g_23, hf⟩ := b_some hf
            refine xx_gL hZ hE k_X7 21 (by decide) rfl tw_402 g_23 dX7_toldFrom_46 ?_
            refine lv_lstore (lv' := [(9, .long x_23), (0, .ref (ad o)), (1, .int a1), (2, .int a2), (4, .long w_14_4), (6, .long w_14_6), (8, .int w_14_8)]) hx hb dX7_toldFrom_49 hl (by decide) rfl (fun ls hl => ?_)
            refine lv_aload_n hx hb dX7_toldFrom_51 rfl (lv_at hl 1 rfl) ?_
            obtain ⟨x_24, g_24, hf⟩ := b_some hf
            refine xx_gL hZ hE k_X7 22 (by decide) rfl tw_403 g_24 dX7_toldFrom_52 ?_
            refine lv_lstore (lv' := [(11, .long x_24), (9, .long x_23), (0, .ref (ad o)), (1, .int a1), (2, .int a2), (4, .long w_14_4), (6, .long w_14_6), (8, .int w_14_8)]) hx hb dX7_toldFrom_55 hl (by decide) rfl (fun ls hl => ?_)
            refine lv_aload_n hx hb dX7_toldFrom_57 rfl (lv_at hl 2 rfl) ?_
            refine lv_lload hx hb dX7_toldFrom_58 (lv_at hl 5 rfl) ?_
            obtain ⟨M_25, g_25, hf⟩ := b_some hf
            refine xx_pL hZ hE k_X7 21 (by decide) rfl rfl rfl tw_402 g_25 dX7_toldFrom_60 (fun H locs hE => ?_)
            refine lv_aload_n hx hb dX7_toldFrom_63 rfl (lv_at hl 2 rfl) ?_
            refine lv_lload hx hb dX7_toldFrom_64 (lv_at hl 6 rfl) ?_
            obtain ⟨M_26, g_26, hf⟩ := b_some hf
            refine xx_pL hZ hE k_X7 22 (by decide) rfl rfl rfl tw_403 g_26 dX7_toldFrom_66 (fun H locs hE => ?_)
            refine lv_aload_n hx hb dX7_toldFrom_69 rfl (lv_at hl 2 rfl) ?_
            refine lv_lload hx hb dX7_toldFrom_70 (lv_at hl 1 rfl) ?_
            refine lv_lload hx hb dX7_toldFrom_72 (lv_at hl 0 rfl) ?_
            refine lv_iconst (v := 1) hx hb dX7_toldFrom_74 (by decide) ?_
            obtain ⟨_, i_27, hf⟩ := b_some hf
            obtain ⟨z_27, c_27, hf⟩ := b_some hf
            refine xx_cVv hZ hE (As := [.long x_23, .long x_24, .int (1 : Int32)]) (rest := []) k_X7 (is_m i_27) tw_428 tw_429 (c_X7_and l D cA ad o x_23 x_24 (1 : Int32) M_26 _ c_27) cw_X7_and tw_427 ⟨rfl, rfl⟩ ⟨Nat.le_of_ble_eq_true rfl, Nat.le_of_ble_eq_true rfl⟩ rfl hl.1 rfl (Nat.le_of_ble_eq_true rfl) ⟨Nat.le_of_ble_eq_true rfl, Nat.le_of_ble_eq_true rfl⟩ dX7_toldFrom_75 (fun H locs hE => ?_)
            refine lv_aload_n hx hb dX7_toldFrom_78 rfl (lv_at hl 2 rfl) ?_
            obtain ⟨x_28, g_28, hf⟩ := b_some hf
            refine xx_gL hZ hE k_X7 21 (by decide) rfl tw_402 g_28 dX7_toldFrom_79 ?_
            refine lv_lstore (lv' := [(4, .long x_28), (11, .long x_24), (9, .long x_23), (0, .ref (ad o)), (1, .int a1), (2, .int a2), (6, .long w_14_6), (8, .int w_14_8)]) hx hb dX7_toldFrom_82 hl (by decide) rfl (fun ls hl => ?_)
            refine lv_aload_n hx hb dX7_toldFrom_84 rfl (lv_at hl 3 rfl) ?_
            obtain ⟨x_29, g_29, hf⟩ := b_some hf
            refine xx_gL hZ hE k_X7 22 (by decide) rfl tw_403 g_29 dX7_toldFrom_85 ?_
            refine lv_lstore (lv' := [(6, .long x_29), (4, .long x_28), (11, .long x_24), (9, .long x_23), (0, .ref (ad o)), (1, .int a1), (2, .int a2), (8, .int w_14_8)]) hx hb dX7_toldFrom_88 hl (by decide) rfl (fun ls hl => ?_)
            exact q_20 _ _ _ _ _ _ hf hE (lv_sub hl [4, 5, 6, 1, 0, 7] rfl)
    exact L_14 _ _ _ _ _ _ _ _ hf hE (lv_sub hl [3, 4, 5, 2, 1, 0] rfl)
  · have hf := it_n h_1 hf
    refine lv_aload_n hx hb dX7_toldFrom_5 rfl (lv_at hl 0 rfl) ?_
    refine lv_iload_n hx hb dX7_toldFrom_6 rfl (lv_at hl 1 rfl) ?_
    refine lv_iload_n hx hb dX7_toldFrom_7 rfl (lv_at hl 2 rfl) ?_
    refine lv_iload_n hx hb dX7_toldFrom_8 rfl (lv_at hl 3 rfl) ?_
    obtain ⟨_, i_30, hf⟩ := b_some hf
    obtain ⟨z_30, c_30, hf⟩ := b_some hf
    refine xx_cVv hZ hE (As := [.int a1, .int a2, .int a3]) (rest := []) k_X7 (is_m i_30) tw_425 tw_426 (c_X7_toldChance l D cA ad o a1 a2 a3 M _ c_30) cw_X7_toldChance tw_424 ⟨rfl, rfl⟩ ⟨Nat.le_of_ble_eq_true rfl, Nat.le_of_ble_eq_true rfl⟩ rfl hl.1 rfl (Nat.le_of_ble_eq_true rfl) ⟨Nat.le_of_ble_eq_true rfl, Nat.le_of_ble_eq_true rfl⟩ dX7_toldFrom_9 (fun H locs hE => ?_)
    exact hret _ _ _ _ _ (Option.some.inj hf) dX7_toldFrom_12 hE
