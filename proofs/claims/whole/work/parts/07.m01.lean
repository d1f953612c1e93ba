def rm_X2_toldOf : Room := { frames := 0, cells := 0, slots := 0, locals := 0 }
def f_X2_toldOf (o : Nat) (a1 : Int32) (a2 : Int32) (M : Mm) : Option (Int32) :=
    (op_gR M 2 o 6).bind fun x_1 =>
    (op_aI M x_1 ((a1 * (16 : Int32)) + a2)).bind fun x_2 =>
    some x_2
set_option maxHeartbeats 4000000 in
set_option maxRecDepth 100000 in
theorem c_X2_toldOf (l : Launch) (D : va_G) (cA : Nat → ClassId) (ad : Nat → Nat) (o : Nat) (a1 : Int32) (a2 : Int32) (M : Mm) (zr : Int32) (hf : f_X2_toldOf o a1 a2 M = some zr) : KI l yX2_toldOf cX2_toldOf 3 (some .int) rm_X2_toldOf D cA ad [.ref (ad o), .int a1, .int a2] M zr M := by
  refine KI_of (by decide) (Nat.le_of_ble_eq_true rfl) ?_
  intro p e s m args below meth c ls Q A H locs hZ hE hl hret
  have hx := hZ.1
  have hb := hZ.2.1
  have hown := hZ.2.2.2.1
  have hts := hZ.2.2.2.2.1
  have hl : lv_has ls 3 [(0, .ref (ad o)), (1, .int a1), (2, .int a2)] := hl
  unfold f_X2_toldOf at hf
  refine lv_aload_n hx hb dX2_toldOf_0 rfl (lv_at hl 0 rfl) ?_
  obtain ⟨x_1, g_1, hf⟩ := b_some hf
  refine xx_gR hZ hE k_X2 6 (by decide) rfl tw_70 g_1 dX2_toldOf_1 ?_
  refine lv_iload_n hx hb dX2_toldOf_4 rfl (lv_at hl 1 rfl) ?_
  refine lv_bipush (v := 16) hx hb dX2_toldOf_5 (by decide) ?_
  refine lv_imul hx hb dX2_toldOf_7 ?_
  refine lv_iload_n hx hb dX2_toldOf_8 rfl (lv_at hl 2 rfl) ?_
  refine lv_iadd hx hb dX2_toldOf_9 ?_
  obtain ⟨x_2, g_2, hf⟩ := b_some hf
  refine xx_aI hZ hE g_2 dX2_toldOf_10 ?_
  exact hret _ _ _ _ _ _ (Option.some.inj hf) rfl rfl dX2_toldOf_11 hE
def rm_X2_tell : Room := { frames := 1, cells := 0, slots := 0, locals := 22 }
def f_X2_tell (o : Nat) (a1 : Int32) (a2 : Int32) (a3 : Int32) (M : Mm) : Option (Int32 × Mm) :=
    (op_is M o 2).bind fun _ =>
    (f_X2_toldOf o a1 a2 M).bind fun z_1 =>
    (op_gR M 2 o 6).bind fun x_2 =>
    (op_sI M x_2 ((a1 * (16 : Int32)) + a2) a3).bind fun M_3 =>
    (op_gR M_3 2 o 7).bind fun x_4 =>
    (op_aI M_3 x_4 a1).bind fun x_5 =>
    (op_sI M_3 x_4 a1 (x_5 + (a3 - z_1))).bind fun M_6 =>
    some (z_1, M_6)
set_option maxHeartbeats 4000000 in
set_option maxRecDepth 100000 in
theorem c_X2_tell (l : Launch) (D : va_G) (cA : Nat → ClassId) (ad : Nat → Nat) (o : Nat) (a1 : Int32) (a2 : Int32) (a3 : Int32) (M : Mm) (zr : Int32 × Mm) (hf : f_X2_tell o a1 a2 a3 M = some zr) : KI l yX2_tell cX2_tell 5 (some .int) rm_X2_tell D cA ad [.ref (ad o), .int a1, .int a2, .int a3] M zr.1 zr.2 := by
  refine KI_of (by decide) (Nat.le_of_ble_eq_true rfl) ?_
  intro p e s m args below meth c ls Q A H locs hZ hE hl hret
  have hx := hZ.1
  have hb := hZ.2.1
  have hown := hZ.2.2.2.1
  have hts := hZ.2.2.2.2.1
  have hl : lv_has ls 5 [(0, .ref (ad o)), (1, .int a1), (2, .int a2), (3, .int a3)] := hl
  unfold f_X2_tell at hf
  refine lv_aload_n hx hb dX2_tell_0 rfl (lv_at hl 0 rfl) ?_
  refine lv_iload_n hx hb dX2_tell_1 rfl (lv_at hl 1 rfl) ?_
  refine lv_iload_n hx hb dX2_tell_2 rfl (lv_at hl 2 rfl) ?_
  obtain ⟨_, i_1, hf⟩ := b_some hf
  obtain ⟨z_1, c_1, hf⟩ := b_some hf
  refine xx_cVi hZ hE (As := [.int a1, .int a2]) (rest := []) k_X2 (is_m i_1) tw_90 tw_91 (c_X2_toldOf l D cA ad o a1 a2 M _ c_1) cw_X2_toldOf tw_89 ⟨rfl, rfl⟩ ⟨Nat.le_of_ble_eq_true rfl, Nat.le_of_ble_eq_true rfl⟩ rfl hl.1 rfl (Nat.le_of_ble_eq_true rfl) ⟨Nat.le_of_ble_eq_true rfl, Nat.le_of_ble_eq_true rfl⟩ dX2_tell_3 (fun H locs hE => ?_)
  refine lv_istore (lv' := [(4, .int z_1), (0, .ref (ad o)), (1, .int a1), (2, .int a2), (3, .int a3)]) hx hb dX2_tell_6 hl (by decide) rfl (fun ls hl => ?_)
  refine lv_aload_n hx hb dX2_tell_8 rfl (lv_at hl 1 rfl) ?_
  obtain ⟨x_2, g_2, hf⟩ := b_some hf
  refine xx_gR hZ hE k_X2 6 (by decide) rfl tw_70 g_2 dX2_tell_9 ?_
  refine lv_iload_n hx hb dX2_tell_12 rfl (lv_at hl 2 rfl) ?_
  refine lv_bipush (v := 16) hx hb dX2_tell_13 (by decide) ?_
  refine lv_imul hx hb dX2_tell_15 ?_
  refine lv_iload_n hx hb dX2_tell_16 rfl (lv_at hl 3 rfl) ?_
  refine lv_iadd hx hb dX2_tell_17 ?_
  refine lv_iload_n hx hb dX2_tell_18 rfl (lv_at hl 4 rfl) ?_
  obtain ⟨M_3, g_3, hf⟩ := b_some hf
  refine xx_sI hZ hE g_3 dX2_tell_19 (fun H locs hE => ?_)
  refine lv_aload_n hx hb dX2_tell_20 rfl (lv_at hl 1 rfl) ?_
  obtain ⟨x_4, g_4, hf⟩ := b_some hf
  refine xx_gR hZ hE k_X2 7 (by decide) rfl tw_72 g_4 dX2_tell_21 ?_
  refine lv_iload_n hx hb dX2_tell_24 rfl (lv_at hl 2 rfl) ?_
  refine lv_dup2_11 hx hb dX2_tell_25 rfl rfl ?_
  obtain ⟨x_5, g_5, hf⟩ := b_some hf
  refine xx_aI hZ hE g_5 dX2_tell_26 ?_
  refine lv_iload_n hx hb dX2_tell_27 rfl (lv_at hl 4 rfl) ?_
  refine lv_iload hx hb dX2_tell_28 (lv_at hl 0 rfl) ?_
  refine lv_isub hx hb dX2_tell_30 ?_
  refine lv_iadd hx hb dX2_tell_31 ?_
  obtain ⟨M_6, g_6, hf⟩ := b_some hf
  refine xx_sI hZ hE g_6 dX2_tell_32 (fun H locs hE => ?_)
  refine lv_iload hx hb dX2_tell_33 (lv_at hl 0 rfl) ?_
  exact hret _ _ _ _ _ _ (pr_1 hf) (pr_2 hf) rfl dX2_tell_35 hE
def rm_X6_chance : Room := { frames := 2, cells := 0, slots := 0, locals := 46 }
def f_X6_chance (o : Nat) (a1 : Int32) (a2 : Int32) (a3 : Int32) (a4 : Int32) (M : Mm) : Option (Int32 × Mm) :=
    (op_is M o 6).bind fun _ =>
    (f_X6_hasModel o M).bind fun z_1 =>
    if z_1 = 0 then
    some ((-2 : Int32), M)
    else
    (op_is M o 6).bind fun _ =>
    (f_X6_isMoveOf o a1 (3 : Int32) M).bind fun z_3 =>
    if z_3 = 0 then
    some ((-1 : Int32), M)
    else
    (op_gR M 6 o 0).bind fun x_5 =>
    (op_is M x_5 3).bind fun _ =>
    (f_X3_isState x_5 a2 M).bind fun z_6 =>
    if z_6 = 0 then
    some ((-1 : Int32), M)
    else
    (op_gR M 6 o 0).bind fun x_8 =>
    (op_is M x_8 3).bind fun _ =>
    (f_X3_isState x_8 a3 M).bind fun z_9 =>
    if z_9 = 0 then
    some ((-1 : Int32), M)
    else
    if a4 < 0 then
    some ((-1 : Int32), M)
    else
    if a4 ≤ (100 : Int32) then
    (op_gR M 6 o 2).bind fun x_13 =>
    (op_is M x_13 0).bind fun _ =>
    (f_X0_forget x_13 M).bind fun z_14 =>
    (op_gR z_14 6 o 1).bind fun x_15 =>
    (op_aR z_14 x_15 a1).bind fun x_16 =>
    (op_is z_14 x_16 2).bind fun _ =>
    (f_X2_tell x_16 a2 a3 a4 z_14).bind fun z_17 =>
    some (z_17.1, z_17.2)
    else
    some ((-1 : Int32), M)
set_option maxHeartbeats 4000000 in
set_option maxRecDepth 100000 in
theorem c_X6_chance (l : Launch) (D : va_G) (cA : Nat → ClassId) (ad : Nat → Nat) (o : Nat) (a1 : Int32) (a2 : Int32) (a3 : Int32) (a4 : Int32) (M : Mm) (zr : Int32 × Mm) (hf : f_X6_chance o a1 a2 a3 a4 M = some zr) : KI l yX6_chance cX6_chance 5 (some .int) rm_X6_chance D cA ad [.ref (ad o), .int a1, .int a2, .int a3, .int a4] M zr.1 zr.2 := by
  refine KI_of (by decide) (Nat.le_of_ble_eq_true rfl) ?_
  intro p e s m args below meth c ls Q A H locs hZ hE hl hret
  have hx := hZ.1
  have hb := hZ.2.1
  have hown := hZ.2.2.2.1
  have hts := hZ.2.2.2.2.1
  have hl : lv_has ls 5 [(0, .ref (ad o)), (1, .int a1), (2, .int a2), (3, .int a3), (4, .int a4)] := hl
  unfold f_X6_chance at hf
  refine lv_aload_n hx hb dX6_chance_0 rfl (lv_at hl 0 rfl) ?_
  obtain ⟨_, i_1, hf⟩ := b_some hf
  obtain ⟨z_1, c_1, hf⟩ := b_some hf
  refine xx_cVi hZ hE (As := []) (rest := []) k_X6 (is_m i_1) tw_38 tw_39 (c_X6_hasModel l D cA ad o M _ c_1) cw_X6_hasModel tw_36 ⟨rfl, rfl⟩ ⟨Nat.le_of_ble_eq_true rfl, Nat.le_of_ble_eq_true rfl⟩ rfl hl.1 rfl (Nat.le_of_ble_eq_true rfl) ⟨Nat.le_of_ble_eq_true rfl, Nat.le_of_ble_eq_true rfl⟩ dX6_chance_1 (fun H locs hE => ?_)
  refine lv_if_ne (tgt := 10) hx hb dX6_chance_4 (by decide) (fun h_2 => ?_) (fun h_2 => ?_)
  · have hf := it_n h_2 hf
    refine lv_aload_n hx hb dX6_chance_10 rfl (lv_at hl 0 rfl) ?_
    refine lv_iload_n hx hb dX6_chance_11 rfl (lv_at hl 1 rfl) ?_
    refine lv_iconst (v := 3) hx hb dX6_chance_12 (by decide) ?_
    obtain ⟨_, i_3, hf⟩ := b_some hf
    obtain ⟨z_3, c_3, hf⟩ := b_some hf
    refine xx_cVi hZ hE (As := [.int a1, .int (3 : Int32)]) (rest := []) k_X6 (is_m i_3) tw_85 tw_86 (c_X6_isMoveOf l D cA ad o a1 (3 : Int32) M _ c_3) cw_X6_isMoveOf tw_84 ⟨rfl, rfl⟩ ⟨Nat.le_of_ble_eq_true rfl, Nat.le_of_ble_eq_true rfl⟩ rfl hl.1 rfl (Nat.le_of_ble_eq_true rfl) ⟨Nat.le_of_ble_eq_true rfl, Nat.le_of_ble_eq_true rfl⟩ dX6_chance_13 (fun H locs hE => ?_)
    refine lv_if_eq (tgt := 41) hx hb dX6_chance_16 (by decide) (fun h_4 => ?_) (fun h_4 => ?_)
    · have hf := it_y h_4 hf
      refine lv_iconst (v := -1) hx hb dX6_chance_41 (by decide) ?_
      exact hret _ _ _ _ _ _ (pr_1 hf) (pr_2 hf) rfl dX6_chance_42 hE
    · have hf := it_n h_4 hf
      refine lv_aload_n hx hb dX6_chance_19 rfl (lv_at hl 0 rfl) ?_
      obtain ⟨x_5, g_5, hf⟩ := b_some hf
      refine xx_gR hZ hE k_X6 0 (by decide) rfl tw_20 g_5 dX6_chance_20 ?_
      refine lv_iload_n hx hb dX6_chance_23 rfl (lv_at hl 2 rfl) ?_
      obtain ⟨_, i_6, hf⟩ := b_some hf
      obtain ⟨z_6, c_6, hf⟩ := b_some hf
      refine xx_cVNi hZ hE (As := [.int a2]) (rest := []) k_X3 (is_m i_6) tw_41 tw_42 (c_X3_isState l D cA ad x_5 a2 M _ c_6) cw_X3_isState tw_40 ⟨rfl, rfl⟩ ⟨Nat.le_of_ble_eq_true rfl, Nat.le_of_ble_eq_true rfl⟩ rfl hl.1 rfl (Nat.le_of_ble_eq_true rfl) ⟨Nat.le_of_ble_eq_true rfl, Nat.le_of_ble_eq_true rfl⟩ dX6_chance_24 (fun H locs hE => ?_)
      refine lv_if_eq (tgt := 41) hx hb dX6_chance_27 (by decide) (fun h_7 => ?_) (fun h_7 => ?_)
      · have hf := it_y h_7 hf
        refine lv_iconst (v := -1) hx hb dX6_chance_41 (by decide) ?_
        exact hret _ _ _ _ _ _ (pr_1 hf) (pr_2 hf) rfl dX6_chance_42 hE
      · have hf := it_n h_7 hf
        refine lv_aload_n hx hb dX6_chance_30 rfl (lv_at hl 0 rfl) ?_
        obtain ⟨x_8, g_8, hf⟩ := b_some hf
        refine xx_gR hZ hE k_X6 0 (by decide) rfl tw_20 g_8 dX6_chance_31 ?_
        refine lv_iload_n hx hb dX6_chance_34 rfl (lv_at hl 3 rfl) ?_
        obtain ⟨_, i_9, hf⟩ := b_some hf
        obtain ⟨z_9, c_9, hf⟩ := b_some hf
        refine xx_cVNi hZ hE (As := [.int a3]) (rest := []) k_X3 (is_m i_9) tw_41 tw_42 (c_X3_isState l D cA ad x_8 a3 M _ c_9) cw_X3_isState tw_40 ⟨rfl, rfl⟩ ⟨Nat.le_of_ble_eq_true rfl, Nat.le_of_ble_eq_true rfl⟩ rfl hl.1 rfl (Nat.le_of_ble_eq_true rfl) ⟨Nat.le_of_ble_eq_true rfl, Nat.le_of_ble_eq_true rfl⟩ dX6_chance_35 (fun H locs hE => ?_)
        refine lv_if_ne (tgt := 43) hx hb dX6_chance_38 (by decide) (fun h_10 => ?_) (fun h_10 => ?_)
        · have hf := it_n h_10 hf
          refine lv_iload hx hb dX6_chance_43 (lv_at hl 4 rfl) ?_
          refine lv_if_lt (tgt := 55) hx hb dX6_chance_45 (by decide) (fun h_11 => ?_) (fun h_11 => ?_)
          · have hf := it_y h_11 hf
            refine lv_iconst (v := -1) hx hb dX6_chance_55 (by decide) ?_
            exact hret _ _ _ _ _ _ (pr_1 hf) (pr_2 hf) rfl dX6_chance_56 hE
          · have hf := it_n h_11 hf
            refine lv_iload hx hb dX6_chance_48 (lv_at hl 4 rfl) ?_
            refine lv_bipush (v := 100) hx hb dX6_chance_50 (by decide) ?_
            refine lv_icmp_le (tgt := 57) hx hb dX6_chance_52 (by decide) (fun h_12 => ?_) (fun h_12 => ?_)
            · have hf := it_y h_12 hf
              refine lv_aload_n hx hb dX6_chance_57 rfl (lv_at hl 0 rfl) ?_
              obtain ⟨x_13, g_13, hf⟩ := b_some hf
              refine xx_gR hZ hE k_X6 2 (by decide) rfl tw_25 g_13 dX6_chance_58 ?_
              obtain ⟨_, i_14, hf⟩ := b_some hf
              obtain ⟨z_14, c_14, hf⟩ := b_some hf
              refine xx_cVNv hZ hE (As := []) (rest := []) k_X0 (is_m i_14) tw_28 tw_29 (c_X0_forget l D cA ad x_13 M _ c_14) cw_X0_forget tw_26 ⟨rfl, rfl⟩ ⟨Nat.le_of_ble_eq_true rfl, Nat.le_of_ble_eq_true rfl⟩ rfl hl.1 rfl (Nat.le_of_ble_eq_true rfl) ⟨Nat.le_of_ble_eq_true rfl, Nat.le_of_ble_eq_true rfl⟩ dX6_chance_61 (fun H locs hE => ?_)
              refine lv_aload_n hx hb dX6_chance_64 rfl (lv_at hl 0 rfl) ?_
              obtain ⟨x_15, g_15, hf⟩ := b_some hf
              refine xx_gR hZ hE k_X6 1 (by decide) rfl tw_61 g_15 dX6_chance_65 ?_
              refine lv_iload_n hx hb dX6_chance_68 rfl (lv_at hl 1 rfl) ?_
              obtain ⟨x_16, g_16, hf⟩ := b_some hf
              refine xx_aR hZ hE g_16 dX6_chance_69 ?_
              refine lv_iload_n hx hb dX6_chance_70 rfl (lv_at hl 2 rfl) ?_
              refine lv_iload_n hx hb dX6_chance_71 rfl (lv_at hl 3 rfl) ?_
              refine lv_iload hx hb dX6_chance_72 (lv_at hl 4 rfl) ?_
              obtain ⟨_, i_17, hf⟩ := b_some hf
              obtain ⟨z_17, c_17, hf⟩ := b_some hf
              refine xx_cVNi hZ hE (As := [.int a2, .int a3, .int a4]) (rest := []) k_X2 (is_m i_17) tw_93 tw_94 (c_X2_tell l D cA ad x_16 a2 a3 a4 z_14 _ c_17) cw_X2_tell tw_92 ⟨rfl, rfl⟩ ⟨Nat.le_of_ble_eq_true rfl, Nat.le_of_ble_eq_true rfl⟩ rfl hl.1 rfl (Nat.le_of_ble_eq_true rfl) ⟨Nat.le_of_ble_eq_true rfl, Nat.le_of_ble_eq_true rfl⟩ dX6_chance_74 (fun H locs hE => ?_)
              exact hret _ _ _ _ _ _ (pr_1 hf) (pr_2 hf) rfl dX6_chance_77 hE
            · have hf := it_n h_12 hf
              refine lv_iconst (v := -1) hx hb dX6_chance_55 (by decide) ?_
              exact hret _ _ _ _ _ _ (pr_1 hf) (pr_2 hf) rfl dX6_chance_56 hE
        · have hf := it_y h_10 hf
          refine lv_iconst (v := -1) hx hb dX6_chance_41 (by decide) ?_
          exact hret _ _ _ _ _ _ (pr_1 hf) (pr_2 hf) rfl dX6_chance_42 hE
  · have hf := it_y h_2 hf
    refine lv_bipush (v := -2) hx hb dX6_chance_7 (by decide) ?_
    exact hret _ _ _ _ _ _ (pr_1 hf) (pr_2 hf) rfl dX6_chance_9 hE
def lp_J7_fill_d0a16_6 (i_0 : Nat) (i_1 : Int64) (i_4 : Int32) : Nat → Int32 → Mm → Option (Mm)
  | 0, _, _ => none
  | n_6 + 1, v_3, M =>
    if i_4 ≤ v_3 then
    some M
    else
    (op_sL M i_0 v_3 i_1).bind fun M_3 =>
    lp_J7_fill_d0a16_6 i_0 i_1 i_4 n_6 (v_3 + 1) M_3
theorem lp_J7_fill_d0a16_6_s (i_0 : Nat) (i_1 : Int64) (i_4 : Int32) {n_6 : Nat} {v_3 : Int32} {M : Mm} {zr : Mm} (hf : lp_J7_fill_d0a16_6 i_0 i_1 i_4 (n_6 + 1) v_3 M = some zr) : (
    if i_4 ≤ v_3 then
    some M
    else
    (op_sL M i_0 v_3 i_1).bind fun M_3 =>
    lp_J7_fill_d0a16_6 i_0 i_1 i_4 n_6 (v_3 + 1) M_3) = some zr := hf
def rm_J7_fill_d0a16 : Room := { frames := 0, cells := 0, slots := 0, locals := 0 }
def f_J7_fill_d0a16 (a1 : Nat) (a2 : Int64) (M : Mm) : Option (Mm) :=
    (op_n M 101 a1).bind fun x_1 =>
    lp_J7_fill_d0a16_6  a1 a2 x_1 FU (0 : Int32) M
set_option maxHeartbeats 4000000 in
set_option maxRecDepth 100000 in
theorem c_J7_fill_d0a16 (l : Launch) (D : va_G) (cA : Nat → ClassId) (ad : Nat → Nat) (a1 : Nat) (a2 : Int64) (M : Mm) (zr : Mm) (hf : f_J7_fill_d0a16 a1 a2 M = some zr) : KV l yJ7_fill_d0a16 cJ7_fill_d0a16 5 none rm_J7_fill_d0a16 D cA ad [.ref (ad a1), .long a2] M zr := by
  refine KV_of (by decide) (Nat.le_of_ble_eq_true rfl) ?_
  intro p e s m args below meth c ls Q A H locs hZ hE hl hret
  have hx := hZ.1
  have hb := hZ.2.1
  have hown := hZ.2.2.2.1
  have hts := hZ.2.2.2.2.1
  have hl : lv_has ls 5 [(0, .ref (ad a1)), (1, .long a2)] := hl
  unfold f_J7_fill_d0a16 at hf
  refine lv_iconst (v := 0) hx hb dJ7_fill_d0a16_0 (by decide) ?_
  refine lv_istore_n (lv' := [(3, .int (0 : Int32)), (0, .ref (ad a1)), (1, .long a2)]) hx hb dJ7_fill_d0a16_1 rfl hl (by decide) rfl (fun ls hl => ?_)
  refine lv_aload_n hx hb dJ7_fill_d0a16_2 rfl (lv_at hl 1 rfl) ?_
  obtain ⟨x_1, g_1, hf⟩ := b_some hf
  refine xx_n hZ hE g_1 dJ7_fill_d0a16_3 ?_
  refine lv_istore (lv' := [(4, .int x_1), (3, .int (0 : Int32)), (0, .ref (ad a1)), (1, .long a2)]) hx hb dJ7_fill_d0a16_4 hl (by decide) rfl (fun ls hl => ?_)
  have L_4 : ∀ (n_6 : Nat) (w_4_3 : Int32) (M_4 : Mm) (H : Heap) (locs : List Loc) (ls : Array Slot), lp_J7_fill_d0a16_6 a1 a2 x_1 n_6 w_4_3 M_4 = some zr → En D cA ad s A M_4 H locs → lv_has ls 5 [(0, .ref (ad a1)), (1, .long a2), (3, .int w_4_3), (4, .int x_1)] → W p l e rm_J7_fill_d0a16 s m args below meth c H locs 0 0 Q (F0 m 6 ls []) := by
    intro n_6
    induction n_6 with
    | zero =>
      intro w_4_3 M_4 H locs ls hf
      cases (show (none : Option (Mm)) = some zr from hf)
    | succ n_6 ih_6 =>
      intro w_4_3 M_4 H locs ls hf hE hl
      have hf := lp_J7_fill_d0a16_6_s _ _ _ hf
      refine lv_iload_n hx hb dJ7_fill_d0a16_6 rfl (lv_at hl 2 rfl) ?_
      refine lv_iload hx hb dJ7_fill_d0a16_7 (lv_at hl 3 rfl) ?_
      refine lv_icmp_ge (tgt := 22) hx hb dJ7_fill_d0a16_9 (by decide) (fun h_5 => ?_) (fun h_5 => ?_)
      · have hf := it_y h_5 hf
        exact hret _ _ _ _ _ (Option.some.inj hf) dJ7_fill_d0a16_22 hE
      · have hf := it_n h_5 hf
        refine lv_aload_n hx hb dJ7_fill_d0a16_12 rfl (lv_at hl 0 rfl) ?_
        refine lv_iload_n hx hb dJ7_fill_d0a16_13 rfl (lv_at hl 2 rfl) ?_
        refine lv_lload_n hx hb dJ7_fill_d0a16_14 rfl (lv_at hl 1 rfl) ?_
        obtain ⟨M_6, g_6, hf⟩ := b_some hf
        refine xx_sL hZ hE g_6 dJ7_fill_d0a16_15 (fun H locs hE => ?_)
        refine lv_iinc (v := (w_4_3 + 1)) (lv' := [(3, .int (w_4_3 + 1)), (0, .ref (ad a1)), (1, .long a2), (4, .int x_1)]) hx hb dJ7_fill_d0a16_16 hl (k := 2) rfl rfl (by decide) rfl (fun ls hl => ?_)
        refine lv_goto (tgt := 6) hx hb dJ7_fill_d0a16_19 (by decide) ?_
        exact ih_6 _ _ _ _ _ hf hE (lv_sub hl [1, 2, 0, 3] rfl)
  exact L_4 _ _ _ _ _ _ hf hE (lv_sub hl [2, 3, 1, 0] rfl)
def rm_X2_freshen : Room := { frames := 1, cells := 0, slots := 0, locals := 24 }
def f_X2_freshen (o : Nat) (a1 : Int32) (M : Mm) : Option (Mm) :=
    (op_gI M 2 o 10).bind fun x_1 =>
    if x_1 = a1 then
    some M
    else
    (op_gR M 2 o 9).bind fun x_3 =>
    (f_J7_fill_d0a16 x_3 (0 : Int64) M).bind fun z_4 =>
    (op_pI z_4 2 o 10 a1).bind fun M_5 =>
    some M_5
set_option maxHeartbeats 4000000 in
set_option maxRecDepth 100000 in
theorem c_X2_freshen (l : Launch) (D : va_G) (cA : Nat → ClassId) (ad : Nat → Nat) (o : Nat) (a1 : Int32) (M : Mm) (zr : Mm) (hf : f_X2_freshen o a1 M = some zr) : KV l yX2_freshen cX2_freshen 2 none rm_X2_freshen D cA ad [.ref (ad o), .int a1] M zr := by
  refine KV_of (by decide) (Nat.le_of_ble_eq_true rfl) ?_
  intro p e s m args below meth c ls Q A H locs hZ hE hl hret
  have hx := hZ.1
  have hb := hZ.2.1
  have hown := hZ.2.2.2.1
  have hts := hZ.2.2.2.2.1
  have hl : lv_has ls 2 [(0, .ref (ad o)), (1, .int a1)] := hl
  unfold f_X2_freshen at hf
  refine lv_aload_n hx hb dX2_freshen_0 rfl (lv_at hl 0 rfl) ?_
  obtain ⟨x_1, g_1, hf⟩ := b_some hf
  refine xx_gI hZ hE k_X2 10 (by decide) rfl tw_95 g_1 dX2_freshen_1 ?_
  refine lv_iload_n hx hb dX2_freshen_4 rfl (lv_at hl 1 rfl) ?_
  refine lv_icmp_eq (tgt := 21) hx hb dX2_freshen_5 (by decide) (fun h_2 => ?_) (fun h_2 => ?_)
  · have hf := it_y h_2 hf
    exact hret _ _ _ _ _ (Option.some.inj hf) dX2_freshen_21 hE
  · have hf := it_n h_2 hf
    refine lv_aload_n hx hb dX2_freshen_8 rfl (lv_at hl 0 rfl) ?_
    obtain ⟨x_3, g_3, hf⟩ := b_some hf
    refine xx_gR hZ hE k_X2 9 (by decide) rfl tw_96 g_3 dX2_freshen_9 ?_
    refine lv_lconst (v := 0) hx hb dX2_freshen_12 (by decide) ?_
    obtain ⟨z_4, c_4, hf⟩ := b_some hf
    refine xx_cSv hZ hE (As := [.ref (ad x_3), .long (0 : Int64)]) (rest := []) tw_98 (c_J7_fill_d0a16 l D cA ad x_3 (0 : Int64) M _ c_4) cw_J7_fill_d0a16 tw_97 ⟨rfl, rfl⟩ ⟨Nat.le_of_ble_eq_true rfl, Nat.le_of_ble_eq_true rfl⟩ rfl hl.1 rfl (Nat.le_of_ble_eq_true rfl) ⟨Nat.le_of_ble_eq_true rfl, Nat.le_of_ble_eq_true rfl⟩ dX2_freshen_13 (fun H locs hE => ?_)
    refine lv_aload_n hx hb dX2_freshen_16 rfl (lv_at hl 0 rfl) ?_
    refine lv_iload_n hx hb dX2_freshen_17 rfl (lv_at hl 1 rfl) ?_
    obtain ⟨M_5, g_5, hf⟩ := b_some hf
    refine xx_pI hZ hE k_X2 10 (by decide) rfl rfl rfl tw_95 g_5 dX2_freshen_18 (fun H locs hE => ?_)
    exact hret _ _ _ _ _ (Option.some.inj hf) dX2_freshen_21 hE
def rm_X2_cell : Room := { frames := 0, cells := 0, slots := 0, locals := 0 }
def f_X2_cell (a1 : Int32) (a2 : Int32) : Option (Int32) :=
    some ((a1 * (16 : Int32)) + a2)
set_option maxHeartbeats 4000000 in
set_option maxRecDepth 100000 in
theorem c_X2_cell (l : Launch) (D : va_G) (cA : Nat → ClassId) (ad : Nat → Nat) (a1 : Int32) (a2 : Int32) (M : Mm) (zr : Int32) (hf : f_X2_cell a1 a2 = some zr) : KI l yX2_cell cX2_cell 2 (some .int) rm_X2_cell D cA ad [.int a1, .int a2] M zr M := by
  refine KI_of (by decide) (Nat.le_of_ble_eq_true rfl) ?_
  intro p e s m args below meth c ls Q A H locs hZ hE hl hret
  have hx := hZ.1
  have hb := hZ.2.1
  have hown := hZ.2.2.2.1
  have hts := hZ.2.2.2.2.1
  have hl : lv_has ls 2 [(0, .int a1), (1, .int a2)] := hl
  unfold f_X2_cell at hf
  refine lv_iload_n hx hb dX2_cell_0 rfl (lv_at hl 0 rfl) ?_
  refine lv_bipush (v := 16) hx hb dX2_cell_1 (by decide) ?_
  refine lv_imul hx hb dX2_cell_3 ?_
  refine lv_iload_n hx hb dX2_cell_4 rfl (lv_at hl 1 rfl) ?_
  refine lv_iadd hx hb dX2_cell_5 ?_
  exact hret _ _ _ _ _ _ (Option.some.inj hf) rfl rfl dX2_cell_6 hE
def rm_X2_knows : Room := { frames := 1, cells := 0, slots := 0, locals := 21 }
def f_X2_knows (o : Nat) (a1 : Int32) (a2 : Int32) (M : Mm) : Option (Int32) :=
    (op_gR M 2 o 9).bind fun x_1 =>
    (f_X2_cell a1 a2).bind fun z_2 =>
    (op_aL M x_1 z_2).bind fun x_3 =>
    if x_3 = (0 : Int64) then
    some (0 : Int32)
    else
    some (1 : Int32)
set_option maxHeartbeats 4000000 in
set_option maxRecDepth 100000 in
theorem c_X2_knows (l : Launch) (D : va_G) (cA : Nat → ClassId) (ad : Nat → Nat) (o : Nat) (a1 : Int32) (a2 : Int32) (M : Mm) (zr : Int32) (hf : f_X2_knows o a1 a2 M = some zr) : KI l yX2_knows cX2_knows 3 (some .boolean) rm_X2_knows D cA ad [.ref (ad o), .int a1, .int a2] M zr M := by
  refine KI_of (by decide) (Nat.le_of_ble_eq_true rfl) ?_
  intro p e s m args below meth c ls Q A H locs hZ hE hl hret
  have hx := hZ.1
  have hb := hZ.2.1
  have hown := hZ.2.2.2.1
  have hts := hZ.2.2.2.2.1
  have hl : lv_has ls 3 [(0, .ref (ad o)), (1, .int a1), (2, .int a2)] := hl
  unfold f_X2_knows at hf
  refine lv_aload_n hx hb dX2_knows_0 rfl (lv_at hl 0 rfl) ?_
  obtain ⟨x_1, g_1, hf⟩ := b_some hf
  refine xx_gR hZ hE k_X2 9 (by decide) rfl tw_96 g_1 dX2_knows_1 ?_
  refine lv_iload_n hx hb dX2_knows_4 rfl (lv_at hl 1 rfl) ?_
  refine lv_iload_n hx hb dX2_knows_5 rfl (lv_at hl 2 rfl) ?_
  obtain ⟨z_2, c_2, hf⟩ := b_some hf
  refine xx_cSi hZ hE (As := [.int a1, .int a2]) (rest := [.ref (ad x_1)]) tw_100 (c_X2_cell l D cA ad a1 a2 M _ c_2) cw_X2_cell tw_99 ⟨rfl, rfl⟩ ⟨Nat.le_of_ble_eq_true rfl, Nat.le_of_ble_eq_true rfl⟩ rfl hl.1 rfl (Nat.le_of_ble_eq_true rfl) ⟨Nat.le_of_ble_eq_true rfl, Nat.le_of_ble_eq_true rfl⟩ dX2_knows_6 (fun H locs hE => ?_)
  obtain ⟨x_3, g_3, hf⟩ := b_some hf
  refine xx_aL hZ hE g_3 dX2_knows_9 ?_
  refine lv_lconst (v := 0) hx hb dX2_knows_10 (by decide) ?_
  refine xx_leq (tgt := 19) hx hb dX2_knows_11 dX2_knows_12 (by decide) (fun h_4 => ?_) (fun h_4 => ?_)
  · have hf := it_y h_4 hf
    refine lv_iconst (v := 0) hx hb dX2_knows_19 (by decide) ?_
    exact hret _ _ _ _ _ _ (Option.some.inj hf) rfl rfl dX2_knows_20 hE
  · have hf := it_n h_4 hf
    refine lv_iconst (v := 1) hx hb dX2_knows_15 (by decide) ?_
    refine lv_goto (tgt := 20) hx hb dX2_knows_16 (by decide) ?_
    exact hret _ _ _ _ _ _ (Option.some.inj hf) rfl rfl dX2_knows_20 hE
def rm_X3_inLine : Room := { frames := 1, cells := 0, slots := 0, locals := 22 }
def f_X3_inLine (o : Nat) (a1 : Int32) (a2 : Int32) (a3 : Int32) (M : Mm) : Option (Int32) :=
    (op_is M o 3).bind fun _ =>
    (f_X3_valueAt o a1 a2 M).bind fun z_1 =>
    (op_gR M 3 o 3).bind fun x_2 =>
    (op_aI M x_2 a2).bind fun x_3 =>
    some (a1 + ((a3 - z_1) * x_3))
set_option maxHeartbeats 4000000 in
set_option maxRecDepth 100000 in
theorem c_X3_inLine (l : Launch) (D : va_G) (cA : Nat → ClassId) (ad : Nat → Nat) (o : Nat) (a1 : Int32) (a2 : Int32) (a3 : Int32) (M : Mm) (zr : Int32) (hf : f_X3_inLine o a1 a2 a3 M = some zr) : KI l yX3_inLine cX3_inLine 4 (some .int) rm_X3_inLine D cA ad [.ref (ad o), .int a1, .int a2, .int a3] M zr M := by
  refine KI_of (by decide) (Nat.le_of_ble_eq_true rfl) ?_
  intro p e s m args below meth c ls Q A H locs hZ hE hl hret
  have hx := hZ.1
  have hb := hZ.2.1
  have hown := hZ.2.2.2.1
  have hts := hZ.2.2.2.2.1
  have hl : lv_has ls 4 [(0, .ref (ad o)), (1, .int a1), (2, .int a2), (3, .int a3)] := hl
  unfold f_X3_inLine at hf
  refine lv_iload_n hx hb dX3_inLine_0 rfl (lv_at hl 1 rfl) ?_
  refine lv_iload_n hx hb dX3_inLine_1 rfl (lv_at hl 3 rfl) ?_
  refine lv_aload_n hx hb dX3_inLine_2 rfl (lv_at hl 0 rfl) ?_
  refine lv_iload_n hx hb dX3_inLine_3 rfl (lv_at hl 1 rfl) ?_
  refine lv_iload_n hx hb dX3_inLine_4 rfl (lv_at hl 2 rfl) ?_
  obtain ⟨_, i_1, hf⟩ := b_some hf
  obtain ⟨z_1, c_1, hf⟩ := b_some hf
  refine xx_cVi hZ hE (As := [.int a1, .int a2]) (rest := [.int a3, .int a1]) k_X3 (is_m i_1) tw_55 tw_56 (c_X3_valueAt l D cA ad o a1 a2 M _ c_1) cw_X3_valueAt tw_101 ⟨rfl, rfl⟩ ⟨Nat.le_of_ble_eq_true rfl, Nat.le_of_ble_eq_true rfl⟩ rfl hl.1 rfl (Nat.le_of_ble_eq_true rfl) ⟨Nat.le_of_ble_eq_true rfl, Nat.le_of_ble_eq_true rfl⟩ dX3_inLine_5 (fun H locs hE => ?_)
  refine lv_isub hx hb dX3_inLine_8 ?_
  refine lv_aload_n hx hb dX3_inLine_9 rfl (lv_at hl 0 rfl) ?_
  obtain ⟨x_2, g_2, hf⟩ := b_some hf
  refine xx_gR hZ hE k_X3 3 (by decide) rfl tw_9 g_2 dX3_inLine_10 ?_
  refine lv_iload_n hx hb dX3_inLine_13 rfl (lv_at hl 2 rfl) ?_
  obtain ⟨x_3, g_3, hf⟩ := b_some hf
  refine xx_aI hZ hE g_3 dX3_inLine_14 ?_
  refine lv_imul hx hb dX3_inLine_15 ?_
  refine lv_iadd hx hb dX3_inLine_16 ?_
  exact hret _ _ _ _ _ _ (Option.some.inj hf) rfl rfl dX3_inLine_17 hE
def lp_X3_lineSum_5 (i_0 : Nat) (i_1 : Int32) (i_2 : Int32) (M : Mm) : Nat → Int32 → Int32 → Option (Int32)
  | 0, _, _ => none
  | n_5 + 1, v_3, v_4 =>
    (op_gR M 3 i_0 2).bind fun x_1 =>
    (op_aI M x_1 i_2).bind fun x_2 =>
    if x_2 ≤ v_4 then
    some v_3
    else
    (op_gR M 3 i_0 5).bind fun x_4 =>
    (op_is M i_0 3).bind fun _ =>
    (f_X3_inLine i_0 i_1 i_2 v_4 M).bind fun z_5 =>
    (op_aI M x_4 z_5).bind fun x_6 =>
    lp_X3_lineSum_5 i_0 i_1 i_2 M n_5 (v_3 + x_6) (v_4 + 1)
theorem lp_X3_lineSum_5_s (i_0 : Nat) (i_1 : Int32) (i_2 : Int32) (M : Mm) {n_5 : Nat} {v_3 : Int32} {v_4 : Int32} {zr : Int32} (hf : lp_X3_lineSum_5 i_0 i_1 i_2 M (n_5 + 1) v_3 v_4 = some zr) : (
    (op_gR M 3 i_0 2).bind fun x_1 =>
    (op_aI M x_1 i_2).bind fun x_2 =>
    if x_2 ≤ v_4 then
    some v_3
    else
    (op_gR M 3 i_0 5).bind fun x_4 =>
    (op_is M i_0 3).bind fun _ =>
    (f_X3_inLine i_0 i_1 i_2 v_4 M).bind fun z_5 =>
    (op_aI M x_4 z_5).bind fun x_6 =>
    lp_X3_lineSum_5 i_0 i_1 i_2 M n_5 (v_3 + x_6) (v_4 + 1)) = some zr := hf
def rm_X3_lineSum : Room := { frames := 2, cells := 0, slots := 0, locals := 45 }
def f_X3_lineSum (o : Nat) (a1 : Int32) (a2 : Int32) (M : Mm) : Option (Int32) :=
    lp_X3_lineSum_5  o a1 a2 M FU (0 : Int32) (0 : Int32)
set_option maxHeartbeats 4000000 in
set_option maxRecDepth 100000 in
theorem c_X3_lineSum (l : Launch) (D : va_G) (cA : Nat → ClassId) (ad : Nat → Nat) (o : Nat) (a1 : Int32) (a2 : Int32) (M : Mm) (zr : Int32) (hf : f_X3_lineSum o a1 a2 M = some zr) : KI l yX3_lineSum cX3_lineSum 5 (some .int) rm_X3_lineSum D cA ad [.ref (ad o), .int a1, .int a2] M zr M := by
  refine KI_of (by decide) (Nat.le_of_ble_eq_true rfl) ?_
  intro p e s m args below meth c ls Q A H locs hZ hE hl hret
  have hx := hZ.1
  have hb := hZ.2.1
  have hown := hZ.2.2.2.1
  have hts := hZ.2.2.2.2.1
  have hl : lv_has ls 5 [(0, .ref (ad o)), (1, .int a1), (2, .int a2)] := hl
  unfold f_X3_lineSum at hf
  refine lv_iconst (v := 0) hx hb dX3_lineSum_0 (by decide) ?_
  refine lv_istore_n (lv' := [(3, .int (0 : Int32)), (0, .ref (ad o)), (1, .int a1), (2, .int a2)]) hx hb dX3_lineSum_1 rfl hl (by decide) rfl (fun ls hl => ?_)
  refine lv_iconst (v := 0) hx hb dX3_lineSum_2 (by decide) ?_
  refine lv_istore (lv' := [(4, .int (0 : Int32)), (3, .int (0 : Int32)), (0, .ref (ad o)), (1, .int a1), (2, .int a2)]) hx hb dX3_lineSum_3 hl (by decide) rfl (fun ls hl => ?_)
  have L_7 : ∀ (n_5 : Nat) (w_7_3 : Int32) (w_7_4 : Int32) (H : Heap) (locs : List Loc) (ls : Array Slot), lp_X3_lineSum_5 o a1 a2 M n_5 w_7_3 w_7_4 = some zr → En D cA ad s A M H locs → lv_has ls 5 [(0, .ref (ad o)), (1, .int a1), (2, .int a2), (3, .int w_7_3), (4, .int w_7_4)] → W p l e rm_X3_lineSum s m args below meth c H locs 0 0 Q (F0 m 5 ls []) := by
    intro n_5
    induction n_5 with
    | zero =>
      intro w_7_3 w_7_4 H locs ls hf
      cases (show (none : Option (Int32)) = some zr from hf)
    | succ n_5 ih_5 =>
      intro w_7_3 w_7_4 H locs ls hf hE hl
      have hf := lp_X3_lineSum_5_s _ _ _ _ hf
      refine lv_iload hx hb dX3_lineSum_5 (lv_at hl 4 rfl) ?_
      refine lv_aload_n hx hb dX3_lineSum_7 rfl (lv_at hl 0 rfl) ?_
      obtain ⟨x_8, g_8, hf⟩ := b_some hf
      refine xx_gR hZ hE k_X3 2 (by decide) rfl tw_7 g_8 dX3_lineSum_8 ?_
      refine lv_iload_n hx hb dX3_lineSum_11 rfl (lv_at hl 2 rfl) ?_
      obtain ⟨x_9, g_9, hf⟩ := b_some hf
      refine xx_aI hZ hE g_9 dX3_lineSum_12 ?_
      refine lv_icmp_ge (tgt := 38) hx hb dX3_lineSum_13 (by decide) (fun h_10 => ?_) (fun h_10 => ?_)
      · have hf := it_y h_10 hf
        refine lv_iload_n hx hb dX3_lineSum_38 rfl (lv_at hl 3 rfl) ?_
        exact hret _ _ _ _ _ _ (Option.some.inj hf) rfl rfl dX3_lineSum_39 hE
      · have hf := it_n h_10 hf
        refine lv_iload_n hx hb dX3_lineSum_16 rfl (lv_at hl 3 rfl) ?_
        refine lv_aload_n hx hb dX3_lineSum_17 rfl (lv_at hl 0 rfl) ?_
        obtain ⟨x_11, g_11, hf⟩ := b_some hf
        refine xx_gR hZ hE k_X3 5 (by decide) rfl tw_12 g_11 dX3_lineSum_18 ?_
        refine lv_aload_n hx hb dX3_lineSum_21 rfl (lv_at hl 0 rfl) ?_
        refine lv_iload_n hx hb dX3_lineSum_22 rfl (lv_at hl 1 rfl) ?_
        refine lv_iload_n hx hb dX3_lineSum_23 rfl (lv_at hl 2 rfl) ?_
        refine lv_iload hx hb dX3_lineSum_24 (lv_at hl 4 rfl) ?_
        obtain ⟨_, i_12, hf⟩ := b_some hf
        obtain ⟨z_12, c_12, hf⟩ := b_some hf
        refine xx_cVi hZ hE (As := [.int a1, .int a2, .int w_7_4]) (rest := [.ref (ad x_11), .int w_7_3]) k_X3 (is_m i_12) tw_103 tw_104 (c_X3_inLine l D cA ad o a1 a2 w_7_4 M _ c_12) cw_X3_inLine tw_102 ⟨rfl, rfl⟩ ⟨Nat.le_of_ble_eq_true rfl, Nat.le_of_ble_eq_true rfl⟩ rfl hl.1 rfl (Nat.le_of_ble_eq_true rfl) ⟨Nat.le_of_ble_eq_true rfl, Nat.le_of_ble_eq_true rfl⟩ dX3_lineSum_26 (fun H locs hE => ?_)
        obtain ⟨x_13, g_13, hf⟩ := b_some hf
        refine xx_aI hZ hE g_13 dX3_lineSum_29 ?_
        refine lv_iadd hx hb dX3_lineSum_30 ?_
        refine lv_istore_n (lv' := [(3, .int (w_7_3 + x_13)), (0, .ref (ad o)), (1, .int a1), (2, .int a2), (4, .int w_7_4)]) hx hb dX3_lineSum_31 rfl hl (by decide) rfl (fun ls hl => ?_)
        refine lv_iinc (v := (w_7_4 + 1)) (lv' := [(4, .int (w_7_4 + 1)), (3, .int (w_7_3 + x_13)), (0, .ref (ad o)), (1, .int a1), (2, .int a2)]) hx hb dX3_lineSum_32 hl (k := 4) rfl rfl (by decide) rfl (fun ls hl => ?_)
        refine lv_goto (tgt := 5) hx hb dX3_lineSum_35 (by decide) ?_
        exact ih_5 _ _ _ _ _ hf hE (lv_sub hl [2, 3, 4, 1, 0] rfl)
  exact L_7 _ _ _ _ _ _ hf hE (lv_sub hl [2, 3, 4, 1, 0] rfl)
def lp_X1_divisor_9 (k_44 : Int64 → Option (Int64)) : Nat → Int64 → Int64 → Int32 → Option (Int64)
  | 0, _, _, _ => none
  | n_9 + 1, v_4, v_6, v_8 =>
    if (100 : Int32) ≤ v_8 then
    k_44 v_4
    else
    if v_6 = (0 : Int64) then
    k_44 v_4
    else
    if v_6 = 0 then none else
    lp_X1_divisor_9 k_44 n_9 v_6 (v_4 - v_4 / v_6 * v_6) (v_8 + 1)
theorem lp_X1_divisor_9_s (k_44 : Int64 → Option (Int64)) {n_9 : Nat} {v_4 : Int64} {v_6 : Int64} {v_8 : Int32} {zr : Int64} (hf : lp_X1_divisor_9 k_44 (n_9 + 1) v_4 v_6 v_8 = some zr) : (
    if (100 : Int32) ≤ v_8 then
    k_44 v_4
    else
    if v_6 = (0 : Int64) then
    k_44 v_4
    else
    if v_6 = 0 then none else
    lp_X1_divisor_9 k_44 n_9 v_6 (v_4 - v_4 / v_6 * v_6) (v_8 + 1)) = some zr := hf
theorem lp_X1_divisor_9_k {k_44 : Int64 → Option (Int64)}  {n : Nat} {v_4 : Int64} {v_6 : Int64} {v_8 : Int32} {zr : Int64} (hf : lp_X1_divisor_9 k_44 n v_4 v_6 v_8 = some zr) : ∃ (m_44 : Int64 → Option (Int64)), m_44 = k_44 ∧ lp_X1_divisor_9 m_44 n v_4 v_6 v_8 = some zr := ⟨k_44, rfl, hf⟩
def rm_X1_divisor : Room := { frames := 0, cells := 0, slots := 0, locals := 0 }
def f_X1_divisor (a1 : Int64) (a2 : Int64) : Option (Int64) :=
    lp_X1_divisor_9 (fun (l_5_4 : Int64) =>
    if l_5_4 ≤ (0 : Int64) then
    some (1 : Int64)
    else
    some l_5_4) FU a1 a2 (0 : Int32)
set_option maxHeartbeats 4000000 in
set_option maxRecDepth 100000 in
theorem c_X1_divisor (l : Launch) (D : va_G) (cA : Nat → ClassId) (ad : Nat → Nat) (a1 : Int64) (a2 : Int64) (M : Mm) (zr : Int64) (hf : f_X1_divisor a1 a2 = some zr) : KL l yX1_divisor cX1_divisor 11 (some .long) rm_X1_divisor D cA ad [.long a1, .long a2] M zr M := by
  refine KL_of (by decide) (Nat.le_of_ble_eq_true rfl) ?_
  intro p e s m args below meth c ls Q A H locs hZ hE hl hret
  have hx := hZ.1
  have hb := hZ.2.1
  have hown := hZ.2.2.2.1
  have hts := hZ.2.2.2.2.1
  have hl : lv_has ls 11 [(0, .long a1), (2, .long a2)] := hl
  unfold f_X1_divisor at hf
  refine lv_lload_n hx hb dX1_divisor_0 rfl (lv_at hl 0 rfl) ?_
  refine lv_lstore (lv' := [(4, .long a1), (0, .long a1), (2, .long a2)]) hx hb dX1_divisor_1 hl (by decide) rfl (fun ls hl => ?_)
  refine lv_lload_n hx hb dX1_divisor_3 rfl (lv_at hl 2 rfl) ?_
  refine lv_lstore (lv' := [(6, .long a2), (4, .long a1), (0, .long a1), (2, .long a2)]) hx hb dX1_divisor_4 hl (by decide) rfl (fun ls hl => ?_)
  refine lv_iconst (v := 0) hx hb dX1_divisor_6 (by decide) ?_
  refine lv_istore (lv' := [(8, .int (0 : Int32)), (6, .long a2), (4, .long a1), (0, .long a1), (2, .long a2)]) hx hb dX1_divisor_7 hl (by decide) rfl (fun ls hl => ?_)
  obtain ⟨k_44_5, ek_44_5, hf⟩ := lp_X1_divisor_9_k hf
  have o_44_5 : ∀ (l_5_4 : Int64) (H : Heap) (locs : List Loc) (ls : Array Slot), k_44_5 l_5_4 = some zr → En D cA ad s A M H locs → lv_has ls 11 [(4, .long l_5_4)] → W p l e rm_X1_divisor s m args below meth c H locs 0 0 Q (F0 m 44 ls []) := by
    intro l_5_4 H locs ls hf hE hl
    rw [ek_44_5] at hf
    refine lv_lload hx hb dX1_divisor_44 (lv_at hl 0 rfl) ?_
    refine lv_lconst (v := 0) hx hb dX1_divisor_46 (by decide) ?_
    refine xx_lle (tgt := 56) hx hb dX1_divisor_47 dX1_divisor_48 (by decide) (fun h_6 => ?_) (fun h_6 => ?_)
    · have hf := it_y h_6 hf
      refine lv_lconst (v := 1) hx hb dX1_divisor_56 (by decide) ?_
      exact hret _ _ _ _ _ _ (Option.some.inj hf) rfl dX1_divisor_57 hE
    · have hf := it_n h_6 hf
      refine lv_lload hx hb dX1_divisor_51 (lv_at hl 0 rfl) ?_
      refine lv_goto (tgt := 57) hx hb dX1_divisor_53 (by decide) ?_
      exact hret _ _ _ _ _ _ (Option.some.inj hf) rfl dX1_divisor_57 hE
  have L_4 : ∀ (n_9 : Nat) (w_4_4 : Int64) (w_4_6 : Int64) (w_4_8 : Int32) (H : Heap) (locs : List Loc) (ls : Array Slot), lp_X1_divisor_9 k_44_5 n_9 w_4_4 w_4_6 w_4_8 = some zr → En D cA ad s A M H locs → lv_has ls 11 [(4, .long w_4_4), (6, .long w_4_6), (8, .int w_4_8)] → W p l e rm_X1_divisor s m args below meth c H locs 0 0 Q (F0 m 9 ls []) := by
    intro n_9
    induction n_9 with
    | zero =>
      intro w_4_4 w_4_6 w_4_8 H locs ls hf
      cases (show (none : Option (Int64)) = some zr from hf)
    | succ n_9 ih_9 =>
      intro w_4_4 w_4_6 w_4_8 H locs ls hf hE hl
      have hf := lp_X1_divisor_9_s _ hf
      refine lv_iload hx hb dX1_divisor_9 (lv_at hl 2 rfl) ?_
      refine lv_bipush (v := 100) hx hb dX1_divisor_11 (by decide) ?_
      refine lv_icmp_ge (tgt := 44) hx hb dX1_divisor_13 (by decide) (fun h_7 => ?_) (fun h_7 => ?_)
      · have hf := it_y h_7 hf
        exact o_44_5 _ _ _ _ hf hE (lv_sub hl [0] rfl)
      · have hf := it_n h_7 hf
        refine lv_lload hx hb dX1_divisor_16 (lv_at hl 1 rfl) ?_
        refine lv_lconst (v := 0) hx hb dX1_divisor_18 (by decide) ?_
        refine xx_leq (tgt := 44) hx hb dX1_divisor_19 dX1_divisor_20 (by decide) (fun h_8 => ?_) (fun h_8 => ?_)
        · have hf := it_y h_8 hf
          exact o_44_5 _ _ _ _ hf hE (lv_sub hl [0] rfl)
        · have hf := it_n h_8 hf
          refine lv_lload hx hb dX1_divisor_23 (lv_at hl 0 rfl) ?_
          refine lv_lload hx hb dX1_divisor_25 (lv_at hl 1 rfl) ?_
          obtain ⟨h_9, hf⟩ := e_some hf
          refine lv_lrem hx hb dX1_divisor_27 h_9 ?_
          refine lv_lstore (lv' := [(9, .long (w_4_4 - w_4_4 / w_4_6 * w_4_6)), (4, .long w_4_4), (6, .long w_4_6), (8, .int w_4_8)]) hx hb dX1_divisor_28 hl (by decide) rfl (fun ls hl => ?_)
          refine lv_lload hx hb dX1_divisor_30 (lv_at hl 2 rfl) ?_
          refine lv_lstore (lv' := [(4, .long w_4_6), (9, .long (w_4_4 - w_4_4 / w_4_6 * w_4_6)), (6, .long w_4_6), (8, .int w_4_8)]) hx hb dX1_divisor_32 hl (by decide) rfl (fun ls hl => ?_)
          refine lv_lload hx hb dX1_divisor_34 (lv_at hl 1 rfl) ?_
          refine lv_lstore (lv' := [(6, .long (w_4_4 - w_4_4 / w_4_6 * w_4_6)), (4, .long w_4_6), (9, .long (w_4_4 - w_4_4 / w_4_6 * w_4_6)), (8, .int w_4_8)]) hx hb dX1_divisor_36 hl (by decide) rfl (fun ls hl => ?_)
          refine lv_iinc (v := (w_4_8 + 1)) (lv' := [(8, .int (w_4_8 + 1)), (6, .long (w_4_4 - w_4_4 / w_4_6 * w_4_6)), (4, .long w_4_6), (9, .long (w_4_4 - w_4_4 / w_4_6 * w_4_6))]) hx hb dX1_divisor_38 hl (k := 3) rfl rfl (by decide) rfl (fun ls hl => ?_)
          refine lv_goto (tgt := 9) hx hb dX1_divisor_41 (by decide) ?_
          exact ih_9 _ _ _ _ _ _ hf hE (lv_sub hl [2, 1, 0] rfl)
  exact L_4 _ _ _ _ _ _ _ hf hE (lv_sub hl [2, 1, 0] rfl)
def rm_X1_set : Room := { frames := 1, cells := 0, slots := 0, locals := 30 }
def f_X1_set (o : Nat) (a1 : Int64) (a2 : Int64) (M : Mm) : Option (Mm) :=
    (f_X1_divisor a1 a2).bind fun z_1 =>
    if z_1 = 0 then none else
    (op_pL M 1 o 0 (a1 / z_1)).bind fun M_3 =>
    if z_1 = 0 then none else
    (op_pL M_3 1 o 1 (a2 / z_1)).bind fun M_5 =>
    (op_pZ M_5 1 o 2 (1 : Int32)).bind fun M_6 =>
    some M_6
set_option maxHeartbeats 4000000 in
set_option maxRecDepth 100000 in
theorem c_X1_set (l : Launch) (D : va_G) (cA : Nat → ClassId) (ad : Nat → Nat) (o : Nat) (a1 : Int64) (a2 : Int64) (M : Mm) (zr : Mm) (hf : f_X1_set o a1 a2 M = some zr) : KV l yX1_set cX1_set 7 none rm_X1_set D cA ad [.ref (ad o), .long a1, .long a2] M zr := by
  refine KV_of (by decide) (Nat.le_of_ble_eq_true rfl) ?_
  intro p e s m args below meth c ls Q A H locs hZ hE hl hret
  have hx := hZ.1
  have hb := hZ.2.1
  have hown := hZ.2.2.2.1
  have hts := hZ.2.2.2.2.1
  have hl : lv_has ls 7 [(0, .ref (ad o)), (1, .long a1), (3, .long a2)] := hl
  unfold f_X1_set at hf
  refine lv_lload_n hx hb dX1_set_0 rfl (lv_at hl 1 rfl) ?_
  refine lv_lload_n hx hb dX1_set_1 rfl (lv_at hl 2 rfl) ?_
  obtain ⟨z_1, c_1, hf⟩ := b_some hf
  refine xx_cSl hZ hE (As := [.long a1, .long a2]) (rest := []) tw_107 (c_X1_divisor l D cA ad a1 a2 M _ c_1) cw_X1_divisor tw_105 ⟨rfl, rfl⟩ ⟨Nat.le_of_ble_eq_true rfl, Nat.le_of_ble_eq_true rfl⟩ rfl hl.1 rfl (Nat.le_of_ble_eq_true rfl) ⟨Nat.le_of_ble_eq_true rfl, Nat.le_of_ble_eq_true rfl⟩ dX1_set_2 (fun H locs hE => ?_)
  refine lv_lstore (lv' := [(5, .long z_1), (0, .ref (ad o)), (1, .long a1), (3, .long a2)]) hx hb dX1_set_5 hl (by decide) rfl (fun ls hl => ?_)
  refine lv_aload_n hx hb dX1_set_7 rfl (lv_at hl 1 rfl) ?_
  refine lv_lload_n hx hb dX1_set_8 rfl (lv_at hl 2 rfl) ?_
  refine lv_lload hx hb dX1_set_9 (lv_at hl 0 rfl) ?_
  obtain ⟨h_2, hf⟩ := e_some hf
  refine lv_ldiv hx hb dX1_set_11 h_2 ?_
  obtain ⟨M_3, g_3, hf⟩ := b_some hf
  refine xx_pL hZ hE k_X1 0 (by decide) rfl rfl rfl tw_108 g_3 dX1_set_12 (fun H locs hE => ?_)
  refine lv_aload_n hx hb dX1_set_15 rfl (lv_at hl 1 rfl) ?_
  refine lv_lload_n hx hb dX1_set_16 rfl (lv_at hl 3 rfl) ?_
  refine lv_lload hx hb dX1_set_17 (lv_at hl 0 rfl) ?_
  obtain ⟨h_4, hf⟩ := e_some hf
  refine lv_ldiv hx hb dX1_set_19 h_4 ?_
  obtain ⟨M_5, g_5, hf⟩ := b_some hf
  refine xx_pL hZ hE k_X1 1 (by decide) rfl rfl rfl tw_109 g_5 dX1_set_20 (fun H locs hE => ?_)
  refine lv_aload_n hx hb dX1_set_23 rfl (lv_at hl 1 rfl) ?_
  refine lv_iconst (v := 1) hx hb dX1_set_24 (by decide) ?_
  obtain ⟨M_6, g_6, hf⟩ := b_some hf
  refine xx_pZ hZ hE k_X1 2 (by decide) rfl rfl rfl tw_110 g_6 dX1_set_25 (fun H locs hE => ?_)
  exact hret _ _ _ _ _ (Option.some.inj hf) dX1_set_28 hE
def rm_X3_sharesLine : Room := { frames := 2, cells := 0, slots := 0, locals := 45 }
def f_X3_sharesLine (o : Nat) (a1 : Int32) (a2 : Int32) (a3 : Int32) (M : Mm) : Option (Int32) :=
    (op_is M o 3).bind fun _ =>
    (f_X3_valueAt o a2 a3 M).bind fun z_1 =>
    (op_is M o 3).bind fun _ =>
    (f_X3_inLine o a1 a3 z_1 M).bind fun z_2 =>
    if z_2 = a2 then
    some (1 : Int32)
    else
    some (0 : Int32)
set_option maxHeartbeats 4000000 in
set_option maxRecDepth 100000 in
theorem c_X3_sharesLine (l : Launch) (D : va_G) (cA : Nat → ClassId) (ad : Nat → Nat) (o : Nat) (a1 : Int32) (a2 : Int32) (a3 : Int32) (M : Mm) (zr : Int32) (hf : f_X3_sharesLine o a1 a2 a3 M = some zr) : KI l yX3_sharesLine cX3_sharesLine 4 (some .boolean) rm_X3_sharesLine D cA ad [.ref (ad o), .int a1, .int a2, .int a3] M zr M := by
  refine KI_of (by decide) (Nat.le_of_ble_eq_true rfl) ?_
  intro p e s m args below meth c ls Q A H locs hZ hE hl hret
  have hx := hZ.1
  have hb := hZ.2.1
  have hown := hZ.2.2.2.1
  have hts := hZ.2.2.2.2.1
  have hl : lv_has ls 4 [(0, .ref (ad o)), (1, .int a1), (2, .int a2), (3, .int a3)] := hl
  unfold f_X3_sharesLine at hf
  refine lv_aload_n hx hb dX3_sharesLine_0 rfl (lv_at hl 0 rfl) ?_
  refine lv_iload_n hx hb dX3_sharesLine_1 rfl (lv_at hl 1 rfl) ?_
  refine lv_iload_n hx hb dX3_sharesLine_2 rfl (lv_at hl 3 rfl) ?_
  refine lv_aload_n hx hb dX3_sharesLine_3 rfl (lv_at hl 0 rfl) ?_
  refine lv_iload_n hx hb dX3_sharesLine_4 rfl (lv_at hl 2 rfl) ?_
  refine lv_iload_n hx hb dX3_sharesLine_5 rfl (lv_at hl 3 rfl) ?_
  obtain ⟨_, i_1, hf⟩ := b_some hf
  obtain ⟨z_1, c_1, hf⟩ := b_some hf
  refine xx_cVi hZ hE (As := [.int a2, .int a3]) (rest := [.int a3, .int a1, .ref (ad o)]) k_X3 (is_m i_1) tw_55 tw_56 (c_X3_valueAt l D cA ad o a2 a3 M _ c_1) cw_X3_valueAt tw_101 ⟨rfl, rfl⟩ ⟨Nat.le_of_ble_eq_true rfl, Nat.le_of_ble_eq_true rfl⟩ rfl hl.1 rfl (Nat.le_of_ble_eq_true rfl) ⟨Nat.le_of_ble_eq_true rfl, Nat.le_of_ble_eq_true rfl⟩ dX3_sharesLine_6 (fun H locs hE => ?_)
  obtain ⟨_, i_2, hf⟩ := b_some hf
  obtain ⟨z_2, c_2, hf⟩ := b_some hf
  refine xx_cVi hZ hE (As := [.int a1, .int a3, .int z_1]) (rest := []) k_X3 (is_m i_2) tw_103 tw_104 (c_X3_inLine l D cA ad o a1 a3 z_1 M _ c_2) cw_X3_inLine tw_102 ⟨rfl, rfl⟩ ⟨Nat.le_of_ble_eq_true rfl, Nat.le_of_ble_eq_true rfl⟩ rfl hl.1 rfl (Nat.le_of_ble_eq_true rfl) ⟨Nat.le_of_ble_eq_true rfl, Nat.le_of_ble_eq_true rfl⟩ dX3_sharesLine_9 (fun H locs hE => ?_)
  refine lv_iload_n hx hb dX3_sharesLine_12 rfl (lv_at hl 2 rfl) ?_
  refine lv_icmp_ne (tgt := 20) hx hb dX3_sharesLine_13 (by decide) (fun h_3 => ?_) (fun h_3 => ?_)
  · have hf := it_n h_3 hf
    refine lv_iconst (v := 0) hx hb dX3_sharesLine_20 (by decide) ?_
    exact hret _ _ _ _ _ _ (Option.some.inj hf) rfl rfl dX3_sharesLine_21 hE
  · have hf := it_y h_3 hf
    refine lv_iconst (v := 1) hx hb dX3_sharesLine_16 (by decide) ?_
    refine lv_goto (tgt := 21) hx hb dX3_sharesLine_17 (by decide) ?_
    exact hret _ _ _ _ _ _ (Option.some.inj hf) rfl rfl dX3_sharesLine_21 hE
def rm_X0_redraw : Room := { frames := 3, cells := 0, slots := 0, locals := 69 }
def f_X0_redraw (o : Nat) (a1 : Int32) (a2 : Int32) (a3 : Int32) (M : Mm) : Option (Mm) :=
    (op_gR M 0 o 0).bind fun x_1 =>
    (op_is M x_1 3).bind fun _ =>
    (f_X3_lineSum x_1 a2 a1 M).bind fun z_2 =>
    if z_2 = 0 then
    (op_gR M 0 o 2).bind fun x_13 =>
    (op_is M x_13 1).bind fun _ =>
    (f_X1_set x_13 (if a2 = a3 then (1 : Int64) else (0 : Int64)) (1 : Int64) M).bind fun z_15 =>
    some z_15
    else
    (op_gR M 0 o 2).bind fun x_4 =>
    (op_gR M 0 o 0).bind fun x_5 =>
    (op_is M x_5 3).bind fun _ =>
    (f_X3_sharesLine x_5 a2 a3 a1 M).bind fun z_6 =>
    op_jn (fun (x_7_0 : Int64) =>
    (op_is M x_4 1).bind fun _ =>
    (f_X1_set x_4 x_7_0 z_2.toInt64 M).bind fun z_12 =>
    some z_12)
    fun j_7 =>
    if z_6 = 0 then
    j_7 (0 : Int64)
    else
    (op_gR M 0 o 0).bind fun x_9 =>
    (op_gR M 3 x_9 5).bind fun x_10 =>
    (op_aI M x_10 a3).bind fun x_11 =>
    j_7 x_11.toInt64
set_option maxHeartbeats 4000000 in
set_option maxRecDepth 100000 in
theorem c_X0_redraw (l : Launch) (D : va_G) (cA : Nat → ClassId) (ad : Nat → Nat) (o : Nat) (a1 : Int32) (a2 : Int32) (a3 : Int32) (M : Mm) (zr : Mm) (hf : f_X0_redraw o a1 a2 a3 M = some zr) : KV l yX0_redraw cX0_redraw 5 none rm_X0_redraw D cA ad [.ref (ad o), .int a1, .int a2, .int a3] M zr := by
  refine KV_of (by decide) (Nat.le_of_ble_eq_true rfl) ?_
  intro p e s m args below meth c ls Q A H locs hZ hE hl hret
  have hx := hZ.1
  have hb := hZ.2.1
  have hown := hZ.2.2.2.1
  have hts := hZ.2.2.2.2.1
  have hl : lv_has ls 5 [(0, .ref (ad o)), (1, .int a1), (2, .int a2), (3, .int a3)] := hl
  unfold f_X0_redraw at hf
  refine lv_aload_n hx hb dX0_redraw_0 rfl (lv_at hl 0 rfl) ?_
  obtain ⟨x_1, g_1, hf⟩ := b_some hf
  refine xx_gR hZ hE k_X0 0 (by decide) rfl tw_111 g_1 dX0_redraw_1 ?_
  refine lv_iload_n hx hb dX0_redraw_4 rfl (lv_at hl 2 rfl) ?_
  refine lv_iload_n hx hb dX0_redraw_5 rfl (lv_at hl 1 rfl) ?_
  obtain ⟨_, i_2, hf⟩ := b_some hf
  obtain ⟨z_2, c_2, hf⟩ := b_some hf
  refine xx_cVNi hZ hE (As := [.int a2, .int a1]) (rest := []) k_X3 (is_m i_2) tw_113 tw_114 (c_X3_lineSum l D cA ad x_1 a2 a1 M _ c_2) cw_X3_lineSum tw_112 ⟨rfl, rfl⟩ ⟨Nat.le_of_ble_eq_true rfl, Nat.le_of_ble_eq_true rfl⟩ rfl hl.1 rfl (Nat.le_of_ble_eq_true rfl) ⟨Nat.le_of_ble_eq_true rfl, Nat.le_of_ble_eq_true rfl⟩ dX0_redraw_6 (fun H locs hE => ?_)
  refine lv_istore (lv' := [(4, .int z_2), (0, .ref (ad o)), (1, .int a1), (2, .int a2), (3, .int a3)]) hx hb dX0_redraw_9 hl (by decide) rfl (fun ls hl => ?_)
  refine lv_iload hx hb dX0_redraw_11 (lv_at hl 0 rfl) ?_
  refine lv_if_ne (tgt := 37) hx hb dX0_redraw_13 (by decide) (fun h_3 => ?_) (fun h_3 => ?_)
  · have hf := it_n h_3 hf
    refine lv_aload_n hx hb dX0_redraw_37 rfl (lv_at hl 1 rfl) ?_
    obtain ⟨x_4, g_4, hf⟩ := b_some hf
    refine xx_gR hZ hE k_X0 2 (by decide) rfl tw_115 g_4 dX0_redraw_38 ?_
    refine lv_aload_n hx hb dX0_redraw_41 rfl (lv_at hl 1 rfl) ?_
    obtain ⟨x_5, g_5, hf⟩ := b_some hf
    refine xx_gR hZ hE k_X0 0 (by decide) rfl tw_111 g_5 dX0_redraw_42 ?_
    refine lv_iload_n hx hb dX0_redraw_45 rfl (lv_at hl 3 rfl) ?_
    refine lv_iload_n hx hb dX0_redraw_46 rfl (lv_at hl 4 rfl) ?_
    refine lv_iload_n hx hb dX0_redraw_47 rfl (lv_at hl 2 rfl) ?_
    obtain ⟨_, i_6, hf⟩ := b_some hf
    obtain ⟨z_6, c_6, hf⟩ := b_some hf
    refine xx_cVNi hZ hE (As := [.int a2, .int a3, .int a1]) (rest := [.ref (ad x_4)]) k_X3 (is_m i_6) tw_117 tw_118 (c_X3_sharesLine l D cA ad x_5 a2 a3 a1 M _ c_6) cw_X3_sharesLine tw_116 ⟨rfl, rfl⟩ ⟨Nat.le_of_ble_eq_true rfl, Nat.le_of_ble_eq_true rfl⟩ rfl hl.1 rfl (Nat.le_of_ble_eq_true rfl) ⟨Nat.le_of_ble_eq_true rfl, Nat.le_of_ble_eq_true rfl⟩ dX0_redraw_48 (fun H locs hE => ?_)
    obtain ⟨j_7, ej_7, hf⟩ := jn_e hf
    have q_7 : ∀ (x_7_0 : Int64) (H : Heap) (locs : List Loc) (ls : Array Slot), j_7 x_7_0 = some zr → En D cA ad s A M H locs → lv_has ls 5 [(4, .int z_2)] → W p l e rm_X0_redraw s m args below meth c H locs 0 0 Q (F0 m 68 ls [.long x_7_0, .ref (ad x_4)]) := by
      intro x_7_0 H locs ls hf hE hl
      rw [ej_7] at hf
      refine lv_iload hx hb dX0_redraw_68 (lv_at hl 0 rfl) ?_
      refine lv_i2l hx hb dX0_redraw_70 rfl ?_
      obtain ⟨_, i_12, hf⟩ := b_some hf
      obtain ⟨z_12, c_12, hf⟩ := b_some hf
      refine xx_cVNv hZ hE (As := [.long x_7_0, .long z_2.toInt64]) (rest := []) k_X1 (is_m i_12) tw_121 tw_122 (c_X1_set l D cA ad x_4 x_7_0 z_2.toInt64 M _ c_12) cw_X1_set tw_120 ⟨rfl, rfl⟩ ⟨Nat.le_of_ble_eq_true rfl, Nat.le_of_ble_eq_true rfl⟩ rfl hl.1 rfl (Nat.le_of_ble_eq_true rfl) ⟨Nat.le_of_ble_eq_true rfl, Nat.le_of_ble_eq_true rfl⟩ dX0_redraw_71 (fun H locs hE => ?_)
      exact hret _ _ _ _ _ (Option.some.inj hf) dX0_redraw_74 hE
    refine lv_if_eq (tgt := 67) hx hb dX0_redraw_51 (by decide) (fun h_8 => ?_) (fun h_8 => ?_)
    · have hf := it_y h_8 hf
      refine lv_lconst (v := 0) hx hb dX0_redraw_67 (by decide) ?_
      exact q_7 _ _ _ _ hf hE (lv_sub hl [0] rfl)
    · have hf := it_n h_8 hf
      refine lv_aload_n hx hb dX0_redraw_54 rfl (lv_at hl 1 rfl) ?_
      obtain ⟨x_9, g_9, hf⟩ := b_some hf
      refine xx_gR hZ hE k_X0 0 (by decide) rfl tw_111 g_9 dX0_redraw_55 ?_
      obtain ⟨x_10, g_10, hf⟩ := b_some hf
      refine xx_gRN hZ hE k_X3 5 (by decide) rfl tw_119 g_10 dX0_redraw_58 ?_
      refine lv_iload_n hx hb dX0_redraw_61 rfl (lv_at hl 4 rfl) ?_
      obtain ⟨x_11, g_11, hf⟩ := b_some hf
      refine xx_aI hZ hE g_11 dX0_redraw_62 ?_
      refine lv_i2l hx hb dX0_redraw_63 rfl ?_
      refine lv_goto (tgt := 68) hx hb dX0_redraw_64 (by decide) ?_
      exact q_7 _ _ _ _ hf hE (lv_sub hl [0] rfl)
  · have hf := it_y h_3 hf
    refine lv_aload_n hx hb dX0_redraw_16 rfl (lv_at hl 1 rfl) ?_
    obtain ⟨x_13, g_13, hf⟩ := b_some hf
    refine xx_gR hZ hE k_X0 2 (by decide) rfl tw_115 g_13 dX0_redraw_17 ?_
    refine lv_iload_n hx hb dX0_redraw_20 rfl (lv_at hl 3 rfl) ?_
    refine lv_iload_n hx hb dX0_redraw_21 rfl (lv_at hl 4 rfl) ?_
    have q_14 : ∀ x_14 : Int64, x_14 = (if a2 = a3 then (1 : Int64) else (0 : Int64)) → W p l e rm_X0_redraw s m args below meth c H locs 0 0 Q (F0 m 30 ls [.long x_14, .ref (ad x_13)]) := by
      intro x_14 e_14
      subst e_14
      refine lv_lconst (v := 1) hx hb dX0_redraw_30 (by decide) ?_
      obtain ⟨_, i_15, hf⟩ := b_some hf
      obtain ⟨z_15, c_15, hf⟩ := b_some hf
      refine xx_cVNv hZ hE (As := [.long (if a2 = a3 then (1 : Int64) else (0 : Int64)), .long (1 : Int64)]) (rest := []) k_X1 (is_m i_15) tw_121 tw_122 (c_X1_set l D cA ad x_13 (if a2 = a3 then (1 : Int64) else (0 : Int64)) (1 : Int64) M _ c_15) cw_X1_set tw_120 ⟨rfl, rfl⟩ ⟨Nat.le_of_ble_eq_true rfl, Nat.le_of_ble_eq_true rfl⟩ rfl hl.1 rfl (Nat.le_of_ble_eq_true rfl) ⟨Nat.le_of_ble_eq_true rfl, Nat.le_of_ble_eq_true rfl⟩ dX0_redraw_31 (fun H locs hE => ?_)
      refine lv_goto (tgt := 74) hx hb dX0_redraw_34 (by decide) ?_
      exact hret _ _ _ _ _ (Option.some.inj hf) dX0_redraw_74 hE
    refine lv_icmp_ne (tgt := 29) hx hb dX0_redraw_22 (by decide) (fun h_16 => ?_) (fun h_16 => ?_)
    · refine lv_lconst (v := 0) hx hb dX0_redraw_29 (by decide) ?_
      exact q_14 _ (by rw [if_neg h_16])
    · refine lv_lconst (v := 1) hx hb dX0_redraw_25 (by decide) ?_
      refine lv_goto (tgt := 30) hx hb dX0_redraw_26 (by decide) ?_
      exact q_14 _ (by rw [if_pos h_16])
def rm_X3_next : Room := { frames := 2, cells := 0, slots := 0, locals := 45 }
def f_X3_next (o : Nat) (a1 : Int32) (a2 : Int32) (M : Mm) : Option (Int32) :=
    (op_is M o 3).bind fun _ =>
    (f_X3_valueAt o a1 a2 M).bind fun z_1 =>
    (op_gR M 3 o 2).bind fun x_2 =>
    (op_aI M x_2 a2).bind fun x_3 =>
    (op_is M o 3).bind fun _ =>
    (f_X3_inLine o a1 a2 (if x_3 ≤ (z_1 + (1 : Int32)) then (0 : Int32) else (z_1 + (1 : Int32))) M).bind fun z_5 =>
    some z_5
set_option maxHeartbeats 4000000 in
set_option maxRecDepth 100000 in
theorem c_X3_next (l : Launch) (D : va_G) (cA : Nat → ClassId) (ad : Nat → Nat) (o : Nat) (a1 : Int32) (a2 : Int32) (M : Mm) (zr : Int32) (hf : f_X3_next o a1 a2 M = some zr) : KI l yX3_next cX3_next 4 (some .int) rm_X3_next D cA ad [.ref (ad o), .int a1, .int a2] M zr M := by
  refine KI_of (by decide) (Nat.le_of_ble_eq_true rfl) ?_
  intro p e s m args below meth c ls Q A H locs hZ hE hl hret
  have hx := hZ.1
  have hb := hZ.2.1
  have hown := hZ.2.2.2.1
  have hts := hZ.2.2.2.2.1
  have hl : lv_has ls 4 [(0, .ref (ad o)), (1, .int a1), (2, .int a2)] := hl
  unfold f_X3_next at hf
  refine lv_aload_n hx hb dX3_next_0 rfl (lv_at hl 0 rfl) ?_
  refine lv_iload_n hx hb dX3_next_1 rfl (lv_at hl 1 rfl) ?_
  refine lv_iload_n hx hb dX3_next_2 rfl (lv_at hl 2 rfl) ?_
  obtain ⟨_, i_1, hf⟩ := b_some hf
  obtain ⟨z_1, c_1, hf⟩ := b_some hf
  refine xx_cVi hZ hE (As := [.int a1, .int a2]) (rest := []) k_X3 (is_m i_1) tw_55 tw_56 (c_X3_valueAt l D cA ad o a1 a2 M _ c_1) cw_X3_valueAt tw_101 ⟨rfl, rfl⟩ ⟨Nat.le_of_ble_eq_true rfl, Nat.le_of_ble_eq_true rfl⟩ rfl hl.1 rfl (Nat.le_of_ble_eq_true rfl) ⟨Nat.le_of_ble_eq_true rfl, Nat.le_of_ble_eq_true rfl⟩ dX3_next_3 (fun H locs hE => ?_)
  refine lv_iconst (v := 1) hx hb dX3_next_6 (by decide) ?_
  refine lv_iadd hx hb dX3_next_7 ?_
  refine lv_istore_n (lv' := [(3, .int (z_1 + (1 : Int32))), (0, .ref (ad o)), (1, .int a1), (2, .int a2)]) hx hb dX3_next_8 rfl hl (by decide) rfl (fun ls hl => ?_)
  refine lv_aload_n hx hb dX3_next_9 rfl (lv_at hl 1 rfl) ?_
  refine lv_iload_n hx hb dX3_next_10 rfl (lv_at hl 2 rfl) ?_
  refine lv_iload_n hx hb dX3_next_11 rfl (lv_at hl 3 rfl) ?_
  refine lv_iload_n hx hb dX3_next_12 rfl (lv_at hl 0 rfl) ?_
  refine lv_aload_n hx hb dX3_next_13 rfl (lv_at hl 1 rfl) ?_
  obtain ⟨x_2, g_2, hf⟩ := b_some hf
  refine xx_gR hZ hE k_X3 2 (by decide) rfl tw_7 g_2 dX3_next_14 ?_
  refine lv_iload_n hx hb dX3_next_17 rfl (lv_at hl 3 rfl) ?_
  obtain ⟨x_3, g_3, hf⟩ := b_some hf
  refine xx_aI hZ hE g_3 dX3_next_18 ?_
  have q_4 : ∀ x_4 : Int32, x_4 = (if x_3 ≤ (z_1 + (1 : Int32)) then (0 : Int32) else (z_1 + (1 : Int32))) → W p l e rm_X3_next s m args below meth c H locs 0 0 Q (F0 m 27 ls [.int x_4, .int a2, .int a1, .ref (ad o)]) := by
    intro x_4 e_4
    subst e_4
    obtain ⟨_, i_5, hf⟩ := b_some hf
    obtain ⟨z_5, c_5, hf⟩ := b_some hf
    refine xx_cVi hZ hE (As := [.int a1, .int a2, .int (if x_3 ≤ (z_1 + (1 : Int32)) then (0 : Int32) else (z_1 + (1 : Int32)))]) (rest := []) k_X3 (is_m i_5) tw_103 tw_104 (c_X3_inLine l D cA ad o a1 a2 (if x_3 ≤ (z_1 + (1 : Int32)) then (0 : Int32) else (z_1 + (1 : Int32))) M _ c_5) cw_X3_inLine tw_102 ⟨rfl, rfl⟩ ⟨Nat.le_of_ble_eq_true rfl, Nat.le_of_ble_eq_true rfl⟩ rfl hl.1 rfl (Nat.le_of_ble_eq_true rfl) ⟨Nat.le_of_ble_eq_true rfl, Nat.le_of_ble_eq_true rfl⟩ dX3_next_27 (fun H locs hE => ?_)
    exact hret _ _ _ _ _ _ (Option.some.inj hf) rfl rfl dX3_next_30 hE
  refine lv_icmp_ge (tgt := 26) hx hb dX3_next_19 (by decide) (fun h_6 => ?_) (fun h_6 => ?_)
  · refine lv_iconst (v := 0) hx hb dX3_next_26 (by decide) ?_
    exact q_4 _ (by rw [if_pos h_6])
  · refine lv_iload_n hx hb dX3_next_22 rfl (lv_at hl 0 rfl) ?_
    refine lv_goto (tgt := 27) hx hb dX3_next_23 (by decide) ?_
    exact q_4 _ (by rw [if_neg h_6])
def rm_X3_before : Room := { frames := 2, cells := 0, slots := 0, locals := 45 }
def f_X3_before (o : Nat) (a1 : Int32) (a2 : Int32) (M : Mm) : Option (Int32) :=
    (op_is M o 3).bind fun _ =>
    (f_X3_valueAt o a1 a2 M).bind fun z_1 =>
    op_jn (fun (x_2_0 : Int32) =>
    (op_is M o 3).bind fun _ =>
    (f_X3_inLine o a1 a2 x_2_0 M).bind fun z_6 =>
    some z_6)
    fun j_2 =>
    if (z_1 - (1 : Int32)) < 0 then
    (op_gR M 3 o 2).bind fun x_4 =>
    (op_aI M x_4 a2).bind fun x_5 =>
    j_2 (x_5 - (1 : Int32))
    else
    j_2 (z_1 - (1 : Int32))
set_option maxHeartbeats 4000000 in
set_option maxRecDepth 100000 in
theorem c_X3_before (l : Launch) (D : va_G) (cA : Nat → ClassId) (ad : Nat → Nat) (o : Nat) (a1 : Int32) (a2 : Int32) (M : Mm) (zr : Int32) (hf : f_X3_before o a1 a2 M = some zr) : KI l yX3_before cX3_before 4 (some .int) rm_X3_before D cA ad [.ref (ad o), .int a1, .int a2] M zr M := by
  refine KI_of (by decide) (Nat.le_of_ble_eq_true rfl) ?_
  intro p e s m args below meth c ls Q A H locs hZ hE hl hret
  have hx := hZ.1
  have hb := hZ.2.1
  have hown := hZ.2.2.2.1
  have hts := hZ.2.2.2.2.1
  have hl : lv_has ls 4 [(0, .ref (ad o)), (1, .int a1), (2, .int a2)] := hl
  unfold f_X3_before at hf
  refine lv_aload_n hx hb dX3_before_0 rfl (lv_at hl 0 rfl) ?_
  refine lv_iload_n hx hb dX3_before_1 rfl (lv_at hl 1 rfl) ?_
  refine lv_iload_n hx hb dX3_before_2 rfl (lv_at hl 2 rfl) ?_
  obtain ⟨_, i_1, hf⟩ := b_some hf
  obtain ⟨z_1, c_1, hf⟩ := b_some hf
  refine xx_cVi hZ hE (As := [.int a1, .int a2]) (rest := []) k_X3 (is_m i_1) tw_55 tw_56 (c_X3_valueAt l D cA ad o a1 a2 M _ c_1) cw_X3_valueAt tw_101 ⟨rfl, rfl⟩ ⟨Nat.le_of_ble_eq_true rfl, Nat.le_of_ble_eq_true rfl⟩ rfl hl.1 rfl (Nat.le_of_ble_eq_true rfl) ⟨Nat.le_of_ble_eq_true rfl, Nat.le_of_ble_eq_true rfl⟩ dX3_before_3 (fun H locs hE => ?_)
  refine lv_iconst (v := 1) hx hb dX3_before_6 (by decide) ?_
  refine lv_isub hx hb dX3_before_7 ?_
  refine lv_istore_n (lv' := [(3, .int (z_1 - (1 : Int32))), (0, .ref (ad o)), (1, .int a1), (2, .int a2)]) hx hb dX3_before_8 rfl hl (by decide) rfl (fun ls hl => ?_)
  refine lv_aload_n hx hb dX3_before_9 rfl (lv_at hl 1 rfl) ?_
  refine lv_iload_n hx hb dX3_before_10 rfl (lv_at hl 2 rfl) ?_
  refine lv_iload_n hx hb dX3_before_11 rfl (lv_at hl 3 rfl) ?_
  refine lv_iload_n hx hb dX3_before_12 rfl (lv_at hl 0 rfl) ?_
  obtain ⟨j_2, ej_2, hf⟩ := jn_e hf
  have q_2 : ∀ (x_2_0 : Int32) (H : Heap) (locs : List Loc) (ls : Array Slot), j_2 x_2_0 = some zr → En D cA ad s A M H locs → lv_has ls 4 [] → W p l e rm_X3_before s m args below meth c H locs 0 0 Q (F0 m 28 ls [.int x_2_0, .int a2, .int a1, .ref (ad o)]) := by
    intro x_2_0 H locs ls hf hE hl
    rw [ej_2] at hf
    obtain ⟨_, i_6, hf⟩ := b_some hf
    obtain ⟨z_6, c_6, hf⟩ := b_some hf
    refine xx_cVi hZ hE (As := [.int a1, .int a2, .int x_2_0]) (rest := []) k_X3 (is_m i_6) tw_103 tw_104 (c_X3_inLine l D cA ad o a1 a2 x_2_0 M _ c_6) cw_X3_inLine tw_102 ⟨rfl, rfl⟩ ⟨Nat.le_of_ble_eq_true rfl, Nat.le_of_ble_eq_true rfl⟩ rfl hl.1 rfl (Nat.le_of_ble_eq_true rfl) ⟨Nat.le_of_ble_eq_true rfl, Nat.le_of_ble_eq_true rfl⟩ dX3_before_28 (fun H locs hE => ?_)
    exact hret _ _ _ _ _ _ (Option.some.inj hf) rfl rfl dX3_before_31 hE
  refine lv_if_lt (tgt := 20) hx hb dX3_before_13 (by decide) (fun h_3 => ?_) (fun h_3 => ?_)
  · have hf := it_y h_3 hf
    refine lv_aload_n hx hb dX3_before_20 rfl (lv_at hl 1 rfl) ?_
    obtain ⟨x_4, g_4, hf⟩ := b_some hf
    refine xx_gR hZ hE k_X3 2 (by decide) rfl tw_7 g_4 dX3_before_21 ?_
    refine lv_iload_n hx hb dX3_before_24 rfl (lv_at hl 3 rfl) ?_
    obtain ⟨x_5, g_5, hf⟩ := b_some hf
    refine xx_aI hZ hE g_5 dX3_before_25 ?_
    refine lv_iconst (v := 1) hx hb dX3_before_26 (by decide) ?_
    refine lv_isub hx hb dX3_before_27 ?_
    exact q_2 _ _ _ _ hf hE (lv_sub hl [] rfl)
  · have hf := it_n h_3 hf
    refine lv_iload_n hx hb dX3_before_16 rfl (lv_at hl 0 rfl) ?_
    refine lv_goto (tgt := 28) hx hb dX3_before_17 (by decide) ?_
    exact q_2 _ _ _ _ hf hE (lv_sub hl [] rfl)
def rm_X3_all : Room := { frames := 1, cells := 0, slots := 0, locals := 21 }
def f_X3_all (o : Nat) (a1 : Int32) (M : Mm) : Option (Int32) :=
    (op_gR M 3 o 5).bind fun x_1 =>
    (op_aI M x_1 a1).bind fun x_2 =>
    some (if x_2 < (1 : Int32) then (1 : Int32) else x_2)
set_option maxHeartbeats 4000000 in
set_option maxRecDepth 100000 in
theorem c_X3_all (l : Launch) (D : va_G) (cA : Nat → ClassId) (ad : Nat → Nat) (o : Nat) (a1 : Int32) (M : Mm) (zr : Int32) (hf : f_X3_all o a1 M = some zr) : KI l yX3_all cX3_all 2 (some .int) rm_X3_all D cA ad [.ref (ad o), .int a1] M zr M := by
  refine KI_of (by decide) (Nat.le_of_ble_eq_true rfl) ?_
  intro p e s m args below meth c ls Q A H locs hZ hE hl hret
  have hx := hZ.1
  have hb := hZ.2.1
  have hown := hZ.2.2.2.1
  have hts := hZ.2.2.2.2.1
  have hl : lv_has ls 2 [(0, .ref (ad o)), (1, .int a1)] := hl
  unfold f_X3_all at hf
  refine lv_aload_n hx hb dX3_all_0 rfl (lv_at hl 0 rfl) ?_
  obtain ⟨x_1, g_1, hf⟩ := b_some hf
  refine xx_gR hZ hE k_X3 5 (by decide) rfl tw_12 g_1 dX3_all_1 ?_
  refine lv_iload_n hx hb dX3_all_4 rfl (lv_at hl 1 rfl) ?_
  obtain ⟨x_2, g_2, hf⟩ := b_some hf
  refine xx_aI hZ hE g_2 dX3_all_5 ?_
  refine lv_iconst (v := 1) hx hb dX3_all_6 (by decide) ?_
  refine va_mmax hx hb (hZ.2.2.1.trans hl.1.symm) hown (hts _ tw_3) (hts _ tw_4) (hts _ tw_5) (hts _ tw_6) (Nat.le_of_ble_eq_true rfl) (Nat.le_of_ble_eq_true rfl) (Nat.le_of_ble_eq_true rfl) (Nat.le_of_ble_eq_true rfl) dX3_all_7 ?_
  exact hret _ _ _ _ _ _ (Option.some.inj hf) rfl rfl dX3_all_10 hE
def rm_X3_taken : Room := { frames := 1, cells := 0, slots := 0, locals := 21 }
def f_X3_taken (o : Nat) (a1 : Int32) (a2 : Int32) (M : Mm) : Option (Int32) :=
    (op_gR M 3 o 5).bind fun x_1 =>
    (op_aI M x_1 a1).bind fun x_2 =>
    if x_2 = 0 then
    some (1 : Int32)
    else
    (op_gR M 3 o 5).bind fun x_4 =>
    (op_aI M x_4 a1).bind fun x_5 =>
    (op_gR M 3 o 5).bind fun x_6 =>
    (op_aI M x_6 a2).bind fun x_7 =>
    some (if x_7 < x_5 then x_7 else x_5)
set_option maxHeartbeats 4000000 in
set_option maxRecDepth 100000 in
theorem c_X3_taken (l : Launch) (D : va_G) (cA : Nat → ClassId) (ad : Nat → Nat) (o : Nat) (a1 : Int32) (a2 : Int32) (M : Mm) (zr : Int32) (hf : f_X3_taken o a1 a2 M = some zr) : KI l yX3_taken cX3_taken 3 (some .int) rm_X3_taken D cA ad [.ref (ad o), .int a1, .int a2] M zr M := by
  refine KI_of (by decide) (Nat.le_of_ble_eq_true rfl) ?_
  intro p e s m args below meth c ls Q A H locs hZ hE hl hret
  have hx := hZ.1
  have hb := hZ.2.1
  have hown := hZ.2.2.2.1
  have hts := hZ.2.2.2.2.1
  have hl : lv_has ls 3 [(0, .ref (ad o)), (1, .int a1), (2, .int a2)] := hl
  unfold f_X3_taken at hf
  refine lv_aload_n hx hb dX3_taken_0 rfl (lv_at hl 0 rfl) ?_
  obtain ⟨x_1, g_1, hf⟩ := b_some hf
  refine xx_gR hZ hE k_X3 5 (by decide) rfl tw_12 g_1 dX3_taken_1 ?_
  refine lv_iload_n hx hb dX3_taken_4 rfl (lv_at hl 1 rfl) ?_
  obtain ⟨x_2, g_2, hf⟩ := b_some hf
  refine xx_aI hZ hE g_2 dX3_taken_5 ?_
  refine lv_if_ne (tgt := 13) hx hb dX3_taken_6 (by decide) (fun h_3 => ?_) (fun h_3 => ?_)
  · have hf := it_n h_3 hf
    refine lv_aload_n hx hb dX3_taken_13 rfl (lv_at hl 0 rfl) ?_
    obtain ⟨x_4, g_4, hf⟩ := b_some hf
    refine xx_gR hZ hE k_X3 5 (by decide) rfl tw_12 g_4 dX3_taken_14 ?_
    refine lv_iload_n hx hb dX3_taken_17 rfl (lv_at hl 1 rfl) ?_
    obtain ⟨x_5, g_5, hf⟩ := b_some hf
    refine xx_aI hZ hE g_5 dX3_taken_18 ?_
    refine lv_aload_n hx hb dX3_taken_19 rfl (lv_at hl 0 rfl) ?_
    obtain ⟨x_6, g_6, hf⟩ := b_some hf
    refine xx_gR hZ hE k_X3 5 (by decide) rfl tw_12 g_6 dX3_taken_20 ?_
    refine lv_iload_n hx hb dX3_taken_23 rfl (lv_at hl 2 rfl) ?_
    obtain ⟨x_7, g_7, hf⟩ := b_some hf
    refine xx_aI hZ hE g_7 dX3_taken_24 ?_
    refine va_mmin hx hb (hZ.2.2.1.trans hl.1.symm) hown (hts _ tw_123) (hts _ tw_124) (hts _ tw_5) (hts _ tw_125) (Nat.le_of_ble_eq_true rfl) (Nat.le_of_ble_eq_true rfl) (Nat.le_of_ble_eq_true rfl) (Nat.le_of_ble_eq_true rfl) dX3_taken_25 ?_
    exact hret _ _ _ _ _ _ (Option.some.inj hf) rfl rfl dX3_taken_28 hE
  · have hf := it_y h_3 hf
    refine lv_iconst (v := 1) hx hb dX3_taken_9 (by decide) ?_
    refine lv_goto (tgt := 28) hx hb dX3_taken_10 (by decide) ?_
    exact hret _ _ _ _ _ _ (Option.some.inj hf) rfl rfl dX3_taken_28 hE
def rm_X0_propose : Room := { frames := 2, cells := 0, slots := 0, locals := 56 }
def f_X0_propose (o : Nat) (a1 : Int32) (a2 : Int32) (a3 : Int32) (a4 : Int32) (M : Mm) : Option (Mm) :=
    (op_gR M 0 o 0).bind fun x_1 =>
    (op_is M x_1 3).bind fun _ =>
    (f_X3_all x_1 a3 M).bind fun z_2 =>
    (op_gR M 0 o 0).bind fun x_3 =>
    (op_is M x_3 3).bind fun _ =>
    (f_X3_taken x_3 a3 a1 M).bind fun z_4 =>
    (op_gR M 0 o 0).bind fun x_5 =>
    (op_is M x_5 3).bind fun _ =>
    (f_X3_taken x_5 a3 a2 M).bind fun z_6 =>
    (op_gR M 0 o 2).bind fun x_10 =>
    (op_is M x_10 1).bind fun _ =>
    (f_X1_set x_10 ((((if a4 = a1 then z_4 else (0 : Int32)) + (if a4 = a2 then z_6 else (0 : Int32))) + (if a4 = a3 then ((((2 : Int32) * z_2) - z_4) - z_6) else (0 : Int32))).toInt64) ((2 : Int64) * z_2.toInt64) M).bind fun z_11 =>
    some z_11
set_option maxHeartbeats 4000000 in
set_option maxRecDepth 100000 in
theorem c_X0_propose (l : Launch) (D : va_G) (cA : Nat → ClassId) (ad : Nat → Nat) (o : Nat) (a1 : Int32) (a2 : Int32) (a3 : Int32) (a4 : Int32) (M : Mm) (zr : Mm) (hf : f_X0_propose o a1 a2 a3 a4 M = some zr) : KV l yX0_propose cX0_propose 10 none rm_X0_propose D cA ad [.ref (ad o), .int a1, .int a2, .int a3, .int a4] M zr := by
  refine KV_of (by decide) (Nat.le_of_ble_eq_true rfl) ?_
  intro p e s m args below meth c ls Q A H locs hZ hE hl hret
  have hx := hZ.1
  have hb := hZ.2.1
  have hown := hZ.2.2.2.1
  have hts := hZ.2.2.2.2.1
  have hl : lv_has ls 10 [(0, .ref (ad o)), (1, .int a1), (2, .int a2), (3, .int a3), (4, .int a4)] := hl
  unfold f_X0_propose at hf
  refine lv_aload_n hx hb dX0_propose_0 rfl (lv_at hl 0 rfl) ?_
  obtain ⟨x_1, g_1, hf⟩ := b_some hf
  refine xx_gR hZ hE k_X0 0 (by decide) rfl tw_111 g_1 dX0_propose_1 ?_
  refine lv_iload_n hx hb dX0_propose_4 rfl (lv_at hl 3 rfl) ?_
  obtain ⟨_, i_2, hf⟩ := b_some hf
  obtain ⟨z_2, c_2, hf⟩ := b_some hf
  refine xx_cVNi hZ hE (As := [.int a3]) (rest := []) k_X3 (is_m i_2) tw_127 tw_128 (c_X3_all l D cA ad x_1 a3 M _ c_2) cw_X3_all tw_126 ⟨rfl, rfl⟩ ⟨Nat.le_of_ble_eq_true rfl, Nat.le_of_ble_eq_true rfl⟩ rfl hl.1 rfl (Nat.le_of_ble_eq_true rfl) ⟨Nat.le_of_ble_eq_true rfl, Nat.le_of_ble_eq_true rfl⟩ dX0_propose_5 (fun H locs hE => ?_)
  refine lv_istore (lv' := [(5, .int z_2), (0, .ref (ad o)), (1, .int a1), (2, .int a2), (3, .int a3), (4, .int a4)]) hx hb dX0_propose_8 hl (by decide) rfl (fun ls hl => ?_)
  refine lv_aload_n hx hb dX0_propose_10 rfl (lv_at hl 1 rfl) ?_
  obtain ⟨x_3, g_3, hf⟩ := b_some hf
  refine xx_gR hZ hE k_X0 0 (by decide) rfl tw_111 g_3 dX0_propose_11 ?_
  refine lv_iload_n hx hb dX0_propose_14 rfl (lv_at hl 4 rfl) ?_
  refine lv_iload_n hx hb dX0_propose_15 rfl (lv_at hl 2 rfl) ?_
  obtain ⟨_, i_4, hf⟩ := b_some hf
  obtain ⟨z_4, c_4, hf⟩ := b_some hf
  refine xx_cVNi hZ hE (As := [.int a3, .int a1]) (rest := []) k_X3 (is_m i_4) tw_130 tw_131 (c_X3_taken l D cA ad x_3 a3 a1 M _ c_4) cw_X3_taken tw_129 ⟨rfl, rfl⟩ ⟨Nat.le_of_ble_eq_true rfl, Nat.le_of_ble_eq_true rfl⟩ rfl hl.1 rfl (Nat.le_of_ble_eq_true rfl) ⟨Nat.le_of_ble_eq_true rfl, Nat.le_of_ble_eq_true rfl⟩ dX0_propose_16 (fun H locs hE => ?_)
  refine lv_istore (lv' := [(6, .int z_4), (5, .int z_2), (0, .ref (ad o)), (1, .int a1), (2, .int a2), (3, .int a3), (4, .int a4)]) hx hb dX0_propose_19 hl (by decide) rfl (fun ls hl => ?_)
  refine lv_aload_n hx hb dX0_propose_21 rfl (lv_at hl 2 rfl) ?_
  obtain ⟨x_5, g_5, hf⟩ := b_some hf
  refine xx_gR hZ hE k_X0 0 (by decide) rfl tw_111 g_5 dX0_propose_22 ?_
  refine lv_iload_n hx hb dX0_propose_25 rfl (lv_at hl 5 rfl) ?_
  refine lv_iload_n hx hb dX0_propose_26 rfl (lv_at hl 4 rfl) ?_
  obtain ⟨_, i_6, hf⟩ := b_some hf
  obtain ⟨z_6, c_6, hf⟩ := b_some hf
  refine xx_cVNi hZ hE (As := [.int a3, .int a2]) (rest := []) k_X3 (is_m i_6) tw_130 tw_131 (c_X3_taken l D cA ad x_5 a3 a2 M _ c_6) cw_X3_taken tw_129 ⟨rfl, rfl⟩ ⟨Nat.le_of_ble_eq_true rfl, Nat.le_of_ble_eq_true rfl⟩ rfl hl.1 rfl (Nat.le_of_ble_eq_true rfl) ⟨Nat.le_of_ble_eq_true rfl, Nat.le_of_ble_eq_true rfl⟩ dX0_propose_27 (fun H locs hE => ?_)
  refine lv_istore (lv' := [(7, .int z_6), (6, .int z_4), (5, .int z_2), (0, .ref (ad o)), (1, .int a1), (2, .int a2), (3, .int a3), (4, .int a4)]) hx hb dX0_propose_30 hl (by decide) rfl (fun ls hl => ?_)
  refine lv_iload hx hb dX0_propose_32 (lv_at hl 7 rfl) ?_
  refine lv_iload_n hx hb dX0_propose_34 rfl (lv_at hl 4 rfl) ?_
  have q_7 : ∀ x_7 : Int32, x_7 = (if a4 = a1 then z_4 else (0 : Int32)) → W p l e rm_X0_propose s m args below meth c H locs 0 0 Q (F0 m 44 ls [.int x_7]) := by
    intro x_7 e_7
    subst e_7
    refine lv_iload hx hb dX0_propose_44 (lv_at hl 7 rfl) ?_
    refine lv_iload_n hx hb dX0_propose_46 rfl (lv_at hl 5 rfl) ?_
    have q_8 : ∀ x_8 : Int32, x_8 = (if a4 = a2 then z_6 else (0 : Int32)) → W p l e rm_X0_propose s m args below meth c H locs 0 0 Q (F0 m 56 ls [.int x_8, .int (if a4 = a1 then z_4 else (0 : Int32))]) := by
      intro x_8 e_8
      subst e_8
      refine lv_iadd hx hb dX0_propose_56 ?_
      refine lv_istore (lv' := [(8, .int ((if a4 = a1 then z_4 else (0 : Int32)) + (if a4 = a2 then z_6 else (0 : Int32)))), (7, .int z_6), (6, .int z_4), (5, .int z_2), (0, .ref (ad o)), (1, .int a1), (2, .int a2), (3, .int a3), (4, .int a4)]) hx hb dX0_propose_57 hl (by decide) rfl (fun ls hl => ?_)
      refine lv_iload hx hb dX0_propose_59 (lv_at hl 8 rfl) ?_
      refine lv_iload_n hx hb dX0_propose_61 rfl (lv_at hl 7 rfl) ?_
      have q_9 : ∀ x_9 : Int32, x_9 = (if a4 = a3 then ((((2 : Int32) * z_2) - z_4) - z_6) else (0 : Int32)) → W p l e rm_X0_propose s m args below meth c H locs 0 0 Q (F0 m 79 ls [.int x_9]) := by
        intro x_9 e_9
        subst e_9
        refine lv_istore (lv' := [(9, .int (if a4 = a3 then ((((2 : Int32) * z_2) - z_4) - z_6) else (0 : Int32))), (8, .int ((if a4 = a1 then z_4 else (0 : Int32)) + (if a4 = a2 then z_6 else (0 : Int32)))), (7, .int z_6), (6, .int z_4), (5, .int z_2), (0, .ref (ad o)), (1, .int a1), (2, .int a2), (3, .int a3), (4, .int a4)]) hx hb dX0_propose_79 hl (by decide) rfl (fun ls hl => ?_)
        refine lv_aload_n hx hb dX0_propose_81 rfl (lv_at hl 5 rfl) ?_
        obtain ⟨x_10, g_10, hf⟩ := b_some hf
        refine xx_gR hZ hE k_X0 2 (by decide) rfl tw_115 g_10 dX0_propose_82 ?_
        refine lv_iload hx hb dX0_propose_85 (lv_at hl 1 rfl) ?_
        refine lv_iload hx hb dX0_propose_87 (lv_at hl 0 rfl) ?_
        refine lv_iadd hx hb dX0_propose_89 ?_
        refine lv_i2l hx hb dX0_propose_90 rfl ?_
        refine lv_ldc2 (v := 2) hx hb hown (hts _ tw_132) dX0_propose_91 ?_
        refine lv_iload hx hb dX0_propose_94 (lv_at hl 4 rfl) ?_
        refine lv_i2l hx hb dX0_propose_96 rfl ?_
        refine lv_lmul hx hb dX0_propose_97 ?_
        obtain ⟨_, i_11, hf⟩ := b_some hf
        obtain ⟨z_11, c_11, hf⟩ := b_some hf
        refine xx_cVNv hZ hE (As := [.long ((((if a4 = a1 then z_4 else (0 : Int32)) + (if a4 = a2 then z_6 else (0 : Int32))) + (if a4 = a3 then ((((2 : Int32) * z_2) - z_4) - z_6) else (0 : Int32))).toInt64), .long ((2 : Int64) * z_2.toInt64)]) (rest := []) k_X1 (is_m i_11) tw_121 tw_122 (c_X1_set l D cA ad x_10 ((((if a4 = a1 then z_4 else (0 : Int32)) + (if a4 = a2 then z_6 else (0 : Int32))) + (if a4 = a3 then ((((2 : Int32) * z_2) - z_4) - z_6) else (0 : Int32))).toInt64) ((2 : Int64) * z_2.toInt64) M _ c_11) cw_X1_set tw_120 ⟨rfl, rfl⟩ ⟨Nat.le_of_ble_eq_true rfl, Nat.le_of_ble_eq_true rfl⟩ rfl hl.1 rfl (Nat.le_of_ble_eq_true rfl) ⟨Nat.le_of_ble_eq_true rfl, Nat.le_of_ble_eq_true rfl⟩ dX0_propose_98 (fun H locs hE => ?_)
        exact hret _ _ _ _ _ (Option.some.inj hf) dX0_propose_101 hE
      refine lv_icmp_ne (tgt := 78) hx hb dX0_propose_62 (by decide) (fun h_12 => ?_) (fun h_12 => ?_)
      · refine lv_iconst (v := 0) hx hb dX0_propose_78 (by decide) ?_
        exact q_9 _ (by rw [if_neg h_12])
      · refine lv_iconst (v := 2) hx hb dX0_propose_65 (by decide) ?_
        refine lv_iload hx hb dX0_propose_66 (lv_at hl 3 rfl) ?_
        refine lv_imul hx hb dX0_propose_68 ?_
        refine lv_iload hx hb dX0_propose_69 (lv_at hl 2 rfl) ?_
        refine lv_isub hx hb dX0_propose_71 ?_
        refine lv_iload hx hb dX0_propose_72 (lv_at hl 1 rfl) ?_
        refine lv_isub hx hb dX0_propose_74 ?_
        refine lv_goto (tgt := 79) hx hb dX0_propose_75 (by decide) ?_
        exact q_9 _ (by rw [if_pos h_12])
    refine lv_icmp_ne (tgt := 55) hx hb dX0_propose_47 (by decide) (fun h_13 => ?_) (fun h_13 => ?_)
    · refine lv_iconst (v := 0) hx hb dX0_propose_55 (by decide) ?_
      exact q_8 _ (by rw [if_neg h_13])
    · refine lv_iload hx hb dX0_propose_50 (lv_at hl 0 rfl) ?_
      refine lv_goto (tgt := 56) hx hb dX0_propose_52 (by decide) ?_
      exact q_8 _ (by rw [if_pos h_13])
  refine lv_icmp_ne (tgt := 43) hx hb dX0_propose_35 (by decide) (fun h_14 => ?_) (fun h_14 => ?_)
  · refine lv_iconst (v := 0) hx hb dX0_propose_43 (by decide) ?_
    exact q_7 _ (by rw [if_neg h_14])
  · refine lv_iload hx hb dX0_propose_38 (lv_at hl 1 rfl) ?_
    refine lv_goto (tgt := 44) hx hb dX0_propose_40 (by decide) ?_
    exact q_7 _ (by rw [if_pos h_14])
def rm_X3_exchanged : Room := { frames := 1, cells := 0, slots := 0, locals := 22 }
def f_X3_exchanged (o : Nat) (a1 : Int32) (a2 : Int32) (a3 : Int32) (M : Mm) : Option (Int32) :=
    (op_is M o 3).bind fun _ =>
    (f_X3_valueAt o a1 a3 M).bind fun z_1 =>
    (op_is M o 3).bind fun _ =>
    (f_X3_valueAt o a1 a2 M).bind fun z_2 =>
    (op_gR M 3 o 3).bind fun x_3 =>
    (op_aI M x_3 a2).bind fun x_4 =>
    (op_gR M 3 o 3).bind fun x_5 =>
    (op_aI M x_5 a3).bind fun x_6 =>
    some ((a1 + ((z_1 - z_2) * x_4)) - ((z_1 - z_2) * x_6))
set_option maxHeartbeats 4000000 in
set_option maxRecDepth 100000 in
theorem c_X3_exchanged (l : Launch) (D : va_G) (cA : Nat → ClassId) (ad : Nat → Nat) (o : Nat) (a1 : Int32) (a2 : Int32) (a3 : Int32) (M : Mm) (zr : Int32) (hf : f_X3_exchanged o a1 a2 a3 M = some zr) : KI l yX3_exchanged cX3_exchanged 5 (some .int) rm_X3_exchanged D cA ad [.ref (ad o), .int a1, .int a2, .int a3] M zr M := by
  refine KI_of (by decide) (Nat.le_of_ble_eq_true rfl) ?_
  intro p e s m args below meth c ls Q A H locs hZ hE hl hret
  have hx := hZ.1
  have hb := hZ.2.1
  have hown := hZ.2.2.2.1
  have hts := hZ.2.2.2.2.1
  have hl : lv_has ls 5 [(0, .ref (ad o)), (1, .int a1), (2, .int a2), (3, .int a3)] := hl
  unfold f_X3_exchanged at hf
  refine lv_aload_n hx hb dX3_exchanged_0 rfl (lv_at hl 0 rfl) ?_
  refine lv_iload_n hx hb dX3_exchanged_1 rfl (lv_at hl 1 rfl) ?_
  refine lv_iload_n hx hb dX3_exchanged_2 rfl (lv_at hl 3 rfl) ?_
  obtain ⟨_, i_1, hf⟩ := b_some hf
  obtain ⟨z_1, c_1, hf⟩ := b_some hf
  refine xx_cVi hZ hE (As := [.int a1, .int a3]) (rest := []) k_X3 (is_m i_1) tw_55 tw_56 (c_X3_valueAt l D cA ad o a1 a3 M _ c_1) cw_X3_valueAt tw_101 ⟨rfl, rfl⟩ ⟨Nat.le_of_ble_eq_true rfl, Nat.le_of_ble_eq_true rfl⟩ rfl hl.1 rfl (Nat.le_of_ble_eq_true rfl) ⟨Nat.le_of_ble_eq_true rfl, Nat.le_of_ble_eq_true rfl⟩ dX3_exchanged_3 (fun H locs hE => ?_)
  refine lv_aload_n hx hb dX3_exchanged_6 rfl (lv_at hl 0 rfl) ?_
  refine lv_iload_n hx hb dX3_exchanged_7 rfl (lv_at hl 1 rfl) ?_
  refine lv_iload_n hx hb dX3_exchanged_8 rfl (lv_at hl 2 rfl) ?_
  obtain ⟨_, i_2, hf⟩ := b_some hf
  obtain ⟨z_2, c_2, hf⟩ := b_some hf
  refine xx_cVi hZ hE (As := [.int a1, .int a2]) (rest := [.int z_1]) k_X3 (is_m i_2) tw_55 tw_56 (c_X3_valueAt l D cA ad o a1 a2 M _ c_2) cw_X3_valueAt tw_101 ⟨rfl, rfl⟩ ⟨Nat.le_of_ble_eq_true rfl, Nat.le_of_ble_eq_true rfl⟩ rfl hl.1 rfl (Nat.le_of_ble_eq_true rfl) ⟨Nat.le_of_ble_eq_true rfl, Nat.le_of_ble_eq_true rfl⟩ dX3_exchanged_9 (fun H locs hE => ?_)
  refine lv_isub hx hb dX3_exchanged_12 ?_
  refine lv_istore (lv' := [(4, .int (z_1 - z_2)), (0, .ref (ad o)), (1, .int a1), (2, .int a2), (3, .int a3)]) hx hb dX3_exchanged_13 hl (by decide) rfl (fun ls hl => ?_)
  refine lv_iload_n hx hb dX3_exchanged_15 rfl (lv_at hl 2 rfl) ?_
  refine lv_iload hx hb dX3_exchanged_16 (lv_at hl 0 rfl) ?_
  refine lv_aload_n hx hb dX3_exchanged_18 rfl (lv_at hl 1 rfl) ?_
  obtain ⟨x_3, g_3, hf⟩ := b_some hf
  refine xx_gR hZ hE k_X3 3 (by decide) rfl tw_9 g_3 dX3_exchanged_19 ?_
  refine lv_iload_n hx hb dX3_exchanged_22 rfl (lv_at hl 3 rfl) ?_
  obtain ⟨x_4, g_4, hf⟩ := b_some hf
  refine xx_aI hZ hE g_4 dX3_exchanged_23 ?_
  refine lv_imul hx hb dX3_exchanged_24 ?_
  refine lv_iadd hx hb dX3_exchanged_25 ?_
  refine lv_iload hx hb dX3_exchanged_26 (lv_at hl 0 rfl) ?_
  refine lv_aload_n hx hb dX3_exchanged_28 rfl (lv_at hl 1 rfl) ?_
  obtain ⟨x_5, g_5, hf⟩ := b_some hf
  refine xx_gR hZ hE k_X3 3 (by decide) rfl tw_9 g_5 dX3_exchanged_29 ?_
  refine lv_iload_n hx hb dX3_exchanged_32 rfl (lv_at hl 4 rfl) ?_
  obtain ⟨x_6, g_6, hf⟩ := b_some hf
  refine xx_aI hZ hE g_6 dX3_exchanged_33 ?_
  refine lv_imul hx hb dX3_exchanged_34 ?_
  refine lv_isub hx hb dX3_exchanged_35 ?_
  exact hret _ _ _ _ _ _ (Option.some.inj hf) rfl rfl dX3_exchanged_36 hE
def rm_X3_pull : Room := { frames := 1, cells := 0, slots := 0, locals := 22 }
def f_X3_pull (o : Nat) (a1 : Nat) (a2 : Int32) (a3 : Int32) (M : Mm) : Option (Int64) :=
    (op_gR M 3 o 5).bind fun x_1 =>
    (op_aI M x_1 a3).bind fun x_2 =>
    (op_is M a1 2).bind fun _ =>
    (f_X2_toldOf a1 a3 a2 M).bind fun z_3 =>
    (op_gR M 2 a1 7).bind fun x_4 =>
    (op_aI M x_4 a2).bind fun x_5 =>
    some ((x_2.toInt64 * z_3.toInt64) * x_5.toInt64)
set_option maxHeartbeats 4000000 in
set_option maxRecDepth 100000 in
theorem c_X3_pull (l : Launch) (D : va_G) (cA : Nat → ClassId) (ad : Nat → Nat) (o : Nat) (a1 : Nat) (a2 : Int32) (a3 : Int32) (M : Mm) (zr : Int64) (hf : f_X3_pull o a1 a2 a3 M = some zr) : KL l yX3_pull cX3_pull 4 (some .long) rm_X3_pull D cA ad [.ref (ad o), .ref (ad a1), .int a2, .int a3] M zr M := by
  refine KL_of (by decide) (Nat.le_of_ble_eq_true rfl) ?_
  intro p e s m args below meth c ls Q A H locs hZ hE hl hret
  have hx := hZ.1
  have hb := hZ.2.1
  have hown := hZ.2.2.2.1
  have hts := hZ.2.2.2.2.1
  have hl : lv_has ls 4 [(0, .ref (ad o)), (1, .ref (ad a1)), (2, .int a2), (3, .int a3)] := hl
  unfold f_X3_pull at hf
  refine lv_aload_n hx hb dX3_pull_0 rfl (lv_at hl 0 rfl) ?_
  obtain ⟨x_1, g_1, hf⟩ := b_some hf
  refine xx_gR hZ hE k_X3 5 (by decide) rfl tw_12 g_1 dX3_pull_1 ?_
  refine lv_iload_n hx hb dX3_pull_4 rfl (lv_at hl 3 rfl) ?_
  obtain ⟨x_2, g_2, hf⟩ := b_some hf
  refine xx_aI hZ hE g_2 dX3_pull_5 ?_
  refine lv_i2l hx hb dX3_pull_6 rfl ?_
  refine lv_aload_n hx hb dX3_pull_7 rfl (lv_at hl 1 rfl) ?_
  refine lv_iload_n hx hb dX3_pull_8 rfl (lv_at hl 3 rfl) ?_
  refine lv_iload_n hx hb dX3_pull_9 rfl (lv_at hl 2 rfl) ?_
  obtain ⟨_, i_3, hf⟩ := b_some hf
  obtain ⟨z_3, c_3, hf⟩ := b_some hf
  refine xx_cVNi hZ hE (As := [.int a3, .int a2]) (rest := [.long x_2.toInt64]) k_X2 (is_m i_3) tw_90 tw_91 (c_X2_toldOf l D cA ad a1 a3 a2 M _ c_3) cw_X2_toldOf tw_133 ⟨rfl, rfl⟩ ⟨Nat.le_of_ble_eq_true rfl, Nat.le_of_ble_eq_true rfl⟩ rfl hl.1 rfl (Nat.le_of_ble_eq_true rfl) ⟨Nat.le_of_ble_eq_true rfl, Nat.le_of_ble_eq_true rfl⟩ dX3_pull_10 (fun H locs hE => ?_)
  refine lv_i2l hx hb dX3_pull_13 rfl ?_
  refine lv_lmul hx hb dX3_pull_14 ?_
  refine lv_aload_n hx hb dX3_pull_15 rfl (lv_at hl 1 rfl) ?_
  obtain ⟨x_4, g_4, hf⟩ := b_some hf
  refine xx_gRN hZ hE k_X2 7 (by decide) rfl tw_134 g_4 dX3_pull_16 ?_
  refine lv_iload_n hx hb dX3_pull_19 rfl (lv_at hl 2 rfl) ?_
  obtain ⟨x_5, g_5, hf⟩ := b_some hf
  refine xx_aI hZ hE g_5 dX3_pull_20 ?_
  refine lv_i2l hx hb dX3_pull_21 rfl ?_
  refine lv_lmul hx hb dX3_pull_22 ?_
  exact hret _ _ _ _ _ _ (Option.some.inj hf) rfl dX3_pull_23 hE
def rm_X0_tellOther : Room := { frames := 2, cells := 0, slots := 0, locals := 56 }
def f_X0_tellOther (o : Nat) (a1 : Nat) (a2 : Int32) (a3 : Int32) (a4 : Nat) (M : Mm) : Option (Mm) :=
    (op_is M a1 2).bind fun _ =>
    (f_X2_toldOf a1 a2 a3 M).bind fun z_1 =>
    (op_gR M 2 a1 7).bind fun x_2 =>
    (op_aI M x_2 a2).bind fun x_3 =>
    (op_gR M 0 o 0).bind fun x_4 =>
    (op_is M x_4 3).bind fun _ =>
    (f_X3_pull x_4 a1 a2 a3 M).bind fun z_5 =>
    (op_gR M 0 o 0).bind fun x_6 =>
    (op_is M x_6 3).bind fun _ =>
    (f_X3_pull x_6 a1 a3 a2 M).bind fun z_7 =>
    (op_gR M 0 o 0).bind fun x_8 =>
    (op_gR M 3 x_8 5).bind fun x_9 =>
    (op_aI M x_9 a2).bind fun x_10 =>
    if z_1.toInt64 = (0 : Int64) then
    (op_is M a4 1).bind fun _ =>
    (f_X1_set a4 (0 : Int64) (1 : Int64) M).bind fun z_13 =>
    some z_13
    else
    if (if x_10 = 0 then (1 : Int32) else (0 : Int32)) = 0 then
    if z_5 = (0 : Int64) then
    (op_is M a4 1).bind fun _ =>
    (f_X1_set a4 (0 : Int64) (1 : Int64) M).bind fun z_26 =>
    some z_26
    else
    if (if x_10 = 0 then (1 : Int32) else (0 : Int32)) = 0 then
    if z_5 < z_7 then
    (op_is M a4 1).bind fun _ =>
    (f_X1_set a4 (z_1.toInt64 * z_5) (x_3.toInt64 * z_7) M).bind fun z_24 =>
    some z_24
    else
    (op_is M a4 1).bind fun _ =>
    (f_X1_set a4 z_1.toInt64 x_3.toInt64 M).bind fun z_25 =>
    some z_25
    else
    (op_is M a4 1).bind fun _ =>
    (f_X1_set a4 z_1.toInt64 x_3.toInt64 M).bind fun z_22 =>
    some z_22
    else
    if (if x_10 = 0 then (1 : Int32) else (0 : Int32)) = 0 then
    if z_5 < z_7 then
    (op_is M a4 1).bind fun _ =>
    (f_X1_set a4 (z_1.toInt64 * z_5) (x_3.toInt64 * z_7) M).bind fun z_18 =>
    some z_18
    else
    (op_is M a4 1).bind fun _ =>
    (f_X1_set a4 z_1.toInt64 x_3.toInt64 M).bind fun z_19 =>
    some z_19
    else
    (op_is M a4 1).bind fun _ =>
    (f_X1_set a4 z_1.toInt64 x_3.toInt64 M).bind fun z_16 =>
    some z_16
set_option maxHeartbeats 4000000 in
set_option maxRecDepth 100000 in
theorem c_X0_tellOther (l : Launch) (D : va_G) (cA : Nat → ClassId) (ad : Nat → Nat) (o : Nat) (a1 : Nat) (a2 : Int32) (a3 : Int32) (a4 : Nat) (M : Mm) (zr : Mm) (hf : f_X0_tellOther o a1 a2 a3 a4 M = some zr) : KV l yX0_tellOther cX0_tellOther 14 none rm_X0_tellOther D cA ad [.ref (ad o), .ref (ad a1), .int a2, .int a3, .ref (ad a4)] M zr := by
  refine KV_of (by decide) (Nat.le_of_ble_eq_true rfl) ?_
  intro p e s m args below meth c ls Q A H locs hZ hE hl hret
  have hx := hZ.1
  have hb := hZ.2.1
  have hown := hZ.2.2.2.1
  have hts := hZ.2.2.2.2.1
  have hl : lv_has ls 14 [(0, .ref (ad o)), (1, .ref (ad a1)), (2, .int a2), (3, .int a3), (4, .ref (ad a4))] := hl
  unfold f_X0_tellOther at hf
  refine lv_aload_n hx hb dX0_tellOther_0 rfl (lv_at hl 1 rfl) ?_
  refine lv_iload_n hx hb dX0_tellOther_1 rfl (lv_at hl 2 rfl) ?_
  refine lv_iload_n hx hb dX0_tellOther_2 rfl (lv_at hl 3 rfl) ?_
  obtain ⟨_, i_1, hf⟩ := b_some hf
  obtain ⟨z_1, c_1, hf⟩ := b_some hf
  refine xx_cVNi hZ hE (As := [.int a2, .int a3]) (rest := []) k_X2 (is_m i_1) tw_90 tw_91 (c_X2_toldOf l D cA ad a1 a2 a3 M _ c_1) cw_X2_toldOf tw_135 ⟨rfl, rfl⟩ ⟨Nat.le_of_ble_eq_true rfl, Nat.le_of_ble_eq_true rfl⟩ rfl hl.1 rfl (Nat.le_of_ble_eq_true rfl) ⟨Nat.le_of_ble_eq_true rfl, Nat.le_of_ble_eq_true rfl⟩ dX0_tellOther_3 (fun H locs hE => ?_)
  refine lv_i2l hx hb dX0_tellOther_6 rfl ?_
  refine lv_lstore (lv' := [(5, .long z_1.toInt64), (0, .ref (ad o)), (1, .ref (ad a1)), (2, .int a2), (3, .int a3), (4, .ref (ad a4))]) hx hb dX0_tellOther_7 hl (by decide) rfl (fun ls hl => ?_)
  refine lv_aload_n hx hb dX0_tellOther_9 rfl (lv_at hl 2 rfl) ?_
  obtain ⟨x_2, g_2, hf⟩ := b_some hf
  refine xx_gRN hZ hE k_X2 7 (by decide) rfl tw_136 g_2 dX0_tellOther_10 ?_
  refine lv_iload_n hx hb dX0_tellOther_13 rfl (lv_at hl 3 rfl) ?_
  obtain ⟨x_3, g_3, hf⟩ := b_some hf
  refine xx_aI hZ hE g_3 dX0_tellOther_14 ?_
  refine lv_i2l hx hb dX0_tellOther_15 rfl ?_
  refine lv_lstore (lv' := [(7, .long x_3.toInt64), (5, .long z_1.toInt64), (0, .ref (ad o)), (1, .ref (ad a1)), (2, .int a2), (3, .int a3), (4, .ref (ad a4))]) hx hb dX0_tellOther_16 hl (by decide) rfl (fun ls hl => ?_)
  refine lv_aload_n hx hb dX0_tellOther_18 rfl (lv_at hl 2 rfl) ?_
  obtain ⟨x_4, g_4, hf⟩ := b_some hf
  refine xx_gR hZ hE k_X0 0 (by decide) rfl tw_111 g_4 dX0_tellOther_19 ?_
  refine lv_aload_n hx hb dX0_tellOther_22 rfl (lv_at hl 3 rfl) ?_
  refine lv_iload_n hx hb dX0_tellOther_23 rfl (lv_at hl 4 rfl) ?_
  refine lv_iload_n hx hb dX0_tellOther_24 rfl (lv_at hl 5 rfl) ?_
  obtain ⟨_, i_5, hf⟩ := b_some hf
  obtain ⟨z_5, c_5, hf⟩ := b_some hf
  refine xx_cVNl hZ hE (As := [.ref (ad a1), .int a2, .int a3]) (rest := []) k_X3 (is_m i_5) tw_138 tw_139 (c_X3_pull l D cA ad x_4 a1 a2 a3 M _ c_5) cw_X3_pull tw_137 ⟨rfl, rfl⟩ ⟨Nat.le_of_ble_eq_true rfl, Nat.le_of_ble_eq_true rfl⟩ rfl hl.1 rfl (Nat.le_of_ble_eq_true rfl) ⟨Nat.le_of_ble_eq_true rfl, Nat.le_of_ble_eq_true rfl⟩ dX0_tellOther_25 (fun H locs hE => ?_)
  refine lv_lstore (lv' := [(9, .long z_5), (7, .long x_3.toInt64), (5, .long z_1.toInt64), (0, .ref (ad o)), (1, .ref (ad a1)), (2, .int a2), (3, .int a3), (4, .ref (ad a4))]) hx hb dX0_tellOther_28 hl (by decide) rfl (fun ls hl => ?_)
  refine lv_aload_n hx hb dX0_tellOther_30 rfl (lv_at hl 3 rfl) ?_
  obtain ⟨x_6, g_6, hf⟩ := b_some hf
  refine xx_gR hZ hE k_X0 0 (by decide) rfl tw_111 g_6 dX0_tellOther_31 ?_
  refine lv_aload_n hx hb dX0_tellOther_34 rfl (lv_at hl 4 rfl) ?_
  refine lv_iload_n hx hb dX0_tellOther_35 rfl (lv_at hl 6 rfl) ?_
  refine lv_iload_n hx hb dX0_tellOther_36 rfl (lv_at hl 5 rfl) ?_
  obtain ⟨_, i_7, hf⟩ := b_some hf
  obtain ⟨z_7, c_7, hf⟩ := b_some hf
  refine xx_cVNl hZ hE (As := [.ref (ad a1), .int a3, .int a2]) (rest := []) k_X3 (is_m i_7) tw_138 tw_139 (c_X3_pull l D cA ad x_6 a1 a3 a2 M _ c_7) cw_X3_pull tw_137 ⟨rfl, rfl⟩ ⟨Nat.le_of_ble_eq_true rfl, Nat.le_of_ble_eq_true rfl⟩ rfl hl.1 rfl (Nat.le_of_ble_eq_true rfl) ⟨Nat.le_of_ble_eq_true rfl, Nat.le_of_ble_eq_true rfl⟩ dX0_tellOther_37 (fun H locs hE => ?_)
  refine lv_lstore (lv' := [(11, .long z_7), (9, .long z_5), (7, .long x_3.toInt64), (5, .long z_1.toInt64), (0, .ref (ad o)), (1, .ref (ad a1)), (2, .int a2), (3, .int a3), (4, .ref (ad a4))]) hx hb dX0_tellOther_40 hl (by decide) rfl (fun ls hl => ?_)
  refine lv_aload_n hx hb dX0_tellOther_42 rfl (lv_at hl 4 rfl) ?_
  obtain ⟨x_8, g_8, hf⟩ := b_some hf
  refine xx_gR hZ hE k_X0 0 (by decide) rfl tw_111 g_8 dX0_tellOther_43 ?_
  obtain ⟨x_9, g_9, hf⟩ := b_some hf
  refine xx_gRN hZ hE k_X3 5 (by decide) rfl tw_119 g_9 dX0_tellOther_46 ?_
  refine lv_iload_n hx hb dX0_tellOther_49 rfl (lv_at hl 6 rfl) ?_
  obtain ⟨x_10, g_10, hf⟩ := b_some hf
  refine xx_aI hZ hE g_10 dX0_tellOther_50 ?_
  have q_11 : ∀ x_11 : Int32, x_11 = (if x_10 = 0 then (1 : Int32) else (0 : Int32)) → W p l e rm_X0_tellOther s m args below meth c H locs 0 0 Q (F0 m 59 ls [.int x_11]) := by
    intro x_11 e_11
    subst e_11
    refine lv_istore (lv' := [(13, .int (if x_10 = 0 then (1 : Int32) else (0 : Int32))), (11, .long z_7), (9, .long z_5), (7, .long x_3.toInt64), (5, .long z_1.toInt64), (0, .ref (ad o)), (1, .ref (ad a1)), (2, .int a2), (3, .int a3), (4, .ref (ad a4))]) hx hb dX0_tellOther_59 hl (by decide) rfl (fun ls hl => ?_)
    refine lv_lload hx hb dX0_tellOther_61 (lv_at hl 4 rfl) ?_
    refine lv_lconst (v := 0) hx hb dX0_tellOther_63 (by decide) ?_
    refine xx_leq (tgt := 80) hx hb dX0_tellOther_64 dX0_tellOther_65 (by decide) (fun h_12 => ?_) (fun h_12 => ?_)
    · have hf := it_y h_12 hf
      refine lv_aload hx hb dX0_tellOther_80 (lv_at hl 9 rfl) ?_
      refine lv_lconst (v := 0) hx hb dX0_tellOther_82 (by decide) ?_
      refine lv_lconst (v := 1) hx hb dX0_tellOther_83 (by decide) ?_
      obtain ⟨_, i_13, hf⟩ := b_some hf
      obtain ⟨z_13, c_13, hf⟩ := b_some hf
      refine xx_cVNv hZ hE (As := [.long (0 : Int64), .long (1 : Int64)]) (rest := []) k_X1 (is_m i_13) tw_121 tw_122 (c_X1_set l D cA ad a4 (0 : Int64) (1 : Int64) M _ c_13) cw_X1_set tw_120 ⟨rfl, rfl⟩ ⟨Nat.le_of_ble_eq_true rfl, Nat.le_of_ble_eq_true rfl⟩ rfl hl.1 rfl (Nat.le_of_ble_eq_true rfl) ⟨Nat.le_of_ble_eq_true rfl, Nat.le_of_ble_eq_true rfl⟩ dX0_tellOther_84 (fun H locs hE => ?_)
      refine lv_goto (tgt := 130) hx hb dX0_tellOther_87 (by decide) ?_
      exact hret _ _ _ _ _ (Option.some.inj hf) dX0_tellOther_130 hE
    · have hf := it_n h_12 hf
      refine lv_iload hx hb dX0_tellOther_68 (lv_at hl 0 rfl) ?_
      refine lv_if_ne (tgt := 90) hx hb dX0_tellOther_70 (by decide) (fun h_14 => ?_) (fun h_14 => ?_)
      · have hf := it_n h_14 hf
        refine lv_iload hx hb dX0_tellOther_90 (lv_at hl 0 rfl) ?_
        refine lv_if_ne (tgt := 103) hx hb dX0_tellOther_92 (by decide) (fun h_15 => ?_) (fun h_15 => ?_)
        · have hf := it_n h_15 hf
          refine lv_aload hx hb dX0_tellOther_103 (lv_at hl 9 rfl) ?_
          refine lv_lload hx hb dX0_tellOther_105 (lv_at hl 4 rfl) ?_
          refine lv_lload hx hb dX0_tellOther_107 (lv_at hl 3 rfl) ?_
          obtain ⟨_, i_16, hf⟩ := b_some hf
          obtain ⟨z_16, c_16, hf⟩ := b_some hf
          refine xx_cVNv hZ hE (As := [.long z_1.toInt64, .long x_3.toInt64]) (rest := []) k_X1 (is_m i_16) tw_121 tw_122 (c_X1_set l D cA ad a4 z_1.toInt64 x_3.toInt64 M _ c_16) cw_X1_set tw_120 ⟨rfl, rfl⟩ ⟨Nat.le_of_ble_eq_true rfl, Nat.le_of_ble_eq_true rfl⟩ rfl hl.1 rfl (Nat.le_of_ble_eq_true rfl) ⟨Nat.le_of_ble_eq_true rfl, Nat.le_of_ble_eq_true rfl⟩ dX0_tellOther_109 (fun H locs hE => ?_)
          refine lv_goto (tgt := 130) hx hb dX0_tellOther_112 (by decide) ?_
          exact hret _ _ _ _ _ (Option.some.inj hf) dX0_tellOther_130 hE
        · have hf := it_y h_15 hf
          refine lv_lload hx hb dX0_tellOther_95 (lv_at hl 2 rfl) ?_
          refine lv_lload hx hb dX0_tellOther_97 (lv_at hl 1 rfl) ?_
          refine xx_llt (tgt := 115) hx hb dX0_tellOther_99 dX0_tellOther_100 (by decide) (fun h_17 => ?_) (fun h_17 => ?_)
          · have hf := it_y h_17 hf
            refine lv_aload hx hb dX0_tellOther_115 (lv_at hl 9 rfl) ?_
            refine lv_lload hx hb dX0_tellOther_117 (lv_at hl 4 rfl) ?_
            refine lv_lload hx hb dX0_tellOther_119 (lv_at hl 2 rfl) ?_
            refine lv_lmul hx hb dX0_tellOther_121 ?_
            refine lv_lload hx hb dX0_tellOther_122 (lv_at hl 3 rfl) ?_
            refine lv_lload hx hb dX0_tellOther_124 (lv_at hl 1 rfl) ?_
            refine lv_lmul hx hb dX0_tellOther_126 ?_
            obtain ⟨_, i_18, hf⟩ := b_some hf
            obtain ⟨z_18, c_18, hf⟩ := b_some hf
            refine xx_cVNv hZ hE (As := [.long (z_1.toInt64 * z_5), .long (x_3.toInt64 * z_7)]) (rest := []) k_X1 (is_m i_18) tw_121 tw_122 (c_X1_set l D cA ad a4 (z_1.toInt64 * z_5) (x_3.toInt64 * z_7) M _ c_18) cw_X1_set tw_120 ⟨rfl, rfl⟩ ⟨Nat.le_of_ble_eq_true rfl, Nat.le_of_ble_eq_true rfl⟩ rfl hl.1 rfl (Nat.le_of_ble_eq_true rfl) ⟨Nat.le_of_ble_eq_true rfl, Nat.le_of_ble_eq_true rfl⟩ dX0_tellOther_127 (fun H locs hE => ?_)
            exact hret _ _ _ _ _ (Option.some.inj hf) dX0_tellOther_130 hE
          · have hf := it_n h_17 hf
            refine lv_aload hx hb dX0_tellOther_103 (lv_at hl 9 rfl) ?_
            refine lv_lload hx hb dX0_tellOther_105 (lv_at hl 4 rfl) ?_
            refine lv_lload hx hb dX0_tellOther_107 (lv_at hl 3 rfl) ?_
            obtain ⟨_, i_19, hf⟩ := b_some hf
            obtain ⟨z_19, c_19, hf⟩ := b_some hf
            refine xx_cVNv hZ hE (As := [.long z_1.toInt64, .long x_3.toInt64]) (rest := []) k_X1 (is_m i_19) tw_121 tw_122 (c_X1_set l D cA ad a4 z_1.toInt64 x_3.toInt64 M _ c_19) cw_X1_set tw_120 ⟨rfl, rfl⟩ ⟨Nat.le_of_ble_eq_true rfl, Nat.le_of_ble_eq_true rfl⟩ rfl hl.1 rfl (Nat.le_of_ble_eq_true rfl) ⟨Nat.le_of_ble_eq_true rfl, Nat.le_of_ble_eq_true rfl⟩ dX0_tellOther_109 (fun H locs hE => ?_)
            refine lv_goto (tgt := 130) hx hb dX0_tellOther_112 (by decide) ?_
            exact hret _ _ _ _ _ (Option.some.inj hf) dX0_tellOther_130 hE
      · have hf := it_y h_14 hf
        refine lv_lload hx hb dX0_tellOther_73 (lv_at hl 2 rfl) ?_
        refine lv_lconst (v := 0) hx hb dX0_tellOther_75 (by decide) ?_
        refine xx_lne (tgt := 90) hx hb dX0_tellOther_76 dX0_tellOther_77 (by decide) (fun h_20 => ?_) (fun h_20 => ?_)
        · have hf := it_n h_20 hf
          refine lv_iload hx hb dX0_tellOther_90 (lv_at hl 0 rfl) ?_
          refine lv_if_ne (tgt := 103) hx hb dX0_tellOther_92 (by decide) (fun h_21 => ?_) (fun h_21 => ?_)
          · have hf := it_n h_21 hf
            refine lv_aload hx hb dX0_tellOther_103 (lv_at hl 9 rfl) ?_
            refine lv_lload hx hb dX0_tellOther_105 (lv_at hl 4 rfl) ?_
            refine lv_lload hx hb dX0_tellOther_107 (lv_at hl 3 rfl) ?_
            obtain ⟨_, i_22, hf⟩ := b_some hf
            obtain ⟨z_22, c_22, hf⟩ := b_some hf
            refine xx_cVNv hZ hE (As := [.long z_1.toInt64, .long x_3.toInt64]) (rest := []) k_X1 (is_m i_22) tw_121 tw_122 (c_X1_set l D cA ad a4 z_1.toInt64 x_3.toInt64 M _ c_22) cw_X1_set tw_120 ⟨rfl, rfl⟩ ⟨Nat.le_of_ble_eq_true rfl, Nat.le_of_ble_eq_true rfl⟩ rfl hl.1 rfl (Nat.le_of_ble_eq_true rfl) ⟨Nat.le_of_ble_eq_true rfl, Nat.le_of_ble_eq_true rfl⟩ dX0_tellOther_109 (fun H locs hE => ?_)
            refine lv_goto (tgt := 130) hx hb dX0_tellOther_112 (by decide) ?_
            exact hret _ _ _ _ _ (Option.some.inj hf) dX0_tellOther_130 hE
          · have hf := it_y h_21 hf
            refine lv_lload hx hb dX0_tellOther_95 (lv_at hl 2 rfl) ?_
            refine lv_lload hx hb dX0_tellOther_97 (lv_at hl 1 rfl) ?_
            refine xx_llt (tgt := 115) hx hb dX0_tellOther_99 dX0_tellOther_100 (by decide) (fun h_23 => ?_) (fun h_23 => ?_)
            · have hf := it_y h_23 hf
              refine lv_aload hx hb dX0_tellOther_115 (lv_at hl 9 rfl) ?_
              refine lv_lload hx hb dX0_tellOther_117 (lv_at hl 4 rfl) ?_
              refine lv_lload hx hb dX0_tellOther_119 (lv_at hl 2 rfl) ?_
              refine lv_lmul hx hb dX0_tellOther_121 ?_
              refine lv_lload hx hb dX0_tellOther_122 (lv_at hl 3 rfl) ?_
              refine lv_lload hx hb dX0_tellOther_124 (lv_at hl 1 rfl) ?_
              refine lv_lmul hx hb dX0_tellOther_126 ?_
              obtain ⟨_, i_24, hf⟩ := b_some hf
              obtain ⟨z_24, c_24, hf⟩ := b_some hf
              refine xx_cVNv hZ hE (As := [.long (z_1.toInt64 * z_5), .long (x_3.toInt64 * z_7)]) (rest := []) k_X1 (is_m i_24) tw_121 tw_122 (c_X1_set l D cA ad a4 (z_1.toInt64 * z_5) (x_3.toInt64 * z_7) M _ c_24) cw_X1_set tw_120 ⟨rfl, rfl⟩ ⟨Nat.le_of_ble_eq_true rfl, Nat.le_of_ble_eq_true rfl⟩ rfl hl.1 rfl (Nat.le_of_ble_eq_true rfl) ⟨Nat.le_of_ble_eq_true rfl, Nat.le_of_ble_eq_true rfl⟩ dX0_tellOther_127 (fun H locs hE => ?_)
              exact hret _ _ _ _ _ (Option.some.inj hf) dX0_tellOther_130 hE
            · have hf := it_n h_23 hf
              refine lv_aload hx hb dX0_tellOther_103 (lv_at hl 9 rfl) ?_
              refine lv_lload hx hb dX0_tellOther_105 (lv_at hl 4 rfl) ?_
              refine lv_lload hx hb dX0_tellOther_107 (lv_at hl 3 rfl) ?_
              obtain ⟨_, i_25, hf⟩ := b_some hf
              obtain ⟨z_25, c_25, hf⟩ := b_some hf
              refine xx_cVNv hZ hE (As := [.long z_1.toInt64, .long x_3.toInt64]) (rest := []) k_X1 (is_m i_25) tw_121 tw_122 (c_X1_set l D cA ad a4 z_1.toInt64 x_3.toInt64 M _ c_25) cw_X1_set tw_120 ⟨rfl, rfl⟩ ⟨Nat.le_of_ble_eq_true rfl, Nat.le_of_ble_eq_true rfl⟩ rfl hl.1 rfl (Nat.le_of_ble_eq_true rfl) ⟨Nat.le_of_ble_eq_true rfl, Nat.le_of_ble_eq_true rfl⟩ dX0_tellOther_109 (fun H locs hE => ?_)
              refine lv_goto (tgt := 130) hx hb dX0_tellOther_112 (by decide) ?_
              exact hret _ _ _ _ _ (Option.some.inj hf) dX0_tellOther_130 hE
        · have hf := it_y h_20 hf
          refine lv_aload hx hb dX0_tellOther_80 (lv_at hl 9 rfl) ?_
          refine lv_lconst (v := 0) hx hb dX0_tellOther_82 (by decide) ?_
          refine lv_lconst (v := 1) hx hb dX0_tellOther_83 (by decide) ?_
          obtain ⟨_, i_26, hf⟩ := b_some hf
          obtain ⟨z_26, c_26, hf⟩ := b_some hf
          refine xx_cVNv hZ hE (As := [.long (0 : Int64), .long (1 : Int64)]) (rest := []) k_X1 (is_m i_26) tw_121 tw_122 (c_X1_set l D cA ad a4 (0 : Int64) (1 : Int64) M _ c_26) cw_X1_set tw_120 ⟨rfl, rfl⟩ ⟨Nat.le_of_ble_eq_true rfl, Nat.le_of_ble_eq_true rfl⟩ rfl hl.1 rfl (Nat.le_of_ble_eq_true rfl) ⟨Nat.le_of_ble_eq_true rfl, Nat.le_of_ble_eq_true rfl⟩ dX0_tellOther_84 (fun H locs hE => ?_)
          refine lv_goto (tgt := 130) hx hb dX0_tellOther_87 (by decide) ?_
          exact hret _ _ _ _ _ (Option.some.inj hf) dX0_tellOther_130 hE
  refine lv_if_ne (tgt := 58) hx hb dX0_tellOther_51 (by decide) (fun h_27 => ?_) (fun h_27 => ?_)
  · refine lv_iconst (v := 0) hx hb dX0_tellOther_58 (by decide) ?_
    exact q_11 _ (by rw [if_neg h_27])
  · refine lv_iconst (v := 1) hx hb dX0_tellOther_54 (by decide) ?_
    refine lv_goto (tgt := 59) hx hb dX0_tellOther_55 (by decide) ?_
    exact q_11 _ (by rw [if_pos h_27])
def rm_X1_fitProduct : Room := { frames := 0, cells := 0, slots := 0, locals := 0 }
def f_X1_fitProduct (a1 : Int64) (a2 : Int64) : Option (Int32) :=
    if a1 = (0 : Int64) then
    some (1 : Int32)
    else
    if a1 = 0 then none else
    if ((9223372036854775807 : Int64) / a1) < a2 then
    some (0 : Int32)
    else
    some (1 : Int32)
set_option maxHeartbeats 4000000 in
set_option maxRecDepth 100000 in
theorem c_X1_fitProduct (l : Launch) (D : va_G) (cA : Nat → ClassId) (ad : Nat → Nat) (a1 : Int64) (a2 : Int64) (M : Mm) (zr : Int32) (hf : f_X1_fitProduct a1 a2 = some zr) : KI l yX1_fitProduct cX1_fitProduct 4 (some .boolean) rm_X1_fitProduct D cA ad [.long a1, .long a2] M zr M := by
  refine KI_of (by decide) (Nat.le_of_ble_eq_true rfl) ?_
  intro p e s m args below meth c ls Q A H locs hZ hE hl hret
  have hx := hZ.1
  have hb := hZ.2.1
  have hown := hZ.2.2.2.1
  have hts := hZ.2.2.2.2.1
  have hl : lv_has ls 4 [(0, .long a1), (2, .long a2)] := hl
  unfold f_X1_fitProduct at hf
  refine lv_lload_n hx hb dX1_fitProduct_0 rfl (lv_at hl 0 rfl) ?_
  refine lv_lconst (v := 0) hx hb dX1_fitProduct_1 (by decide) ?_
  refine xx_leq (tgt := 16) hx hb dX1_fitProduct_2 dX1_fitProduct_3 (by decide) (fun h_1 => ?_) (fun h_1 => ?_)
  · have hf := it_y h_1 hf
    refine lv_iconst (v := 1) hx hb dX1_fitProduct_16 (by decide) ?_
    refine lv_goto (tgt := 21) hx hb dX1_fitProduct_17 (by decide) ?_
    exact hret _ _ _ _ _ _ (Option.some.inj hf) rfl rfl dX1_fitProduct_21 hE
  · have hf := it_n h_1 hf
    refine lv_lload_n hx hb dX1_fitProduct_6 rfl (lv_at hl 1 rfl) ?_
    refine lv_ldc2 (v := 9223372036854775807) hx hb hown (hts _ tw_140) dX1_fitProduct_7 ?_
    refine lv_lload_n hx hb dX1_fitProduct_10 rfl (lv_at hl 0 rfl) ?_
    obtain ⟨h_2, hf⟩ := e_some hf
    refine lv_ldiv hx hb dX1_fitProduct_11 h_2 ?_
    refine xx_lgt (tgt := 20) hx hb dX1_fitProduct_12 dX1_fitProduct_13 (by decide) (fun h_3 => ?_) (fun h_3 => ?_)
    · have hf := it_y h_3 hf
      refine lv_iconst (v := 0) hx hb dX1_fitProduct_20 (by decide) ?_
      exact hret _ _ _ _ _ _ (Option.some.inj hf) rfl rfl dX1_fitProduct_21 hE
    · have hf := it_n h_3 hf
      refine lv_iconst (v := 1) hx hb dX1_fitProduct_16 (by decide) ?_
      refine lv_goto (tgt := 21) hx hb dX1_fitProduct_17 (by decide) ?_
      exact hret _ _ _ _ _ _ (Option.some.inj hf) rfl rfl dX1_fitProduct_21 hE
def rm_X1_add : Room := { frames := 2, cells := 0, slots := 0, locals := 56 }
def f_X1_add (o : Nat) (a1 : Int32) (a2 : Nat) (M : Mm) : Option (Mm) :=
    (op_gI M 1 o 2).bind fun x_1 =>
    op_jn (fun (x_2_0 : Int32) =>
    (op_pZ M 1 o 2 x_2_0).bind fun M_6 =>
    (op_gI M_6 1 o 2).bind fun x_7 =>
    if x_7 = 0 then
    some M_6
    else
    (op_gL M_6 1 a2 0).bind fun x_9 =>
    if x_9 = (0 : Int64) then
    some M_6
    else
    (op_gL M_6 1 o 1).bind fun x_11 =>
    (op_gL M_6 1 a2 1).bind fun x_12 =>
    (f_X1_divisor x_11 x_12).bind fun z_13 =>
    (op_gL M_6 1 a2 1).bind fun x_14 =>
    if z_13 = 0 then none else
    (op_gL M_6 1 o 1).bind fun x_16 =>
    if z_13 = 0 then none else
    (op_gL M_6 1 o 0).bind fun x_18 =>
    (f_X1_fitProduct x_18 (x_14 / z_13)).bind fun z_19 =>
    op_jn (fun (x_20_0 : Int32) =>
    (op_pZ M_6 1 o 2 x_20_0).bind fun M_28 =>
    (op_gI M_28 1 o 2).bind fun x_29 =>
    if x_29 = 0 then
    some M_28
    else
    (op_gL M_28 1 o 0).bind fun x_31 =>
    (op_gL M_28 1 a2 0).bind fun x_32 =>
    (op_pZ M_28 1 o 2 (if a1 < 0 then (1 : Int32) else (if ((9223372036854775807 : Int64) - (x_32 * (x_16 / z_13))) < (x_31 * (x_14 / z_13)) then (0 : Int32) else (1 : Int32)))).bind fun M_34 =>
    (op_gI M_34 1 o 2).bind fun x_35 =>
    if x_35 = 0 then
    some M_34
    else
    (op_gL M_34 1 o 1).bind fun x_37 =>
    (op_is M_34 o 1).bind fun _ =>
    (f_X1_set o ((x_31 * (x_14 / z_13)) + (a1.toInt64 * (x_32 * (x_16 / z_13)))) (x_37 * (x_14 / z_13)) M_34).bind fun z_38 =>
    some z_38)
    fun j_20 =>
    if z_19 = 0 then
    j_20 (0 : Int32)
    else
    (op_gL M_6 1 a2 0).bind fun x_22 =>
    (f_X1_fitProduct x_22 (x_16 / z_13)).bind fun z_23 =>
    if z_23 = 0 then
    j_20 (0 : Int32)
    else
    (op_gL M_6 1 o 1).bind fun x_25 =>
    (f_X1_fitProduct x_25 (x_14 / z_13)).bind fun z_26 =>
    if z_26 = 0 then
    j_20 (0 : Int32)
    else
    j_20 (1 : Int32))
    fun j_2 =>
    if x_1 = 0 then
    j_2 (0 : Int32)
    else
    (op_gI M 1 a2 2).bind fun x_4 =>
    if x_4 = 0 then
    j_2 (0 : Int32)
    else
    j_2 (1 : Int32)
set_option maxHeartbeats 4000000 in
set_option maxRecDepth 100000 in
theorem c_X1_add (l : Launch) (D : va_G) (cA : Nat → ClassId) (ad : Nat → Nat) (o : Nat) (a1 : Int32) (a2 : Nat) (M : Mm) (zr : Mm) (hf : f_X1_add o a1 a2 M = some zr) : KV l yX1_add cX1_add 13 none rm_X1_add D cA ad [.ref (ad o), .int a1, .ref (ad a2)] M zr := by
  refine KV_of (by decide) (Nat.le_of_ble_eq_true rfl) ?_
  intro p e s m args below meth c ls Q A H locs hZ hE hl hret
  have hx := hZ.1
  have hb := hZ.2.1
  have hown := hZ.2.2.2.1
  have hts := hZ.2.2.2.2.1
  have hl : lv_has ls 13 [(0, .ref (ad o)), (1, .int a1), (2, .ref (ad a2))] := hl
  unfold f_X1_add at hf
  refine lv_aload_n hx hb dX1_add_0 rfl (lv_at hl 0 rfl) ?_
  refine lv_aload_n hx hb dX1_add_1 rfl (lv_at hl 0 rfl) ?_
  obtain ⟨x_1, g_1, hf⟩ := b_some hf
  refine xx_gI hZ hE k_X1 2 (by decide) rfl tw_110 g_1 dX1_add_2 ?_
  obtain ⟨j_2, ej_2, hf⟩ := jn_e hf
  have q_2 : ∀ (x_2_0 : Int32) (H : Heap) (locs : List Loc) (ls : Array Slot), j_2 x_2_0 = some zr → En D cA ad s A M H locs → lv_has ls 13 [(0, .ref (ad o)), (1, .int a1), (2, .ref (ad a2))] → W p l e rm_X1_add s m args below meth c H locs 0 0 Q (F0 m 20 ls [.int x_2_0, .ref (ad o)]) := by
    intro x_2_0 H locs ls hf hE hl
    rw [ej_2] at hf
    obtain ⟨M_6, g_6, hf⟩ := b_some hf
    refine xx_pZ hZ hE k_X1 2 (by decide) rfl rfl rfl tw_110 g_6 dX1_add_20 (fun H locs hE => ?_)
    refine lv_aload_n hx hb dX1_add_23 rfl (lv_at hl 0 rfl) ?_
    obtain ⟨x_7, g_7, hf⟩ := b_some hf
    refine xx_gI hZ hE k_X1 2 (by decide) rfl tw_110 g_7 dX1_add_24 ?_
    refine lv_if_eq (tgt := 39) hx hb dX1_add_27 (by decide) (fun h_8 => ?_) (fun h_8 => ?_)
    · have hf := it_y h_8 hf
      exact hret _ _ _ _ _ (Option.some.inj hf) dX1_add_39 hE
    · have hf := it_n h_8 hf
      refine lv_aload_n hx hb dX1_add_30 rfl (lv_at hl 2 rfl) ?_
      obtain ⟨x_9, g_9, hf⟩ := b_some hf
      refine xx_gL hZ hE k_X1 0 (by decide) rfl tw_108 g_9 dX1_add_31 ?_
      refine lv_lconst (v := 0) hx hb dX1_add_34 (by decide) ?_
      refine xx_lne (tgt := 40) hx hb dX1_add_35 dX1_add_36 (by decide) (fun h_10 => ?_) (fun h_10 => ?_)
      · have hf := it_n h_10 hf
        refine lv_aload_n hx hb dX1_add_40 rfl (lv_at hl 0 rfl) ?_
        obtain ⟨x_11, g_11, hf⟩ := b_some hf
        refine xx_gL hZ hE k_X1 1 (by decide) rfl tw_109 g_11 dX1_add_41 ?_
        refine lv_aload_n hx hb dX1_add_44 rfl (lv_at hl 2 rfl) ?_
        obtain ⟨x_12, g_12, hf⟩ := b_some hf
        refine xx_gL hZ hE k_X1 1 (by decide) rfl tw_109 g_12 dX1_add_45 ?_
        obtain ⟨z_13, c_13, hf⟩ := b_some hf
        refine xx_cSl hZ hE (As := [.long x_11, .long x_12]) (rest := []) tw_107 (c_X1_divisor l D cA ad x_11 x_12 M_6 _ c_13) cw_X1_divisor tw_105 ⟨rfl, rfl⟩ ⟨Nat.le_of_ble_eq_true rfl, Nat.le_of_ble_eq_true rfl⟩ rfl hl.1 rfl (Nat.le_of_ble_eq_true rfl) ⟨Nat.le_of_ble_eq_true rfl, Nat.le_of_ble_eq_true rfl⟩ dX1_add_48 (fun H locs hE => ?_)
        refine lv_lstore_n (lv' := [(3, .long z_13), (0, .ref (ad o)), (1, .int a1), (2, .ref (ad a2))]) hx hb dX1_add_51 rfl hl (by decide) rfl (fun ls hl => ?_)
        refine lv_aload_n hx hb dX1_add_52 rfl (lv_at hl 3 rfl) ?_
        obtain ⟨x_14, g_14, hf⟩ := b_some hf
        refine xx_gL hZ hE k_X1 1 (by decide) rfl tw_109 g_14 dX1_add_53 ?_
        refine lv_lload_n hx hb dX1_add_56 rfl (lv_at hl 0 rfl) ?_
        obtain ⟨h_15, hf⟩ := e_some hf
        refine lv_ldiv hx hb dX1_add_57 h_15 ?_
        refine lv_lstore (lv' := [(5, .long (x_14 / z_13)), (3, .long z_13), (0, .ref (ad o)), (1, .int a1), (2, .ref (ad a2))]) hx hb dX1_add_58 hl (by decide) rfl (fun ls hl => ?_)
        refine lv_aload_n hx hb dX1_add_60 rfl (lv_at hl 2 rfl) ?_
        obtain ⟨x_16, g_16, hf⟩ := b_some hf
        refine xx_gL hZ hE k_X1 1 (by decide) rfl tw_109 g_16 dX1_add_61 ?_
        refine lv_lload_n hx hb dX1_add_64 rfl (lv_at hl 1 rfl) ?_
        obtain ⟨h_17, hf⟩ := e_some hf
        refine lv_ldiv hx hb dX1_add_65 h_17 ?_
        refine lv_lstore (lv' := [(7, .long (x_16 / z_13)), (5, .long (x_14 / z_13)), (3, .long z_13), (0, .ref (ad o)), (1, .int a1), (2, .ref (ad a2))]) hx hb dX1_add_66 hl (by decide) rfl (fun ls hl => ?_)
        refine lv_aload_n hx hb dX1_add_68 rfl (lv_at hl 3 rfl) ?_
        refine lv_aload_n hx hb dX1_add_69 rfl (lv_at hl 3 rfl) ?_
        obtain ⟨x_18, g_18, hf⟩ := b_some hf
        refine xx_gL hZ hE k_X1 0 (by decide) rfl tw_108 g_18 dX1_add_70 ?_
        refine lv_lload hx hb dX1_add_73 (lv_at hl 1 rfl) ?_
        obtain ⟨z_19, c_19, hf⟩ := b_some hf
        refine xx_cSi hZ hE (As := [.long x_18, .long (x_14 / z_13)]) (rest := [.ref (ad o)]) tw_142 (c_X1_fitProduct l D cA ad x_18 (x_14 / z_13) M_6 _ c_19) cw_X1_fitProduct tw_141 ⟨rfl, rfl⟩ ⟨Nat.le_of_ble_eq_true rfl, Nat.le_of_ble_eq_true rfl⟩ rfl hl.1 rfl (Nat.le_of_ble_eq_true rfl) ⟨Nat.le_of_ble_eq_true rfl, Nat.le_of_ble_eq_true rfl⟩ dX1_add_75 (fun H locs hE => ?_)
        obtain ⟨j_20, ej_20, hf⟩ := jn_e hf
        have q_20 : ∀ (x_20_0 : Int32) (H : Heap) (locs : List Loc) (ls : Array Slot), j_20 x_20_0 = some zr → En D cA ad s A M_6 H locs → lv_has ls 13 [(0, .ref (ad o)), (1, .int a1), (2, .ref (ad a2)), (5, .long (x_14 / z_13)), (7, .long (x_16 / z_13))] → W p l e rm_X1_add s m args below meth c H locs 0 0 Q (F0 m 110 ls [.int x_20_0, .ref (ad o)]) := by
          intro x_20_0 H locs ls hf hE hl
          rw [ej_20] at hf
          obtain ⟨M_28, g_28, hf⟩ := b_some hf
          refine xx_pZ hZ hE k_X1 2 (by decide) rfl rfl rfl tw_110 g_28 dX1_add_110 (fun H locs hE => ?_)
          refine lv_aload_n hx hb dX1_add_113 rfl (lv_at hl 0 rfl) ?_
          obtain ⟨x_29, g_29, hf⟩ := b_some hf
          refine xx_gI hZ hE k_X1 2 (by decide) rfl tw_110 g_29 dX1_add_114 ?_
          refine lv_if_ne (tgt := 121) hx hb dX1_add_117 (by decide) (fun h_30 => ?_) (fun h_30 => ?_)
          · have hf := it_n h_30 hf
            refine lv_aload_n hx hb dX1_add_121 rfl (lv_at hl 0 rfl) ?_
            obtain ⟨x_31, g_31, hf⟩ := b_some hf
            refine xx_gL hZ hE k_X1 0 (by decide) rfl tw_108 g_31 dX1_add_122 ?_
            refine lv_lload hx hb dX1_add_125 (lv_at hl 3 rfl) ?_
            refine lv_lmul hx hb dX1_add_127 ?_
            refine lv_lstore (lv' := [(9, .long (x_31 * (x_14 / z_13))), (0, .ref (ad o)), (1, .int a1), (2, .ref (ad a2)), (5, .long (x_14 / z_13)), (7, .long (x_16 / z_13))]) hx hb dX1_add_128 hl (by decide) rfl (fun ls hl => ?_)
            refine lv_aload_n hx hb dX1_add_130 rfl (lv_at hl 3 rfl) ?_
            obtain ⟨x_32, g_32, hf⟩ := b_some hf
            refine xx_gL hZ hE k_X1 0 (by decide) rfl tw_108 g_32 dX1_add_131 ?_
            refine lv_lload hx hb dX1_add_134 (lv_at hl 5 rfl) ?_
            refine lv_lmul hx hb dX1_add_136 ?_
            refine lv_lstore (lv' := [(11, .long (x_32 * (x_16 / z_13))), (9, .long (x_31 * (x_14 / z_13))), (0, .ref (ad o)), (1, .int a1), (2, .ref (ad a2)), (5, .long (x_14 / z_13)), (7, .long (x_16 / z_13))]) hx hb dX1_add_137 hl (by decide) rfl (fun ls hl => ?_)
            refine lv_aload_n hx hb dX1_add_139 rfl (lv_at hl 2 rfl) ?_
            refine lv_iload_n hx hb dX1_add_140 rfl (lv_at hl 3 rfl) ?_
            have q_33 : ∀ x_33 : Int32, x_33 = (if a1 < 0 then (1 : Int32) else (if ((9223372036854775807 : Int64) - (x_32 * (x_16 / z_13))) < (x_31 * (x_14 / z_13)) then (0 : Int32) else (1 : Int32))) → W p l e rm_X1_add s m args below meth c H locs 0 0 Q (F0 m 161 ls [.int x_33, .ref (ad o)]) := by
              intro x_33 e_33
              subst e_33
              obtain ⟨M_34, g_34, hf⟩ := b_some hf
              refine xx_pZ hZ hE k_X1 2 (by decide) rfl rfl rfl tw_110 g_34 dX1_add_161 (fun H locs hE => ?_)
              refine lv_aload_n hx hb dX1_add_164 rfl (lv_at hl 2 rfl) ?_
              obtain ⟨x_35, g_35, hf⟩ := b_some hf
              refine xx_gI hZ hE k_X1 2 (by decide) rfl tw_110 g_35 dX1_add_165 ?_
              refine lv_if_eq (tgt := 190) hx hb dX1_add_168 (by decide) (fun h_36 => ?_) (fun h_36 => ?_)
              · have hf := it_y h_36 hf
                exact hret _ _ _ _ _ (Option.some.inj hf) dX1_add_190 hE
              · have hf := it_n h_36 hf
                refine lv_aload_n hx hb dX1_add_171 rfl (lv_at hl 2 rfl) ?_
                refine lv_lload hx hb dX1_add_172 (lv_at hl 1 rfl) ?_
                refine lv_iload_n hx hb dX1_add_174 rfl (lv_at hl 3 rfl) ?_
                refine lv_i2l hx hb dX1_add_175 rfl ?_
                refine lv_lload hx hb dX1_add_176 (lv_at hl 0 rfl) ?_
                refine lv_lmul hx hb dX1_add_178 ?_
                refine lv_ladd hx hb dX1_add_179 ?_
                refine lv_aload_n hx hb dX1_add_180 rfl (lv_at hl 2 rfl) ?_
                obtain ⟨x_37, g_37, hf⟩ := b_some hf
                refine xx_gL hZ hE k_X1 1 (by decide) rfl tw_109 g_37 dX1_add_181 ?_
                refine lv_lload hx hb dX1_add_184 (lv_at hl 5 rfl) ?_
                refine lv_lmul hx hb dX1_add_186 ?_
                obtain ⟨_, i_38, hf⟩ := b_some hf
                obtain ⟨z_38, c_38, hf⟩ := b_some hf
                refine xx_cVv hZ hE (As := [.long ((x_31 * (x_14 / z_13)) + (a1.toInt64 * (x_32 * (x_16 / z_13)))), .long (x_37 * (x_14 / z_13))]) (rest := []) k_X1 (is_m i_38) tw_121 tw_122 (c_X1_set l D cA ad o ((x_31 * (x_14 / z_13)) + (a1.toInt64 * (x_32 * (x_16 / z_13)))) (x_37 * (x_14 / z_13)) M_34 _ c_38) cw_X1_set tw_143 ⟨rfl, rfl⟩ ⟨Nat.le_of_ble_eq_true rfl, Nat.le_of_ble_eq_true rfl⟩ rfl hl.1 rfl (Nat.le_of_ble_eq_true rfl) ⟨Nat.le_of_ble_eq_true rfl, Nat.le_of_ble_eq_true rfl⟩ dX1_add_187 (fun H locs hE => ?_)
                exact hret _ _ _ _ _ (Option.some.inj hf) dX1_add_190 hE
            refine lv_if_lt (tgt := 156) hx hb dX1_add_141 (by decide) (fun h_39 => ?_) (fun h_39 => ?_)
            · refine lv_iconst (v := 1) hx hb dX1_add_156 (by decide) ?_
              refine lv_goto (tgt := 161) hx hb dX1_add_157 (by decide) ?_
              exact q_33 _ (by rw [if_pos h_39])
            · refine lv_lload hx hb dX1_add_144 (lv_at hl 1 rfl) ?_
              refine lv_ldc2 (v := 9223372036854775807) hx hb hown (hts _ tw_140) dX1_add_146 ?_
              refine lv_lload hx hb dX1_add_149 (lv_at hl 0 rfl) ?_
              refine lv_lsub hx hb dX1_add_151 ?_
              refine xx_lgt (tgt := 160) hx hb dX1_add_152 dX1_add_153 (by decide) (fun h_40 => ?_) (fun h_40 => ?_)
              · refine lv_iconst (v := 0) hx hb dX1_add_160 (by decide) ?_
                exact q_33 _ (by rw [if_neg h_39, if_pos h_40])
              · refine lv_iconst (v := 1) hx hb dX1_add_156 (by decide) ?_
                refine lv_goto (tgt := 161) hx hb dX1_add_157 (by decide) ?_
                exact q_33 _ (by rw [if_neg h_39, if_neg h_40])
          · have hf := it_y h_30 hf
            exact hret _ _ _ _ _ (Option.some.inj hf) dX1_add_120 hE
        refine lv_if_eq (tgt := 109) hx hb dX1_add_78 (by decide) (fun h_21 => ?_) (fun h_21 => ?_)
        · have hf := it_y h_21 hf
          refine lv_iconst (v := 0) hx hb dX1_add_109 (by decide) ?_
          exact q_20 _ _ _ _ hf hE (lv_sub hl [3, 4, 5, 1, 0] rfl)
        · have hf := it_n h_21 hf
          refine lv_aload_n hx hb dX1_add_81 rfl (lv_at hl 5 rfl) ?_
          obtain ⟨x_22, g_22, hf⟩ := b_some hf
          refine xx_gL hZ hE k_X1 0 (by decide) rfl tw_108 g_22 dX1_add_82 ?_
          refine lv_lload hx hb dX1_add_85 (lv_at hl 0 rfl) ?_
          obtain ⟨z_23, c_23, hf⟩ := b_some hf
          refine xx_cSi hZ hE (As := [.long x_22, .long (x_16 / z_13)]) (rest := [.ref (ad o)]) tw_142 (c_X1_fitProduct l D cA ad x_22 (x_16 / z_13) M_6 _ c_23) cw_X1_fitProduct tw_141 ⟨rfl, rfl⟩ ⟨Nat.le_of_ble_eq_true rfl, Nat.le_of_ble_eq_true rfl⟩ rfl hl.1 rfl (Nat.le_of_ble_eq_true rfl) ⟨Nat.le_of_ble_eq_true rfl, Nat.le_of_ble_eq_true rfl⟩ dX1_add_87 (fun H locs hE => ?_)
          refine lv_if_eq (tgt := 109) hx hb dX1_add_90 (by decide) (fun h_24 => ?_) (fun h_24 => ?_)
          · have hf := it_y h_24 hf
            refine lv_iconst (v := 0) hx hb dX1_add_109 (by decide) ?_
            exact q_20 _ _ _ _ hf hE (lv_sub hl [3, 4, 5, 1, 0] rfl)
          · have hf := it_n h_24 hf
            refine lv_aload_n hx hb dX1_add_93 rfl (lv_at hl 3 rfl) ?_
            obtain ⟨x_25, g_25, hf⟩ := b_some hf
            refine xx_gL hZ hE k_X1 1 (by decide) rfl tw_109 g_25 dX1_add_94 ?_
            refine lv_lload hx hb dX1_add_97 (lv_at hl 1 rfl) ?_
            obtain ⟨z_26, c_26, hf⟩ := b_some hf
            refine xx_cSi hZ hE (As := [.long x_25, .long (x_14 / z_13)]) (rest := [.ref (ad o)]) tw_142 (c_X1_fitProduct l D cA ad x_25 (x_14 / z_13) M_6 _ c_26) cw_X1_fitProduct tw_141 ⟨rfl, rfl⟩ ⟨Nat.le_of_ble_eq_true rfl, Nat.le_of_ble_eq_true rfl⟩ rfl hl.1 rfl (Nat.le_of_ble_eq_true rfl) ⟨Nat.le_of_ble_eq_true rfl, Nat.le_of_ble_eq_true rfl⟩ dX1_add_99 (fun H locs hE => ?_)
            refine lv_if_eq (tgt := 109) hx hb dX1_add_102 (by decide) (fun h_27 => ?_) (fun h_27 => ?_)
            · have hf := it_y h_27 hf
              refine lv_iconst (v := 0) hx hb dX1_add_109 (by decide) ?_
              exact q_20 _ _ _ _ hf hE (lv_sub hl [3, 4, 5, 1, 0] rfl)
            · have hf := it_n h_27 hf
              refine lv_iconst (v := 1) hx hb dX1_add_105 (by decide) ?_
              refine lv_goto (tgt := 110) hx hb dX1_add_106 (by decide) ?_
              exact q_20 _ _ _ _ hf hE (lv_sub hl [3, 4, 5, 1, 0] rfl)
      · have hf := it_y h_10 hf
        exact hret _ _ _ _ _ (Option.some.inj hf) dX1_add_39 hE
  refine lv_if_eq (tgt := 19) hx hb dX1_add_5 (by decide) (fun h_3 => ?_) (fun h_3 => ?_)
  · have hf := it_y h_3 hf
    refine lv_iconst (v := 0) hx hb dX1_add_19 (by decide) ?_
    exact q_2 _ _ _ _ hf hE (lv_sub hl [0, 1, 2] rfl)
  · have hf := it_n h_3 hf
    refine lv_aload_n hx hb dX1_add_8 rfl (lv_at hl 2 rfl) ?_
    obtain ⟨x_4, g_4, hf⟩ := b_some hf
    refine xx_gI hZ hE k_X1 2 (by decide) rfl tw_110 g_4 dX1_add_9 ?_
    refine lv_if_eq (tgt := 19) hx hb dX1_add_12 (by decide) (fun h_5 => ?_) (fun h_5 => ?_)
    · have hf := it_y h_5 hf
      refine lv_iconst (v := 0) hx hb dX1_add_19 (by decide) ?_
      exact q_2 _ _ _ _ hf hE (lv_sub hl [0, 1, 2] rfl)
    · have hf := it_n h_5 hf
      refine lv_iconst (v := 1) hx hb dX1_add_15 (by decide) ?_
      refine lv_goto (tgt := 20) hx hb dX1_add_16 (by decide) ?_
      exact q_2 _ _ _ _ hf hE (lv_sub hl [0, 1, 2] rfl)
def lp_X0_tell_29 (i_0 : Nat) (i_1 : Nat) (i_2 : Int32) : Nat → Int32 → Mm → Option (Mm)
  | 0, _, _ => none
  | n_29 + 1, v_4, M =>
    (op_gR M 0 i_0 0).bind fun x_4 =>
    (op_gI M 3 x_4 1).bind fun x_5 =>
    if x_5 ≤ v_4 then
    some M
    else
    op_jn (fun (M_7 : Mm) =>
    lp_X0_tell_29 i_0 i_1 i_2 n_29 (v_4 + 1) M_7)
    fun j_7 =>
    if v_4 = i_2 then
    j_7 M
    else
    (op_gR M 0 i_0 3).bind fun x_9 =>
    (op_is M i_0 0).bind fun _ =>
    (f_X0_tellOther i_0 i_1 i_2 v_4 x_9 M).bind fun z_10 =>
    (op_gR z_10 0 i_0 2).bind fun x_11 =>
    (op_gR z_10 0 i_0 3).bind fun x_12 =>
    (op_is z_10 x_11 1).bind fun _ =>
    (f_X1_add x_11 (-1 : Int32) x_12 z_10).bind fun z_13 =>
    j_7 z_13
theorem lp_X0_tell_29_s (i_0 : Nat) (i_1 : Nat) (i_2 : Int32) {n_29 : Nat} {v_4 : Int32} {M : Mm} {zr : Mm} (hf : lp_X0_tell_29 i_0 i_1 i_2 (n_29 + 1) v_4 M = some zr) : (
    (op_gR M 0 i_0 0).bind fun x_4 =>
    (op_gI M 3 x_4 1).bind fun x_5 =>
    if x_5 ≤ v_4 then
    some M
    else
    op_jn (fun (M_7 : Mm) =>
    lp_X0_tell_29 i_0 i_1 i_2 n_29 (v_4 + 1) M_7)
    fun j_7 =>
    if v_4 = i_2 then
    j_7 M
    else
    (op_gR M 0 i_0 3).bind fun x_9 =>
    (op_is M i_0 0).bind fun _ =>
    (f_X0_tellOther i_0 i_1 i_2 v_4 x_9 M).bind fun z_10 =>
    (op_gR z_10 0 i_0 2).bind fun x_11 =>
    (op_gR z_10 0 i_0 3).bind fun x_12 =>
    (op_is z_10 x_11 1).bind fun _ =>
    (f_X1_add x_11 (-1 : Int32) x_12 z_10).bind fun z_13 =>
    j_7 z_13) = some zr := hf
def rm_X0_tell : Room := { frames := 3, cells := 0, slots := 0, locals := 89 }
def f_X0_tell (o : Nat) (a1 : Nat) (a2 : Int32) (a3 : Int32) (M : Mm) : Option (Mm) :=
    if a2 = a3 then
    (op_gR M 0 o 2).bind fun x_2 =>
    (op_is M x_2 1).bind fun _ =>
    (f_X1_set x_2 (1 : Int64) (1 : Int64) M).bind fun z_3 =>
    lp_X0_tell_29  o a1 a2 FU (0 : Int32) z_3
    else
    (op_gR M 0 o 2).bind fun x_25 =>
    (op_is M o 0).bind fun _ =>
    (f_X0_tellOther o a1 a2 a3 x_25 M).bind fun z_26 =>
    some z_26
set_option maxHeartbeats 4000000 in
set_option maxRecDepth 100000 in
theorem c_X0_tell (l : Launch) (D : va_G) (cA : Nat → ClassId) (ad : Nat → Nat) (o : Nat) (a1 : Nat) (a2 : Int32) (a3 : Int32) (M : Mm) (zr : Mm) (hf : f_X0_tell o a1 a2 a3 M = some zr) : KV l yX0_tell cX0_tell 5 none rm_X0_tell D cA ad [.ref (ad o), .ref (ad a1), .int a2, .int a3] M zr := by
  refine KV_of (by decide) (Nat.le_of_ble_eq_true rfl) ?_
  intro p e s m args below meth c ls Q A H locs hZ hE hl hret
  have hx := hZ.1
  have hb := hZ.2.1
  have hown := hZ.2.2.2.1
  have hts := hZ.2.2.2.2.1
  have hl : lv_has ls 5 [(0, .ref (ad o)), (1, .ref (ad a1)), (2, .int a2), (3, .int a3)] := hl
  unfold f_X0_tell at hf
  refine lv_iload_n hx hb dX0_tell_0 rfl (lv_at hl 2 rfl) ?_
  refine lv_iload_n hx hb dX0_tell_1 rfl (lv_at hl 3 rfl) ?_
  refine lv_icmp_eq (tgt := 17) hx hb dX0_tell_2 (by decide) (fun h_1 => ?_) (fun h_1 => ?_)
  · have hf := it_y h_1 hf
    refine lv_aload_n hx hb dX0_tell_17 rfl (lv_at hl 0 rfl) ?_
    obtain ⟨x_2, g_2, hf⟩ := b_some hf
    refine xx_gR hZ hE k_X0 2 (by decide) rfl tw_115 g_2 dX0_tell_18 ?_
    refine lv_lconst (v := 1) hx hb dX0_tell_21 (by decide) ?_
    refine lv_lconst (v := 1) hx hb dX0_tell_22 (by decide) ?_
    obtain ⟨_, i_3, hf⟩ := b_some hf
    obtain ⟨z_3, c_3, hf⟩ := b_some hf
    refine xx_cVNv hZ hE (As := [.long (1 : Int64), .long (1 : Int64)]) (rest := []) k_X1 (is_m i_3) tw_121 tw_122 (c_X1_set l D cA ad x_2 (1 : Int64) (1 : Int64) M _ c_3) cw_X1_set tw_120 ⟨rfl, rfl⟩ ⟨Nat.le_of_ble_eq_true rfl, Nat.le_of_ble_eq_true rfl⟩ rfl hl.1 rfl (Nat.le_of_ble_eq_true rfl) ⟨Nat.le_of_ble_eq_true rfl, Nat.le_of_ble_eq_true rfl⟩ dX0_tell_23 (fun H locs hE => ?_)
    refine lv_iconst (v := 0) hx hb dX0_tell_26 (by decide) ?_
    refine lv_istore (lv' := [(4, .int (0 : Int32)), (0, .ref (ad o)), (1, .ref (ad a1)), (2, .int a2), (3, .int a3)]) hx hb dX0_tell_27 hl (by decide) rfl (fun ls hl => ?_)
    have L_14 : ∀ (n_29 : Nat) (w_14_4 : Int32) (M_14 : Mm) (H : Heap) (locs : List Loc) (ls : Array Slot), lp_X0_tell_29 o a1 a2 n_29 w_14_4 M_14 = some zr → En D cA ad s A M_14 H locs → lv_has ls 5 [(0, .ref (ad o)), (1, .ref (ad a1)), (2, .int a2), (4, .int w_14_4)] → W p l e rm_X0_tell s m args below meth c H locs 0 0 Q (F0 m 29 ls []) := by
      intro n_29
      induction n_29 with
      | zero =>
        intro w_14_4 M_14 H locs ls hf
        cases (show (none : Option (Mm)) = some zr from hf)
      | succ n_29 ih_29 =>
        intro w_14_4 M_14 H locs ls hf hE hl
        have hf := lp_X0_tell_29_s _ _ _ hf
        refine lv_iload hx hb dX0_tell_29 (lv_at hl 3 rfl) ?_
        refine lv_aload_n hx hb dX0_tell_31 rfl (lv_at hl 0 rfl) ?_
        obtain ⟨x_15, g_15, hf⟩ := b_some hf
        refine xx_gR hZ hE k_X0 0 (by decide) rfl tw_111 g_15 dX0_tell_32 ?_
        obtain ⟨x_16, g_16, hf⟩ := b_some hf
        refine xx_gIN hZ hE k_X3 1 (by decide) rfl tw_144 g_16 dX0_tell_35 ?_
        refine lv_icmp_ge (tgt := 77) hx hb dX0_tell_38 (by decide) (fun h_17 => ?_) (fun h_17 => ?_)
        · have hf := it_y h_17 hf
          exact hret _ _ _ _ _ (Option.some.inj hf) dX0_tell_77 hE
        · have hf := it_n h_17 hf
          refine lv_iload hx hb dX0_tell_41 (lv_at hl 3 rfl) ?_
          refine lv_iload_n hx hb dX0_tell_43 rfl (lv_at hl 2 rfl) ?_
          obtain ⟨j_18, ej_18, hf⟩ := jn_e hf
          have q_18 : ∀ (M_18 : Mm) (H : Heap) (locs : List Loc) (ls : Array Slot), j_18 M_18 = some zr → En D cA ad s A M_18 H locs → lv_has ls 5 [(0, .ref (ad o)), (1, .ref (ad a1)), (2, .int a2), (4, .int w_14_4)] → W p l e rm_X0_tell s m args below meth c H locs 0 0 Q (F0 m 71 ls []) := by
            intro M_18 H locs ls hf hE hl
            rw [ej_18] at hf
            refine lv_iinc (v := (w_14_4 + 1)) (lv' := [(4, .int (w_14_4 + 1)), (0, .ref (ad o)), (1, .ref (ad a1)), (2, .int a2)]) hx hb dX0_tell_71 hl (k := 3) rfl rfl (by decide) rfl (fun ls hl => ?_)
            refine lv_goto (tgt := 29) hx hb dX0_tell_74 (by decide) ?_
            exact ih_29 _ _ _ _ _ hf hE (lv_sub hl [1, 2, 3, 0] rfl)
          refine lv_icmp_eq (tgt := 71) hx hb dX0_tell_44 (by decide) (fun h_19 => ?_) (fun h_19 => ?_)
          · have hf := it_y h_19 hf
            exact q_18 _ _ _ _ hf hE (lv_sub hl [0, 1, 2, 3] rfl)
          · have hf := it_n h_19 hf
            refine lv_aload_n hx hb dX0_tell_47 rfl (lv_at hl 0 rfl) ?_
            refine lv_aload_n hx hb dX0_tell_48 rfl (lv_at hl 1 rfl) ?_
            refine lv_iload_n hx hb dX0_tell_49 rfl (lv_at hl 2 rfl) ?_
            refine lv_iload hx hb dX0_tell_50 (lv_at hl 3 rfl) ?_
            refine lv_aload_n hx hb dX0_tell_52 rfl (lv_at hl 0 rfl) ?_
            obtain ⟨x_20, g_20, hf⟩ := b_some hf
            refine xx_gR hZ hE k_X0 3 (by decide) rfl tw_145 g_20 dX0_tell_53 ?_
            obtain ⟨_, i_21, hf⟩ := b_some hf
            obtain ⟨z_21, c_21, hf⟩ := b_some hf
            refine xx_cVv hZ hE (As := [.ref (ad a1), .int a2, .int w_14_4, .ref (ad x_20)]) (rest := []) k_X0 (is_m i_21) tw_147 tw_148 (c_X0_tellOther l D cA ad o a1 a2 w_14_4 x_20 M_14 _ c_21) cw_X0_tellOther tw_146 ⟨rfl, rfl⟩ ⟨Nat.le_of_ble_eq_true rfl, Nat.le_of_ble_eq_true rfl⟩ rfl hl.1 rfl (Nat.le_of_ble_eq_true rfl) ⟨Nat.le_of_ble_eq_true rfl, Nat.le_of_ble_eq_true rfl⟩ dX0_tell_56 (fun H locs hE => ?_)
            refine lv_aload_n hx hb dX0_tell_59 rfl (lv_at hl 0 rfl) ?_
            obtain ⟨x_22, g_22, hf⟩ := b_some hf
            refine xx_gR hZ hE k_X0 2 (by decide) rfl tw_115 g_22 dX0_tell_60 ?_
            refine lv_iconst (v := -1) hx hb dX0_tell_63 (by decide) ?_
            refine lv_aload_n hx hb dX0_tell_64 rfl (lv_at hl 0 rfl) ?_
            obtain ⟨x_23, g_23, hf⟩ := b_some hf
            refine xx_gR hZ hE k_X0 3 (by decide) rfl tw_145 g_23 dX0_tell_65 ?_
            obtain ⟨_, i_24, hf⟩ := b_some hf
            obtain ⟨z_24, c_24, hf⟩ := b_some hf
            refine xx_cVNv hZ hE (As := [.int (-1 : Int32), .ref (ad x_23)]) (rest := []) k_X1 (is_m i_24) tw_150 tw_151 (c_X1_add l D cA ad x_22 (-1 : Int32) x_23 z_21 _ c_24) cw_X1_add tw_149 ⟨rfl, rfl⟩ ⟨Nat.le_of_ble_eq_true rfl, Nat.le_of_ble_eq_true rfl⟩ rfl hl.1 rfl (Nat.le_of_ble_eq_true rfl) ⟨Nat.le_of_ble_eq_true rfl, Nat.le_of_ble_eq_true rfl⟩ dX0_tell_68 (fun H locs hE => ?_)
            exact q_18 _ _ _ _ hf hE (lv_sub hl [0, 1, 2, 3] rfl)
    exact L_14 _ _ _ _ _ _ hf hE (lv_sub hl [1, 2, 3, 0] rfl)
  · have hf := it_n h_1 hf
    refine lv_aload_n hx hb dX0_tell_5 rfl (lv_at hl 0 rfl) ?_
    refine lv_aload_n hx hb dX0_tell_6 rfl (lv_at hl 1 rfl) ?_
    refine lv_iload_n hx hb dX0_tell_7 rfl (lv_at hl 2 rfl) ?_
    refine lv_iload_n hx hb dX0_tell_8 rfl (lv_at hl 3 rfl) ?_
    refine lv_aload_n hx hb dX0_tell_9 rfl (lv_at hl 0 rfl) ?_
    obtain ⟨x_25, g_25, hf⟩ := b_some hf
    refine xx_gR hZ hE k_X0 2 (by decide) rfl tw_115 g_25 dX0_tell_10 ?_
    obtain ⟨_, i_26, hf⟩ := b_some hf
    obtain ⟨z_26, c_26, hf⟩ := b_some hf
    refine xx_cVv hZ hE (As := [.ref (ad a1), .int a2, .int a3, .ref (ad x_25)]) (rest := []) k_X0 (is_m i_26) tw_147 tw_148 (c_X0_tellOther l D cA ad o a1 a2 a3 x_25 M _ c_26) cw_X0_tellOther tw_146 ⟨rfl, rfl⟩ ⟨Nat.le_of_ble_eq_true rfl, Nat.le_of_ble_eq_true rfl⟩ rfl hl.1 rfl (Nat.le_of_ble_eq_true rfl) ⟨Nat.le_of_ble_eq_true rfl, Nat.le_of_ble_eq_true rfl⟩ dX0_tell_13 (fun H locs hE => ?_)
    exact hret _ _ _ _ _ (Option.some.inj hf) dX0_tell_16 hE
