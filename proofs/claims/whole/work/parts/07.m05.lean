def lp_X5_covary_22 (k_101 : Int64 → Int64 → Int64 → Option (Int64)) (i_0 : Nat) (i_1 : Int32) (i_2 : Int32) (i_3 : Int64) (M : Mm) : Nat → Int64 → Int64 → Int64 → Int32 → Option (Int64)
  | 0, _, _, _, _ => none
  | n_22 + 1, v_5, v_7, v_9, v_11 =>
    (op_gI M 5 i_0 3).bind fun x_2 =>
    if x_2 < (v_11 + i_2) then
    k_101 v_5 v_7 v_9
    else
    (op_gR M 5 i_0 0).bind fun x_4 =>
    (op_gR M 5 i_0 2).bind fun x_5 =>
    (op_aI M x_5 v_11).bind fun x_6 =>
    (op_is M x_4 3).bind fun _ =>
    (f_X3_valueAt x_4 x_6 i_1 M).bind fun z_7 =>
    (op_gR M 5 i_0 0).bind fun x_8 =>
    (op_gR M 5 i_0 2).bind fun x_9 =>
    (op_aI M x_9 (v_11 + i_2)).bind fun x_10 =>
    (op_is M x_8 3).bind fun _ =>
    (f_X3_valueAt x_8 x_10 i_1 M).bind fun z_11 =>
    lp_X5_covary_22 k_101 i_0 i_1 i_2 i_3 M n_22 (v_5 + (z_7.toInt64 * z_11.toInt64)) (v_7 + z_7.toInt64) (v_9 + z_11.toInt64) (v_11 + 1)
theorem lp_X5_covary_22_s (k_101 : Int64 → Int64 → Int64 → Option (Int64)) (i_0 : Nat) (i_1 : Int32) (i_2 : Int32) (i_3 : Int64) (M : Mm) {n_22 : Nat} {v_5 : Int64} {v_7 : Int64} {v_9 : Int64} {v_11 : Int32} {zr : Int64} (hf : lp_X5_covary_22 k_101 i_0 i_1 i_2 i_3 M (n_22 + 1) v_5 v_7 v_9 v_11 = some zr) : (
    (op_gI M 5 i_0 3).bind fun x_2 =>
    if x_2 < (v_11 + i_2) then
    k_101 v_5 v_7 v_9
    else
    (op_gR M 5 i_0 0).bind fun x_4 =>
    (op_gR M 5 i_0 2).bind fun x_5 =>
    (op_aI M x_5 v_11).bind fun x_6 =>
    (op_is M x_4 3).bind fun _ =>
    (f_X3_valueAt x_4 x_6 i_1 M).bind fun z_7 =>
    (op_gR M 5 i_0 0).bind fun x_8 =>
    (op_gR M 5 i_0 2).bind fun x_9 =>
    (op_aI M x_9 (v_11 + i_2)).bind fun x_10 =>
    (op_is M x_8 3).bind fun _ =>
    (f_X3_valueAt x_8 x_10 i_1 M).bind fun z_11 =>
    lp_X5_covary_22 k_101 i_0 i_1 i_2 i_3 M n_22 (v_5 + (z_7.toInt64 * z_11.toInt64)) (v_7 + z_7.toInt64) (v_9 + z_11.toInt64) (v_11 + 1)) = some zr := hf
theorem lp_X5_covary_22_k {k_101 : Int64 → Int64 → Int64 → Option (Int64)} {i_0 : Nat} {i_1 : Int32} {i_2 : Int32} {i_3 : Int64} {M : Mm} {n : Nat} {v_5 : Int64} {v_7 : Int64} {v_9 : Int64} {v_11 : Int32} {zr : Int64} (hf : lp_X5_covary_22 k_101 i_0 i_1 i_2 i_3 M n v_5 v_7 v_9 v_11 = some zr) : ∃ (m_101 : Int64 → Int64 → Int64 → Option (Int64)), m_101 = k_101 ∧ lp_X5_covary_22 m_101 i_0 i_1 i_2 i_3 M n v_5 v_7 v_9 v_11 = some zr := ⟨k_101, rfl, hf⟩
def rm_X5_covary : Room := { frames := 1, cells := 0, slots := 0, locals := 22 }
def f_X5_covary (o : Nat) (a1 : Int32) (a2 : Int32) (M : Mm) : Option (Int64) :=
    (op_gI M 5 o 3).bind fun x_1 =>
    lp_X5_covary_22 (fun (l_13_5 : Int64) (l_13_7 : Int64) (l_13_9 : Int64) =>
    some (((((x_1 + (1 : Int32)) - a2).toInt64) * l_13_5) - (l_13_7 * l_13_9))) o a1 a2 (((x_1 + (1 : Int32)) - a2).toInt64) M FU (0 : Int64) (0 : Int64) (0 : Int64) (0 : Int32)
set_option maxHeartbeats 4000000 in
set_option maxRecDepth 100000 in
theorem c_X5_covary (l : Launch) (D : va_G) (cA : Nat → ClassId) (ad : Nat → Nat) (o : Nat) (a1 : Int32) (a2 : Int32) (M : Mm) (zr : Int64) (hf : f_X5_covary o a1 a2 M = some zr) : KL l yX5_covary cX5_covary 16 (some .long) rm_X5_covary D cA ad [.ref (ad o), .int a1, .int a2] M zr M := by
  refine KL_of (by decide) (Nat.le_of_ble_eq_true rfl) ?_
  intro p e s m args below meth c ls Q A H locs hZ hE hl hret
  have hx := hZ.1
  have hb := hZ.2.1
  have hown := hZ.2.2.2.1
  have hts := hZ.2.2.2.2.1
  have hl : lv_has ls 16 [(0, .ref (ad o)), (1, .int a1), (2, .int a2)] := hl
  unfold f_X5_covary at hf
  refine lv_aload_n hx hb dX5_covary_0 rfl (lv_at hl 0 rfl) ?_
  obtain ⟨x_1, g_1, hf⟩ := b_some hf
  refine xx_gI hZ hE k_X5 3 (by decide) rfl tw_17 g_1 dX5_covary_1 ?_
  refine lv_iconst (v := 1) hx hb dX5_covary_4 (by decide) ?_
  refine lv_iadd hx hb dX5_covary_5 ?_
  refine lv_iload_n hx hb dX5_covary_6 rfl (lv_at hl 2 rfl) ?_
  refine lv_isub hx hb dX5_covary_7 ?_
  refine lv_i2l hx hb dX5_covary_8 rfl ?_
  refine lv_lstore_n (lv' := [(3, .long (((x_1 + (1 : Int32)) - a2).toInt64)), (0, .ref (ad o)), (1, .int a1), (2, .int a2)]) hx hb dX5_covary_9 rfl hl (by decide) rfl (fun ls hl => ?_)
  refine lv_lconst (v := 0) hx hb dX5_covary_10 (by decide) ?_
  refine lv_lstore (lv' := [(5, .long (0 : Int64)), (3, .long (((x_1 + (1 : Int32)) - a2).toInt64)), (0, .ref (ad o)), (1, .int a1), (2, .int a2)]) hx hb dX5_covary_11 hl (by decide) rfl (fun ls hl => ?_)
  refine lv_lconst (v := 0) hx hb dX5_covary_13 (by decide) ?_
  refine lv_lstore (lv' := [(7, .long (0 : Int64)), (5, .long (0 : Int64)), (3, .long (((x_1 + (1 : Int32)) - a2).toInt64)), (0, .ref (ad o)), (1, .int a1), (2, .int a2)]) hx hb dX5_covary_14 hl (by decide) rfl (fun ls hl => ?_)
  refine lv_lconst (v := 0) hx hb dX5_covary_16 (by decide) ?_
  refine lv_lstore (lv' := [(9, .long (0 : Int64)), (7, .long (0 : Int64)), (5, .long (0 : Int64)), (3, .long (((x_1 + (1 : Int32)) - a2).toInt64)), (0, .ref (ad o)), (1, .int a1), (2, .int a2)]) hx hb dX5_covary_17 hl (by decide) rfl (fun ls hl => ?_)
  refine lv_iconst (v := 0) hx hb dX5_covary_19 (by decide) ?_
  refine lv_istore (lv' := [(11, .int (0 : Int32)), (9, .long (0 : Int64)), (7, .long (0 : Int64)), (5, .long (0 : Int64)), (3, .long (((x_1 + (1 : Int32)) - a2).toInt64)), (0, .ref (ad o)), (1, .int a1), (2, .int a2)]) hx hb dX5_covary_20 hl (by decide) rfl (fun ls hl => ?_)
  obtain ⟨k_101_13, ek_101_13, hf⟩ := lp_X5_covary_22_k hf
  have o_101_13 : ∀ (l_13_5 : Int64) (l_13_7 : Int64) (l_13_9 : Int64) (H : Heap) (locs : List Loc) (ls : Array Slot), k_101_13 l_13_5 l_13_7 l_13_9 = some zr → En D cA ad s A M H locs → lv_has ls 16 [(3, .long (((x_1 + (1 : Int32)) - a2).toInt64)), (5, .long l_13_5), (7, .long l_13_7), (9, .long l_13_9)] → W p l e rm_X5_covary s m args below meth c H locs 0 0 Q (F0 m 101 ls []) := by
    intro l_13_5 l_13_7 l_13_9 H locs ls hf hE hl
    rw [ek_101_13] at hf
    refine lv_lload_n hx hb dX5_covary_101 rfl (lv_at hl 0 rfl) ?_
    refine lv_lload hx hb dX5_covary_102 (lv_at hl 1 rfl) ?_
    refine lv_lmul hx hb dX5_covary_104 ?_
    refine lv_lload hx hb dX5_covary_105 (lv_at hl 2 rfl) ?_
    refine lv_lload hx hb dX5_covary_107 (lv_at hl 3 rfl) ?_
    refine lv_lmul hx hb dX5_covary_109 ?_
    refine lv_lsub hx hb dX5_covary_110 ?_
    exact hret _ _ _ _ _ _ (Option.some.inj hf) rfl dX5_covary_111 hE
  have L_12 : ∀ (n_22 : Nat) (w_12_5 : Int64) (w_12_7 : Int64) (w_12_9 : Int64) (w_12_11 : Int32) (H : Heap) (locs : List Loc) (ls : Array Slot), lp_X5_covary_22 k_101_13 o a1 a2 (((x_1 + (1 : Int32)) - a2).toInt64) M n_22 w_12_5 w_12_7 w_12_9 w_12_11 = some zr → En D cA ad s A M H locs → lv_has ls 16 [(0, .ref (ad o)), (1, .int a1), (2, .int a2), (3, .long (((x_1 + (1 : Int32)) - a2).toInt64)), (5, .long w_12_5), (7, .long w_12_7), (9, .long w_12_9), (11, .int w_12_11)] → W p l e rm_X5_covary s m args below meth c H locs 0 0 Q (F0 m 22 ls []) := by
    intro n_22
    induction n_22 with
    | zero =>
      intro w_12_5 w_12_7 w_12_9 w_12_11 H locs ls hf
      cases (show (none : Option (Int64)) = some zr from hf)
    | succ n_22 ih_22 =>
      intro w_12_5 w_12_7 w_12_9 w_12_11 H locs ls hf hE hl
      have hf := lp_X5_covary_22_s _ _ _ _ _ _ hf
      refine lv_iload hx hb dX5_covary_22 (lv_at hl 7 rfl) ?_
      refine lv_iload_n hx hb dX5_covary_24 rfl (lv_at hl 2 rfl) ?_
      refine lv_iadd hx hb dX5_covary_25 ?_
      refine lv_aload_n hx hb dX5_covary_26 rfl (lv_at hl 0 rfl) ?_
      obtain ⟨x_14, g_14, hf⟩ := b_some hf
      refine xx_gI hZ hE k_X5 3 (by decide) rfl tw_17 g_14 dX5_covary_27 ?_
      refine lv_icmp_gt (tgt := 101) hx hb dX5_covary_30 (by decide) (fun h_15 => ?_) (fun h_15 => ?_)
      · have hf := it_y h_15 hf
        exact o_101_13 _ _ _ _ _ _ hf hE (lv_sub hl [3, 4, 5, 6] rfl)
      · have hf := it_n h_15 hf
        refine lv_aload_n hx hb dX5_covary_33 rfl (lv_at hl 0 rfl) ?_
        obtain ⟨x_16, g_16, hf⟩ := b_some hf
        refine xx_gR hZ hE k_X5 0 (by decide) rfl tw_297 g_16 dX5_covary_34 ?_
        refine lv_aload_n hx hb dX5_covary_37 rfl (lv_at hl 0 rfl) ?_
        obtain ⟨x_17, g_17, hf⟩ := b_some hf
        refine xx_gR hZ hE k_X5 2 (by decide) rfl tw_345 g_17 dX5_covary_38 ?_
        refine lv_iload hx hb dX5_covary_41 (lv_at hl 7 rfl) ?_
        obtain ⟨x_18, g_18, hf⟩ := b_some hf
        refine xx_aI hZ hE g_18 dX5_covary_43 ?_
        refine lv_iload_n hx hb dX5_covary_44 rfl (lv_at hl 1 rfl) ?_
        obtain ⟨_, i_19, hf⟩ := b_some hf
        obtain ⟨z_19, c_19, hf⟩ := b_some hf
        refine xx_cVNi hZ hE (As := [.int x_18, .int a1]) (rest := []) k_X3 (is_m i_19) tw_55 tw_56 (c_X3_valueAt l D cA ad x_16 x_18 a1 M _ c_19) cw_X3_valueAt tw_358 ⟨rfl, rfl⟩ ⟨Nat.le_of_ble_eq_true rfl, Nat.le_of_ble_eq_true rfl⟩ rfl hl.1 rfl (Nat.le_of_ble_eq_true rfl) ⟨Nat.le_of_ble_eq_true rfl, Nat.le_of_ble_eq_true rfl⟩ dX5_covary_45 (fun H locs hE => ?_)
        refine lv_i2l hx hb dX5_covary_48 rfl ?_
        refine lv_lstore (lv' := [(12, .long z_19.toInt64), (0, .ref (ad o)), (1, .int a1), (2, .int a2), (3, .long (((x_1 + (1 : Int32)) - a2).toInt64)), (5, .long w_12_5), (7, .long w_12_7), (9, .long w_12_9), (11, .int w_12_11)]) hx hb dX5_covary_49 hl (by decide) rfl (fun ls hl => ?_)
        refine lv_aload_n hx hb dX5_covary_51 rfl (lv_at hl 1 rfl) ?_
        obtain ⟨x_20, g_20, hf⟩ := b_some hf
        refine xx_gR hZ hE k_X5 0 (by decide) rfl tw_297 g_20 dX5_covary_52 ?_
        refine lv_aload_n hx hb dX5_covary_55 rfl (lv_at hl 1 rfl) ?_
        obtain ⟨x_21, g_21, hf⟩ := b_some hf
        refine xx_gR hZ hE k_X5 2 (by decide) rfl tw_345 g_21 dX5_covary_56 ?_
        refine lv_iload hx hb dX5_covary_59 (lv_at hl 8 rfl) ?_
        refine lv_iload_n hx hb dX5_covary_61 rfl (lv_at hl 3 rfl) ?_
        refine lv_iadd hx hb dX5_covary_62 ?_
        obtain ⟨x_22, g_22, hf⟩ := b_some hf
        refine xx_aI hZ hE g_22 dX5_covary_63 ?_
        refine lv_iload_n hx hb dX5_covary_64 rfl (lv_at hl 2 rfl) ?_
        obtain ⟨_, i_23, hf⟩ := b_some hf
        obtain ⟨z_23, c_23, hf⟩ := b_some hf
        refine xx_cVNi hZ hE (As := [.int x_22, .int a1]) (rest := []) k_X3 (is_m i_23) tw_55 tw_56 (c_X3_valueAt l D cA ad x_20 x_22 a1 M _ c_23) cw_X3_valueAt tw_358 ⟨rfl, rfl⟩ ⟨Nat.le_of_ble_eq_true rfl, Nat.le_of_ble_eq_true rfl⟩ rfl hl.1 rfl (Nat.le_of_ble_eq_true rfl) ⟨Nat.le_of_ble_eq_true rfl, Nat.le_of_ble_eq_true rfl⟩ dX5_covary_65 (fun H locs hE => ?_)
        refine lv_i2l hx hb dX5_covary_68 rfl ?_
        refine lv_lstore (lv' := [(14, .long z_23.toInt64), (12, .long z_19.toInt64), (0, .ref (ad o)), (1, .int a1), (2, .int a2), (3, .long (((x_1 + (1 : Int32)) - a2).toInt64)), (5, .long w_12_5), (7, .long w_12_7), (9, .long w_12_9), (11, .int w_12_11)]) hx hb dX5_covary_69 hl (by decide) rfl (fun ls hl => ?_)
        refine lv_lload hx hb dX5_covary_71 (lv_at hl 6 rfl) ?_
        refine lv_lload hx hb dX5_covary_73 (lv_at hl 1 rfl) ?_
        refine lv_lload hx hb dX5_covary_75 (lv_at hl 0 rfl) ?_
        refine lv_lmul hx hb dX5_covary_77 ?_
        refine lv_ladd hx hb dX5_covary_78 ?_
        refine lv_lstore (lv' := [(5, .long (w_12_5 + (z_19.toInt64 * z_23.toInt64))), (14, .long z_23.toInt64), (12, .long z_19.toInt64), (0, .ref (ad o)), (1, .int a1), (2, .int a2), (3, .long (((x_1 + (1 : Int32)) - a2).toInt64)), (7, .long w_12_7), (9, .long w_12_9), (11, .int w_12_11)]) hx hb dX5_covary_79 hl (by decide) rfl (fun ls hl => ?_)
        refine lv_lload hx hb dX5_covary_81 (lv_at hl 7 rfl) ?_
        refine lv_lload hx hb dX5_covary_83 (lv_at hl 2 rfl) ?_
        refine lv_ladd hx hb dX5_covary_85 ?_
        refine lv_lstore (lv' := [(7, .long (w_12_7 + z_19.toInt64)), (5, .long (w_12_5 + (z_19.toInt64 * z_23.toInt64))), (14, .long z_23.toInt64), (12, .long z_19.toInt64), (0, .ref (ad o)), (1, .int a1), (2, .int a2), (3, .long (((x_1 + (1 : Int32)) - a2).toInt64)), (9, .long w_12_9), (11, .int w_12_11)]) hx hb dX5_covary_86 hl (by decide) rfl (fun ls hl => ?_)
        refine lv_lload hx hb dX5_covary_88 (lv_at hl 8 rfl) ?_
        refine lv_lload hx hb dX5_covary_90 (lv_at hl 2 rfl) ?_
        refine lv_ladd hx hb dX5_covary_92 ?_
        refine lv_lstore (lv' := [(9, .long (w_12_9 + z_23.toInt64)), (7, .long (w_12_7 + z_19.toInt64)), (5, .long (w_12_5 + (z_19.toInt64 * z_23.toInt64))), (14, .long z_23.toInt64), (12, .long z_19.toInt64), (0, .ref (ad o)), (1, .int a1), (2, .int a2), (3, .long (((x_1 + (1 : Int32)) - a2).toInt64)), (11, .int w_12_11)]) hx hb dX5_covary_93 hl (by decide) rfl (fun ls hl => ?_)
        refine lv_iinc (v := (w_12_11 + 1)) (lv' := [(11, .int (w_12_11 + 1)), (9, .long (w_12_9 + z_23.toInt64)), (7, .long (w_12_7 + z_19.toInt64)), (5, .long (w_12_5 + (z_19.toInt64 * z_23.toInt64))), (14, .long z_23.toInt64), (12, .long z_19.toInt64), (0, .ref (ad o)), (1, .int a1), (2, .int a2), (3, .long (((x_1 + (1 : Int32)) - a2).toInt64))]) hx hb dX5_covary_95 hl (k := 9) rfl rfl (by decide) rfl (fun ls hl => ?_)
        refine lv_goto (tgt := 22) hx hb dX5_covary_98 (by decide) ?_
        exact ih_22 _ _ _ _ _ _ _ hf hE (lv_sub hl [6, 7, 8, 9, 3, 2, 1, 0] rfl)
  exact L_12 _ _ _ _ _ _ _ _ hf hE (lv_sub hl [5, 6, 7, 4, 3, 2, 1, 0] rfl)
def rm_X6_together : Room := { frames := 2, cells := 0, slots := 0, locals := 57 }
def f_X6_together (o : Nat) (a1 : Int32) (a2 : Int32) (M : Mm) : Option (Int64) :=
    (op_gR M 6 o 4).bind fun x_1 =>
    (op_is M x_1 5).bind fun _ =>
    (f_X5_isThere x_1 M).bind fun z_2 =>
    if z_2 = 0 then
    some (-2 : Int64)
    else
    (op_gR M 6 o 0).bind fun x_4 =>
    (op_is M x_4 3).bind fun _ =>
    (f_X3_isPlace x_4 a1 M).bind fun z_5 =>
    if z_5 = 0 then
    some (-1 : Int64)
    else
    if a2 < 0 then
    some (-1 : Int64)
    else
    (op_gR M 6 o 4).bind fun x_8 =>
    (op_gI M 5 x_8 3).bind fun x_9 =>
    if a2 ≤ x_9 then
    (op_gR M 6 o 4).bind fun x_11 =>
    (op_is M x_11 5).bind fun _ =>
    (f_X5_covary x_11 a1 a2 M).bind fun z_12 =>
    some z_12
    else
    some (-1 : Int64)
set_option maxHeartbeats 4000000 in
set_option maxRecDepth 100000 in
theorem c_X6_together (l : Launch) (D : va_G) (cA : Nat → ClassId) (ad : Nat → Nat) (o : Nat) (a1 : Int32) (a2 : Int32) (M : Mm) (zr : Int64) (hf : f_X6_together o a1 a2 M = some zr) : KL l yX6_together cX6_together 3 (some .long) rm_X6_together D cA ad [.ref (ad o), .int a1, .int a2] M zr M := by
  refine KL_of (by decide) (Nat.le_of_ble_eq_true rfl) ?_
  intro p e s m args below meth c ls Q A H locs hZ hE hl hret
  have hx := hZ.1
  have hb := hZ.2.1
  have hown := hZ.2.2.2.1
  have hts := hZ.2.2.2.2.1
  have hl : lv_has ls 3 [(0, .ref (ad o)), (1, .int a1), (2, .int a2)] := hl
  unfold f_X6_together at hf
  refine lv_aload_n hx hb dX6_together_0 rfl (lv_at hl 0 rfl) ?_
  obtain ⟨x_1, g_1, hf⟩ := b_some hf
  refine xx_gR hZ hE k_X6 4 (by decide) rfl tw_30 g_1 dX6_together_1 ?_
  obtain ⟨_, i_2, hf⟩ := b_some hf
  obtain ⟨z_2, c_2, hf⟩ := b_some hf
  refine xx_cVNi hZ hE (As := []) (rest := []) k_X5 (is_m i_2) tw_350 tw_351 (c_X5_isThere l D cA ad x_1 M _ c_2) cw_X5_isThere tw_349 ⟨rfl, rfl⟩ ⟨Nat.le_of_ble_eq_true rfl, Nat.le_of_ble_eq_true rfl⟩ rfl hl.1 rfl (Nat.le_of_ble_eq_true rfl) ⟨Nat.le_of_ble_eq_true rfl, Nat.le_of_ble_eq_true rfl⟩ dX6_together_4 (fun H locs hE => ?_)
  refine lv_if_ne (tgt := 14) hx hb dX6_together_7 (by decide) (fun h_3 => ?_) (fun h_3 => ?_)
  · have hf := it_n h_3 hf
    refine lv_aload_n hx hb dX6_together_14 rfl (lv_at hl 0 rfl) ?_
    obtain ⟨x_4, g_4, hf⟩ := b_some hf
    refine xx_gR hZ hE k_X6 0 (by decide) rfl tw_20 g_4 dX6_together_15 ?_
    refine lv_iload_n hx hb dX6_together_18 rfl (lv_at hl 1 rfl) ?_
    obtain ⟨_, i_5, hf⟩ := b_some hf
    obtain ⟨z_5, c_5, hf⟩ := b_some hf
    refine xx_cVNi hZ hE (As := [.int a1]) (rest := []) k_X3 (is_m i_5) tw_45 tw_46 (c_X3_isPlace l D cA ad x_4 a1 M _ c_5) cw_X3_isPlace tw_53 ⟨rfl, rfl⟩ ⟨Nat.le_of_ble_eq_true rfl, Nat.le_of_ble_eq_true rfl⟩ rfl hl.1 rfl (Nat.le_of_ble_eq_true rfl) ⟨Nat.le_of_ble_eq_true rfl, Nat.le_of_ble_eq_true rfl⟩ dX6_together_19 (fun H locs hE => ?_)
    refine lv_if_eq (tgt := 40) hx hb dX6_together_22 (by decide) (fun h_6 => ?_) (fun h_6 => ?_)
    · have hf := it_y h_6 hf
      refine lv_ldc2 (v := -1) hx hb hown (hts _ tw_221) dX6_together_40 ?_
      exact hret _ _ _ _ _ _ (Option.some.inj hf) rfl dX6_together_43 hE
    · have hf := it_n h_6 hf
      refine lv_iload_n hx hb dX6_together_25 rfl (lv_at hl 2 rfl) ?_
      refine lv_if_lt (tgt := 40) hx hb dX6_together_26 (by decide) (fun h_7 => ?_) (fun h_7 => ?_)
      · have hf := it_y h_7 hf
        refine lv_ldc2 (v := -1) hx hb hown (hts _ tw_221) dX6_together_40 ?_
        exact hret _ _ _ _ _ _ (Option.some.inj hf) rfl dX6_together_43 hE
      · have hf := it_n h_7 hf
        refine lv_iload_n hx hb dX6_together_29 rfl (lv_at hl 2 rfl) ?_
        refine lv_aload_n hx hb dX6_together_30 rfl (lv_at hl 0 rfl) ?_
        obtain ⟨x_8, g_8, hf⟩ := b_some hf
        refine xx_gR hZ hE k_X6 4 (by decide) rfl tw_30 g_8 dX6_together_31 ?_
        obtain ⟨x_9, g_9, hf⟩ := b_some hf
        refine xx_gIN hZ hE k_X5 3 (by decide) rfl tw_352 g_9 dX6_together_34 ?_
        refine lv_icmp_le (tgt := 44) hx hb dX6_together_37 (by decide) (fun h_10 => ?_) (fun h_10 => ?_)
        · have hf := it_y h_10 hf
          refine lv_aload_n hx hb dX6_together_44 rfl (lv_at hl 0 rfl) ?_
          obtain ⟨x_11, g_11, hf⟩ := b_some hf
          refine xx_gR hZ hE k_X6 4 (by decide) rfl tw_30 g_11 dX6_together_45 ?_
          refine lv_iload_n hx hb dX6_together_48 rfl (lv_at hl 1 rfl) ?_
          refine lv_iload_n hx hb dX6_together_49 rfl (lv_at hl 2 rfl) ?_
          obtain ⟨_, i_12, hf⟩ := b_some hf
          obtain ⟨z_12, c_12, hf⟩ := b_some hf
          refine xx_cVNl hZ hE (As := [.int a1, .int a2]) (rest := []) k_X5 (is_m i_12) tw_360 tw_361 (c_X5_covary l D cA ad x_11 a1 a2 M _ c_12) cw_X5_covary tw_359 ⟨rfl, rfl⟩ ⟨Nat.le_of_ble_eq_true rfl, Nat.le_of_ble_eq_true rfl⟩ rfl hl.1 rfl (Nat.le_of_ble_eq_true rfl) ⟨Nat.le_of_ble_eq_true rfl, Nat.le_of_ble_eq_true rfl⟩ dX6_together_50 (fun H locs hE => ?_)
          exact hret _ _ _ _ _ _ (Option.some.inj hf) rfl dX6_together_53 hE
        · have hf := it_n h_10 hf
          refine lv_ldc2 (v := -1) hx hb hown (hts _ tw_221) dX6_together_40 ?_
          exact hret _ _ _ _ _ _ (Option.some.inj hf) rfl dX6_together_43 hE
  · have hf := it_y h_3 hf
    refine lv_ldc2 (v := -2) hx hb hown (hts _ tw_229) dX6_together_10 ?_
    exact hret _ _ _ _ _ _ (Option.some.inj hf) rfl dX6_together_13 hE
def rm_X6_count : Room := { frames := 0, cells := 0, slots := 0, locals := 0 }
def f_X6_count (o : Nat) (a1 : Int32) (M : Mm) : Option (Int32) :=
    if a1 = 0 then
    (op_gR M 6 o 0).bind fun x_2 =>
    (op_gI M 3 x_2 0).bind fun x_3 =>
    some x_3
    else
    if a1 = 1 then
    (op_gR M 6 o 0).bind fun x_5 =>
    (op_gI M 3 x_5 1).bind fun x_6 =>
    some x_6
    else
    if a1 = 2 then
    (op_gI M 6 o 5).bind fun x_8 =>
    some x_8
    else
    if a1 = 3 then
    (op_gR M 6 o 4).bind fun x_10 =>
    (op_gI M 5 x_10 3).bind fun x_11 =>
    some x_11
    else
    some (-1 : Int32)
set_option maxHeartbeats 4000000 in
set_option maxRecDepth 100000 in
theorem c_X6_count (l : Launch) (D : va_G) (cA : Nat → ClassId) (ad : Nat → Nat) (o : Nat) (a1 : Int32) (M : Mm) (zr : Int32) (hf : f_X6_count o a1 M = some zr) : KI l yX6_count cX6_count 2 (some .int) rm_X6_count D cA ad [.ref (ad o), .int a1] M zr M := by
  refine KI_of (by decide) (Nat.le_of_ble_eq_true rfl) ?_
  intro p e s m args below meth c ls Q A H locs hZ hE hl hret
  have hx := hZ.1
  have hb := hZ.2.1
  have hown := hZ.2.2.2.1
  have hts := hZ.2.2.2.2.1
  have hl : lv_has ls 2 [(0, .ref (ad o)), (1, .int a1)] := hl
  unfold f_X6_count at hf
  refine lv_iload_n hx hb dX6_count_0 rfl (lv_at hl 1 rfl) ?_
  by_cases h_1 : a1 = 0
  · have hf := it_y h_1 hf
    refine xx_tsw (off := 31) (tgt := 32) hx hb dX6_count_1 0 h_1 (by decide) (by decide) ?_
    refine lv_aload_n hx hb dX6_count_32 rfl (lv_at hl 0 rfl) ?_
    obtain ⟨x_2, g_2, hf⟩ := b_some hf
    refine xx_gR hZ hE k_X6 0 (by decide) rfl tw_20 g_2 dX6_count_33 ?_
    obtain ⟨x_3, g_3, hf⟩ := b_some hf
    refine xx_gIN hZ hE k_X3 0 (by decide) rfl tw_362 g_3 dX6_count_36 ?_
    exact hret _ _ _ _ _ _ (Option.some.inj hf) rfl rfl dX6_count_39 hE
  · have hf := it_n h_1 hf
    by_cases h_4 : a1 = 1
    · have hf := it_y h_4 hf
      refine xx_tsw (off := 39) (tgt := 40) hx hb dX6_count_1 1 h_4 (by decide) (by decide) ?_
      refine lv_aload_n hx hb dX6_count_40 rfl (lv_at hl 0 rfl) ?_
      obtain ⟨x_5, g_5, hf⟩ := b_some hf
      refine xx_gR hZ hE k_X6 0 (by decide) rfl tw_20 g_5 dX6_count_41 ?_
      obtain ⟨x_6, g_6, hf⟩ := b_some hf
      refine xx_gIN hZ hE k_X3 1 (by decide) rfl tw_35 g_6 dX6_count_44 ?_
      exact hret _ _ _ _ _ _ (Option.some.inj hf) rfl rfl dX6_count_47 hE
    · have hf := it_n h_4 hf
      by_cases h_7 : a1 = 2
      · have hf := it_y h_7 hf
        refine xx_tsw (off := 47) (tgt := 48) hx hb dX6_count_1 2 h_7 (by decide) (by decide) ?_
        refine lv_aload_n hx hb dX6_count_48 rfl (lv_at hl 0 rfl) ?_
        obtain ⟨x_8, g_8, hf⟩ := b_some hf
        refine xx_gI hZ hE k_X6 5 (by decide) rfl tw_24 g_8 dX6_count_49 ?_
        exact hret _ _ _ _ _ _ (Option.some.inj hf) rfl rfl dX6_count_52 hE
      · have hf := it_n h_7 hf
        by_cases h_9 : a1 = 3
        · have hf := it_y h_9 hf
          refine xx_tsw (off := 52) (tgt := 53) hx hb dX6_count_1 3 h_9 (by decide) (by decide) ?_
          refine lv_aload_n hx hb dX6_count_53 rfl (lv_at hl 0 rfl) ?_
          obtain ⟨x_10, g_10, hf⟩ := b_some hf
          refine xx_gR hZ hE k_X6 4 (by decide) rfl tw_30 g_10 dX6_count_54 ?_
          obtain ⟨x_11, g_11, hf⟩ := b_some hf
          refine xx_gIN hZ hE k_X5 3 (by decide) rfl tw_352 g_11 dX6_count_57 ?_
          exact hret _ _ _ _ _ _ (Option.some.inj hf) rfl rfl dX6_count_60 hE
        · have hf := it_n h_9 hf
          have sw := (⟨i32m h_1 (n := 0) (by decide), i32m h_4 (n := 1) (by decide), i32m h_7 (n := 2) (by decide), i32m h_9 (n := 3) (by decide), trivial⟩ : a1.toInt ≠ 0 ∧ a1.toInt ≠ 1 ∧ a1.toInt ≠ 2 ∧ a1.toInt ≠ 3 ∧ True)
          refine lv_tableOut (tgt := 61) hx hb dX6_count_1 (by omega) (by decide) ?_
          refine lv_iconst (v := -1) hx hb dX6_count_61 (by decide) ?_
          exact hret _ _ _ _ _ _ (Option.some.inj hf) rfl rfl dX6_count_62 hE
def rm_X7_isIn : Room := { frames := 0, cells := 0, slots := 0, locals := 0 }
def f_X7_isIn (a1 : Int32) (a2 : Int32) (a3 : Int32) : Option (Int32) :=
    if a1 < a2 then
    some (0 : Int32)
    else
    if a3 < a1 then
    some (0 : Int32)
    else
    some (1 : Int32)
set_option maxHeartbeats 4000000 in
set_option maxRecDepth 100000 in
theorem c_X7_isIn (l : Launch) (D : va_G) (cA : Nat → ClassId) (ad : Nat → Nat) (a1 : Int32) (a2 : Int32) (a3 : Int32) (M : Mm) (zr : Int32) (hf : f_X7_isIn a1 a2 a3 = some zr) : KI l yX7_isIn cX7_isIn 3 (some .boolean) rm_X7_isIn D cA ad [.int a1, .int a2, .int a3] M zr M := by
  refine KI_of (by decide) (Nat.le_of_ble_eq_true rfl) ?_
  intro p e s m args below meth c ls Q A H locs hZ hE hl hret
  have hx := hZ.1
  have hb := hZ.2.1
  have hown := hZ.2.2.2.1
  have hts := hZ.2.2.2.2.1
  have hl : lv_has ls 3 [(0, .int a1), (1, .int a2), (2, .int a3)] := hl
  unfold f_X7_isIn at hf
  refine lv_iload_n hx hb dX7_isIn_0 rfl (lv_at hl 0 rfl) ?_
  refine lv_iload_n hx hb dX7_isIn_1 rfl (lv_at hl 1 rfl) ?_
  refine lv_icmp_lt (tgt := 14) hx hb dX7_isIn_2 (by decide) (fun h_1 => ?_) (fun h_1 => ?_)
  · have hf := it_y h_1 hf
    refine lv_iconst (v := 0) hx hb dX7_isIn_14 (by decide) ?_
    exact hret _ _ _ _ _ _ (Option.some.inj hf) rfl rfl dX7_isIn_15 hE
  · have hf := it_n h_1 hf
    refine lv_iload_n hx hb dX7_isIn_5 rfl (lv_at hl 0 rfl) ?_
    refine lv_iload_n hx hb dX7_isIn_6 rfl (lv_at hl 2 rfl) ?_
    refine lv_icmp_gt (tgt := 14) hx hb dX7_isIn_7 (by decide) (fun h_2 => ?_) (fun h_2 => ?_)
    · have hf := it_y h_2 hf
      refine lv_iconst (v := 0) hx hb dX7_isIn_14 (by decide) ?_
      exact hret _ _ _ _ _ _ (Option.some.inj hf) rfl rfl dX7_isIn_15 hE
    · have hf := it_n h_2 hf
      refine lv_iconst (v := 1) hx hb dX7_isIn_10 (by decide) ?_
      refine lv_goto (tgt := 15) hx hb dX7_isIn_11 (by decide) ?_
      exact hret _ _ _ _ _ _ (Option.some.inj hf) rfl rfl dX7_isIn_15 hE
def rm_X7_isState : Room := { frames := 1, cells := 0, slots := 0, locals := 22 }
def f_X7_isState (o : Nat) (a1 : Int32) (M : Mm) : Option (Int32) :=
    (op_gI M 7 o 2).bind fun x_1 =>
    (f_X7_isIn a1 (0 : Int32) (x_1 - (1 : Int32))).bind fun z_2 =>
    (op_rz z_2).bind fun z_3 =>
    some z_3
set_option maxHeartbeats 4000000 in
set_option maxRecDepth 100000 in
theorem c_X7_isState (l : Launch) (D : va_G) (cA : Nat → ClassId) (ad : Nat → Nat) (o : Nat) (a1 : Int32) (M : Mm) (zr : Int32) (hf : f_X7_isState o a1 M = some zr) : KI l yX7_isState cX7_isState 2 (some .boolean) rm_X7_isState D cA ad [.ref (ad o), .int a1] M zr M := by
  refine KI_of (by decide) (Nat.le_of_ble_eq_true rfl) ?_
  intro p e s m args below meth c ls Q A H locs hZ hE hl hret
  have hx := hZ.1
  have hb := hZ.2.1
  have hown := hZ.2.2.2.1
  have hts := hZ.2.2.2.2.1
  have hl : lv_has ls 2 [(0, .ref (ad o)), (1, .int a1)] := hl
  unfold f_X7_isState at hf
  refine lv_iload_n hx hb dX7_isState_0 rfl (lv_at hl 1 rfl) ?_
  refine lv_iconst (v := 0) hx hb dX7_isState_1 (by decide) ?_
  refine lv_aload_n hx hb dX7_isState_2 rfl (lv_at hl 0 rfl) ?_
  obtain ⟨x_1, g_1, hf⟩ := b_some hf
  refine xx_gI hZ hE k_X7 2 (by decide) rfl tw_363 g_1 dX7_isState_3 ?_
  refine lv_iconst (v := 1) hx hb dX7_isState_6 (by decide) ?_
  refine lv_isub hx hb dX7_isState_7 ?_
  obtain ⟨z_2, c_2, hf⟩ := b_some hf
  refine xx_cSi hZ hE (As := [.int a1, .int (0 : Int32), .int (x_1 - (1 : Int32))]) (rest := []) tw_366 (c_X7_isIn l D cA ad a1 (0 : Int32) (x_1 - (1 : Int32)) M _ c_2) cw_X7_isIn tw_364 ⟨rfl, rfl⟩ ⟨Nat.le_of_ble_eq_true rfl, Nat.le_of_ble_eq_true rfl⟩ rfl hl.1 rfl (Nat.le_of_ble_eq_true rfl) ⟨Nat.le_of_ble_eq_true rfl, Nat.le_of_ble_eq_true rfl⟩ dX7_isState_8 (fun H locs hE => ?_)
  obtain ⟨z_3, r_3, hf⟩ := b_some hf
  obtain ⟨e_3, r_3⟩ := rz_m r_3
  exact hret _ _ _ _ _ _ (e_3.symm.trans (Option.some.inj hf)) rfl r_3 dX7_isState_11 hE
def rm_X7_isPlace : Room := { frames := 1, cells := 0, slots := 0, locals := 22 }
def f_X7_isPlace (o : Nat) (a1 : Int32) (M : Mm) : Option (Int32) :=
    (op_gI M 7 o 0).bind fun x_1 =>
    (f_X7_isIn a1 (0 : Int32) (x_1 - (1 : Int32))).bind fun z_2 =>
    (op_rz z_2).bind fun z_3 =>
    some z_3
set_option maxHeartbeats 4000000 in
set_option maxRecDepth 100000 in
theorem c_X7_isPlace (l : Launch) (D : va_G) (cA : Nat → ClassId) (ad : Nat → Nat) (o : Nat) (a1 : Int32) (M : Mm) (zr : Int32) (hf : f_X7_isPlace o a1 M = some zr) : KI l yX7_isPlace cX7_isPlace 2 (some .boolean) rm_X7_isPlace D cA ad [.ref (ad o), .int a1] M zr M := by
  refine KI_of (by decide) (Nat.le_of_ble_eq_true rfl) ?_
  intro p e s m args below meth c ls Q A H locs hZ hE hl hret
  have hx := hZ.1
  have hb := hZ.2.1
  have hown := hZ.2.2.2.1
  have hts := hZ.2.2.2.2.1
  have hl : lv_has ls 2 [(0, .ref (ad o)), (1, .int a1)] := hl
  unfold f_X7_isPlace at hf
  refine lv_iload_n hx hb dX7_isPlace_0 rfl (lv_at hl 1 rfl) ?_
  refine lv_iconst (v := 0) hx hb dX7_isPlace_1 (by decide) ?_
  refine lv_aload_n hx hb dX7_isPlace_2 rfl (lv_at hl 0 rfl) ?_
  obtain ⟨x_1, g_1, hf⟩ := b_some hf
  refine xx_gI hZ hE k_X7 0 (by decide) rfl tw_367 g_1 dX7_isPlace_3 ?_
  refine lv_iconst (v := 1) hx hb dX7_isPlace_6 (by decide) ?_
  refine lv_isub hx hb dX7_isPlace_7 ?_
  obtain ⟨z_2, c_2, hf⟩ := b_some hf
  refine xx_cSi hZ hE (As := [.int a1, .int (0 : Int32), .int (x_1 - (1 : Int32))]) (rest := []) tw_366 (c_X7_isIn l D cA ad a1 (0 : Int32) (x_1 - (1 : Int32)) M _ c_2) cw_X7_isIn tw_364 ⟨rfl, rfl⟩ ⟨Nat.le_of_ble_eq_true rfl, Nat.le_of_ble_eq_true rfl⟩ rfl hl.1 rfl (Nat.le_of_ble_eq_true rfl) ⟨Nat.le_of_ble_eq_true rfl, Nat.le_of_ble_eq_true rfl⟩ dX7_isPlace_8 (fun H locs hE => ?_)
  obtain ⟨z_3, r_3, hf⟩ := b_some hf
  obtain ⟨e_3, r_3⟩ := rz_m r_3
  exact hret _ _ _ _ _ _ (e_3.symm.trans (Option.some.inj hf)) rfl r_3 dX7_isPlace_11 hE
def rm_X7_isMove : Room := { frames := 1, cells := 0, slots := 0, locals := 22 }
def f_X7_isMove (o : Nat) (a1 : Int32) (M : Mm) : Option (Int32) :=
    (op_gI M 7 o 4).bind fun x_1 =>
    (f_X7_isIn a1 (0 : Int32) (x_1 - (1 : Int32))).bind fun z_2 =>
    (op_rz z_2).bind fun z_3 =>
    some z_3
set_option maxHeartbeats 4000000 in
set_option maxRecDepth 100000 in
theorem c_X7_isMove (l : Launch) (D : va_G) (cA : Nat → ClassId) (ad : Nat → Nat) (o : Nat) (a1 : Int32) (M : Mm) (zr : Int32) (hf : f_X7_isMove o a1 M = some zr) : KI l yX7_isMove cX7_isMove 2 (some .boolean) rm_X7_isMove D cA ad [.ref (ad o), .int a1] M zr M := by
  refine KI_of (by decide) (Nat.le_of_ble_eq_true rfl) ?_
  intro p e s m args below meth c ls Q A H locs hZ hE hl hret
  have hx := hZ.1
  have hb := hZ.2.1
  have hown := hZ.2.2.2.1
  have hts := hZ.2.2.2.2.1
  have hl : lv_has ls 2 [(0, .ref (ad o)), (1, .int a1)] := hl
  unfold f_X7_isMove at hf
  refine lv_iload_n hx hb dX7_isMove_0 rfl (lv_at hl 1 rfl) ?_
  refine lv_iconst (v := 0) hx hb dX7_isMove_1 (by decide) ?_
  refine lv_aload_n hx hb dX7_isMove_2 rfl (lv_at hl 0 rfl) ?_
  obtain ⟨x_1, g_1, hf⟩ := b_some hf
  refine xx_gI hZ hE k_X7 4 (by decide) rfl tw_368 g_1 dX7_isMove_3 ?_
  refine lv_iconst (v := 1) hx hb dX7_isMove_6 (by decide) ?_
  refine lv_isub hx hb dX7_isMove_7 ?_
  obtain ⟨z_2, c_2, hf⟩ := b_some hf
  refine xx_cSi hZ hE (As := [.int a1, .int (0 : Int32), .int (x_1 - (1 : Int32))]) (rest := []) tw_366 (c_X7_isIn l D cA ad a1 (0 : Int32) (x_1 - (1 : Int32)) M _ c_2) cw_X7_isIn tw_364 ⟨rfl, rfl⟩ ⟨Nat.le_of_ble_eq_true rfl, Nat.le_of_ble_eq_true rfl⟩ rfl hl.1 rfl (Nat.le_of_ble_eq_true rfl) ⟨Nat.le_of_ble_eq_true rfl, Nat.le_of_ble_eq_true rfl⟩ dX7_isMove_8 (fun H locs hE => ?_)
  obtain ⟨z_3, r_3, hf⟩ := b_some hf
  obtain ⟨e_3, r_3⟩ := rz_m r_3
  exact hret _ _ _ _ _ _ (e_3.symm.trans (Option.some.inj hf)) rfl r_3 dX7_isMove_11 hE
def lp_X7_changed_2 (i_0 : Nat) : Nat → Int32 → Mm → Option (Mm)
  | 0, _, _ => none
  | n_2 + 1, v_1, M =>
    if (10 : Int32) ≤ v_1 then
    some M
    else
    (op_gR M 7 i_0 14).bind fun x_2 =>
    (op_sZ M x_2 v_1 (0 : Int32)).bind fun M_3 =>
    lp_X7_changed_2 i_0 n_2 (v_1 + 1) M_3
theorem lp_X7_changed_2_s (i_0 : Nat) {n_2 : Nat} {v_1 : Int32} {M : Mm} {zr : Mm} (hf : lp_X7_changed_2 i_0 (n_2 + 1) v_1 M = some zr) : (
    if (10 : Int32) ≤ v_1 then
    some M
    else
    (op_gR M 7 i_0 14).bind fun x_2 =>
    (op_sZ M x_2 v_1 (0 : Int32)).bind fun M_3 =>
    lp_X7_changed_2 i_0 n_2 (v_1 + 1) M_3) = some zr := hf
def rm_X7_changed : Room := { frames := 0, cells := 0, slots := 0, locals := 0 }
def f_X7_changed (o : Nat) (M : Mm) : Option (Mm) :=
    lp_X7_changed_2  o FU (0 : Int32) M
set_option maxHeartbeats 4000000 in
set_option maxRecDepth 100000 in
theorem c_X7_changed (l : Launch) (D : va_G) (cA : Nat → ClassId) (ad : Nat → Nat) (o : Nat) (M : Mm) (zr : Mm) (hf : f_X7_changed o M = some zr) : KV l yX7_changed cX7_changed 2 none rm_X7_changed D cA ad [.ref (ad o)] M zr := by
  refine KV_of (by decide) (Nat.le_of_ble_eq_true rfl) ?_
  intro p e s m args below meth c ls Q A H locs hZ hE hl hret
  have hx := hZ.1
  have hb := hZ.2.1
  have hown := hZ.2.2.2.1
  have hts := hZ.2.2.2.2.1
  have hl : lv_has ls 2 [(0, .ref (ad o))] := hl
  unfold f_X7_changed at hf
  refine lv_iconst (v := 0) hx hb dX7_changed_0 (by decide) ?_
  refine lv_istore_n (lv' := [(1, .int (0 : Int32)), (0, .ref (ad o))]) hx hb dX7_changed_1 rfl hl (by decide) rfl (fun ls hl => ?_)
  have L_4 : ∀ (n_2 : Nat) (w_4_1 : Int32) (M_4 : Mm) (H : Heap) (locs : List Loc) (ls : Array Slot), lp_X7_changed_2 o n_2 w_4_1 M_4 = some zr → En D cA ad s A M_4 H locs → lv_has ls 2 [(0, .ref (ad o)), (1, .int w_4_1)] → W p l e rm_X7_changed s m args below meth c H locs 0 0 Q (F0 m 2 ls []) := by
    intro n_2
    induction n_2 with
    | zero =>
      intro w_4_1 M_4 H locs ls hf
      cases (show (none : Option (Mm)) = some zr from hf)
    | succ n_2 ih_2 =>
      intro w_4_1 M_4 H locs ls hf hE hl
      have hf := lp_X7_changed_2_s _ hf
      refine lv_iload_n hx hb dX7_changed_2 rfl (lv_at hl 1 rfl) ?_
      refine lv_bipush (v := 10) hx hb dX7_changed_3 (by decide) ?_
      refine lv_icmp_ge (tgt := 21) hx hb dX7_changed_5 (by decide) (fun h_5 => ?_) (fun h_5 => ?_)
      · have hf := it_y h_5 hf
        exact hret _ _ _ _ _ (Option.some.inj hf) dX7_changed_21 hE
      · have hf := it_n h_5 hf
        refine lv_aload_n hx hb dX7_changed_8 rfl (lv_at hl 0 rfl) ?_
        obtain ⟨x_6, g_6, hf⟩ := b_some hf
        refine xx_gR hZ hE k_X7 14 (by decide) rfl tw_369 g_6 dX7_changed_9 ?_
        refine lv_iload_n hx hb dX7_changed_12 rfl (lv_at hl 1 rfl) ?_
        refine lv_iconst (v := 0) hx hb dX7_changed_13 (by decide) ?_
        obtain ⟨M_7, g_7, hf⟩ := b_some hf
        refine xx_sZ hZ hE g_7 dX7_changed_14 (fun H locs hE => ?_)
        refine lv_iinc (v := (w_4_1 + 1)) (lv' := [(1, .int (w_4_1 + 1)), (0, .ref (ad o))]) hx hb dX7_changed_15 hl (k := 1) rfl rfl (by decide) rfl (fun ls hl => ?_)
        refine lv_goto (tgt := 2) hx hb dX7_changed_18 (by decide) ?_
        exact ih_2 _ _ _ _ _ hf hE (lv_sub hl [1, 0] rfl)
  exact L_4 _ _ _ _ _ _ hf hE (lv_sub hl [1, 0] rfl)
def lp_X7_model_204 (k_225 : Mm → Option (Int32 × Mm)) (i_0 : Nat) : Nat → Int32 → Mm → Option (Int32 × Mm)
  | 0, _, _ => none
  | n_204 + 1, v_7, M =>
    if (16 : Int32) ≤ v_7 then
    k_225 M
    else
    (op_gR M 7 i_0 3).bind fun x_88 =>
    (op_sI M x_88 v_7 (1 : Int32)).bind fun M_89 =>
    lp_X7_model_204 k_225 i_0 n_204 (v_7 + 1) M_89
theorem lp_X7_model_204_s (k_225 : Mm → Option (Int32 × Mm)) (i_0 : Nat) {n_204 : Nat} {v_7 : Int32} {M : Mm} {zr : Int32 × Mm} (hf : lp_X7_model_204 k_225 i_0 (n_204 + 1) v_7 M = some zr) : (
    if (16 : Int32) ≤ v_7 then
    k_225 M
    else
    (op_gR M 7 i_0 3).bind fun x_88 =>
    (op_sI M x_88 v_7 (1 : Int32)).bind fun M_89 =>
    lp_X7_model_204 k_225 i_0 n_204 (v_7 + 1) M_89) = some zr := hf
theorem lp_X7_model_204_k {k_225 : Mm → Option (Int32 × Mm)} {i_0 : Nat} {n : Nat} {v_7 : Int32} {M : Mm} {zr : Int32 × Mm} (hf : lp_X7_model_204 k_225 i_0 n v_7 M = some zr) : ∃ (m_225 : Mm → Option (Int32 × Mm)), m_225 = k_225 ∧ lp_X7_model_204 m_225 i_0 n v_7 M = some zr := ⟨k_225, rfl, hf⟩
def rm_X7_model : Room := { frames := 1, cells := 0, slots := 0, locals := 22 }
def f_X7_model (o : Nat) (a1 : Int32) (a2 : Int32) (a3 : Int32) (a4 : Int32) (M : Mm) : Option (Int32 × Mm) :=
    (f_X7_isIn a1 (2 : Int32) (6 : Int32)).bind fun z_1 =>
    op_jn (fun (x_2_0 : Int32) =>
    if x_2_0 = 0 then
    some ((-1 : Int32), M)
    else
    if (if x_2_0 = 0 then (0 : Int32) else (if a2 = 0 then (if a3 = 0 then (if a4 = 0 then (((a1 * (1 : Int32)) * (1 : Int32)) * (1 : Int32)) else (((a1 * (1 : Int32)) * (1 : Int32)) * a4)) else (if a4 = 0 then (((a1 * (1 : Int32)) * a3) * (1 : Int32)) else (((a1 * (1 : Int32)) * a3) * a4))) else (if a3 = 0 then (if a4 = 0 then (((a1 * a2) * (1 : Int32)) * (1 : Int32)) else (((a1 * a2) * (1 : Int32)) * a4)) else (if a4 = 0 then (((a1 * a2) * a3) * (1 : Int32)) else (((a1 * a2) * a3) * a4))))) ≤ (16 : Int32) then
    (op_gR M 7 o 1).bind fun x_76 =>
    (op_sI M x_76 (0 : Int32) a1).bind fun M_77 =>
    (op_gR M_77 7 o 1).bind fun x_78 =>
    (op_sI M_77 x_78 (1 : Int32) a2).bind fun M_79 =>
    (op_gR M_79 7 o 1).bind fun x_80 =>
    (op_sI M_79 x_80 (2 : Int32) a3).bind fun M_81 =>
    (op_gR M_81 7 o 1).bind fun x_82 =>
    (op_sI M_81 x_82 (3 : Int32) a4).bind fun M_83 =>
    (op_pI M_83 7 o 0 (if a2 = 0 then (1 : Int32) else (if a3 = 0 then (2 : Int32) else (if a4 = 0 then (3 : Int32) else (4 : Int32))))).bind fun M_85 =>
    (op_pI M_85 7 o 2 (if x_2_0 = 0 then (0 : Int32) else (if a2 = 0 then (if a3 = 0 then (if a4 = 0 then (((a1 * (1 : Int32)) * (1 : Int32)) * (1 : Int32)) else (((a1 * (1 : Int32)) * (1 : Int32)) * a4)) else (if a4 = 0 then (((a1 * (1 : Int32)) * a3) * (1 : Int32)) else (((a1 * (1 : Int32)) * a3) * a4))) else (if a3 = 0 then (if a4 = 0 then (((a1 * a2) * (1 : Int32)) * (1 : Int32)) else (((a1 * a2) * (1 : Int32)) * a4)) else (if a4 = 0 then (((a1 * a2) * a3) * (1 : Int32)) else (((a1 * a2) * a3) * a4)))))).bind fun M_86 =>
    lp_X7_model_204 (fun (M_91 : Mm) =>
    (op_pI M_91 7 o 4 (0 : Int32)).bind fun M_92 =>
    (op_pI M_92 7 o 17 (-1 : Int32)).bind fun M_93 =>
    (op_pI M_93 7 o 19 (0 : Int32)).bind fun M_94 =>
    (op_is M_94 o 7).bind fun _ =>
    (f_X7_changed o M_94).bind fun z_95 =>
    (op_gI z_95 7 o 2).bind fun x_96 =>
    some (x_96, z_95)) o FU (0 : Int32) M_86
    else
    some ((-1 : Int32), M))
    fun j_2 =>
    if z_1 = 0 then
    j_2 (0 : Int32)
    else
    if a2 = 0 then
    if a3 = 0 then
    if a4 = 0 then
    if a2 = 0 then
    if a3 = 0 then
    if a3 = 0 then
    if a4 = 0 then
    j_2 (1 : Int32)
    else
    j_2 (0 : Int32)
    else
    j_2 (1 : Int32)
    else
    j_2 (0 : Int32)
    else
    if a3 = 0 then
    if a4 = 0 then
    j_2 (1 : Int32)
    else
    j_2 (0 : Int32)
    else
    j_2 (1 : Int32)
    else
    (f_X7_isIn a4 (2 : Int32) (6 : Int32)).bind fun z_13 =>
    if z_13 = 0 then
    j_2 (0 : Int32)
    else
    if a2 = 0 then
    if a3 = 0 then
    if a3 = 0 then
    if a4 = 0 then
    j_2 (1 : Int32)
    else
    j_2 (0 : Int32)
    else
    j_2 (1 : Int32)
    else
    j_2 (0 : Int32)
    else
    if a3 = 0 then
    if a4 = 0 then
    j_2 (1 : Int32)
    else
    j_2 (0 : Int32)
    else
    j_2 (1 : Int32)
    else
    (f_X7_isIn a3 (2 : Int32) (6 : Int32)).bind fun z_21 =>
    if z_21 = 0 then
    j_2 (0 : Int32)
    else
    if a4 = 0 then
    if a2 = 0 then
    if a3 = 0 then
    if a3 = 0 then
    if a4 = 0 then
    j_2 (1 : Int32)
    else
    j_2 (0 : Int32)
    else
    j_2 (1 : Int32)
    else
    j_2 (0 : Int32)
    else
    if a3 = 0 then
    if a4 = 0 then
    j_2 (1 : Int32)
    else
    j_2 (0 : Int32)
    else
    j_2 (1 : Int32)
    else
    (f_X7_isIn a4 (2 : Int32) (6 : Int32)).bind fun z_30 =>
    if z_30 = 0 then
    j_2 (0 : Int32)
    else
    if a2 = 0 then
    if a3 = 0 then
    if a3 = 0 then
    if a4 = 0 then
    j_2 (1 : Int32)
    else
    j_2 (0 : Int32)
    else
    j_2 (1 : Int32)
    else
    j_2 (0 : Int32)
    else
    if a3 = 0 then
    if a4 = 0 then
    j_2 (1 : Int32)
    else
    j_2 (0 : Int32)
    else
    j_2 (1 : Int32)
    else
    (f_X7_isIn a2 (2 : Int32) (6 : Int32)).bind fun z_38 =>
    if z_38 = 0 then
    j_2 (0 : Int32)
    else
    if a3 = 0 then
    if a4 = 0 then
    if a2 = 0 then
    if a3 = 0 then
    if a3 = 0 then
    if a4 = 0 then
    j_2 (1 : Int32)
    else
    j_2 (0 : Int32)
    else
    j_2 (1 : Int32)
    else
    j_2 (0 : Int32)
    else
    if a3 = 0 then
    if a4 = 0 then
    j_2 (1 : Int32)
    else
    j_2 (0 : Int32)
    else
    j_2 (1 : Int32)
    else
    (f_X7_isIn a4 (2 : Int32) (6 : Int32)).bind fun z_48 =>
    if z_48 = 0 then
    j_2 (0 : Int32)
    else
    if a2 = 0 then
    if a3 = 0 then
    if a3 = 0 then
    if a4 = 0 then
    j_2 (1 : Int32)
    else
    j_2 (0 : Int32)
    else
    j_2 (1 : Int32)
    else
    j_2 (0 : Int32)
    else
    if a3 = 0 then
    if a4 = 0 then
    j_2 (1 : Int32)
    else
    j_2 (0 : Int32)
    else
    j_2 (1 : Int32)
    else
    (f_X7_isIn a3 (2 : Int32) (6 : Int32)).bind fun z_56 =>
    if z_56 = 0 then
    j_2 (0 : Int32)
    else
    if a4 = 0 then
    if a2 = 0 then
    if a3 = 0 then
    if a3 = 0 then
    if a4 = 0 then
    j_2 (1 : Int32)
    else
    j_2 (0 : Int32)
    else
    j_2 (1 : Int32)
    else
    j_2 (0 : Int32)
    else
    if a3 = 0 then
    if a4 = 0 then
    j_2 (1 : Int32)
    else
    j_2 (0 : Int32)
    else
    j_2 (1 : Int32)
    else
    (f_X7_isIn a4 (2 : Int32) (6 : Int32)).bind fun z_65 =>
    if z_65 = 0 then
    j_2 (0 : Int32)
    else
    if a2 = 0 then
    if a3 = 0 then
    if a3 = 0 then
    if a4 = 0 then
    j_2 (1 : Int32)
    else
    j_2 (0 : Int32)
    else
    j_2 (1 : Int32)
    else
    j_2 (0 : Int32)
    else
    if a3 = 0 then
    if a4 = 0 then
    j_2 (1 : Int32)
    else
    j_2 (0 : Int32)
    else
    j_2 (1 : Int32)
set_option maxHeartbeats 4000000 in
set_option maxRecDepth 100000 in
theorem c_X7_model (l : Launch) (D : va_G) (cA : Nat → ClassId) (ad : Nat → Nat) (o : Nat) (a1 : Int32) (a2 : Int32) (a3 : Int32) (a4 : Int32) (M : Mm) (zr : Int32 × Mm) (hf : f_X7_model o a1 a2 a3 a4 M = some zr) : KI l yX7_model cX7_model 8 (some .int) rm_X7_model D cA ad [.ref (ad o), .int a1, .int a2, .int a3, .int a4] M zr.1 zr.2 := by
  refine KI_of (by decide) (Nat.le_of_ble_eq_true rfl) ?_
  intro p e s m args below meth c ls Q A H locs hZ hE hl hret
  have hx := hZ.1
  have hb := hZ.2.1
  have hown := hZ.2.2.2.1
  have hts := hZ.2.2.2.2.1
  have hl : lv_has ls 8 [(0, .ref (ad o)), (1, .int a1), (2, .int a2), (3, .int a3), (4, .int a4)] := hl
  unfold f_X7_model at hf
  refine lv_iload_n hx hb dX7_model_0 rfl (lv_at hl 1 rfl) ?_
  refine lv_iconst (v := 2) hx hb dX7_model_1 (by decide) ?_
  refine lv_bipush (v := 6) hx hb dX7_model_2 (by decide) ?_
  obtain ⟨z_1, c_1, hf⟩ := b_some hf
  refine xx_cSi hZ hE (As := [.int a1, .int (2 : Int32), .int (6 : Int32)]) (rest := []) tw_366 (c_X7_isIn l D cA ad a1 (2 : Int32) (6 : Int32) M _ c_1) cw_X7_isIn tw_364 ⟨rfl, rfl⟩ ⟨Nat.le_of_ble_eq_true rfl, Nat.le_of_ble_eq_true rfl⟩ rfl hl.1 rfl (Nat.le_of_ble_eq_true rfl) ⟨Nat.le_of_ble_eq_true rfl, Nat.le_of_ble_eq_true rfl⟩ dX7_model_4 (fun H locs hE => ?_)
  obtain ⟨j_2, ej_2, hf⟩ := jn_e hf
  have q_2 : ∀ (x_2_0 : Int32) (H : Heap) (locs : List Loc) (ls : Array Slot), j_2 x_2_0 = some zr → En D cA ad s A M H locs → lv_has ls 8 [(0, .ref (ad o)), (1, .int a1), (2, .int a2), (3, .int a3), (4, .int a4)] → W p l e rm_X7_model s m args below meth c H locs 0 0 Q (F0 m 76 ls [.int x_2_0]) := by
    intro x_2_0 H locs ls hf hE hl
    rw [ej_2] at hf
    refine lv_istore (lv' := [(5, .int x_2_0), (0, .ref (ad o)), (1, .int a1), (2, .int a2), (3, .int a3), (4, .int a4)]) hx hb dX7_model_76 hl (by decide) rfl (fun ls hl => ?_)
    refine lv_iload hx hb dX7_model_78 (lv_at hl 0 rfl) ?_
    have q_73 : ∀ x_73 : Int32, x_73 = (if x_2_0 = 0 then (0 : Int32) else (if a2 = 0 then (if a3 = 0 then (if a4 = 0 then (((a1 * (1 : Int32)) * (1 : Int32)) * (1 : Int32)) else (((a1 * (1 : Int32)) * (1 : Int32)) * a4)) else (if a4 = 0 then (((a1 * (1 : Int32)) * a3) * (1 : Int32)) else (((a1 * (1 : Int32)) * a3) * a4))) else (if a3 = 0 then (if a4 = 0 then (((a1 * a2) * (1 : Int32)) * (1 : Int32)) else (((a1 * a2) * (1 : Int32)) * a4)) else (if a4 = 0 then (((a1 * a2) * a3) * (1 : Int32)) else (((a1 * a2) * a3) * a4))))) → W p l e rm_X7_model s m args below meth c H locs 0 0 Q (F0 m 120 ls [.int x_73]) := by
      intro x_73 e_73
      subst e_73
      refine lv_istore (lv' := [(6, .int (if x_2_0 = 0 then (0 : Int32) else (if a2 = 0 then (if a3 = 0 then (if a4 = 0 then (((a1 * (1 : Int32)) * (1 : Int32)) * (1 : Int32)) else (((a1 * (1 : Int32)) * (1 : Int32)) * a4)) else (if a4 = 0 then (((a1 * (1 : Int32)) * a3) * (1 : Int32)) else (((a1 * (1 : Int32)) * a3) * a4))) else (if a3 = 0 then (if a4 = 0 then (((a1 * a2) * (1 : Int32)) * (1 : Int32)) else (((a1 * a2) * (1 : Int32)) * a4)) else (if a4 = 0 then (((a1 * a2) * a3) * (1 : Int32)) else (((a1 * a2) * a3) * a4)))))), (5, .int x_2_0), (0, .ref (ad o)), (1, .int a1), (2, .int a2), (3, .int a3), (4, .int a4)]) hx hb dX7_model_120 hl (by decide) rfl (fun ls hl => ?_)
      refine lv_iload hx hb dX7_model_122 (lv_at hl 1 rfl) ?_
      refine lv_if_eq (tgt := 134) hx hb dX7_model_124 (by decide) (fun h_74 => ?_) (fun h_74 => ?_)
      · have hf := it_y h_74 hf
        refine lv_iconst (v := -1) hx hb dX7_model_134 (by decide) ?_
        exact hret _ _ _ _ _ _ (pr_1 hf) (pr_2 hf) rfl dX7_model_135 hE
      · have hf := it_n h_74 hf
        refine lv_iload hx hb dX7_model_127 (lv_at hl 0 rfl) ?_
        refine lv_bipush (v := 16) hx hb dX7_model_129 (by decide) ?_
        refine lv_icmp_le (tgt := 136) hx hb dX7_model_131 (by decide) (fun h_75 => ?_) (fun h_75 => ?_)
        · have hf := it_y h_75 hf
          refine lv_aload_n hx hb dX7_model_136 rfl (lv_at hl 2 rfl) ?_
          obtain ⟨x_76, g_76, hf⟩ := b_some hf
          refine xx_gR hZ hE k_X7 1 (by decide) rfl tw_370 g_76 dX7_model_137 ?_
          refine lv_iconst (v := 0) hx hb dX7_model_140 (by decide) ?_
          refine lv_iload_n hx hb dX7_model_141 rfl (lv_at hl 3 rfl) ?_
          obtain ⟨M_77, g_77, hf⟩ := b_some hf
          refine xx_sI hZ hE g_77 dX7_model_142 (fun H locs hE => ?_)
          refine lv_aload_n hx hb dX7_model_143 rfl (lv_at hl 2 rfl) ?_
          obtain ⟨x_78, g_78, hf⟩ := b_some hf
          refine xx_gR hZ hE k_X7 1 (by decide) rfl tw_370 g_78 dX7_model_144 ?_
          refine lv_iconst (v := 1) hx hb dX7_model_147 (by decide) ?_
          refine lv_iload_n hx hb dX7_model_148 rfl (lv_at hl 4 rfl) ?_
          obtain ⟨M_79, g_79, hf⟩ := b_some hf
          refine xx_sI hZ hE g_79 dX7_model_149 (fun H locs hE => ?_)
          refine lv_aload_n hx hb dX7_model_150 rfl (lv_at hl 2 rfl) ?_
          obtain ⟨x_80, g_80, hf⟩ := b_some hf
          refine xx_gR hZ hE k_X7 1 (by decide) rfl tw_370 g_80 dX7_model_151 ?_
          refine lv_iconst (v := 2) hx hb dX7_model_154 (by decide) ?_
          refine lv_iload_n hx hb dX7_model_155 rfl (lv_at hl 5 rfl) ?_
          obtain ⟨M_81, g_81, hf⟩ := b_some hf
          refine xx_sI hZ hE g_81 dX7_model_156 (fun H locs hE => ?_)
          refine lv_aload_n hx hb dX7_model_157 rfl (lv_at hl 2 rfl) ?_
          obtain ⟨x_82, g_82, hf⟩ := b_some hf
          refine xx_gR hZ hE k_X7 1 (by decide) rfl tw_370 g_82 dX7_model_158 ?_
          refine lv_iconst (v := 3) hx hb dX7_model_161 (by decide) ?_
          refine lv_iload hx hb dX7_model_162 (lv_at hl 6 rfl) ?_
          obtain ⟨M_83, g_83, hf⟩ := b_some hf
          refine xx_sI hZ hE g_83 dX7_model_164 (fun H locs hE => ?_)
          refine lv_aload_n hx hb dX7_model_165 rfl (lv_at hl 2 rfl) ?_
          refine lv_iload_n hx hb dX7_model_166 rfl (lv_at hl 4 rfl) ?_
          have q_84 : ∀ x_84 : Int32, x_84 = (if a2 = 0 then (1 : Int32) else (if a3 = 0 then (2 : Int32) else (if a4 = 0 then (3 : Int32) else (4 : Int32)))) → W p l e rm_X7_model s m args below meth c H locs 0 0 Q (F0 m 192 ls [.int x_84, .ref (ad o)]) := by
            intro x_84 e_84
            subst e_84
            obtain ⟨M_85, g_85, hf⟩ := b_some hf
            refine xx_pI hZ hE k_X7 0 (by decide) rfl rfl rfl tw_367 g_85 dX7_model_192 (fun H locs hE => ?_)
            refine lv_aload_n hx hb dX7_model_195 rfl (lv_at hl 2 rfl) ?_
            refine lv_iload hx hb dX7_model_196 (lv_at hl 0 rfl) ?_
            obtain ⟨M_86, g_86, hf⟩ := b_some hf
            refine xx_pI hZ hE k_X7 2 (by decide) rfl rfl rfl tw_363 g_86 dX7_model_198 (fun H locs hE => ?_)
            refine lv_iconst (v := 0) hx hb dX7_model_201 (by decide) ?_
            refine lv_istore (lv' := [(7, .int (0 : Int32)), (6, .int (if x_2_0 = 0 then (0 : Int32) else (if a2 = 0 then (if a3 = 0 then (if a4 = 0 then (((a1 * (1 : Int32)) * (1 : Int32)) * (1 : Int32)) else (((a1 * (1 : Int32)) * (1 : Int32)) * a4)) else (if a4 = 0 then (((a1 * (1 : Int32)) * a3) * (1 : Int32)) else (((a1 * (1 : Int32)) * a3) * a4))) else (if a3 = 0 then (if a4 = 0 then (((a1 * a2) * (1 : Int32)) * (1 : Int32)) else (((a1 * a2) * (1 : Int32)) * a4)) else (if a4 = 0 then (((a1 * a2) * a3) * (1 : Int32)) else (((a1 * a2) * a3) * a4)))))), (5, .int x_2_0), (0, .ref (ad o)), (1, .int a1), (2, .int a2), (3, .int a3), (4, .int a4)]) hx hb dX7_model_202 hl (by decide) rfl (fun ls hl => ?_)
            obtain ⟨k_225_91, ek_225_91, hf⟩ := lp_X7_model_204_k hf
            have o_225_91 : ∀ (M_91 : Mm) (H : Heap) (locs : List Loc) (ls : Array Slot), k_225_91 M_91 = some zr → En D cA ad s A M_91 H locs → lv_has ls 8 [(0, .ref (ad o))] → W p l e rm_X7_model s m args below meth c H locs 0 0 Q (F0 m 225 ls []) := by
              intro M_91 H locs ls hf hE hl
              rw [ek_225_91] at hf
              refine lv_aload_n hx hb dX7_model_225 rfl (lv_at hl 0 rfl) ?_
              refine lv_iconst (v := 0) hx hb dX7_model_226 (by decide) ?_
              obtain ⟨M_92, g_92, hf⟩ := b_some hf
              refine xx_pI hZ hE k_X7 4 (by decide) rfl rfl rfl tw_368 g_92 dX7_model_227 (fun H locs hE => ?_)
              refine lv_aload_n hx hb dX7_model_230 rfl (lv_at hl 0 rfl) ?_
              refine lv_iconst (v := -1) hx hb dX7_model_231 (by decide) ?_
              obtain ⟨M_93, g_93, hf⟩ := b_some hf
              refine xx_pI hZ hE k_X7 17 (by decide) rfl rfl rfl tw_372 g_93 dX7_model_232 (fun H locs hE => ?_)
              refine lv_aload_n hx hb dX7_model_235 rfl (lv_at hl 0 rfl) ?_
              refine lv_iconst (v := 0) hx hb dX7_model_236 (by decide) ?_
              obtain ⟨M_94, g_94, hf⟩ := b_some hf
              refine xx_pI hZ hE k_X7 19 (by decide) rfl rfl rfl tw_373 g_94 dX7_model_237 (fun H locs hE => ?_)
              refine lv_aload_n hx hb dX7_model_240 rfl (lv_at hl 0 rfl) ?_
              obtain ⟨_, i_95, hf⟩ := b_some hf
              obtain ⟨z_95, c_95, hf⟩ := b_some hf
              refine xx_cVv hZ hE (As := []) (rest := []) k_X7 (is_m i_95) tw_375 tw_376 (c_X7_changed l D cA ad o M_94 _ c_95) cw_X7_changed tw_374 ⟨rfl, rfl⟩ ⟨Nat.le_of_ble_eq_true rfl, Nat.le_of_ble_eq_true rfl⟩ rfl hl.1 rfl (Nat.le_of_ble_eq_true rfl) ⟨Nat.le_of_ble_eq_true rfl, Nat.le_of_ble_eq_true rfl⟩ dX7_model_241 (fun H locs hE => ?_)
              refine lv_aload_n hx hb dX7_model_244 rfl (lv_at hl 0 rfl) ?_
              obtain ⟨x_96, g_96, hf⟩ := b_some hf
              refine xx_gI hZ hE k_X7 2 (by decide) rfl tw_363 g_96 dX7_model_245 ?_
              exact hret _ _ _ _ _ _ (pr_1 hf) (pr_2 hf) rfl dX7_model_248 hE
            have L_90 : ∀ (n_204 : Nat) (w_90_7 : Int32) (M_90 : Mm) (H : Heap) (locs : List Loc) (ls : Array Slot), lp_X7_model_204 k_225_91 o n_204 w_90_7 M_90 = some zr → En D cA ad s A M_90 H locs → lv_has ls 8 [(0, .ref (ad o)), (7, .int w_90_7)] → W p l e rm_X7_model s m args below meth c H locs 0 0 Q (F0 m 204 ls []) := by
              intro n_204
              induction n_204 with
              | zero =>
                intro w_90_7 M_90 H locs ls hf
                cases (show (none : Option (Int32 × Mm)) = some zr from hf)
              | succ n_204 ih_204 =>
                intro w_90_7 M_90 H locs ls hf hE hl
                have hf := lp_X7_model_204_s _ _ hf
                refine lv_iload hx hb dX7_model_204 (lv_at hl 1 rfl) ?_
                refine lv_bipush (v := 16) hx hb dX7_model_206 (by decide) ?_
                refine lv_icmp_ge (tgt := 225) hx hb dX7_model_208 (by decide) (fun h_97 => ?_) (fun h_97 => ?_)
                · have hf := it_y h_97 hf
                  exact o_225_91 _ _ _ _ hf hE (lv_sub hl [0] rfl)
                · have hf := it_n h_97 hf
                  refine lv_aload_n hx hb dX7_model_211 rfl (lv_at hl 0 rfl) ?_
                  obtain ⟨x_98, g_98, hf⟩ := b_some hf
                  refine xx_gR hZ hE k_X7 3 (by decide) rfl tw_371 g_98 dX7_model_212 ?_
                  refine lv_iload hx hb dX7_model_215 (lv_at hl 1 rfl) ?_
                  refine lv_iconst (v := 1) hx hb dX7_model_217 (by decide) ?_
                  obtain ⟨M_99, g_99, hf⟩ := b_some hf
                  refine xx_sI hZ hE g_99 dX7_model_218 (fun H locs hE => ?_)
                  refine lv_iinc (v := (w_90_7 + 1)) (lv' := [(7, .int (w_90_7 + 1)), (0, .ref (ad o))]) hx hb dX7_model_219 hl (k := 1) rfl rfl (by decide) rfl (fun ls hl => ?_)
                  refine lv_goto (tgt := 204) hx hb dX7_model_222 (by decide) ?_
                  exact ih_204 _ _ _ _ _ hf hE (lv_sub hl [1, 0] rfl)
            exact L_90 _ _ _ _ _ _ hf hE (lv_sub hl [3, 0] rfl)
          refine lv_if_ne (tgt := 174) hx hb dX7_model_167 (by decide) (fun h_100 => ?_) (fun h_100 => ?_)
          · refine lv_iload_n hx hb dX7_model_174 rfl (lv_at hl 5 rfl) ?_
            refine lv_if_ne (tgt := 182) hx hb dX7_model_175 (by decide) (fun h_101 => ?_) (fun h_101 => ?_)
            · refine lv_iload hx hb dX7_model_182 (lv_at hl 6 rfl) ?_
              refine lv_if_ne (tgt := 191) hx hb dX7_model_184 (by decide) (fun h_102 => ?_) (fun h_102 => ?_)
              · refine lv_iconst (v := 4) hx hb dX7_model_191 (by decide) ?_
                exact q_84 _ (by rw [if_neg h_100, if_neg h_101, if_neg h_102])
              · refine lv_iconst (v := 3) hx hb dX7_model_187 (by decide) ?_
                refine lv_goto (tgt := 192) hx hb dX7_model_188 (by decide) ?_
                exact q_84 _ (by rw [if_neg h_100, if_neg h_101, if_pos h_102])
            · refine lv_iconst (v := 2) hx hb dX7_model_178 (by decide) ?_
              refine lv_goto (tgt := 192) hx hb dX7_model_179 (by decide) ?_
              exact q_84 _ (by rw [if_neg h_100, if_pos h_101])
          · refine lv_iconst (v := 1) hx hb dX7_model_170 (by decide) ?_
            refine lv_goto (tgt := 192) hx hb dX7_model_171 (by decide) ?_
            exact q_84 _ (by rw [if_pos h_100])
        · have hf := it_n h_75 hf
          refine lv_iconst (v := -1) hx hb dX7_model_134 (by decide) ?_
          exact hret _ _ _ _ _ _ (pr_1 hf) (pr_2 hf) rfl dX7_model_135 hE
    refine lv_if_ne (tgt := 87) hx hb dX7_model_80 (by decide) (fun h_103 => ?_) (fun h_103 => ?_)
    · refine lv_iload_n hx hb dX7_model_87 rfl (lv_at hl 2 rfl) ?_
      refine lv_iload_n hx hb dX7_model_88 rfl (lv_at hl 3 rfl) ?_
      refine lv_if_ne (tgt := 96) hx hb dX7_model_89 (by decide) (fun h_104 => ?_) (fun h_104 => ?_)
      · refine lv_iload_n hx hb dX7_model_96 rfl (lv_at hl 3 rfl) ?_
        refine lv_imul hx hb dX7_model_97 ?_
        refine lv_iload_n hx hb dX7_model_98 rfl (lv_at hl 4 rfl) ?_
        refine lv_if_ne (tgt := 106) hx hb dX7_model_99 (by decide) (fun h_105 => ?_) (fun h_105 => ?_)
        · refine lv_iload_n hx hb dX7_model_106 rfl (lv_at hl 4 rfl) ?_
          refine lv_imul hx hb dX7_model_107 ?_
          refine lv_iload hx hb dX7_model_108 (lv_at hl 5 rfl) ?_
          refine lv_if_ne (tgt := 117) hx hb dX7_model_110 (by decide) (fun h_106 => ?_) (fun h_106 => ?_)
          · refine lv_iload hx hb dX7_model_117 (lv_at hl 5 rfl) ?_
            refine lv_imul hx hb dX7_model_119 ?_
            exact q_73 _ (by rw [if_neg h_103, if_neg h_104, if_neg h_105, if_neg h_106])
          · refine lv_iconst (v := 1) hx hb dX7_model_113 (by decide) ?_
            refine lv_goto (tgt := 119) hx hb dX7_model_114 (by decide) ?_
            refine lv_imul hx hb dX7_model_119 ?_
            exact q_73 _ (by rw [if_neg h_103, if_neg h_104, if_neg h_105, if_pos h_106])
        · refine lv_iconst (v := 1) hx hb dX7_model_102 (by decide) ?_
          refine lv_goto (tgt := 107) hx hb dX7_model_103 (by decide) ?_
          refine lv_imul hx hb dX7_model_107 ?_
          refine lv_iload hx hb dX7_model_108 (lv_at hl 5 rfl) ?_
          refine lv_if_ne (tgt := 117) hx hb dX7_model_110 (by decide) (fun h_107 => ?_) (fun h_107 => ?_)
          · refine lv_iload hx hb dX7_model_117 (lv_at hl 5 rfl) ?_
            refine lv_imul hx hb dX7_model_119 ?_
            exact q_73 _ (by rw [if_neg h_103, if_neg h_104, if_pos h_105, if_neg h_107])
          · refine lv_iconst (v := 1) hx hb dX7_model_113 (by decide) ?_
            refine lv_goto (tgt := 119) hx hb dX7_model_114 (by decide) ?_
            refine lv_imul hx hb dX7_model_119 ?_
            exact q_73 _ (by rw [if_neg h_103, if_neg h_104, if_pos h_105, if_pos h_107])
      · refine lv_iconst (v := 1) hx hb dX7_model_92 (by decide) ?_
        refine lv_goto (tgt := 97) hx hb dX7_model_93 (by decide) ?_
        refine lv_imul hx hb dX7_model_97 ?_
        refine lv_iload_n hx hb dX7_model_98 rfl (lv_at hl 4 rfl) ?_
        refine lv_if_ne (tgt := 106) hx hb dX7_model_99 (by decide) (fun h_108 => ?_) (fun h_108 => ?_)
        · refine lv_iload_n hx hb dX7_model_106 rfl (lv_at hl 4 rfl) ?_
          refine lv_imul hx hb dX7_model_107 ?_
          refine lv_iload hx hb dX7_model_108 (lv_at hl 5 rfl) ?_
          refine lv_if_ne (tgt := 117) hx hb dX7_model_110 (by decide) (fun h_109 => ?_) (fun h_109 => ?_)
          · refine lv_iload hx hb dX7_model_117 (lv_at hl 5 rfl) ?_
            refine lv_imul hx hb dX7_model_119 ?_
            exact q_73 _ (by rw [if_neg h_103, if_pos h_104, if_neg h_108, if_neg h_109])
          · refine lv_iconst (v := 1) hx hb dX7_model_113 (by decide) ?_
            refine lv_goto (tgt := 119) hx hb dX7_model_114 (by decide) ?_
            refine lv_imul hx hb dX7_model_119 ?_
            exact q_73 _ (by rw [if_neg h_103, if_pos h_104, if_neg h_108, if_pos h_109])
        · refine lv_iconst (v := 1) hx hb dX7_model_102 (by decide) ?_
          refine lv_goto (tgt := 107) hx hb dX7_model_103 (by decide) ?_
          refine lv_imul hx hb dX7_model_107 ?_
          refine lv_iload hx hb dX7_model_108 (lv_at hl 5 rfl) ?_
          refine lv_if_ne (tgt := 117) hx hb dX7_model_110 (by decide) (fun h_110 => ?_) (fun h_110 => ?_)
          · refine lv_iload hx hb dX7_model_117 (lv_at hl 5 rfl) ?_
            refine lv_imul hx hb dX7_model_119 ?_
            exact q_73 _ (by rw [if_neg h_103, if_pos h_104, if_pos h_108, if_neg h_110])
          · refine lv_iconst (v := 1) hx hb dX7_model_113 (by decide) ?_
            refine lv_goto (tgt := 119) hx hb dX7_model_114 (by decide) ?_
            refine lv_imul hx hb dX7_model_119 ?_
            exact q_73 _ (by rw [if_neg h_103, if_pos h_104, if_pos h_108, if_pos h_110])
    · refine lv_iconst (v := 0) hx hb dX7_model_83 (by decide) ?_
      refine lv_goto (tgt := 120) hx hb dX7_model_84 (by decide) ?_
      exact q_73 _ (by rw [if_pos h_103])
  refine lv_if_eq (tgt := 75) hx hb dX7_model_7 (by decide) (fun h_3 => ?_) (fun h_3 => ?_)
  · have hf := it_y h_3 hf
    refine lv_iconst (v := 0) hx hb dX7_model_75 (by decide) ?_
    exact q_2 _ _ _ _ hf hE (lv_sub hl [0, 1, 2, 3, 4] rfl)
  · have hf := it_n h_3 hf
    refine lv_iload_n hx hb dX7_model_10 rfl (lv_at hl 2 rfl) ?_
    refine lv_if_eq (tgt := 24) hx hb dX7_model_11 (by decide) (fun h_4 => ?_) (fun h_4 => ?_)
    · have hf := it_y h_4 hf
      refine lv_iload_n hx hb dX7_model_24 rfl (lv_at hl 3 rfl) ?_
      refine lv_if_eq (tgt := 38) hx hb dX7_model_25 (by decide) (fun h_5 => ?_) (fun h_5 => ?_)
      · have hf := it_y h_5 hf
        refine lv_iload hx hb dX7_model_38 (lv_at hl 4 rfl) ?_
        refine lv_if_eq (tgt := 54) hx hb dX7_model_40 (by decide) (fun h_6 => ?_) (fun h_6 => ?_)
        · have hf := it_y h_6 hf
          refine lv_iload_n hx hb dX7_model_54 rfl (lv_at hl 2 rfl) ?_
          refine lv_if_ne (tgt := 62) hx hb dX7_model_55 (by decide) (fun h_7 => ?_) (fun h_7 => ?_)
          · have hf := it_n h_7 hf
            refine lv_iload_n hx hb dX7_model_62 rfl (lv_at hl 3 rfl) ?_
            refine lv_if_ne (tgt := 71) hx hb dX7_model_63 (by decide) (fun h_8 => ?_) (fun h_8 => ?_)
            · have hf := it_n h_8 hf
              refine lv_iconst (v := 1) hx hb dX7_model_71 (by decide) ?_
              refine lv_goto (tgt := 76) hx hb dX7_model_72 (by decide) ?_
              exact q_2 _ _ _ _ hf hE (lv_sub hl [0, 1, 2, 3, 4] rfl)
            · have hf := it_y h_8 hf
              refine lv_iload hx hb dX7_model_66 (lv_at hl 4 rfl) ?_
              refine lv_if_ne (tgt := 75) hx hb dX7_model_68 (by decide) (fun h_9 => ?_) (fun h_9 => ?_)
              · have hf := it_n h_9 hf
                refine lv_iconst (v := 0) hx hb dX7_model_75 (by decide) ?_
                exact q_2 _ _ _ _ hf hE (lv_sub hl [0, 1, 2, 3, 4] rfl)
              · have hf := it_y h_9 hf
                refine lv_iconst (v := 1) hx hb dX7_model_71 (by decide) ?_
                refine lv_goto (tgt := 76) hx hb dX7_model_72 (by decide) ?_
                exact q_2 _ _ _ _ hf hE (lv_sub hl [0, 1, 2, 3, 4] rfl)
          · have hf := it_y h_7 hf
            refine lv_iload_n hx hb dX7_model_58 rfl (lv_at hl 3 rfl) ?_
            refine lv_if_ne (tgt := 75) hx hb dX7_model_59 (by decide) (fun h_10 => ?_) (fun h_10 => ?_)
            · have hf := it_n h_10 hf
              refine lv_iconst (v := 0) hx hb dX7_model_75 (by decide) ?_
              exact q_2 _ _ _ _ hf hE (lv_sub hl [0, 1, 2, 3, 4] rfl)
            · have hf := it_y h_10 hf
              refine lv_iload_n hx hb dX7_model_62 rfl (lv_at hl 3 rfl) ?_
              refine lv_if_ne (tgt := 71) hx hb dX7_model_63 (by decide) (fun h_11 => ?_) (fun h_11 => ?_)
              · have hf := it_n h_11 hf
                refine lv_iconst (v := 1) hx hb dX7_model_71 (by decide) ?_
                refine lv_goto (tgt := 76) hx hb dX7_model_72 (by decide) ?_
                exact q_2 _ _ _ _ hf hE (lv_sub hl [0, 1, 2, 3, 4] rfl)
              · have hf := it_y h_11 hf
                refine lv_iload hx hb dX7_model_66 (lv_at hl 4 rfl) ?_
                refine lv_if_ne (tgt := 75) hx hb dX7_model_68 (by decide) (fun h_12 => ?_) (fun h_12 => ?_)
                · have hf := it_n h_12 hf
                  refine lv_iconst (v := 0) hx hb dX7_model_75 (by decide) ?_
                  exact q_2 _ _ _ _ hf hE (lv_sub hl [0, 1, 2, 3, 4] rfl)
                · have hf := it_y h_12 hf
                  refine lv_iconst (v := 1) hx hb dX7_model_71 (by decide) ?_
                  refine lv_goto (tgt := 76) hx hb dX7_model_72 (by decide) ?_
                  exact q_2 _ _ _ _ hf hE (lv_sub hl [0, 1, 2, 3, 4] rfl)
        · have hf := it_n h_6 hf
          refine lv_iload hx hb dX7_model_43 (lv_at hl 4 rfl) ?_
          refine lv_iconst (v := 2) hx hb dX7_model_45 (by decide) ?_
          refine lv_bipush (v := 6) hx hb dX7_model_46 (by decide) ?_
          obtain ⟨z_13, c_13, hf⟩ := b_some hf
          refine xx_cSi hZ hE (As := [.int a4, .int (2 : Int32), .int (6 : Int32)]) (rest := []) tw_366 (c_X7_isIn l D cA ad a4 (2 : Int32) (6 : Int32) M _ c_13) cw_X7_isIn tw_364 ⟨rfl, rfl⟩ ⟨Nat.le_of_ble_eq_true rfl, Nat.le_of_ble_eq_true rfl⟩ rfl hl.1 rfl (Nat.le_of_ble_eq_true rfl) ⟨Nat.le_of_ble_eq_true rfl, Nat.le_of_ble_eq_true rfl⟩ dX7_model_48 (fun H locs hE => ?_)
          refine lv_if_eq (tgt := 75) hx hb dX7_model_51 (by decide) (fun h_14 => ?_) (fun h_14 => ?_)
          · have hf := it_y h_14 hf
            refine lv_iconst (v := 0) hx hb dX7_model_75 (by decide) ?_
            exact q_2 _ _ _ _ hf hE (lv_sub hl [0, 1, 2, 3, 4] rfl)
          · have hf := it_n h_14 hf
            refine lv_iload_n hx hb dX7_model_54 rfl (lv_at hl 2 rfl) ?_
            refine lv_if_ne (tgt := 62) hx hb dX7_model_55 (by decide) (fun h_15 => ?_) (fun h_15 => ?_)
            · have hf := it_n h_15 hf
              refine lv_iload_n hx hb dX7_model_62 rfl (lv_at hl 3 rfl) ?_
              refine lv_if_ne (tgt := 71) hx hb dX7_model_63 (by decide) (fun h_16 => ?_) (fun h_16 => ?_)
              · have hf := it_n h_16 hf
                refine lv_iconst (v := 1) hx hb dX7_model_71 (by decide) ?_
                refine lv_goto (tgt := 76) hx hb dX7_model_72 (by decide) ?_
                exact q_2 _ _ _ _ hf hE (lv_sub hl [0, 1, 2, 3, 4] rfl)
              · have hf := it_y h_16 hf
                refine lv_iload hx hb dX7_model_66 (lv_at hl 4 rfl) ?_
                refine lv_if_ne (tgt := 75) hx hb dX7_model_68 (by decide) (fun h_17 => ?_) (fun h_17 => ?_)
                · have hf := it_n h_17 hf
                  refine lv_iconst (v := 0) hx hb dX7_model_75 (by decide) ?_
                  exact q_2 _ _ _ _ hf hE (lv_sub hl [0, 1, 2, 3, 4] rfl)
                · have hf := it_y h_17 hf
                  refine lv_iconst (v := 1) hx hb dX7_model_71 (by decide) ?_
                  refine lv_goto (tgt := 76) hx hb dX7_model_72 (by decide) ?_
                  exact q_2 _ _ _ _ hf hE (lv_sub hl [0, 1, 2, 3, 4] rfl)
            · have hf := it_y h_15 hf
              refine lv_iload_n hx hb dX7_model_58 rfl (lv_at hl 3 rfl) ?_
              refine lv_if_ne (tgt := 75) hx hb dX7_model_59 (by decide) (fun h_18 => ?_) (fun h_18 => ?_)
              · have hf := it_n h_18 hf
                refine lv_iconst (v := 0) hx hb dX7_model_75 (by decide) ?_
                exact q_2 _ _ _ _ hf hE (lv_sub hl [0, 1, 2, 3, 4] rfl)
              · have hf := it_y h_18 hf
                refine lv_iload_n hx hb dX7_model_62 rfl (lv_at hl 3 rfl) ?_
                refine lv_if_ne (tgt := 71) hx hb dX7_model_63 (by decide) (fun h_19 => ?_) (fun h_19 => ?_)
                · have hf := it_n h_19 hf
                  refine lv_iconst (v := 1) hx hb dX7_model_71 (by decide) ?_
                  refine lv_goto (tgt := 76) hx hb dX7_model_72 (by decide) ?_
                  exact q_2 _ _ _ _ hf hE (lv_sub hl [0, 1, 2, 3, 4] rfl)
                · have hf := it_y h_19 hf
                  refine lv_iload hx hb dX7_model_66 (lv_at hl 4 rfl) ?_
                  refine lv_if_ne (tgt := 75) hx hb dX7_model_68 (by decide) (fun h_20 => ?_) (fun h_20 => ?_)
                  · have hf := it_n h_20 hf
                    refine lv_iconst (v := 0) hx hb dX7_model_75 (by decide) ?_
                    exact q_2 _ _ _ _ hf hE (lv_sub hl [0, 1, 2, 3, 4] rfl)
                  · have hf := it_y h_20 hf
                    refine lv_iconst (v := 1) hx hb dX7_model_71 (by decide) ?_
                    refine lv_goto (tgt := 76) hx hb dX7_model_72 (by decide) ?_
                    exact q_2 _ _ _ _ hf hE (lv_sub hl [0, 1, 2, 3, 4] rfl)
      · have hf := it_n h_5 hf
        refine lv_iload_n hx hb dX7_model_28 rfl (lv_at hl 3 rfl) ?_
        refine lv_iconst (v := 2) hx hb dX7_model_29 (by decide) ?_
        refine lv_bipush (v := 6) hx hb dX7_model_30 (by decide) ?_
        obtain ⟨z_21, c_21, hf⟩ := b_some hf
        refine xx_cSi hZ hE (As := [.int a3, .int (2 : Int32), .int (6 : Int32)]) (rest := []) tw_366 (c_X7_isIn l D cA ad a3 (2 : Int32) (6 : Int32) M _ c_21) cw_X7_isIn tw_364 ⟨rfl, rfl⟩ ⟨Nat.le_of_ble_eq_true rfl, Nat.le_of_ble_eq_true rfl⟩ rfl hl.1 rfl (Nat.le_of_ble_eq_true rfl) ⟨Nat.le_of_ble_eq_true rfl, Nat.le_of_ble_eq_true rfl⟩ dX7_model_32 (fun H locs hE => ?_)
        refine lv_if_eq (tgt := 75) hx hb dX7_model_35 (by decide) (fun h_22 => ?_) (fun h_22 => ?_)
        · have hf := it_y h_22 hf
          refine lv_iconst (v := 0) hx hb dX7_model_75 (by decide) ?_
          exact q_2 _ _ _ _ hf hE (lv_sub hl [0, 1, 2, 3, 4] rfl)
        · have hf := it_n h_22 hf
          refine lv_iload hx hb dX7_model_38 (lv_at hl 4 rfl) ?_
          refine lv_if_eq (tgt := 54) hx hb dX7_model_40 (by decide) (fun h_23 => ?_) (fun h_23 => ?_)
          · have hf := it_y h_23 hf
            refine lv_iload_n hx hb dX7_model_54 rfl (lv_at hl 2 rfl) ?_
            refine lv_if_ne (tgt := 62) hx hb dX7_model_55 (by decide) (fun h_24 => ?_) (fun h_24 => ?_)
            · have hf := it_n h_24 hf
              refine lv_iload_n hx hb dX7_model_62 rfl (lv_at hl 3 rfl) ?_
              refine lv_if_ne (tgt := 71) hx hb dX7_model_63 (by decide) (fun h_25 => ?_) (fun h_25 => ?_)
              · have hf := it_n h_25 hf
                refine lv_iconst (v := 1) hx hb dX7_model_71 (by decide) ?_
                refine lv_goto (tgt := 76) hx hb dX7_model_72 (by decide) ?_
                exact q_2 _ _ _ _ hf hE (lv_sub hl [0, 1, 2, 3, 4] rfl)
              · have hf := it_y h_25 hf
                refine lv_iload hx hb dX7_model_66 (lv_at hl 4 rfl) ?_
                refine lv_if_ne (tgt := 75) hx hb dX7_model_68 (by decide) (fun h_26 => ?_) (fun h_26 => ?_)
                · have hf := it_n h_26 hf
                  refine lv_iconst (v := 0) hx hb dX7_model_75 (by decide) ?_
                  exact q_2 _ _ _ _ hf hE (lv_sub hl [0, 1, 2, 3, 4] rfl)
                · have hf := it_y h_26 hf
                  refine lv_iconst (v := 1) hx hb dX7_model_71 (by decide) ?_
                  refine lv_goto (tgt := 76) hx hb dX7_model_72 (by decide) ?_
                  exact q_2 _ _ _ _ hf hE (lv_sub hl [0, 1, 2, 3, 4] rfl)
            · have hf := it_y h_24 hf
              refine lv_iload_n hx hb dX7_model_58 rfl (lv_at hl 3 rfl) ?_
              refine lv_if_ne (tgt := 75) hx hb dX7_model_59 (by decide) (fun h_27 => ?_) (fun h_27 => ?_)
              · have hf := it_n h_27 hf
                refine lv_iconst (v := 0) hx hb dX7_model_75 (by decide) ?_
                exact q_2 _ _ _ _ hf hE (lv_sub hl [0, 1, 2, 3, 4] rfl)
              · have hf := it_y h_27 hf
                refine lv_iload_n hx hb dX7_model_62 rfl (lv_at hl 3 rfl) ?_
                refine lv_if_ne (tgt := 71) hx hb dX7_model_63 (by decide) (fun h_28 => ?_) (fun h_28 => ?_)
                · have hf := it_n h_28 hf
                  refine lv_iconst (v := 1) hx hb dX7_model_71 (by decide) ?_
                  refine lv_goto (tgt := 76) hx hb dX7_model_72 (by decide) ?_
                  exact q_2 _ _ _ _ hf hE (lv_sub hl [0, 1, 2, 3, 4] rfl)
                · have hf := it_y h_28 hf
                  refine lv_iload hx hb dX7_model_66 (lv_at hl 4 rfl) ?_
                  refine lv_if_ne (tgt := 75) hx hb dX7_model_68 (by decide) (fun h_29 => ?_) (fun h_29 => ?_)
                  · have hf := it_n h_29 hf
                    refine lv_iconst (v := 0) hx hb dX7_model_75 (by decide) ?_
                    exact q_2 _ _ _ _ hf hE (lv_sub hl [0, 1, 2, 3, 4] rfl)
                  · have hf := it_y h_29 hf
                    refine lv_iconst (v := 1) hx hb dX7_model_71 (by decide) ?_
                    refine lv_goto (tgt := 76) hx hb dX7_model_72 (by decide) ?_
                    exact q_2 _ _ _ _ hf hE (lv_sub hl [0, 1, 2, 3, 4] rfl)
          · have hf := it_n h_23 hf
            refine lv_iload hx hb dX7_model_43 (lv_at hl 4 rfl) ?_
            refine lv_iconst (v := 2) hx hb dX7_model_45 (by decide) ?_
            refine lv_bipush (v := 6) hx hb dX7_model_46 (by decide) ?_
            obtain ⟨z_30, c_30, hf⟩ := b_some hf
            refine xx_cSi hZ hE (As := [.int a4, .int (2 : Int32), .int (6 : Int32)]) (rest := []) tw_366 (c_X7_isIn l D cA ad a4 (2 : Int32) (6 : Int32) M _ c_30) cw_X7_isIn tw_364 ⟨rfl, rfl⟩ ⟨Nat.le_of_ble_eq_true rfl, Nat.le_of_ble_eq_true rfl⟩ rfl hl.1 rfl (Nat.le_of_ble_eq_true rfl) ⟨Nat.le_of_ble_eq_true rfl, Nat.le_of_ble_eq_true rfl⟩ dX7_model_48 (fun H locs hE => ?_)
            refine lv_if_eq (tgt := 75) hx hb dX7_model_51 (by decide) (fun h_31 => ?_) (fun h_31 => ?_)
            · have hf := it_y h_31 hf
              refine lv_iconst (v := 0) hx hb dX7_model_75 (by decide) ?_
              exact q_2 _ _ _ _ hf hE (lv_sub hl [0, 1, 2, 3, 4] rfl)
            · have hf := it_n h_31 hf
              refine lv_iload_n hx hb dX7_model_54 rfl (lv_at hl 2 rfl) ?_
              refine lv_if_ne (tgt := 62) hx hb dX7_model_55 (by decide) (fun h_32 => ?_) (fun h_32 => ?_)
              · have hf := it_n h_32 hf
                refine lv_iload_n hx hb dX7_model_62 rfl (lv_at hl 3 rfl) ?_
                refine lv_if_ne (tgt := 71) hx hb dX7_model_63 (by decide) (fun h_33 => ?_) (fun h_33 => ?_)
                · have hf := it_n h_33 hf
                  refine lv_iconst (v := 1) hx hb dX7_model_71 (by decide) ?_
                  refine lv_goto (tgt := 76) hx hb dX7_model_72 (by decide) ?_
                  exact q_2 _ _ _ _ hf hE (lv_sub hl [0, 1, 2, 3, 4] rfl)
                · have hf := it_y h_33 hf
                  refine lv_iload hx hb dX7_model_66 (lv_at hl 4 rfl) ?_
                  refine lv_if_ne (tgt := 75) hx hb dX7_model_68 (by decide) (fun h_34 => ?_) (fun h_34 => ?_)
                  · have hf := it_n h_34 hf
                    refine lv_iconst (v := 0) hx hb dX7_model_75 (by decide) ?_
                    exact q_2 _ _ _ _ hf hE (lv_sub hl [0, 1, 2, 3, 4] rfl)
                  · have hf := it_y h_34 hf
                    refine lv_iconst (v := 1) hx hb dX7_model_71 (by decide) ?_
                    refine lv_goto (tgt := 76) hx hb dX7_model_72 (by decide) ?_
                    exact q_2 _ _ _ _ hf hE (lv_sub hl [0, 1, 2, 3, 4] rfl)
              · have hf := it_y h_32 hf
                refine lv_iload_n hx hb dX7_model_58 rfl (lv_at hl 3 rfl) ?_
                refine lv_if_ne (tgt := 75) hx hb dX7_model_59 (by decide) (fun h_35 => ?_) (fun h_35 => ?_)
                · have hf := it_n h_35 hf
                  refine lv_iconst (v := 0) hx hb dX7_model_75 (by decide) ?_
                  exact q_2 _ _ _ _ hf hE (lv_sub hl [0, 1, 2, 3, 4] rfl)
                · have hf := it_y h_35 hf
                  refine lv_iload_n hx hb dX7_model_62 rfl (lv_at hl 3 rfl) ?_
                  refine lv_if_ne (tgt := 71) hx hb dX7_model_63 (by decide) (fun h_36 => ?_) (fun h_36 => ?_)
                  · have hf := it_n h_36 hf
                    refine lv_iconst (v := 1) hx hb dX7_model_71 (by decide) ?_
                    refine lv_goto (tgt := 76) hx hb dX7_model_72 (by decide) ?_
                    exact q_2 _ _ _ _ hf hE (lv_sub hl [0, 1, 2, 3, 4] rfl)
                  · have hf := it_y h_36 hf
                    refine lv_iload hx hb dX7_model_66 (lv_at hl 4 rfl) ?_
                    refine lv_if_ne (tgt := 75) hx hb dX7_model_68 (by decide) (fun h_37 => ?_) (fun h_37 => ?_)
                    · have hf := it_n h_37 hf
                      refine lv_iconst (v := 0) hx hb dX7_model_75 (by decide) ?_
                      exact q_2 _ _ _ _ hf hE (lv_sub hl [0, 1, 2, 3, 4] rfl)
                    · have hf := it_y h_37 hf
                      refine lv_iconst (v := 1) hx hb dX7_model_71 (by decide) ?_
                      refine lv_goto (tgt := 76) hx hb dX7_model_72 (by decide) ?_
                      exact q_2 _ _ _ _ hf hE (lv_sub hl [0, 1, 2, 3, 4] rfl)
    · have hf := it_n h_4 hf
      refine lv_iload_n hx hb dX7_model_14 rfl (lv_at hl 2 rfl) ?_
      refine lv_iconst (v := 2) hx hb dX7_model_15 (by decide) ?_
      refine lv_bipush (v := 6) hx hb dX7_model_16 (by decide) ?_
      obtain ⟨z_38, c_38, hf⟩ := b_some hf
      refine xx_cSi hZ hE (As := [.int a2, .int (2 : Int32), .int (6 : Int32)]) (rest := []) tw_366 (c_X7_isIn l D cA ad a2 (2 : Int32) (6 : Int32) M _ c_38) cw_X7_isIn tw_364 ⟨rfl, rfl⟩ ⟨Nat.le_of_ble_eq_true rfl, Nat.le_of_ble_eq_true rfl⟩ rfl hl.1 rfl (Nat.le_of_ble_eq_true rfl) ⟨Nat.le_of_ble_eq_true rfl, Nat.le_of_ble_eq_true rfl⟩ dX7_model_18 (fun H locs hE => ?_)
      refine lv_if_eq (tgt := 75) hx hb dX7_model_21 (by decide) (fun h_39 => ?_) (fun h_39 => ?_)
      · have hf := it_y h_39 hf
        refine lv_iconst (v := 0) hx hb dX7_model_75 (by decide) ?_
        exact q_2 _ _ _ _ hf hE (lv_sub hl [0, 1, 2, 3, 4] rfl)
      · have hf := it_n h_39 hf
        refine lv_iload_n hx hb dX7_model_24 rfl (lv_at hl 3 rfl) ?_
        refine lv_if_eq (tgt := 38) hx hb dX7_model_25 (by decide) (fun h_40 => ?_) (fun h_40 => ?_)
        · have hf := it_y h_40 hf
          refine lv_iload hx hb dX7_model_38 (lv_at hl 4 rfl) ?_
          refine lv_if_eq (tgt := 54) hx hb dX7_model_40 (by decide) (fun h_41 => ?_) (fun h_41 => ?_)
          · have hf := it_y h_41 hf
            refine lv_iload_n hx hb dX7_model_54 rfl (lv_at hl 2 rfl) ?_
            refine lv_if_ne (tgt := 62) hx hb dX7_model_55 (by decide) (fun h_42 => ?_) (fun h_42 => ?_)
            · have hf := it_n h_42 hf
              refine lv_iload_n hx hb dX7_model_62 rfl (lv_at hl 3 rfl) ?_
              refine lv_if_ne (tgt := 71) hx hb dX7_model_63 (by decide) (fun h_43 => ?_) (fun h_43 => ?_)
              · have hf := it_n h_43 hf
                refine lv_iconst (v := 1) hx hb dX7_model_71 (by decide) ?_
                refine lv_goto (tgt := 76) hx hb dX7_model_72 (by decide) ?_
                exact q_2 _ _ _ _ hf hE (lv_sub hl [0, 1, 2, 3, 4] rfl)
              · have hf := it_y h_43 hf
                refine lv_iload hx hb dX7_model_66 (lv_at hl 4 rfl) ?_
                refine lv_if_ne (tgt := 75) hx hb dX7_model_68 (by decide) (fun h_44 => ?_) (fun h_44 => ?_)
                · have hf := it_n h_44 hf
                  refine lv_iconst (v := 0) hx hb dX7_model_75 (by decide) ?_
                  exact q_2 _ _ _ _ hf hE (lv_sub hl [0, 1, 2, 3, 4] rfl)
                · have hf := it_y h_44 hf
                  refine lv_iconst (v := 1) hx hb dX7_model_71 (by decide) ?_
                  refine lv_goto (tgt := 76) hx hb dX7_model_72 (by decide) ?_
                  exact q_2 _ _ _ _ hf hE (lv_sub hl [0, 1, 2, 3, 4] rfl)
            · have hf := it_y h_42 hf
              refine lv_iload_n hx hb dX7_model_58 rfl (lv_at hl 3 rfl) ?_
              refine lv_if_ne (tgt := 75) hx hb dX7_model_59 (by decide) (fun h_45 => ?_) (fun h_45 => ?_)
              · have hf := it_n h_45 hf
                refine lv_iconst (v := 0) hx hb dX7_model_75 (by decide) ?_
                exact q_2 _ _ _ _ hf hE (lv_sub hl [0, 1, 2, 3, 4] rfl)
              · have hf := it_y h_45 hf
                refine lv_iload_n hx hb dX7_model_62 rfl (lv_at hl 3 rfl) ?_
                refine lv_if_ne (tgt := 71) hx hb dX7_model_63 (by decide) (fun h_46 => ?_) (fun h_46 => ?_)
                · have hf := it_n h_46 hf
                  refine lv_iconst (v := 1) hx hb dX7_model_71 (by decide) ?_
                  refine lv_goto (tgt := 76) hx hb dX7_model_72 (by decide) ?_
                  exact q_2 _ _ _ _ hf hE (lv_sub hl [0, 1, 2, 3, 4] rfl)
                · have hf := it_y h_46 hf
                  refine lv_iload hx hb dX7_model_66 (lv_at hl 4 rfl) ?_
                  refine lv_if_ne (tgt := 75) hx hb dX7_model_68 (by decide) (fun h_47 => ?_) (fun h_47 => ?_)
                  · have hf := it_n h_47 hf
                    refine lv_iconst (v := 0) hx hb dX7_model_75 (by decide) ?_
                    exact q_2 _ _ _ _ hf hE (lv_sub hl [0, 1, 2, 3, 4] rfl)
                  · have hf := it_y h_47 hf
                    refine lv_iconst (v := 1) hx hb dX7_model_71 (by decide) ?_
                    refine lv_goto (tgt := 76) hx hb dX7_model_72 (by decide) ?_
                    exact q_2 _ _ _ _ hf hE (lv_sub hl [0, 1, 2, 3, 4] rfl)
          · have hf := it_n h_41 hf
            refine lv_iload hx hb dX7_model_43 (lv_at hl 4 rfl) ?_
            refine lv_iconst (v := 2) hx hb dX7_model_45 (by decide) ?_
            refine lv_bipush (v := 6) hx hb dX7_model_46 (by decide) ?_
            obtain ⟨z_48, c_48, hf⟩ := b_some hf
            refine xx_cSi hZ hE (As := [.int a4, .int (2 : Int32), .int (6 : Int32)]) (rest := []) tw_366 (c_X7_isIn l D cA ad a4 (2 : Int32) (6 : Int32) M _ c_48) cw_X7_isIn tw_364 ⟨rfl, rfl⟩ ⟨Nat.le_of_ble_eq_true rfl, Nat.le_of_ble_eq_true rfl⟩ rfl hl.1 rfl (Nat.le_of_ble_eq_true rfl) ⟨Nat.le_of_ble_eq_true rfl, Nat.le_of_ble_eq_true rfl⟩ dX7_model_48 (fun H locs hE => ?_)
            refine lv_if_eq (tgt := 75) hx hb dX7_model_51 (by decide) (fun h_49 => ?_) (fun h_49 => ?_)
            · have hf := it_y h_49 hf
              refine lv_iconst (v := 0) hx hb dX7_model_75 (by decide) ?_
              exact q_2 _ _ _ _ hf hE (lv_sub hl [0, 1, 2, 3, 4] rfl)
            · have hf := it_n h_49 hf
              refine lv_iload_n hx hb dX7_model_54 rfl (lv_at hl 2 rfl) ?_
              refine lv_if_ne (tgt := 62) hx hb dX7_model_55 (by decide) (fun h_50 => ?_) (fun h_50 => ?_)
              · have hf := it_n h_50 hf
                refine lv_iload_n hx hb dX7_model_62 rfl (lv_at hl 3 rfl) ?_
                refine lv_if_ne (tgt := 71) hx hb dX7_model_63 (by decide) (fun h_51 => ?_) (fun h_51 => ?_)
                · have hf := it_n h_51 hf
                  refine lv_iconst (v := 1) hx hb dX7_model_71 (by decide) ?_
                  refine lv_goto (tgt := 76) hx hb dX7_model_72 (by decide) ?_
                  exact q_2 _ _ _ _ hf hE (lv_sub hl [0, 1, 2, 3, 4] rfl)
                · have hf := it_y h_51 hf
                  refine lv_iload hx hb dX7_model_66 (lv_at hl 4 rfl) ?_
                  refine lv_if_ne (tgt := 75) hx hb dX7_model_68 (by decide) (fun h_52 => ?_) (fun h_52 => ?_)
                  · have hf := it_n h_52 hf
                    refine lv_iconst (v := 0) hx hb dX7_model_75 (by decide) ?_
                    exact q_2 _ _ _ _ hf hE (lv_sub hl [0, 1, 2, 3, 4] rfl)
                  · have hf := it_y h_52 hf
                    refine lv_iconst (v := 1) hx hb dX7_model_71 (by decide) ?_
                    refine lv_goto (tgt := 76) hx hb dX7_model_72 (by decide) ?_
                    exact q_2 _ _ _ _ hf hE (lv_sub hl [0, 1, 2, 3, 4] rfl)
              · have hf := it_y h_50 hf
                refine lv_iload_n hx hb dX7_model_58 rfl (lv_at hl 3 rfl) ?_
                refine lv_if_ne (tgt := 75) hx hb dX7_model_59 (by decide) (fun h_53 => ?_) (fun h_53 => ?_)
                · have hf := it_n h_53 hf
                  refine lv_iconst (v := 0) hx hb dX7_model_75 (by decide) ?_
                  exact q_2 _ _ _ _ hf hE (lv_sub hl [0, 1, 2, 3, 4] rfl)
                · have hf := it_y h_53 hf
                  refine lv_iload_n hx hb dX7_model_62 rfl (lv_at hl 3 rfl) ?_
                  refine lv_if_ne (tgt := 71) hx hb dX7_model_63 (by decide) (fun h_54 => ?_) (fun h_54 => ?_)
                  · have hf := it_n h_54 hf
                    refine lv_iconst (v := 1) hx hb dX7_model_71 (by decide) ?_
                    refine lv_goto (tgt := 76) hx hb dX7_model_72 (by decide) ?_
                    exact q_2 _ _ _ _ hf hE (lv_sub hl [0, 1, 2, 3, 4] rfl)
                  · have hf := it_y h_54 hf
                    refine lv_iload hx hb dX7_model_66 (lv_at hl 4 rfl) ?_
                    refine lv_if_ne (tgt := 75) hx hb dX7_model_68 (by decide) (fun h_55 => ?_) (fun h_55 => ?_)
                    · have hf := it_n h_55 hf
                      refine lv_iconst (v := 0) hx hb dX7_model_75 (by decide) ?_
                      exact q_2 _ _ _ _ hf hE (lv_sub hl [0, 1, 2, 3, 4] rfl)
                    · have hf := it_y h_55 hf
                      refine lv_iconst (v := 1) hx hb dX7_model_71 (by decide) ?_
                      refine lv_goto (tgt := 76) hx hb dX7_model_72 (by decide) ?_
                      exact q_2 _ _ _ _ hf hE (lv_sub hl [0, 1, 2, 3, 4] rfl)
        · have hf := it_n h_40 hf
          refine lv_iload_n hx hb dX7_model_28 rfl (lv_at hl 3 rfl) ?_
          refine lv_iconst (v := 2) hx hb dX7_model_29 (by decide) ?_
          refine lv_bipush (v := 6) hx hb dX7_model_30 (by decide) ?_
          obtain ⟨z_56, c_56, hf⟩ := b_some hf
          refine xx_cSi hZ hE (As := [.int a3, .int (2 : Int32), .int (6 : Int32)]) (rest := []) tw_366 (c_X7_isIn l D cA ad a3 (2 : Int32) (6 : Int32) M _ c_56) cw_X7_isIn tw_364 ⟨rfl, rfl⟩ ⟨Nat.le_of_ble_eq_true rfl, Nat.le_of_ble_eq_true rfl⟩ rfl hl.1 rfl (Nat.le_of_ble_eq_true rfl) ⟨Nat.le_of_ble_eq_true rfl, Nat.le_of_ble_eq_true rfl⟩ dX7_model_32 (fun H locs hE => ?_)
          refine lv_if_eq (tgt := 75) hx hb dX7_model_35 (by decide) (fun h_57 => ?_) (fun h_57 => ?_)
          · have hf := it_y h_57 hf
            refine lv_iconst (v := 0) hx hb dX7_model_75 (by decide) ?_
            exact q_2 _ _ _ _ hf hE (lv_sub hl [0, 1, 2, 3, 4] rfl)
          · have hf := it_n h_57 hf
            refine lv_iload hx hb dX7_model_38 (lv_at hl 4 rfl) ?_
            refine lv_if_eq (tgt := 54) hx hb dX7_model_40 (by decide) (fun h_58 => ?_) (fun h_58 => ?_)
            · have hf := it_y h_58 hf
              refine lv_iload_n hx hb dX7_model_54 rfl (lv_at hl 2 rfl) ?_
              refine lv_if_ne (tgt := 62) hx hb dX7_model_55 (by decide) (fun h_59 => ?_) (fun h_59 => ?_)
              · have hf := it_n h_59 hf
                refine lv_iload_n hx hb dX7_model_62 rfl (lv_at hl 3 rfl) ?_
                refine lv_if_ne (tgt := 71) hx hb dX7_model_63 (by decide) (fun h_60 => ?_) (fun h_60 => ?_)
                · have hf := it_n h_60 hf
                  refine lv_iconst (v := 1) hx hb dX7_model_71 (by decide) ?_
                  refine lv_goto (tgt := 76) hx hb dX7_model_72 (by decide) ?_
                  exact q_2 _ _ _ _ hf hE (lv_sub hl [0, 1, 2, 3, 4] rfl)
                · have hf := it_y h_60 hf
                  refine lv_iload hx hb dX7_model_66 (lv_at hl 4 rfl) ?_
                  refine lv_if_ne (tgt := 75) hx hb dX7_model_68 (by decide) (fun h_61 => ?_) (fun h_61 => ?_)
                  · have hf := it_n h_61 hf
                    refine lv_iconst (v := 0) hx hb dX7_model_75 (by decide) ?_
                    exact q_2 _ _ _ _ hf hE (lv_sub hl [0, 1, 2, 3, 4] rfl)
                  · have hf := it_y h_61 hf
                    refine lv_iconst (v := 1) hx hb dX7_model_71 (by decide) ?_
                    refine lv_goto (tgt := 76) hx hb dX7_model_72 (by decide) ?_
                    exact q_2 _ _ _ _ hf hE (lv_sub hl [0, 1, 2, 3, 4] rfl)
              · have hf := it_y h_59 hf
                refine lv_iload_n hx hb dX7_model_58 rfl (lv_at hl 3 rfl) ?_
                refine lv_if_ne (tgt := 75) hx hb dX7_model_59 (by decide) (fun h_62 => ?_) (fun h_62 => ?_)
                · have hf := it_n h_62 hf
                  refine lv_iconst (v := 0) hx hb dX7_model_75 (by decide) ?_
                  exact q_2 _ _ _ _ hf hE (lv_sub hl [0, 1, 2, 3, 4] rfl)
                · have hf := it_y h_62 hf
                  refine lv_iload_n hx hb dX7_model_62 rfl (lv_at hl 3 rfl) ?_
                  refine lv_if_ne (tgt := 71) hx hb dX7_model_63 (by decide) (fun h_63 => ?_) (fun h_63 => ?_)
                  · have hf := it_n h_63 hf
                    refine lv_iconst (v := 1) hx hb dX7_model_71 (by decide) ?_
                    refine lv_goto (tgt := 76) hx hb dX7_model_72 (by decide) ?_
                    exact q_2 _ _ _ _ hf hE (lv_sub hl [0, 1, 2, 3, 4] rfl)
                  · have hf := it_y h_63 hf
                    refine lv_iload hx hb dX7_model_66 (lv_at hl 4 rfl) ?_
                    refine lv_if_ne (tgt := 75) hx hb dX7_model_68 (by decide) (fun h_64 => ?_) (fun h_64 => ?_)
                    · have hf := it_n h_64 hf
                      refine lv_iconst (v := 0) hx hb dX7_model_75 (by decide) ?_
                      exact q_2 _ _ _ _ hf hE (lv_sub hl [0, 1, 2, 3, 4] rfl)
                    · have hf := it_y h_64 hf
                      refine lv_iconst (v := 1) hx hb dX7_model_71 (by decide) ?_
                      refine lv_goto (tgt := 76) hx hb dX7_model_72 (by decide) ?_
                      exact q_2 _ _ _ _ hf hE (lv_sub hl [0, 1, 2, 3, 4] rfl)
            · have hf := it_n h_58 hf
              refine lv_iload hx hb dX7_model_43 (lv_at hl 4 rfl) ?_
              refine lv_iconst (v := 2) hx hb dX7_model_45 (by decide) ?_
              refine lv_bipush (v := 6) hx hb dX7_model_46 (by decide) ?_
              obtain ⟨z_65, c_65, hf⟩ := b_some hf
              refine xx_cSi hZ hE (As := [.int a4, .int (2 : Int32), .int (6 : Int32)]) (rest := []) tw_366 (c_X7_isIn l D cA ad a4 (2 : Int32) (6 : Int32) M _ c_65) cw_X7_isIn tw_364 ⟨rfl, rfl⟩ ⟨Nat.le_of_ble_eq_true rfl, Nat.le_of_ble_eq_true rfl⟩ rfl hl.1 rfl (Nat.le_of_ble_eq_true rfl) ⟨Nat.le_of_ble_eq_true rfl, Nat.le_of_ble_eq_true rfl⟩ dX7_model_48 (fun H locs hE => ?_)
              refine lv_if_eq (tgt := 75) hx hb dX7_model_51 (by decide) (fun h_66 => ?_) (fun h_66 => ?_)
              · have hf := it_y h_66 hf
                refine lv_iconst (v := 0) hx hb dX7_model_75 (by decide) ?_
                exact q_2 _ _ _ _ hf hE (lv_sub hl [0, 1, 2, 3, 4] rfl)
              · have hf := it_n h_66 hf
                refine lv_iload_n hx hb dX7_model_54 rfl (lv_at hl 2 rfl) ?_
                refine lv_if_ne (tgt := 62) hx hb dX7_model_55 (by decide) (fun h_67 => ?_) (fun h_67 => ?_)
                · have hf := it_n h_67 hf
                  refine lv_iload_n hx hb dX7_model_62 rfl (lv_at hl 3 rfl) ?_
                  refine lv_if_ne (tgt := 71) hx hb dX7_model_63 (by decide) (fun h_68 => ?_) (fun h_68 => ?_)
                  · have hf := it_n h_68 hf
                    refine lv_iconst (v := 1) hx hb dX7_model_71 (by decide) ?_
                    refine lv_goto (tgt := 76) hx hb dX7_model_72 (by decide) ?_
                    exact q_2 _ _ _ _ hf hE (lv_sub hl [0, 1, 2, 3, 4] rfl)
                  · have hf := it_y h_68 hf
                    refine lv_iload hx hb dX7_model_66 (lv_at hl 4 rfl) ?_
                    refine lv_if_ne (tgt := 75) hx hb dX7_model_68 (by decide) (fun h_69 => ?_) (fun h_69 => ?_)
                    · have hf := it_n h_69 hf
                      refine lv_iconst (v := 0) hx hb dX7_model_75 (by decide) ?_
                      exact q_2 _ _ _ _ hf hE (lv_sub hl [0, 1, 2, 3, 4] rfl)
                    · have hf := it_y h_69 hf
                      refine lv_iconst (v := 1) hx hb dX7_model_71 (by decide) ?_
                      refine lv_goto (tgt := 76) hx hb dX7_model_72 (by decide) ?_
                      exact q_2 _ _ _ _ hf hE (lv_sub hl [0, 1, 2, 3, 4] rfl)
                · have hf := it_y h_67 hf
                  refine lv_iload_n hx hb dX7_model_58 rfl (lv_at hl 3 rfl) ?_
                  refine lv_if_ne (tgt := 75) hx hb dX7_model_59 (by decide) (fun h_70 => ?_) (fun h_70 => ?_)
                  · have hf := it_n h_70 hf
                    refine lv_iconst (v := 0) hx hb dX7_model_75 (by decide) ?_
                    exact q_2 _ _ _ _ hf hE (lv_sub hl [0, 1, 2, 3, 4] rfl)
                  · have hf := it_y h_70 hf
                    refine lv_iload_n hx hb dX7_model_62 rfl (lv_at hl 3 rfl) ?_
                    refine lv_if_ne (tgt := 71) hx hb dX7_model_63 (by decide) (fun h_71 => ?_) (fun h_71 => ?_)
                    · have hf := it_n h_71 hf
                      refine lv_iconst (v := 1) hx hb dX7_model_71 (by decide) ?_
                      refine lv_goto (tgt := 76) hx hb dX7_model_72 (by decide) ?_
                      exact q_2 _ _ _ _ hf hE (lv_sub hl [0, 1, 2, 3, 4] rfl)
                    · have hf := it_y h_71 hf
                      refine lv_iload hx hb dX7_model_66 (lv_at hl 4 rfl) ?_
                      refine lv_if_ne (tgt := 75) hx hb dX7_model_68 (by decide) (fun h_72 => ?_) (fun h_72 => ?_)
                      · have hf := it_n h_72 hf
                        refine lv_iconst (v := 0) hx hb dX7_model_75 (by decide) ?_
                        exact q_2 _ _ _ _ hf hE (lv_sub hl [0, 1, 2, 3, 4] rfl)
                      · have hf := it_y h_72 hf
                        refine lv_iconst (v := 1) hx hb dX7_model_71 (by decide) ?_
                        refine lv_goto (tgt := 76) hx hb dX7_model_72 (by decide) ?_
                        exact q_2 _ _ _ _ hf hE (lv_sub hl [0, 1, 2, 3, 4] rfl)
def rm_X7_weight : Room := { frames := 2, cells := 0, slots := 0, locals := 43 }
def f_X7_weight (o : Nat) (a1 : Int32) (a2 : Int32) (M : Mm) : Option (Int32 × Mm) :=
    (op_gI M 7 o 2).bind fun x_1 =>
    if x_1 = 0 then
    some ((-2 : Int32), M)
    else
    (op_is M o 7).bind fun _ =>
    (f_X7_isState o a1 M).bind fun z_3 =>
    if z_3 = 0 then
    some ((-1 : Int32), M)
    else
    (f_X7_isIn a2 (0 : Int32) (1000 : Int32)).bind fun z_5 =>
    if z_5 = 0 then
    some ((-1 : Int32), M)
    else
    (op_gR M 7 o 3).bind fun x_7 =>
    (op_aI M x_7 a1).bind fun x_8 =>
    (op_gR M 7 o 3).bind fun x_9 =>
    (op_sI M x_9 a1 a2).bind fun M_10 =>
    (op_is M_10 o 7).bind fun _ =>
    (f_X7_changed o M_10).bind fun z_11 =>
    some (x_8, z_11)
set_option maxHeartbeats 4000000 in
set_option maxRecDepth 100000 in
theorem c_X7_weight (l : Launch) (D : va_G) (cA : Nat → ClassId) (ad : Nat → Nat) (o : Nat) (a1 : Int32) (a2 : Int32) (M : Mm) (zr : Int32 × Mm) (hf : f_X7_weight o a1 a2 M = some zr) : KI l yX7_weight cX7_weight 4 (some .int) rm_X7_weight D cA ad [.ref (ad o), .int a1, .int a2] M zr.1 zr.2 := by
  refine KI_of (by decide) (Nat.le_of_ble_eq_true rfl) ?_
  intro p e s m args below meth c ls Q A H locs hZ hE hl hret
  have hx := hZ.1
  have hb := hZ.2.1
  have hown := hZ.2.2.2.1
  have hts := hZ.2.2.2.2.1
  have hl : lv_has ls 4 [(0, .ref (ad o)), (1, .int a1), (2, .int a2)] := hl
  unfold f_X7_weight at hf
  refine lv_aload_n hx hb dX7_weight_0 rfl (lv_at hl 0 rfl) ?_
  obtain ⟨x_1, g_1, hf⟩ := b_some hf
  refine xx_gI hZ hE k_X7 2 (by decide) rfl tw_363 g_1 dX7_weight_1 ?_
  refine lv_if_ne (tgt := 10) hx hb dX7_weight_4 (by decide) (fun h_2 => ?_) (fun h_2 => ?_)
  · have hf := it_n h_2 hf
    refine lv_aload_n hx hb dX7_weight_10 rfl (lv_at hl 0 rfl) ?_
    refine lv_iload_n hx hb dX7_weight_11 rfl (lv_at hl 1 rfl) ?_
    obtain ⟨_, i_3, hf⟩ := b_some hf
    obtain ⟨z_3, c_3, hf⟩ := b_some hf
    refine xx_cVi hZ hE (As := [.int a1]) (rest := []) k_X7 (is_m i_3) tw_378 tw_379 (c_X7_isState l D cA ad o a1 M _ c_3) cw_X7_isState tw_377 ⟨rfl, rfl⟩ ⟨Nat.le_of_ble_eq_true rfl, Nat.le_of_ble_eq_true rfl⟩ rfl hl.1 rfl (Nat.le_of_ble_eq_true rfl) ⟨Nat.le_of_ble_eq_true rfl, Nat.le_of_ble_eq_true rfl⟩ dX7_weight_12 (fun H locs hE => ?_)
    refine lv_if_eq (tgt := 29) hx hb dX7_weight_15 (by decide) (fun h_4 => ?_) (fun h_4 => ?_)
    · have hf := it_y h_4 hf
      refine lv_iconst (v := -1) hx hb dX7_weight_29 (by decide) ?_
      exact hret _ _ _ _ _ _ (pr_1 hf) (pr_2 hf) rfl dX7_weight_30 hE
    · have hf := it_n h_4 hf
      refine lv_iload_n hx hb dX7_weight_18 rfl (lv_at hl 2 rfl) ?_
      refine lv_iconst (v := 0) hx hb dX7_weight_19 (by decide) ?_
      refine lv_sipush (v := 1000) hx hb dX7_weight_20 (by decide) ?_
      obtain ⟨z_5, c_5, hf⟩ := b_some hf
      refine xx_cSi hZ hE (As := [.int a2, .int (0 : Int32), .int (1000 : Int32)]) (rest := []) tw_366 (c_X7_isIn l D cA ad a2 (0 : Int32) (1000 : Int32) M _ c_5) cw_X7_isIn tw_364 ⟨rfl, rfl⟩ ⟨Nat.le_of_ble_eq_true rfl, Nat.le_of_ble_eq_true rfl⟩ rfl hl.1 rfl (Nat.le_of_ble_eq_true rfl) ⟨Nat.le_of_ble_eq_true rfl, Nat.le_of_ble_eq_true rfl⟩ dX7_weight_23 (fun H locs hE => ?_)
      refine lv_if_ne (tgt := 31) hx hb dX7_weight_26 (by decide) (fun h_6 => ?_) (fun h_6 => ?_)
      · have hf := it_n h_6 hf
        refine lv_aload_n hx hb dX7_weight_31 rfl (lv_at hl 0 rfl) ?_
        obtain ⟨x_7, g_7, hf⟩ := b_some hf
        refine xx_gR hZ hE k_X7 3 (by decide) rfl tw_371 g_7 dX7_weight_32 ?_
        refine lv_iload_n hx hb dX7_weight_35 rfl (lv_at hl 1 rfl) ?_
        obtain ⟨x_8, g_8, hf⟩ := b_some hf
        refine xx_aI hZ hE g_8 dX7_weight_36 ?_
        refine lv_istore_n (lv' := [(3, .int x_8), (0, .ref (ad o)), (1, .int a1), (2, .int a2)]) hx hb dX7_weight_37 rfl hl (by decide) rfl (fun ls hl => ?_)
        refine lv_aload_n hx hb dX7_weight_38 rfl (lv_at hl 1 rfl) ?_
        obtain ⟨x_9, g_9, hf⟩ := b_some hf
        refine xx_gR hZ hE k_X7 3 (by decide) rfl tw_371 g_9 dX7_weight_39 ?_
        refine lv_iload_n hx hb dX7_weight_42 rfl (lv_at hl 2 rfl) ?_
        refine lv_iload_n hx hb dX7_weight_43 rfl (lv_at hl 3 rfl) ?_
        obtain ⟨M_10, g_10, hf⟩ := b_some hf
        refine xx_sI hZ hE g_10 dX7_weight_44 (fun H locs hE => ?_)
        refine lv_aload_n hx hb dX7_weight_45 rfl (lv_at hl 1 rfl) ?_
        obtain ⟨_, i_11, hf⟩ := b_some hf
        obtain ⟨z_11, c_11, hf⟩ := b_some hf
        refine xx_cVv hZ hE (As := []) (rest := []) k_X7 (is_m i_11) tw_375 tw_376 (c_X7_changed l D cA ad o M_10 _ c_11) cw_X7_changed tw_374 ⟨rfl, rfl⟩ ⟨Nat.le_of_ble_eq_true rfl, Nat.le_of_ble_eq_true rfl⟩ rfl hl.1 rfl (Nat.le_of_ble_eq_true rfl) ⟨Nat.le_of_ble_eq_true rfl, Nat.le_of_ble_eq_true rfl⟩ dX7_weight_46 (fun H locs hE => ?_)
        refine lv_iload_n hx hb dX7_weight_49 rfl (lv_at hl 0 rfl) ?_
        exact hret _ _ _ _ _ _ (pr_1 hf) (pr_2 hf) rfl dX7_weight_50 hE
      · have hf := it_y h_6 hf
        refine lv_iconst (v := -1) hx hb dX7_weight_29 (by decide) ?_
        exact hret _ _ _ _ _ _ (pr_1 hf) (pr_2 hf) rfl dX7_weight_30 hE
  · have hf := it_y h_2 hf
    refine lv_bipush (v := -2) hx hb dX7_weight_7 (by decide) ?_
    exact hret _ _ _ _ _ _ (pr_1 hf) (pr_2 hf) rfl dX7_weight_9 hE
def lp_X7_strideOf_9 (i_0 : Nat) (i_1 : Int32) (M : Mm) : Nat → Int32 → Int32 → Option (Int32)
  | 0, _, _ => none
  | n_9 + 1, v_2, v_3 =>
    if v_3 ≤ i_1 then
    some v_2
    else
    (op_gR M 7 i_0 1).bind fun x_3 =>
    (op_aI M x_3 v_3).bind fun x_4 =>
    lp_X7_strideOf_9 i_0 i_1 M n_9 (v_2 * x_4) (v_3 + (-1))
theorem lp_X7_strideOf_9_s (i_0 : Nat) (i_1 : Int32) (M : Mm) {n_9 : Nat} {v_2 : Int32} {v_3 : Int32} {zr : Int32} (hf : lp_X7_strideOf_9 i_0 i_1 M (n_9 + 1) v_2 v_3 = some zr) : (
    if v_3 ≤ i_1 then
    some v_2
    else
    (op_gR M 7 i_0 1).bind fun x_3 =>
    (op_aI M x_3 v_3).bind fun x_4 =>
    lp_X7_strideOf_9 i_0 i_1 M n_9 (v_2 * x_4) (v_3 + (-1))) = some zr := hf
def rm_X7_strideOf : Room := { frames := 0, cells := 0, slots := 0, locals := 0 }
def f_X7_strideOf (o : Nat) (a1 : Int32) (M : Mm) : Option (Int32) :=
    (op_gI M 7 o 0).bind fun x_1 =>
    lp_X7_strideOf_9  o a1 M FU (1 : Int32) (x_1 - (1 : Int32))
set_option maxHeartbeats 4000000 in
set_option maxRecDepth 100000 in
theorem c_X7_strideOf (l : Launch) (D : va_G) (cA : Nat → ClassId) (ad : Nat → Nat) (o : Nat) (a1 : Int32) (M : Mm) (zr : Int32) (hf : f_X7_strideOf o a1 M = some zr) : KI l yX7_strideOf cX7_strideOf 4 (some .int) rm_X7_strideOf D cA ad [.ref (ad o), .int a1] M zr M := by
  refine KI_of (by decide) (Nat.le_of_ble_eq_true rfl) ?_
  intro p e s m args below meth c ls Q A H locs hZ hE hl hret
  have hx := hZ.1
  have hb := hZ.2.1
  have hown := hZ.2.2.2.1
  have hts := hZ.2.2.2.2.1
  have hl : lv_has ls 4 [(0, .ref (ad o)), (1, .int a1)] := hl
  unfold f_X7_strideOf at hf
  refine lv_iconst (v := 1) hx hb dX7_strideOf_0 (by decide) ?_
  refine lv_istore_n (lv' := [(2, .int (1 : Int32)), (0, .ref (ad o)), (1, .int a1)]) hx hb dX7_strideOf_1 rfl hl (by decide) rfl (fun ls hl => ?_)
  refine lv_aload_n hx hb dX7_strideOf_2 rfl (lv_at hl 1 rfl) ?_
  obtain ⟨x_1, g_1, hf⟩ := b_some hf
  refine xx_gI hZ hE k_X7 0 (by decide) rfl tw_367 g_1 dX7_strideOf_3 ?_
  refine lv_iconst (v := 1) hx hb dX7_strideOf_6 (by decide) ?_
  refine lv_isub hx hb dX7_strideOf_7 ?_
  refine lv_istore_n (lv' := [(3, .int (x_1 - (1 : Int32))), (2, .int (1 : Int32)), (0, .ref (ad o)), (1, .int a1)]) hx hb dX7_strideOf_8 rfl hl (by decide) rfl (fun ls hl => ?_)
  have L_5 : ∀ (n_9 : Nat) (w_5_2 : Int32) (w_5_3 : Int32) (H : Heap) (locs : List Loc) (ls : Array Slot), lp_X7_strideOf_9 o a1 M n_9 w_5_2 w_5_3 = some zr → En D cA ad s A M H locs → lv_has ls 4 [(0, .ref (ad o)), (1, .int a1), (2, .int w_5_2), (3, .int w_5_3)] → W p l e rm_X7_strideOf s m args below meth c H locs 0 0 Q (F0 m 9 ls []) := by
    intro n_9
    induction n_9 with
    | zero =>
      intro w_5_2 w_5_3 H locs ls hf
      cases (show (none : Option (Int32)) = some zr from hf)
    | succ n_9 ih_9 =>
      intro w_5_2 w_5_3 H locs ls hf hE hl
      have hf := lp_X7_strideOf_9_s _ _ _ hf
      refine lv_iload_n hx hb dX7_strideOf_9 rfl (lv_at hl 3 rfl) ?_
      refine lv_iload_n hx hb dX7_strideOf_10 rfl (lv_at hl 1 rfl) ?_
      refine lv_icmp_le (tgt := 29) hx hb dX7_strideOf_11 (by decide) (fun h_6 => ?_) (fun h_6 => ?_)
      · have hf := it_y h_6 hf
        refine lv_iload_n hx hb dX7_strideOf_29 rfl (lv_at hl 2 rfl) ?_
        exact hret _ _ _ _ _ _ (Option.some.inj hf) rfl rfl dX7_strideOf_30 hE
      · have hf := it_n h_6 hf
        refine lv_iload_n hx hb dX7_strideOf_14 rfl (lv_at hl 2 rfl) ?_
        refine lv_aload_n hx hb dX7_strideOf_15 rfl (lv_at hl 0 rfl) ?_
        obtain ⟨x_7, g_7, hf⟩ := b_some hf
        refine xx_gR hZ hE k_X7 1 (by decide) rfl tw_370 g_7 dX7_strideOf_16 ?_
        refine lv_iload_n hx hb dX7_strideOf_19 rfl (lv_at hl 3 rfl) ?_
        obtain ⟨x_8, g_8, hf⟩ := b_some hf
        refine xx_aI hZ hE g_8 dX7_strideOf_20 ?_
        refine lv_imul hx hb dX7_strideOf_21 ?_
        refine lv_istore_n (lv' := [(2, .int (w_5_2 * x_8)), (0, .ref (ad o)), (1, .int a1), (3, .int w_5_3)]) hx hb dX7_strideOf_22 rfl hl (by decide) rfl (fun ls hl => ?_)
        refine lv_iinc (v := (w_5_3 + (-1))) (lv' := [(3, .int (w_5_3 + (-1))), (2, .int (w_5_2 * x_8)), (0, .ref (ad o)), (1, .int a1)]) hx hb dX7_strideOf_23 hl (k := 3) rfl rfl (by decide) rfl (fun ls hl => ?_)
        refine lv_goto (tgt := 9) hx hb dX7_strideOf_26 (by decide) ?_
        exact ih_9 _ _ _ _ _ hf hE (lv_sub hl [2, 3, 1, 0] rfl)
  exact L_5 _ _ _ _ _ _ hf hE (lv_sub hl [2, 3, 1, 0] rfl)
def rm_X7_valueOf : Room := { frames := 1, cells := 0, slots := 0, locals := 23 }
def f_X7_valueOf (o : Nat) (a1 : Int32) (a2 : Int32) (M : Mm) : Option (Int32) :=
    (op_is M o 7).bind fun _ =>
    (f_X7_strideOf o a2 M).bind fun z_1 =>
    if z_1 = 0 then none else
    (op_gR M 7 o 1).bind fun x_3 =>
    (op_aI M x_3 a2).bind fun x_4 =>
    if x_4 = 0 then none else
    some ((a1 / z_1) - (a1 / z_1) / x_4 * x_4)
set_option maxHeartbeats 4000000 in
set_option maxRecDepth 100000 in
theorem c_X7_valueOf (l : Launch) (D : va_G) (cA : Nat → ClassId) (ad : Nat → Nat) (o : Nat) (a1 : Int32) (a2 : Int32) (M : Mm) (zr : Int32) (hf : f_X7_valueOf o a1 a2 M = some zr) : KI l yX7_valueOf cX7_valueOf 3 (some .int) rm_X7_valueOf D cA ad [.ref (ad o), .int a1, .int a2] M zr M := by
  refine KI_of (by decide) (Nat.le_of_ble_eq_true rfl) ?_
  intro p e s m args below meth c ls Q A H locs hZ hE hl hret
  have hx := hZ.1
  have hb := hZ.2.1
  have hown := hZ.2.2.2.1
  have hts := hZ.2.2.2.2.1
  have hl : lv_has ls 3 [(0, .ref (ad o)), (1, .int a1), (2, .int a2)] := hl
  unfold f_X7_valueOf at hf
  refine lv_iload_n hx hb dX7_valueOf_0 rfl (lv_at hl 1 rfl) ?_
  refine lv_aload_n hx hb dX7_valueOf_1 rfl (lv_at hl 0 rfl) ?_
  refine lv_iload_n hx hb dX7_valueOf_2 rfl (lv_at hl 2 rfl) ?_
  obtain ⟨_, i_1, hf⟩ := b_some hf
  obtain ⟨z_1, c_1, hf⟩ := b_some hf
  refine xx_cVi hZ hE (As := [.int a2]) (rest := [.int a1]) k_X7 (is_m i_1) tw_381 tw_382 (c_X7_strideOf l D cA ad o a2 M _ c_1) cw_X7_strideOf tw_380 ⟨rfl, rfl⟩ ⟨Nat.le_of_ble_eq_true rfl, Nat.le_of_ble_eq_true rfl⟩ rfl hl.1 rfl (Nat.le_of_ble_eq_true rfl) ⟨Nat.le_of_ble_eq_true rfl, Nat.le_of_ble_eq_true rfl⟩ dX7_valueOf_3 (fun H locs hE => ?_)
  obtain ⟨h_2, hf⟩ := e_some hf
  refine lv_idiv hx hb dX7_valueOf_6 h_2 ?_
  refine lv_aload_n hx hb dX7_valueOf_7 rfl (lv_at hl 0 rfl) ?_
  obtain ⟨x_3, g_3, hf⟩ := b_some hf
  refine xx_gR hZ hE k_X7 1 (by decide) rfl tw_370 g_3 dX7_valueOf_8 ?_
  refine lv_iload_n hx hb dX7_valueOf_11 rfl (lv_at hl 2 rfl) ?_
  obtain ⟨x_4, g_4, hf⟩ := b_some hf
  refine xx_aI hZ hE g_4 dX7_valueOf_12 ?_
  obtain ⟨h_5, hf⟩ := e_some hf
  refine lv_irem hx hb dX7_valueOf_13 h_5 ?_
  exact hret _ _ _ _ _ _ (Option.some.inj hf) rfl rfl dX7_valueOf_14 hE
def rm_X7_with : Room := { frames := 2, cells := 0, slots := 0, locals := 45 }
def f_X7_with (o : Nat) (a1 : Int32) (a2 : Int32) (a3 : Int32) (M : Mm) : Option (Int32) :=
    (op_is M o 7).bind fun _ =>
    (f_X7_valueOf o a1 a2 M).bind fun z_1 =>
    (op_is M o 7).bind fun _ =>
    (f_X7_strideOf o a2 M).bind fun z_2 =>
    some (a1 + ((a3 - z_1) * z_2))
set_option maxHeartbeats 4000000 in
set_option maxRecDepth 100000 in
theorem c_X7_with (l : Launch) (D : va_G) (cA : Nat → ClassId) (ad : Nat → Nat) (o : Nat) (a1 : Int32) (a2 : Int32) (a3 : Int32) (M : Mm) (zr : Int32) (hf : f_X7_with o a1 a2 a3 M = some zr) : KI l yX7_with cX7_with 4 (some .int) rm_X7_with D cA ad [.ref (ad o), .int a1, .int a2, .int a3] M zr M := by
  refine KI_of (by decide) (Nat.le_of_ble_eq_true rfl) ?_
  intro p e s m args below meth c ls Q A H locs hZ hE hl hret
  have hx := hZ.1
  have hb := hZ.2.1
  have hown := hZ.2.2.2.1
  have hts := hZ.2.2.2.2.1
  have hl : lv_has ls 4 [(0, .ref (ad o)), (1, .int a1), (2, .int a2), (3, .int a3)] := hl
  unfold f_X7_with at hf
  refine lv_iload_n hx hb dX7_with_0 rfl (lv_at hl 1 rfl) ?_
  refine lv_iload_n hx hb dX7_with_1 rfl (lv_at hl 3 rfl) ?_
  refine lv_aload_n hx hb dX7_with_2 rfl (lv_at hl 0 rfl) ?_
  refine lv_iload_n hx hb dX7_with_3 rfl (lv_at hl 1 rfl) ?_
  refine lv_iload_n hx hb dX7_with_4 rfl (lv_at hl 2 rfl) ?_
  obtain ⟨_, i_1, hf⟩ := b_some hf
  obtain ⟨z_1, c_1, hf⟩ := b_some hf
  refine xx_cVi hZ hE (As := [.int a1, .int a2]) (rest := [.int a3, .int a1]) k_X7 (is_m i_1) tw_384 tw_385 (c_X7_valueOf l D cA ad o a1 a2 M _ c_1) cw_X7_valueOf tw_383 ⟨rfl, rfl⟩ ⟨Nat.le_of_ble_eq_true rfl, Nat.le_of_ble_eq_true rfl⟩ rfl hl.1 rfl (Nat.le_of_ble_eq_true rfl) ⟨Nat.le_of_ble_eq_true rfl, Nat.le_of_ble_eq_true rfl⟩ dX7_with_5 (fun H locs hE => ?_)
  refine lv_isub hx hb dX7_with_8 ?_
  refine lv_aload_n hx hb dX7_with_9 rfl (lv_at hl 0 rfl) ?_
  refine lv_iload_n hx hb dX7_with_10 rfl (lv_at hl 2 rfl) ?_
  obtain ⟨_, i_2, hf⟩ := b_some hf
  obtain ⟨z_2, c_2, hf⟩ := b_some hf
  refine xx_cVi hZ hE (As := [.int a2]) (rest := [.int (a3 - z_1), .int a1]) k_X7 (is_m i_2) tw_381 tw_382 (c_X7_strideOf l D cA ad o a2 M _ c_2) cw_X7_strideOf tw_380 ⟨rfl, rfl⟩ ⟨Nat.le_of_ble_eq_true rfl, Nat.le_of_ble_eq_true rfl⟩ rfl hl.1 rfl (Nat.le_of_ble_eq_true rfl) ⟨Nat.le_of_ble_eq_true rfl, Nat.le_of_ble_eq_true rfl⟩ dX7_with_11 (fun H locs hE => ?_)
  refine lv_imul hx hb dX7_with_14 ?_
  refine lv_iadd hx hb dX7_with_15 ?_
  exact hret _ _ _ _ _ _ (Option.some.inj hf) rfl rfl dX7_with_16 hE
def lp_X7_state_16 (i_0 : Nat) (i_1 : Int32) (i_2 : Int32) (i_3 : Int32) (i_4 : Int32) (M : Mm) : Nat → Int32 → Int32 → Option (Int32)
  | 0, _, _ => none
  | n_16 + 1, v_5, v_6 =>
    (op_gI M 7 i_0 0).bind fun x_3 =>
    if x_3 ≤ v_6 then
    some v_5
    else
    (op_gR M 7 i_0 1).bind fun x_6 =>
    (op_aI M x_6 v_6).bind fun x_7 =>
    (f_X7_isIn (if v_6 = 0 then i_1 else (if v_6 = (1 : Int32) then i_2 else (if v_6 = (2 : Int32) then i_3 else i_4))) (0 : Int32) (x_7 - (1 : Int32))).bind fun z_8 =>
    if z_8 = 0 then
    some (-1 : Int32)
    else
    (op_gR M 7 i_0 1).bind fun x_10 =>
    (op_aI M x_10 v_6).bind fun x_11 =>
    lp_X7_state_16 i_0 i_1 i_2 i_3 i_4 M n_16 ((v_5 * x_11) + (if v_6 = 0 then i_1 else (if v_6 = (1 : Int32) then i_2 else (if v_6 = (2 : Int32) then i_3 else i_4)))) (v_6 + 1)
theorem lp_X7_state_16_s (i_0 : Nat) (i_1 : Int32) (i_2 : Int32) (i_3 : Int32) (i_4 : Int32) (M : Mm) {n_16 : Nat} {v_5 : Int32} {v_6 : Int32} {zr : Int32} (hf : lp_X7_state_16 i_0 i_1 i_2 i_3 i_4 M (n_16 + 1) v_5 v_6 = some zr) : (
    (op_gI M 7 i_0 0).bind fun x_3 =>
    if x_3 ≤ v_6 then
    some v_5
    else
    (op_gR M 7 i_0 1).bind fun x_6 =>
    (op_aI M x_6 v_6).bind fun x_7 =>
    (f_X7_isIn (if v_6 = 0 then i_1 else (if v_6 = (1 : Int32) then i_2 else (if v_6 = (2 : Int32) then i_3 else i_4))) (0 : Int32) (x_7 - (1 : Int32))).bind fun z_8 =>
    if z_8 = 0 then
    some (-1 : Int32)
    else
    (op_gR M 7 i_0 1).bind fun x_10 =>
    (op_aI M x_10 v_6).bind fun x_11 =>
    lp_X7_state_16 i_0 i_1 i_2 i_3 i_4 M n_16 ((v_5 * x_11) + (if v_6 = 0 then i_1 else (if v_6 = (1 : Int32) then i_2 else (if v_6 = (2 : Int32) then i_3 else i_4)))) (v_6 + 1)) = some zr := hf
def rm_X7_state : Room := { frames := 1, cells := 0, slots := 0, locals := 22 }
def f_X7_state (o : Nat) (a1 : Int32) (a2 : Int32) (a3 : Int32) (a4 : Int32) (M : Mm) : Option (Int32) :=
    (op_gI M 7 o 2).bind fun x_1 =>
    if x_1 = 0 then
    some (-2 : Int32)
    else
    lp_X7_state_16  o a1 a2 a3 a4 M FU (0 : Int32) (0 : Int32)
set_option maxHeartbeats 4000000 in
set_option maxRecDepth 100000 in
theorem c_X7_state (l : Launch) (D : va_G) (cA : Nat → ClassId) (ad : Nat → Nat) (o : Nat) (a1 : Int32) (a2 : Int32) (a3 : Int32) (a4 : Int32) (M : Mm) (zr : Int32) (hf : f_X7_state o a1 a2 a3 a4 M = some zr) : KI l yX7_state cX7_state 8 (some .int) rm_X7_state D cA ad [.ref (ad o), .int a1, .int a2, .int a3, .int a4] M zr M := by
  refine KI_of (by decide) (Nat.le_of_ble_eq_true rfl) ?_
  intro p e s m args below meth c ls Q A H locs hZ hE hl hret
  have hx := hZ.1
  have hb := hZ.2.1
  have hown := hZ.2.2.2.1
  have hts := hZ.2.2.2.2.1
  have hl : lv_has ls 8 [(0, .ref (ad o)), (1, .int a1), (2, .int a2), (3, .int a3), (4, .int a4)] := hl
  unfold f_X7_state at hf
  refine lv_aload_n hx hb dX7_state_0 rfl (lv_at hl 0 rfl) ?_
  obtain ⟨x_1, g_1, hf⟩ := b_some hf
  refine xx_gI hZ hE k_X7 2 (by decide) rfl tw_363 g_1 dX7_state_1 ?_
  refine lv_if_ne (tgt := 10) hx hb dX7_state_4 (by decide) (fun h_2 => ?_) (fun h_2 => ?_)
  · have hf := it_n h_2 hf
    refine lv_iconst (v := 0) hx hb dX7_state_10 (by decide) ?_
    refine lv_istore (lv' := [(5, .int (0 : Int32)), (0, .ref (ad o)), (1, .int a1), (2, .int a2), (3, .int a3), (4, .int a4)]) hx hb dX7_state_11 hl (by decide) rfl (fun ls hl => ?_)
    refine lv_iconst (v := 0) hx hb dX7_state_13 (by decide) ?_
    refine lv_istore (lv' := [(6, .int (0 : Int32)), (5, .int (0 : Int32)), (0, .ref (ad o)), (1, .int a1), (2, .int a2), (3, .int a3), (4, .int a4)]) hx hb dX7_state_14 hl (by decide) rfl (fun ls hl => ?_)
    have L_15 : ∀ (n_16 : Nat) (w_15_5 : Int32) (w_15_6 : Int32) (H : Heap) (locs : List Loc) (ls : Array Slot), lp_X7_state_16 o a1 a2 a3 a4 M n_16 w_15_5 w_15_6 = some zr → En D cA ad s A M H locs → lv_has ls 8 [(0, .ref (ad o)), (1, .int a1), (2, .int a2), (3, .int a3), (4, .int a4), (5, .int w_15_5), (6, .int w_15_6)] → W p l e rm_X7_state s m args below meth c H locs 0 0 Q (F0 m 16 ls []) := by
      intro n_16
      induction n_16 with
      | zero =>
        intro w_15_5 w_15_6 H locs ls hf
        cases (show (none : Option (Int32)) = some zr from hf)
      | succ n_16 ih_16 =>
        intro w_15_5 w_15_6 H locs ls hf hE hl
        have hf := lp_X7_state_16_s _ _ _ _ _ _ hf
        refine lv_iload hx hb dX7_state_16 (lv_at hl 6 rfl) ?_
        refine lv_aload_n hx hb dX7_state_18 rfl (lv_at hl 0 rfl) ?_
        obtain ⟨x_16, g_16, hf⟩ := b_some hf
        refine xx_gI hZ hE k_X7 0 (by decide) rfl tw_367 g_16 dX7_state_19 ?_
        refine lv_icmp_ge (tgt := 99) hx hb dX7_state_22 (by decide) (fun h_17 => ?_) (fun h_17 => ?_)
        · have hf := it_y h_17 hf
          refine lv_iload hx hb dX7_state_99 (lv_at hl 5 rfl) ?_
          exact hret _ _ _ _ _ _ (Option.some.inj hf) rfl rfl dX7_state_101 hE
        · have hf := it_n h_17 hf
          refine lv_iload hx hb dX7_state_25 (lv_at hl 6 rfl) ?_
          have q_18 : ∀ x_18 : Int32, x_18 = (if w_15_6 = 0 then a1 else (if w_15_6 = (1 : Int32) then a2 else (if w_15_6 = (2 : Int32) then a3 else a4))) → W p l e rm_X7_state s m args below meth c H locs 0 0 Q (F0 m 56 ls [.int x_18]) := by
            intro x_18 e_18
            subst e_18
            refine lv_istore (lv' := [(7, .int (if w_15_6 = 0 then a1 else (if w_15_6 = (1 : Int32) then a2 else (if w_15_6 = (2 : Int32) then a3 else a4)))), (0, .ref (ad o)), (1, .int a1), (2, .int a2), (3, .int a3), (4, .int a4), (5, .int w_15_5), (6, .int w_15_6)]) hx hb dX7_state_56 hl (by decide) rfl (fun ls hl => ?_)
            refine lv_iload hx hb dX7_state_58 (lv_at hl 0 rfl) ?_
            refine lv_iconst (v := 0) hx hb dX7_state_60 (by decide) ?_
            refine lv_aload_n hx hb dX7_state_61 rfl (lv_at hl 1 rfl) ?_
            obtain ⟨x_19, g_19, hf⟩ := b_some hf
            refine xx_gR hZ hE k_X7 1 (by decide) rfl tw_370 g_19 dX7_state_62 ?_
            refine lv_iload hx hb dX7_state_65 (lv_at hl 7 rfl) ?_
            obtain ⟨x_20, g_20, hf⟩ := b_some hf
            refine xx_aI hZ hE g_20 dX7_state_67 ?_
            refine lv_iconst (v := 1) hx hb dX7_state_68 (by decide) ?_
            refine lv_isub hx hb dX7_state_69 ?_
            obtain ⟨z_21, c_21, hf⟩ := b_some hf
            refine xx_cSi hZ hE (As := [.int (if w_15_6 = 0 then a1 else (if w_15_6 = (1 : Int32) then a2 else (if w_15_6 = (2 : Int32) then a3 else a4))), .int (0 : Int32), .int (x_20 - (1 : Int32))]) (rest := []) tw_366 (c_X7_isIn l D cA ad (if w_15_6 = 0 then a1 else (if w_15_6 = (1 : Int32) then a2 else (if w_15_6 = (2 : Int32) then a3 else a4))) (0 : Int32) (x_20 - (1 : Int32)) M _ c_21) cw_X7_isIn tw_364 ⟨rfl, rfl⟩ ⟨Nat.le_of_ble_eq_true rfl, Nat.le_of_ble_eq_true rfl⟩ rfl hl.1 rfl (Nat.le_of_ble_eq_true rfl) ⟨Nat.le_of_ble_eq_true rfl, Nat.le_of_ble_eq_true rfl⟩ dX7_state_70 (fun H locs hE => ?_)
            refine lv_if_ne (tgt := 78) hx hb dX7_state_73 (by decide) (fun h_22 => ?_) (fun h_22 => ?_)
            · have hf := it_n h_22 hf
              refine lv_iload hx hb dX7_state_78 (lv_at hl 6 rfl) ?_
              refine lv_aload_n hx hb dX7_state_80 rfl (lv_at hl 1 rfl) ?_
              obtain ⟨x_23, g_23, hf⟩ := b_some hf
              refine xx_gR hZ hE k_X7 1 (by decide) rfl tw_370 g_23 dX7_state_81 ?_
              refine lv_iload hx hb dX7_state_84 (lv_at hl 7 rfl) ?_
              obtain ⟨x_24, g_24, hf⟩ := b_some hf
              refine xx_aI hZ hE g_24 dX7_state_86 ?_
              refine lv_imul hx hb dX7_state_87 ?_
              refine lv_iload hx hb dX7_state_88 (lv_at hl 0 rfl) ?_
              refine lv_iadd hx hb dX7_state_90 ?_
              refine lv_istore (lv' := [(5, .int ((w_15_5 * x_24) + (if w_15_6 = 0 then a1 else (if w_15_6 = (1 : Int32) then a2 else (if w_15_6 = (2 : Int32) then a3 else a4))))), (7, .int (if w_15_6 = 0 then a1 else (if w_15_6 = (1 : Int32) then a2 else (if w_15_6 = (2 : Int32) then a3 else a4)))), (0, .ref (ad o)), (1, .int a1), (2, .int a2), (3, .int a3), (4, .int a4), (6, .int w_15_6)]) hx hb dX7_state_91 hl (by decide) rfl (fun ls hl => ?_)
              refine lv_iinc (v := (w_15_6 + 1)) (lv' := [(6, .int (w_15_6 + 1)), (5, .int ((w_15_5 * x_24) + (if w_15_6 = 0 then a1 else (if w_15_6 = (1 : Int32) then a2 else (if w_15_6 = (2 : Int32) then a3 else a4))))), (7, .int (if w_15_6 = 0 then a1 else (if w_15_6 = (1 : Int32) then a2 else (if w_15_6 = (2 : Int32) then a3 else a4)))), (0, .ref (ad o)), (1, .int a1), (2, .int a2), (3, .int a3), (4, .int a4)]) hx hb dX7_state_93 hl (k := 7) rfl rfl (by decide) rfl (fun ls hl => ?_)
              refine lv_goto (tgt := 16) hx hb dX7_state_96 (by decide) ?_
              exact ih_16 _ _ _ _ _ hf hE (lv_sub hl [3, 4, 5, 6, 7, 1, 0] rfl)
            · have hf := it_y h_22 hf
              refine lv_iconst (v := -1) hx hb dX7_state_76 (by decide) ?_
              exact hret _ _ _ _ _ _ (Option.some.inj hf) rfl rfl dX7_state_77 hE
          refine lv_if_ne (tgt := 34) hx hb dX7_state_27 (by decide) (fun h_25 => ?_) (fun h_25 => ?_)
          · refine lv_iload hx hb dX7_state_34 (lv_at hl 6 rfl) ?_
            refine lv_iconst (v := 1) hx hb dX7_state_36 (by decide) ?_
            refine lv_icmp_ne (tgt := 44) hx hb dX7_state_37 (by decide) (fun h_26 => ?_) (fun h_26 => ?_)
            · refine lv_iload hx hb dX7_state_44 (lv_at hl 6 rfl) ?_
              refine lv_iconst (v := 2) hx hb dX7_state_46 (by decide) ?_
              refine lv_icmp_ne (tgt := 54) hx hb dX7_state_47 (by decide) (fun h_27 => ?_) (fun h_27 => ?_)
              · refine lv_iload hx hb dX7_state_54 (lv_at hl 4 rfl) ?_
                exact q_18 _ (by rw [if_neg h_25, if_neg h_26, if_neg h_27])
              · refine lv_iload_n hx hb dX7_state_50 rfl (lv_at hl 3 rfl) ?_
                refine lv_goto (tgt := 56) hx hb dX7_state_51 (by decide) ?_
                exact q_18 _ (by rw [if_neg h_25, if_neg h_26, if_pos h_27])
            · refine lv_iload_n hx hb dX7_state_40 rfl (lv_at hl 2 rfl) ?_
              refine lv_goto (tgt := 56) hx hb dX7_state_41 (by decide) ?_
              exact q_18 _ (by rw [if_neg h_25, if_pos h_26])
          · refine lv_iload_n hx hb dX7_state_30 rfl (lv_at hl 1 rfl) ?_
            refine lv_goto (tgt := 56) hx hb dX7_state_31 (by decide) ?_
            exact q_18 _ (by rw [if_pos h_25])
    exact L_15 _ _ _ _ _ _ hf hE (lv_sub hl [2, 3, 4, 5, 6, 1, 0] rfl)
  · have hf := it_y h_2 hf
    refine lv_bipush (v := -2) hx hb dX7_state_7 (by decide) ?_
    exact hret _ _ _ _ _ _ (Option.some.inj hf) rfl rfl dX7_state_9 hE
def rm_X7_value : Room := { frames := 2, cells := 0, slots := 0, locals := 45 }
def f_X7_value (o : Nat) (a1 : Int32) (a2 : Int32) (M : Mm) : Option (Int32) :=
    (op_gI M 7 o 2).bind fun x_1 =>
    if x_1 = 0 then
    some (-2 : Int32)
    else
    (op_is M o 7).bind fun _ =>
    (f_X7_isState o a1 M).bind fun z_3 =>
    if z_3 = 0 then
    some (-1 : Int32)
    else
    (op_is M o 7).bind fun _ =>
    (f_X7_isPlace o a2 M).bind fun z_5 =>
    if z_5 = 0 then
    some (-1 : Int32)
    else
    (op_is M o 7).bind fun _ =>
    (f_X7_valueOf o a1 a2 M).bind fun z_7 =>
    some z_7
set_option maxHeartbeats 4000000 in
set_option maxRecDepth 100000 in
theorem c_X7_value (l : Launch) (D : va_G) (cA : Nat → ClassId) (ad : Nat → Nat) (o : Nat) (a1 : Int32) (a2 : Int32) (M : Mm) (zr : Int32) (hf : f_X7_value o a1 a2 M = some zr) : KI l yX7_value cX7_value 3 (some .int) rm_X7_value D cA ad [.ref (ad o), .int a1, .int a2] M zr M := by
  refine KI_of (by decide) (Nat.le_of_ble_eq_true rfl) ?_
  intro p e s m args below meth c ls Q A H locs hZ hE hl hret
  have hx := hZ.1
  have hb := hZ.2.1
  have hown := hZ.2.2.2.1
  have hts := hZ.2.2.2.2.1
  have hl : lv_has ls 3 [(0, .ref (ad o)), (1, .int a1), (2, .int a2)] := hl
  unfold f_X7_value at hf
  refine lv_aload_n hx hb dX7_value_0 rfl (lv_at hl 0 rfl) ?_
  obtain ⟨x_1, g_1, hf⟩ := b_some hf
  refine xx_gI hZ hE k_X7 2 (by decide) rfl tw_363 g_1 dX7_value_1 ?_
  refine lv_if_ne (tgt := 10) hx hb dX7_value_4 (by decide) (fun h_2 => ?_) (fun h_2 => ?_)
  · have hf := it_n h_2 hf
    refine lv_aload_n hx hb dX7_value_10 rfl (lv_at hl 0 rfl) ?_
    refine lv_iload_n hx hb dX7_value_11 rfl (lv_at hl 1 rfl) ?_
    obtain ⟨_, i_3, hf⟩ := b_some hf
    obtain ⟨z_3, c_3, hf⟩ := b_some hf
    refine xx_cVi hZ hE (As := [.int a1]) (rest := []) k_X7 (is_m i_3) tw_378 tw_379 (c_X7_isState l D cA ad o a1 M _ c_3) cw_X7_isState tw_377 ⟨rfl, rfl⟩ ⟨Nat.le_of_ble_eq_true rfl, Nat.le_of_ble_eq_true rfl⟩ rfl hl.1 rfl (Nat.le_of_ble_eq_true rfl) ⟨Nat.le_of_ble_eq_true rfl, Nat.le_of_ble_eq_true rfl⟩ dX7_value_12 (fun H locs hE => ?_)
    refine lv_if_eq (tgt := 35) hx hb dX7_value_15 (by decide) (fun h_4 => ?_) (fun h_4 => ?_)
    · have hf := it_y h_4 hf
      refine lv_iconst (v := -1) hx hb dX7_value_35 (by decide) ?_
      exact hret _ _ _ _ _ _ (Option.some.inj hf) rfl rfl dX7_value_36 hE
    · have hf := it_n h_4 hf
      refine lv_aload_n hx hb dX7_value_18 rfl (lv_at hl 0 rfl) ?_
      refine lv_iload_n hx hb dX7_value_19 rfl (lv_at hl 2 rfl) ?_
      obtain ⟨_, i_5, hf⟩ := b_some hf
      obtain ⟨z_5, c_5, hf⟩ := b_some hf
      refine xx_cVi hZ hE (As := [.int a2]) (rest := []) k_X7 (is_m i_5) tw_387 tw_388 (c_X7_isPlace l D cA ad o a2 M _ c_5) cw_X7_isPlace tw_386 ⟨rfl, rfl⟩ ⟨Nat.le_of_ble_eq_true rfl, Nat.le_of_ble_eq_true rfl⟩ rfl hl.1 rfl (Nat.le_of_ble_eq_true rfl) ⟨Nat.le_of_ble_eq_true rfl, Nat.le_of_ble_eq_true rfl⟩ dX7_value_20 (fun H locs hE => ?_)
      refine lv_if_eq (tgt := 35) hx hb dX7_value_23 (by decide) (fun h_6 => ?_) (fun h_6 => ?_)
      · have hf := it_y h_6 hf
        refine lv_iconst (v := -1) hx hb dX7_value_35 (by decide) ?_
        exact hret _ _ _ _ _ _ (Option.some.inj hf) rfl rfl dX7_value_36 hE
      · have hf := it_n h_6 hf
        refine lv_aload_n hx hb dX7_value_26 rfl (lv_at hl 0 rfl) ?_
        refine lv_iload_n hx hb dX7_value_27 rfl (lv_at hl 1 rfl) ?_
        refine lv_iload_n hx hb dX7_value_28 rfl (lv_at hl 2 rfl) ?_
        obtain ⟨_, i_7, hf⟩ := b_some hf
        obtain ⟨z_7, c_7, hf⟩ := b_some hf
        refine xx_cVi hZ hE (As := [.int a1, .int a2]) (rest := []) k_X7 (is_m i_7) tw_384 tw_385 (c_X7_valueOf l D cA ad o a1 a2 M _ c_7) cw_X7_valueOf tw_383 ⟨rfl, rfl⟩ ⟨Nat.le_of_ble_eq_true rfl, Nat.le_of_ble_eq_true rfl⟩ rfl hl.1 rfl (Nat.le_of_ble_eq_true rfl) ⟨Nat.le_of_ble_eq_true rfl, Nat.le_of_ble_eq_true rfl⟩ dX7_value_29 (fun H locs hE => ?_)
        refine lv_goto (tgt := 36) hx hb dX7_value_32 (by decide) ?_
        exact hret _ _ _ _ _ _ (Option.some.inj hf) rfl rfl dX7_value_36 hE
  · have hf := it_y h_2 hf
    refine lv_bipush (v := -2) hx hb dX7_value_7 (by decide) ?_
    exact hret _ _ _ _ _ _ (Option.some.inj hf) rfl rfl dX7_value_9 hE
def lp_X7_move_276 (k_305 : Mm → Option (Int32 × Mm)) (i_0 : Nat) (i_6 : Int32) : Nat → Int32 → Mm → Option (Int32 × Mm)
  | 0, _, _ => none
  | n_276 + 1, v_7, M =>
    if (256 : Int32) ≤ v_7 then
    k_305 M
    else
    (op_gR M 7 i_0 11).bind fun x_63 =>
    (op_sI M x_63 (((256 : Int32) * i_6) + v_7) (0 : Int32)).bind fun M_64 =>
    lp_X7_move_276 k_305 i_0 i_6 n_276 (v_7 + 1) M_64
theorem lp_X7_move_276_s (k_305 : Mm → Option (Int32 × Mm)) (i_0 : Nat) (i_6 : Int32) {n_276 : Nat} {v_7 : Int32} {M : Mm} {zr : Int32 × Mm} (hf : lp_X7_move_276 k_305 i_0 i_6 (n_276 + 1) v_7 M = some zr) : (
    if (256 : Int32) ≤ v_7 then
    k_305 M
    else
    (op_gR M 7 i_0 11).bind fun x_63 =>
    (op_sI M x_63 (((256 : Int32) * i_6) + v_7) (0 : Int32)).bind fun M_64 =>
    lp_X7_move_276 k_305 i_0 i_6 n_276 (v_7 + 1) M_64) = some zr := hf
theorem lp_X7_move_276_k {k_305 : Mm → Option (Int32 × Mm)} {i_0 : Nat} {i_6 : Int32} {n : Nat} {v_7 : Int32} {M : Mm} {zr : Int32 × Mm} (hf : lp_X7_move_276 k_305 i_0 i_6 n v_7 M = some zr) : ∃ (m_305 : Mm → Option (Int32 × Mm)), m_305 = k_305 ∧ lp_X7_move_276 m_305 i_0 i_6 n v_7 M = some zr := ⟨k_305, rfl, hf⟩
def rm_X7_move : Room := { frames := 2, cells := 0, slots := 0, locals := 43 }
def f_X7_move (o : Nat) (a1 : Int32) (a2 : Int32) (a3 : Int32) (M : Mm) : Option (Int32 × Mm) :=
    (op_gI M 7 o 2).bind fun x_1 =>
    if x_1 = 0 then
    some ((-2 : Int32), M)
    else
    (f_X7_isIn a1 (0 : Int32) (6 : Int32)).bind fun z_3 =>
    if z_3 = 0 then
    some ((-1 : Int32), M)
    else
    op_jn (fun (l_6_4 : Int32) =>
    if l_6_4 = 0 then
    some ((-1 : Int32), M)
    else
    op_jn (fun (x_32_0 : Int32) =>
    if x_32_0 ≤ (2 : Int32) then
    (op_gI M 7 o 4).bind fun x_45 =>
    if x_45 = (10 : Int32) then
    some ((-3 : Int32), M)
    else
    (op_gI M 7 o 4).bind fun x_47 =>
    (op_gI M 7 o 4).bind fun x_48 =>
    (op_pI M 7 o 4 (x_48 + (1 : Int32))).bind fun M_49 =>
    (op_gR M_49 7 o 5).bind fun x_50 =>
    (op_sI M_49 x_50 x_47 a1).bind fun M_51 =>
    (op_gR M_51 7 o 6).bind fun x_52 =>
    (op_sI M_51 x_52 x_47 a2).bind fun M_53 =>
    (op_gR M_53 7 o 7).bind fun x_54 =>
    (op_sI M_53 x_54 x_47 a3).bind fun M_55 =>
    (op_gR M_55 7 o 8).bind fun x_56 =>
    (op_sI M_55 x_56 x_47 x_32_0).bind fun M_57 =>
    (op_gR M_57 7 o 9).bind fun x_58 =>
    (op_sI M_57 x_58 x_47 (1 : Int32)).bind fun M_59 =>
    (op_gR M_59 7 o 10).bind fun x_60 =>
    (op_sI M_59 x_60 x_47 (1 : Int32)).bind fun M_61 =>
    lp_X7_move_276 (fun (M_66 : Mm) =>
    (op_gR M_66 7 o 14).bind fun x_67 =>
    (op_sZ M_66 x_67 x_47 (0 : Int32)).bind fun M_68 =>
    some (x_47, M_68)) o x_47 FU (0 : Int32) M_61
    else
    some ((-5 : Int32), M))
    fun j_32 =>
    if (5 : Int32) ≤ a1 then
    (op_gR M 7 o 8).bind fun x_34 =>
    (op_aI M x_34 a2).bind fun x_35 =>
    (op_gR M 7 o 8).bind fun x_36 =>
    (op_aI M x_36 a3).bind fun x_37 =>
    op_jn (fun (x_38_0 : Int32) =>
    j_32 ((1 : Int32) + x_38_0))
    fun j_38 =>
    if x_35 ≤ x_37 then
    (op_gR M 7 o 8).bind fun x_40 =>
    (op_aI M x_40 a3).bind fun x_41 =>
    j_38 x_41
    else
    (op_gR M 7 o 8).bind fun x_42 =>
    (op_aI M x_42 a2).bind fun x_43 =>
    j_38 x_43
    else
    j_32 (0 : Int32))
    fun j_6 =>
    if a1 = 0 then
    (op_is M o 7).bind fun _ =>
    (f_X7_isPlace o a2 M).bind fun z_8 =>
    j_6 z_8
    else
    if a1 = (1 : Int32) then
    (op_is M o 7).bind fun _ =>
    (f_X7_isPlace o a2 M).bind fun z_10 =>
    j_6 z_10
    else
    if a1 = (4 : Int32) then
    (op_is M o 7).bind fun _ =>
    (f_X7_isPlace o a2 M).bind fun z_30 =>
    j_6 z_30
    else
    if a1 = (2 : Int32) then
    (op_is M o 7).bind fun _ =>
    (f_X7_isPlace o a2 M).bind fun z_19 =>
    op_jn (fun (x_20_0 : Int32) =>
    j_6 x_20_0)
    fun j_20 =>
    if z_19 = 0 then
    j_20 (0 : Int32)
    else
    (op_is M o 7).bind fun _ =>
    (f_X7_isPlace o a3 M).bind fun z_22 =>
    if z_22 = 0 then
    j_20 (0 : Int32)
    else
    if a2 = a3 then
    j_20 (0 : Int32)
    else
    (op_gR M 7 o 1).bind fun x_25 =>
    (op_aI M x_25 a2).bind fun x_26 =>
    (op_gR M 7 o 1).bind fun x_27 =>
    (op_aI M x_27 a3).bind fun x_28 =>
    if x_26 = x_28 then
    j_20 (1 : Int32)
    else
    j_20 (0 : Int32)
    else
    if a1 < (5 : Int32) then
    j_6 (if a1 = (3 : Int32) then (1 : Int32) else (0 : Int32))
    else
    (op_is M o 7).bind fun _ =>
    (f_X7_isMove o a2 M).bind fun z_14 =>
    op_jn (fun (x_15_0 : Int32) =>
    j_6 x_15_0)
    fun j_15 =>
    if z_14 = 0 then
    j_15 (0 : Int32)
    else
    (op_is M o 7).bind fun _ =>
    (f_X7_isMove o a3 M).bind fun z_17 =>
    if z_17 = 0 then
    j_15 (0 : Int32)
    else
    j_15 (1 : Int32)
set_option maxHeartbeats 4000000 in
set_option maxRecDepth 100000 in
theorem c_X7_move (l : Launch) (D : va_G) (cA : Nat → ClassId) (ad : Nat → Nat) (o : Nat) (a1 : Int32) (a2 : Int32) (a3 : Int32) (M : Mm) (zr : Int32 × Mm) (hf : f_X7_move o a1 a2 a3 M = some zr) : KI l yX7_move cX7_move 8 (some .int) rm_X7_move D cA ad [.ref (ad o), .int a1, .int a2, .int a3] M zr.1 zr.2 := by
  refine KI_of (by decide) (Nat.le_of_ble_eq_true rfl) ?_
  intro p e s m args below meth c ls Q A H locs hZ hE hl hret
  have hx := hZ.1
  have hb := hZ.2.1
  have hown := hZ.2.2.2.1
  have hts := hZ.2.2.2.2.1
  have hl : lv_has ls 8 [(0, .ref (ad o)), (1, .int a1), (2, .int a2), (3, .int a3)] := hl
  unfold f_X7_move at hf
  refine lv_aload_n hx hb dX7_move_0 rfl (lv_at hl 0 rfl) ?_
  obtain ⟨x_1, g_1, hf⟩ := b_some hf
  refine xx_gI hZ hE k_X7 2 (by decide) rfl tw_363 g_1 dX7_move_1 ?_
  refine lv_if_ne (tgt := 10) hx hb dX7_move_4 (by decide) (fun h_2 => ?_) (fun h_2 => ?_)
  · have hf := it_n h_2 hf
    refine lv_iload_n hx hb dX7_move_10 rfl (lv_at hl 1 rfl) ?_
    refine lv_iconst (v := 0) hx hb dX7_move_11 (by decide) ?_
    refine lv_bipush (v := 6) hx hb dX7_move_12 (by decide) ?_
    obtain ⟨z_3, c_3, hf⟩ := b_some hf
    refine xx_cSi hZ hE (As := [.int a1, .int (0 : Int32), .int (6 : Int32)]) (rest := []) tw_366 (c_X7_isIn l D cA ad a1 (0 : Int32) (6 : Int32) M _ c_3) cw_X7_isIn tw_364 ⟨rfl, rfl⟩ ⟨Nat.le_of_ble_eq_true rfl, Nat.le_of_ble_eq_true rfl⟩ rfl hl.1 rfl (Nat.le_of_ble_eq_true rfl) ⟨Nat.le_of_ble_eq_true rfl, Nat.le_of_ble_eq_true rfl⟩ dX7_move_14 (fun H locs hE => ?_)
    refine lv_if_ne (tgt := 22) hx hb dX7_move_17 (by decide) (fun h_4 => ?_) (fun h_4 => ?_)
    · have hf := it_n h_4 hf
      refine lv_iload_n hx hb dX7_move_22 rfl (lv_at hl 1 rfl) ?_
      refine lv_iconst (v := 3) hx hb dX7_move_23 (by decide) ?_
      have q_5 : ∀ x_5 : Int32, x_5 = (if a1 = (3 : Int32) then (1 : Int32) else (0 : Int32)) → W p l e rm_X7_move s m args below meth c H locs 0 0 Q (F0 m 32 ls [.int x_5]) := by
        intro x_5 e_5
        subst e_5
        refine lv_istore (lv' := [(4, .int (if a1 = (3 : Int32) then (1 : Int32) else (0 : Int32))), (0, .ref (ad o)), (1, .int a1), (2, .int a2), (3, .int a3)]) hx hb dX7_move_32 hl (by decide) rfl (fun ls hl => ?_)
        refine lv_iload_n hx hb dX7_move_34 rfl (lv_at hl 2 rfl) ?_
        obtain ⟨j_6, ej_6, hf⟩ := jn_e hf
        have q_6 : ∀ (l_6_4 : Int32) (H : Heap) (locs : List Loc) (ls : Array Slot), j_6 l_6_4 = some zr → En D cA ad s A M H locs → lv_has ls 8 [(0, .ref (ad o)), (1, .int a1), (2, .int a2), (3, .int a3), (4, .int l_6_4)] → W p l e rm_X7_move s m args below meth c H locs 0 0 Q (F0 m 137 ls []) := by
          intro l_6_4 H locs ls hf hE hl
          rw [ej_6] at hf
          refine lv_iload hx hb dX7_move_137 (lv_at hl 4 rfl) ?_
          refine lv_if_ne (tgt := 144) hx hb dX7_move_139 (by decide) (fun h_31 => ?_) (fun h_31 => ?_)
          · have hf := it_n h_31 hf
            refine lv_iload_n hx hb dX7_move_144 rfl (lv_at hl 1 rfl) ?_
            refine lv_iconst (v := 5) hx hb dX7_move_145 (by decide) ?_
            obtain ⟨j_32, ej_32, hf⟩ := jn_e hf
            have q_32 : ∀ (x_32_0 : Int32) (H : Heap) (locs : List Loc) (ls : Array Slot), j_32 x_32_0 = some zr → En D cA ad s A M H locs → lv_has ls 8 [(0, .ref (ad o)), (1, .int a1), (2, .int a2), (3, .int a3)] → W p l e rm_X7_move s m args below meth c H locs 0 0 Q (F0 m 185 ls [.int x_32_0]) := by
              intro x_32_0 H locs ls hf hE hl
              rw [ej_32] at hf
              refine lv_istore (lv' := [(5, .int x_32_0), (0, .ref (ad o)), (1, .int a1), (2, .int a2), (3, .int a3)]) hx hb dX7_move_185 hl (by decide) rfl (fun ls hl => ?_)
              refine lv_iload hx hb dX7_move_187 (lv_at hl 0 rfl) ?_
              refine lv_iconst (v := 2) hx hb dX7_move_189 (by decide) ?_
              refine lv_icmp_le (tgt := 196) hx hb dX7_move_190 (by decide) (fun h_44 => ?_) (fun h_44 => ?_)
              · have hf := it_y h_44 hf
                refine lv_aload_n hx hb dX7_move_196 rfl (lv_at hl 1 rfl) ?_
                obtain ⟨x_45, g_45, hf⟩ := b_some hf
                refine xx_gI hZ hE k_X7 4 (by decide) rfl tw_368 g_45 dX7_move_197 ?_
                refine lv_bipush (v := 10) hx hb dX7_move_200 (by decide) ?_
                refine lv_icmp_ne (tgt := 208) hx hb dX7_move_202 (by decide) (fun h_46 => ?_) (fun h_46 => ?_)
                · have hf := it_n h_46 hf
                  refine lv_aload_n hx hb dX7_move_208 rfl (lv_at hl 1 rfl) ?_
                  obtain ⟨x_47, g_47, hf⟩ := b_some hf
                  refine xx_gI hZ hE k_X7 4 (by decide) rfl tw_368 g_47 dX7_move_209 ?_
                  refine lv_istore (lv' := [(6, .int x_47), (5, .int x_32_0), (0, .ref (ad o)), (1, .int a1), (2, .int a2), (3, .int a3)]) hx hb dX7_move_212 hl (by decide) rfl (fun ls hl => ?_)
                  refine lv_aload_n hx hb dX7_move_214 rfl (lv_at hl 2 rfl) ?_
                  refine lv_dup hx hb dX7_move_215 rfl ?_
                  obtain ⟨x_48, g_48, hf⟩ := b_some hf
                  refine xx_gI hZ hE k_X7 4 (by decide) rfl tw_368 g_48 dX7_move_216 ?_
                  refine lv_iconst (v := 1) hx hb dX7_move_219 (by decide) ?_
                  refine lv_iadd hx hb dX7_move_220 ?_
                  obtain ⟨M_49, g_49, hf⟩ := b_some hf
                  refine xx_pI hZ hE k_X7 4 (by decide) rfl rfl rfl tw_368 g_49 dX7_move_221 (fun H locs hE => ?_)
                  refine lv_aload_n hx hb dX7_move_224 rfl (lv_at hl 2 rfl) ?_
                  obtain ⟨x_50, g_50, hf⟩ := b_some hf
                  refine xx_gR hZ hE k_X7 5 (by decide) rfl tw_393 g_50 dX7_move_225 ?_
                  refine lv_iload hx hb dX7_move_228 (lv_at hl 0 rfl) ?_
                  refine lv_iload_n hx hb dX7_move_230 rfl (lv_at hl 3 rfl) ?_
                  obtain ⟨M_51, g_51, hf⟩ := b_some hf
                  refine xx_sI hZ hE g_51 dX7_move_231 (fun H locs hE => ?_)
                  refine lv_aload_n hx hb dX7_move_232 rfl (lv_at hl 2 rfl) ?_
                  obtain ⟨x_52, g_52, hf⟩ := b_some hf
                  refine xx_gR hZ hE k_X7 6 (by decide) rfl tw_394 g_52 dX7_move_233 ?_
                  refine lv_iload hx hb dX7_move_236 (lv_at hl 0 rfl) ?_
                  refine lv_iload_n hx hb dX7_move_238 rfl (lv_at hl 4 rfl) ?_
                  obtain ⟨M_53, g_53, hf⟩ := b_some hf
                  refine xx_sI hZ hE g_53 dX7_move_239 (fun H locs hE => ?_)
                  refine lv_aload_n hx hb dX7_move_240 rfl (lv_at hl 2 rfl) ?_
                  obtain ⟨x_54, g_54, hf⟩ := b_some hf
                  refine xx_gR hZ hE k_X7 7 (by decide) rfl tw_395 g_54 dX7_move_241 ?_
                  refine lv_iload hx hb dX7_move_244 (lv_at hl 0 rfl) ?_
                  refine lv_iload_n hx hb dX7_move_246 rfl (lv_at hl 5 rfl) ?_
                  obtain ⟨M_55, g_55, hf⟩ := b_some hf
                  refine xx_sI hZ hE g_55 dX7_move_247 (fun H locs hE => ?_)
                  refine lv_aload_n hx hb dX7_move_248 rfl (lv_at hl 2 rfl) ?_
                  obtain ⟨x_56, g_56, hf⟩ := b_some hf
                  refine xx_gR hZ hE k_X7 8 (by decide) rfl tw_392 g_56 dX7_move_249 ?_
                  refine lv_iload hx hb dX7_move_252 (lv_at hl 0 rfl) ?_
                  refine lv_iload hx hb dX7_move_254 (lv_at hl 1 rfl) ?_
                  obtain ⟨M_57, g_57, hf⟩ := b_some hf
                  refine xx_sI hZ hE g_57 dX7_move_256 (fun H locs hE => ?_)
                  refine lv_aload_n hx hb dX7_move_257 rfl (lv_at hl 2 rfl) ?_
                  obtain ⟨x_58, g_58, hf⟩ := b_some hf
                  refine xx_gR hZ hE k_X7 9 (by decide) rfl tw_396 g_58 dX7_move_258 ?_
                  refine lv_iload hx hb dX7_move_261 (lv_at hl 0 rfl) ?_
                  refine lv_iconst (v := 1) hx hb dX7_move_263 (by decide) ?_
                  obtain ⟨M_59, g_59, hf⟩ := b_some hf
                  refine xx_sI hZ hE g_59 dX7_move_264 (fun H locs hE => ?_)
                  refine lv_aload_n hx hb dX7_move_265 rfl (lv_at hl 2 rfl) ?_
                  obtain ⟨x_60, g_60, hf⟩ := b_some hf
                  refine xx_gR hZ hE k_X7 10 (by decide) rfl tw_397 g_60 dX7_move_266 ?_
                  refine lv_iload hx hb dX7_move_269 (lv_at hl 0 rfl) ?_
                  refine lv_iconst (v := 1) hx hb dX7_move_271 (by decide) ?_
                  obtain ⟨M_61, g_61, hf⟩ := b_some hf
                  refine xx_sI hZ hE g_61 dX7_move_272 (fun H locs hE => ?_)
                  refine lv_iconst (v := 0) hx hb dX7_move_273 (by decide) ?_
                  refine lv_istore (lv' := [(7, .int (0 : Int32)), (6, .int x_47), (5, .int x_32_0), (0, .ref (ad o)), (1, .int a1), (2, .int a2), (3, .int a3)]) hx hb dX7_move_274 hl (by decide) rfl (fun ls hl => ?_)
                  obtain ⟨k_305_66, ek_305_66, hf⟩ := lp_X7_move_276_k hf
                  have o_305_66 : ∀ (M_66 : Mm) (H : Heap) (locs : List Loc) (ls : Array Slot), k_305_66 M_66 = some zr → En D cA ad s A M_66 H locs → lv_has ls 8 [(0, .ref (ad o)), (6, .int x_47)] → W p l e rm_X7_move s m args below meth c H locs 0 0 Q (F0 m 305 ls []) := by
                    intro M_66 H locs ls hf hE hl
                    rw [ek_305_66] at hf
                    refine lv_aload_n hx hb dX7_move_305 rfl (lv_at hl 0 rfl) ?_
                    obtain ⟨x_67, g_67, hf⟩ := b_some hf
                    refine xx_gR hZ hE k_X7 14 (by decide) rfl tw_369 g_67 dX7_move_306 ?_
                    refine lv_iload hx hb dX7_move_309 (lv_at hl 1 rfl) ?_
                    refine lv_iconst (v := 0) hx hb dX7_move_311 (by decide) ?_
                    obtain ⟨M_68, g_68, hf⟩ := b_some hf
                    refine xx_sZ hZ hE g_68 dX7_move_312 (fun H locs hE => ?_)
                    refine lv_iload hx hb dX7_move_313 (lv_at hl 1 rfl) ?_
                    exact hret _ _ _ _ _ _ (pr_1 hf) (pr_2 hf) rfl dX7_move_315 hE
                  have L_65 : ∀ (n_276 : Nat) (w_65_7 : Int32) (M_65 : Mm) (H : Heap) (locs : List Loc) (ls : Array Slot), lp_X7_move_276 k_305_66 o x_47 n_276 w_65_7 M_65 = some zr → En D cA ad s A M_65 H locs → lv_has ls 8 [(0, .ref (ad o)), (6, .int x_47), (7, .int w_65_7)] → W p l e rm_X7_move s m args below meth c H locs 0 0 Q (F0 m 276 ls []) := by
                    intro n_276
                    induction n_276 with
                    | zero =>
                      intro w_65_7 M_65 H locs ls hf
                      cases (show (none : Option (Int32 × Mm)) = some zr from hf)
                    | succ n_276 ih_276 =>
                      intro w_65_7 M_65 H locs ls hf hE hl
                      have hf := lp_X7_move_276_s _ _ _ hf
                      refine lv_iload hx hb dX7_move_276 (lv_at hl 2 rfl) ?_
                      refine lv_sipush (v := 256) hx hb dX7_move_278 (by decide) ?_
                      refine lv_icmp_ge (tgt := 305) hx hb dX7_move_281 (by decide) (fun h_69 => ?_) (fun h_69 => ?_)
                      · have hf := it_y h_69 hf
                        exact o_305_66 _ _ _ _ hf hE (lv_sub hl [0, 1] rfl)
                      · have hf := it_n h_69 hf
                        refine lv_aload_n hx hb dX7_move_284 rfl (lv_at hl 0 rfl) ?_
                        obtain ⟨x_70, g_70, hf⟩ := b_some hf
                        refine xx_gR hZ hE k_X7 11 (by decide) rfl tw_398 g_70 dX7_move_285 ?_
                        refine lv_sipush (v := 256) hx hb dX7_move_288 (by decide) ?_
                        refine lv_iload hx hb dX7_move_291 (lv_at hl 1 rfl) ?_
                        refine lv_imul hx hb dX7_move_293 ?_
                        refine lv_iload hx hb dX7_move_294 (lv_at hl 2 rfl) ?_
                        refine lv_iadd hx hb dX7_move_296 ?_
                        refine lv_iconst (v := 0) hx hb dX7_move_297 (by decide) ?_
                        obtain ⟨M_71, g_71, hf⟩ := b_some hf
                        refine xx_sI hZ hE g_71 dX7_move_298 (fun H locs hE => ?_)
                        refine lv_iinc (v := (w_65_7 + 1)) (lv' := [(7, .int (w_65_7 + 1)), (0, .ref (ad o)), (6, .int x_47)]) hx hb dX7_move_299 hl (k := 2) rfl rfl (by decide) rfl (fun ls hl => ?_)
                        refine lv_goto (tgt := 276) hx hb dX7_move_302 (by decide) ?_
                        exact ih_276 _ _ _ _ _ hf hE (lv_sub hl [1, 2, 0] rfl)
                  exact L_65 _ _ _ _ _ _ hf hE (lv_sub hl [3, 1, 0] rfl)
                · have hf := it_y h_46 hf
                  refine lv_bipush (v := -3) hx hb dX7_move_205 (by decide) ?_
                  exact hret _ _ _ _ _ _ (pr_1 hf) (pr_2 hf) rfl dX7_move_207 hE
              · have hf := it_n h_44 hf
                refine lv_bipush (v := -5) hx hb dX7_move_193 (by decide) ?_
                exact hret _ _ _ _ _ _ (pr_1 hf) (pr_2 hf) rfl dX7_move_195 hE
            refine lv_icmp_ge (tgt := 153) hx hb dX7_move_146 (by decide) (fun h_33 => ?_) (fun h_33 => ?_)
            · have hf := it_y h_33 hf
              refine lv_iconst (v := 1) hx hb dX7_move_153 (by decide) ?_
              refine lv_aload_n hx hb dX7_move_154 rfl (lv_at hl 0 rfl) ?_
              obtain ⟨x_34, g_34, hf⟩ := b_some hf
              refine xx_gR hZ hE k_X7 8 (by decide) rfl tw_392 g_34 dX7_move_155 ?_
              refine lv_iload_n hx hb dX7_move_158 rfl (lv_at hl 2 rfl) ?_
              obtain ⟨x_35, g_35, hf⟩ := b_some hf
              refine xx_aI hZ hE g_35 dX7_move_159 ?_
              refine lv_aload_n hx hb dX7_move_160 rfl (lv_at hl 0 rfl) ?_
              obtain ⟨x_36, g_36, hf⟩ := b_some hf
              refine xx_gR hZ hE k_X7 8 (by decide) rfl tw_392 g_36 dX7_move_161 ?_
              refine lv_iload_n hx hb dX7_move_164 rfl (lv_at hl 3 rfl) ?_
              obtain ⟨x_37, g_37, hf⟩ := b_some hf
              refine xx_aI hZ hE g_37 dX7_move_165 ?_
              obtain ⟨j_38, ej_38, hf⟩ := jn_e hf
              have q_38 : ∀ (x_38_0 : Int32) (H : Heap) (locs : List Loc) (ls : Array Slot), j_38 x_38_0 = some zr → En D cA ad s A M H locs → lv_has ls 8 [(0, .ref (ad o)), (1, .int a1), (2, .int a2), (3, .int a3)] → W p l e rm_X7_move s m args below meth c H locs 0 0 Q (F0 m 184 ls [.int x_38_0, .int (1 : Int32)]) := by
                intro x_38_0 H locs ls hf hE hl
                rw [ej_38] at hf
                refine lv_iadd hx hb dX7_move_184 ?_
                exact q_32 _ _ _ _ hf hE (lv_sub hl [0, 1, 2, 3] rfl)
              refine lv_icmp_le (tgt := 178) hx hb dX7_move_166 (by decide) (fun h_39 => ?_) (fun h_39 => ?_)
              · have hf := it_y h_39 hf
                refine lv_aload_n hx hb dX7_move_178 rfl (lv_at hl 0 rfl) ?_
                obtain ⟨x_40, g_40, hf⟩ := b_some hf
                refine xx_gR hZ hE k_X7 8 (by decide) rfl tw_392 g_40 dX7_move_179 ?_
                refine lv_iload_n hx hb dX7_move_182 rfl (lv_at hl 3 rfl) ?_
                obtain ⟨x_41, g_41, hf⟩ := b_some hf
                refine xx_aI hZ hE g_41 dX7_move_183 ?_
                exact q_38 _ _ _ _ hf hE (lv_sub hl [0, 1, 2, 3] rfl)
              · have hf := it_n h_39 hf
                refine lv_aload_n hx hb dX7_move_169 rfl (lv_at hl 0 rfl) ?_
                obtain ⟨x_42, g_42, hf⟩ := b_some hf
                refine xx_gR hZ hE k_X7 8 (by decide) rfl tw_392 g_42 dX7_move_170 ?_
                refine lv_iload_n hx hb dX7_move_173 rfl (lv_at hl 2 rfl) ?_
                obtain ⟨x_43, g_43, hf⟩ := b_some hf
                refine xx_aI hZ hE g_43 dX7_move_174 ?_
                refine lv_goto (tgt := 184) hx hb dX7_move_175 (by decide) ?_
                exact q_38 _ _ _ _ hf hE (lv_sub hl [0, 1, 2, 3] rfl)
            · have hf := it_n h_33 hf
              refine lv_iconst (v := 0) hx hb dX7_move_149 (by decide) ?_
              refine lv_goto (tgt := 185) hx hb dX7_move_150 (by decide) ?_
              exact q_32 _ _ _ _ hf hE (lv_sub hl [0, 1, 2, 3] rfl)
          · have hf := it_y h_31 hf
            refine lv_iconst (v := -1) hx hb dX7_move_142 (by decide) ?_
            exact hret _ _ _ _ _ _ (pr_1 hf) (pr_2 hf) rfl dX7_move_143 hE
        refine lv_if_eq (tgt := 48) hx hb dX7_move_35 (by decide) (fun h_7 => ?_) (fun h_7 => ?_)
        · have hf := it_y h_7 hf
          refine lv_aload_n hx hb dX7_move_48 rfl (lv_at hl 1 rfl) ?_
          refine lv_iload_n hx hb dX7_move_49 rfl (lv_at hl 3 rfl) ?_
          obtain ⟨_, i_8, hf⟩ := b_some hf
          obtain ⟨z_8, c_8, hf⟩ := b_some hf
          refine xx_cVi hZ hE (As := [.int a2]) (rest := []) k_X7 (is_m i_8) tw_387 tw_388 (c_X7_isPlace l D cA ad o a2 M _ c_8) cw_X7_isPlace tw_386 ⟨rfl, rfl⟩ ⟨Nat.le_of_ble_eq_true rfl, Nat.le_of_ble_eq_true rfl⟩ rfl hl.1 rfl (Nat.le_of_ble_eq_true rfl) ⟨Nat.le_of_ble_eq_true rfl, Nat.le_of_ble_eq_true rfl⟩ dX7_move_50 (fun H locs hE => ?_)
          refine lv_istore (lv' := [(4, .int z_8), (0, .ref (ad o)), (1, .int a1), (2, .int a2), (3, .int a3)]) hx hb dX7_move_53 hl (by decide) rfl (fun ls hl => ?_)
          refine lv_goto (tgt := 137) hx hb dX7_move_55 (by decide) ?_
          exact q_6 _ _ _ _ hf hE (lv_sub hl [1, 2, 3, 4, 0] rfl)
        · have hf := it_n h_7 hf
          refine lv_iload_n hx hb dX7_move_38 rfl (lv_at hl 2 rfl) ?_
          refine lv_iconst (v := 1) hx hb dX7_move_39 (by decide) ?_
          refine lv_icmp_eq (tgt := 48) hx hb dX7_move_40 (by decide) (fun h_9 => ?_) (fun h_9 => ?_)
          · have hf := it_y h_9 hf
            refine lv_aload_n hx hb dX7_move_48 rfl (lv_at hl 1 rfl) ?_
            refine lv_iload_n hx hb dX7_move_49 rfl (lv_at hl 3 rfl) ?_
            obtain ⟨_, i_10, hf⟩ := b_some hf
            obtain ⟨z_10, c_10, hf⟩ := b_some hf
            refine xx_cVi hZ hE (As := [.int a2]) (rest := []) k_X7 (is_m i_10) tw_387 tw_388 (c_X7_isPlace l D cA ad o a2 M _ c_10) cw_X7_isPlace tw_386 ⟨rfl, rfl⟩ ⟨Nat.le_of_ble_eq_true rfl, Nat.le_of_ble_eq_true rfl⟩ rfl hl.1 rfl (Nat.le_of_ble_eq_true rfl) ⟨Nat.le_of_ble_eq_true rfl, Nat.le_of_ble_eq_true rfl⟩ dX7_move_50 (fun H locs hE => ?_)
            refine lv_istore (lv' := [(4, .int z_10), (0, .ref (ad o)), (1, .int a1), (2, .int a2), (3, .int a3)]) hx hb dX7_move_53 hl (by decide) rfl (fun ls hl => ?_)
            refine lv_goto (tgt := 137) hx hb dX7_move_55 (by decide) ?_
            exact q_6 _ _ _ _ hf hE (lv_sub hl [1, 2, 3, 4, 0] rfl)
          · have hf := it_n h_9 hf
            refine lv_iload_n hx hb dX7_move_43 rfl (lv_at hl 2 rfl) ?_
            refine lv_iconst (v := 4) hx hb dX7_move_44 (by decide) ?_
            refine lv_icmp_ne (tgt := 58) hx hb dX7_move_45 (by decide) (fun h_11 => ?_) (fun h_11 => ?_)
            · have hf := it_n h_11 hf
              refine lv_iload_n hx hb dX7_move_58 rfl (lv_at hl 2 rfl) ?_
              refine lv_iconst (v := 2) hx hb dX7_move_59 (by decide) ?_
              refine lv_icmp_ne (tgt := 109) hx hb dX7_move_60 (by decide) (fun h_12 => ?_) (fun h_12 => ?_)
              · have hf := it_n h_12 hf
                refine lv_iload_n hx hb dX7_move_109 rfl (lv_at hl 2 rfl) ?_
                refine lv_iconst (v := 5) hx hb dX7_move_110 (by decide) ?_
                refine lv_icmp_lt (tgt := 137) hx hb dX7_move_111 (by decide) (fun h_13 => ?_) (fun h_13 => ?_)
                · have hf := it_y h_13 hf
                  exact q_6 _ _ _ _ hf hE (lv_sub hl [1, 2, 3, 4, 0] rfl)
                · have hf := it_n h_13 hf
                  refine lv_aload_n hx hb dX7_move_114 rfl (lv_at hl 1 rfl) ?_
                  refine lv_iload_n hx hb dX7_move_115 rfl (lv_at hl 3 rfl) ?_
                  obtain ⟨_, i_14, hf⟩ := b_some hf
                  obtain ⟨z_14, c_14, hf⟩ := b_some hf
                  refine xx_cVi hZ hE (As := [.int a2]) (rest := []) k_X7 (is_m i_14) tw_390 tw_391 (c_X7_isMove l D cA ad o a2 M _ c_14) cw_X7_isMove tw_389 ⟨rfl, rfl⟩ ⟨Nat.le_of_ble_eq_true rfl, Nat.le_of_ble_eq_true rfl⟩ rfl hl.1 rfl (Nat.le_of_ble_eq_true rfl) ⟨Nat.le_of_ble_eq_true rfl, Nat.le_of_ble_eq_true rfl⟩ dX7_move_116 (fun H locs hE => ?_)
                  obtain ⟨j_15, ej_15, hf⟩ := jn_e hf
                  have q_15 : ∀ (x_15_0 : Int32) (H : Heap) (locs : List Loc) (ls : Array Slot), j_15 x_15_0 = some zr → En D cA ad s A M H locs → lv_has ls 8 [(0, .ref (ad o)), (1, .int a1), (2, .int a2), (3, .int a3)] → W p l e rm_X7_move s m args below meth c H locs 0 0 Q (F0 m 135 ls [.int x_15_0]) := by
                    intro x_15_0 H locs ls hf hE hl
                    rw [ej_15] at hf
                    refine lv_istore (lv' := [(4, .int x_15_0), (0, .ref (ad o)), (1, .int a1), (2, .int a2), (3, .int a3)]) hx hb dX7_move_135 hl (by decide) rfl (fun ls hl => ?_)
                    exact q_6 _ _ _ _ hf hE (lv_sub hl [1, 2, 3, 4, 0] rfl)
                  refine lv_if_eq (tgt := 134) hx hb dX7_move_119 (by decide) (fun h_16 => ?_) (fun h_16 => ?_)
                  · have hf := it_y h_16 hf
                    refine lv_iconst (v := 0) hx hb dX7_move_134 (by decide) ?_
                    exact q_15 _ _ _ _ hf hE (lv_sub hl [1, 2, 3, 4] rfl)
                  · have hf := it_n h_16 hf
                    refine lv_aload_n hx hb dX7_move_122 rfl (lv_at hl 1 rfl) ?_
                    refine lv_iload_n hx hb dX7_move_123 rfl (lv_at hl 4 rfl) ?_
                    obtain ⟨_, i_17, hf⟩ := b_some hf
                    obtain ⟨z_17, c_17, hf⟩ := b_some hf
                    refine xx_cVi hZ hE (As := [.int a3]) (rest := []) k_X7 (is_m i_17) tw_390 tw_391 (c_X7_isMove l D cA ad o a3 M _ c_17) cw_X7_isMove tw_389 ⟨rfl, rfl⟩ ⟨Nat.le_of_ble_eq_true rfl, Nat.le_of_ble_eq_true rfl⟩ rfl hl.1 rfl (Nat.le_of_ble_eq_true rfl) ⟨Nat.le_of_ble_eq_true rfl, Nat.le_of_ble_eq_true rfl⟩ dX7_move_124 (fun H locs hE => ?_)
                    refine lv_if_eq (tgt := 134) hx hb dX7_move_127 (by decide) (fun h_18 => ?_) (fun h_18 => ?_)
                    · have hf := it_y h_18 hf
                      refine lv_iconst (v := 0) hx hb dX7_move_134 (by decide) ?_
                      exact q_15 _ _ _ _ hf hE (lv_sub hl [1, 2, 3, 4] rfl)
                    · have hf := it_n h_18 hf
                      refine lv_iconst (v := 1) hx hb dX7_move_130 (by decide) ?_
                      refine lv_goto (tgt := 135) hx hb dX7_move_131 (by decide) ?_
                      exact q_15 _ _ _ _ hf hE (lv_sub hl [1, 2, 3, 4] rfl)
              · have hf := it_y h_12 hf
                refine lv_aload_n hx hb dX7_move_63 rfl (lv_at hl 1 rfl) ?_
                refine lv_iload_n hx hb dX7_move_64 rfl (lv_at hl 3 rfl) ?_
                obtain ⟨_, i_19, hf⟩ := b_some hf
                obtain ⟨z_19, c_19, hf⟩ := b_some hf
                refine xx_cVi hZ hE (As := [.int a2]) (rest := []) k_X7 (is_m i_19) tw_387 tw_388 (c_X7_isPlace l D cA ad o a2 M _ c_19) cw_X7_isPlace tw_386 ⟨rfl, rfl⟩ ⟨Nat.le_of_ble_eq_true rfl, Nat.le_of_ble_eq_true rfl⟩ rfl hl.1 rfl (Nat.le_of_ble_eq_true rfl) ⟨Nat.le_of_ble_eq_true rfl, Nat.le_of_ble_eq_true rfl⟩ dX7_move_65 (fun H locs hE => ?_)
                obtain ⟨j_20, ej_20, hf⟩ := jn_e hf
                have q_20 : ∀ (x_20_0 : Int32) (H : Heap) (locs : List Loc) (ls : Array Slot), j_20 x_20_0 = some zr → En D cA ad s A M H locs → lv_has ls 8 [(0, .ref (ad o)), (1, .int a1), (2, .int a2), (3, .int a3)] → W p l e rm_X7_move s m args below meth c H locs 0 0 Q (F0 m 104 ls [.int x_20_0]) := by
                  intro x_20_0 H locs ls hf hE hl
                  rw [ej_20] at hf
                  refine lv_istore (lv' := [(4, .int x_20_0), (0, .ref (ad o)), (1, .int a1), (2, .int a2), (3, .int a3)]) hx hb dX7_move_104 hl (by decide) rfl (fun ls hl => ?_)
                  refine lv_goto (tgt := 137) hx hb dX7_move_106 (by decide) ?_
                  exact q_6 _ _ _ _ hf hE (lv_sub hl [1, 2, 3, 4, 0] rfl)
                refine lv_if_eq (tgt := 103) hx hb dX7_move_68 (by decide) (fun h_21 => ?_) (fun h_21 => ?_)
                · have hf := it_y h_21 hf
                  refine lv_iconst (v := 0) hx hb dX7_move_103 (by decide) ?_
                  exact q_20 _ _ _ _ hf hE (lv_sub hl [1, 2, 3, 4] rfl)
                · have hf := it_n h_21 hf
                  refine lv_aload_n hx hb dX7_move_71 rfl (lv_at hl 1 rfl) ?_
                  refine lv_iload_n hx hb dX7_move_72 rfl (lv_at hl 4 rfl) ?_
                  obtain ⟨_, i_22, hf⟩ := b_some hf
                  obtain ⟨z_22, c_22, hf⟩ := b_some hf
                  refine xx_cVi hZ hE (As := [.int a3]) (rest := []) k_X7 (is_m i_22) tw_387 tw_388 (c_X7_isPlace l D cA ad o a3 M _ c_22) cw_X7_isPlace tw_386 ⟨rfl, rfl⟩ ⟨Nat.le_of_ble_eq_true rfl, Nat.le_of_ble_eq_true rfl⟩ rfl hl.1 rfl (Nat.le_of_ble_eq_true rfl) ⟨Nat.le_of_ble_eq_true rfl, Nat.le_of_ble_eq_true rfl⟩ dX7_move_73 (fun H locs hE => ?_)
                  refine lv_if_eq (tgt := 103) hx hb dX7_move_76 (by decide) (fun h_23 => ?_) (fun h_23 => ?_)
                  · have hf := it_y h_23 hf
                    refine lv_iconst (v := 0) hx hb dX7_move_103 (by decide) ?_
                    exact q_20 _ _ _ _ hf hE (lv_sub hl [1, 2, 3, 4] rfl)
                  · have hf := it_n h_23 hf
                    refine lv_iload_n hx hb dX7_move_79 rfl (lv_at hl 3 rfl) ?_
                    refine lv_iload_n hx hb dX7_move_80 rfl (lv_at hl 4 rfl) ?_
                    refine lv_icmp_eq (tgt := 103) hx hb dX7_move_81 (by decide) (fun h_24 => ?_) (fun h_24 => ?_)
                    · have hf := it_y h_24 hf
                      refine lv_iconst (v := 0) hx hb dX7_move_103 (by decide) ?_
                      exact q_20 _ _ _ _ hf hE (lv_sub hl [1, 2, 3, 4] rfl)
                    · have hf := it_n h_24 hf
                      refine lv_aload_n hx hb dX7_move_84 rfl (lv_at hl 1 rfl) ?_
                      obtain ⟨x_25, g_25, hf⟩ := b_some hf
                      refine xx_gR hZ hE k_X7 1 (by decide) rfl tw_370 g_25 dX7_move_85 ?_
                      refine lv_iload_n hx hb dX7_move_88 rfl (lv_at hl 3 rfl) ?_
                      obtain ⟨x_26, g_26, hf⟩ := b_some hf
                      refine xx_aI hZ hE g_26 dX7_move_89 ?_
                      refine lv_aload_n hx hb dX7_move_90 rfl (lv_at hl 1 rfl) ?_
                      obtain ⟨x_27, g_27, hf⟩ := b_some hf
                      refine xx_gR hZ hE k_X7 1 (by decide) rfl tw_370 g_27 dX7_move_91 ?_
                      refine lv_iload_n hx hb dX7_move_94 rfl (lv_at hl 4 rfl) ?_
                      obtain ⟨x_28, g_28, hf⟩ := b_some hf
                      refine xx_aI hZ hE g_28 dX7_move_95 ?_
                      refine lv_icmp_ne (tgt := 103) hx hb dX7_move_96 (by decide) (fun h_29 => ?_) (fun h_29 => ?_)
                      · have hf := it_n h_29 hf
                        refine lv_iconst (v := 0) hx hb dX7_move_103 (by decide) ?_
                        exact q_20 _ _ _ _ hf hE (lv_sub hl [1, 2, 3, 4] rfl)
                      · have hf := it_y h_29 hf
                        refine lv_iconst (v := 1) hx hb dX7_move_99 (by decide) ?_
                        refine lv_goto (tgt := 104) hx hb dX7_move_100 (by decide) ?_
                        exact q_20 _ _ _ _ hf hE (lv_sub hl [1, 2, 3, 4] rfl)
            · have hf := it_y h_11 hf
              refine lv_aload_n hx hb dX7_move_48 rfl (lv_at hl 1 rfl) ?_
              refine lv_iload_n hx hb dX7_move_49 rfl (lv_at hl 3 rfl) ?_
              obtain ⟨_, i_30, hf⟩ := b_some hf
              obtain ⟨z_30, c_30, hf⟩ := b_some hf
              refine xx_cVi hZ hE (As := [.int a2]) (rest := []) k_X7 (is_m i_30) tw_387 tw_388 (c_X7_isPlace l D cA ad o a2 M _ c_30) cw_X7_isPlace tw_386 ⟨rfl, rfl⟩ ⟨Nat.le_of_ble_eq_true rfl, Nat.le_of_ble_eq_true rfl⟩ rfl hl.1 rfl (Nat.le_of_ble_eq_true rfl) ⟨Nat.le_of_ble_eq_true rfl, Nat.le_of_ble_eq_true rfl⟩ dX7_move_50 (fun H locs hE => ?_)
              refine lv_istore (lv' := [(4, .int z_30), (0, .ref (ad o)), (1, .int a1), (2, .int a2), (3, .int a3)]) hx hb dX7_move_53 hl (by decide) rfl (fun ls hl => ?_)
              refine lv_goto (tgt := 137) hx hb dX7_move_55 (by decide) ?_
              exact q_6 _ _ _ _ hf hE (lv_sub hl [1, 2, 3, 4, 0] rfl)
      refine lv_icmp_ne (tgt := 31) hx hb dX7_move_24 (by decide) (fun h_72 => ?_) (fun h_72 => ?_)
      · refine lv_iconst (v := 0) hx hb dX7_move_31 (by decide) ?_
        exact q_5 _ (by rw [if_neg h_72])
      · refine lv_iconst (v := 1) hx hb dX7_move_27 (by decide) ?_
        refine lv_goto (tgt := 32) hx hb dX7_move_28 (by decide) ?_
        exact q_5 _ (by rw [if_pos h_72])
    · have hf := it_y h_4 hf
      refine lv_iconst (v := -1) hx hb dX7_move_20 (by decide) ?_
      exact hret _ _ _ _ _ _ (pr_1 hf) (pr_2 hf) rfl dX7_move_21 hE
  · have hf := it_y h_2 hf
    refine lv_bipush (v := -2) hx hb dX7_move_7 (by decide) ?_
    exact hret _ _ _ _ _ _ (pr_1 hf) (pr_2 hf) rfl dX7_move_9 hE
