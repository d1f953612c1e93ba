def lp_X7_sliceChance_28 (k_83 : Int32 → Option (Mm)) (i_0 : Nat) (i_1 : Int32) (i_2 : Int32) (i_3 : Int32) (i_4 : Int64) (i_6 : Int32) (i_7 : Int32) (M : Mm) : Nat → Int32 → Int32 → Option (Mm)
  | 0, _, _ => none
  | n_28 + 1, v_8, v_9 =>
    (op_gR M 7 i_0 1).bind fun x_4 =>
    (op_aI M x_4 i_3).bind fun x_5 =>
    if x_5 ≤ v_9 then
    k_83 v_8
    else
    (op_gR M 7 i_0 3).bind fun x_7 =>
    (op_is M i_0 7).bind fun _ =>
    (f_X7_with i_0 i_1 i_3 v_9 M).bind fun z_8 =>
    (op_aI M x_7 z_8).bind fun x_9 =>
    lp_X7_sliceChance_28 k_83 i_0 i_1 i_2 i_3 i_4 i_6 i_7 M n_28 (if x_9 < i_7 then v_8 else (if v_8 ≤ x_9 then v_8 else x_9)) (v_9 + 1)
theorem lp_X7_sliceChance_28_s (k_83 : Int32 → Option (Mm)) (i_0 : Nat) (i_1 : Int32) (i_2 : Int32) (i_3 : Int32) (i_4 : Int64) (i_6 : Int32) (i_7 : Int32) (M : Mm) {n_28 : Nat} {v_8 : Int32} {v_9 : Int32} {zr : Mm} (hf : lp_X7_sliceChance_28 k_83 i_0 i_1 i_2 i_3 i_4 i_6 i_7 M (n_28 + 1) v_8 v_9 = some zr) : (
    (op_gR M 7 i_0 1).bind fun x_4 =>
    (op_aI M x_4 i_3).bind fun x_5 =>
    if x_5 ≤ v_9 then
    k_83 v_8
    else
    (op_gR M 7 i_0 3).bind fun x_7 =>
    (op_is M i_0 7).bind fun _ =>
    (f_X7_with i_0 i_1 i_3 v_9 M).bind fun z_8 =>
    (op_aI M x_7 z_8).bind fun x_9 =>
    lp_X7_sliceChance_28 k_83 i_0 i_1 i_2 i_3 i_4 i_6 i_7 M n_28 (if x_9 < i_7 then v_8 else (if v_8 ≤ x_9 then v_8 else x_9)) (v_9 + 1)) = some zr := hf
theorem lp_X7_sliceChance_28_k {k_83 : Int32 → Option (Mm)} {i_0 : Nat} {i_1 : Int32} {i_2 : Int32} {i_3 : Int32} {i_4 : Int64} {i_6 : Int32} {i_7 : Int32} {M : Mm} {n : Nat} {v_8 : Int32} {v_9 : Int32} {zr : Mm} (hf : lp_X7_sliceChance_28 k_83 i_0 i_1 i_2 i_3 i_4 i_6 i_7 M n v_8 v_9 = some zr) : ∃ (m_83 : Int32 → Option (Mm)), m_83 = k_83 ∧ lp_X7_sliceChance_28 m_83 i_0 i_1 i_2 i_3 i_4 i_6 i_7 M n v_8 v_9 = some zr := ⟨k_83, rfl, hf⟩
def lp_X7_sliceChance_14 (k_133 : Int64 → Option (Mm)) (i_0 : Nat) (i_1 : Int32) (i_2 : Int32) (i_3 : Int32) (i_6 : Int32) (M : Mm) : Nat → Int64 → Int32 → Option (Mm)
  | 0, _, _ => none
  | n_14 + 1, v_4, v_7 =>
    if i_6 < v_7 then
    k_133 v_4
    else
    lp_X7_sliceChance_28 (fun (l_14_8 : Int32) =>
    (op_gR M 7 i_0 3).bind fun x_15 =>
    (op_aI M x_15 i_2).bind fun x_16 =>
    op_jn (fun (x_17_0 : Int64) =>
    lp_X7_sliceChance_14 k_133 i_0 i_1 i_2 i_3 i_6 M n_14 (v_4 + x_17_0) (l_14_8 + (1 : Int32)))
    fun j_17 =>
    if x_16 < v_7 then
    j_17 (0 : Int64)
    else
    (op_is M i_0 7).bind fun _ =>
    (f_X7_manyFrom i_0 i_1 i_3 v_7 M).bind fun z_19 =>
    if z_19 = 0 then none else
    j_17 ((((l_14_8 - v_7) + (1 : Int32)).toInt64) * (((60 : Int32) / z_19).toInt64))) i_0 i_1 i_2 i_3 v_4 i_6 v_7 M FU i_6 (0 : Int32)
theorem lp_X7_sliceChance_14_s (k_133 : Int64 → Option (Mm)) (i_0 : Nat) (i_1 : Int32) (i_2 : Int32) (i_3 : Int32) (i_6 : Int32) (M : Mm) {n_14 : Nat} {v_4 : Int64} {v_7 : Int32} {zr : Mm} (hf : lp_X7_sliceChance_14 k_133 i_0 i_1 i_2 i_3 i_6 M (n_14 + 1) v_4 v_7 = some zr) : (
    if i_6 < v_7 then
    k_133 v_4
    else
    lp_X7_sliceChance_28 (fun (l_14_8 : Int32) =>
    (op_gR M 7 i_0 3).bind fun x_15 =>
    (op_aI M x_15 i_2).bind fun x_16 =>
    op_jn (fun (x_17_0 : Int64) =>
    lp_X7_sliceChance_14 k_133 i_0 i_1 i_2 i_3 i_6 M n_14 (v_4 + x_17_0) (l_14_8 + (1 : Int32)))
    fun j_17 =>
    if x_16 < v_7 then
    j_17 (0 : Int64)
    else
    (op_is M i_0 7).bind fun _ =>
    (f_X7_manyFrom i_0 i_1 i_3 v_7 M).bind fun z_19 =>
    if z_19 = 0 then none else
    j_17 ((((l_14_8 - v_7) + (1 : Int32)).toInt64) * (((60 : Int32) / z_19).toInt64))) i_0 i_1 i_2 i_3 v_4 i_6 v_7 M FU i_6 (0 : Int32)) = some zr := hf
theorem lp_X7_sliceChance_14_k {k_133 : Int64 → Option (Mm)} {i_0 : Nat} {i_1 : Int32} {i_2 : Int32} {i_3 : Int32} {i_6 : Int32} {M : Mm} {n : Nat} {v_4 : Int64} {v_7 : Int32} {zr : Mm} (hf : lp_X7_sliceChance_14 k_133 i_0 i_1 i_2 i_3 i_6 M n v_4 v_7 = some zr) : ∃ (m_133 : Int64 → Option (Mm)), m_133 = k_133 ∧ lp_X7_sliceChance_14 m_133 i_0 i_1 i_2 i_3 i_6 M n v_4 v_7 = some zr := ⟨k_133, rfl, hf⟩
def rm_X7_sliceChance : Room := { frames := 4, cells := 0, slots := 0, locals := 93 }
def f_X7_sliceChance (o : Nat) (a1 : Int32) (a2 : Int32) (a3 : Int32) (M : Mm) : Option (Mm) :=
    (op_gR M 7 o 3).bind fun x_1 =>
    (op_aI M x_1 a1).bind fun x_2 =>
    lp_X7_sliceChance_14 (fun (l_31_4 : Int64) =>
    (op_is M o 7).bind fun _ =>
    (f_X7_lay o l_31_4 ((60 : Int64) * x_2.toInt64) M).bind fun z_32 =>
    some z_32) o a1 a2 a3 x_2 M FU (0 : Int64) (1 : Int32)
set_option maxHeartbeats 4000000 in
set_option maxRecDepth 100000 in
theorem c_X7_sliceChance (l : Launch) (D : va_G) (cA : Nat → ClassId) (ad : Nat → Nat) (o : Nat) (a1 : Int32) (a2 : Int32) (a3 : Int32) (M : Mm) (zr : Mm) (hf : f_X7_sliceChance o a1 a2 a3 M = some zr) : KV l yX7_sliceChance cX7_sliceChance 11 none rm_X7_sliceChance D cA ad [.ref (ad o), .int a1, .int a2, .int a3] M zr := by
  refine KV_of (by decide) (Nat.le_of_ble_eq_true rfl) ?_
  intro p e s m args below meth c ls Q A H locs hZ hE hl hret
  have hx := hZ.1
  have hb := hZ.2.1
  have hown := hZ.2.2.2.1
  have hts := hZ.2.2.2.2.1
  have hl : lv_has ls 11 [(0, .ref (ad o)), (1, .int a1), (2, .int a2), (3, .int a3)] := hl
  unfold f_X7_sliceChance at hf
  refine lv_lconst (v := 0) hx hb dX7_sliceChance_0 (by decide) ?_
  refine lv_lstore (lv' := [(4, .long (0 : Int64)), (0, .ref (ad o)), (1, .int a1), (2, .int a2), (3, .int a3)]) hx hb dX7_sliceChance_1 hl (by decide) rfl (fun ls hl => ?_)
  refine lv_aload_n hx hb dX7_sliceChance_3 rfl (lv_at hl 1 rfl) ?_
  obtain ⟨x_1, g_1, hf⟩ := b_some hf
  refine xx_gR hZ hE k_X7 3 (by decide) rfl tw_371 g_1 dX7_sliceChance_4 ?_
  refine lv_iload_n hx hb dX7_sliceChance_7 rfl (lv_at hl 2 rfl) ?_
  obtain ⟨x_2, g_2, hf⟩ := b_some hf
  refine xx_aI hZ hE g_2 dX7_sliceChance_8 ?_
  refine lv_istore (lv' := [(6, .int x_2), (4, .long (0 : Int64)), (0, .ref (ad o)), (1, .int a1), (2, .int a2), (3, .int a3)]) hx hb dX7_sliceChance_9 hl (by decide) rfl (fun ls hl => ?_)
  refine lv_iconst (v := 1) hx hb dX7_sliceChance_11 (by decide) ?_
  refine lv_istore (lv' := [(7, .int (1 : Int32)), (6, .int x_2), (4, .long (0 : Int64)), (0, .ref (ad o)), (1, .int a1), (2, .int a2), (3, .int a3)]) hx hb dX7_sliceChance_12 hl (by decide) rfl (fun ls hl => ?_)
  obtain ⟨k_133_31, ek_133_31, hf⟩ := lp_X7_sliceChance_14_k hf
  have o_133_31 : ∀ (l_31_4 : Int64) (H : Heap) (locs : List Loc) (ls : Array Slot), k_133_31 l_31_4 = some zr → En D cA ad s A M H locs → lv_has ls 11 [(0, .ref (ad o)), (4, .long l_31_4), (6, .int x_2)] → W p l e rm_X7_sliceChance s m args below meth c H locs 0 0 Q (F0 m 133 ls []) := by
    intro l_31_4 H locs ls hf hE hl
    rw [ek_133_31] at hf
    refine lv_aload_n hx hb dX7_sliceChance_133 rfl (lv_at hl 0 rfl) ?_
    refine lv_lload hx hb dX7_sliceChance_134 (lv_at hl 1 rfl) ?_
    refine lv_ldc2 (v := 60) hx hb hown (hts _ tw_433) dX7_sliceChance_136 ?_
    refine lv_iload hx hb dX7_sliceChance_139 (lv_at hl 2 rfl) ?_
    refine lv_i2l hx hb dX7_sliceChance_141 rfl ?_
    refine lv_lmul hx hb dX7_sliceChance_142 ?_
    obtain ⟨_, i_32, hf⟩ := b_some hf
    obtain ⟨z_32, c_32, hf⟩ := b_some hf
    refine xx_cVv hZ hE (As := [.long l_31_4, .long ((60 : Int64) * x_2.toInt64)]) (rest := []) k_X7 (is_m i_32) tw_407 tw_408 (c_X7_lay l D cA ad o l_31_4 ((60 : Int64) * x_2.toInt64) M _ c_32) cw_X7_lay tw_406 ⟨rfl, rfl⟩ ⟨Nat.le_of_ble_eq_true rfl, Nat.le_of_ble_eq_true rfl⟩ rfl hl.1 rfl (Nat.le_of_ble_eq_true rfl) ⟨Nat.le_of_ble_eq_true rfl, Nat.le_of_ble_eq_true rfl⟩ dX7_sliceChance_143 (fun H locs hE => ?_)
    exact hret _ _ _ _ _ (Option.some.inj hf) dX7_sliceChance_146 hE
  have L_30 : ∀ (n_14 : Nat) (w_30_4 : Int64) (w_30_7 : Int32) (H : Heap) (locs : List Loc) (ls : Array Slot), lp_X7_sliceChance_14 k_133_31 o a1 a2 a3 x_2 M n_14 w_30_4 w_30_7 = some zr → En D cA ad s A M H locs → lv_has ls 11 [(0, .ref (ad o)), (1, .int a1), (2, .int a2), (3, .int a3), (4, .long w_30_4), (6, .int x_2), (7, .int w_30_7)] → W p l e rm_X7_sliceChance s m args below meth c H locs 0 0 Q (F0 m 14 ls []) := by
    intro n_14
    induction n_14 with
    | zero =>
      intro w_30_4 w_30_7 H locs ls hf
      cases (show (none : Option (Mm)) = some zr from hf)
    | succ n_14 ih_14 =>
      intro w_30_4 w_30_7 H locs ls hf hE hl
      have hf := lp_X7_sliceChance_14_s _ _ _ _ _ _ _ hf
      refine lv_iload hx hb dX7_sliceChance_14 (lv_at hl 6 rfl) ?_
      refine lv_iload hx hb dX7_sliceChance_16 (lv_at hl 5 rfl) ?_
      refine lv_icmp_gt (tgt := 133) hx hb dX7_sliceChance_18 (by decide) (fun h_33 => ?_) (fun h_33 => ?_)
      · have hf := it_y h_33 hf
        exact o_133_31 _ _ _ _ hf hE (lv_sub hl [0, 4, 5] rfl)
      · have hf := it_n h_33 hf
        refine lv_iload hx hb dX7_sliceChance_21 (lv_at hl 5 rfl) ?_
        refine lv_istore (lv' := [(8, .int x_2), (0, .ref (ad o)), (1, .int a1), (2, .int a2), (3, .int a3), (4, .long w_30_4), (6, .int x_2), (7, .int w_30_7)]) hx hb dX7_sliceChance_23 hl (by decide) rfl (fun ls hl => ?_)
        refine lv_iconst (v := 0) hx hb dX7_sliceChance_25 (by decide) ?_
        refine lv_istore (lv' := [(9, .int (0 : Int32)), (8, .int x_2), (0, .ref (ad o)), (1, .int a1), (2, .int a2), (3, .int a3), (4, .long w_30_4), (6, .int x_2), (7, .int w_30_7)]) hx hb dX7_sliceChance_26 hl (by decide) rfl (fun ls hl => ?_)
        obtain ⟨k_83_35, ek_83_35, hf⟩ := lp_X7_sliceChance_28_k hf
        have o_83_35 : ∀ (l_35_8 : Int32) (H : Heap) (locs : List Loc) (ls : Array Slot), k_83_35 l_35_8 = some zr → En D cA ad s A M H locs → lv_has ls 11 [(0, .ref (ad o)), (1, .int a1), (2, .int a2), (3, .int a3), (4, .long w_30_4), (6, .int x_2), (7, .int w_30_7), (8, .int l_35_8)] → W p l e rm_X7_sliceChance s m args below meth c H locs 0 0 Q (F0 m 83 ls []) := by
          intro l_35_8 H locs ls hf hE hl
          rw [ek_83_35] at hf
          refine lv_lload hx hb dX7_sliceChance_83 (lv_at hl 4 rfl) ?_
          refine lv_aload_n hx hb dX7_sliceChance_85 rfl (lv_at hl 0 rfl) ?_
          obtain ⟨x_36, g_36, hf⟩ := b_some hf
          refine xx_gR hZ hE k_X7 3 (by decide) rfl tw_371 g_36 dX7_sliceChance_86 ?_
          refine lv_iload_n hx hb dX7_sliceChance_89 rfl (lv_at hl 2 rfl) ?_
          obtain ⟨x_37, g_37, hf⟩ := b_some hf
          refine xx_aI hZ hE g_37 dX7_sliceChance_90 ?_
          refine lv_iload hx hb dX7_sliceChance_91 (lv_at hl 6 rfl) ?_
          obtain ⟨j_38, ej_38, hf⟩ := jn_e hf
          have q_38 : ∀ (x_38_0 : Int64) (H : Heap) (locs : List Loc) (ls : Array Slot), j_38 x_38_0 = some zr → En D cA ad s A M H locs → lv_has ls 11 [(0, .ref (ad o)), (1, .int a1), (2, .int a2), (3, .int a3), (6, .int x_2), (8, .int l_35_8)] → W p l e rm_X7_sliceChance s m args below meth c H locs 0 0 Q (F0 m 121 ls [.long x_38_0, .long w_30_4]) := by
            intro x_38_0 H locs ls hf hE hl
            rw [ej_38] at hf
            refine lv_ladd hx hb dX7_sliceChance_121 ?_
            refine lv_lstore (lv' := [(4, .long (w_30_4 + x_38_0)), (0, .ref (ad o)), (1, .int a1), (2, .int a2), (3, .int a3), (6, .int x_2), (8, .int l_35_8)]) hx hb dX7_sliceChance_122 hl (by decide) rfl (fun ls hl => ?_)
            refine lv_iload hx hb dX7_sliceChance_124 (lv_at hl 6 rfl) ?_
            refine lv_iconst (v := 1) hx hb dX7_sliceChance_126 (by decide) ?_
            refine lv_iadd hx hb dX7_sliceChance_127 ?_
            refine lv_istore (lv' := [(7, .int (l_35_8 + (1 : Int32))), (4, .long (w_30_4 + x_38_0)), (0, .ref (ad o)), (1, .int a1), (2, .int a2), (3, .int a3), (6, .int x_2), (8, .int l_35_8)]) hx hb dX7_sliceChance_128 hl (by decide) rfl (fun ls hl => ?_)
            refine lv_goto (tgt := 14) hx hb dX7_sliceChance_130 (by decide) ?_
            exact ih_14 _ _ _ _ _ hf hE (lv_sub hl [2, 3, 4, 5, 1, 6, 0] rfl)
          refine lv_icmp_lt (tgt := 120) hx hb dX7_sliceChance_93 (by decide) (fun h_39 => ?_) (fun h_39 => ?_)
          · have hf := it_y h_39 hf
            refine lv_lconst (v := 0) hx hb dX7_sliceChance_120 (by decide) ?_
            exact q_38 _ _ _ _ hf hE (lv_sub hl [0, 1, 2, 3, 5, 7] rfl)
          · have hf := it_n h_39 hf
            refine lv_iload hx hb dX7_sliceChance_96 (lv_at hl 7 rfl) ?_
            refine lv_iload hx hb dX7_sliceChance_98 (lv_at hl 6 rfl) ?_
            refine lv_isub hx hb dX7_sliceChance_100 ?_
            refine lv_iconst (v := 1) hx hb dX7_sliceChance_101 (by decide) ?_
            refine lv_iadd hx hb dX7_sliceChance_102 ?_
            refine lv_i2l hx hb dX7_sliceChance_103 rfl ?_
            refine lv_bipush (v := 60) hx hb dX7_sliceChance_104 (by decide) ?_
            refine lv_aload_n hx hb dX7_sliceChance_106 rfl (lv_at hl 0 rfl) ?_
            refine lv_iload_n hx hb dX7_sliceChance_107 rfl (lv_at hl 1 rfl) ?_
            refine lv_iload_n hx hb dX7_sliceChance_108 rfl (lv_at hl 3 rfl) ?_
            refine lv_iload hx hb dX7_sliceChance_109 (lv_at hl 6 rfl) ?_
            obtain ⟨_, i_40, hf⟩ := b_some hf
            obtain ⟨z_40, c_40, hf⟩ := b_some hf
            refine xx_cVi hZ hE (As := [.int a1, .int a3, .int w_30_7]) (rest := [.int (60 : Int32), .long (((l_35_8 - w_30_7) + (1 : Int32)).toInt64), .long w_30_4]) k_X7 (is_m i_40) tw_431 tw_432 (c_X7_manyFrom l D cA ad o a1 a3 w_30_7 M _ c_40) cw_X7_manyFrom tw_430 ⟨rfl, rfl⟩ ⟨Nat.le_of_ble_eq_true rfl, Nat.le_of_ble_eq_true rfl⟩ rfl hl.1 rfl (Nat.le_of_ble_eq_true rfl) ⟨Nat.le_of_ble_eq_true rfl, Nat.le_of_ble_eq_true rfl⟩ dX7_sliceChance_111 (fun H locs hE => ?_)
            obtain ⟨h_41, hf⟩ := e_some hf
            refine lv_idiv hx hb dX7_sliceChance_114 h_41 ?_
            refine lv_i2l hx hb dX7_sliceChance_115 rfl ?_
            refine lv_lmul hx hb dX7_sliceChance_116 ?_
            refine lv_goto (tgt := 121) hx hb dX7_sliceChance_117 (by decide) ?_
            exact q_38 _ _ _ _ hf hE (lv_sub hl [0, 1, 2, 3, 5, 7] rfl)
        have L_34 : ∀ (n_28 : Nat) (w_34_8 : Int32) (w_34_9 : Int32) (H : Heap) (locs : List Loc) (ls : Array Slot), lp_X7_sliceChance_28 k_83_35 o a1 a2 a3 w_30_4 x_2 w_30_7 M n_28 w_34_8 w_34_9 = some zr → En D cA ad s A M H locs → lv_has ls 11 [(0, .ref (ad o)), (1, .int a1), (2, .int a2), (3, .int a3), (4, .long w_30_4), (6, .int x_2), (7, .int w_30_7), (8, .int w_34_8), (9, .int w_34_9)] → W p l e rm_X7_sliceChance s m args below meth c H locs 0 0 Q (F0 m 28 ls []) := by
          intro n_28
          induction n_28 with
          | zero =>
            intro w_34_8 w_34_9 H locs ls hf
            cases (show (none : Option (Mm)) = some zr from hf)
          | succ n_28 ih_28 =>
            intro w_34_8 w_34_9 H locs ls hf hE hl
            have hf := lp_X7_sliceChance_28_s _ _ _ _ _ _ _ _ _ hf
            refine lv_iload hx hb dX7_sliceChance_28 (lv_at hl 8 rfl) ?_
            refine lv_aload_n hx hb dX7_sliceChance_30 rfl (lv_at hl 0 rfl) ?_
            obtain ⟨x_42, g_42, hf⟩ := b_some hf
            refine xx_gR hZ hE k_X7 1 (by decide) rfl tw_370 g_42 dX7_sliceChance_31 ?_
            refine lv_iload_n hx hb dX7_sliceChance_34 rfl (lv_at hl 3 rfl) ?_
            obtain ⟨x_43, g_43, hf⟩ := b_some hf
            refine xx_aI hZ hE g_43 dX7_sliceChance_35 ?_
            refine lv_icmp_ge (tgt := 83) hx hb dX7_sliceChance_36 (by decide) (fun h_44 => ?_) (fun h_44 => ?_)
            · have hf := it_y h_44 hf
              exact o_83_35 _ _ _ _ hf hE (lv_sub hl [0, 1, 2, 3, 4, 5, 6, 7] rfl)
            · have hf := it_n h_44 hf
              refine lv_aload_n hx hb dX7_sliceChance_39 rfl (lv_at hl 0 rfl) ?_
              obtain ⟨x_45, g_45, hf⟩ := b_some hf
              refine xx_gR hZ hE k_X7 3 (by decide) rfl tw_371 g_45 dX7_sliceChance_40 ?_
              refine lv_aload_n hx hb dX7_sliceChance_43 rfl (lv_at hl 0 rfl) ?_
              refine lv_iload_n hx hb dX7_sliceChance_44 rfl (lv_at hl 1 rfl) ?_
              refine lv_iload_n hx hb dX7_sliceChance_45 rfl (lv_at hl 3 rfl) ?_
              refine lv_iload hx hb dX7_sliceChance_46 (lv_at hl 8 rfl) ?_
              obtain ⟨_, i_46, hf⟩ := b_some hf
              obtain ⟨z_46, c_46, hf⟩ := b_some hf
              refine xx_cVi hZ hE (As := [.int a1, .int a3, .int w_34_9]) (rest := [.ref (ad x_45)]) k_X7 (is_m i_46) tw_410 tw_411 (c_X7_with l D cA ad o a1 a3 w_34_9 M _ c_46) cw_X7_with tw_409 ⟨rfl, rfl⟩ ⟨Nat.le_of_ble_eq_true rfl, Nat.le_of_ble_eq_true rfl⟩ rfl hl.1 rfl (Nat.le_of_ble_eq_true rfl) ⟨Nat.le_of_ble_eq_true rfl, Nat.le_of_ble_eq_true rfl⟩ dX7_sliceChance_48 (fun H locs hE => ?_)
              obtain ⟨x_47, g_47, hf⟩ := b_some hf
              refine xx_aI hZ hE g_47 dX7_sliceChance_51 ?_
              refine lv_istore (lv' := [(10, .int x_47), (0, .ref (ad o)), (1, .int a1), (2, .int a2), (3, .int a3), (4, .long w_30_4), (6, .int x_2), (7, .int w_30_7), (8, .int w_34_8), (9, .int w_34_9)]) hx hb dX7_sliceChance_52 hl (by decide) rfl (fun ls hl => ?_)
              refine lv_iload hx hb dX7_sliceChance_54 (lv_at hl 0 rfl) ?_
              refine lv_iload hx hb dX7_sliceChance_56 (lv_at hl 7 rfl) ?_
              have q_48 : ∀ x_48 : Int32, x_48 = (if x_47 < w_30_7 then w_34_8 else (if w_34_8 ≤ x_47 then w_34_8 else x_47)) → W p l e rm_X7_sliceChance s m args below meth c H locs 0 0 Q (F0 m 75 ls [.int x_48]) := by
                intro x_48 e_48
                subst e_48
                refine lv_istore (lv' := [(8, .int (if x_47 < w_30_7 then w_34_8 else (if w_34_8 ≤ x_47 then w_34_8 else x_47))), (10, .int x_47), (0, .ref (ad o)), (1, .int a1), (2, .int a2), (3, .int a3), (4, .long w_30_4), (6, .int x_2), (7, .int w_30_7), (9, .int w_34_9)]) hx hb dX7_sliceChance_75 hl (by decide) rfl (fun ls hl => ?_)
                refine lv_iinc (v := (w_34_9 + 1)) (lv' := [(9, .int (w_34_9 + 1)), (8, .int (if x_47 < w_30_7 then w_34_8 else (if w_34_8 ≤ x_47 then w_34_8 else x_47))), (10, .int x_47), (0, .ref (ad o)), (1, .int a1), (2, .int a2), (3, .int a3), (4, .long w_30_4), (6, .int x_2), (7, .int w_30_7)]) hx hb dX7_sliceChance_77 hl (k := 9) rfl rfl (by decide) rfl (fun ls hl => ?_)
                refine lv_goto (tgt := 28) hx hb dX7_sliceChance_80 (by decide) ?_
                exact ih_28 _ _ _ _ _ hf hE (lv_sub hl [3, 4, 5, 6, 7, 8, 9, 1, 0] rfl)
              refine lv_icmp_lt (tgt := 73) hx hb dX7_sliceChance_58 (by decide) (fun h_49 => ?_) (fun h_49 => ?_)
              · refine lv_iload hx hb dX7_sliceChance_73 (lv_at hl 8 rfl) ?_
                exact q_48 _ (by rw [if_pos h_49])
              · refine lv_iload hx hb dX7_sliceChance_61 (lv_at hl 0 rfl) ?_
                refine lv_iload hx hb dX7_sliceChance_63 (lv_at hl 8 rfl) ?_
                refine lv_icmp_ge (tgt := 73) hx hb dX7_sliceChance_65 (by decide) (fun h_50 => ?_) (fun h_50 => ?_)
                · refine lv_iload hx hb dX7_sliceChance_73 (lv_at hl 8 rfl) ?_
                  exact q_48 _ (by rw [if_neg h_49, if_pos h_50])
                · refine lv_iload hx hb dX7_sliceChance_68 (lv_at hl 0 rfl) ?_
                  refine lv_goto (tgt := 75) hx hb dX7_sliceChance_70 (by decide) ?_
                  exact q_48 _ (by rw [if_neg h_49, if_neg h_50])
        exact L_34 _ _ _ _ _ _ hf hE (lv_sub hl [2, 3, 4, 5, 6, 7, 8, 1, 0] rfl)
  exact L_30 _ _ _ _ _ _ hf hE (lv_sub hl [3, 4, 5, 6, 2, 1, 0] rfl)
def rm_X7_plainChance : Room := { frames := 5, cells := 0, slots := 0, locals := 141 }
def f_X7_plainChance (o : Nat) (a1 : Int32) (a2 : Int32) (a3 : Int32) (M : Mm) : Option (Mm) :=
    (op_gR M 7 o 6).bind fun x_1 =>
    (op_aI M x_1 a1).bind fun x_2 =>
    (op_is M o 7).bind fun _ =>
    (f_X7_lay o (if a2 = a3 then (1 : Int64) else (0 : Int64)) (1 : Int64) M).bind fun z_4 =>
    (op_gR z_4 7 o 5).bind fun x_5 =>
    (op_aI z_4 x_5 a1).bind fun x_6 =>
    if x_6 = 0 then
    (op_is z_4 o 7).bind fun _ =>
    (f_X7_sumOfLine o a2 x_2 z_4).bind fun z_8 =>
    if z_8 ≤ 0 then
    some z_4
    else
    (op_is z_4 o 7).bind fun _ =>
    (f_X7_isInLine o a2 a3 x_2 z_4).bind fun z_10 =>
    op_jn (fun (x_11_0 : Int64) =>
    (op_is z_4 o 7).bind fun _ =>
    (f_X7_lay o x_11_0 z_8.toInt64 z_4).bind fun z_15 =>
    some z_15)
    fun j_11 =>
    if z_10 = 0 then
    j_11 (0 : Int64)
    else
    (op_gR z_4 7 o 3).bind fun x_13 =>
    (op_aI z_4 x_13 a3).bind fun x_14 =>
    j_11 x_14.toInt64
    else
    if x_6 = 1 then
    (op_is z_4 o 7).bind fun _ =>
    (f_X7_neighbour o a2 x_2 (1 : Int32) z_4).bind fun z_17 =>
    (op_is z_4 o 7).bind fun _ =>
    (f_X7_neighbour o a2 x_2 (0 : Int32) z_4).bind fun z_18 =>
    (op_is z_4 o 7).bind fun _ =>
    (f_X7_ofTaken o a2 z_4).bind fun z_19 =>
    op_jn (fun (x_20_0 : Int64) =>
    (op_is z_4 o 7).bind fun _ =>
    (f_X7_lay o x_20_0 ((2 : Int64) * z_19.toInt64) z_4).bind fun z_30 =>
    some z_30)
    fun j_20 =>
    if a2 = a3 then
    (op_is z_4 o 7).bind fun _ =>
    (f_X7_takenOf o a2 z_17 z_4).bind fun z_28 =>
    (op_is z_4 o 7).bind fun _ =>
    (f_X7_takenOf o a2 z_18 z_4).bind fun z_29 =>
    j_20 ((((2 : Int64) * z_19.toInt64) - z_28.toInt64) - z_29.toInt64)
    else
    op_jn (fun (x_22_0 : Int32) =>
    op_jn (fun (x_25_0 : Int32) =>
    j_20 ((x_22_0 + x_25_0).toInt64))
    fun j_25 =>
    if a3 = z_18 then
    (op_is z_4 o 7).bind fun _ =>
    (f_X7_takenOf o a2 z_18 z_4).bind fun z_27 =>
    j_25 z_27
    else
    j_25 (0 : Int32))
    fun j_22 =>
    if a3 = z_17 then
    (op_is z_4 o 7).bind fun _ =>
    (f_X7_takenOf o a2 z_17 z_4).bind fun z_24 =>
    j_22 z_24
    else
    j_22 (0 : Int32)
    else
    if x_6 = 2 then
    (op_gR z_4 7 o 7).bind fun x_32 =>
    (op_aI z_4 x_32 a1).bind fun x_33 =>
    (op_is z_4 o 7).bind fun _ =>
    (f_X7_swapped o a2 x_2 x_33 z_4).bind fun z_34 =>
    if z_34 = a2 then
    some z_4
    else
    op_jn (fun (x_36_0 : Int64) =>
    (op_is z_4 o 7).bind fun _ =>
    (f_X7_ofTaken o a2 z_4).bind fun z_42 =>
    (op_is z_4 o 7).bind fun _ =>
    (f_X7_lay o x_36_0 z_42.toInt64 z_4).bind fun z_43 =>
    some z_43)
    fun j_36 =>
    if a3 = z_34 then
    (op_is z_4 o 7).bind fun _ =>
    (f_X7_takenOf o a2 z_34 z_4).bind fun z_41 =>
    j_36 z_41.toInt64
    else
    if a3 = a2 then
    (op_is z_4 o 7).bind fun _ =>
    (f_X7_ofTaken o a2 z_4).bind fun z_39 =>
    (op_is z_4 o 7).bind fun _ =>
    (f_X7_takenOf o a2 z_34 z_4).bind fun z_40 =>
    j_36 ((z_39 - z_40).toInt64)
    else
    j_36 (0 : Int64)
    else
    if x_6 = 3 then
    (op_is z_4 o 7).bind fun _ =>
    (f_X7_toldFrom o a1 a2 a3 z_4).bind fun z_45 =>
    some z_45
    else
    (op_gR z_4 7 o 3).bind fun x_46 =>
    (op_aI z_4 x_46 a2).bind fun x_47 =>
    if x_47 ≤ 0 then
    some z_4
    else
    (op_is z_4 o 7).bind fun _ =>
    (f_X7_lay o (0 : Int64) (1 : Int64) z_4).bind fun z_49 =>
    (op_is z_49 o 7).bind fun _ =>
    (f_X7_isInLine o a2 a3 x_2 z_49).bind fun z_50 =>
    if z_50 = 0 then
    some z_49
    else
    (op_is z_49 o 7).bind fun _ =>
    (f_X7_sliceChance o a2 a3 x_2 z_49).bind fun z_52 =>
    some z_52
set_option maxHeartbeats 4000000 in
set_option maxRecDepth 100000 in
theorem c_X7_plainChance (l : Launch) (D : va_G) (cA : Nat → ClassId) (ad : Nat → Nat) (o : Nat) (a1 : Int32) (a2 : Int32) (a3 : Int32) (M : Mm) (zr : Mm) (hf : f_X7_plainChance o a1 a2 a3 M = some zr) : KV l yX7_plainChance cX7_plainChance 13 none rm_X7_plainChance D cA ad [.ref (ad o), .int a1, .int a2, .int a3] M zr := by
  refine KV_of (by decide) (Nat.le_of_ble_eq_true rfl) ?_
  intro p e s m args below meth c ls Q A H locs hZ hE hl hret
  have hx := hZ.1
  have hb := hZ.2.1
  have hown := hZ.2.2.2.1
  have hts := hZ.2.2.2.2.1
  have hl : lv_has ls 13 [(0, .ref (ad o)), (1, .int a1), (2, .int a2), (3, .int a3)] := hl
  unfold f_X7_plainChance at hf
  refine lv_aload_n hx hb dX7_plainChance_0 rfl (lv_at hl 0 rfl) ?_
  obtain ⟨x_1, g_1, hf⟩ := b_some hf
  refine xx_gR hZ hE k_X7 6 (by decide) rfl tw_394 g_1 dX7_plainChance_1 ?_
  refine lv_iload_n hx hb dX7_plainChance_4 rfl (lv_at hl 1 rfl) ?_
  obtain ⟨x_2, g_2, hf⟩ := b_some hf
  refine xx_aI hZ hE g_2 dX7_plainChance_5 ?_
  refine lv_istore (lv' := [(4, .int x_2), (0, .ref (ad o)), (1, .int a1), (2, .int a2), (3, .int a3)]) hx hb dX7_plainChance_6 hl (by decide) rfl (fun ls hl => ?_)
  refine lv_aload_n hx hb dX7_plainChance_8 rfl (lv_at hl 1 rfl) ?_
  refine lv_iload_n hx hb dX7_plainChance_9 rfl (lv_at hl 3 rfl) ?_
  refine lv_iload_n hx hb dX7_plainChance_10 rfl (lv_at hl 4 rfl) ?_
  have q_3 : ∀ x_3 : Int64, x_3 = (if a2 = a3 then (1 : Int64) else (0 : Int64)) → W p l e rm_X7_plainChance s m args below meth c H locs 0 0 Q (F0 m 19 ls [.long x_3, .ref (ad o)]) := by
    intro x_3 e_3
    subst e_3
    refine lv_lconst (v := 1) hx hb dX7_plainChance_19 (by decide) ?_
    obtain ⟨_, i_4, hf⟩ := b_some hf
    obtain ⟨z_4, c_4, hf⟩ := b_some hf
    refine xx_cVv hZ hE (As := [.long (if a2 = a3 then (1 : Int64) else (0 : Int64)), .long (1 : Int64)]) (rest := []) k_X7 (is_m i_4) tw_407 tw_408 (c_X7_lay l D cA ad o (if a2 = a3 then (1 : Int64) else (0 : Int64)) (1 : Int64) M _ c_4) cw_X7_lay tw_406 ⟨rfl, rfl⟩ ⟨Nat.le_of_ble_eq_true rfl, Nat.le_of_ble_eq_true rfl⟩ rfl hl.1 rfl (Nat.le_of_ble_eq_true rfl) ⟨Nat.le_of_ble_eq_true rfl, Nat.le_of_ble_eq_true rfl⟩ dX7_plainChance_20 (fun H locs hE => ?_)
    refine lv_aload_n hx hb dX7_plainChance_23 rfl (lv_at hl 1 rfl) ?_
    obtain ⟨x_5, g_5, hf⟩ := b_some hf
    refine xx_gR hZ hE k_X7 5 (by decide) rfl tw_393 g_5 dX7_plainChance_24 ?_
    refine lv_iload_n hx hb dX7_plainChance_27 rfl (lv_at hl 2 rfl) ?_
    obtain ⟨x_6, g_6, hf⟩ := b_some hf
    refine xx_aI hZ hE g_6 dX7_plainChance_28 ?_
    by_cases h_7 : x_6 = 0
    · have hf := it_y h_7 hf
      refine xx_tsw (off := 31) (tgt := 60) hx hb dX7_plainChance_29 0 h_7 (by decide) (by decide) ?_
      refine lv_aload_n hx hb dX7_plainChance_60 rfl (lv_at hl 1 rfl) ?_
      refine lv_iload_n hx hb dX7_plainChance_61 rfl (lv_at hl 3 rfl) ?_
      refine lv_iload hx hb dX7_plainChance_62 (lv_at hl 0 rfl) ?_
      obtain ⟨_, i_8, hf⟩ := b_some hf
      obtain ⟨z_8, c_8, hf⟩ := b_some hf
      refine xx_cVi hZ hE (As := [.int a2, .int x_2]) (rest := []) k_X7 (is_m i_8) tw_435 tw_436 (c_X7_sumOfLine l D cA ad o a2 x_2 z_4 _ c_8) cw_X7_sumOfLine tw_434 ⟨rfl, rfl⟩ ⟨Nat.le_of_ble_eq_true rfl, Nat.le_of_ble_eq_true rfl⟩ rfl hl.1 rfl (Nat.le_of_ble_eq_true rfl) ⟨Nat.le_of_ble_eq_true rfl, Nat.le_of_ble_eq_true rfl⟩ dX7_plainChance_64 (fun H locs hE => ?_)
      refine lv_istore (lv' := [(5, .int z_8), (4, .int x_2), (0, .ref (ad o)), (1, .int a1), (2, .int a2), (3, .int a3)]) hx hb dX7_plainChance_67 hl (by decide) rfl (fun ls hl => ?_)
      refine lv_iload hx hb dX7_plainChance_69 (lv_at hl 0 rfl) ?_
      refine lv_if_le (tgt := 103) hx hb dX7_plainChance_71 (by decide) (fun h_9 => ?_) (fun h_9 => ?_)
      · have hf := it_y h_9 hf
        exact hret _ _ _ _ _ (Option.some.inj hf) dX7_plainChance_103 hE
      · have hf := it_n h_9 hf
        refine lv_aload_n hx hb dX7_plainChance_74 rfl (lv_at hl 2 rfl) ?_
        refine lv_aload_n hx hb dX7_plainChance_75 rfl (lv_at hl 2 rfl) ?_
        refine lv_iload_n hx hb dX7_plainChance_76 rfl (lv_at hl 4 rfl) ?_
        refine lv_iload_n hx hb dX7_plainChance_77 rfl (lv_at hl 5 rfl) ?_
        refine lv_iload hx hb dX7_plainChance_78 (lv_at hl 1 rfl) ?_
        obtain ⟨_, i_10, hf⟩ := b_some hf
        obtain ⟨z_10, c_10, hf⟩ := b_some hf
        refine xx_cVi hZ hE (As := [.int a2, .int a3, .int x_2]) (rest := [.ref (ad o)]) k_X7 (is_m i_10) tw_438 tw_439 (c_X7_isInLine l D cA ad o a2 a3 x_2 z_4 _ c_10) cw_X7_isInLine tw_437 ⟨rfl, rfl⟩ ⟨Nat.le_of_ble_eq_true rfl, Nat.le_of_ble_eq_true rfl⟩ rfl hl.1 rfl (Nat.le_of_ble_eq_true rfl) ⟨Nat.le_of_ble_eq_true rfl, Nat.le_of_ble_eq_true rfl⟩ dX7_plainChance_80 (fun H locs hE => ?_)
        obtain ⟨j_11, ej_11, hf⟩ := jn_e hf
        have q_11 : ∀ (x_11_0 : Int64) (H : Heap) (locs : List Loc) (ls : Array Slot), j_11 x_11_0 = some zr → En D cA ad s A z_4 H locs → lv_has ls 13 [(5, .int z_8)] → W p l e rm_X7_plainChance s m args below meth c H locs 0 0 Q (F0 m 97 ls [.long x_11_0, .ref (ad o)]) := by
          intro x_11_0 H locs ls hf hE hl
          rw [ej_11] at hf
          refine lv_iload hx hb dX7_plainChance_97 (lv_at hl 0 rfl) ?_
          refine lv_i2l hx hb dX7_plainChance_99 rfl ?_
          obtain ⟨_, i_15, hf⟩ := b_some hf
          obtain ⟨z_15, c_15, hf⟩ := b_some hf
          refine xx_cVv hZ hE (As := [.long x_11_0, .long z_8.toInt64]) (rest := []) k_X7 (is_m i_15) tw_407 tw_408 (c_X7_lay l D cA ad o x_11_0 z_8.toInt64 z_4 _ c_15) cw_X7_lay tw_406 ⟨rfl, rfl⟩ ⟨Nat.le_of_ble_eq_true rfl, Nat.le_of_ble_eq_true rfl⟩ rfl hl.1 rfl (Nat.le_of_ble_eq_true rfl) ⟨Nat.le_of_ble_eq_true rfl, Nat.le_of_ble_eq_true rfl⟩ dX7_plainChance_100 (fun H locs hE => ?_)
          exact hret _ _ _ _ _ (Option.some.inj hf) dX7_plainChance_103 hE
        refine lv_if_eq (tgt := 96) hx hb dX7_plainChance_83 (by decide) (fun h_12 => ?_) (fun h_12 => ?_)
        · have hf := it_y h_12 hf
          refine lv_lconst (v := 0) hx hb dX7_plainChance_96 (by decide) ?_
          exact q_11 _ _ _ _ hf hE (lv_sub hl [0] rfl)
        · have hf := it_n h_12 hf
          refine lv_aload_n hx hb dX7_plainChance_86 rfl (lv_at hl 2 rfl) ?_
          obtain ⟨x_13, g_13, hf⟩ := b_some hf
          refine xx_gR hZ hE k_X7 3 (by decide) rfl tw_371 g_13 dX7_plainChance_87 ?_
          refine lv_iload_n hx hb dX7_plainChance_90 rfl (lv_at hl 5 rfl) ?_
          obtain ⟨x_14, g_14, hf⟩ := b_some hf
          refine xx_aI hZ hE g_14 dX7_plainChance_91 ?_
          refine lv_i2l hx hb dX7_plainChance_92 rfl ?_
          refine lv_goto (tgt := 97) hx hb dX7_plainChance_93 (by decide) ?_
          exact q_11 _ _ _ _ hf hE (lv_sub hl [0] rfl)
    · have hf := it_n h_7 hf
      by_cases h_16 : x_6 = 1
      · have hf := it_y h_16 hf
        refine xx_tsw (off := 75) (tgt := 104) hx hb dX7_plainChance_29 1 h_16 (by decide) (by decide) ?_
        refine lv_aload_n hx hb dX7_plainChance_104 rfl (lv_at hl 1 rfl) ?_
        refine lv_iload_n hx hb dX7_plainChance_105 rfl (lv_at hl 3 rfl) ?_
        refine lv_iload hx hb dX7_plainChance_106 (lv_at hl 0 rfl) ?_
        refine lv_iconst (v := 1) hx hb dX7_plainChance_108 (by decide) ?_
        obtain ⟨_, i_17, hf⟩ := b_some hf
        obtain ⟨z_17, c_17, hf⟩ := b_some hf
        refine xx_cVi hZ hE (As := [.int a2, .int x_2, .int (1 : Int32)]) (rest := []) k_X7 (is_m i_17) tw_441 tw_442 (c_X7_neighbour l D cA ad o a2 x_2 (1 : Int32) z_4 _ c_17) cw_X7_neighbour tw_440 ⟨rfl, rfl⟩ ⟨Nat.le_of_ble_eq_true rfl, Nat.le_of_ble_eq_true rfl⟩ rfl hl.1 rfl (Nat.le_of_ble_eq_true rfl) ⟨Nat.le_of_ble_eq_true rfl, Nat.le_of_ble_eq_true rfl⟩ dX7_plainChance_109 (fun H locs hE => ?_)
        refine lv_istore (lv' := [(6, .int z_17), (4, .int x_2), (0, .ref (ad o)), (1, .int a1), (2, .int a2), (3, .int a3)]) hx hb dX7_plainChance_112 hl (by decide) rfl (fun ls hl => ?_)
        refine lv_aload_n hx hb dX7_plainChance_114 rfl (lv_at hl 2 rfl) ?_
        refine lv_iload_n hx hb dX7_plainChance_115 rfl (lv_at hl 4 rfl) ?_
        refine lv_iload hx hb dX7_plainChance_116 (lv_at hl 1 rfl) ?_
        refine lv_iconst (v := 0) hx hb dX7_plainChance_118 (by decide) ?_
        obtain ⟨_, i_18, hf⟩ := b_some hf
        obtain ⟨z_18, c_18, hf⟩ := b_some hf
        refine xx_cVi hZ hE (As := [.int a2, .int x_2, .int (0 : Int32)]) (rest := []) k_X7 (is_m i_18) tw_441 tw_442 (c_X7_neighbour l D cA ad o a2 x_2 (0 : Int32) z_4 _ c_18) cw_X7_neighbour tw_440 ⟨rfl, rfl⟩ ⟨Nat.le_of_ble_eq_true rfl, Nat.le_of_ble_eq_true rfl⟩ rfl hl.1 rfl (Nat.le_of_ble_eq_true rfl) ⟨Nat.le_of_ble_eq_true rfl, Nat.le_of_ble_eq_true rfl⟩ dX7_plainChance_119 (fun H locs hE => ?_)
        refine lv_istore (lv' := [(7, .int z_18), (6, .int z_17), (4, .int x_2), (0, .ref (ad o)), (1, .int a1), (2, .int a2), (3, .int a3)]) hx hb dX7_plainChance_122 hl (by decide) rfl (fun ls hl => ?_)
        refine lv_ldc2 (v := 2) hx hb hown (hts _ tw_443) dX7_plainChance_124 ?_
        refine lv_aload_n hx hb dX7_plainChance_127 rfl (lv_at hl 3 rfl) ?_
        refine lv_iload_n hx hb dX7_plainChance_128 rfl (lv_at hl 5 rfl) ?_
        obtain ⟨_, i_19, hf⟩ := b_some hf
        obtain ⟨z_19, c_19, hf⟩ := b_some hf
        refine xx_cVi hZ hE (As := [.int a2]) (rest := [.long (2 : Int64)]) k_X7 (is_m i_19) tw_445 tw_446 (c_X7_ofTaken l D cA ad o a2 z_4 _ c_19) cw_X7_ofTaken tw_444 ⟨rfl, rfl⟩ ⟨Nat.le_of_ble_eq_true rfl, Nat.le_of_ble_eq_true rfl⟩ rfl hl.1 rfl (Nat.le_of_ble_eq_true rfl) ⟨Nat.le_of_ble_eq_true rfl, Nat.le_of_ble_eq_true rfl⟩ dX7_plainChance_129 (fun H locs hE => ?_)
        refine lv_i2l hx hb dX7_plainChance_132 rfl ?_
        refine lv_lmul hx hb dX7_plainChance_133 ?_
        refine lv_lstore (lv' := [(8, .long ((2 : Int64) * z_19.toInt64)), (7, .int z_18), (6, .int z_17), (4, .int x_2), (0, .ref (ad o)), (1, .int a1), (2, .int a2), (3, .int a3)]) hx hb dX7_plainChance_134 hl (by decide) rfl (fun ls hl => ?_)
        refine lv_iload_n hx hb dX7_plainChance_136 rfl (lv_at hl 6 rfl) ?_
        refine lv_iload_n hx hb dX7_plainChance_137 rfl (lv_at hl 7 rfl) ?_
        obtain ⟨j_20, ej_20, hf⟩ := jn_e hf
        have q_20 : ∀ (x_20_0 : Int64) (H : Heap) (locs : List Loc) (ls : Array Slot), j_20 x_20_0 = some zr → En D cA ad s A z_4 H locs → lv_has ls 13 [(0, .ref (ad o)), (8, .long ((2 : Int64) * z_19.toInt64))] → W p l e rm_X7_plainChance s m args below meth c H locs 0 0 Q (F0 m 200 ls [.long x_20_0]) := by
          intro x_20_0 H locs ls hf hE hl
          rw [ej_20] at hf
          refine lv_lstore (lv' := [(10, .long x_20_0), (0, .ref (ad o)), (8, .long ((2 : Int64) * z_19.toInt64))]) hx hb dX7_plainChance_200 hl (by decide) rfl (fun ls hl => ?_)
          refine lv_aload_n hx hb dX7_plainChance_202 rfl (lv_at hl 1 rfl) ?_
          refine lv_lload hx hb dX7_plainChance_203 (lv_at hl 0 rfl) ?_
          refine lv_lload hx hb dX7_plainChance_205 (lv_at hl 2 rfl) ?_
          obtain ⟨_, i_30, hf⟩ := b_some hf
          obtain ⟨z_30, c_30, hf⟩ := b_some hf
          refine xx_cVv hZ hE (As := [.long x_20_0, .long ((2 : Int64) * z_19.toInt64)]) (rest := []) k_X7 (is_m i_30) tw_407 tw_408 (c_X7_lay l D cA ad o x_20_0 ((2 : Int64) * z_19.toInt64) z_4 _ c_30) cw_X7_lay tw_406 ⟨rfl, rfl⟩ ⟨Nat.le_of_ble_eq_true rfl, Nat.le_of_ble_eq_true rfl⟩ rfl hl.1 rfl (Nat.le_of_ble_eq_true rfl) ⟨Nat.le_of_ble_eq_true rfl, Nat.le_of_ble_eq_true rfl⟩ dX7_plainChance_207 (fun H locs hE => ?_)
          exact hret _ _ _ _ _ (Option.some.inj hf) dX7_plainChance_210 hE
        refine lv_icmp_ne (tgt := 164) hx hb dX7_plainChance_138 (by decide) (fun h_21 => ?_) (fun h_21 => ?_)
        · have hf := it_n h_21 hf
          refine lv_iload_n hx hb dX7_plainChance_164 rfl (lv_at hl 7 rfl) ?_
          refine lv_iload hx hb dX7_plainChance_165 (lv_at hl 2 rfl) ?_
          obtain ⟨j_22, ej_22, hf⟩ := jn_e hf
          have q_22 : ∀ (x_22_0 : Int32) (H : Heap) (locs : List Loc) (ls : Array Slot), j_22 x_22_0 = some zr → En D cA ad s A z_4 H locs → lv_has ls 13 [(0, .ref (ad o)), (2, .int a2), (3, .int a3), (7, .int z_18), (8, .long ((2 : Int64) * z_19.toInt64))] → W p l e rm_X7_plainChance s m args below meth c H locs 0 0 Q (F0 m 181 ls [.int x_22_0]) := by
            intro x_22_0 H locs ls hf hE hl
            rw [ej_22] at hf
            refine lv_iload_n hx hb dX7_plainChance_181 rfl (lv_at hl 2 rfl) ?_
            refine lv_iload hx hb dX7_plainChance_182 (lv_at hl 3 rfl) ?_
            obtain ⟨j_25, ej_25, hf⟩ := jn_e hf
            have q_25 : ∀ (x_25_0 : Int32) (H : Heap) (locs : List Loc) (ls : Array Slot), j_25 x_25_0 = some zr → En D cA ad s A z_4 H locs → lv_has ls 13 [(0, .ref (ad o)), (8, .long ((2 : Int64) * z_19.toInt64))] → W p l e rm_X7_plainChance s m args below meth c H locs 0 0 Q (F0 m 198 ls [.int x_25_0, .int x_22_0]) := by
              intro x_25_0 H locs ls hf hE hl
              rw [ej_25] at hf
              refine lv_iadd hx hb dX7_plainChance_198 ?_
              refine lv_i2l hx hb dX7_plainChance_199 rfl ?_
              exact q_20 _ _ _ _ hf hE (lv_sub hl [0, 1] rfl)
            refine lv_icmp_ne (tgt := 197) hx hb dX7_plainChance_184 (by decide) (fun h_26 => ?_) (fun h_26 => ?_)
            · have hf := it_n h_26 hf
              refine lv_iconst (v := 0) hx hb dX7_plainChance_197 (by decide) ?_
              exact q_25 _ _ _ _ hf hE (lv_sub hl [0, 4] rfl)
            · have hf := it_y h_26 hf
              refine lv_aload_n hx hb dX7_plainChance_187 rfl (lv_at hl 0 rfl) ?_
              refine lv_iload_n hx hb dX7_plainChance_188 rfl (lv_at hl 1 rfl) ?_
              refine lv_iload hx hb dX7_plainChance_189 (lv_at hl 3 rfl) ?_
              obtain ⟨_, i_27, hf⟩ := b_some hf
              obtain ⟨z_27, c_27, hf⟩ := b_some hf
              refine xx_cVi hZ hE (As := [.int a2, .int z_18]) (rest := [.int x_22_0]) k_X7 (is_m i_27) tw_448 tw_449 (c_X7_takenOf l D cA ad o a2 z_18 z_4 _ c_27) cw_X7_takenOf tw_447 ⟨rfl, rfl⟩ ⟨Nat.le_of_ble_eq_true rfl, Nat.le_of_ble_eq_true rfl⟩ rfl hl.1 rfl (Nat.le_of_ble_eq_true rfl) ⟨Nat.le_of_ble_eq_true rfl, Nat.le_of_ble_eq_true rfl⟩ dX7_plainChance_191 (fun H locs hE => ?_)
              refine lv_goto (tgt := 198) hx hb dX7_plainChance_194 (by decide) ?_
              exact q_25 _ _ _ _ hf hE (lv_sub hl [0, 4] rfl)
          refine lv_icmp_ne (tgt := 180) hx hb dX7_plainChance_167 (by decide) (fun h_23 => ?_) (fun h_23 => ?_)
          · have hf := it_n h_23 hf
            refine lv_iconst (v := 0) hx hb dX7_plainChance_180 (by decide) ?_
            exact q_22 _ _ _ _ hf hE (lv_sub hl [4, 6, 7, 1, 0] rfl)
          · have hf := it_y h_23 hf
            refine lv_aload_n hx hb dX7_plainChance_170 rfl (lv_at hl 4 rfl) ?_
            refine lv_iload_n hx hb dX7_plainChance_171 rfl (lv_at hl 6 rfl) ?_
            refine lv_iload hx hb dX7_plainChance_172 (lv_at hl 2 rfl) ?_
            obtain ⟨_, i_24, hf⟩ := b_some hf
            obtain ⟨z_24, c_24, hf⟩ := b_some hf
            refine xx_cVi hZ hE (As := [.int a2, .int z_17]) (rest := []) k_X7 (is_m i_24) tw_448 tw_449 (c_X7_takenOf l D cA ad o a2 z_17 z_4 _ c_24) cw_X7_takenOf tw_447 ⟨rfl, rfl⟩ ⟨Nat.le_of_ble_eq_true rfl, Nat.le_of_ble_eq_true rfl⟩ rfl hl.1 rfl (Nat.le_of_ble_eq_true rfl) ⟨Nat.le_of_ble_eq_true rfl, Nat.le_of_ble_eq_true rfl⟩ dX7_plainChance_174 (fun H locs hE => ?_)
            refine lv_goto (tgt := 181) hx hb dX7_plainChance_177 (by decide) ?_
            exact q_22 _ _ _ _ hf hE (lv_sub hl [4, 6, 7, 1, 0] rfl)
        · have hf := it_y h_21 hf
          refine lv_lload hx hb dX7_plainChance_141 (lv_at hl 0 rfl) ?_
          refine lv_aload_n hx hb dX7_plainChance_143 rfl (lv_at hl 4 rfl) ?_
          refine lv_iload_n hx hb dX7_plainChance_144 rfl (lv_at hl 6 rfl) ?_
          refine lv_iload hx hb dX7_plainChance_145 (lv_at hl 2 rfl) ?_
          obtain ⟨_, i_28, hf⟩ := b_some hf
          obtain ⟨z_28, c_28, hf⟩ := b_some hf
          refine xx_cVi hZ hE (As := [.int a2, .int z_17]) (rest := [.long ((2 : Int64) * z_19.toInt64)]) k_X7 (is_m i_28) tw_448 tw_449 (c_X7_takenOf l D cA ad o a2 z_17 z_4 _ c_28) cw_X7_takenOf tw_447 ⟨rfl, rfl⟩ ⟨Nat.le_of_ble_eq_true rfl, Nat.le_of_ble_eq_true rfl⟩ rfl hl.1 rfl (Nat.le_of_ble_eq_true rfl) ⟨Nat.le_of_ble_eq_true rfl, Nat.le_of_ble_eq_true rfl⟩ dX7_plainChance_147 (fun H locs hE => ?_)
          refine lv_i2l hx hb dX7_plainChance_150 rfl ?_
          refine lv_lsub hx hb dX7_plainChance_151 ?_
          refine lv_aload_n hx hb dX7_plainChance_152 rfl (lv_at hl 4 rfl) ?_
          refine lv_iload_n hx hb dX7_plainChance_153 rfl (lv_at hl 6 rfl) ?_
          refine lv_iload hx hb dX7_plainChance_154 (lv_at hl 1 rfl) ?_
          obtain ⟨_, i_29, hf⟩ := b_some hf
          obtain ⟨z_29, c_29, hf⟩ := b_some hf
          refine xx_cVi hZ hE (As := [.int a2, .int z_18]) (rest := [.long (((2 : Int64) * z_19.toInt64) - z_28.toInt64)]) k_X7 (is_m i_29) tw_448 tw_449 (c_X7_takenOf l D cA ad o a2 z_18 z_4 _ c_29) cw_X7_takenOf tw_447 ⟨rfl, rfl⟩ ⟨Nat.le_of_ble_eq_true rfl, Nat.le_of_ble_eq_true rfl⟩ rfl hl.1 rfl (Nat.le_of_ble_eq_true rfl) ⟨Nat.le_of_ble_eq_true rfl, Nat.le_of_ble_eq_true rfl⟩ dX7_plainChance_156 (fun H locs hE => ?_)
          refine lv_i2l hx hb dX7_plainChance_159 rfl ?_
          refine lv_lsub hx hb dX7_plainChance_160 ?_
          refine lv_goto (tgt := 200) hx hb dX7_plainChance_161 (by decide) ?_
          exact q_20 _ _ _ _ hf hE (lv_sub hl [4, 0] rfl)
      · have hf := it_n h_16 hf
        by_cases h_31 : x_6 = 2
        · have hf := it_y h_31 hf
          refine xx_tsw (off := 182) (tgt := 211) hx hb dX7_plainChance_29 2 h_31 (by decide) (by decide) ?_
          refine lv_aload_n hx hb dX7_plainChance_211 rfl (lv_at hl 1 rfl) ?_
          refine lv_iload_n hx hb dX7_plainChance_212 rfl (lv_at hl 3 rfl) ?_
          refine lv_iload hx hb dX7_plainChance_213 (lv_at hl 0 rfl) ?_
          refine lv_aload_n hx hb dX7_plainChance_215 rfl (lv_at hl 1 rfl) ?_
          obtain ⟨x_32, g_32, hf⟩ := b_some hf
          refine xx_gR hZ hE k_X7 7 (by decide) rfl tw_395 g_32 dX7_plainChance_216 ?_
          refine lv_iload_n hx hb dX7_plainChance_219 rfl (lv_at hl 2 rfl) ?_
          obtain ⟨x_33, g_33, hf⟩ := b_some hf
          refine xx_aI hZ hE g_33 dX7_plainChance_220 ?_
          obtain ⟨_, i_34, hf⟩ := b_some hf
          obtain ⟨z_34, c_34, hf⟩ := b_some hf
          refine xx_cVi hZ hE (As := [.int a2, .int x_2, .int x_33]) (rest := []) k_X7 (is_m i_34) tw_451 tw_452 (c_X7_swapped l D cA ad o a2 x_2 x_33 z_4 _ c_34) cw_X7_swapped tw_450 ⟨rfl, rfl⟩ ⟨Nat.le_of_ble_eq_true rfl, Nat.le_of_ble_eq_true rfl⟩ rfl hl.1 rfl (Nat.le_of_ble_eq_true rfl) ⟨Nat.le_of_ble_eq_true rfl, Nat.le_of_ble_eq_true rfl⟩ dX7_plainChance_221 (fun H locs hE => ?_)
          refine lv_istore (lv' := [(12, .int z_34), (4, .int x_2), (0, .ref (ad o)), (1, .int a1), (2, .int a2), (3, .int a3)]) hx hb dX7_plainChance_224 hl (by decide) rfl (fun ls hl => ?_)
          refine lv_iload hx hb dX7_plainChance_226 (lv_at hl 0 rfl) ?_
          refine lv_iload_n hx hb dX7_plainChance_228 rfl (lv_at hl 4 rfl) ?_
          refine lv_icmp_eq (tgt := 282) hx hb dX7_plainChance_229 (by decide) (fun h_35 => ?_) (fun h_35 => ?_)
          · have hf := it_y h_35 hf
            exact hret _ _ _ _ _ (Option.some.inj hf) dX7_plainChance_282 hE
          · have hf := it_n h_35 hf
            refine lv_aload_n hx hb dX7_plainChance_232 rfl (lv_at hl 2 rfl) ?_
            refine lv_iload_n hx hb dX7_plainChance_233 rfl (lv_at hl 5 rfl) ?_
            refine lv_iload hx hb dX7_plainChance_234 (lv_at hl 0 rfl) ?_
            obtain ⟨j_36, ej_36, hf⟩ := jn_e hf
            have q_36 : ∀ (x_36_0 : Int64) (H : Heap) (locs : List Loc) (ls : Array Slot), j_36 x_36_0 = some zr → En D cA ad s A z_4 H locs → lv_has ls 13 [(0, .ref (ad o)), (2, .int a2)] → W p l e rm_X7_plainChance s m args below meth c H locs 0 0 Q (F0 m 273 ls [.long x_36_0, .ref (ad o)]) := by
              intro x_36_0 H locs ls hf hE hl
              rw [ej_36] at hf
              refine lv_aload_n hx hb dX7_plainChance_273 rfl (lv_at hl 0 rfl) ?_
              refine lv_iload_n hx hb dX7_plainChance_274 rfl (lv_at hl 1 rfl) ?_
              obtain ⟨_, i_42, hf⟩ := b_some hf
              obtain ⟨z_42, c_42, hf⟩ := b_some hf
              refine xx_cVi hZ hE (As := [.int a2]) (rest := [.long x_36_0, .ref (ad o)]) k_X7 (is_m i_42) tw_445 tw_446 (c_X7_ofTaken l D cA ad o a2 z_4 _ c_42) cw_X7_ofTaken tw_444 ⟨rfl, rfl⟩ ⟨Nat.le_of_ble_eq_true rfl, Nat.le_of_ble_eq_true rfl⟩ rfl hl.1 rfl (Nat.le_of_ble_eq_true rfl) ⟨Nat.le_of_ble_eq_true rfl, Nat.le_of_ble_eq_true rfl⟩ dX7_plainChance_275 (fun H locs hE => ?_)
              refine lv_i2l hx hb dX7_plainChance_278 rfl ?_
              obtain ⟨_, i_43, hf⟩ := b_some hf
              obtain ⟨z_43, c_43, hf⟩ := b_some hf
              refine xx_cVv hZ hE (As := [.long x_36_0, .long z_42.toInt64]) (rest := []) k_X7 (is_m i_43) tw_407 tw_408 (c_X7_lay l D cA ad o x_36_0 z_42.toInt64 z_4 _ c_43) cw_X7_lay tw_406 ⟨rfl, rfl⟩ ⟨Nat.le_of_ble_eq_true rfl, Nat.le_of_ble_eq_true rfl⟩ rfl hl.1 rfl (Nat.le_of_ble_eq_true rfl) ⟨Nat.le_of_ble_eq_true rfl, Nat.le_of_ble_eq_true rfl⟩ dX7_plainChance_279 (fun H locs hE => ?_)
              exact hret _ _ _ _ _ (Option.some.inj hf) dX7_plainChance_282 hE
            refine lv_icmp_ne (tgt := 250) hx hb dX7_plainChance_236 (by decide) (fun h_37 => ?_) (fun h_37 => ?_)
            · have hf := it_n h_37 hf
              refine lv_iload_n hx hb dX7_plainChance_250 rfl (lv_at hl 5 rfl) ?_
              refine lv_iload_n hx hb dX7_plainChance_251 rfl (lv_at hl 4 rfl) ?_
              refine lv_icmp_ne (tgt := 272) hx hb dX7_plainChance_252 (by decide) (fun h_38 => ?_) (fun h_38 => ?_)
              · have hf := it_n h_38 hf
                refine lv_lconst (v := 0) hx hb dX7_plainChance_272 (by decide) ?_
                exact q_36 _ _ _ _ hf hE (lv_sub hl [2, 4] rfl)
              · have hf := it_y h_38 hf
                refine lv_aload_n hx hb dX7_plainChance_255 rfl (lv_at hl 2 rfl) ?_
                refine lv_iload_n hx hb dX7_plainChance_256 rfl (lv_at hl 4 rfl) ?_
                obtain ⟨_, i_39, hf⟩ := b_some hf
                obtain ⟨z_39, c_39, hf⟩ := b_some hf
                refine xx_cVi hZ hE (As := [.int a2]) (rest := [.ref (ad o)]) k_X7 (is_m i_39) tw_445 tw_446 (c_X7_ofTaken l D cA ad o a2 z_4 _ c_39) cw_X7_ofTaken tw_444 ⟨rfl, rfl⟩ ⟨Nat.le_of_ble_eq_true rfl, Nat.le_of_ble_eq_true rfl⟩ rfl hl.1 rfl (Nat.le_of_ble_eq_true rfl) ⟨Nat.le_of_ble_eq_true rfl, Nat.le_of_ble_eq_true rfl⟩ dX7_plainChance_257 (fun H locs hE => ?_)
                refine lv_aload_n hx hb dX7_plainChance_260 rfl (lv_at hl 2 rfl) ?_
                refine lv_iload_n hx hb dX7_plainChance_261 rfl (lv_at hl 4 rfl) ?_
                refine lv_iload hx hb dX7_plainChance_262 (lv_at hl 0 rfl) ?_
                obtain ⟨_, i_40, hf⟩ := b_some hf
                obtain ⟨z_40, c_40, hf⟩ := b_some hf
                refine xx_cVi hZ hE (As := [.int a2, .int z_34]) (rest := [.int z_39, .ref (ad o)]) k_X7 (is_m i_40) tw_448 tw_449 (c_X7_takenOf l D cA ad o a2 z_34 z_4 _ c_40) cw_X7_takenOf tw_447 ⟨rfl, rfl⟩ ⟨Nat.le_of_ble_eq_true rfl, Nat.le_of_ble_eq_true rfl⟩ rfl hl.1 rfl (Nat.le_of_ble_eq_true rfl) ⟨Nat.le_of_ble_eq_true rfl, Nat.le_of_ble_eq_true rfl⟩ dX7_plainChance_264 (fun H locs hE => ?_)
                refine lv_isub hx hb dX7_plainChance_267 ?_
                refine lv_i2l hx hb dX7_plainChance_268 rfl ?_
                refine lv_goto (tgt := 273) hx hb dX7_plainChance_269 (by decide) ?_
                exact q_36 _ _ _ _ hf hE (lv_sub hl [2, 4] rfl)
            · have hf := it_y h_37 hf
              refine lv_aload_n hx hb dX7_plainChance_239 rfl (lv_at hl 2 rfl) ?_
              refine lv_iload_n hx hb dX7_plainChance_240 rfl (lv_at hl 4 rfl) ?_
              refine lv_iload hx hb dX7_plainChance_241 (lv_at hl 0 rfl) ?_
              obtain ⟨_, i_41, hf⟩ := b_some hf
              obtain ⟨z_41, c_41, hf⟩ := b_some hf
              refine xx_cVi hZ hE (As := [.int a2, .int z_34]) (rest := [.ref (ad o)]) k_X7 (is_m i_41) tw_448 tw_449 (c_X7_takenOf l D cA ad o a2 z_34 z_4 _ c_41) cw_X7_takenOf tw_447 ⟨rfl, rfl⟩ ⟨Nat.le_of_ble_eq_true rfl, Nat.le_of_ble_eq_true rfl⟩ rfl hl.1 rfl (Nat.le_of_ble_eq_true rfl) ⟨Nat.le_of_ble_eq_true rfl, Nat.le_of_ble_eq_true rfl⟩ dX7_plainChance_243 (fun H locs hE => ?_)
              refine lv_i2l hx hb dX7_plainChance_246 rfl ?_
              refine lv_goto (tgt := 273) hx hb dX7_plainChance_247 (by decide) ?_
              exact q_36 _ _ _ _ hf hE (lv_sub hl [2, 4] rfl)
        · have hf := it_n h_31 hf
          by_cases h_44 : x_6 = 3
          · have hf := it_y h_44 hf
            refine xx_tsw (off := 254) (tgt := 283) hx hb dX7_plainChance_29 3 h_44 (by decide) (by decide) ?_
            refine lv_aload_n hx hb dX7_plainChance_283 rfl (lv_at hl 1 rfl) ?_
            refine lv_iload_n hx hb dX7_plainChance_284 rfl (lv_at hl 2 rfl) ?_
            refine lv_iload_n hx hb dX7_plainChance_285 rfl (lv_at hl 3 rfl) ?_
            refine lv_iload_n hx hb dX7_plainChance_286 rfl (lv_at hl 4 rfl) ?_
            obtain ⟨_, i_45, hf⟩ := b_some hf
            obtain ⟨z_45, c_45, hf⟩ := b_some hf
            refine xx_cVv hZ hE (As := [.int a1, .int a2, .int a3]) (rest := []) k_X7 (is_m i_45) tw_454 tw_455 (c_X7_toldFrom l D cA ad o a1 a2 a3 z_4 _ c_45) cw_X7_toldFrom tw_453 ⟨rfl, rfl⟩ ⟨Nat.le_of_ble_eq_true rfl, Nat.le_of_ble_eq_true rfl⟩ rfl hl.1 rfl (Nat.le_of_ble_eq_true rfl) ⟨Nat.le_of_ble_eq_true rfl, Nat.le_of_ble_eq_true rfl⟩ dX7_plainChance_287 (fun H locs hE => ?_)
            exact hret _ _ _ _ _ (Option.some.inj hf) dX7_plainChance_290 hE
          · have hf := it_n h_44 hf
            have sw := (⟨i32m h_7 (n := 0) (by decide), i32m h_16 (n := 1) (by decide), i32m h_31 (n := 2) (by decide), i32m h_44 (n := 3) (by decide), trivial⟩ : x_6.toInt ≠ 0 ∧ x_6.toInt ≠ 1 ∧ x_6.toInt ≠ 2 ∧ x_6.toInt ≠ 3 ∧ True)
            refine lv_tableOut (tgt := 291) hx hb dX7_plainChance_29 (by omega) (by decide) ?_
            refine lv_aload_n hx hb dX7_plainChance_291 rfl (lv_at hl 1 rfl) ?_
            obtain ⟨x_46, g_46, hf⟩ := b_some hf
            refine xx_gR hZ hE k_X7 3 (by decide) rfl tw_371 g_46 dX7_plainChance_292 ?_
            refine lv_iload_n hx hb dX7_plainChance_295 rfl (lv_at hl 3 rfl) ?_
            obtain ⟨x_47, g_47, hf⟩ := b_some hf
            refine xx_aI hZ hE g_47 dX7_plainChance_296 ?_
            refine lv_if_le (tgt := 325) hx hb dX7_plainChance_297 (by decide) (fun h_48 => ?_) (fun h_48 => ?_)
            · have hf := it_y h_48 hf
              exact hret _ _ _ _ _ (Option.some.inj hf) dX7_plainChance_325 hE
            · have hf := it_n h_48 hf
              refine lv_aload_n hx hb dX7_plainChance_300 rfl (lv_at hl 1 rfl) ?_
              refine lv_lconst (v := 0) hx hb dX7_plainChance_301 (by decide) ?_
              refine lv_lconst (v := 1) hx hb dX7_plainChance_302 (by decide) ?_
              obtain ⟨_, i_49, hf⟩ := b_some hf
              obtain ⟨z_49, c_49, hf⟩ := b_some hf
              refine xx_cVv hZ hE (As := [.long (0 : Int64), .long (1 : Int64)]) (rest := []) k_X7 (is_m i_49) tw_407 tw_408 (c_X7_lay l D cA ad o (0 : Int64) (1 : Int64) z_4 _ c_49) cw_X7_lay tw_406 ⟨rfl, rfl⟩ ⟨Nat.le_of_ble_eq_true rfl, Nat.le_of_ble_eq_true rfl⟩ rfl hl.1 rfl (Nat.le_of_ble_eq_true rfl) ⟨Nat.le_of_ble_eq_true rfl, Nat.le_of_ble_eq_true rfl⟩ dX7_plainChance_303 (fun H locs hE => ?_)
              refine lv_aload_n hx hb dX7_plainChance_306 rfl (lv_at hl 1 rfl) ?_
              refine lv_iload_n hx hb dX7_plainChance_307 rfl (lv_at hl 3 rfl) ?_
              refine lv_iload_n hx hb dX7_plainChance_308 rfl (lv_at hl 4 rfl) ?_
              refine lv_iload hx hb dX7_plainChance_309 (lv_at hl 0 rfl) ?_
              obtain ⟨_, i_50, hf⟩ := b_some hf
              obtain ⟨z_50, c_50, hf⟩ := b_some hf
              refine xx_cVi hZ hE (As := [.int a2, .int a3, .int x_2]) (rest := []) k_X7 (is_m i_50) tw_438 tw_439 (c_X7_isInLine l D cA ad o a2 a3 x_2 z_49 _ c_50) cw_X7_isInLine tw_437 ⟨rfl, rfl⟩ ⟨Nat.le_of_ble_eq_true rfl, Nat.le_of_ble_eq_true rfl⟩ rfl hl.1 rfl (Nat.le_of_ble_eq_true rfl) ⟨Nat.le_of_ble_eq_true rfl, Nat.le_of_ble_eq_true rfl⟩ dX7_plainChance_311 (fun H locs hE => ?_)
              refine lv_if_eq (tgt := 325) hx hb dX7_plainChance_314 (by decide) (fun h_51 => ?_) (fun h_51 => ?_)
              · have hf := it_y h_51 hf
                exact hret _ _ _ _ _ (Option.some.inj hf) dX7_plainChance_325 hE
              · have hf := it_n h_51 hf
                refine lv_aload_n hx hb dX7_plainChance_317 rfl (lv_at hl 1 rfl) ?_
                refine lv_iload_n hx hb dX7_plainChance_318 rfl (lv_at hl 3 rfl) ?_
                refine lv_iload_n hx hb dX7_plainChance_319 rfl (lv_at hl 4 rfl) ?_
                refine lv_iload hx hb dX7_plainChance_320 (lv_at hl 0 rfl) ?_
                obtain ⟨_, i_52, hf⟩ := b_some hf
                obtain ⟨z_52, c_52, hf⟩ := b_some hf
                refine xx_cVv hZ hE (As := [.int a2, .int a3, .int x_2]) (rest := []) k_X7 (is_m i_52) tw_457 tw_458 (c_X7_sliceChance l D cA ad o a2 a3 x_2 z_49 _ c_52) cw_X7_sliceChance tw_456 ⟨rfl, rfl⟩ ⟨Nat.le_of_ble_eq_true rfl, Nat.le_of_ble_eq_true rfl⟩ rfl hl.1 rfl (Nat.le_of_ble_eq_true rfl) ⟨Nat.le_of_ble_eq_true rfl, Nat.le_of_ble_eq_true rfl⟩ dX7_plainChance_322 (fun H locs hE => ?_)
                exact hret _ _ _ _ _ (Option.some.inj hf) dX7_plainChance_325 hE
  refine lv_icmp_ne (tgt := 18) hx hb dX7_plainChance_11 (by decide) (fun h_53 => ?_) (fun h_53 => ?_)
  · refine lv_lconst (v := 0) hx hb dX7_plainChance_18 (by decide) ?_
    exact q_3 _ (by rw [if_neg h_53])
  · refine lv_lconst (v := 1) hx hb dX7_plainChance_14 (by decide) ?_
    refine lv_goto (tgt := 19) hx hb dX7_plainChance_15 (by decide) ?_
    exact q_3 _ (by rw [if_pos h_53])
def rm_X7_at : Room := { frames := 0, cells := 0, slots := 0, locals := 0 }
def f_X7_at (o : Nat) (a1 : Int32) (a2 : Int32) (a3 : Int32) : Option (Int32) :=
    some ((((256 : Int32) * a1) + ((16 : Int32) * a2)) + a3)
set_option maxHeartbeats 4000000 in
set_option maxRecDepth 100000 in
theorem c_X7_at (l : Launch) (D : va_G) (cA : Nat → ClassId) (ad : Nat → Nat) (o : Nat) (a1 : Int32) (a2 : Int32) (a3 : Int32) (M : Mm) (zr : Int32) (hf : f_X7_at o a1 a2 a3 = some zr) : KI l yX7_at cX7_at 4 (some .int) rm_X7_at D cA ad [.ref (ad o), .int a1, .int a2, .int a3] M zr M := by
  refine KI_of (by decide) (Nat.le_of_ble_eq_true rfl) ?_
  intro p e s m args below meth c ls Q A H locs hZ hE hl hret
  have hx := hZ.1
  have hb := hZ.2.1
  have hown := hZ.2.2.2.1
  have hts := hZ.2.2.2.2.1
  have hl : lv_has ls 4 [(0, .ref (ad o)), (1, .int a1), (2, .int a2), (3, .int a3)] := hl
  unfold f_X7_at at hf
  refine lv_sipush (v := 256) hx hb dX7_at_0 (by decide) ?_
  refine lv_iload_n hx hb dX7_at_3 rfl (lv_at hl 1 rfl) ?_
  refine lv_imul hx hb dX7_at_4 ?_
  refine lv_bipush (v := 16) hx hb dX7_at_5 (by decide) ?_
  refine lv_iload_n hx hb dX7_at_7 rfl (lv_at hl 2 rfl) ?_
  refine lv_imul hx hb dX7_at_8 ?_
  refine lv_iadd hx hb dX7_at_9 ?_
  refine lv_iload_n hx hb dX7_at_10 rfl (lv_at hl 3 rfl) ?_
  refine lv_iadd hx hb dX7_at_11 ?_
  exact hret _ _ _ _ _ _ (Option.some.inj hf) rfl rfl dX7_at_12 hE
def rm_X7_takes : Room := { frames := 0, cells := 0, slots := 0, locals := 0 }
def f_X7_takes (o : Nat) (a1 : Int32) (M : Mm) : Option (Mm) :=
    (op_gR M 7 o 12).bind fun x_1 =>
    (op_aL M x_1 a1).bind fun x_2 =>
    (op_pL M 7 o 21 x_2).bind fun M_3 =>
    (op_gR M_3 7 o 13).bind fun x_4 =>
    (op_aL M_3 x_4 a1).bind fun x_5 =>
    (op_pL M_3 7 o 22 x_5).bind fun M_6 =>
    some M_6
set_option maxHeartbeats 4000000 in
set_option maxRecDepth 100000 in
theorem c_X7_takes (l : Launch) (D : va_G) (cA : Nat → ClassId) (ad : Nat → Nat) (o : Nat) (a1 : Int32) (M : Mm) (zr : Mm) (hf : f_X7_takes o a1 M = some zr) : KV l yX7_takes cX7_takes 2 none rm_X7_takes D cA ad [.ref (ad o), .int a1] M zr := by
  refine KV_of (by decide) (Nat.le_of_ble_eq_true rfl) ?_
  intro p e s m args below meth c ls Q A H locs hZ hE hl hret
  have hx := hZ.1
  have hb := hZ.2.1
  have hown := hZ.2.2.2.1
  have hts := hZ.2.2.2.2.1
  have hl : lv_has ls 2 [(0, .ref (ad o)), (1, .int a1)] := hl
  unfold f_X7_takes at hf
  refine lv_aload_n hx hb dX7_takes_0 rfl (lv_at hl 0 rfl) ?_
  refine lv_aload_n hx hb dX7_takes_1 rfl (lv_at hl 0 rfl) ?_
  obtain ⟨x_1, g_1, hf⟩ := b_some hf
  refine xx_gR hZ hE k_X7 12 (by decide) rfl tw_459 g_1 dX7_takes_2 ?_
  refine lv_iload_n hx hb dX7_takes_5 rfl (lv_at hl 1 rfl) ?_
  obtain ⟨x_2, g_2, hf⟩ := b_some hf
  refine xx_aL hZ hE g_2 dX7_takes_6 ?_
  obtain ⟨M_3, g_3, hf⟩ := b_some hf
  refine xx_pL hZ hE k_X7 21 (by decide) rfl rfl rfl tw_402 g_3 dX7_takes_7 (fun H locs hE => ?_)
  refine lv_aload_n hx hb dX7_takes_10 rfl (lv_at hl 0 rfl) ?_
  refine lv_aload_n hx hb dX7_takes_11 rfl (lv_at hl 0 rfl) ?_
  obtain ⟨x_4, g_4, hf⟩ := b_some hf
  refine xx_gR hZ hE k_X7 13 (by decide) rfl tw_460 g_4 dX7_takes_12 ?_
  refine lv_iload_n hx hb dX7_takes_15 rfl (lv_at hl 1 rfl) ?_
  obtain ⟨x_5, g_5, hf⟩ := b_some hf
  refine xx_aL hZ hE g_5 dX7_takes_16 ?_
  obtain ⟨M_6, g_6, hf⟩ := b_some hf
  refine xx_pL hZ hE k_X7 22 (by decide) rfl rfl rfl tw_403 g_6 dX7_takes_17 (fun H locs hE => ?_)
  exact hret _ _ _ _ _ (Option.some.inj hf) dX7_takes_20 hE
def rm_X7_mixedChance : Room := { frames := 3, cells := 0, slots := 0, locals := 86 }
def f_X7_mixedChance (o : Nat) (a1 : Int32) (a2 : Int32) (a3 : Int32) (M : Mm) : Option (Mm) :=
    (op_gR M 7 o 9).bind fun x_1 =>
    (op_aI M x_1 a1).bind fun x_2 =>
    (op_gR M 7 o 10).bind fun x_3 =>
    (op_aI M x_3 a1).bind fun x_4 =>
    (op_is M o 7).bind fun _ =>
    (f_X7_lay o x_2.toInt64 ((x_2 + x_4).toInt64) M).bind fun z_5 =>
    (op_gR z_5 7 o 12).bind fun x_6 =>
    (op_gR z_5 7 o 6).bind fun x_7 =>
    (op_aI z_5 x_7 a1).bind fun x_8 =>
    (op_is z_5 o 7).bind fun _ =>
    (f_X7_at o x_8 a2 a3).bind fun z_9 =>
    (op_aL z_5 x_6 z_9).bind fun x_10 =>
    (op_gR z_5 7 o 13).bind fun x_11 =>
    (op_gR z_5 7 o 6).bind fun x_12 =>
    (op_aI z_5 x_12 a1).bind fun x_13 =>
    (op_is z_5 o 7).bind fun _ =>
    (f_X7_at o x_13 a2 a3).bind fun z_14 =>
    (op_aL z_5 x_11 z_14).bind fun x_15 =>
    (op_is z_5 o 7).bind fun _ =>
    (f_X7_times o x_10 x_15 z_5).bind fun z_16 =>
    (op_gL z_16 7 o 21).bind fun x_17 =>
    (op_gL z_16 7 o 22).bind fun x_18 =>
    (op_is z_16 o 7).bind fun _ =>
    (f_X7_lay o x_4.toInt64 ((x_2 + x_4).toInt64) z_16).bind fun z_19 =>
    (op_gR z_19 7 o 12).bind fun x_20 =>
    (op_gR z_19 7 o 7).bind fun x_21 =>
    (op_aI z_19 x_21 a1).bind fun x_22 =>
    (op_is z_19 o 7).bind fun _ =>
    (f_X7_at o x_22 a2 a3).bind fun z_23 =>
    (op_aL z_19 x_20 z_23).bind fun x_24 =>
    (op_gR z_19 7 o 13).bind fun x_25 =>
    (op_gR z_19 7 o 7).bind fun x_26 =>
    (op_aI z_19 x_26 a1).bind fun x_27 =>
    (op_is z_19 o 7).bind fun _ =>
    (f_X7_at o x_27 a2 a3).bind fun z_28 =>
    (op_aL z_19 x_25 z_28).bind fun x_29 =>
    (op_is z_19 o 7).bind fun _ =>
    (f_X7_times o x_24 x_29 z_19).bind fun z_30 =>
    (op_gL z_30 7 o 21).bind fun x_31 =>
    (op_gL z_30 7 o 22).bind fun x_32 =>
    (op_pL z_30 7 o 21 x_17).bind fun M_33 =>
    (op_pL M_33 7 o 22 x_18).bind fun M_34 =>
    (op_is M_34 o 7).bind fun _ =>
    (f_X7_and o x_31 x_32 (0 : Int32) M_34).bind fun z_35 =>
    some z_35
set_option maxHeartbeats 4000000 in
set_option maxRecDepth 100000 in
theorem c_X7_mixedChance (l : Launch) (D : va_G) (cA : Nat → ClassId) (ad : Nat → Nat) (o : Nat) (a1 : Int32) (a2 : Int32) (a3 : Int32) (M : Mm) (zr : Mm) (hf : f_X7_mixedChance o a1 a2 a3 M = some zr) : KV l yX7_mixedChance cX7_mixedChance 14 none rm_X7_mixedChance D cA ad [.ref (ad o), .int a1, .int a2, .int a3] M zr := by
  refine KV_of (by decide) (Nat.le_of_ble_eq_true rfl) ?_
  intro p e s m args below meth c ls Q A H locs hZ hE hl hret
  have hx := hZ.1
  have hb := hZ.2.1
  have hown := hZ.2.2.2.1
  have hts := hZ.2.2.2.2.1
  have hl : lv_has ls 14 [(0, .ref (ad o)), (1, .int a1), (2, .int a2), (3, .int a3)] := hl
  unfold f_X7_mixedChance at hf
  refine lv_aload_n hx hb dX7_mixedChance_0 rfl (lv_at hl 0 rfl) ?_
  obtain ⟨x_1, g_1, hf⟩ := b_some hf
  refine xx_gR hZ hE k_X7 9 (by decide) rfl tw_396 g_1 dX7_mixedChance_1 ?_
  refine lv_iload_n hx hb dX7_mixedChance_4 rfl (lv_at hl 1 rfl) ?_
  obtain ⟨x_2, g_2, hf⟩ := b_some hf
  refine xx_aI hZ hE g_2 dX7_mixedChance_5 ?_
  refine lv_istore (lv' := [(4, .int x_2), (0, .ref (ad o)), (1, .int a1), (2, .int a2), (3, .int a3)]) hx hb dX7_mixedChance_6 hl (by decide) rfl (fun ls hl => ?_)
  refine lv_aload_n hx hb dX7_mixedChance_8 rfl (lv_at hl 1 rfl) ?_
  obtain ⟨x_3, g_3, hf⟩ := b_some hf
  refine xx_gR hZ hE k_X7 10 (by decide) rfl tw_397 g_3 dX7_mixedChance_9 ?_
  refine lv_iload_n hx hb dX7_mixedChance_12 rfl (lv_at hl 2 rfl) ?_
  obtain ⟨x_4, g_4, hf⟩ := b_some hf
  refine xx_aI hZ hE g_4 dX7_mixedChance_13 ?_
  refine lv_istore (lv' := [(5, .int x_4), (4, .int x_2), (0, .ref (ad o)), (1, .int a1), (2, .int a2), (3, .int a3)]) hx hb dX7_mixedChance_14 hl (by decide) rfl (fun ls hl => ?_)
  refine lv_aload_n hx hb dX7_mixedChance_16 rfl (lv_at hl 2 rfl) ?_
  refine lv_iload hx hb dX7_mixedChance_17 (lv_at hl 1 rfl) ?_
  refine lv_i2l hx hb dX7_mixedChance_19 rfl ?_
  refine lv_iload hx hb dX7_mixedChance_20 (lv_at hl 1 rfl) ?_
  refine lv_iload hx hb dX7_mixedChance_22 (lv_at hl 0 rfl) ?_
  refine lv_iadd hx hb dX7_mixedChance_24 ?_
  refine lv_i2l hx hb dX7_mixedChance_25 rfl ?_
  obtain ⟨_, i_5, hf⟩ := b_some hf
  obtain ⟨z_5, c_5, hf⟩ := b_some hf
  refine xx_cVv hZ hE (As := [.long x_2.toInt64, .long ((x_2 + x_4).toInt64)]) (rest := []) k_X7 (is_m i_5) tw_407 tw_408 (c_X7_lay l D cA ad o x_2.toInt64 ((x_2 + x_4).toInt64) M _ c_5) cw_X7_lay tw_406 ⟨rfl, rfl⟩ ⟨Nat.le_of_ble_eq_true rfl, Nat.le_of_ble_eq_true rfl⟩ rfl hl.1 rfl (Nat.le_of_ble_eq_true rfl) ⟨Nat.le_of_ble_eq_true rfl, Nat.le_of_ble_eq_true rfl⟩ dX7_mixedChance_26 (fun H locs hE => ?_)
  refine lv_aload_n hx hb dX7_mixedChance_29 rfl (lv_at hl 2 rfl) ?_
  refine lv_aload_n hx hb dX7_mixedChance_30 rfl (lv_at hl 2 rfl) ?_
  obtain ⟨x_6, g_6, hf⟩ := b_some hf
  refine xx_gR hZ hE k_X7 12 (by decide) rfl tw_459 g_6 dX7_mixedChance_31 ?_
  refine lv_aload_n hx hb dX7_mixedChance_34 rfl (lv_at hl 2 rfl) ?_
  refine lv_aload_n hx hb dX7_mixedChance_35 rfl (lv_at hl 2 rfl) ?_
  obtain ⟨x_7, g_7, hf⟩ := b_some hf
  refine xx_gR hZ hE k_X7 6 (by decide) rfl tw_394 g_7 dX7_mixedChance_36 ?_
  refine lv_iload_n hx hb dX7_mixedChance_39 rfl (lv_at hl 3 rfl) ?_
  obtain ⟨x_8, g_8, hf⟩ := b_some hf
  refine xx_aI hZ hE g_8 dX7_mixedChance_40 ?_
  refine lv_iload_n hx hb dX7_mixedChance_41 rfl (lv_at hl 4 rfl) ?_
  refine lv_iload_n hx hb dX7_mixedChance_42 rfl (lv_at hl 5 rfl) ?_
  obtain ⟨_, i_9, hf⟩ := b_some hf
  obtain ⟨z_9, c_9, hf⟩ := b_some hf
  refine xx_cVi hZ hE (As := [.int x_8, .int a2, .int a3]) (rest := [.ref (ad x_6), .ref (ad o)]) k_X7 (is_m i_9) tw_462 tw_463 (c_X7_at l D cA ad o x_8 a2 a3 z_5 _ c_9) cw_X7_at tw_461 ⟨rfl, rfl⟩ ⟨Nat.le_of_ble_eq_true rfl, Nat.le_of_ble_eq_true rfl⟩ rfl hl.1 rfl (Nat.le_of_ble_eq_true rfl) ⟨Nat.le_of_ble_eq_true rfl, Nat.le_of_ble_eq_true rfl⟩ dX7_mixedChance_43 (fun H locs hE => ?_)
  obtain ⟨x_10, g_10, hf⟩ := b_some hf
  refine xx_aL hZ hE g_10 dX7_mixedChance_46 ?_
  refine lv_aload_n hx hb dX7_mixedChance_47 rfl (lv_at hl 2 rfl) ?_
  obtain ⟨x_11, g_11, hf⟩ := b_some hf
  refine xx_gR hZ hE k_X7 13 (by decide) rfl tw_460 g_11 dX7_mixedChance_48 ?_
  refine lv_aload_n hx hb dX7_mixedChance_51 rfl (lv_at hl 2 rfl) ?_
  refine lv_aload_n hx hb dX7_mixedChance_52 rfl (lv_at hl 2 rfl) ?_
  obtain ⟨x_12, g_12, hf⟩ := b_some hf
  refine xx_gR hZ hE k_X7 6 (by decide) rfl tw_394 g_12 dX7_mixedChance_53 ?_
  refine lv_iload_n hx hb dX7_mixedChance_56 rfl (lv_at hl 3 rfl) ?_
  obtain ⟨x_13, g_13, hf⟩ := b_some hf
  refine xx_aI hZ hE g_13 dX7_mixedChance_57 ?_
  refine lv_iload_n hx hb dX7_mixedChance_58 rfl (lv_at hl 4 rfl) ?_
  refine lv_iload_n hx hb dX7_mixedChance_59 rfl (lv_at hl 5 rfl) ?_
  obtain ⟨_, i_14, hf⟩ := b_some hf
  obtain ⟨z_14, c_14, hf⟩ := b_some hf
  refine xx_cVi hZ hE (As := [.int x_13, .int a2, .int a3]) (rest := [.ref (ad x_11), .long x_10, .ref (ad o)]) k_X7 (is_m i_14) tw_462 tw_463 (c_X7_at l D cA ad o x_13 a2 a3 z_5 _ c_14) cw_X7_at tw_461 ⟨rfl, rfl⟩ ⟨Nat.le_of_ble_eq_true rfl, Nat.le_of_ble_eq_true rfl⟩ rfl hl.1 rfl (Nat.le_of_ble_eq_true rfl) ⟨Nat.le_of_ble_eq_true rfl, Nat.le_of_ble_eq_true rfl⟩ dX7_mixedChance_60 (fun H locs hE => ?_)
  obtain ⟨x_15, g_15, hf⟩ := b_some hf
  refine xx_aL hZ hE g_15 dX7_mixedChance_63 ?_
  obtain ⟨_, i_16, hf⟩ := b_some hf
  obtain ⟨z_16, c_16, hf⟩ := b_some hf
  refine xx_cVv hZ hE (As := [.long x_10, .long x_15]) (rest := []) k_X7 (is_m i_16) tw_422 tw_423 (c_X7_times l D cA ad o x_10 x_15 z_5 _ c_16) cw_X7_times tw_421 ⟨rfl, rfl⟩ ⟨Nat.le_of_ble_eq_true rfl, Nat.le_of_ble_eq_true rfl⟩ rfl hl.1 rfl (Nat.le_of_ble_eq_true rfl) ⟨Nat.le_of_ble_eq_true rfl, Nat.le_of_ble_eq_true rfl⟩ dX7_mixedChance_64 (fun H locs hE => ?_)
  refine lv_aload_n hx hb dX7_mixedChance_67 rfl (lv_at hl 2 rfl) ?_
  obtain ⟨x_17, g_17, hf⟩ := b_some hf
  refine xx_gL hZ hE k_X7 21 (by decide) rfl tw_402 g_17 dX7_mixedChance_68 ?_
  refine lv_lstore (lv' := [(6, .long x_17), (5, .int x_4), (4, .int x_2), (0, .ref (ad o)), (1, .int a1), (2, .int a2), (3, .int a3)]) hx hb dX7_mixedChance_71 hl (by decide) rfl (fun ls hl => ?_)
  refine lv_aload_n hx hb dX7_mixedChance_73 rfl (lv_at hl 3 rfl) ?_
  obtain ⟨x_18, g_18, hf⟩ := b_some hf
  refine xx_gL hZ hE k_X7 22 (by decide) rfl tw_403 g_18 dX7_mixedChance_74 ?_
  refine lv_lstore (lv' := [(8, .long x_18), (6, .long x_17), (5, .int x_4), (4, .int x_2), (0, .ref (ad o)), (1, .int a1), (2, .int a2), (3, .int a3)]) hx hb dX7_mixedChance_77 hl (by decide) rfl (fun ls hl => ?_)
  refine lv_aload_n hx hb dX7_mixedChance_79 rfl (lv_at hl 4 rfl) ?_
  refine lv_iload hx hb dX7_mixedChance_80 (lv_at hl 2 rfl) ?_
  refine lv_i2l hx hb dX7_mixedChance_82 rfl ?_
  refine lv_iload hx hb dX7_mixedChance_83 (lv_at hl 3 rfl) ?_
  refine lv_iload hx hb dX7_mixedChance_85 (lv_at hl 2 rfl) ?_
  refine lv_iadd hx hb dX7_mixedChance_87 ?_
  refine lv_i2l hx hb dX7_mixedChance_88 rfl ?_
  obtain ⟨_, i_19, hf⟩ := b_some hf
  obtain ⟨z_19, c_19, hf⟩ := b_some hf
  refine xx_cVv hZ hE (As := [.long x_4.toInt64, .long ((x_2 + x_4).toInt64)]) (rest := []) k_X7 (is_m i_19) tw_407 tw_408 (c_X7_lay l D cA ad o x_4.toInt64 ((x_2 + x_4).toInt64) z_16 _ c_19) cw_X7_lay tw_406 ⟨rfl, rfl⟩ ⟨Nat.le_of_ble_eq_true rfl, Nat.le_of_ble_eq_true rfl⟩ rfl hl.1 rfl (Nat.le_of_ble_eq_true rfl) ⟨Nat.le_of_ble_eq_true rfl, Nat.le_of_ble_eq_true rfl⟩ dX7_mixedChance_89 (fun H locs hE => ?_)
  refine lv_aload_n hx hb dX7_mixedChance_92 rfl (lv_at hl 4 rfl) ?_
  refine lv_aload_n hx hb dX7_mixedChance_93 rfl (lv_at hl 4 rfl) ?_
  obtain ⟨x_20, g_20, hf⟩ := b_some hf
  refine xx_gR hZ hE k_X7 12 (by decide) rfl tw_459 g_20 dX7_mixedChance_94 ?_
  refine lv_aload_n hx hb dX7_mixedChance_97 rfl (lv_at hl 4 rfl) ?_
  refine lv_aload_n hx hb dX7_mixedChance_98 rfl (lv_at hl 4 rfl) ?_
  obtain ⟨x_21, g_21, hf⟩ := b_some hf
  refine xx_gR hZ hE k_X7 7 (by decide) rfl tw_395 g_21 dX7_mixedChance_99 ?_
  refine lv_iload_n hx hb dX7_mixedChance_102 rfl (lv_at hl 5 rfl) ?_
  obtain ⟨x_22, g_22, hf⟩ := b_some hf
  refine xx_aI hZ hE g_22 dX7_mixedChance_103 ?_
  refine lv_iload_n hx hb dX7_mixedChance_104 rfl (lv_at hl 6 rfl) ?_
  refine lv_iload_n hx hb dX7_mixedChance_105 rfl (lv_at hl 7 rfl) ?_
  obtain ⟨_, i_23, hf⟩ := b_some hf
  obtain ⟨z_23, c_23, hf⟩ := b_some hf
  refine xx_cVi hZ hE (As := [.int x_22, .int a2, .int a3]) (rest := [.ref (ad x_20), .ref (ad o)]) k_X7 (is_m i_23) tw_462 tw_463 (c_X7_at l D cA ad o x_22 a2 a3 z_19 _ c_23) cw_X7_at tw_461 ⟨rfl, rfl⟩ ⟨Nat.le_of_ble_eq_true rfl, Nat.le_of_ble_eq_true rfl⟩ rfl hl.1 rfl (Nat.le_of_ble_eq_true rfl) ⟨Nat.le_of_ble_eq_true rfl, Nat.le_of_ble_eq_true rfl⟩ dX7_mixedChance_106 (fun H locs hE => ?_)
  obtain ⟨x_24, g_24, hf⟩ := b_some hf
  refine xx_aL hZ hE g_24 dX7_mixedChance_109 ?_
  refine lv_aload_n hx hb dX7_mixedChance_110 rfl (lv_at hl 4 rfl) ?_
  obtain ⟨x_25, g_25, hf⟩ := b_some hf
  refine xx_gR hZ hE k_X7 13 (by decide) rfl tw_460 g_25 dX7_mixedChance_111 ?_
  refine lv_aload_n hx hb dX7_mixedChance_114 rfl (lv_at hl 4 rfl) ?_
  refine lv_aload_n hx hb dX7_mixedChance_115 rfl (lv_at hl 4 rfl) ?_
  obtain ⟨x_26, g_26, hf⟩ := b_some hf
  refine xx_gR hZ hE k_X7 7 (by decide) rfl tw_395 g_26 dX7_mixedChance_116 ?_
  refine lv_iload_n hx hb dX7_mixedChance_119 rfl (lv_at hl 5 rfl) ?_
  obtain ⟨x_27, g_27, hf⟩ := b_some hf
  refine xx_aI hZ hE g_27 dX7_mixedChance_120 ?_
  refine lv_iload_n hx hb dX7_mixedChance_121 rfl (lv_at hl 6 rfl) ?_
  refine lv_iload_n hx hb dX7_mixedChance_122 rfl (lv_at hl 7 rfl) ?_
  obtain ⟨_, i_28, hf⟩ := b_some hf
  obtain ⟨z_28, c_28, hf⟩ := b_some hf
  refine xx_cVi hZ hE (As := [.int x_27, .int a2, .int a3]) (rest := [.ref (ad x_25), .long x_24, .ref (ad o)]) k_X7 (is_m i_28) tw_462 tw_463 (c_X7_at l D cA ad o x_27 a2 a3 z_19 _ c_28) cw_X7_at tw_461 ⟨rfl, rfl⟩ ⟨Nat.le_of_ble_eq_true rfl, Nat.le_of_ble_eq_true rfl⟩ rfl hl.1 rfl (Nat.le_of_ble_eq_true rfl) ⟨Nat.le_of_ble_eq_true rfl, Nat.le_of_ble_eq_true rfl⟩ dX7_mixedChance_123 (fun H locs hE => ?_)
  obtain ⟨x_29, g_29, hf⟩ := b_some hf
  refine xx_aL hZ hE g_29 dX7_mixedChance_126 ?_
  obtain ⟨_, i_30, hf⟩ := b_some hf
  obtain ⟨z_30, c_30, hf⟩ := b_some hf
  refine xx_cVv hZ hE (As := [.long x_24, .long x_29]) (rest := []) k_X7 (is_m i_30) tw_422 tw_423 (c_X7_times l D cA ad o x_24 x_29 z_19 _ c_30) cw_X7_times tw_421 ⟨rfl, rfl⟩ ⟨Nat.le_of_ble_eq_true rfl, Nat.le_of_ble_eq_true rfl⟩ rfl hl.1 rfl (Nat.le_of_ble_eq_true rfl) ⟨Nat.le_of_ble_eq_true rfl, Nat.le_of_ble_eq_true rfl⟩ dX7_mixedChance_127 (fun H locs hE => ?_)
  refine lv_aload_n hx hb dX7_mixedChance_130 rfl (lv_at hl 4 rfl) ?_
  obtain ⟨x_31, g_31, hf⟩ := b_some hf
  refine xx_gL hZ hE k_X7 21 (by decide) rfl tw_402 g_31 dX7_mixedChance_131 ?_
  refine lv_lstore (lv' := [(10, .long x_31), (8, .long x_18), (6, .long x_17), (5, .int x_4), (4, .int x_2), (0, .ref (ad o)), (1, .int a1), (2, .int a2), (3, .int a3)]) hx hb dX7_mixedChance_134 hl (by decide) rfl (fun ls hl => ?_)
  refine lv_aload_n hx hb dX7_mixedChance_136 rfl (lv_at hl 5 rfl) ?_
  obtain ⟨x_32, g_32, hf⟩ := b_some hf
  refine xx_gL hZ hE k_X7 22 (by decide) rfl tw_403 g_32 dX7_mixedChance_137 ?_
  refine lv_lstore (lv' := [(12, .long x_32), (10, .long x_31), (8, .long x_18), (6, .long x_17), (5, .int x_4), (4, .int x_2), (0, .ref (ad o)), (1, .int a1), (2, .int a2), (3, .int a3)]) hx hb dX7_mixedChance_140 hl (by decide) rfl (fun ls hl => ?_)
  refine lv_aload_n hx hb dX7_mixedChance_142 rfl (lv_at hl 6 rfl) ?_
  refine lv_lload hx hb dX7_mixedChance_143 (lv_at hl 3 rfl) ?_
  obtain ⟨M_33, g_33, hf⟩ := b_some hf
  refine xx_pL hZ hE k_X7 21 (by decide) rfl rfl rfl tw_402 g_33 dX7_mixedChance_145 (fun H locs hE => ?_)
  refine lv_aload_n hx hb dX7_mixedChance_148 rfl (lv_at hl 6 rfl) ?_
  refine lv_lload hx hb dX7_mixedChance_149 (lv_at hl 2 rfl) ?_
  obtain ⟨M_34, g_34, hf⟩ := b_some hf
  refine xx_pL hZ hE k_X7 22 (by decide) rfl rfl rfl tw_403 g_34 dX7_mixedChance_151 (fun H locs hE => ?_)
  refine lv_aload_n hx hb dX7_mixedChance_154 rfl (lv_at hl 6 rfl) ?_
  refine lv_lload hx hb dX7_mixedChance_155 (lv_at hl 1 rfl) ?_
  refine lv_lload hx hb dX7_mixedChance_157 (lv_at hl 0 rfl) ?_
  refine lv_iconst (v := 0) hx hb dX7_mixedChance_159 (by decide) ?_
  obtain ⟨_, i_35, hf⟩ := b_some hf
  obtain ⟨z_35, c_35, hf⟩ := b_some hf
  refine xx_cVv hZ hE (As := [.long x_31, .long x_32, .int (0 : Int32)]) (rest := []) k_X7 (is_m i_35) tw_428 tw_429 (c_X7_and l D cA ad o x_31 x_32 (0 : Int32) M_34 _ c_35) cw_X7_and tw_427 ⟨rfl, rfl⟩ ⟨Nat.le_of_ble_eq_true rfl, Nat.le_of_ble_eq_true rfl⟩ rfl hl.1 rfl (Nat.le_of_ble_eq_true rfl) ⟨Nat.le_of_ble_eq_true rfl, Nat.le_of_ble_eq_true rfl⟩ dX7_mixedChance_160 (fun H locs hE => ?_)
  exact hret _ _ _ _ _ (Option.some.inj hf) dX7_mixedChance_163 hE
def lp_X7_cycleChance_9 (k_133 : Int64 → Int64 → Mm → Option (Mm)) (i_0 : Nat) (i_1 : Int32) (i_2 : Int32) (i_3 : Int32) : Nat → Int64 → Int64 → Int32 → Mm → Option (Mm)
  | 0, _, _, _, _ => none
  | n_9 + 1, v_4, v_6, v_8, M =>
    (op_gI M 7 i_0 2).bind fun x_1 =>
    if x_1 ≤ v_8 then
    k_133 v_4 v_6 M
    else
    if v_6 ≤ (0 : Int64) then
    k_133 v_4 v_6 M
    else
    (op_gR M 7 i_0 6).bind fun x_4 =>
    (op_aI M x_4 i_1).bind fun x_5 =>
    (op_is M i_0 7).bind fun _ =>
    (f_X7_at i_0 x_5 i_2 v_8).bind fun z_6 =>
    (op_is M i_0 7).bind fun _ =>
    (f_X7_takes i_0 z_6 M).bind fun z_7 =>
    (op_gR z_7 7 i_0 12).bind fun x_8 =>
    (op_gR z_7 7 i_0 7).bind fun x_9 =>
    (op_aI z_7 x_9 i_1).bind fun x_10 =>
    (op_is z_7 i_0 7).bind fun _ =>
    (f_X7_at i_0 x_10 v_8 i_3).bind fun z_11 =>
    (op_aL z_7 x_8 z_11).bind fun x_12 =>
    (op_gR z_7 7 i_0 13).bind fun x_13 =>
    (op_gR z_7 7 i_0 7).bind fun x_14 =>
    (op_aI z_7 x_14 i_1).bind fun x_15 =>
    (op_is z_7 i_0 7).bind fun _ =>
    (f_X7_at i_0 x_15 v_8 i_3).bind fun z_16 =>
    (op_aL z_7 x_13 z_16).bind fun x_17 =>
    (op_is z_7 i_0 7).bind fun _ =>
    (f_X7_times i_0 x_12 x_17 z_7).bind fun z_18 =>
    (op_gL z_18 7 i_0 21).bind fun x_19 =>
    (op_gL z_18 7 i_0 22).bind fun x_20 =>
    (op_pL z_18 7 i_0 21 v_4).bind fun M_21 =>
    (op_pL M_21 7 i_0 22 v_6).bind fun M_22 =>
    (op_is M_22 i_0 7).bind fun _ =>
    (f_X7_and i_0 x_19 x_20 (0 : Int32) M_22).bind fun z_23 =>
    (op_gL z_23 7 i_0 21).bind fun x_24 =>
    (op_gL z_23 7 i_0 22).bind fun x_25 =>
    lp_X7_cycleChance_9 k_133 i_0 i_1 i_2 i_3 n_9 x_24 x_25 (v_8 + 1) z_23
theorem lp_X7_cycleChance_9_s (k_133 : Int64 → Int64 → Mm → Option (Mm)) (i_0 : Nat) (i_1 : Int32) (i_2 : Int32) (i_3 : Int32) {n_9 : Nat} {v_4 : Int64} {v_6 : Int64} {v_8 : Int32} {M : Mm} {zr : Mm} (hf : lp_X7_cycleChance_9 k_133 i_0 i_1 i_2 i_3 (n_9 + 1) v_4 v_6 v_8 M = some zr) : (
    (op_gI M 7 i_0 2).bind fun x_1 =>
    if x_1 ≤ v_8 then
    k_133 v_4 v_6 M
    else
    if v_6 ≤ (0 : Int64) then
    k_133 v_4 v_6 M
    else
    (op_gR M 7 i_0 6).bind fun x_4 =>
    (op_aI M x_4 i_1).bind fun x_5 =>
    (op_is M i_0 7).bind fun _ =>
    (f_X7_at i_0 x_5 i_2 v_8).bind fun z_6 =>
    (op_is M i_0 7).bind fun _ =>
    (f_X7_takes i_0 z_6 M).bind fun z_7 =>
    (op_gR z_7 7 i_0 12).bind fun x_8 =>
    (op_gR z_7 7 i_0 7).bind fun x_9 =>
    (op_aI z_7 x_9 i_1).bind fun x_10 =>
    (op_is z_7 i_0 7).bind fun _ =>
    (f_X7_at i_0 x_10 v_8 i_3).bind fun z_11 =>
    (op_aL z_7 x_8 z_11).bind fun x_12 =>
    (op_gR z_7 7 i_0 13).bind fun x_13 =>
    (op_gR z_7 7 i_0 7).bind fun x_14 =>
    (op_aI z_7 x_14 i_1).bind fun x_15 =>
    (op_is z_7 i_0 7).bind fun _ =>
    (f_X7_at i_0 x_15 v_8 i_3).bind fun z_16 =>
    (op_aL z_7 x_13 z_16).bind fun x_17 =>
    (op_is z_7 i_0 7).bind fun _ =>
    (f_X7_times i_0 x_12 x_17 z_7).bind fun z_18 =>
    (op_gL z_18 7 i_0 21).bind fun x_19 =>
    (op_gL z_18 7 i_0 22).bind fun x_20 =>
    (op_pL z_18 7 i_0 21 v_4).bind fun M_21 =>
    (op_pL M_21 7 i_0 22 v_6).bind fun M_22 =>
    (op_is M_22 i_0 7).bind fun _ =>
    (f_X7_and i_0 x_19 x_20 (0 : Int32) M_22).bind fun z_23 =>
    (op_gL z_23 7 i_0 21).bind fun x_24 =>
    (op_gL z_23 7 i_0 22).bind fun x_25 =>
    lp_X7_cycleChance_9 k_133 i_0 i_1 i_2 i_3 n_9 x_24 x_25 (v_8 + 1) z_23) = some zr := hf
theorem lp_X7_cycleChance_9_k {k_133 : Int64 → Int64 → Mm → Option (Mm)} {i_0 : Nat} {i_1 : Int32} {i_2 : Int32} {i_3 : Int32} {n : Nat} {v_4 : Int64} {v_6 : Int64} {v_8 : Int32} {M : Mm} {zr : Mm} (hf : lp_X7_cycleChance_9 k_133 i_0 i_1 i_2 i_3 n v_4 v_6 v_8 M = some zr) : ∃ (m_133 : Int64 → Int64 → Mm → Option (Mm)), m_133 = k_133 ∧ lp_X7_cycleChance_9 m_133 i_0 i_1 i_2 i_3 n v_4 v_6 v_8 M = some zr := ⟨k_133, rfl, hf⟩
def rm_X7_cycleChance : Room := { frames := 3, cells := 0, slots := 0, locals := 86 }
def f_X7_cycleChance (o : Nat) (a1 : Int32) (a2 : Int32) (a3 : Int32) (M : Mm) : Option (Mm) :=
    lp_X7_cycleChance_9 (fun (l_27_4 : Int64) (l_27_6 : Int64) (M_27 : Mm) =>
    (op_pL M_27 7 o 21 l_27_4).bind fun M_28 =>
    (op_pL M_28 7 o 22 l_27_6).bind fun M_29 =>
    some M_29) o a1 a2 a3 FU (0 : Int64) (1 : Int64) (0 : Int32) M
set_option maxHeartbeats 4000000 in
set_option maxRecDepth 100000 in
theorem c_X7_cycleChance (l : Launch) (D : va_G) (cA : Nat → ClassId) (ad : Nat → Nat) (o : Nat) (a1 : Int32) (a2 : Int32) (a3 : Int32) (M : Mm) (zr : Mm) (hf : f_X7_cycleChance o a1 a2 a3 M = some zr) : KV l yX7_cycleChance cX7_cycleChance 13 none rm_X7_cycleChance D cA ad [.ref (ad o), .int a1, .int a2, .int a3] M zr := by
  refine KV_of (by decide) (Nat.le_of_ble_eq_true rfl) ?_
  intro p e s m args below meth c ls Q A H locs hZ hE hl hret
  have hx := hZ.1
  have hb := hZ.2.1
  have hown := hZ.2.2.2.1
  have hts := hZ.2.2.2.2.1
  have hl : lv_has ls 13 [(0, .ref (ad o)), (1, .int a1), (2, .int a2), (3, .int a3)] := hl
  unfold f_X7_cycleChance at hf
  refine lv_lconst (v := 0) hx hb dX7_cycleChance_0 (by decide) ?_
  refine lv_lstore (lv' := [(4, .long (0 : Int64)), (0, .ref (ad o)), (1, .int a1), (2, .int a2), (3, .int a3)]) hx hb dX7_cycleChance_1 hl (by decide) rfl (fun ls hl => ?_)
  refine lv_lconst (v := 1) hx hb dX7_cycleChance_3 (by decide) ?_
  refine lv_lstore (lv' := [(6, .long (1 : Int64)), (4, .long (0 : Int64)), (0, .ref (ad o)), (1, .int a1), (2, .int a2), (3, .int a3)]) hx hb dX7_cycleChance_4 hl (by decide) rfl (fun ls hl => ?_)
  refine lv_iconst (v := 0) hx hb dX7_cycleChance_6 (by decide) ?_
  refine lv_istore (lv' := [(8, .int (0 : Int32)), (6, .long (1 : Int64)), (4, .long (0 : Int64)), (0, .ref (ad o)), (1, .int a1), (2, .int a2), (3, .int a3)]) hx hb dX7_cycleChance_7 hl (by decide) rfl (fun ls hl => ?_)
  obtain ⟨k_133_27, ek_133_27, hf⟩ := lp_X7_cycleChance_9_k hf
  have o_133_27 : ∀ (l_27_4 : Int64) (l_27_6 : Int64) (M_27 : Mm) (H : Heap) (locs : List Loc) (ls : Array Slot), k_133_27 l_27_4 l_27_6 M_27 = some zr → En D cA ad s A M_27 H locs → lv_has ls 13 [(0, .ref (ad o)), (4, .long l_27_4), (6, .long l_27_6)] → W p l e rm_X7_cycleChance s m args below meth c H locs 0 0 Q (F0 m 133 ls []) := by
    intro l_27_4 l_27_6 M_27 H locs ls hf hE hl
    rw [ek_133_27] at hf
    refine lv_aload_n hx hb dX7_cycleChance_133 rfl (lv_at hl 0 rfl) ?_
    refine lv_lload hx hb dX7_cycleChance_134 (lv_at hl 1 rfl) ?_
    obtain ⟨M_28, g_28, hf⟩ := b_some hf
    refine xx_pL hZ hE k_X7 21 (by decide) rfl rfl rfl tw_402 g_28 dX7_cycleChance_136 (fun H locs hE => ?_)
    refine lv_aload_n hx hb dX7_cycleChance_139 rfl (lv_at hl 0 rfl) ?_
    refine lv_lload hx hb dX7_cycleChance_140 (lv_at hl 2 rfl) ?_
    obtain ⟨M_29, g_29, hf⟩ := b_some hf
    refine xx_pL hZ hE k_X7 22 (by decide) rfl rfl rfl tw_403 g_29 dX7_cycleChance_142 (fun H locs hE => ?_)
    exact hret _ _ _ _ _ (Option.some.inj hf) dX7_cycleChance_145 hE
  have L_26 : ∀ (n_9 : Nat) (w_26_4 : Int64) (w_26_6 : Int64) (w_26_8 : Int32) (M_26 : Mm) (H : Heap) (locs : List Loc) (ls : Array Slot), lp_X7_cycleChance_9 k_133_27 o a1 a2 a3 n_9 w_26_4 w_26_6 w_26_8 M_26 = some zr → En D cA ad s A M_26 H locs → lv_has ls 13 [(0, .ref (ad o)), (1, .int a1), (2, .int a2), (3, .int a3), (4, .long w_26_4), (6, .long w_26_6), (8, .int w_26_8)] → W p l e rm_X7_cycleChance s m args below meth c H locs 0 0 Q (F0 m 9 ls []) := by
    intro n_9
    induction n_9 with
    | zero =>
      intro w_26_4 w_26_6 w_26_8 M_26 H locs ls hf
      cases (show (none : Option (Mm)) = some zr from hf)
    | succ n_9 ih_9 =>
      intro w_26_4 w_26_6 w_26_8 M_26 H locs ls hf hE hl
      have hf := lp_X7_cycleChance_9_s _ _ _ _ _ hf
      refine lv_iload hx hb dX7_cycleChance_9 (lv_at hl 6 rfl) ?_
      refine lv_aload_n hx hb dX7_cycleChance_11 rfl (lv_at hl 0 rfl) ?_
      obtain ⟨x_30, g_30, hf⟩ := b_some hf
      refine xx_gI hZ hE k_X7 2 (by decide) rfl tw_363 g_30 dX7_cycleChance_12 ?_
      refine lv_icmp_ge (tgt := 133) hx hb dX7_cycleChance_15 (by decide) (fun h_31 => ?_) (fun h_31 => ?_)
      · have hf := it_y h_31 hf
        exact o_133_27 _ _ _ _ _ _ hf hE (lv_sub hl [0, 4, 5] rfl)
      · have hf := it_n h_31 hf
        refine lv_lload hx hb dX7_cycleChance_18 (lv_at hl 5 rfl) ?_
        refine lv_lconst (v := 0) hx hb dX7_cycleChance_20 (by decide) ?_
        refine xx_lle (tgt := 133) hx hb dX7_cycleChance_21 dX7_cycleChance_22 (by decide) (fun h_32 => ?_) (fun h_32 => ?_)
        · have hf := it_y h_32 hf
          exact o_133_27 _ _ _ _ _ _ hf hE (lv_sub hl [0, 4, 5] rfl)
        · have hf := it_n h_32 hf
          refine lv_aload_n hx hb dX7_cycleChance_25 rfl (lv_at hl 0 rfl) ?_
          refine lv_aload_n hx hb dX7_cycleChance_26 rfl (lv_at hl 0 rfl) ?_
          refine lv_aload_n hx hb dX7_cycleChance_27 rfl (lv_at hl 0 rfl) ?_
          obtain ⟨x_33, g_33, hf⟩ := b_some hf
          refine xx_gR hZ hE k_X7 6 (by decide) rfl tw_394 g_33 dX7_cycleChance_28 ?_
          refine lv_iload_n hx hb dX7_cycleChance_31 rfl (lv_at hl 1 rfl) ?_
          obtain ⟨x_34, g_34, hf⟩ := b_some hf
          refine xx_aI hZ hE g_34 dX7_cycleChance_32 ?_
          refine lv_iload_n hx hb dX7_cycleChance_33 rfl (lv_at hl 2 rfl) ?_
          refine lv_iload hx hb dX7_cycleChance_34 (lv_at hl 6 rfl) ?_
          obtain ⟨_, i_35, hf⟩ := b_some hf
          obtain ⟨z_35, c_35, hf⟩ := b_some hf
          refine xx_cVi hZ hE (As := [.int x_34, .int a2, .int w_26_8]) (rest := [.ref (ad o)]) k_X7 (is_m i_35) tw_462 tw_463 (c_X7_at l D cA ad o x_34 a2 w_26_8 M_26 _ c_35) cw_X7_at tw_461 ⟨rfl, rfl⟩ ⟨Nat.le_of_ble_eq_true rfl, Nat.le_of_ble_eq_true rfl⟩ rfl hl.1 rfl (Nat.le_of_ble_eq_true rfl) ⟨Nat.le_of_ble_eq_true rfl, Nat.le_of_ble_eq_true rfl⟩ dX7_cycleChance_36 (fun H locs hE => ?_)
          obtain ⟨_, i_36, hf⟩ := b_some hf
          obtain ⟨z_36, c_36, hf⟩ := b_some hf
          refine xx_cVv hZ hE (As := [.int z_35]) (rest := []) k_X7 (is_m i_36) tw_465 tw_466 (c_X7_takes l D cA ad o z_35 M_26 _ c_36) cw_X7_takes tw_464 ⟨rfl, rfl⟩ ⟨Nat.le_of_ble_eq_true rfl, Nat.le_of_ble_eq_true rfl⟩ rfl hl.1 rfl (Nat.le_of_ble_eq_true rfl) ⟨Nat.le_of_ble_eq_true rfl, Nat.le_of_ble_eq_true rfl⟩ dX7_cycleChance_39 (fun H locs hE => ?_)
          refine lv_aload_n hx hb dX7_cycleChance_42 rfl (lv_at hl 0 rfl) ?_
          refine lv_aload_n hx hb dX7_cycleChance_43 rfl (lv_at hl 0 rfl) ?_
          obtain ⟨x_37, g_37, hf⟩ := b_some hf
          refine xx_gR hZ hE k_X7 12 (by decide) rfl tw_459 g_37 dX7_cycleChance_44 ?_
          refine lv_aload_n hx hb dX7_cycleChance_47 rfl (lv_at hl 0 rfl) ?_
          refine lv_aload_n hx hb dX7_cycleChance_48 rfl (lv_at hl 0 rfl) ?_
          obtain ⟨x_38, g_38, hf⟩ := b_some hf
          refine xx_gR hZ hE k_X7 7 (by decide) rfl tw_395 g_38 dX7_cycleChance_49 ?_
          refine lv_iload_n hx hb dX7_cycleChance_52 rfl (lv_at hl 1 rfl) ?_
          obtain ⟨x_39, g_39, hf⟩ := b_some hf
          refine xx_aI hZ hE g_39 dX7_cycleChance_53 ?_
          refine lv_iload hx hb dX7_cycleChance_54 (lv_at hl 6 rfl) ?_
          refine lv_iload_n hx hb dX7_cycleChance_56 rfl (lv_at hl 3 rfl) ?_
          obtain ⟨_, i_40, hf⟩ := b_some hf
          obtain ⟨z_40, c_40, hf⟩ := b_some hf
          refine xx_cVi hZ hE (As := [.int x_39, .int w_26_8, .int a3]) (rest := [.ref (ad x_37), .ref (ad o)]) k_X7 (is_m i_40) tw_462 tw_463 (c_X7_at l D cA ad o x_39 w_26_8 a3 z_36 _ c_40) cw_X7_at tw_461 ⟨rfl, rfl⟩ ⟨Nat.le_of_ble_eq_true rfl, Nat.le_of_ble_eq_true rfl⟩ rfl hl.1 rfl (Nat.le_of_ble_eq_true rfl) ⟨Nat.le_of_ble_eq_true rfl, Nat.le_of_ble_eq_true rfl⟩ dX7_cycleChance_57 (fun H locs hE => ?_)
          obtain ⟨x_41, g_41, hf⟩ := b_some hf
          refine xx_aL hZ hE g_41 dX7_cycleChance_60 ?_
          refine lv_aload_n hx hb dX7_cycleChance_61 rfl (lv_at hl 0 rfl) ?_
          obtain ⟨x_42, g_42, hf⟩ := b_some hf
          refine xx_gR hZ hE k_X7 13 (by decide) rfl tw_460 g_42 dX7_cycleChance_62 ?_
          refine lv_aload_n hx hb dX7_cycleChance_65 rfl (lv_at hl 0 rfl) ?_
          refine lv_aload_n hx hb dX7_cycleChance_66 rfl (lv_at hl 0 rfl) ?_
          obtain ⟨x_43, g_43, hf⟩ := b_some hf
          refine xx_gR hZ hE k_X7 7 (by decide) rfl tw_395 g_43 dX7_cycleChance_67 ?_
          refine lv_iload_n hx hb dX7_cycleChance_70 rfl (lv_at hl 1 rfl) ?_
          obtain ⟨x_44, g_44, hf⟩ := b_some hf
          refine xx_aI hZ hE g_44 dX7_cycleChance_71 ?_
          refine lv_iload hx hb dX7_cycleChance_72 (lv_at hl 6 rfl) ?_
          refine lv_iload_n hx hb dX7_cycleChance_74 rfl (lv_at hl 3 rfl) ?_
          obtain ⟨_, i_45, hf⟩ := b_some hf
          obtain ⟨z_45, c_45, hf⟩ := b_some hf
          refine xx_cVi hZ hE (As := [.int x_44, .int w_26_8, .int a3]) (rest := [.ref (ad x_42), .long x_41, .ref (ad o)]) k_X7 (is_m i_45) tw_462 tw_463 (c_X7_at l D cA ad o x_44 w_26_8 a3 z_36 _ c_45) cw_X7_at tw_461 ⟨rfl, rfl⟩ ⟨Nat.le_of_ble_eq_true rfl, Nat.le_of_ble_eq_true rfl⟩ rfl hl.1 rfl (Nat.le_of_ble_eq_true rfl) ⟨Nat.le_of_ble_eq_true rfl, Nat.le_of_ble_eq_true rfl⟩ dX7_cycleChance_75 (fun H locs hE => ?_)
          obtain ⟨x_46, g_46, hf⟩ := b_some hf
          refine xx_aL hZ hE g_46 dX7_cycleChance_78 ?_
          obtain ⟨_, i_47, hf⟩ := b_some hf
          obtain ⟨z_47, c_47, hf⟩ := b_some hf
          refine xx_cVv hZ hE (As := [.long x_41, .long x_46]) (rest := []) k_X7 (is_m i_47) tw_422 tw_423 (c_X7_times l D cA ad o x_41 x_46 z_36 _ c_47) cw_X7_times tw_421 ⟨rfl, rfl⟩ ⟨Nat.le_of_ble_eq_true rfl, Nat.le_of_ble_eq_true rfl⟩ rfl hl.1 rfl (Nat.le_of_ble_eq_true rfl) ⟨Nat.le_of_ble_eq_true rfl, Nat.le_of_ble_eq_true rfl⟩ dX7_cycleChance_79 (fun H locs hE => ?_)
          refine lv_aload_n hx hb dX7_cycleChance_82 rfl (lv_at hl 0 rfl) ?_
          obtain ⟨x_48, g_48, hf⟩ := b_some hf
          refine xx_gL hZ hE k_X7 21 (by decide) rfl tw_402 g_48 dX7_cycleChance_83 ?_
          refine lv_lstore (lv' := [(9, .long x_48), (0, .ref (ad o)), (1, .int a1), (2, .int a2), (3, .int a3), (4, .long w_26_4), (6, .long w_26_6), (8, .int w_26_8)]) hx hb dX7_cycleChance_86 hl (by decide) rfl (fun ls hl => ?_)
          refine lv_aload_n hx hb dX7_cycleChance_88 rfl (lv_at hl 1 rfl) ?_
          obtain ⟨x_49, g_49, hf⟩ := b_some hf
          refine xx_gL hZ hE k_X7 22 (by decide) rfl tw_403 g_49 dX7_cycleChance_89 ?_
          refine lv_lstore (lv' := [(11, .long x_49), (9, .long x_48), (0, .ref (ad o)), (1, .int a1), (2, .int a2), (3, .int a3), (4, .long w_26_4), (6, .long w_26_6), (8, .int w_26_8)]) hx hb dX7_cycleChance_92 hl (by decide) rfl (fun ls hl => ?_)
          refine lv_aload_n hx hb dX7_cycleChance_94 rfl (lv_at hl 2 rfl) ?_
          refine lv_lload hx hb dX7_cycleChance_95 (lv_at hl 6 rfl) ?_
          obtain ⟨M_50, g_50, hf⟩ := b_some hf
          refine xx_pL hZ hE k_X7 21 (by decide) rfl rfl rfl tw_402 g_50 dX7_cycleChance_97 (fun H locs hE => ?_)
          refine lv_aload_n hx hb dX7_cycleChance_100 rfl (lv_at hl 2 rfl) ?_
          refine lv_lload hx hb dX7_cycleChance_101 (lv_at hl 7 rfl) ?_
          obtain ⟨M_51, g_51, hf⟩ := b_some hf
          refine xx_pL hZ hE k_X7 22 (by decide) rfl rfl rfl tw_403 g_51 dX7_cycleChance_103 (fun H locs hE => ?_)
          refine lv_aload_n hx hb dX7_cycleChance_106 rfl (lv_at hl 2 rfl) ?_
          refine lv_lload hx hb dX7_cycleChance_107 (lv_at hl 1 rfl) ?_
          refine lv_lload hx hb dX7_cycleChance_109 (lv_at hl 0 rfl) ?_
          refine lv_iconst (v := 0) hx hb dX7_cycleChance_111 (by decide) ?_
          obtain ⟨_, i_52, hf⟩ := b_some hf
          obtain ⟨z_52, c_52, hf⟩ := b_some hf
          refine xx_cVv hZ hE (As := [.long x_48, .long x_49, .int (0 : Int32)]) (rest := []) k_X7 (is_m i_52) tw_428 tw_429 (c_X7_and l D cA ad o x_48 x_49 (0 : Int32) M_51 _ c_52) cw_X7_and tw_427 ⟨rfl, rfl⟩ ⟨Nat.le_of_ble_eq_true rfl, Nat.le_of_ble_eq_true rfl⟩ rfl hl.1 rfl (Nat.le_of_ble_eq_true rfl) ⟨Nat.le_of_ble_eq_true rfl, Nat.le_of_ble_eq_true rfl⟩ dX7_cycleChance_112 (fun H locs hE => ?_)
          refine lv_aload_n hx hb dX7_cycleChance_115 rfl (lv_at hl 2 rfl) ?_
          obtain ⟨x_53, g_53, hf⟩ := b_some hf
          refine xx_gL hZ hE k_X7 21 (by decide) rfl tw_402 g_53 dX7_cycleChance_116 ?_
          refine lv_lstore (lv' := [(4, .long x_53), (11, .long x_49), (9, .long x_48), (0, .ref (ad o)), (1, .int a1), (2, .int a2), (3, .int a3), (6, .long w_26_6), (8, .int w_26_8)]) hx hb dX7_cycleChance_119 hl (by decide) rfl (fun ls hl => ?_)
          refine lv_aload_n hx hb dX7_cycleChance_121 rfl (lv_at hl 3 rfl) ?_
          obtain ⟨x_54, g_54, hf⟩ := b_some hf
          refine xx_gL hZ hE k_X7 22 (by decide) rfl tw_403 g_54 dX7_cycleChance_122 ?_
          refine lv_lstore (lv' := [(6, .long x_54), (4, .long x_53), (11, .long x_49), (9, .long x_48), (0, .ref (ad o)), (1, .int a1), (2, .int a2), (3, .int a3), (8, .int w_26_8)]) hx hb dX7_cycleChance_125 hl (by decide) rfl (fun ls hl => ?_)
          refine lv_iinc (v := (w_26_8 + 1)) (lv' := [(8, .int (w_26_8 + 1)), (6, .long x_54), (4, .long x_53), (11, .long x_49), (9, .long x_48), (0, .ref (ad o)), (1, .int a1), (2, .int a2), (3, .int a3)]) hx hb dX7_cycleChance_127 hl (k := 8) rfl rfl (by decide) rfl (fun ls hl => ?_)
          refine lv_goto (tgt := 9) hx hb dX7_cycleChance_130 (by decide) ?_
          exact ih_9 _ _ _ _ _ _ _ hf hE (lv_sub hl [5, 6, 7, 8, 2, 1, 0] rfl)
  exact L_26 _ _ _ _ _ _ _ _ hf hE (lv_sub hl [3, 4, 5, 6, 2, 1, 0] rfl)
def lp_X7_want_2 (k_30 : Mm → Option (Mm)) (i_0 : Nat) (i_1 : Int32) : Nat → Int32 → Mm → Option (Mm)
  | 0, _, _ => none
  | n_2 + 1, v_2, M =>
    if (10 : Int32) ≤ v_2 then
    k_30 M
    else
    (op_gR M 7 i_0 16).bind fun x_2 =>
    (op_sZ M x_2 v_2 (if v_2 = i_1 then (1 : Int32) else (0 : Int32))).bind fun M_4 =>
    lp_X7_want_2 k_30 i_0 i_1 n_2 (v_2 + 1) M_4
theorem lp_X7_want_2_s (k_30 : Mm → Option (Mm)) (i_0 : Nat) (i_1 : Int32) {n_2 : Nat} {v_2 : Int32} {M : Mm} {zr : Mm} (hf : lp_X7_want_2 k_30 i_0 i_1 (n_2 + 1) v_2 M = some zr) : (
    if (10 : Int32) ≤ v_2 then
    k_30 M
    else
    (op_gR M 7 i_0 16).bind fun x_2 =>
    (op_sZ M x_2 v_2 (if v_2 = i_1 then (1 : Int32) else (0 : Int32))).bind fun M_4 =>
    lp_X7_want_2 k_30 i_0 i_1 n_2 (v_2 + 1) M_4) = some zr := hf
def lp_X7_want_32 (i_0 : Nat) : Nat → Int32 → Mm → Option (Mm)
  | 0, _, _ => none
  | n_32 + 1, v_2, M =>
    if v_2 < 0 then
    some M
    else
    (op_gR M 7 i_0 16).bind fun x_9 =>
    (op_aZ M x_9 v_2).bind fun x_10 =>
    op_jn (fun (M_11 : Mm) =>
    lp_X7_want_32 i_0 n_32 (v_2 + (-1)) M_11)
    fun j_11 =>
    if x_10 = 0 then
    j_11 M
    else
    (op_gR M 7 i_0 5).bind fun x_13 =>
    (op_aI M x_13 v_2).bind fun x_14 =>
    if x_14 < (5 : Int32) then
    j_11 M
    else
    (op_gR M 7 i_0 16).bind fun x_16 =>
    (op_gR M 7 i_0 6).bind fun x_17 =>
    (op_aI M x_17 v_2).bind fun x_18 =>
    (op_sZ M x_16 x_18 (1 : Int32)).bind fun M_19 =>
    (op_gR M_19 7 i_0 16).bind fun x_20 =>
    (op_gR M_19 7 i_0 7).bind fun x_21 =>
    (op_aI M_19 x_21 v_2).bind fun x_22 =>
    (op_sZ M_19 x_20 x_22 (1 : Int32)).bind fun M_23 =>
    j_11 M_23
theorem lp_X7_want_32_s (i_0 : Nat) {n_32 : Nat} {v_2 : Int32} {M : Mm} {zr : Mm} (hf : lp_X7_want_32 i_0 (n_32 + 1) v_2 M = some zr) : (
    if v_2 < 0 then
    some M
    else
    (op_gR M 7 i_0 16).bind fun x_9 =>
    (op_aZ M x_9 v_2).bind fun x_10 =>
    op_jn (fun (M_11 : Mm) =>
    lp_X7_want_32 i_0 n_32 (v_2 + (-1)) M_11)
    fun j_11 =>
    if x_10 = 0 then
    j_11 M
    else
    (op_gR M 7 i_0 5).bind fun x_13 =>
    (op_aI M x_13 v_2).bind fun x_14 =>
    if x_14 < (5 : Int32) then
    j_11 M
    else
    (op_gR M 7 i_0 16).bind fun x_16 =>
    (op_gR M 7 i_0 6).bind fun x_17 =>
    (op_aI M x_17 v_2).bind fun x_18 =>
    (op_sZ M x_16 x_18 (1 : Int32)).bind fun M_19 =>
    (op_gR M_19 7 i_0 16).bind fun x_20 =>
    (op_gR M_19 7 i_0 7).bind fun x_21 =>
    (op_aI M_19 x_21 v_2).bind fun x_22 =>
    (op_sZ M_19 x_20 x_22 (1 : Int32)).bind fun M_23 =>
    j_11 M_23) = some zr := hf
theorem lp_X7_want_2_k {k_30 : Mm → Option (Mm)} {i_0 : Nat} {i_1 : Int32} {n : Nat} {v_2 : Int32} {M : Mm} {zr : Mm} (hf : lp_X7_want_2 k_30 i_0 i_1 n v_2 M = some zr) : ∃ (m_30 : Mm → Option (Mm)), m_30 = k_30 ∧ lp_X7_want_2 m_30 i_0 i_1 n v_2 M = some zr := ⟨k_30, rfl, hf⟩
def rm_X7_want : Room := { frames := 0, cells := 0, slots := 0, locals := 0 }
def f_X7_want (o : Nat) (a1 : Int32) (M : Mm) : Option (Mm) :=
    lp_X7_want_2 (fun (M_7 : Mm) =>
    lp_X7_want_32  o FU a1 M_7) o a1 FU (0 : Int32) M
set_option maxHeartbeats 4000000 in
set_option maxRecDepth 100000 in
theorem c_X7_want (l : Launch) (D : va_G) (cA : Nat → ClassId) (ad : Nat → Nat) (o : Nat) (a1 : Int32) (M : Mm) (zr : Mm) (hf : f_X7_want o a1 M = some zr) : KV l yX7_want cX7_want 3 none rm_X7_want D cA ad [.ref (ad o), .int a1] M zr := by
  refine KV_of (by decide) (Nat.le_of_ble_eq_true rfl) ?_
  intro p e s m args below meth c ls Q A H locs hZ hE hl hret
  have hx := hZ.1
  have hb := hZ.2.1
  have hown := hZ.2.2.2.1
  have hts := hZ.2.2.2.2.1
  have hl : lv_has ls 3 [(0, .ref (ad o)), (1, .int a1)] := hl
  unfold f_X7_want at hf
  refine lv_iconst (v := 0) hx hb dX7_want_0 (by decide) ?_
  refine lv_istore_n (lv' := [(2, .int (0 : Int32)), (0, .ref (ad o)), (1, .int a1)]) hx hb dX7_want_1 rfl hl (by decide) rfl (fun ls hl => ?_)
  obtain ⟨k_30_7, ek_30_7, hf⟩ := lp_X7_want_2_k hf
  have o_30_7 : ∀ (M_7 : Mm) (H : Heap) (locs : List Loc) (ls : Array Slot), k_30_7 M_7 = some zr → En D cA ad s A M_7 H locs → lv_has ls 3 [(0, .ref (ad o)), (1, .int a1)] → W p l e rm_X7_want s m args below meth c H locs 0 0 Q (F0 m 30 ls []) := by
    intro M_7 H locs ls hf hE hl
    rw [ek_30_7] at hf
    refine lv_iload_n hx hb dX7_want_30 rfl (lv_at hl 1 rfl) ?_
    refine lv_istore_n (lv' := [(2, .int a1), (0, .ref (ad o)), (1, .int a1)]) hx hb dX7_want_31 rfl hl (by decide) rfl (fun ls hl => ?_)
    have L_24 : ∀ (n_32 : Nat) (w_24_2 : Int32) (M_24 : Mm) (H : Heap) (locs : List Loc) (ls : Array Slot), lp_X7_want_32 o n_32 w_24_2 M_24 = some zr → En D cA ad s A M_24 H locs → lv_has ls 3 [(0, .ref (ad o)), (2, .int w_24_2)] → W p l e rm_X7_want s m args below meth c H locs 0 0 Q (F0 m 32 ls []) := by
      intro n_32
      induction n_32 with
      | zero =>
        intro w_24_2 M_24 H locs ls hf
        cases (show (none : Option (Mm)) = some zr from hf)
      | succ n_32 ih_32 =>
        intro w_24_2 M_24 H locs ls hf hE hl
        have hf := lp_X7_want_32_s _ hf
        refine lv_iload_n hx hb dX7_want_32 rfl (lv_at hl 1 rfl) ?_
        refine lv_if_lt (tgt := 85) hx hb dX7_want_33 (by decide) (fun h_25 => ?_) (fun h_25 => ?_)
        · have hf := it_y h_25 hf
          exact hret _ _ _ _ _ (Option.some.inj hf) dX7_want_85 hE
        · have hf := it_n h_25 hf
          refine lv_aload_n hx hb dX7_want_36 rfl (lv_at hl 0 rfl) ?_
          obtain ⟨x_26, g_26, hf⟩ := b_some hf
          refine xx_gR hZ hE k_X7 16 (by decide) rfl tw_467 g_26 dX7_want_37 ?_
          refine lv_iload_n hx hb dX7_want_40 rfl (lv_at hl 1 rfl) ?_
          obtain ⟨x_27, g_27, hf⟩ := b_some hf
          refine xx_aZ hZ hE g_27 dX7_want_41 ?_
          obtain ⟨j_28, ej_28, hf⟩ := jn_e hf
          have q_28 : ∀ (M_28 : Mm) (H : Heap) (locs : List Loc) (ls : Array Slot), j_28 M_28 = some zr → En D cA ad s A M_28 H locs → lv_has ls 3 [(0, .ref (ad o)), (2, .int w_24_2)] → W p l e rm_X7_want s m args below meth c H locs 0 0 Q (F0 m 79 ls []) := by
            intro M_28 H locs ls hf hE hl
            rw [ej_28] at hf
            refine lv_iinc (v := (w_24_2 + (-1))) (lv' := [(2, .int (w_24_2 + (-1))), (0, .ref (ad o))]) hx hb dX7_want_79 hl (k := 1) rfl rfl (by decide) rfl (fun ls hl => ?_)
            refine lv_goto (tgt := 32) hx hb dX7_want_82 (by decide) ?_
            exact ih_32 _ _ _ _ _ hf hE (lv_sub hl [1, 0] rfl)
          refine lv_if_eq (tgt := 79) hx hb dX7_want_42 (by decide) (fun h_29 => ?_) (fun h_29 => ?_)
          · have hf := it_y h_29 hf
            exact q_28 _ _ _ _ hf hE (lv_sub hl [0, 1] rfl)
          · have hf := it_n h_29 hf
            refine lv_aload_n hx hb dX7_want_45 rfl (lv_at hl 0 rfl) ?_
            obtain ⟨x_30, g_30, hf⟩ := b_some hf
            refine xx_gR hZ hE k_X7 5 (by decide) rfl tw_393 g_30 dX7_want_46 ?_
            refine lv_iload_n hx hb dX7_want_49 rfl (lv_at hl 1 rfl) ?_
            obtain ⟨x_31, g_31, hf⟩ := b_some hf
            refine xx_aI hZ hE g_31 dX7_want_50 ?_
            refine lv_iconst (v := 5) hx hb dX7_want_51 (by decide) ?_
            refine lv_icmp_lt (tgt := 79) hx hb dX7_want_52 (by decide) (fun h_32 => ?_) (fun h_32 => ?_)
            · have hf := it_y h_32 hf
              exact q_28 _ _ _ _ hf hE (lv_sub hl [0, 1] rfl)
            · have hf := it_n h_32 hf
              refine lv_aload_n hx hb dX7_want_55 rfl (lv_at hl 0 rfl) ?_
              obtain ⟨x_33, g_33, hf⟩ := b_some hf
              refine xx_gR hZ hE k_X7 16 (by decide) rfl tw_467 g_33 dX7_want_56 ?_
              refine lv_aload_n hx hb dX7_want_59 rfl (lv_at hl 0 rfl) ?_
              obtain ⟨x_34, g_34, hf⟩ := b_some hf
              refine xx_gR hZ hE k_X7 6 (by decide) rfl tw_394 g_34 dX7_want_60 ?_
              refine lv_iload_n hx hb dX7_want_63 rfl (lv_at hl 1 rfl) ?_
              obtain ⟨x_35, g_35, hf⟩ := b_some hf
              refine xx_aI hZ hE g_35 dX7_want_64 ?_
              refine lv_iconst (v := 1) hx hb dX7_want_65 (by decide) ?_
              obtain ⟨M_36, g_36, hf⟩ := b_some hf
              refine xx_sZ hZ hE g_36 dX7_want_66 (fun H locs hE => ?_)
              refine lv_aload_n hx hb dX7_want_67 rfl (lv_at hl 0 rfl) ?_
              obtain ⟨x_37, g_37, hf⟩ := b_some hf
              refine xx_gR hZ hE k_X7 16 (by decide) rfl tw_467 g_37 dX7_want_68 ?_
              refine lv_aload_n hx hb dX7_want_71 rfl (lv_at hl 0 rfl) ?_
              obtain ⟨x_38, g_38, hf⟩ := b_some hf
              refine xx_gR hZ hE k_X7 7 (by decide) rfl tw_395 g_38 dX7_want_72 ?_
              refine lv_iload_n hx hb dX7_want_75 rfl (lv_at hl 1 rfl) ?_
              obtain ⟨x_39, g_39, hf⟩ := b_some hf
              refine xx_aI hZ hE g_39 dX7_want_76 ?_
              refine lv_iconst (v := 1) hx hb dX7_want_77 (by decide) ?_
              obtain ⟨M_40, g_40, hf⟩ := b_some hf
              refine xx_sZ hZ hE g_40 dX7_want_78 (fun H locs hE => ?_)
              exact q_28 _ _ _ _ hf hE (lv_sub hl [0, 1] rfl)
    exact L_24 _ _ _ _ _ _ hf hE (lv_sub hl [1, 0] rfl)
  have L_6 : ∀ (n_2 : Nat) (w_6_2 : Int32) (M_6 : Mm) (H : Heap) (locs : List Loc) (ls : Array Slot), lp_X7_want_2 k_30_7 o a1 n_2 w_6_2 M_6 = some zr → En D cA ad s A M_6 H locs → lv_has ls 3 [(0, .ref (ad o)), (1, .int a1), (2, .int w_6_2)] → W p l e rm_X7_want s m args below meth c H locs 0 0 Q (F0 m 2 ls []) := by
    intro n_2
    induction n_2 with
    | zero =>
      intro w_6_2 M_6 H locs ls hf
      cases (show (none : Option (Mm)) = some zr from hf)
    | succ n_2 ih_2 =>
      intro w_6_2 M_6 H locs ls hf hE hl
      have hf := lp_X7_want_2_s _ _ _ hf
      refine lv_iload_n hx hb dX7_want_2 rfl (lv_at hl 2 rfl) ?_
      refine lv_bipush (v := 10) hx hb dX7_want_3 (by decide) ?_
      refine lv_icmp_ge (tgt := 30) hx hb dX7_want_5 (by decide) (fun h_41 => ?_) (fun h_41 => ?_)
      · have hf := it_y h_41 hf
        exact o_30_7 _ _ _ _ hf hE (lv_sub hl [0, 1] rfl)
      · have hf := it_n h_41 hf
        refine lv_aload_n hx hb dX7_want_8 rfl (lv_at hl 0 rfl) ?_
        obtain ⟨x_42, g_42, hf⟩ := b_some hf
        refine xx_gR hZ hE k_X7 16 (by decide) rfl tw_467 g_42 dX7_want_9 ?_
        refine lv_iload_n hx hb dX7_want_12 rfl (lv_at hl 2 rfl) ?_
        refine lv_iload_n hx hb dX7_want_13 rfl (lv_at hl 2 rfl) ?_
        refine lv_iload_n hx hb dX7_want_14 rfl (lv_at hl 1 rfl) ?_
        have q_43 : ∀ x_43 : Int32, x_43 = (if w_6_2 = a1 then (1 : Int32) else (0 : Int32)) → W p l e rm_X7_want s m args below meth c H locs 0 0 Q (F0 m 23 ls [.int x_43, .int w_6_2, .ref (ad x_42)]) := by
          intro x_43 e_43
          subst e_43
          obtain ⟨M_44, g_44, hf⟩ := b_some hf
          refine xx_sZ hZ hE g_44 dX7_want_23 (fun H locs hE => ?_)
          refine lv_iinc (v := (w_6_2 + 1)) (lv' := [(2, .int (w_6_2 + 1)), (0, .ref (ad o)), (1, .int a1)]) hx hb dX7_want_24 hl (k := 2) rfl rfl (by decide) rfl (fun ls hl => ?_)
          refine lv_goto (tgt := 2) hx hb dX7_want_27 (by decide) ?_
          exact ih_2 _ _ _ _ _ hf hE (lv_sub hl [1, 2, 0] rfl)
        refine lv_icmp_ne (tgt := 22) hx hb dX7_want_15 (by decide) (fun h_45 => ?_) (fun h_45 => ?_)
        · refine lv_iconst (v := 0) hx hb dX7_want_22 (by decide) ?_
          exact q_43 _ (by rw [if_neg h_45])
        · refine lv_iconst (v := 1) hx hb dX7_want_18 (by decide) ?_
          refine lv_goto (tgt := 23) hx hb dX7_want_19 (by decide) ?_
          exact q_43 _ (by rw [if_pos h_45])
  exact L_6 _ _ _ _ _ _ hf hE (lv_sub hl [1, 2, 0] rfl)
def lp_X7_know_50 (k_150 : Mm → Option (Mm)) (i_0 : Nat) (i_1 : Int32) (i_2 : Int32) (i_3 : Int32) : Nat → Int32 → Mm → Option (Mm)
  | 0, _, _ => none
  | n_50 + 1, v_4, M =>
    (op_gI M 7 i_0 2).bind fun x_14 =>
    if x_14 ≤ v_4 then
    k_150 M
    else
    (op_gR M 7 i_0 5).bind fun x_16 =>
    (op_aI M x_16 i_2).bind fun x_17 =>
    op_jn (fun (M_18 : Mm) =>
    (op_gR M_18 7 i_0 12).bind fun x_26 =>
    (op_is M_18 i_0 7).bind fun _ =>
    (f_X7_at i_0 i_2 i_3 v_4).bind fun z_27 =>
    (op_gL M_18 7 i_0 21).bind fun x_28 =>
    (op_sL M_18 x_26 z_27 x_28).bind fun M_29 =>
    (op_gR M_29 7 i_0 13).bind fun x_30 =>
    (op_is M_29 i_0 7).bind fun _ =>
    (f_X7_at i_0 i_2 i_3 v_4).bind fun z_31 =>
    (op_gL M_29 7 i_0 22).bind fun x_32 =>
    (op_sL M_29 x_30 z_31 x_32).bind fun M_33 =>
    lp_X7_know_50 k_150 i_0 i_1 i_2 i_3 n_50 (v_4 + 1) M_33)
    fun j_18 =>
    if x_17 = (5 : Int32) then
    (op_is M i_0 7).bind fun _ =>
    (f_X7_mixedChance i_0 i_2 i_3 v_4 M).bind fun z_25 =>
    j_18 z_25
    else
    (op_gR M 7 i_0 5).bind fun x_20 =>
    (op_aI M x_20 i_2).bind fun x_21 =>
    if x_21 = (6 : Int32) then
    (op_is M i_0 7).bind fun _ =>
    (f_X7_cycleChance i_0 i_2 i_3 v_4 M).bind fun z_24 =>
    j_18 z_24
    else
    (op_is M i_0 7).bind fun _ =>
    (f_X7_plainChance i_0 i_2 i_3 v_4 M).bind fun z_23 =>
    j_18 z_23
theorem lp_X7_know_50_s (k_150 : Mm → Option (Mm)) (i_0 : Nat) (i_1 : Int32) (i_2 : Int32) (i_3 : Int32) {n_50 : Nat} {v_4 : Int32} {M : Mm} {zr : Mm} (hf : lp_X7_know_50 k_150 i_0 i_1 i_2 i_3 (n_50 + 1) v_4 M = some zr) : (
    (op_gI M 7 i_0 2).bind fun x_14 =>
    if x_14 ≤ v_4 then
    k_150 M
    else
    (op_gR M 7 i_0 5).bind fun x_16 =>
    (op_aI M x_16 i_2).bind fun x_17 =>
    op_jn (fun (M_18 : Mm) =>
    (op_gR M_18 7 i_0 12).bind fun x_26 =>
    (op_is M_18 i_0 7).bind fun _ =>
    (f_X7_at i_0 i_2 i_3 v_4).bind fun z_27 =>
    (op_gL M_18 7 i_0 21).bind fun x_28 =>
    (op_sL M_18 x_26 z_27 x_28).bind fun M_29 =>
    (op_gR M_29 7 i_0 13).bind fun x_30 =>
    (op_is M_29 i_0 7).bind fun _ =>
    (f_X7_at i_0 i_2 i_3 v_4).bind fun z_31 =>
    (op_gL M_29 7 i_0 22).bind fun x_32 =>
    (op_sL M_29 x_30 z_31 x_32).bind fun M_33 =>
    lp_X7_know_50 k_150 i_0 i_1 i_2 i_3 n_50 (v_4 + 1) M_33)
    fun j_18 =>
    if x_17 = (5 : Int32) then
    (op_is M i_0 7).bind fun _ =>
    (f_X7_mixedChance i_0 i_2 i_3 v_4 M).bind fun z_25 =>
    j_18 z_25
    else
    (op_gR M 7 i_0 5).bind fun x_20 =>
    (op_aI M x_20 i_2).bind fun x_21 =>
    if x_21 = (6 : Int32) then
    (op_is M i_0 7).bind fun _ =>
    (f_X7_cycleChance i_0 i_2 i_3 v_4 M).bind fun z_24 =>
    j_18 z_24
    else
    (op_is M i_0 7).bind fun _ =>
    (f_X7_plainChance i_0 i_2 i_3 v_4 M).bind fun z_23 =>
    j_18 z_23) = some zr := hf
theorem lp_X7_know_50_k {k_150 : Mm → Option (Mm)} {i_0 : Nat} {i_1 : Int32} {i_2 : Int32} {i_3 : Int32} {n : Nat} {v_4 : Int32} {M : Mm} {zr : Mm} (hf : lp_X7_know_50 k_150 i_0 i_1 i_2 i_3 n v_4 M = some zr) : ∃ (m_150 : Mm → Option (Mm)), m_150 = k_150 ∧ lp_X7_know_50 m_150 i_0 i_1 i_2 i_3 n v_4 M = some zr := ⟨k_150, rfl, hf⟩
def lp_X7_know_39 (k_156 : Mm → Option (Mm)) (i_0 : Nat) (i_1 : Int32) (i_2 : Int32) : Nat → Int32 → Mm → Option (Mm)
  | 0, _, _ => none
  | n_39 + 1, v_3, M =>
    (op_gI M 7 i_0 2).bind fun x_12 =>
    if x_12 ≤ v_3 then
    k_156 M
    else
    lp_X7_know_50 (fun (M_35 : Mm) =>
    lp_X7_know_39 k_156 i_0 i_1 i_2 n_39 (v_3 + 1) M_35) i_0 i_1 i_2 v_3 FU (0 : Int32) M
theorem lp_X7_know_39_s (k_156 : Mm → Option (Mm)) (i_0 : Nat) (i_1 : Int32) (i_2 : Int32) {n_39 : Nat} {v_3 : Int32} {M : Mm} {zr : Mm} (hf : lp_X7_know_39 k_156 i_0 i_1 i_2 (n_39 + 1) v_3 M = some zr) : (
    (op_gI M 7 i_0 2).bind fun x_12 =>
    if x_12 ≤ v_3 then
    k_156 M
    else
    lp_X7_know_50 (fun (M_35 : Mm) =>
    lp_X7_know_39 k_156 i_0 i_1 i_2 n_39 (v_3 + 1) M_35) i_0 i_1 i_2 v_3 FU (0 : Int32) M) = some zr := hf
theorem lp_X7_know_39_k {k_156 : Mm → Option (Mm)} {i_0 : Nat} {i_1 : Int32} {i_2 : Int32} {n : Nat} {v_3 : Int32} {M : Mm} {zr : Mm} (hf : lp_X7_know_39 k_156 i_0 i_1 i_2 n v_3 M = some zr) : ∃ (m_156 : Mm → Option (Mm)), m_156 = k_156 ∧ lp_X7_know_39 m_156 i_0 i_1 i_2 n v_3 M = some zr := ⟨k_156, rfl, hf⟩
def lp_X7_know_7 (i_0 : Nat) (i_1 : Int32) : Nat → Int32 → Mm → Option (Mm)
  | 0, _, _ => none
  | n_7 + 1, v_2, M =>
    if i_1 < v_2 then
    some M
    else
    (op_gR M 7 i_0 16).bind fun x_3 =>
    (op_aZ M x_3 v_2).bind fun x_4 =>
    op_jn (fun (M_5 : Mm) =>
    lp_X7_know_7 i_0 i_1 n_7 (v_2 + 1) M_5)
    fun j_5 =>
    if x_4 = 0 then
    j_5 M
    else
    (op_gR M 7 i_0 14).bind fun x_7 =>
    (op_aZ M x_7 v_2).bind fun x_8 =>
    if x_8 = 0 then
    (op_gR M 7 i_0 14).bind fun x_10 =>
    (op_sZ M x_10 v_2 (1 : Int32)).bind fun M_11 =>
    lp_X7_know_39 (fun (M_57 : Mm) =>
    j_5 M_57) i_0 i_1 v_2 FU (0 : Int32) M_11
    else
    j_5 M
theorem lp_X7_know_7_s (i_0 : Nat) (i_1 : Int32) {n_7 : Nat} {v_2 : Int32} {M : Mm} {zr : Mm} (hf : lp_X7_know_7 i_0 i_1 (n_7 + 1) v_2 M = some zr) : (
    if i_1 < v_2 then
    some M
    else
    (op_gR M 7 i_0 16).bind fun x_3 =>
    (op_aZ M x_3 v_2).bind fun x_4 =>
    op_jn (fun (M_5 : Mm) =>
    lp_X7_know_7 i_0 i_1 n_7 (v_2 + 1) M_5)
    fun j_5 =>
    if x_4 = 0 then
    j_5 M
    else
    (op_gR M 7 i_0 14).bind fun x_7 =>
    (op_aZ M x_7 v_2).bind fun x_8 =>
    if x_8 = 0 then
    (op_gR M 7 i_0 14).bind fun x_10 =>
    (op_sZ M x_10 v_2 (1 : Int32)).bind fun M_11 =>
    lp_X7_know_39 (fun (M_57 : Mm) =>
    j_5 M_57) i_0 i_1 v_2 FU (0 : Int32) M_11
    else
    j_5 M) = some zr := hf
def rm_X7_know : Room := { frames := 6, cells := 0, slots := 0, locals := 173 }
def f_X7_know (o : Nat) (a1 : Int32) (M : Mm) : Option (Mm) :=
    (op_is M o 7).bind fun _ =>
    (f_X7_want o a1 M).bind fun z_1 =>
    lp_X7_know_7  o a1 FU (0 : Int32) z_1
set_option maxHeartbeats 4000000 in
set_option maxRecDepth 100000 in
theorem c_X7_know (l : Launch) (D : va_G) (cA : Nat → ClassId) (ad : Nat → Nat) (o : Nat) (a1 : Int32) (M : Mm) (zr : Mm) (hf : f_X7_know o a1 M = some zr) : KV l yX7_know cX7_know 5 none rm_X7_know D cA ad [.ref (ad o), .int a1] M zr := by
  refine KV_of (by decide) (Nat.le_of_ble_eq_true rfl) ?_
  intro p e s m args below meth c ls Q A H locs hZ hE hl hret
  have hx := hZ.1
  have hb := hZ.2.1
  have hown := hZ.2.2.2.1
  have hts := hZ.2.2.2.2.1
  have hl : lv_has ls 5 [(0, .ref (ad o)), (1, .int a1)] := hl
  unfold f_X7_know at hf
  refine lv_aload_n hx hb dX7_know_0 rfl (lv_at hl 0 rfl) ?_
  refine lv_iload_n hx hb dX7_know_1 rfl (lv_at hl 1 rfl) ?_
  obtain ⟨_, i_1, hf⟩ := b_some hf
  obtain ⟨z_1, c_1, hf⟩ := b_some hf
  refine xx_cVv hZ hE (As := [.int a1]) (rest := []) k_X7 (is_m i_1) tw_469 tw_470 (c_X7_want l D cA ad o a1 M _ c_1) cw_X7_want tw_468 ⟨rfl, rfl⟩ ⟨Nat.le_of_ble_eq_true rfl, Nat.le_of_ble_eq_true rfl⟩ rfl hl.1 rfl (Nat.le_of_ble_eq_true rfl) ⟨Nat.le_of_ble_eq_true rfl, Nat.le_of_ble_eq_true rfl⟩ dX7_know_2 (fun H locs hE => ?_)
  refine lv_iconst (v := 0) hx hb dX7_know_5 (by decide) ?_
  refine lv_istore_n (lv' := [(2, .int (0 : Int32)), (0, .ref (ad o)), (1, .int a1)]) hx hb dX7_know_6 rfl hl (by decide) rfl (fun ls hl => ?_)
  have L_82 : ∀ (n_7 : Nat) (w_82_2 : Int32) (M_82 : Mm) (H : Heap) (locs : List Loc) (ls : Array Slot), lp_X7_know_7 o a1 n_7 w_82_2 M_82 = some zr → En D cA ad s A M_82 H locs → lv_has ls 5 [(0, .ref (ad o)), (1, .int a1), (2, .int w_82_2)] → W p l e rm_X7_know s m args below meth c H locs 0 0 Q (F0 m 7 ls []) := by
    intro n_7
    induction n_7 with
    | zero =>
      intro w_82_2 M_82 H locs ls hf
      cases (show (none : Option (Mm)) = some zr from hf)
    | succ n_7 ih_7 =>
      intro w_82_2 M_82 H locs ls hf hE hl
      have hf := lp_X7_know_7_s _ _ hf
      refine lv_iload_n hx hb dX7_know_7 rfl (lv_at hl 2 rfl) ?_
      refine lv_iload_n hx hb dX7_know_8 rfl (lv_at hl 1 rfl) ?_
      refine lv_icmp_gt (tgt := 162) hx hb dX7_know_9 (by decide) (fun h_83 => ?_) (fun h_83 => ?_)
      · have hf := it_y h_83 hf
        exact hret _ _ _ _ _ (Option.some.inj hf) dX7_know_162 hE
      · have hf := it_n h_83 hf
        refine lv_aload_n hx hb dX7_know_12 rfl (lv_at hl 0 rfl) ?_
        obtain ⟨x_84, g_84, hf⟩ := b_some hf
        refine xx_gR hZ hE k_X7 16 (by decide) rfl tw_467 g_84 dX7_know_13 ?_
        refine lv_iload_n hx hb dX7_know_16 rfl (lv_at hl 2 rfl) ?_
        obtain ⟨x_85, g_85, hf⟩ := b_some hf
        refine xx_aZ hZ hE g_85 dX7_know_17 ?_
        obtain ⟨j_86, ej_86, hf⟩ := jn_e hf
        have q_86 : ∀ (M_86 : Mm) (H : Heap) (locs : List Loc) (ls : Array Slot), j_86 M_86 = some zr → En D cA ad s A M_86 H locs → lv_has ls 5 [(0, .ref (ad o)), (1, .int a1), (2, .int w_82_2)] → W p l e rm_X7_know s m args below meth c H locs 0 0 Q (F0 m 156 ls []) := by
          intro M_86 H locs ls hf hE hl
          rw [ej_86] at hf
          refine lv_iinc (v := (w_82_2 + 1)) (lv' := [(2, .int (w_82_2 + 1)), (0, .ref (ad o)), (1, .int a1)]) hx hb dX7_know_156 hl (k := 2) rfl rfl (by decide) rfl (fun ls hl => ?_)
          refine lv_goto (tgt := 7) hx hb dX7_know_159 (by decide) ?_
          exact ih_7 _ _ _ _ _ hf hE (lv_sub hl [1, 2, 0] rfl)
        refine lv_if_eq (tgt := 156) hx hb dX7_know_18 (by decide) (fun h_87 => ?_) (fun h_87 => ?_)
        · have hf := it_y h_87 hf
          exact q_86 _ _ _ _ hf hE (lv_sub hl [0, 1, 2] rfl)
        · have hf := it_n h_87 hf
          refine lv_aload_n hx hb dX7_know_21 rfl (lv_at hl 0 rfl) ?_
          obtain ⟨x_88, g_88, hf⟩ := b_some hf
          refine xx_gR hZ hE k_X7 14 (by decide) rfl tw_369 g_88 dX7_know_22 ?_
          refine lv_iload_n hx hb dX7_know_25 rfl (lv_at hl 2 rfl) ?_
          obtain ⟨x_89, g_89, hf⟩ := b_some hf
          refine xx_aZ hZ hE g_89 dX7_know_26 ?_
          refine lv_if_ne (tgt := 156) hx hb dX7_know_27 (by decide) (fun h_90 => ?_) (fun h_90 => ?_)
          · have hf := it_n h_90 hf
            exact q_86 _ _ _ _ hf hE (lv_sub hl [0, 1, 2] rfl)
          · have hf := it_y h_90 hf
            refine lv_aload_n hx hb dX7_know_30 rfl (lv_at hl 0 rfl) ?_
            obtain ⟨x_91, g_91, hf⟩ := b_some hf
            refine xx_gR hZ hE k_X7 14 (by decide) rfl tw_369 g_91 dX7_know_31 ?_
            refine lv_iload_n hx hb dX7_know_34 rfl (lv_at hl 2 rfl) ?_
            refine lv_iconst (v := 1) hx hb dX7_know_35 (by decide) ?_
            obtain ⟨M_92, g_92, hf⟩ := b_some hf
            refine xx_sZ hZ hE g_92 dX7_know_36 (fun H locs hE => ?_)
            refine lv_iconst (v := 0) hx hb dX7_know_37 (by decide) ?_
            refine lv_istore_n (lv' := [(3, .int (0 : Int32)), (0, .ref (ad o)), (1, .int a1), (2, .int w_82_2)]) hx hb dX7_know_38 rfl hl (by decide) rfl (fun ls hl => ?_)
            obtain ⟨k_156_94, ek_156_94, hf⟩ := lp_X7_know_39_k hf
            have o_156_94 : ∀ (M_94 : Mm) (H : Heap) (locs : List Loc) (ls : Array Slot), k_156_94 M_94 = some zr → En D cA ad s A M_94 H locs → lv_has ls 5 [(0, .ref (ad o)), (1, .int a1), (2, .int w_82_2)] → W p l e rm_X7_know s m args below meth c H locs 0 0 Q (F0 m 156 ls []) := by
              intro M_94 H locs ls hf hE hl
              rw [ek_156_94] at hf
              exact q_86 _ _ _ _ hf hE (lv_sub hl [0, 1, 2] rfl)
            have L_93 : ∀ (n_39 : Nat) (w_93_3 : Int32) (M_93 : Mm) (H : Heap) (locs : List Loc) (ls : Array Slot), lp_X7_know_39 k_156_94 o a1 w_82_2 n_39 w_93_3 M_93 = some zr → En D cA ad s A M_93 H locs → lv_has ls 5 [(0, .ref (ad o)), (1, .int a1), (2, .int w_82_2), (3, .int w_93_3)] → W p l e rm_X7_know s m args below meth c H locs 0 0 Q (F0 m 39 ls []) := by
              intro n_39
              induction n_39 with
              | zero =>
                intro w_93_3 M_93 H locs ls hf
                cases (show (none : Option (Mm)) = some zr from hf)
              | succ n_39 ih_39 =>
                intro w_93_3 M_93 H locs ls hf hE hl
                have hf := lp_X7_know_39_s _ _ _ _ hf
                refine lv_iload_n hx hb dX7_know_39 rfl (lv_at hl 3 rfl) ?_
                refine lv_aload_n hx hb dX7_know_40 rfl (lv_at hl 0 rfl) ?_
                obtain ⟨x_95, g_95, hf⟩ := b_some hf
                refine xx_gI hZ hE k_X7 2 (by decide) rfl tw_363 g_95 dX7_know_41 ?_
                refine lv_icmp_ge (tgt := 156) hx hb dX7_know_44 (by decide) (fun h_96 => ?_) (fun h_96 => ?_)
                · have hf := it_y h_96 hf
                  exact o_156_94 _ _ _ _ hf hE (lv_sub hl [0, 1, 2] rfl)
                · have hf := it_n h_96 hf
                  refine lv_iconst (v := 0) hx hb dX7_know_47 (by decide) ?_
                  refine lv_istore (lv' := [(4, .int (0 : Int32)), (0, .ref (ad o)), (1, .int a1), (2, .int w_82_2), (3, .int w_93_3)]) hx hb dX7_know_48 hl (by decide) rfl (fun ls hl => ?_)
                  obtain ⟨k_150_98, ek_150_98, hf⟩ := lp_X7_know_50_k hf
                  have o_150_98 : ∀ (M_98 : Mm) (H : Heap) (locs : List Loc) (ls : Array Slot), k_150_98 M_98 = some zr → En D cA ad s A M_98 H locs → lv_has ls 5 [(0, .ref (ad o)), (1, .int a1), (2, .int w_82_2), (3, .int w_93_3)] → W p l e rm_X7_know s m args below meth c H locs 0 0 Q (F0 m 150 ls []) := by
                    intro M_98 H locs ls hf hE hl
                    rw [ek_150_98] at hf
                    refine lv_iinc (v := (w_93_3 + 1)) (lv' := [(3, .int (w_93_3 + 1)), (0, .ref (ad o)), (1, .int a1), (2, .int w_82_2)]) hx hb dX7_know_150 hl (k := 3) rfl rfl (by decide) rfl (fun ls hl => ?_)
                    refine lv_goto (tgt := 39) hx hb dX7_know_153 (by decide) ?_
                    exact ih_39 _ _ _ _ _ hf hE (lv_sub hl [1, 2, 3, 0] rfl)
                  have L_97 : ∀ (n_50 : Nat) (w_97_4 : Int32) (M_97 : Mm) (H : Heap) (locs : List Loc) (ls : Array Slot), lp_X7_know_50 k_150_98 o a1 w_82_2 w_93_3 n_50 w_97_4 M_97 = some zr → En D cA ad s A M_97 H locs → lv_has ls 5 [(0, .ref (ad o)), (1, .int a1), (2, .int w_82_2), (3, .int w_93_3), (4, .int w_97_4)] → W p l e rm_X7_know s m args below meth c H locs 0 0 Q (F0 m 50 ls []) := by
                    intro n_50
                    induction n_50 with
                    | zero =>
                      intro w_97_4 M_97 H locs ls hf
                      cases (show (none : Option (Mm)) = some zr from hf)
                    | succ n_50 ih_50 =>
                      intro w_97_4 M_97 H locs ls hf hE hl
                      have hf := lp_X7_know_50_s _ _ _ _ _ hf
                      refine lv_iload hx hb dX7_know_50 (lv_at hl 4 rfl) ?_
                      refine lv_aload_n hx hb dX7_know_52 rfl (lv_at hl 0 rfl) ?_
                      obtain ⟨x_99, g_99, hf⟩ := b_some hf
                      refine xx_gI hZ hE k_X7 2 (by decide) rfl tw_363 g_99 dX7_know_53 ?_
                      refine lv_icmp_ge (tgt := 150) hx hb dX7_know_56 (by decide) (fun h_100 => ?_) (fun h_100 => ?_)
                      · have hf := it_y h_100 hf
                        exact o_150_98 _ _ _ _ hf hE (lv_sub hl [0, 1, 2, 3] rfl)
                      · have hf := it_n h_100 hf
                        refine lv_aload_n hx hb dX7_know_59 rfl (lv_at hl 0 rfl) ?_
                        obtain ⟨x_101, g_101, hf⟩ := b_some hf
                        refine xx_gR hZ hE k_X7 5 (by decide) rfl tw_393 g_101 dX7_know_60 ?_
                        refine lv_iload_n hx hb dX7_know_63 rfl (lv_at hl 2 rfl) ?_
                        obtain ⟨x_102, g_102, hf⟩ := b_some hf
                        refine xx_aI hZ hE g_102 dX7_know_64 ?_
                        refine lv_iconst (v := 5) hx hb dX7_know_65 (by decide) ?_
                        obtain ⟨j_103, ej_103, hf⟩ := jn_e hf
                        have q_103 : ∀ (M_103 : Mm) (H : Heap) (locs : List Loc) (ls : Array Slot), j_103 M_103 = some zr → En D cA ad s A M_103 H locs → lv_has ls 5 [(0, .ref (ad o)), (1, .int a1), (2, .int w_82_2), (3, .int w_93_3), (4, .int w_97_4)] → W p l e rm_X7_know s m args below meth c H locs 0 0 Q (F0 m 110 ls []) := by
                          intro M_103 H locs ls hf hE hl
                          rw [ej_103] at hf
                          refine lv_aload_n hx hb dX7_know_110 rfl (lv_at hl 0 rfl) ?_
                          obtain ⟨x_111, g_111, hf⟩ := b_some hf
                          refine xx_gR hZ hE k_X7 12 (by decide) rfl tw_459 g_111 dX7_know_111 ?_
                          refine lv_aload_n hx hb dX7_know_114 rfl (lv_at hl 0 rfl) ?_
                          refine lv_iload_n hx hb dX7_know_115 rfl (lv_at hl 2 rfl) ?_
                          refine lv_iload_n hx hb dX7_know_116 rfl (lv_at hl 3 rfl) ?_
                          refine lv_iload hx hb dX7_know_117 (lv_at hl 4 rfl) ?_
                          obtain ⟨_, i_112, hf⟩ := b_some hf
                          obtain ⟨z_112, c_112, hf⟩ := b_some hf
                          refine xx_cVi hZ hE (As := [.int w_82_2, .int w_93_3, .int w_97_4]) (rest := [.ref (ad x_111)]) k_X7 (is_m i_112) tw_462 tw_463 (c_X7_at l D cA ad o w_82_2 w_93_3 w_97_4 M_103 _ c_112) cw_X7_at tw_461 ⟨rfl, rfl⟩ ⟨Nat.le_of_ble_eq_true rfl, Nat.le_of_ble_eq_true rfl⟩ rfl hl.1 rfl (Nat.le_of_ble_eq_true rfl) ⟨Nat.le_of_ble_eq_true rfl, Nat.le_of_ble_eq_true rfl⟩ dX7_know_119 (fun H locs hE => ?_)
                          refine lv_aload_n hx hb dX7_know_122 rfl (lv_at hl 0 rfl) ?_
                          obtain ⟨x_113, g_113, hf⟩ := b_some hf
                          refine xx_gL hZ hE k_X7 21 (by decide) rfl tw_402 g_113 dX7_know_123 ?_
                          obtain ⟨M_114, g_114, hf⟩ := b_some hf
                          refine xx_sL hZ hE g_114 dX7_know_126 (fun H locs hE => ?_)
                          refine lv_aload_n hx hb dX7_know_127 rfl (lv_at hl 0 rfl) ?_
                          obtain ⟨x_115, g_115, hf⟩ := b_some hf
                          refine xx_gR hZ hE k_X7 13 (by decide) rfl tw_460 g_115 dX7_know_128 ?_
                          refine lv_aload_n hx hb dX7_know_131 rfl (lv_at hl 0 rfl) ?_
                          refine lv_iload_n hx hb dX7_know_132 rfl (lv_at hl 2 rfl) ?_
                          refine lv_iload_n hx hb dX7_know_133 rfl (lv_at hl 3 rfl) ?_
                          refine lv_iload hx hb dX7_know_134 (lv_at hl 4 rfl) ?_
                          obtain ⟨_, i_116, hf⟩ := b_some hf
                          obtain ⟨z_116, c_116, hf⟩ := b_some hf
                          refine xx_cVi hZ hE (As := [.int w_82_2, .int w_93_3, .int w_97_4]) (rest := [.ref (ad x_115)]) k_X7 (is_m i_116) tw_462 tw_463 (c_X7_at l D cA ad o w_82_2 w_93_3 w_97_4 M_114 _ c_116) cw_X7_at tw_461 ⟨rfl, rfl⟩ ⟨Nat.le_of_ble_eq_true rfl, Nat.le_of_ble_eq_true rfl⟩ rfl hl.1 rfl (Nat.le_of_ble_eq_true rfl) ⟨Nat.le_of_ble_eq_true rfl, Nat.le_of_ble_eq_true rfl⟩ dX7_know_136 (fun H locs hE => ?_)
                          refine lv_aload_n hx hb dX7_know_139 rfl (lv_at hl 0 rfl) ?_
                          obtain ⟨x_117, g_117, hf⟩ := b_some hf
                          refine xx_gL hZ hE k_X7 22 (by decide) rfl tw_403 g_117 dX7_know_140 ?_
                          obtain ⟨M_118, g_118, hf⟩ := b_some hf
                          refine xx_sL hZ hE g_118 dX7_know_143 (fun H locs hE => ?_)
                          refine lv_iinc (v := (w_97_4 + 1)) (lv' := [(4, .int (w_97_4 + 1)), (0, .ref (ad o)), (1, .int a1), (2, .int w_82_2), (3, .int w_93_3)]) hx hb dX7_know_144 hl (k := 4) rfl rfl (by decide) rfl (fun ls hl => ?_)
                          refine lv_goto (tgt := 50) hx hb dX7_know_147 (by decide) ?_
                          exact ih_50 _ _ _ _ _ hf hE (lv_sub hl [1, 2, 3, 4, 0] rfl)
                        refine lv_icmp_ne (tgt := 80) hx hb dX7_know_66 (by decide) (fun h_104 => ?_) (fun h_104 => ?_)
                        · have hf := it_n h_104 hf
                          refine lv_aload_n hx hb dX7_know_80 rfl (lv_at hl 0 rfl) ?_
                          obtain ⟨x_105, g_105, hf⟩ := b_some hf
                          refine xx_gR hZ hE k_X7 5 (by decide) rfl tw_393 g_105 dX7_know_81 ?_
                          refine lv_iload_n hx hb dX7_know_84 rfl (lv_at hl 2 rfl) ?_
                          obtain ⟨x_106, g_106, hf⟩ := b_some hf
                          refine xx_aI hZ hE g_106 dX7_know_85 ?_
                          refine lv_bipush (v := 6) hx hb dX7_know_86 (by decide) ?_
                          refine lv_icmp_ne (tgt := 102) hx hb dX7_know_88 (by decide) (fun h_107 => ?_) (fun h_107 => ?_)
                          · have hf := it_n h_107 hf
                            refine lv_aload_n hx hb dX7_know_102 rfl (lv_at hl 0 rfl) ?_
                            refine lv_iload_n hx hb dX7_know_103 rfl (lv_at hl 2 rfl) ?_
                            refine lv_iload_n hx hb dX7_know_104 rfl (lv_at hl 3 rfl) ?_
                            refine lv_iload hx hb dX7_know_105 (lv_at hl 4 rfl) ?_
                            obtain ⟨_, i_108, hf⟩ := b_some hf
                            obtain ⟨z_108, c_108, hf⟩ := b_some hf
                            refine xx_cVv hZ hE (As := [.int w_82_2, .int w_93_3, .int w_97_4]) (rest := []) k_X7 (is_m i_108) tw_472 tw_473 (c_X7_plainChance l D cA ad o w_82_2 w_93_3 w_97_4 M_97 _ c_108) cw_X7_plainChance tw_471 ⟨rfl, rfl⟩ ⟨Nat.le_of_ble_eq_true rfl, Nat.le_of_ble_eq_true rfl⟩ rfl hl.1 rfl (Nat.le_of_ble_eq_true rfl) ⟨Nat.le_of_ble_eq_true rfl, Nat.le_of_ble_eq_true rfl⟩ dX7_know_107 (fun H locs hE => ?_)
                            exact q_103 _ _ _ _ hf hE (lv_sub hl [0, 1, 2, 3, 4] rfl)
                          · have hf := it_y h_107 hf
                            refine lv_aload_n hx hb dX7_know_91 rfl (lv_at hl 0 rfl) ?_
                            refine lv_iload_n hx hb dX7_know_92 rfl (lv_at hl 2 rfl) ?_
                            refine lv_iload_n hx hb dX7_know_93 rfl (lv_at hl 3 rfl) ?_
                            refine lv_iload hx hb dX7_know_94 (lv_at hl 4 rfl) ?_
                            obtain ⟨_, i_109, hf⟩ := b_some hf
                            obtain ⟨z_109, c_109, hf⟩ := b_some hf
                            refine xx_cVv hZ hE (As := [.int w_82_2, .int w_93_3, .int w_97_4]) (rest := []) k_X7 (is_m i_109) tw_475 tw_476 (c_X7_cycleChance l D cA ad o w_82_2 w_93_3 w_97_4 M_97 _ c_109) cw_X7_cycleChance tw_474 ⟨rfl, rfl⟩ ⟨Nat.le_of_ble_eq_true rfl, Nat.le_of_ble_eq_true rfl⟩ rfl hl.1 rfl (Nat.le_of_ble_eq_true rfl) ⟨Nat.le_of_ble_eq_true rfl, Nat.le_of_ble_eq_true rfl⟩ dX7_know_96 (fun H locs hE => ?_)
                            refine lv_goto (tgt := 110) hx hb dX7_know_99 (by decide) ?_
                            exact q_103 _ _ _ _ hf hE (lv_sub hl [0, 1, 2, 3, 4] rfl)
                        · have hf := it_y h_104 hf
                          refine lv_aload_n hx hb dX7_know_69 rfl (lv_at hl 0 rfl) ?_
                          refine lv_iload_n hx hb dX7_know_70 rfl (lv_at hl 2 rfl) ?_
                          refine lv_iload_n hx hb dX7_know_71 rfl (lv_at hl 3 rfl) ?_
                          refine lv_iload hx hb dX7_know_72 (lv_at hl 4 rfl) ?_
                          obtain ⟨_, i_110, hf⟩ := b_some hf
                          obtain ⟨z_110, c_110, hf⟩ := b_some hf
                          refine xx_cVv hZ hE (As := [.int w_82_2, .int w_93_3, .int w_97_4]) (rest := []) k_X7 (is_m i_110) tw_478 tw_479 (c_X7_mixedChance l D cA ad o w_82_2 w_93_3 w_97_4 M_97 _ c_110) cw_X7_mixedChance tw_477 ⟨rfl, rfl⟩ ⟨Nat.le_of_ble_eq_true rfl, Nat.le_of_ble_eq_true rfl⟩ rfl hl.1 rfl (Nat.le_of_ble_eq_true rfl) ⟨Nat.le_of_ble_eq_true rfl, Nat.le_of_ble_eq_true rfl⟩ dX7_know_74 (fun H locs hE => ?_)
                          refine lv_goto (tgt := 110) hx hb dX7_know_77 (by decide) ?_
                          exact q_103 _ _ _ _ hf hE (lv_sub hl [0, 1, 2, 3, 4] rfl)
                  exact L_97 _ _ _ _ _ _ hf hE (lv_sub hl [1, 2, 3, 4, 0] rfl)
            exact L_93 _ _ _ _ _ _ hf hE (lv_sub hl [1, 2, 3, 0] rfl)
  exact L_82 _ _ _ _ _ _ hf hE (lv_sub hl [1, 2, 0] rfl)
