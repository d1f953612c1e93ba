def lp_X7_run_69 (k_102 : Mm → Option (Int32 × Mm)) (i_0 : Nat) (i_1 : Int32) (i_3 : Int32) : Nat → Int32 → Mm → Option (Int32 × Mm)
  | 0, _, _ => none
  | n_69 + 1, v_6, M =>
    if i_3 < v_6 then
    k_102 M
    else
    (op_gR M 7 i_0 18).bind fun x_15 =>
    (op_gR M 7 i_0 18).bind fun x_16 =>
    (op_aI M x_16 (v_6 - (1 : Int32))).bind fun x_17 =>
    (op_is M i_0 7).bind fun _ =>
    (f_X7_done i_0 i_1 x_17 M).bind fun z_18 =>
    (op_sI z_18.2 x_15 v_6 z_18.1).bind fun M_19 =>
    lp_X7_run_69 k_102 i_0 i_1 i_3 n_69 (v_6 + 1) M_19
theorem lp_X7_run_69_s (k_102 : Mm → Option (Int32 × Mm)) (i_0 : Nat) (i_1 : Int32) (i_3 : Int32) {n_69 : Nat} {v_6 : Int32} {M : Mm} {zr : Int32 × Mm} (hf : lp_X7_run_69 k_102 i_0 i_1 i_3 (n_69 + 1) v_6 M = some zr) : (
    if i_3 < v_6 then
    k_102 M
    else
    (op_gR M 7 i_0 18).bind fun x_15 =>
    (op_gR M 7 i_0 18).bind fun x_16 =>
    (op_aI M x_16 (v_6 - (1 : Int32))).bind fun x_17 =>
    (op_is M i_0 7).bind fun _ =>
    (f_X7_done i_0 i_1 x_17 M).bind fun z_18 =>
    (op_sI z_18.2 x_15 v_6 z_18.1).bind fun M_19 =>
    lp_X7_run_69 k_102 i_0 i_1 i_3 n_69 (v_6 + 1) M_19) = some zr := hf
theorem lp_X7_run_69_k {k_102 : Mm → Option (Int32 × Mm)} {i_0 : Nat} {i_1 : Int32} {i_3 : Int32} {n : Nat} {v_6 : Int32} {M : Mm} {zr : Int32 × Mm} (hf : lp_X7_run_69 k_102 i_0 i_1 i_3 n v_6 M = some zr) : ∃ (m_102 : Mm → Option (Int32 × Mm)), m_102 = k_102 ∧ lp_X7_run_69 m_102 i_0 i_1 i_3 n v_6 M = some zr := ⟨k_102, rfl, hf⟩
def rm_X7_run : Room := { frames := 6, cells := 0, slots := 0, locals := 146 }
def f_X7_run (o : Nat) (a1 : Int32) (a2 : Int32) (a3 : Int32) (a4 : Int64) (M : Mm) : Option (Int32 × Mm) :=
    (op_gI M 7 o 2).bind fun x_1 =>
    if x_1 = 0 then
    some ((-2 : Int32), M)
    else
    (op_is M o 7).bind fun _ =>
    (f_X7_isMove o a1 M).bind fun z_3 =>
    if z_3 = 0 then
    some ((-1 : Int32), M)
    else
    (op_is M o 7).bind fun _ =>
    (f_X7_isState o a2 M).bind fun z_5 =>
    if z_5 = 0 then
    some ((-1 : Int32), M)
    else
    (f_X7_isIn a3 (0 : Int32) (200 : Int32)).bind fun z_7 =>
    if z_7 = 0 then
    some ((-1 : Int32), M)
    else
    (op_pI M 7 o 17 a3).bind fun M_9 =>
    (op_pI M_9 7 o 19 (0 : Int32)).bind fun M_10 =>
    (op_pL M_10 7 o 20 (a4 &&& (281474976710655 : Int64))).bind fun M_11 =>
    (op_gR M_11 7 o 18).bind fun x_12 =>
    (op_sI M_11 x_12 (0 : Int32) a2).bind fun M_13 =>
    lp_X7_run_69 (fun (M_21 : Mm) =>
    (op_gR M_21 7 o 18).bind fun x_22 =>
    (op_aI M_21 x_22 a3).bind fun x_23 =>
    some (x_23, M_21)) o a1 a3 FU (1 : Int32) M_13
set_option maxHeartbeats 4000000 in
set_option maxRecDepth 100000 in
theorem c_X7_run (l : Launch) (D : va_G) (cA : Nat → ClassId) (ad : Nat → Nat) (o : Nat) (a1 : Int32) (a2 : Int32) (a3 : Int32) (a4 : Int64) (M : Mm) (zr : Int32 × Mm) (hf : f_X7_run o a1 a2 a3 a4 M = some zr) : KI l yX7_run cX7_run 7 (some .int) rm_X7_run D cA ad [.ref (ad o), .int a1, .int a2, .int a3, .long a4] M zr.1 zr.2 := by
  refine KI_of (by decide) (Nat.le_of_ble_eq_true rfl) ?_
  intro p e s m args below meth c ls Q A H locs hZ hE hl hret
  have hx := hZ.1
  have hb := hZ.2.1
  have hown := hZ.2.2.2.1
  have hts := hZ.2.2.2.2.1
  have hl : lv_has ls 7 [(0, .ref (ad o)), (1, .int a1), (2, .int a2), (3, .int a3), (4, .long a4)] := hl
  unfold f_X7_run at hf
  refine lv_aload_n hx hb dX7_run_0 rfl (lv_at hl 0 rfl) ?_
  obtain ⟨x_1, g_1, hf⟩ := b_some hf
  refine xx_gI hZ hE k_X7 2 (by decide) rfl tw_363 g_1 dX7_run_1 ?_
  refine lv_if_ne (tgt := 10) hx hb dX7_run_4 (by decide) (fun h_2 => ?_) (fun h_2 => ?_)
  · have hf := it_n h_2 hf
    refine lv_aload_n hx hb dX7_run_10 rfl (lv_at hl 0 rfl) ?_
    refine lv_iload_n hx hb dX7_run_11 rfl (lv_at hl 1 rfl) ?_
    obtain ⟨_, i_3, hf⟩ := b_some hf
    obtain ⟨z_3, c_3, hf⟩ := b_some hf
    refine xx_cVi hZ hE (As := [.int a1]) (rest := []) k_X7 (is_m i_3) tw_390 tw_391 (c_X7_isMove l D cA ad o a1 M _ c_3) cw_X7_isMove tw_389 ⟨rfl, rfl⟩ ⟨Nat.le_of_ble_eq_true rfl, Nat.le_of_ble_eq_true rfl⟩ rfl hl.1 rfl (Nat.le_of_ble_eq_true rfl) ⟨Nat.le_of_ble_eq_true rfl, Nat.le_of_ble_eq_true rfl⟩ dX7_run_12 (fun H locs hE => ?_)
    refine lv_if_eq (tgt := 37) hx hb dX7_run_15 (by decide) (fun h_4 => ?_) (fun h_4 => ?_)
    · have hf := it_y h_4 hf
      refine lv_iconst (v := -1) hx hb dX7_run_37 (by decide) ?_
      exact hret _ _ _ _ _ _ (pr_1 hf) (pr_2 hf) rfl dX7_run_38 hE
    · have hf := it_n h_4 hf
      refine lv_aload_n hx hb dX7_run_18 rfl (lv_at hl 0 rfl) ?_
      refine lv_iload_n hx hb dX7_run_19 rfl (lv_at hl 2 rfl) ?_
      obtain ⟨_, i_5, hf⟩ := b_some hf
      obtain ⟨z_5, c_5, hf⟩ := b_some hf
      refine xx_cVi hZ hE (As := [.int a2]) (rest := []) k_X7 (is_m i_5) tw_378 tw_379 (c_X7_isState l D cA ad o a2 M _ c_5) cw_X7_isState tw_377 ⟨rfl, rfl⟩ ⟨Nat.le_of_ble_eq_true rfl, Nat.le_of_ble_eq_true rfl⟩ rfl hl.1 rfl (Nat.le_of_ble_eq_true rfl) ⟨Nat.le_of_ble_eq_true rfl, Nat.le_of_ble_eq_true rfl⟩ dX7_run_20 (fun H locs hE => ?_)
      refine lv_if_eq (tgt := 37) hx hb dX7_run_23 (by decide) (fun h_6 => ?_) (fun h_6 => ?_)
      · have hf := it_y h_6 hf
        refine lv_iconst (v := -1) hx hb dX7_run_37 (by decide) ?_
        exact hret _ _ _ _ _ _ (pr_1 hf) (pr_2 hf) rfl dX7_run_38 hE
      · have hf := it_n h_6 hf
        refine lv_iload_n hx hb dX7_run_26 rfl (lv_at hl 3 rfl) ?_
        refine lv_iconst (v := 0) hx hb dX7_run_27 (by decide) ?_
        refine lv_sipush (v := 200) hx hb dX7_run_28 (by decide) ?_
        obtain ⟨z_7, c_7, hf⟩ := b_some hf
        refine xx_cSi hZ hE (As := [.int a3, .int (0 : Int32), .int (200 : Int32)]) (rest := []) tw_366 (c_X7_isIn l D cA ad a3 (0 : Int32) (200 : Int32) M _ c_7) cw_X7_isIn tw_364 ⟨rfl, rfl⟩ ⟨Nat.le_of_ble_eq_true rfl, Nat.le_of_ble_eq_true rfl⟩ rfl hl.1 rfl (Nat.le_of_ble_eq_true rfl) ⟨Nat.le_of_ble_eq_true rfl, Nat.le_of_ble_eq_true rfl⟩ dX7_run_31 (fun H locs hE => ?_)
        refine lv_if_ne (tgt := 39) hx hb dX7_run_34 (by decide) (fun h_8 => ?_) (fun h_8 => ?_)
        · have hf := it_n h_8 hf
          refine lv_aload_n hx hb dX7_run_39 rfl (lv_at hl 0 rfl) ?_
          refine lv_iload_n hx hb dX7_run_40 rfl (lv_at hl 3 rfl) ?_
          obtain ⟨M_9, g_9, hf⟩ := b_some hf
          refine xx_pI hZ hE k_X7 17 (by decide) rfl rfl rfl tw_372 g_9 dX7_run_41 (fun H locs hE => ?_)
          refine lv_aload_n hx hb dX7_run_44 rfl (lv_at hl 0 rfl) ?_
          refine lv_iconst (v := 0) hx hb dX7_run_45 (by decide) ?_
          obtain ⟨M_10, g_10, hf⟩ := b_some hf
          refine xx_pI hZ hE k_X7 19 (by decide) rfl rfl rfl tw_373 g_10 dX7_run_46 (fun H locs hE => ?_)
          refine lv_aload_n hx hb dX7_run_49 rfl (lv_at hl 0 rfl) ?_
          refine lv_lload hx hb dX7_run_50 (lv_at hl 4 rfl) ?_
          refine lv_ldc2 (v := 281474976710655) hx hb hown (hts _ tw_505) dX7_run_52 ?_
          refine lv_land hx hb dX7_run_55 ?_
          obtain ⟨M_11, g_11, hf⟩ := b_some hf
          refine xx_pL hZ hE k_X7 20 (by decide) rfl rfl rfl tw_502 g_11 dX7_run_56 (fun H locs hE => ?_)
          refine lv_aload_n hx hb dX7_run_59 rfl (lv_at hl 0 rfl) ?_
          obtain ⟨x_12, g_12, hf⟩ := b_some hf
          refine xx_gR hZ hE k_X7 18 (by decide) rfl tw_522 g_12 dX7_run_60 ?_
          refine lv_iconst (v := 0) hx hb dX7_run_63 (by decide) ?_
          refine lv_iload_n hx hb dX7_run_64 rfl (lv_at hl 2 rfl) ?_
          obtain ⟨M_13, g_13, hf⟩ := b_some hf
          refine xx_sI hZ hE g_13 dX7_run_65 (fun H locs hE => ?_)
          refine lv_iconst (v := 1) hx hb dX7_run_66 (by decide) ?_
          refine lv_istore (lv' := [(6, .int (1 : Int32)), (0, .ref (ad o)), (1, .int a1), (2, .int a2), (3, .int a3), (4, .long a4)]) hx hb dX7_run_67 hl (by decide) rfl (fun ls hl => ?_)
          obtain ⟨k_102_21, ek_102_21, hf⟩ := lp_X7_run_69_k hf
          have o_102_21 : ∀ (M_21 : Mm) (H : Heap) (locs : List Loc) (ls : Array Slot), k_102_21 M_21 = some zr → En D cA ad s A M_21 H locs → lv_has ls 7 [(0, .ref (ad o)), (3, .int a3)] → W p l e rm_X7_run s m args below meth c H locs 0 0 Q (F0 m 102 ls []) := by
            intro M_21 H locs ls hf hE hl
            rw [ek_102_21] at hf
            refine lv_aload_n hx hb dX7_run_102 rfl (lv_at hl 0 rfl) ?_
            obtain ⟨x_22, g_22, hf⟩ := b_some hf
            refine xx_gR hZ hE k_X7 18 (by decide) rfl tw_522 g_22 dX7_run_103 ?_
            refine lv_iload_n hx hb dX7_run_106 rfl (lv_at hl 1 rfl) ?_
            obtain ⟨x_23, g_23, hf⟩ := b_some hf
            refine xx_aI hZ hE g_23 dX7_run_107 ?_
            exact hret _ _ _ _ _ _ (pr_1 hf) (pr_2 hf) rfl dX7_run_108 hE
          have L_20 : ∀ (n_69 : Nat) (w_20_6 : Int32) (M_20 : Mm) (H : Heap) (locs : List Loc) (ls : Array Slot), lp_X7_run_69 k_102_21 o a1 a3 n_69 w_20_6 M_20 = some zr → En D cA ad s A M_20 H locs → lv_has ls 7 [(0, .ref (ad o)), (1, .int a1), (3, .int a3), (6, .int w_20_6)] → W p l e rm_X7_run s m args below meth c H locs 0 0 Q (F0 m 69 ls []) := by
            intro n_69
            induction n_69 with
            | zero =>
              intro w_20_6 M_20 H locs ls hf
              cases (show (none : Option (Int32 × Mm)) = some zr from hf)
            | succ n_69 ih_69 =>
              intro w_20_6 M_20 H locs ls hf hE hl
              have hf := lp_X7_run_69_s _ _ _ _ hf
              refine lv_iload hx hb dX7_run_69 (lv_at hl 3 rfl) ?_
              refine lv_iload_n hx hb dX7_run_71 rfl (lv_at hl 2 rfl) ?_
              refine lv_icmp_gt (tgt := 102) hx hb dX7_run_72 (by decide) (fun h_24 => ?_) (fun h_24 => ?_)
              · have hf := it_y h_24 hf
                exact o_102_21 _ _ _ _ hf hE (lv_sub hl [0, 2] rfl)
              · have hf := it_n h_24 hf
                refine lv_aload_n hx hb dX7_run_75 rfl (lv_at hl 0 rfl) ?_
                obtain ⟨x_25, g_25, hf⟩ := b_some hf
                refine xx_gR hZ hE k_X7 18 (by decide) rfl tw_522 g_25 dX7_run_76 ?_
                refine lv_iload hx hb dX7_run_79 (lv_at hl 3 rfl) ?_
                refine lv_aload_n hx hb dX7_run_81 rfl (lv_at hl 0 rfl) ?_
                refine lv_iload_n hx hb dX7_run_82 rfl (lv_at hl 1 rfl) ?_
                refine lv_aload_n hx hb dX7_run_83 rfl (lv_at hl 0 rfl) ?_
                obtain ⟨x_26, g_26, hf⟩ := b_some hf
                refine xx_gR hZ hE k_X7 18 (by decide) rfl tw_522 g_26 dX7_run_84 ?_
                refine lv_iload hx hb dX7_run_87 (lv_at hl 3 rfl) ?_
                refine lv_iconst (v := 1) hx hb dX7_run_89 (by decide) ?_
                refine lv_isub hx hb dX7_run_90 ?_
                obtain ⟨x_27, g_27, hf⟩ := b_some hf
                refine xx_aI hZ hE g_27 dX7_run_91 ?_
                obtain ⟨_, i_28, hf⟩ := b_some hf
                obtain ⟨z_28, c_28, hf⟩ := b_some hf
                refine xx_cVi hZ hE (As := [.int a1, .int x_27]) (rest := [.int w_20_6, .ref (ad x_25)]) k_X7 (is_m i_28) tw_524 tw_525 (c_X7_done l D cA ad o a1 x_27 M_20 _ c_28) cw_X7_done tw_523 ⟨rfl, rfl⟩ ⟨Nat.le_of_ble_eq_true rfl, Nat.le_of_ble_eq_true rfl⟩ rfl hl.1 rfl (Nat.le_of_ble_eq_true rfl) ⟨Nat.le_of_ble_eq_true rfl, Nat.le_of_ble_eq_true rfl⟩ dX7_run_92 (fun H locs hE => ?_)
                obtain ⟨M_29, g_29, hf⟩ := b_some hf
                refine xx_sI hZ hE g_29 dX7_run_95 (fun H locs hE => ?_)
                refine lv_iinc (v := (w_20_6 + 1)) (lv' := [(6, .int (w_20_6 + 1)), (0, .ref (ad o)), (1, .int a1), (3, .int a3)]) hx hb dX7_run_96 hl (k := 3) rfl rfl (by decide) rfl (fun ls hl => ?_)
                refine lv_goto (tgt := 69) hx hb dX7_run_99 (by decide) ?_
                exact ih_69 _ _ _ _ _ hf hE (lv_sub hl [1, 2, 3, 0] rfl)
          exact L_20 _ _ _ _ _ _ hf hE (lv_sub hl [1, 2, 4, 0] rfl)
        · have hf := it_y h_8 hf
          refine lv_iconst (v := -1) hx hb dX7_run_37 (by decide) ?_
          exact hret _ _ _ _ _ _ (pr_1 hf) (pr_2 hf) rfl dX7_run_38 hE
  · have hf := it_y h_2 hf
    refine lv_bipush (v := -2) hx hb dX7_run_7 (by decide) ?_
    exact hret _ _ _ _ _ _ (pr_1 hf) (pr_2 hf) rfl dX7_run_9 hE
def rm_X7_trace : Room := { frames := 1, cells := 0, slots := 0, locals := 22 }
def f_X7_trace (o : Nat) (a1 : Int32) (M : Mm) : Option (Int32) :=
    (op_gI M 7 o 17).bind fun x_1 =>
    if 0 ≤ x_1 then
    (op_gI M 7 o 17).bind fun x_3 =>
    (f_X7_isIn a1 (0 : Int32) x_3).bind fun z_4 =>
    if z_4 = 0 then
    some (-1 : Int32)
    else
    (op_gR M 7 o 18).bind fun x_6 =>
    (op_aI M x_6 a1).bind fun x_7 =>
    some x_7
    else
    some (-2 : Int32)
set_option maxHeartbeats 4000000 in
set_option maxRecDepth 100000 in
theorem c_X7_trace (l : Launch) (D : va_G) (cA : Nat → ClassId) (ad : Nat → Nat) (o : Nat) (a1 : Int32) (M : Mm) (zr : Int32) (hf : f_X7_trace o a1 M = some zr) : KI l yX7_trace cX7_trace 2 (some .int) rm_X7_trace D cA ad [.ref (ad o), .int a1] M zr M := by
  refine KI_of (by decide) (Nat.le_of_ble_eq_true rfl) ?_
  intro p e s m args below meth c ls Q A H locs hZ hE hl hret
  have hx := hZ.1
  have hb := hZ.2.1
  have hown := hZ.2.2.2.1
  have hts := hZ.2.2.2.2.1
  have hl : lv_has ls 2 [(0, .ref (ad o)), (1, .int a1)] := hl
  unfold f_X7_trace at hf
  refine lv_aload_n hx hb dX7_trace_0 rfl (lv_at hl 0 rfl) ?_
  obtain ⟨x_1, g_1, hf⟩ := b_some hf
  refine xx_gI hZ hE k_X7 17 (by decide) rfl tw_372 g_1 dX7_trace_1 ?_
  refine lv_if_ge (tgt := 12) hx hb dX7_trace_4 (by decide) (fun h_2 => ?_) (fun h_2 => ?_)
  · have hf := it_y h_2 hf
    refine lv_iload_n hx hb dX7_trace_12 rfl (lv_at hl 1 rfl) ?_
    refine lv_iconst (v := 0) hx hb dX7_trace_13 (by decide) ?_
    refine lv_aload_n hx hb dX7_trace_14 rfl (lv_at hl 0 rfl) ?_
    obtain ⟨x_3, g_3, hf⟩ := b_some hf
    refine xx_gI hZ hE k_X7 17 (by decide) rfl tw_372 g_3 dX7_trace_15 ?_
    obtain ⟨z_4, c_4, hf⟩ := b_some hf
    refine xx_cSi hZ hE (As := [.int a1, .int (0 : Int32), .int x_3]) (rest := []) tw_366 (c_X7_isIn l D cA ad a1 (0 : Int32) x_3 M _ c_4) cw_X7_isIn tw_364 ⟨rfl, rfl⟩ ⟨Nat.le_of_ble_eq_true rfl, Nat.le_of_ble_eq_true rfl⟩ rfl hl.1 rfl (Nat.le_of_ble_eq_true rfl) ⟨Nat.le_of_ble_eq_true rfl, Nat.le_of_ble_eq_true rfl⟩ dX7_trace_18 (fun H locs hE => ?_)
    refine lv_if_eq (tgt := 33) hx hb dX7_trace_21 (by decide) (fun h_5 => ?_) (fun h_5 => ?_)
    · have hf := it_y h_5 hf
      refine lv_iconst (v := -1) hx hb dX7_trace_33 (by decide) ?_
      exact hret _ _ _ _ _ _ (Option.some.inj hf) rfl rfl dX7_trace_34 hE
    · have hf := it_n h_5 hf
      refine lv_aload_n hx hb dX7_trace_24 rfl (lv_at hl 0 rfl) ?_
      obtain ⟨x_6, g_6, hf⟩ := b_some hf
      refine xx_gR hZ hE k_X7 18 (by decide) rfl tw_522 g_6 dX7_trace_25 ?_
      refine lv_iload_n hx hb dX7_trace_28 rfl (lv_at hl 1 rfl) ?_
      obtain ⟨x_7, g_7, hf⟩ := b_some hf
      refine xx_aI hZ hE g_7 dX7_trace_29 ?_
      refine lv_goto (tgt := 34) hx hb dX7_trace_30 (by decide) ?_
      exact hret _ _ _ _ _ _ (Option.some.inj hf) rfl rfl dX7_trace_34 hE
  · have hf := it_n h_2 hf
    refine lv_bipush (v := -2) hx hb dX7_trace_7 (by decide) ?_
    refine lv_goto (tgt := 34) hx hb dX7_trace_9 (by decide) ?_
    exact hret _ _ _ _ _ _ (Option.some.inj hf) rfl rfl dX7_trace_34 hE
def lp_X7_visits_24 (i_0 : Nat) (i_1 : Int32) (M : Mm) : Nat → Int32 → Int32 → Option (Int32)
  | 0, _, _ => none
  | n_24 + 1, v_2, v_3 =>
    (op_gI M 7 i_0 17).bind fun x_5 =>
    if x_5 < v_3 then
    some v_2
    else
    (op_gR M 7 i_0 18).bind fun x_7 =>
    (op_aI M x_7 v_3).bind fun x_8 =>
    lp_X7_visits_24 i_0 i_1 M n_24 (v_2 + (if x_8 = i_1 then (1 : Int32) else (0 : Int32))) (v_3 + 1)
theorem lp_X7_visits_24_s (i_0 : Nat) (i_1 : Int32) (M : Mm) {n_24 : Nat} {v_2 : Int32} {v_3 : Int32} {zr : Int32} (hf : lp_X7_visits_24 i_0 i_1 M (n_24 + 1) v_2 v_3 = some zr) : (
    (op_gI M 7 i_0 17).bind fun x_5 =>
    if x_5 < v_3 then
    some v_2
    else
    (op_gR M 7 i_0 18).bind fun x_7 =>
    (op_aI M x_7 v_3).bind fun x_8 =>
    lp_X7_visits_24 i_0 i_1 M n_24 (v_2 + (if x_8 = i_1 then (1 : Int32) else (0 : Int32))) (v_3 + 1)) = some zr := hf
def rm_X7_visits : Room := { frames := 2, cells := 0, slots := 0, locals := 43 }
def f_X7_visits (o : Nat) (a1 : Int32) (M : Mm) : Option (Int32) :=
    (op_gI M 7 o 17).bind fun x_1 =>
    if 0 ≤ x_1 then
    (op_is M o 7).bind fun _ =>
    (f_X7_isState o a1 M).bind fun z_3 =>
    if z_3 = 0 then
    some (-1 : Int32)
    else
    lp_X7_visits_24  o a1 M FU (0 : Int32) (0 : Int32)
    else
    some (-2 : Int32)
set_option maxHeartbeats 4000000 in
set_option maxRecDepth 100000 in
theorem c_X7_visits (l : Launch) (D : va_G) (cA : Nat → ClassId) (ad : Nat → Nat) (o : Nat) (a1 : Int32) (M : Mm) (zr : Int32) (hf : f_X7_visits o a1 M = some zr) : KI l yX7_visits cX7_visits 4 (some .int) rm_X7_visits D cA ad [.ref (ad o), .int a1] M zr M := by
  refine KI_of (by decide) (Nat.le_of_ble_eq_true rfl) ?_
  intro p e s m args below meth c ls Q A H locs hZ hE hl hret
  have hx := hZ.1
  have hb := hZ.2.1
  have hown := hZ.2.2.2.1
  have hts := hZ.2.2.2.2.1
  have hl : lv_has ls 4 [(0, .ref (ad o)), (1, .int a1)] := hl
  unfold f_X7_visits at hf
  refine lv_aload_n hx hb dX7_visits_0 rfl (lv_at hl 0 rfl) ?_
  obtain ⟨x_1, g_1, hf⟩ := b_some hf
  refine xx_gI hZ hE k_X7 17 (by decide) rfl tw_372 g_1 dX7_visits_1 ?_
  refine lv_if_ge (tgt := 10) hx hb dX7_visits_4 (by decide) (fun h_2 => ?_) (fun h_2 => ?_)
  · have hf := it_y h_2 hf
    refine lv_aload_n hx hb dX7_visits_10 rfl (lv_at hl 0 rfl) ?_
    refine lv_iload_n hx hb dX7_visits_11 rfl (lv_at hl 1 rfl) ?_
    obtain ⟨_, i_3, hf⟩ := b_some hf
    obtain ⟨z_3, c_3, hf⟩ := b_some hf
    refine xx_cVi hZ hE (As := [.int a1]) (rest := []) k_X7 (is_m i_3) tw_378 tw_379 (c_X7_isState l D cA ad o a1 M _ c_3) cw_X7_isState tw_377 ⟨rfl, rfl⟩ ⟨Nat.le_of_ble_eq_true rfl, Nat.le_of_ble_eq_true rfl⟩ rfl hl.1 rfl (Nat.le_of_ble_eq_true rfl) ⟨Nat.le_of_ble_eq_true rfl, Nat.le_of_ble_eq_true rfl⟩ dX7_visits_12 (fun H locs hE => ?_)
    refine lv_if_ne (tgt := 20) hx hb dX7_visits_15 (by decide) (fun h_4 => ?_) (fun h_4 => ?_)
    · have hf := it_n h_4 hf
      refine lv_iconst (v := 0) hx hb dX7_visits_20 (by decide) ?_
      refine lv_istore_n (lv' := [(2, .int (0 : Int32)), (0, .ref (ad o)), (1, .int a1)]) hx hb dX7_visits_21 rfl hl (by decide) rfl (fun ls hl => ?_)
      refine lv_iconst (v := 0) hx hb dX7_visits_22 (by decide) ?_
      refine lv_istore_n (lv' := [(3, .int (0 : Int32)), (2, .int (0 : Int32)), (0, .ref (ad o)), (1, .int a1)]) hx hb dX7_visits_23 rfl hl (by decide) rfl (fun ls hl => ?_)
      have L_11 : ∀ (n_24 : Nat) (w_11_2 : Int32) (w_11_3 : Int32) (H : Heap) (locs : List Loc) (ls : Array Slot), lp_X7_visits_24 o a1 M n_24 w_11_2 w_11_3 = some zr → En D cA ad s A M H locs → lv_has ls 4 [(0, .ref (ad o)), (1, .int a1), (2, .int w_11_2), (3, .int w_11_3)] → W p l e rm_X7_visits s m args below meth c H locs 0 0 Q (F0 m 24 ls []) := by
        intro n_24
        induction n_24 with
        | zero =>
          intro w_11_2 w_11_3 H locs ls hf
          cases (show (none : Option (Int32)) = some zr from hf)
        | succ n_24 ih_24 =>
          intro w_11_2 w_11_3 H locs ls hf hE hl
          have hf := lp_X7_visits_24_s _ _ _ hf
          refine lv_iload_n hx hb dX7_visits_24 rfl (lv_at hl 3 rfl) ?_
          refine lv_aload_n hx hb dX7_visits_25 rfl (lv_at hl 0 rfl) ?_
          obtain ⟨x_12, g_12, hf⟩ := b_some hf
          refine xx_gI hZ hE k_X7 17 (by decide) rfl tw_372 g_12 dX7_visits_26 ?_
          refine lv_icmp_gt (tgt := 56) hx hb dX7_visits_29 (by decide) (fun h_13 => ?_) (fun h_13 => ?_)
          · have hf := it_y h_13 hf
            refine lv_iload_n hx hb dX7_visits_56 rfl (lv_at hl 2 rfl) ?_
            exact hret _ _ _ _ _ _ (Option.some.inj hf) rfl rfl dX7_visits_57 hE
          · have hf := it_n h_13 hf
            refine lv_iload_n hx hb dX7_visits_32 rfl (lv_at hl 2 rfl) ?_
            refine lv_aload_n hx hb dX7_visits_33 rfl (lv_at hl 0 rfl) ?_
            obtain ⟨x_14, g_14, hf⟩ := b_some hf
            refine xx_gR hZ hE k_X7 18 (by decide) rfl tw_522 g_14 dX7_visits_34 ?_
            refine lv_iload_n hx hb dX7_visits_37 rfl (lv_at hl 3 rfl) ?_
            obtain ⟨x_15, g_15, hf⟩ := b_some hf
            refine xx_aI hZ hE g_15 dX7_visits_38 ?_
            refine lv_iload_n hx hb dX7_visits_39 rfl (lv_at hl 1 rfl) ?_
            have q_16 : ∀ x_16 : Int32, x_16 = (if x_15 = a1 then (1 : Int32) else (0 : Int32)) → W p l e rm_X7_visits s m args below meth c H locs 0 0 Q (F0 m 48 ls [.int x_16, .int w_11_2]) := by
              intro x_16 e_16
              subst e_16
              refine lv_iadd hx hb dX7_visits_48 ?_
              refine lv_istore_n (lv' := [(2, .int (w_11_2 + (if x_15 = a1 then (1 : Int32) else (0 : Int32)))), (0, .ref (ad o)), (1, .int a1), (3, .int w_11_3)]) hx hb dX7_visits_49 rfl hl (by decide) rfl (fun ls hl => ?_)
              refine lv_iinc (v := (w_11_3 + 1)) (lv' := [(3, .int (w_11_3 + 1)), (2, .int (w_11_2 + (if x_15 = a1 then (1 : Int32) else (0 : Int32)))), (0, .ref (ad o)), (1, .int a1)]) hx hb dX7_visits_50 hl (k := 3) rfl rfl (by decide) rfl (fun ls hl => ?_)
              refine lv_goto (tgt := 24) hx hb dX7_visits_53 (by decide) ?_
              exact ih_24 _ _ _ _ _ hf hE (lv_sub hl [2, 3, 1, 0] rfl)
            refine lv_icmp_ne (tgt := 47) hx hb dX7_visits_40 (by decide) (fun h_17 => ?_) (fun h_17 => ?_)
            · refine lv_iconst (v := 0) hx hb dX7_visits_47 (by decide) ?_
              exact q_16 _ (by rw [if_neg h_17])
            · refine lv_iconst (v := 1) hx hb dX7_visits_43 (by decide) ?_
              refine lv_goto (tgt := 48) hx hb dX7_visits_44 (by decide) ?_
              exact q_16 _ (by rw [if_pos h_17])
      exact L_11 _ _ _ _ _ _ hf hE (lv_sub hl [2, 3, 1, 0] rfl)
    · have hf := it_y h_4 hf
      refine lv_iconst (v := -1) hx hb dX7_visits_18 (by decide) ?_
      exact hret _ _ _ _ _ _ (Option.some.inj hf) rfl rfl dX7_visits_19 hE
  · have hf := it_n h_2 hf
    refine lv_bipush (v := -2) hx hb dX7_visits_7 (by decide) ?_
    exact hret _ _ _ _ _ _ (Option.some.inj hf) rfl rfl dX7_visits_9 hE
def rm_X7_refused : Room := { frames := 0, cells := 0, slots := 0, locals := 0 }
def f_X7_refused (o : Nat) (M : Mm) : Option (Int32) :=
    (op_gI M 7 o 17).bind fun x_1 =>
    if 0 ≤ x_1 then
    (op_gI M 7 o 19).bind fun x_3 =>
    some x_3
    else
    some (-2 : Int32)
set_option maxHeartbeats 4000000 in
set_option maxRecDepth 100000 in
theorem c_X7_refused (l : Launch) (D : va_G) (cA : Nat → ClassId) (ad : Nat → Nat) (o : Nat) (M : Mm) (zr : Int32) (hf : f_X7_refused o M = some zr) : KI l yX7_refused cX7_refused 1 (some .int) rm_X7_refused D cA ad [.ref (ad o)] M zr M := by
  refine KI_of (by decide) (Nat.le_of_ble_eq_true rfl) ?_
  intro p e s m args below meth c ls Q A H locs hZ hE hl hret
  have hx := hZ.1
  have hb := hZ.2.1
  have hown := hZ.2.2.2.1
  have hts := hZ.2.2.2.2.1
  have hl : lv_has ls 1 [(0, .ref (ad o))] := hl
  unfold f_X7_refused at hf
  refine lv_aload_n hx hb dX7_refused_0 rfl (lv_at hl 0 rfl) ?_
  obtain ⟨x_1, g_1, hf⟩ := b_some hf
  refine xx_gI hZ hE k_X7 17 (by decide) rfl tw_372 g_1 dX7_refused_1 ?_
  refine lv_if_ge (tgt := 12) hx hb dX7_refused_4 (by decide) (fun h_2 => ?_) (fun h_2 => ?_)
  · have hf := it_y h_2 hf
    refine lv_aload_n hx hb dX7_refused_12 rfl (lv_at hl 0 rfl) ?_
    obtain ⟨x_3, g_3, hf⟩ := b_some hf
    refine xx_gI hZ hE k_X7 19 (by decide) rfl tw_373 g_3 dX7_refused_13 ?_
    exact hret _ _ _ _ _ _ (Option.some.inj hf) rfl rfl dX7_refused_16 hE
  · have hf := it_n h_2 hf
    refine lv_bipush (v := -2) hx hb dX7_refused_7 (by decide) ?_
    refine lv_goto (tgt := 16) hx hb dX7_refused_9 (by decide) ?_
    exact hret _ _ _ _ _ _ (Option.some.inj hf) rfl rfl dX7_refused_16 hE
def lp_X7_together_49 (k_126 : Int64 → Int64 → Int64 → Int64 → Option (Int64)) (i_0 : Nat) (i_1 : Int32) (i_2 : Int32) (M : Mm) : Nat → Int64 → Int64 → Int64 → Int64 → Int32 → Option (Int64)
  | 0, _, _, _, _, _ => none
  | n_49 + 1, v_3, v_5, v_7, v_9, v_11 =>
    (op_gI M 7 i_0 17).bind fun x_8 =>
    if x_8 < (v_11 + i_2) then
    k_126 v_3 v_5 v_7 v_9
    else
    (op_gR M 7 i_0 18).bind fun x_10 =>
    (op_aI M x_10 v_11).bind fun x_11 =>
    (op_is M i_0 7).bind fun _ =>
    (f_X7_valueOf i_0 x_11 i_1 M).bind fun z_12 =>
    (op_gR M 7 i_0 18).bind fun x_13 =>
    (op_aI M x_13 (v_11 + i_2)).bind fun x_14 =>
    (op_is M i_0 7).bind fun _ =>
    (f_X7_valueOf i_0 x_14 i_1 M).bind fun z_15 =>
    lp_X7_together_49 k_126 i_0 i_1 i_2 M n_49 (v_3 + (1 : Int64)) (v_5 + (z_12.toInt64 * z_15.toInt64)) (v_7 + z_12.toInt64) (v_9 + z_15.toInt64) (v_11 + 1)
theorem lp_X7_together_49_s (k_126 : Int64 → Int64 → Int64 → Int64 → Option (Int64)) (i_0 : Nat) (i_1 : Int32) (i_2 : Int32) (M : Mm) {n_49 : Nat} {v_3 : Int64} {v_5 : Int64} {v_7 : Int64} {v_9 : Int64} {v_11 : Int32} {zr : Int64} (hf : lp_X7_together_49 k_126 i_0 i_1 i_2 M (n_49 + 1) v_3 v_5 v_7 v_9 v_11 = some zr) : (
    (op_gI M 7 i_0 17).bind fun x_8 =>
    if x_8 < (v_11 + i_2) then
    k_126 v_3 v_5 v_7 v_9
    else
    (op_gR M 7 i_0 18).bind fun x_10 =>
    (op_aI M x_10 v_11).bind fun x_11 =>
    (op_is M i_0 7).bind fun _ =>
    (f_X7_valueOf i_0 x_11 i_1 M).bind fun z_12 =>
    (op_gR M 7 i_0 18).bind fun x_13 =>
    (op_aI M x_13 (v_11 + i_2)).bind fun x_14 =>
    (op_is M i_0 7).bind fun _ =>
    (f_X7_valueOf i_0 x_14 i_1 M).bind fun z_15 =>
    lp_X7_together_49 k_126 i_0 i_1 i_2 M n_49 (v_3 + (1 : Int64)) (v_5 + (z_12.toInt64 * z_15.toInt64)) (v_7 + z_12.toInt64) (v_9 + z_15.toInt64) (v_11 + 1)) = some zr := hf
theorem lp_X7_together_49_k {k_126 : Int64 → Int64 → Int64 → Int64 → Option (Int64)} {i_0 : Nat} {i_1 : Int32} {i_2 : Int32} {M : Mm} {n : Nat} {v_3 : Int64} {v_5 : Int64} {v_7 : Int64} {v_9 : Int64} {v_11 : Int32} {zr : Int64} (hf : lp_X7_together_49 k_126 i_0 i_1 i_2 M n v_3 v_5 v_7 v_9 v_11 = some zr) : ∃ (m_126 : Int64 → Int64 → Int64 → Int64 → Option (Int64)), m_126 = k_126 ∧ lp_X7_together_49 m_126 i_0 i_1 i_2 M n v_3 v_5 v_7 v_9 v_11 = some zr := ⟨k_126, rfl, hf⟩
def rm_X7_together : Room := { frames := 2, cells := 0, slots := 0, locals := 45 }
def f_X7_together (o : Nat) (a1 : Int32) (a2 : Int32) (M : Mm) : Option (Int64) :=
    (op_gI M 7 o 17).bind fun x_1 =>
    if 0 ≤ x_1 then
    (op_is M o 7).bind fun _ =>
    (f_X7_isPlace o a1 M).bind fun z_3 =>
    if z_3 = 0 then
    some (-1 : Int64)
    else
    (op_gI M 7 o 17).bind fun x_5 =>
    (f_X7_isIn a2 (0 : Int32) x_5).bind fun z_6 =>
    if z_6 = 0 then
    some (-1 : Int64)
    else
    lp_X7_together_49 (fun (l_17_3 : Int64) (l_17_5 : Int64) (l_17_7 : Int64) (l_17_9 : Int64) =>
    some ((l_17_3 * l_17_5) - (l_17_7 * l_17_9))) o a1 a2 M FU (0 : Int64) (0 : Int64) (0 : Int64) (0 : Int64) (0 : Int32)
    else
    some (-2 : Int64)
set_option maxHeartbeats 4000000 in
set_option maxRecDepth 100000 in
theorem c_X7_together (l : Launch) (D : va_G) (cA : Nat → ClassId) (ad : Nat → Nat) (o : Nat) (a1 : Int32) (a2 : Int32) (M : Mm) (zr : Int64) (hf : f_X7_together o a1 a2 M = some zr) : KL l yX7_together cX7_together 16 (some .long) rm_X7_together D cA ad [.ref (ad o), .int a1, .int a2] M zr M := by
  refine KL_of (by decide) (Nat.le_of_ble_eq_true rfl) ?_
  intro p e s m args below meth c ls Q A H locs hZ hE hl hret
  have hx := hZ.1
  have hb := hZ.2.1
  have hown := hZ.2.2.2.1
  have hts := hZ.2.2.2.2.1
  have hl : lv_has ls 16 [(0, .ref (ad o)), (1, .int a1), (2, .int a2)] := hl
  unfold f_X7_together at hf
  refine lv_aload_n hx hb dX7_together_0 rfl (lv_at hl 0 rfl) ?_
  obtain ⟨x_1, g_1, hf⟩ := b_some hf
  refine xx_gI hZ hE k_X7 17 (by decide) rfl tw_372 g_1 dX7_together_1 ?_
  refine lv_if_ge (tgt := 11) hx hb dX7_together_4 (by decide) (fun h_2 => ?_) (fun h_2 => ?_)
  · have hf := it_y h_2 hf
    refine lv_aload_n hx hb dX7_together_11 rfl (lv_at hl 0 rfl) ?_
    refine lv_iload_n hx hb dX7_together_12 rfl (lv_at hl 1 rfl) ?_
    obtain ⟨_, i_3, hf⟩ := b_some hf
    obtain ⟨z_3, c_3, hf⟩ := b_some hf
    refine xx_cVi hZ hE (As := [.int a1]) (rest := []) k_X7 (is_m i_3) tw_387 tw_388 (c_X7_isPlace l D cA ad o a1 M _ c_3) cw_X7_isPlace tw_386 ⟨rfl, rfl⟩ ⟨Nat.le_of_ble_eq_true rfl, Nat.le_of_ble_eq_true rfl⟩ rfl hl.1 rfl (Nat.le_of_ble_eq_true rfl) ⟨Nat.le_of_ble_eq_true rfl, Nat.le_of_ble_eq_true rfl⟩ dX7_together_13 (fun H locs hE => ?_)
    refine lv_if_eq (tgt := 31) hx hb dX7_together_16 (by decide) (fun h_4 => ?_) (fun h_4 => ?_)
    · have hf := it_y h_4 hf
      refine lv_ldc2 (v := -1) hx hb hown (hts _ tw_480) dX7_together_31 ?_
      exact hret _ _ _ _ _ _ (Option.some.inj hf) rfl dX7_together_34 hE
    · have hf := it_n h_4 hf
      refine lv_iload_n hx hb dX7_together_19 rfl (lv_at hl 2 rfl) ?_
      refine lv_iconst (v := 0) hx hb dX7_together_20 (by decide) ?_
      refine lv_aload_n hx hb dX7_together_21 rfl (lv_at hl 0 rfl) ?_
      obtain ⟨x_5, g_5, hf⟩ := b_some hf
      refine xx_gI hZ hE k_X7 17 (by decide) rfl tw_372 g_5 dX7_together_22 ?_
      obtain ⟨z_6, c_6, hf⟩ := b_some hf
      refine xx_cSi hZ hE (As := [.int a2, .int (0 : Int32), .int x_5]) (rest := []) tw_366 (c_X7_isIn l D cA ad a2 (0 : Int32) x_5 M _ c_6) cw_X7_isIn tw_364 ⟨rfl, rfl⟩ ⟨Nat.le_of_ble_eq_true rfl, Nat.le_of_ble_eq_true rfl⟩ rfl hl.1 rfl (Nat.le_of_ble_eq_true rfl) ⟨Nat.le_of_ble_eq_true rfl, Nat.le_of_ble_eq_true rfl⟩ dX7_together_25 (fun H locs hE => ?_)
      refine lv_if_ne (tgt := 35) hx hb dX7_together_28 (by decide) (fun h_7 => ?_) (fun h_7 => ?_)
      · have hf := it_n h_7 hf
        refine lv_lconst (v := 0) hx hb dX7_together_35 (by decide) ?_
        refine lv_lstore_n (lv' := [(3, .long (0 : Int64)), (0, .ref (ad o)), (1, .int a1), (2, .int a2)]) hx hb dX7_together_36 rfl hl (by decide) rfl (fun ls hl => ?_)
        refine lv_lconst (v := 0) hx hb dX7_together_37 (by decide) ?_
        refine lv_lstore (lv' := [(5, .long (0 : Int64)), (3, .long (0 : Int64)), (0, .ref (ad o)), (1, .int a1), (2, .int a2)]) hx hb dX7_together_38 hl (by decide) rfl (fun ls hl => ?_)
        refine lv_lconst (v := 0) hx hb dX7_together_40 (by decide) ?_
        refine lv_lstore (lv' := [(7, .long (0 : Int64)), (5, .long (0 : Int64)), (3, .long (0 : Int64)), (0, .ref (ad o)), (1, .int a1), (2, .int a2)]) hx hb dX7_together_41 hl (by decide) rfl (fun ls hl => ?_)
        refine lv_lconst (v := 0) hx hb dX7_together_43 (by decide) ?_
        refine lv_lstore (lv' := [(9, .long (0 : Int64)), (7, .long (0 : Int64)), (5, .long (0 : Int64)), (3, .long (0 : Int64)), (0, .ref (ad o)), (1, .int a1), (2, .int a2)]) hx hb dX7_together_44 hl (by decide) rfl (fun ls hl => ?_)
        refine lv_iconst (v := 0) hx hb dX7_together_46 (by decide) ?_
        refine lv_istore (lv' := [(11, .int (0 : Int32)), (9, .long (0 : Int64)), (7, .long (0 : Int64)), (5, .long (0 : Int64)), (3, .long (0 : Int64)), (0, .ref (ad o)), (1, .int a1), (2, .int a2)]) hx hb dX7_together_47 hl (by decide) rfl (fun ls hl => ?_)
        obtain ⟨k_126_17, ek_126_17, hf⟩ := lp_X7_together_49_k hf
        have o_126_17 : ∀ (l_17_3 : Int64) (l_17_5 : Int64) (l_17_7 : Int64) (l_17_9 : Int64) (H : Heap) (locs : List Loc) (ls : Array Slot), k_126_17 l_17_3 l_17_5 l_17_7 l_17_9 = some zr → En D cA ad s A M H locs → lv_has ls 16 [(3, .long l_17_3), (5, .long l_17_5), (7, .long l_17_7), (9, .long l_17_9)] → W p l e rm_X7_together s m args below meth c H locs 0 0 Q (F0 m 126 ls []) := by
          intro l_17_3 l_17_5 l_17_7 l_17_9 H locs ls hf hE hl
          rw [ek_126_17] at hf
          refine lv_lload_n hx hb dX7_together_126 rfl (lv_at hl 0 rfl) ?_
          refine lv_lload hx hb dX7_together_127 (lv_at hl 1 rfl) ?_
          refine lv_lmul hx hb dX7_together_129 ?_
          refine lv_lload hx hb dX7_together_130 (lv_at hl 2 rfl) ?_
          refine lv_lload hx hb dX7_together_132 (lv_at hl 3 rfl) ?_
          refine lv_lmul hx hb dX7_together_134 ?_
          refine lv_lsub hx hb dX7_together_135 ?_
          exact hret _ _ _ _ _ _ (Option.some.inj hf) rfl dX7_together_136 hE
        have L_16 : ∀ (n_49 : Nat) (w_16_3 : Int64) (w_16_5 : Int64) (w_16_7 : Int64) (w_16_9 : Int64) (w_16_11 : Int32) (H : Heap) (locs : List Loc) (ls : Array Slot), lp_X7_together_49 k_126_17 o a1 a2 M n_49 w_16_3 w_16_5 w_16_7 w_16_9 w_16_11 = some zr → En D cA ad s A M H locs → lv_has ls 16 [(0, .ref (ad o)), (1, .int a1), (2, .int a2), (3, .long w_16_3), (5, .long w_16_5), (7, .long w_16_7), (9, .long w_16_9), (11, .int w_16_11)] → W p l e rm_X7_together s m args below meth c H locs 0 0 Q (F0 m 49 ls []) := by
          intro n_49
          induction n_49 with
          | zero =>
            intro w_16_3 w_16_5 w_16_7 w_16_9 w_16_11 H locs ls hf
            cases (show (none : Option (Int64)) = some zr from hf)
          | succ n_49 ih_49 =>
            intro w_16_3 w_16_5 w_16_7 w_16_9 w_16_11 H locs ls hf hE hl
            have hf := lp_X7_together_49_s _ _ _ _ _ hf
            refine lv_iload hx hb dX7_together_49 (lv_at hl 7 rfl) ?_
            refine lv_iload_n hx hb dX7_together_51 rfl (lv_at hl 2 rfl) ?_
            refine lv_iadd hx hb dX7_together_52 ?_
            refine lv_aload_n hx hb dX7_together_53 rfl (lv_at hl 0 rfl) ?_
            obtain ⟨x_18, g_18, hf⟩ := b_some hf
            refine xx_gI hZ hE k_X7 17 (by decide) rfl tw_372 g_18 dX7_together_54 ?_
            refine lv_icmp_gt (tgt := 126) hx hb dX7_together_57 (by decide) (fun h_19 => ?_) (fun h_19 => ?_)
            · have hf := it_y h_19 hf
              exact o_126_17 _ _ _ _ _ _ _ hf hE (lv_sub hl [3, 4, 5, 6] rfl)
            · have hf := it_n h_19 hf
              refine lv_aload_n hx hb dX7_together_60 rfl (lv_at hl 0 rfl) ?_
              refine lv_aload_n hx hb dX7_together_61 rfl (lv_at hl 0 rfl) ?_
              obtain ⟨x_20, g_20, hf⟩ := b_some hf
              refine xx_gR hZ hE k_X7 18 (by decide) rfl tw_522 g_20 dX7_together_62 ?_
              refine lv_iload hx hb dX7_together_65 (lv_at hl 7 rfl) ?_
              obtain ⟨x_21, g_21, hf⟩ := b_some hf
              refine xx_aI hZ hE g_21 dX7_together_67 ?_
              refine lv_iload_n hx hb dX7_together_68 rfl (lv_at hl 1 rfl) ?_
              obtain ⟨_, i_22, hf⟩ := b_some hf
              obtain ⟨z_22, c_22, hf⟩ := b_some hf
              refine xx_cVi hZ hE (As := [.int x_21, .int a1]) (rest := []) k_X7 (is_m i_22) tw_384 tw_385 (c_X7_valueOf l D cA ad o x_21 a1 M _ c_22) cw_X7_valueOf tw_383 ⟨rfl, rfl⟩ ⟨Nat.le_of_ble_eq_true rfl, Nat.le_of_ble_eq_true rfl⟩ rfl hl.1 rfl (Nat.le_of_ble_eq_true rfl) ⟨Nat.le_of_ble_eq_true rfl, Nat.le_of_ble_eq_true rfl⟩ dX7_together_69 (fun H locs hE => ?_)
              refine lv_i2l hx hb dX7_together_72 rfl ?_
              refine lv_lstore (lv' := [(12, .long z_22.toInt64), (0, .ref (ad o)), (1, .int a1), (2, .int a2), (3, .long w_16_3), (5, .long w_16_5), (7, .long w_16_7), (9, .long w_16_9), (11, .int w_16_11)]) hx hb dX7_together_73 hl (by decide) rfl (fun ls hl => ?_)
              refine lv_aload_n hx hb dX7_together_75 rfl (lv_at hl 1 rfl) ?_
              refine lv_aload_n hx hb dX7_together_76 rfl (lv_at hl 1 rfl) ?_
              obtain ⟨x_23, g_23, hf⟩ := b_some hf
              refine xx_gR hZ hE k_X7 18 (by decide) rfl tw_522 g_23 dX7_together_77 ?_
              refine lv_iload hx hb dX7_together_80 (lv_at hl 8 rfl) ?_
              refine lv_iload_n hx hb dX7_together_82 rfl (lv_at hl 3 rfl) ?_
              refine lv_iadd hx hb dX7_together_83 ?_
              obtain ⟨x_24, g_24, hf⟩ := b_some hf
              refine xx_aI hZ hE g_24 dX7_together_84 ?_
              refine lv_iload_n hx hb dX7_together_85 rfl (lv_at hl 2 rfl) ?_
              obtain ⟨_, i_25, hf⟩ := b_some hf
              obtain ⟨z_25, c_25, hf⟩ := b_some hf
              refine xx_cVi hZ hE (As := [.int x_24, .int a1]) (rest := []) k_X7 (is_m i_25) tw_384 tw_385 (c_X7_valueOf l D cA ad o x_24 a1 M _ c_25) cw_X7_valueOf tw_383 ⟨rfl, rfl⟩ ⟨Nat.le_of_ble_eq_true rfl, Nat.le_of_ble_eq_true rfl⟩ rfl hl.1 rfl (Nat.le_of_ble_eq_true rfl) ⟨Nat.le_of_ble_eq_true rfl, Nat.le_of_ble_eq_true rfl⟩ dX7_together_86 (fun H locs hE => ?_)
              refine lv_i2l hx hb dX7_together_89 rfl ?_
              refine lv_lstore (lv' := [(14, .long z_25.toInt64), (12, .long z_22.toInt64), (0, .ref (ad o)), (1, .int a1), (2, .int a2), (3, .long w_16_3), (5, .long w_16_5), (7, .long w_16_7), (9, .long w_16_9), (11, .int w_16_11)]) hx hb dX7_together_90 hl (by decide) rfl (fun ls hl => ?_)
              refine lv_lload_n hx hb dX7_together_92 rfl (lv_at hl 5 rfl) ?_
              refine lv_lconst (v := 1) hx hb dX7_together_93 (by decide) ?_
              refine lv_ladd hx hb dX7_together_94 ?_
              refine lv_lstore_n (lv' := [(3, .long (w_16_3 + (1 : Int64))), (14, .long z_25.toInt64), (12, .long z_22.toInt64), (0, .ref (ad o)), (1, .int a1), (2, .int a2), (5, .long w_16_5), (7, .long w_16_7), (9, .long w_16_9), (11, .int w_16_11)]) hx hb dX7_together_95 rfl hl (by decide) rfl (fun ls hl => ?_)
              refine lv_lload hx hb dX7_together_96 (lv_at hl 6 rfl) ?_
              refine lv_lload hx hb dX7_together_98 (lv_at hl 2 rfl) ?_
              refine lv_lload hx hb dX7_together_100 (lv_at hl 1 rfl) ?_
              refine lv_lmul hx hb dX7_together_102 ?_
              refine lv_ladd hx hb dX7_together_103 ?_
              refine lv_lstore (lv' := [(5, .long (w_16_5 + (z_22.toInt64 * z_25.toInt64))), (3, .long (w_16_3 + (1 : Int64))), (14, .long z_25.toInt64), (12, .long z_22.toInt64), (0, .ref (ad o)), (1, .int a1), (2, .int a2), (7, .long w_16_7), (9, .long w_16_9), (11, .int w_16_11)]) hx hb dX7_together_104 hl (by decide) rfl (fun ls hl => ?_)
              refine lv_lload hx hb dX7_together_106 (lv_at hl 7 rfl) ?_
              refine lv_lload hx hb dX7_together_108 (lv_at hl 3 rfl) ?_
              refine lv_ladd hx hb dX7_together_110 ?_
              refine lv_lstore (lv' := [(7, .long (w_16_7 + z_22.toInt64)), (5, .long (w_16_5 + (z_22.toInt64 * z_25.toInt64))), (3, .long (w_16_3 + (1 : Int64))), (14, .long z_25.toInt64), (12, .long z_22.toInt64), (0, .ref (ad o)), (1, .int a1), (2, .int a2), (9, .long w_16_9), (11, .int w_16_11)]) hx hb dX7_together_111 hl (by decide) rfl (fun ls hl => ?_)
              refine lv_lload hx hb dX7_together_113 (lv_at hl 8 rfl) ?_
              refine lv_lload hx hb dX7_together_115 (lv_at hl 3 rfl) ?_
              refine lv_ladd hx hb dX7_together_117 ?_
              refine lv_lstore (lv' := [(9, .long (w_16_9 + z_25.toInt64)), (7, .long (w_16_7 + z_22.toInt64)), (5, .long (w_16_5 + (z_22.toInt64 * z_25.toInt64))), (3, .long (w_16_3 + (1 : Int64))), (14, .long z_25.toInt64), (12, .long z_22.toInt64), (0, .ref (ad o)), (1, .int a1), (2, .int a2), (11, .int w_16_11)]) hx hb dX7_together_118 hl (by decide) rfl (fun ls hl => ?_)
              refine lv_iinc (v := (w_16_11 + 1)) (lv' := [(11, .int (w_16_11 + 1)), (9, .long (w_16_9 + z_25.toInt64)), (7, .long (w_16_7 + z_22.toInt64)), (5, .long (w_16_5 + (z_22.toInt64 * z_25.toInt64))), (3, .long (w_16_3 + (1 : Int64))), (14, .long z_25.toInt64), (12, .long z_22.toInt64), (0, .ref (ad o)), (1, .int a1), (2, .int a2)]) hx hb dX7_together_120 hl (k := 9) rfl rfl (by decide) rfl (fun ls hl => ?_)
              refine lv_goto (tgt := 49) hx hb dX7_together_123 (by decide) ?_
              exact ih_49 _ _ _ _ _ _ _ _ hf hE (lv_sub hl [7, 8, 9, 4, 3, 2, 1, 0] rfl)
        exact L_16 _ _ _ _ _ _ _ _ _ hf hE (lv_sub hl [5, 6, 7, 4, 3, 2, 1, 0] rfl)
      · have hf := it_y h_7 hf
        refine lv_ldc2 (v := -1) hx hb hown (hts _ tw_480) dX7_together_31 ?_
        exact hret _ _ _ _ _ _ (Option.some.inj hf) rfl dX7_together_34 hE
  · have hf := it_n h_2 hf
    refine lv_ldc2 (v := -2) hx hb hown (hts _ tw_485) dX7_together_7 ?_
    exact hret _ _ _ _ _ _ (Option.some.inj hf) rfl dX7_together_10 hE
def rm_X7_count : Room := { frames := 0, cells := 0, slots := 0, locals := 0 }
def f_X7_count (o : Nat) (a1 : Int32) (M : Mm) : Option (Int32) :=
    if a1 = 0 then
    (op_gI M 7 o 0).bind fun x_8 =>
    some x_8
    else
    if a1 = (1 : Int32) then
    (op_gI M 7 o 2).bind fun x_7 =>
    some x_7
    else
    if a1 = (2 : Int32) then
    (op_gI M 7 o 4).bind fun x_6 =>
    some x_6
    else
    if a1 = (3 : Int32) then
    (op_gI M 7 o 17).bind fun x_5 =>
    some x_5
    else
    some (-1 : Int32)
set_option maxHeartbeats 4000000 in
set_option maxRecDepth 100000 in
theorem c_X7_count (l : Launch) (D : va_G) (cA : Nat → ClassId) (ad : Nat → Nat) (o : Nat) (a1 : Int32) (M : Mm) (zr : Int32) (hf : f_X7_count o a1 M = some zr) : KI l yX7_count cX7_count 2 (some .int) rm_X7_count D cA ad [.ref (ad o), .int a1] M zr M := by
  refine KI_of (by decide) (Nat.le_of_ble_eq_true rfl) ?_
  intro p e s m args below meth c ls Q A H locs hZ hE hl hret
  have hx := hZ.1
  have hb := hZ.2.1
  have hown := hZ.2.2.2.1
  have hts := hZ.2.2.2.2.1
  have hl : lv_has ls 2 [(0, .ref (ad o)), (1, .int a1)] := hl
  unfold f_X7_count at hf
  refine lv_iload_n hx hb dX7_count_0 rfl (lv_at hl 1 rfl) ?_
  refine lv_if_ne (tgt := 11) hx hb dX7_count_1 (by decide) (fun h_1 => ?_) (fun h_1 => ?_)
  · have hf := it_n h_1 hf
    refine lv_iload_n hx hb dX7_count_11 rfl (lv_at hl 1 rfl) ?_
    refine lv_iconst (v := 1) hx hb dX7_count_12 (by decide) ?_
    refine lv_icmp_ne (tgt := 23) hx hb dX7_count_13 (by decide) (fun h_2 => ?_) (fun h_2 => ?_)
    · have hf := it_n h_2 hf
      refine lv_iload_n hx hb dX7_count_23 rfl (lv_at hl 1 rfl) ?_
      refine lv_iconst (v := 2) hx hb dX7_count_24 (by decide) ?_
      refine lv_icmp_ne (tgt := 35) hx hb dX7_count_25 (by decide) (fun h_3 => ?_) (fun h_3 => ?_)
      · have hf := it_n h_3 hf
        refine lv_iload_n hx hb dX7_count_35 rfl (lv_at hl 1 rfl) ?_
        refine lv_iconst (v := 3) hx hb dX7_count_36 (by decide) ?_
        refine lv_icmp_ne (tgt := 47) hx hb dX7_count_37 (by decide) (fun h_4 => ?_) (fun h_4 => ?_)
        · have hf := it_n h_4 hf
          refine lv_iconst (v := -1) hx hb dX7_count_47 (by decide) ?_
          exact hret _ _ _ _ _ _ (Option.some.inj hf) rfl rfl dX7_count_48 hE
        · have hf := it_y h_4 hf
          refine lv_aload_n hx hb dX7_count_40 rfl (lv_at hl 0 rfl) ?_
          obtain ⟨x_5, g_5, hf⟩ := b_some hf
          refine xx_gI hZ hE k_X7 17 (by decide) rfl tw_372 g_5 dX7_count_41 ?_
          refine lv_goto (tgt := 48) hx hb dX7_count_44 (by decide) ?_
          exact hret _ _ _ _ _ _ (Option.some.inj hf) rfl rfl dX7_count_48 hE
      · have hf := it_y h_3 hf
        refine lv_aload_n hx hb dX7_count_28 rfl (lv_at hl 0 rfl) ?_
        obtain ⟨x_6, g_6, hf⟩ := b_some hf
        refine xx_gI hZ hE k_X7 4 (by decide) rfl tw_368 g_6 dX7_count_29 ?_
        refine lv_goto (tgt := 48) hx hb dX7_count_32 (by decide) ?_
        exact hret _ _ _ _ _ _ (Option.some.inj hf) rfl rfl dX7_count_48 hE
    · have hf := it_y h_2 hf
      refine lv_aload_n hx hb dX7_count_16 rfl (lv_at hl 0 rfl) ?_
      obtain ⟨x_7, g_7, hf⟩ := b_some hf
      refine xx_gI hZ hE k_X7 2 (by decide) rfl tw_363 g_7 dX7_count_17 ?_
      refine lv_goto (tgt := 48) hx hb dX7_count_20 (by decide) ?_
      exact hret _ _ _ _ _ _ (Option.some.inj hf) rfl rfl dX7_count_48 hE
  · have hf := it_y h_1 hf
    refine lv_aload_n hx hb dX7_count_4 rfl (lv_at hl 0 rfl) ?_
    obtain ⟨x_8, g_8, hf⟩ := b_some hf
    refine xx_gI hZ hE k_X7 0 (by decide) rfl tw_367 g_8 dX7_count_5 ?_
    refine lv_goto (tgt := 48) hx hb dX7_count_8 (by decide) ?_
    exact hret _ _ _ _ _ _ (Option.some.inj hf) rfl rfl dX7_count_48 hE
