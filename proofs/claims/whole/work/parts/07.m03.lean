def rm_X1_isSame : Room := { frames := 0, cells := 0, slots := 0, locals := 0 }
def f_X1_isSame (o : Nat) (a1 : Nat) (M : Mm) : Option (Int32) :=
    (op_gL M 1 o 0).bind fun x_1 =>
    (op_gL M 1 a1 0).bind fun x_2 =>
    if x_1 = x_2 then
    (op_gL M 1 o 1).bind fun x_4 =>
    (op_gL M 1 a1 1).bind fun x_5 =>
    if x_4 = x_5 then
    some (1 : Int32)
    else
    some (0 : Int32)
    else
    some (0 : Int32)
set_option maxHeartbeats 4000000 in
set_option maxRecDepth 100000 in
theorem c_X1_isSame (l : Launch) (D : va_G) (cA : Nat → ClassId) (ad : Nat → Nat) (o : Nat) (a1 : Nat) (M : Mm) (zr : Int32) (hf : f_X1_isSame o a1 M = some zr) : KI l yX1_isSame cX1_isSame 2 (some .boolean) rm_X1_isSame D cA ad [.ref (ad o), .ref (ad a1)] M zr M := by
  refine KI_of (by decide) (Nat.le_of_ble_eq_true rfl) ?_
  intro p e s m args below meth c ls Q A H locs hZ hE hl hret
  have hx := hZ.1
  have hb := hZ.2.1
  have hown := hZ.2.2.2.1
  have hts := hZ.2.2.2.2.1
  have hl : lv_has ls 2 [(0, .ref (ad o)), (1, .ref (ad a1))] := hl
  unfold f_X1_isSame at hf
  refine lv_aload_n hx hb dX1_isSame_0 rfl (lv_at hl 0 rfl) ?_
  obtain ⟨x_1, g_1, hf⟩ := b_some hf
  refine xx_gL hZ hE k_X1 0 (by decide) rfl tw_108 g_1 dX1_isSame_1 ?_
  refine lv_aload_n hx hb dX1_isSame_4 rfl (lv_at hl 1 rfl) ?_
  obtain ⟨x_2, g_2, hf⟩ := b_some hf
  refine xx_gL hZ hE k_X1 0 (by decide) rfl tw_108 g_2 dX1_isSame_5 ?_
  refine xx_lne (tgt := 28) hx hb dX1_isSame_8 dX1_isSame_9 (by decide) (fun h_3 => ?_) (fun h_3 => ?_)
  · have hf := it_n h_3 hf
    refine lv_iconst (v := 0) hx hb dX1_isSame_28 (by decide) ?_
    exact hret _ _ _ _ _ _ (Option.some.inj hf) rfl rfl dX1_isSame_29 hE
  · have hf := it_y h_3 hf
    refine lv_aload_n hx hb dX1_isSame_12 rfl (lv_at hl 0 rfl) ?_
    obtain ⟨x_4, g_4, hf⟩ := b_some hf
    refine xx_gL hZ hE k_X1 1 (by decide) rfl tw_109 g_4 dX1_isSame_13 ?_
    refine lv_aload_n hx hb dX1_isSame_16 rfl (lv_at hl 1 rfl) ?_
    obtain ⟨x_5, g_5, hf⟩ := b_some hf
    refine xx_gL hZ hE k_X1 1 (by decide) rfl tw_109 g_5 dX1_isSame_17 ?_
    refine xx_lne (tgt := 28) hx hb dX1_isSame_20 dX1_isSame_21 (by decide) (fun h_6 => ?_) (fun h_6 => ?_)
    · have hf := it_n h_6 hf
      refine lv_iconst (v := 0) hx hb dX1_isSame_28 (by decide) ?_
      exact hret _ _ _ _ _ _ (Option.some.inj hf) rfl rfl dX1_isSame_29 hE
    · have hf := it_y h_6 hf
      refine lv_iconst (v := 1) hx hb dX1_isSame_24 (by decide) ?_
      refine lv_goto (tgt := 29) hx hb dX1_isSame_25 (by decide) ?_
      exact hret _ _ _ _ _ _ (Option.some.inj hf) rfl rfl dX1_isSame_29 hE
def lp_X0_isKeeping_24 (k_82 : Mm → Option (Int32 × Mm)) (i_0 : Nat) (i_1 : Int32) (i_2 : Int32) : Nat → Int32 → Mm → Option (Int32 × Mm)
  | 0, _, _ => none
  | n_24 + 1, v_3, M =>
    (op_gR M 0 i_0 0).bind fun x_6 =>
    (op_gI M 3 x_6 1).bind fun x_7 =>
    if x_7 ≤ v_3 then
    k_82 M
    else
    (op_gR M 0 i_0 5).bind fun x_9 =>
    (op_gI M 1 x_9 2).bind fun x_10 =>
    if x_10 = 0 then
    k_82 M
    else
    (op_is M i_0 0).bind fun _ =>
    (f_X0_reckon 4 i_0 i_1 v_3 i_2 (0 : Int32) M).bind fun z_12 =>
    (op_gR z_12 0 i_0 6).bind fun x_13 =>
    (op_is z_12 i_0 0).bind fun _ =>
    (f_X0_weigh i_0 i_1 v_3 i_2 x_13 z_12).bind fun z_14 =>
    (op_gR z_14 0 i_0 5).bind fun x_15 =>
    (op_gR z_14 0 i_0 6).bind fun x_16 =>
    (op_is z_14 x_15 1).bind fun _ =>
    (f_X1_add x_15 (1 : Int32) x_16 z_14).bind fun z_17 =>
    lp_X0_isKeeping_24 k_82 i_0 i_1 i_2 n_24 (v_3 + 1) z_17
theorem lp_X0_isKeeping_24_s (k_82 : Mm → Option (Int32 × Mm)) (i_0 : Nat) (i_1 : Int32) (i_2 : Int32) {n_24 : Nat} {v_3 : Int32} {M : Mm} {zr : Int32 × Mm} (hf : lp_X0_isKeeping_24 k_82 i_0 i_1 i_2 (n_24 + 1) v_3 M = some zr) : (
    (op_gR M 0 i_0 0).bind fun x_6 =>
    (op_gI M 3 x_6 1).bind fun x_7 =>
    if x_7 ≤ v_3 then
    k_82 M
    else
    (op_gR M 0 i_0 5).bind fun x_9 =>
    (op_gI M 1 x_9 2).bind fun x_10 =>
    if x_10 = 0 then
    k_82 M
    else
    (op_is M i_0 0).bind fun _ =>
    (f_X0_reckon 4 i_0 i_1 v_3 i_2 (0 : Int32) M).bind fun z_12 =>
    (op_gR z_12 0 i_0 6).bind fun x_13 =>
    (op_is z_12 i_0 0).bind fun _ =>
    (f_X0_weigh i_0 i_1 v_3 i_2 x_13 z_12).bind fun z_14 =>
    (op_gR z_14 0 i_0 5).bind fun x_15 =>
    (op_gR z_14 0 i_0 6).bind fun x_16 =>
    (op_is z_14 x_15 1).bind fun _ =>
    (f_X1_add x_15 (1 : Int32) x_16 z_14).bind fun z_17 =>
    lp_X0_isKeeping_24 k_82 i_0 i_1 i_2 n_24 (v_3 + 1) z_17) = some zr := hf
theorem lp_X0_isKeeping_24_k {k_82 : Mm → Option (Int32 × Mm)} {i_0 : Nat} {i_1 : Int32} {i_2 : Int32} {n : Nat} {v_3 : Int32} {M : Mm} {zr : Int32 × Mm} (hf : lp_X0_isKeeping_24 k_82 i_0 i_1 i_2 n v_3 M = some zr) : ∃ (m_82 : Mm → Option (Int32 × Mm)), m_82 = k_82 ∧ lp_X0_isKeeping_24 m_82 i_0 i_1 i_2 n v_3 M = some zr := ⟨k_82, rfl, hf⟩
def lp_X0_isKeeping_2 (i_0 : Nat) (i_1 : Int32) : Nat → Int32 → Mm → Option (Int32 × Mm)
  | 0, _, _ => none
  | n_2 + 1, v_2, M =>
    (op_gR M 0 i_0 0).bind fun x_1 =>
    (op_gI M 3 x_1 1).bind fun x_2 =>
    if x_2 ≤ v_2 then
    some ((1 : Int32), M)
    else
    (op_gR M 0 i_0 5).bind fun x_4 =>
    (op_is M x_4 1).bind fun _ =>
    (f_X1_set x_4 (0 : Int64) (1 : Int64) M).bind fun z_5 =>
    lp_X0_isKeeping_24 (fun (M_19 : Mm) =>
    (op_gR M_19 0 i_0 5).bind fun x_20 =>
    (op_gI M_19 1 x_20 2).bind fun x_21 =>
    if x_21 = 0 then
    some ((-4 : Int32), M_19)
    else
    (op_gR M_19 0 i_0 6).bind fun x_23 =>
    (op_gR M_19 0 i_0 0).bind fun x_24 =>
    (op_gR M_19 3 x_24 5).bind fun x_25 =>
    (op_aI M_19 x_25 v_2).bind fun x_26 =>
    (op_is M_19 x_23 1).bind fun _ =>
    (f_X1_set x_23 x_26.toInt64 (1 : Int64) M_19).bind fun z_27 =>
    (op_gR z_27 0 i_0 5).bind fun x_28 =>
    (op_gR z_27 0 i_0 6).bind fun x_29 =>
    (op_is z_27 x_28 1).bind fun _ =>
    (f_X1_isSame x_28 x_29 z_27).bind fun z_30 =>
    if z_30 = 0 then
    some ((0 : Int32), z_27)
    else
    lp_X0_isKeeping_2 i_0 i_1 n_2 (v_2 + 1) z_27) i_0 i_1 v_2 FU (0 : Int32) z_5
theorem lp_X0_isKeeping_2_s (i_0 : Nat) (i_1 : Int32) {n_2 : Nat} {v_2 : Int32} {M : Mm} {zr : Int32 × Mm} (hf : lp_X0_isKeeping_2 i_0 i_1 (n_2 + 1) v_2 M = some zr) : (
    (op_gR M 0 i_0 0).bind fun x_1 =>
    (op_gI M 3 x_1 1).bind fun x_2 =>
    if x_2 ≤ v_2 then
    some ((1 : Int32), M)
    else
    (op_gR M 0 i_0 5).bind fun x_4 =>
    (op_is M x_4 1).bind fun _ =>
    (f_X1_set x_4 (0 : Int64) (1 : Int64) M).bind fun z_5 =>
    lp_X0_isKeeping_24 (fun (M_19 : Mm) =>
    (op_gR M_19 0 i_0 5).bind fun x_20 =>
    (op_gI M_19 1 x_20 2).bind fun x_21 =>
    if x_21 = 0 then
    some ((-4 : Int32), M_19)
    else
    (op_gR M_19 0 i_0 6).bind fun x_23 =>
    (op_gR M_19 0 i_0 0).bind fun x_24 =>
    (op_gR M_19 3 x_24 5).bind fun x_25 =>
    (op_aI M_19 x_25 v_2).bind fun x_26 =>
    (op_is M_19 x_23 1).bind fun _ =>
    (f_X1_set x_23 x_26.toInt64 (1 : Int64) M_19).bind fun z_27 =>
    (op_gR z_27 0 i_0 5).bind fun x_28 =>
    (op_gR z_27 0 i_0 6).bind fun x_29 =>
    (op_is z_27 x_28 1).bind fun _ =>
    (f_X1_isSame x_28 x_29 z_27).bind fun z_30 =>
    if z_30 = 0 then
    some ((0 : Int32), z_27)
    else
    lp_X0_isKeeping_2 i_0 i_1 n_2 (v_2 + 1) z_27) i_0 i_1 v_2 FU (0 : Int32) z_5) = some zr := hf
def rm_X0_isKeeping : Room := { frames := 56, cells := 0, slots := 0, locals := 2526 }
def f_X0_isKeeping (o : Nat) (a1 : Int32) (M : Mm) : Option (Int32 × Mm) :=
    lp_X0_isKeeping_2  o a1 FU (0 : Int32) M
set_option maxHeartbeats 4000000 in
set_option maxRecDepth 100000 in
theorem c_X0_isKeeping (l : Launch) (D : va_G) (cA : Nat → ClassId) (ad : Nat → Nat) (o : Nat) (a1 : Int32) (M : Mm) (zr : Int32 × Mm) (hf : f_X0_isKeeping o a1 M = some zr) : KI l yX0_isKeeping cX0_isKeeping 4 (some .int) rm_X0_isKeeping D cA ad [.ref (ad o), .int a1] M zr.1 zr.2 := by
  refine KI_of (by decide) (Nat.le_of_ble_eq_true rfl) ?_
  intro p e s m args below meth c ls Q A H locs hZ hE hl hret
  have hx := hZ.1
  have hb := hZ.2.1
  have hown := hZ.2.2.2.1
  have hts := hZ.2.2.2.2.1
  have hl : lv_has ls 4 [(0, .ref (ad o)), (1, .int a1)] := hl
  unfold f_X0_isKeeping at hf
  refine lv_iconst (v := 0) hx hb dX0_isKeeping_0 (by decide) ?_
  refine lv_istore_n (lv' := [(2, .int (0 : Int32)), (0, .ref (ad o)), (1, .int a1)]) hx hb dX0_isKeeping_1 rfl hl (by decide) rfl (fun ls hl => ?_)
  have L_44 : ∀ (n_2 : Nat) (w_44_2 : Int32) (M_44 : Mm) (H : Heap) (locs : List Loc) (ls : Array Slot), lp_X0_isKeeping_2 o a1 n_2 w_44_2 M_44 = some zr → En D cA ad s A M_44 H locs → lv_has ls 4 [(0, .ref (ad o)), (1, .int a1), (2, .int w_44_2)] → W p l e rm_X0_isKeeping s m args below meth c H locs 0 0 Q (F0 m 2 ls []) := by
    intro n_2
    induction n_2 with
    | zero =>
      intro w_44_2 M_44 H locs ls hf
      cases (show (none : Option (Int32 × Mm)) = some zr from hf)
    | succ n_2 ih_2 =>
      intro w_44_2 M_44 H locs ls hf hE hl
      have hf := lp_X0_isKeeping_2_s _ _ hf
      refine lv_iload_n hx hb dX0_isKeeping_2 rfl (lv_at hl 2 rfl) ?_
      refine lv_aload_n hx hb dX0_isKeeping_3 rfl (lv_at hl 0 rfl) ?_
      obtain ⟨x_45, g_45, hf⟩ := b_some hf
      refine xx_gR hZ hE k_X0 0 (by decide) rfl tw_111 g_45 dX0_isKeeping_4 ?_
      obtain ⟨x_46, g_46, hf⟩ := b_some hf
      refine xx_gIN hZ hE k_X3 1 (by decide) rfl tw_144 g_46 dX0_isKeeping_7 ?_
      refine lv_icmp_ge (tgt := 135) hx hb dX0_isKeeping_10 (by decide) (fun h_47 => ?_) (fun h_47 => ?_)
      · have hf := it_y h_47 hf
        refine lv_iconst (v := 1) hx hb dX0_isKeeping_135 (by decide) ?_
        exact hret _ _ _ _ _ _ (pr_1 hf) (pr_2 hf) rfl dX0_isKeeping_136 hE
      · have hf := it_n h_47 hf
        refine lv_aload_n hx hb dX0_isKeeping_13 rfl (lv_at hl 0 rfl) ?_
        obtain ⟨x_48, g_48, hf⟩ := b_some hf
        refine xx_gR hZ hE k_X0 5 (by decide) rfl tw_230 g_48 dX0_isKeeping_14 ?_
        refine lv_lconst (v := 0) hx hb dX0_isKeeping_17 (by decide) ?_
        refine lv_lconst (v := 1) hx hb dX0_isKeeping_18 (by decide) ?_
        obtain ⟨_, i_49, hf⟩ := b_some hf
        obtain ⟨z_49, c_49, hf⟩ := b_some hf
        refine xx_cVNv hZ hE (As := [.long (0 : Int64), .long (1 : Int64)]) (rest := []) k_X1 (is_m i_49) tw_121 tw_122 (c_X1_set l D cA ad x_48 (0 : Int64) (1 : Int64) M_44 _ c_49) cw_X1_set tw_120 ⟨rfl, rfl⟩ ⟨Nat.le_of_ble_eq_true rfl, Nat.le_of_ble_eq_true rfl⟩ rfl hl.1 rfl (Nat.le_of_ble_eq_true rfl) ⟨Nat.le_of_ble_eq_true rfl, Nat.le_of_ble_eq_true rfl⟩ dX0_isKeeping_19 (fun H locs hE => ?_)
        refine lv_iconst (v := 0) hx hb dX0_isKeeping_22 (by decide) ?_
        refine lv_istore_n (lv' := [(3, .int (0 : Int32)), (0, .ref (ad o)), (1, .int a1), (2, .int w_44_2)]) hx hb dX0_isKeeping_23 rfl hl (by decide) rfl (fun ls hl => ?_)
        obtain ⟨k_82_51, ek_82_51, hf⟩ := lp_X0_isKeeping_24_k hf
        have o_82_51 : ∀ (M_51 : Mm) (H : Heap) (locs : List Loc) (ls : Array Slot), k_82_51 M_51 = some zr → En D cA ad s A M_51 H locs → lv_has ls 4 [(0, .ref (ad o)), (1, .int a1), (2, .int w_44_2)] → W p l e rm_X0_isKeeping s m args below meth c H locs 0 0 Q (F0 m 82 ls []) := by
          intro M_51 H locs ls hf hE hl
          rw [ek_82_51] at hf
          refine lv_aload_n hx hb dX0_isKeeping_82 rfl (lv_at hl 0 rfl) ?_
          obtain ⟨x_52, g_52, hf⟩ := b_some hf
          refine xx_gR hZ hE k_X0 5 (by decide) rfl tw_230 g_52 dX0_isKeeping_83 ?_
          obtain ⟨x_53, g_53, hf⟩ := b_some hf
          refine xx_gIN hZ hE k_X1 2 (by decide) rfl tw_182 g_53 dX0_isKeeping_86 ?_
          refine lv_if_ne (tgt := 95) hx hb dX0_isKeeping_89 (by decide) (fun h_54 => ?_) (fun h_54 => ?_)
          · have hf := it_n h_54 hf
            refine lv_aload_n hx hb dX0_isKeeping_95 rfl (lv_at hl 0 rfl) ?_
            obtain ⟨x_55, g_55, hf⟩ := b_some hf
            refine xx_gR hZ hE k_X0 6 (by decide) rfl tw_231 g_55 dX0_isKeeping_96 ?_
            refine lv_aload_n hx hb dX0_isKeeping_99 rfl (lv_at hl 0 rfl) ?_
            obtain ⟨x_56, g_56, hf⟩ := b_some hf
            refine xx_gR hZ hE k_X0 0 (by decide) rfl tw_111 g_56 dX0_isKeeping_100 ?_
            obtain ⟨x_57, g_57, hf⟩ := b_some hf
            refine xx_gRN hZ hE k_X3 5 (by decide) rfl tw_119 g_57 dX0_isKeeping_103 ?_
            refine lv_iload_n hx hb dX0_isKeeping_106 rfl (lv_at hl 2 rfl) ?_
            obtain ⟨x_58, g_58, hf⟩ := b_some hf
            refine xx_aI hZ hE g_58 dX0_isKeeping_107 ?_
            refine lv_i2l hx hb dX0_isKeeping_108 rfl ?_
            refine lv_lconst (v := 1) hx hb dX0_isKeeping_109 (by decide) ?_
            obtain ⟨_, i_59, hf⟩ := b_some hf
            obtain ⟨z_59, c_59, hf⟩ := b_some hf
            refine xx_cVNv hZ hE (As := [.long x_58.toInt64, .long (1 : Int64)]) (rest := []) k_X1 (is_m i_59) tw_121 tw_122 (c_X1_set l D cA ad x_55 x_58.toInt64 (1 : Int64) M_51 _ c_59) cw_X1_set tw_120 ⟨rfl, rfl⟩ ⟨Nat.le_of_ble_eq_true rfl, Nat.le_of_ble_eq_true rfl⟩ rfl hl.1 rfl (Nat.le_of_ble_eq_true rfl) ⟨Nat.le_of_ble_eq_true rfl, Nat.le_of_ble_eq_true rfl⟩ dX0_isKeeping_110 (fun H locs hE => ?_)
            refine lv_aload_n hx hb dX0_isKeeping_113 rfl (lv_at hl 0 rfl) ?_
            obtain ⟨x_60, g_60, hf⟩ := b_some hf
            refine xx_gR hZ hE k_X0 5 (by decide) rfl tw_230 g_60 dX0_isKeeping_114 ?_
            refine lv_aload_n hx hb dX0_isKeeping_117 rfl (lv_at hl 0 rfl) ?_
            obtain ⟨x_61, g_61, hf⟩ := b_some hf
            refine xx_gR hZ hE k_X0 6 (by decide) rfl tw_231 g_61 dX0_isKeeping_118 ?_
            obtain ⟨_, i_62, hf⟩ := b_some hf
            obtain ⟨z_62, c_62, hf⟩ := b_some hf
            refine xx_cVNi hZ hE (As := [.ref (ad x_61)]) (rest := []) k_X1 (is_m i_62) tw_236 tw_237 (c_X1_isSame l D cA ad x_60 x_61 z_59 _ c_62) cw_X1_isSame tw_235 ⟨rfl, rfl⟩ ⟨Nat.le_of_ble_eq_true rfl, Nat.le_of_ble_eq_true rfl⟩ rfl hl.1 rfl (Nat.le_of_ble_eq_true rfl) ⟨Nat.le_of_ble_eq_true rfl, Nat.le_of_ble_eq_true rfl⟩ dX0_isKeeping_121 (fun H locs hE => ?_)
            refine lv_if_ne (tgt := 129) hx hb dX0_isKeeping_124 (by decide) (fun h_63 => ?_) (fun h_63 => ?_)
            · have hf := it_n h_63 hf
              refine lv_iinc (v := (w_44_2 + 1)) (lv' := [(2, .int (w_44_2 + 1)), (0, .ref (ad o)), (1, .int a1)]) hx hb dX0_isKeeping_129 hl (k := 2) rfl rfl (by decide) rfl (fun ls hl => ?_)
              refine lv_goto (tgt := 2) hx hb dX0_isKeeping_132 (by decide) ?_
              exact ih_2 _ _ _ _ _ hf hE (lv_sub hl [1, 2, 0] rfl)
            · have hf := it_y h_63 hf
              refine lv_iconst (v := 0) hx hb dX0_isKeeping_127 (by decide) ?_
              exact hret _ _ _ _ _ _ (pr_1 hf) (pr_2 hf) rfl dX0_isKeeping_128 hE
          · have hf := it_y h_54 hf
            refine lv_bipush (v := -4) hx hb dX0_isKeeping_92 (by decide) ?_
            exact hret _ _ _ _ _ _ (pr_1 hf) (pr_2 hf) rfl dX0_isKeeping_94 hE
        have L_50 : ∀ (n_24 : Nat) (w_50_3 : Int32) (M_50 : Mm) (H : Heap) (locs : List Loc) (ls : Array Slot), lp_X0_isKeeping_24 k_82_51 o a1 w_44_2 n_24 w_50_3 M_50 = some zr → En D cA ad s A M_50 H locs → lv_has ls 4 [(0, .ref (ad o)), (1, .int a1), (2, .int w_44_2), (3, .int w_50_3)] → W p l e rm_X0_isKeeping s m args below meth c H locs 0 0 Q (F0 m 24 ls []) := by
          intro n_24
          induction n_24 with
          | zero =>
            intro w_50_3 M_50 H locs ls hf
            cases (show (none : Option (Int32 × Mm)) = some zr from hf)
          | succ n_24 ih_24 =>
            intro w_50_3 M_50 H locs ls hf hE hl
            have hf := lp_X0_isKeeping_24_s _ _ _ _ hf
            refine lv_iload_n hx hb dX0_isKeeping_24 rfl (lv_at hl 3 rfl) ?_
            refine lv_aload_n hx hb dX0_isKeeping_25 rfl (lv_at hl 0 rfl) ?_
            obtain ⟨x_64, g_64, hf⟩ := b_some hf
            refine xx_gR hZ hE k_X0 0 (by decide) rfl tw_111 g_64 dX0_isKeeping_26 ?_
            obtain ⟨x_65, g_65, hf⟩ := b_some hf
            refine xx_gIN hZ hE k_X3 1 (by decide) rfl tw_144 g_65 dX0_isKeeping_29 ?_
            refine lv_icmp_ge (tgt := 82) hx hb dX0_isKeeping_32 (by decide) (fun h_66 => ?_) (fun h_66 => ?_)
            · have hf := it_y h_66 hf
              exact o_82_51 _ _ _ _ hf hE (lv_sub hl [0, 1, 2] rfl)
            · have hf := it_n h_66 hf
              refine lv_aload_n hx hb dX0_isKeeping_35 rfl (lv_at hl 0 rfl) ?_
              obtain ⟨x_67, g_67, hf⟩ := b_some hf
              refine xx_gR hZ hE k_X0 5 (by decide) rfl tw_230 g_67 dX0_isKeeping_36 ?_
              obtain ⟨x_68, g_68, hf⟩ := b_some hf
              refine xx_gIN hZ hE k_X1 2 (by decide) rfl tw_182 g_68 dX0_isKeeping_39 ?_
              refine lv_if_eq (tgt := 82) hx hb dX0_isKeeping_42 (by decide) (fun h_69 => ?_) (fun h_69 => ?_)
              · have hf := it_y h_69 hf
                exact o_82_51 _ _ _ _ hf hE (lv_sub hl [0, 1, 2] rfl)
              · have hf := it_n h_69 hf
                refine lv_aload_n hx hb dX0_isKeeping_45 rfl (lv_at hl 0 rfl) ?_
                refine lv_iload_n hx hb dX0_isKeeping_46 rfl (lv_at hl 1 rfl) ?_
                refine lv_iload_n hx hb dX0_isKeeping_47 rfl (lv_at hl 3 rfl) ?_
                refine lv_iload_n hx hb dX0_isKeeping_48 rfl (lv_at hl 2 rfl) ?_
                refine lv_iconst (v := 0) hx hb dX0_isKeeping_49 (by decide) ?_
                obtain ⟨_, i_70, hf⟩ := b_some hf
                obtain ⟨z_70, c_70, hf⟩ := b_some hf
                refine xx_cVv hZ hE (As := [.int a1, .int w_50_3, .int w_44_2, .int (0 : Int32)]) (rest := []) k_X0 (is_m i_70) tw_169 tw_170 (c_X0_reckon l D cA ad 4 o a1 w_50_3 w_44_2 (0 : Int32) M_50 _ c_70) cw_X0_reckon tw_168 ⟨rfl, rfl⟩ ⟨Nat.le_of_ble_eq_true rfl, Nat.le_of_ble_eq_true rfl⟩ rfl hl.1 rfl (Nat.le_of_ble_eq_true rfl) ⟨Nat.le_of_ble_eq_true rfl, Nat.le_of_ble_eq_true rfl⟩ dX0_isKeeping_50 (fun H locs hE => ?_)
                refine lv_aload_n hx hb dX0_isKeeping_53 rfl (lv_at hl 0 rfl) ?_
                refine lv_iload_n hx hb dX0_isKeeping_54 rfl (lv_at hl 1 rfl) ?_
                refine lv_iload_n hx hb dX0_isKeeping_55 rfl (lv_at hl 3 rfl) ?_
                refine lv_iload_n hx hb dX0_isKeeping_56 rfl (lv_at hl 2 rfl) ?_
                refine lv_aload_n hx hb dX0_isKeeping_57 rfl (lv_at hl 0 rfl) ?_
                obtain ⟨x_71, g_71, hf⟩ := b_some hf
                refine xx_gR hZ hE k_X0 6 (by decide) rfl tw_231 g_71 dX0_isKeeping_58 ?_
                obtain ⟨_, i_72, hf⟩ := b_some hf
                obtain ⟨z_72, c_72, hf⟩ := b_some hf
                refine xx_cVv hZ hE (As := [.int a1, .int w_50_3, .int w_44_2, .ref (ad x_71)]) (rest := []) k_X0 (is_m i_72) tw_233 tw_234 (c_X0_weigh l D cA ad o a1 w_50_3 w_44_2 x_71 z_70 _ c_72) cw_X0_weigh tw_232 ⟨rfl, rfl⟩ ⟨Nat.le_of_ble_eq_true rfl, Nat.le_of_ble_eq_true rfl⟩ rfl hl.1 rfl (Nat.le_of_ble_eq_true rfl) ⟨Nat.le_of_ble_eq_true rfl, Nat.le_of_ble_eq_true rfl⟩ dX0_isKeeping_61 (fun H locs hE => ?_)
                refine lv_aload_n hx hb dX0_isKeeping_64 rfl (lv_at hl 0 rfl) ?_
                obtain ⟨x_73, g_73, hf⟩ := b_some hf
                refine xx_gR hZ hE k_X0 5 (by decide) rfl tw_230 g_73 dX0_isKeeping_65 ?_
                refine lv_iconst (v := 1) hx hb dX0_isKeeping_68 (by decide) ?_
                refine lv_aload_n hx hb dX0_isKeeping_69 rfl (lv_at hl 0 rfl) ?_
                obtain ⟨x_74, g_74, hf⟩ := b_some hf
                refine xx_gR hZ hE k_X0 6 (by decide) rfl tw_231 g_74 dX0_isKeeping_70 ?_
                obtain ⟨_, i_75, hf⟩ := b_some hf
                obtain ⟨z_75, c_75, hf⟩ := b_some hf
                refine xx_cVNv hZ hE (As := [.int (1 : Int32), .ref (ad x_74)]) (rest := []) k_X1 (is_m i_75) tw_150 tw_151 (c_X1_add l D cA ad x_73 (1 : Int32) x_74 z_72 _ c_75) cw_X1_add tw_149 ⟨rfl, rfl⟩ ⟨Nat.le_of_ble_eq_true rfl, Nat.le_of_ble_eq_true rfl⟩ rfl hl.1 rfl (Nat.le_of_ble_eq_true rfl) ⟨Nat.le_of_ble_eq_true rfl, Nat.le_of_ble_eq_true rfl⟩ dX0_isKeeping_73 (fun H locs hE => ?_)
                refine lv_iinc (v := (w_50_3 + 1)) (lv' := [(3, .int (w_50_3 + 1)), (0, .ref (ad o)), (1, .int a1), (2, .int w_44_2)]) hx hb dX0_isKeeping_76 hl (k := 3) rfl rfl (by decide) rfl (fun ls hl => ?_)
                refine lv_goto (tgt := 24) hx hb dX0_isKeeping_79 (by decide) ?_
                exact ih_24 _ _ _ _ _ hf hE (lv_sub hl [1, 2, 3, 0] rfl)
        exact L_50 _ _ _ _ _ _ hf hE (lv_sub hl [1, 2, 3, 0] rfl)
  exact L_44 _ _ _ _ _ _ hf hE (lv_sub hl [1, 2, 0] rfl)
def rm_X6_keeps : Room := { frames := 57, cells := 0, slots := 0, locals := 2549 }
def f_X6_keeps (o : Nat) (a1 : Int32) (M : Mm) : Option (Int32 × Mm) :=
    (op_is M o 6).bind fun _ =>
    (f_X6_hasModel o M).bind fun z_1 =>
    if z_1 = 0 then
    some ((-2 : Int32), M)
    else
    (op_is M o 6).bind fun _ =>
    (f_X6_isMove o a1 M).bind fun z_3 =>
    if z_3 = 0 then
    some ((-1 : Int32), M)
    else
    (op_gR M 6 o 2).bind fun x_5 =>
    (op_is M x_5 0).bind fun _ =>
    (f_X0_isKeeping x_5 a1 M).bind fun z_6 =>
    some (z_6.1, z_6.2)
set_option maxHeartbeats 4000000 in
set_option maxRecDepth 100000 in
theorem c_X6_keeps (l : Launch) (D : va_G) (cA : Nat → ClassId) (ad : Nat → Nat) (o : Nat) (a1 : Int32) (M : Mm) (zr : Int32 × Mm) (hf : f_X6_keeps o a1 M = some zr) : KI l yX6_keeps cX6_keeps 2 (some .int) rm_X6_keeps D cA ad [.ref (ad o), .int a1] M zr.1 zr.2 := by
  refine KI_of (by decide) (Nat.le_of_ble_eq_true rfl) ?_
  intro p e s m args below meth c ls Q A H locs hZ hE hl hret
  have hx := hZ.1
  have hb := hZ.2.1
  have hown := hZ.2.2.2.1
  have hts := hZ.2.2.2.2.1
  have hl : lv_has ls 2 [(0, .ref (ad o)), (1, .int a1)] := hl
  unfold f_X6_keeps at hf
  refine lv_aload_n hx hb dX6_keeps_0 rfl (lv_at hl 0 rfl) ?_
  obtain ⟨_, i_1, hf⟩ := b_some hf
  obtain ⟨z_1, c_1, hf⟩ := b_some hf
  refine xx_cVi hZ hE (As := []) (rest := []) k_X6 (is_m i_1) tw_38 tw_39 (c_X6_hasModel l D cA ad o M _ c_1) cw_X6_hasModel tw_36 ⟨rfl, rfl⟩ ⟨Nat.le_of_ble_eq_true rfl, Nat.le_of_ble_eq_true rfl⟩ rfl hl.1 rfl (Nat.le_of_ble_eq_true rfl) ⟨Nat.le_of_ble_eq_true rfl, Nat.le_of_ble_eq_true rfl⟩ dX6_keeps_1 (fun H locs hE => ?_)
  refine lv_if_ne (tgt := 10) hx hb dX6_keeps_4 (by decide) (fun h_2 => ?_) (fun h_2 => ?_)
  · have hf := it_n h_2 hf
    refine lv_aload_n hx hb dX6_keeps_10 rfl (lv_at hl 0 rfl) ?_
    refine lv_iload_n hx hb dX6_keeps_11 rfl (lv_at hl 1 rfl) ?_
    obtain ⟨_, i_3, hf⟩ := b_some hf
    obtain ⟨z_3, c_3, hf⟩ := b_some hf
    refine xx_cVi hZ hE (As := [.int a1]) (rest := []) k_X6 (is_m i_3) tw_59 tw_60 (c_X6_isMove l D cA ad o a1 M _ c_3) cw_X6_isMove tw_58 ⟨rfl, rfl⟩ ⟨Nat.le_of_ble_eq_true rfl, Nat.le_of_ble_eq_true rfl⟩ rfl hl.1 rfl (Nat.le_of_ble_eq_true rfl) ⟨Nat.le_of_ble_eq_true rfl, Nat.le_of_ble_eq_true rfl⟩ dX6_keeps_12 (fun H locs hE => ?_)
    refine lv_if_ne (tgt := 20) hx hb dX6_keeps_15 (by decide) (fun h_4 => ?_) (fun h_4 => ?_)
    · have hf := it_n h_4 hf
      refine lv_aload_n hx hb dX6_keeps_20 rfl (lv_at hl 0 rfl) ?_
      obtain ⟨x_5, g_5, hf⟩ := b_some hf
      refine xx_gR hZ hE k_X6 2 (by decide) rfl tw_25 g_5 dX6_keeps_21 ?_
      refine lv_iload_n hx hb dX6_keeps_24 rfl (lv_at hl 1 rfl) ?_
      obtain ⟨_, i_6, hf⟩ := b_some hf
      obtain ⟨z_6, c_6, hf⟩ := b_some hf
      refine xx_cVNi hZ hE (As := [.int a1]) (rest := []) k_X0 (is_m i_6) tw_239 tw_240 (c_X0_isKeeping l D cA ad x_5 a1 M _ c_6) cw_X0_isKeeping tw_238 ⟨rfl, rfl⟩ ⟨Nat.le_of_ble_eq_true rfl, Nat.le_of_ble_eq_true rfl⟩ rfl hl.1 rfl (Nat.le_of_ble_eq_true rfl) ⟨Nat.le_of_ble_eq_true rfl, Nat.le_of_ble_eq_true rfl⟩ dX6_keeps_25 (fun H locs hE => ?_)
      exact hret _ _ _ _ _ _ (pr_1 hf) (pr_2 hf) rfl dX6_keeps_28 hE
    · have hf := it_y h_4 hf
      refine lv_iconst (v := -1) hx hb dX6_keeps_18 (by decide) ?_
      exact hret _ _ _ _ _ _ (pr_1 hf) (pr_2 hf) rfl dX6_keeps_19 hE
  · have hf := it_y h_2 hf
    refine lv_bipush (v := -2) hx hb dX6_keeps_7 (by decide) ?_
    exact hret _ _ _ _ _ _ (pr_1 hf) (pr_2 hf) rfl dX6_keeps_9 hE
def lp_X0_isBalanced_17 (k_111 : Mm → Option (Int32 × Mm)) (i_0 : Nat) (i_1 : Int32) (i_2 : Int32) : Nat → Int32 → Mm → Option (Int32 × Mm)
  | 0, _, _ => none
  | n_17 + 1, v_3, M =>
    (op_gR M 0 i_0 0).bind fun x_4 =>
    (op_gI M 3 x_4 1).bind fun x_5 =>
    if x_5 ≤ v_3 then
    k_111 M
    else
    (op_is M i_0 0).bind fun _ =>
    (f_X0_reckon 4 i_0 i_1 i_2 v_3 (0 : Int32) M).bind fun z_7 =>
    (op_is z_7 i_0 0).bind fun _ =>
    (f_X0_reckon 4 i_0 i_1 v_3 i_2 (0 : Int32) z_7).bind fun z_8 =>
    (op_gR z_8 0 i_0 5).bind fun x_9 =>
    (op_is z_8 i_0 0).bind fun _ =>
    (f_X0_weigh i_0 i_1 i_2 v_3 x_9 z_8).bind fun z_10 =>
    (op_gR z_10 0 i_0 6).bind fun x_11 =>
    (op_is z_10 i_0 0).bind fun _ =>
    (f_X0_weigh i_0 i_1 v_3 i_2 x_11 z_10).bind fun z_12 =>
    (op_gR z_12 0 i_0 5).bind fun x_13 =>
    (op_gI z_12 1 x_13 2).bind fun x_14 =>
    if x_14 = 0 then
    some ((-4 : Int32), z_12)
    else
    (op_gR z_12 0 i_0 6).bind fun x_16 =>
    (op_gI z_12 1 x_16 2).bind fun x_17 =>
    if x_17 = 0 then
    some ((-4 : Int32), z_12)
    else
    (op_gR z_12 0 i_0 5).bind fun x_19 =>
    (op_gR z_12 0 i_0 6).bind fun x_20 =>
    (op_is z_12 x_19 1).bind fun _ =>
    (f_X1_isSame x_19 x_20 z_12).bind fun z_21 =>
    if z_21 = 0 then
    some ((0 : Int32), z_12)
    else
    lp_X0_isBalanced_17 k_111 i_0 i_1 i_2 n_17 (v_3 + 1) z_12
theorem lp_X0_isBalanced_17_s (k_111 : Mm → Option (Int32 × Mm)) (i_0 : Nat) (i_1 : Int32) (i_2 : Int32) {n_17 : Nat} {v_3 : Int32} {M : Mm} {zr : Int32 × Mm} (hf : lp_X0_isBalanced_17 k_111 i_0 i_1 i_2 (n_17 + 1) v_3 M = some zr) : (
    (op_gR M 0 i_0 0).bind fun x_4 =>
    (op_gI M 3 x_4 1).bind fun x_5 =>
    if x_5 ≤ v_3 then
    k_111 M
    else
    (op_is M i_0 0).bind fun _ =>
    (f_X0_reckon 4 i_0 i_1 i_2 v_3 (0 : Int32) M).bind fun z_7 =>
    (op_is z_7 i_0 0).bind fun _ =>
    (f_X0_reckon 4 i_0 i_1 v_3 i_2 (0 : Int32) z_7).bind fun z_8 =>
    (op_gR z_8 0 i_0 5).bind fun x_9 =>
    (op_is z_8 i_0 0).bind fun _ =>
    (f_X0_weigh i_0 i_1 i_2 v_3 x_9 z_8).bind fun z_10 =>
    (op_gR z_10 0 i_0 6).bind fun x_11 =>
    (op_is z_10 i_0 0).bind fun _ =>
    (f_X0_weigh i_0 i_1 v_3 i_2 x_11 z_10).bind fun z_12 =>
    (op_gR z_12 0 i_0 5).bind fun x_13 =>
    (op_gI z_12 1 x_13 2).bind fun x_14 =>
    if x_14 = 0 then
    some ((-4 : Int32), z_12)
    else
    (op_gR z_12 0 i_0 6).bind fun x_16 =>
    (op_gI z_12 1 x_16 2).bind fun x_17 =>
    if x_17 = 0 then
    some ((-4 : Int32), z_12)
    else
    (op_gR z_12 0 i_0 5).bind fun x_19 =>
    (op_gR z_12 0 i_0 6).bind fun x_20 =>
    (op_is z_12 x_19 1).bind fun _ =>
    (f_X1_isSame x_19 x_20 z_12).bind fun z_21 =>
    if z_21 = 0 then
    some ((0 : Int32), z_12)
    else
    lp_X0_isBalanced_17 k_111 i_0 i_1 i_2 n_17 (v_3 + 1) z_12) = some zr := hf
theorem lp_X0_isBalanced_17_k {k_111 : Mm → Option (Int32 × Mm)} {i_0 : Nat} {i_1 : Int32} {i_2 : Int32} {n : Nat} {v_3 : Int32} {M : Mm} {zr : Int32 × Mm} (hf : lp_X0_isBalanced_17 k_111 i_0 i_1 i_2 n v_3 M = some zr) : ∃ (m_111 : Mm → Option (Int32 × Mm)), m_111 = k_111 ∧ lp_X0_isBalanced_17 m_111 i_0 i_1 i_2 n v_3 M = some zr := ⟨k_111, rfl, hf⟩
def lp_X0_isBalanced_2 (i_0 : Nat) (i_1 : Int32) : Nat → Int32 → Mm → Option (Int32 × Mm)
  | 0, _, _ => none
  | n_2 + 1, v_2, M =>
    (op_gR M 0 i_0 0).bind fun x_1 =>
    (op_gI M 3 x_1 1).bind fun x_2 =>
    if x_2 ≤ v_2 then
    some ((1 : Int32), M)
    else
    lp_X0_isBalanced_17 (fun (M_24 : Mm) =>
    lp_X0_isBalanced_2 i_0 i_1 n_2 (v_2 + 1) M_24) i_0 i_1 v_2 FU (v_2 + (1 : Int32)) M
theorem lp_X0_isBalanced_2_s (i_0 : Nat) (i_1 : Int32) {n_2 : Nat} {v_2 : Int32} {M : Mm} {zr : Int32 × Mm} (hf : lp_X0_isBalanced_2 i_0 i_1 (n_2 + 1) v_2 M = some zr) : (
    (op_gR M 0 i_0 0).bind fun x_1 =>
    (op_gI M 3 x_1 1).bind fun x_2 =>
    if x_2 ≤ v_2 then
    some ((1 : Int32), M)
    else
    lp_X0_isBalanced_17 (fun (M_24 : Mm) =>
    lp_X0_isBalanced_2 i_0 i_1 n_2 (v_2 + 1) M_24) i_0 i_1 v_2 FU (v_2 + (1 : Int32)) M) = some zr := hf
def rm_X0_isBalanced : Room := { frames := 56, cells := 0, slots := 0, locals := 2526 }
def f_X0_isBalanced (o : Nat) (a1 : Int32) (M : Mm) : Option (Int32 × Mm) :=
    lp_X0_isBalanced_2  o a1 FU (0 : Int32) M
set_option maxHeartbeats 4000000 in
set_option maxRecDepth 100000 in
theorem c_X0_isBalanced (l : Launch) (D : va_G) (cA : Nat → ClassId) (ad : Nat → Nat) (o : Nat) (a1 : Int32) (M : Mm) (zr : Int32 × Mm) (hf : f_X0_isBalanced o a1 M = some zr) : KI l yX0_isBalanced cX0_isBalanced 4 (some .int) rm_X0_isBalanced D cA ad [.ref (ad o), .int a1] M zr.1 zr.2 := by
  refine KI_of (by decide) (Nat.le_of_ble_eq_true rfl) ?_
  intro p e s m args below meth c ls Q A H locs hZ hE hl hret
  have hx := hZ.1
  have hb := hZ.2.1
  have hown := hZ.2.2.2.1
  have hts := hZ.2.2.2.2.1
  have hl : lv_has ls 4 [(0, .ref (ad o)), (1, .int a1)] := hl
  unfold f_X0_isBalanced at hf
  refine lv_iconst (v := 0) hx hb dX0_isBalanced_0 (by decide) ?_
  refine lv_istore_n (lv' := [(2, .int (0 : Int32)), (0, .ref (ad o)), (1, .int a1)]) hx hb dX0_isBalanced_1 rfl hl (by decide) rfl (fun ls hl => ?_)
  have L_44 : ∀ (n_2 : Nat) (w_44_2 : Int32) (M_44 : Mm) (H : Heap) (locs : List Loc) (ls : Array Slot), lp_X0_isBalanced_2 o a1 n_2 w_44_2 M_44 = some zr → En D cA ad s A M_44 H locs → lv_has ls 4 [(0, .ref (ad o)), (1, .int a1), (2, .int w_44_2)] → W p l e rm_X0_isBalanced s m args below meth c H locs 0 0 Q (F0 m 2 ls []) := by
    intro n_2
    induction n_2 with
    | zero =>
      intro w_44_2 M_44 H locs ls hf
      cases (show (none : Option (Int32 × Mm)) = some zr from hf)
    | succ n_2 ih_2 =>
      intro w_44_2 M_44 H locs ls hf hE hl
      have hf := lp_X0_isBalanced_2_s _ _ hf
      refine lv_iload_n hx hb dX0_isBalanced_2 rfl (lv_at hl 2 rfl) ?_
      refine lv_aload_n hx hb dX0_isBalanced_3 rfl (lv_at hl 0 rfl) ?_
      obtain ⟨x_45, g_45, hf⟩ := b_some hf
      refine xx_gR hZ hE k_X0 0 (by decide) rfl tw_111 g_45 dX0_isBalanced_4 ?_
      obtain ⟨x_46, g_46, hf⟩ := b_some hf
      refine xx_gIN hZ hE k_X3 1 (by decide) rfl tw_144 g_46 dX0_isBalanced_7 ?_
      refine lv_icmp_ge (tgt := 117) hx hb dX0_isBalanced_10 (by decide) (fun h_47 => ?_) (fun h_47 => ?_)
      · have hf := it_y h_47 hf
        refine lv_iconst (v := 1) hx hb dX0_isBalanced_117 (by decide) ?_
        exact hret _ _ _ _ _ _ (pr_1 hf) (pr_2 hf) rfl dX0_isBalanced_118 hE
      · have hf := it_n h_47 hf
        refine lv_iload_n hx hb dX0_isBalanced_13 rfl (lv_at hl 2 rfl) ?_
        refine lv_iconst (v := 1) hx hb dX0_isBalanced_14 (by decide) ?_
        refine lv_iadd hx hb dX0_isBalanced_15 ?_
        refine lv_istore_n (lv' := [(3, .int (w_44_2 + (1 : Int32))), (0, .ref (ad o)), (1, .int a1), (2, .int w_44_2)]) hx hb dX0_isBalanced_16 rfl hl (by decide) rfl (fun ls hl => ?_)
        obtain ⟨k_111_49, ek_111_49, hf⟩ := lp_X0_isBalanced_17_k hf
        have o_111_49 : ∀ (M_49 : Mm) (H : Heap) (locs : List Loc) (ls : Array Slot), k_111_49 M_49 = some zr → En D cA ad s A M_49 H locs → lv_has ls 4 [(0, .ref (ad o)), (1, .int a1), (2, .int w_44_2)] → W p l e rm_X0_isBalanced s m args below meth c H locs 0 0 Q (F0 m 111 ls []) := by
          intro M_49 H locs ls hf hE hl
          rw [ek_111_49] at hf
          refine lv_iinc (v := (w_44_2 + 1)) (lv' := [(2, .int (w_44_2 + 1)), (0, .ref (ad o)), (1, .int a1)]) hx hb dX0_isBalanced_111 hl (k := 2) rfl rfl (by decide) rfl (fun ls hl => ?_)
          refine lv_goto (tgt := 2) hx hb dX0_isBalanced_114 (by decide) ?_
          exact ih_2 _ _ _ _ _ hf hE (lv_sub hl [1, 2, 0] rfl)
        have L_48 : ∀ (n_17 : Nat) (w_48_3 : Int32) (M_48 : Mm) (H : Heap) (locs : List Loc) (ls : Array Slot), lp_X0_isBalanced_17 k_111_49 o a1 w_44_2 n_17 w_48_3 M_48 = some zr → En D cA ad s A M_48 H locs → lv_has ls 4 [(0, .ref (ad o)), (1, .int a1), (2, .int w_44_2), (3, .int w_48_3)] → W p l e rm_X0_isBalanced s m args below meth c H locs 0 0 Q (F0 m 17 ls []) := by
          intro n_17
          induction n_17 with
          | zero =>
            intro w_48_3 M_48 H locs ls hf
            cases (show (none : Option (Int32 × Mm)) = some zr from hf)
          | succ n_17 ih_17 =>
            intro w_48_3 M_48 H locs ls hf hE hl
            have hf := lp_X0_isBalanced_17_s _ _ _ _ hf
            refine lv_iload_n hx hb dX0_isBalanced_17 rfl (lv_at hl 3 rfl) ?_
            refine lv_aload_n hx hb dX0_isBalanced_18 rfl (lv_at hl 0 rfl) ?_
            obtain ⟨x_50, g_50, hf⟩ := b_some hf
            refine xx_gR hZ hE k_X0 0 (by decide) rfl tw_111 g_50 dX0_isBalanced_19 ?_
            obtain ⟨x_51, g_51, hf⟩ := b_some hf
            refine xx_gIN hZ hE k_X3 1 (by decide) rfl tw_144 g_51 dX0_isBalanced_22 ?_
            refine lv_icmp_ge (tgt := 111) hx hb dX0_isBalanced_25 (by decide) (fun h_52 => ?_) (fun h_52 => ?_)
            · have hf := it_y h_52 hf
              exact o_111_49 _ _ _ _ hf hE (lv_sub hl [0, 1, 2] rfl)
            · have hf := it_n h_52 hf
              refine lv_aload_n hx hb dX0_isBalanced_28 rfl (lv_at hl 0 rfl) ?_
              refine lv_iload_n hx hb dX0_isBalanced_29 rfl (lv_at hl 1 rfl) ?_
              refine lv_iload_n hx hb dX0_isBalanced_30 rfl (lv_at hl 2 rfl) ?_
              refine lv_iload_n hx hb dX0_isBalanced_31 rfl (lv_at hl 3 rfl) ?_
              refine lv_iconst (v := 0) hx hb dX0_isBalanced_32 (by decide) ?_
              obtain ⟨_, i_53, hf⟩ := b_some hf
              obtain ⟨z_53, c_53, hf⟩ := b_some hf
              refine xx_cVv hZ hE (As := [.int a1, .int w_44_2, .int w_48_3, .int (0 : Int32)]) (rest := []) k_X0 (is_m i_53) tw_169 tw_170 (c_X0_reckon l D cA ad 4 o a1 w_44_2 w_48_3 (0 : Int32) M_48 _ c_53) cw_X0_reckon tw_168 ⟨rfl, rfl⟩ ⟨Nat.le_of_ble_eq_true rfl, Nat.le_of_ble_eq_true rfl⟩ rfl hl.1 rfl (Nat.le_of_ble_eq_true rfl) ⟨Nat.le_of_ble_eq_true rfl, Nat.le_of_ble_eq_true rfl⟩ dX0_isBalanced_33 (fun H locs hE => ?_)
              refine lv_aload_n hx hb dX0_isBalanced_36 rfl (lv_at hl 0 rfl) ?_
              refine lv_iload_n hx hb dX0_isBalanced_37 rfl (lv_at hl 1 rfl) ?_
              refine lv_iload_n hx hb dX0_isBalanced_38 rfl (lv_at hl 3 rfl) ?_
              refine lv_iload_n hx hb dX0_isBalanced_39 rfl (lv_at hl 2 rfl) ?_
              refine lv_iconst (v := 0) hx hb dX0_isBalanced_40 (by decide) ?_
              obtain ⟨_, i_54, hf⟩ := b_some hf
              obtain ⟨z_54, c_54, hf⟩ := b_some hf
              refine xx_cVv hZ hE (As := [.int a1, .int w_48_3, .int w_44_2, .int (0 : Int32)]) (rest := []) k_X0 (is_m i_54) tw_169 tw_170 (c_X0_reckon l D cA ad 4 o a1 w_48_3 w_44_2 (0 : Int32) z_53 _ c_54) cw_X0_reckon tw_168 ⟨rfl, rfl⟩ ⟨Nat.le_of_ble_eq_true rfl, Nat.le_of_ble_eq_true rfl⟩ rfl hl.1 rfl (Nat.le_of_ble_eq_true rfl) ⟨Nat.le_of_ble_eq_true rfl, Nat.le_of_ble_eq_true rfl⟩ dX0_isBalanced_41 (fun H locs hE => ?_)
              refine lv_aload_n hx hb dX0_isBalanced_44 rfl (lv_at hl 0 rfl) ?_
              refine lv_iload_n hx hb dX0_isBalanced_45 rfl (lv_at hl 1 rfl) ?_
              refine lv_iload_n hx hb dX0_isBalanced_46 rfl (lv_at hl 2 rfl) ?_
              refine lv_iload_n hx hb dX0_isBalanced_47 rfl (lv_at hl 3 rfl) ?_
              refine lv_aload_n hx hb dX0_isBalanced_48 rfl (lv_at hl 0 rfl) ?_
              obtain ⟨x_55, g_55, hf⟩ := b_some hf
              refine xx_gR hZ hE k_X0 5 (by decide) rfl tw_230 g_55 dX0_isBalanced_49 ?_
              obtain ⟨_, i_56, hf⟩ := b_some hf
              obtain ⟨z_56, c_56, hf⟩ := b_some hf
              refine xx_cVv hZ hE (As := [.int a1, .int w_44_2, .int w_48_3, .ref (ad x_55)]) (rest := []) k_X0 (is_m i_56) tw_233 tw_234 (c_X0_weigh l D cA ad o a1 w_44_2 w_48_3 x_55 z_54 _ c_56) cw_X0_weigh tw_232 ⟨rfl, rfl⟩ ⟨Nat.le_of_ble_eq_true rfl, Nat.le_of_ble_eq_true rfl⟩ rfl hl.1 rfl (Nat.le_of_ble_eq_true rfl) ⟨Nat.le_of_ble_eq_true rfl, Nat.le_of_ble_eq_true rfl⟩ dX0_isBalanced_52 (fun H locs hE => ?_)
              refine lv_aload_n hx hb dX0_isBalanced_55 rfl (lv_at hl 0 rfl) ?_
              refine lv_iload_n hx hb dX0_isBalanced_56 rfl (lv_at hl 1 rfl) ?_
              refine lv_iload_n hx hb dX0_isBalanced_57 rfl (lv_at hl 3 rfl) ?_
              refine lv_iload_n hx hb dX0_isBalanced_58 rfl (lv_at hl 2 rfl) ?_
              refine lv_aload_n hx hb dX0_isBalanced_59 rfl (lv_at hl 0 rfl) ?_
              obtain ⟨x_57, g_57, hf⟩ := b_some hf
              refine xx_gR hZ hE k_X0 6 (by decide) rfl tw_231 g_57 dX0_isBalanced_60 ?_
              obtain ⟨_, i_58, hf⟩ := b_some hf
              obtain ⟨z_58, c_58, hf⟩ := b_some hf
              refine xx_cVv hZ hE (As := [.int a1, .int w_48_3, .int w_44_2, .ref (ad x_57)]) (rest := []) k_X0 (is_m i_58) tw_233 tw_234 (c_X0_weigh l D cA ad o a1 w_48_3 w_44_2 x_57 z_56 _ c_58) cw_X0_weigh tw_232 ⟨rfl, rfl⟩ ⟨Nat.le_of_ble_eq_true rfl, Nat.le_of_ble_eq_true rfl⟩ rfl hl.1 rfl (Nat.le_of_ble_eq_true rfl) ⟨Nat.le_of_ble_eq_true rfl, Nat.le_of_ble_eq_true rfl⟩ dX0_isBalanced_63 (fun H locs hE => ?_)
              refine lv_aload_n hx hb dX0_isBalanced_66 rfl (lv_at hl 0 rfl) ?_
              obtain ⟨x_59, g_59, hf⟩ := b_some hf
              refine xx_gR hZ hE k_X0 5 (by decide) rfl tw_230 g_59 dX0_isBalanced_67 ?_
              obtain ⟨x_60, g_60, hf⟩ := b_some hf
              refine xx_gIN hZ hE k_X1 2 (by decide) rfl tw_182 g_60 dX0_isBalanced_70 ?_
              refine lv_if_eq (tgt := 86) hx hb dX0_isBalanced_73 (by decide) (fun h_61 => ?_) (fun h_61 => ?_)
              · have hf := it_y h_61 hf
                refine lv_bipush (v := -4) hx hb dX0_isBalanced_86 (by decide) ?_
                exact hret _ _ _ _ _ _ (pr_1 hf) (pr_2 hf) rfl dX0_isBalanced_88 hE
              · have hf := it_n h_61 hf
                refine lv_aload_n hx hb dX0_isBalanced_76 rfl (lv_at hl 0 rfl) ?_
                obtain ⟨x_62, g_62, hf⟩ := b_some hf
                refine xx_gR hZ hE k_X0 6 (by decide) rfl tw_231 g_62 dX0_isBalanced_77 ?_
                obtain ⟨x_63, g_63, hf⟩ := b_some hf
                refine xx_gIN hZ hE k_X1 2 (by decide) rfl tw_182 g_63 dX0_isBalanced_80 ?_
                refine lv_if_ne (tgt := 89) hx hb dX0_isBalanced_83 (by decide) (fun h_64 => ?_) (fun h_64 => ?_)
                · have hf := it_n h_64 hf
                  refine lv_aload_n hx hb dX0_isBalanced_89 rfl (lv_at hl 0 rfl) ?_
                  obtain ⟨x_65, g_65, hf⟩ := b_some hf
                  refine xx_gR hZ hE k_X0 5 (by decide) rfl tw_230 g_65 dX0_isBalanced_90 ?_
                  refine lv_aload_n hx hb dX0_isBalanced_93 rfl (lv_at hl 0 rfl) ?_
                  obtain ⟨x_66, g_66, hf⟩ := b_some hf
                  refine xx_gR hZ hE k_X0 6 (by decide) rfl tw_231 g_66 dX0_isBalanced_94 ?_
                  obtain ⟨_, i_67, hf⟩ := b_some hf
                  obtain ⟨z_67, c_67, hf⟩ := b_some hf
                  refine xx_cVNi hZ hE (As := [.ref (ad x_66)]) (rest := []) k_X1 (is_m i_67) tw_236 tw_237 (c_X1_isSame l D cA ad x_65 x_66 z_58 _ c_67) cw_X1_isSame tw_235 ⟨rfl, rfl⟩ ⟨Nat.le_of_ble_eq_true rfl, Nat.le_of_ble_eq_true rfl⟩ rfl hl.1 rfl (Nat.le_of_ble_eq_true rfl) ⟨Nat.le_of_ble_eq_true rfl, Nat.le_of_ble_eq_true rfl⟩ dX0_isBalanced_97 (fun H locs hE => ?_)
                  refine lv_if_ne (tgt := 105) hx hb dX0_isBalanced_100 (by decide) (fun h_68 => ?_) (fun h_68 => ?_)
                  · have hf := it_n h_68 hf
                    refine lv_iinc (v := (w_48_3 + 1)) (lv' := [(3, .int (w_48_3 + 1)), (0, .ref (ad o)), (1, .int a1), (2, .int w_44_2)]) hx hb dX0_isBalanced_105 hl (k := 3) rfl rfl (by decide) rfl (fun ls hl => ?_)
                    refine lv_goto (tgt := 17) hx hb dX0_isBalanced_108 (by decide) ?_
                    exact ih_17 _ _ _ _ _ hf hE (lv_sub hl [1, 2, 3, 0] rfl)
                  · have hf := it_y h_68 hf
                    refine lv_iconst (v := 0) hx hb dX0_isBalanced_103 (by decide) ?_
                    exact hret _ _ _ _ _ _ (pr_1 hf) (pr_2 hf) rfl dX0_isBalanced_104 hE
                · have hf := it_y h_64 hf
                  refine lv_bipush (v := -4) hx hb dX0_isBalanced_86 (by decide) ?_
                  exact hret _ _ _ _ _ _ (pr_1 hf) (pr_2 hf) rfl dX0_isBalanced_88 hE
        exact L_48 _ _ _ _ _ _ hf hE (lv_sub hl [1, 2, 3, 0] rfl)
  exact L_44 _ _ _ _ _ _ hf hE (lv_sub hl [1, 2, 0] rfl)
def rm_X6_goesBack : Room := { frames := 57, cells := 0, slots := 0, locals := 2549 }
def f_X6_goesBack (o : Nat) (a1 : Int32) (M : Mm) : Option (Int32 × Mm) :=
    (op_is M o 6).bind fun _ =>
    (f_X6_hasModel o M).bind fun z_1 =>
    if z_1 = 0 then
    some ((-2 : Int32), M)
    else
    (op_is M o 6).bind fun _ =>
    (f_X6_isMove o a1 M).bind fun z_3 =>
    if z_3 = 0 then
    some ((-1 : Int32), M)
    else
    (op_gR M 6 o 2).bind fun x_5 =>
    (op_is M x_5 0).bind fun _ =>
    (f_X0_isBalanced x_5 a1 M).bind fun z_6 =>
    some (z_6.1, z_6.2)
set_option maxHeartbeats 4000000 in
set_option maxRecDepth 100000 in
theorem c_X6_goesBack (l : Launch) (D : va_G) (cA : Nat → ClassId) (ad : Nat → Nat) (o : Nat) (a1 : Int32) (M : Mm) (zr : Int32 × Mm) (hf : f_X6_goesBack o a1 M = some zr) : KI l yX6_goesBack cX6_goesBack 2 (some .int) rm_X6_goesBack D cA ad [.ref (ad o), .int a1] M zr.1 zr.2 := by
  refine KI_of (by decide) (Nat.le_of_ble_eq_true rfl) ?_
  intro p e s m args below meth c ls Q A H locs hZ hE hl hret
  have hx := hZ.1
  have hb := hZ.2.1
  have hown := hZ.2.2.2.1
  have hts := hZ.2.2.2.2.1
  have hl : lv_has ls 2 [(0, .ref (ad o)), (1, .int a1)] := hl
  unfold f_X6_goesBack at hf
  refine lv_aload_n hx hb dX6_goesBack_0 rfl (lv_at hl 0 rfl) ?_
  obtain ⟨_, i_1, hf⟩ := b_some hf
  obtain ⟨z_1, c_1, hf⟩ := b_some hf
  refine xx_cVi hZ hE (As := []) (rest := []) k_X6 (is_m i_1) tw_38 tw_39 (c_X6_hasModel l D cA ad o M _ c_1) cw_X6_hasModel tw_36 ⟨rfl, rfl⟩ ⟨Nat.le_of_ble_eq_true rfl, Nat.le_of_ble_eq_true rfl⟩ rfl hl.1 rfl (Nat.le_of_ble_eq_true rfl) ⟨Nat.le_of_ble_eq_true rfl, Nat.le_of_ble_eq_true rfl⟩ dX6_goesBack_1 (fun H locs hE => ?_)
  refine lv_if_ne (tgt := 10) hx hb dX6_goesBack_4 (by decide) (fun h_2 => ?_) (fun h_2 => ?_)
  · have hf := it_n h_2 hf
    refine lv_aload_n hx hb dX6_goesBack_10 rfl (lv_at hl 0 rfl) ?_
    refine lv_iload_n hx hb dX6_goesBack_11 rfl (lv_at hl 1 rfl) ?_
    obtain ⟨_, i_3, hf⟩ := b_some hf
    obtain ⟨z_3, c_3, hf⟩ := b_some hf
    refine xx_cVi hZ hE (As := [.int a1]) (rest := []) k_X6 (is_m i_3) tw_59 tw_60 (c_X6_isMove l D cA ad o a1 M _ c_3) cw_X6_isMove tw_58 ⟨rfl, rfl⟩ ⟨Nat.le_of_ble_eq_true rfl, Nat.le_of_ble_eq_true rfl⟩ rfl hl.1 rfl (Nat.le_of_ble_eq_true rfl) ⟨Nat.le_of_ble_eq_true rfl, Nat.le_of_ble_eq_true rfl⟩ dX6_goesBack_12 (fun H locs hE => ?_)
    refine lv_if_ne (tgt := 20) hx hb dX6_goesBack_15 (by decide) (fun h_4 => ?_) (fun h_4 => ?_)
    · have hf := it_n h_4 hf
      refine lv_aload_n hx hb dX6_goesBack_20 rfl (lv_at hl 0 rfl) ?_
      obtain ⟨x_5, g_5, hf⟩ := b_some hf
      refine xx_gR hZ hE k_X6 2 (by decide) rfl tw_25 g_5 dX6_goesBack_21 ?_
      refine lv_iload_n hx hb dX6_goesBack_24 rfl (lv_at hl 1 rfl) ?_
      obtain ⟨_, i_6, hf⟩ := b_some hf
      obtain ⟨z_6, c_6, hf⟩ := b_some hf
      refine xx_cVNi hZ hE (As := [.int a1]) (rest := []) k_X0 (is_m i_6) tw_242 tw_243 (c_X0_isBalanced l D cA ad x_5 a1 M _ c_6) cw_X0_isBalanced tw_241 ⟨rfl, rfl⟩ ⟨Nat.le_of_ble_eq_true rfl, Nat.le_of_ble_eq_true rfl⟩ rfl hl.1 rfl (Nat.le_of_ble_eq_true rfl) ⟨Nat.le_of_ble_eq_true rfl, Nat.le_of_ble_eq_true rfl⟩ dX6_goesBack_25 (fun H locs hE => ?_)
      exact hret _ _ _ _ _ _ (pr_1 hf) (pr_2 hf) rfl dX6_goesBack_28 hE
    · have hf := it_y h_4 hf
      refine lv_iconst (v := -1) hx hb dX6_goesBack_18 (by decide) ?_
      exact hret _ _ _ _ _ _ (pr_1 hf) (pr_2 hf) rfl dX6_goesBack_19 hE
  · have hf := it_y h_2 hf
    refine lv_bipush (v := -2) hx hb dX6_goesBack_7 (by decide) ?_
    exact hret _ _ _ _ _ _ (pr_1 hf) (pr_2 hf) rfl dX6_goesBack_9 hE
def rm_J6_numberOfTrailingZeros_0f7a4 : Room := { frames := 0, cells := 0, slots := 0, locals := 0 }
def f_J6_numberOfTrailingZeros_0f7a4 (a1 : Int32) : Option (Int32) :=
    if 0 < ((a1 ^^^ (-1 : Int32)) &&& (a1 - (1 : Int32))) then
    op_jn (fun (l_2_0 : Int32) (l_2_1 : Int32) =>
    op_jn (fun (l_4_0 : Int32) (l_4_1 : Int32) =>
    op_jn (fun (l_6_0 : Int32) (l_6_1 : Int32) =>
    op_jn (fun (l_8_0 : Int32) (l_8_1 : Int32) =>
    some (l_8_1 + ((l_8_0.toUInt32 >>> ((1 : Int32).toUInt32 &&& Int32.toUInt32 31)).toInt32)))
    fun j_8 =>
    if l_6_0 ≤ (4 : Int32) then
    j_8 l_6_0 l_6_1
    else
    j_8 ((l_6_0.toUInt32 >>> ((2 : Int32).toUInt32 &&& Int32.toUInt32 31)).toInt32) (l_6_1 + 2))
    fun j_6 =>
    if l_4_0 ≤ (16 : Int32) then
    j_6 l_4_0 l_4_1
    else
    j_6 ((l_4_0.toUInt32 >>> ((4 : Int32).toUInt32 &&& Int32.toUInt32 31)).toInt32) (l_4_1 + 4))
    fun j_4 =>
    if l_2_0 ≤ (256 : Int32) then
    j_4 l_2_0 l_2_1
    else
    j_4 ((l_2_0.toUInt32 >>> ((8 : Int32).toUInt32 &&& Int32.toUInt32 31)).toInt32) (l_2_1 + 8))
    fun j_2 =>
    if ((a1 ^^^ (-1 : Int32)) &&& (a1 - (1 : Int32))) ≤ (65536 : Int32) then
    j_2 ((a1 ^^^ (-1 : Int32)) &&& (a1 - (1 : Int32))) (1 : Int32)
    else
    j_2 ((((a1 ^^^ (-1 : Int32)) &&& (a1 - (1 : Int32))).toUInt32 >>> ((16 : Int32).toUInt32 &&& Int32.toUInt32 31)).toInt32) ((1 : Int32) + 16)
    else
    some (((a1 ^^^ (-1 : Int32)) &&& (a1 - (1 : Int32))) &&& (32 : Int32))
set_option maxHeartbeats 4000000 in
set_option maxRecDepth 100000 in
theorem c_J6_numberOfTrailingZeros_0f7a4 (l : Launch) (D : va_G) (cA : Nat → ClassId) (ad : Nat → Nat) (a1 : Int32) (M : Mm) (zr : Int32) (hf : f_J6_numberOfTrailingZeros_0f7a4 a1 = some zr) : KI l yJ6_numberOfTrailingZeros_0f7a4 cJ6_numberOfTrailingZeros_0f7a4 2 (some .int) rm_J6_numberOfTrailingZeros_0f7a4 D cA ad [.int a1] M zr M := by
  refine KI_of (by decide) (Nat.le_of_ble_eq_true rfl) ?_
  intro p e s m args below meth c ls Q A H locs hZ hE hl hret
  have hx := hZ.1
  have hb := hZ.2.1
  have hown := hZ.2.2.2.1
  have hts := hZ.2.2.2.2.1
  have hl : lv_has ls 2 [(0, .int a1)] := hl
  unfold f_J6_numberOfTrailingZeros_0f7a4 at hf
  refine lv_iload_n hx hb dJ6_numberOfTrailingZeros_0f7a4_0 rfl (lv_at hl 0 rfl) ?_
  refine lv_iconst (v := -1) hx hb dJ6_numberOfTrailingZeros_0f7a4_1 (by decide) ?_
  refine lv_ixor hx hb dJ6_numberOfTrailingZeros_0f7a4_2 ?_
  refine lv_iload_n hx hb dJ6_numberOfTrailingZeros_0f7a4_3 rfl (lv_at hl 0 rfl) ?_
  refine lv_iconst (v := 1) hx hb dJ6_numberOfTrailingZeros_0f7a4_4 (by decide) ?_
  refine lv_isub hx hb dJ6_numberOfTrailingZeros_0f7a4_5 ?_
  refine lv_iand hx hb dJ6_numberOfTrailingZeros_0f7a4_6 ?_
  refine lv_istore_n (lv' := [(0, .int ((a1 ^^^ (-1 : Int32)) &&& (a1 - (1 : Int32))))]) hx hb dJ6_numberOfTrailingZeros_0f7a4_7 rfl hl (by decide) rfl (fun ls hl => ?_)
  refine lv_iload_n hx hb dJ6_numberOfTrailingZeros_0f7a4_8 rfl (lv_at hl 0 rfl) ?_
  refine lv_if_gt (tgt := 17) hx hb dJ6_numberOfTrailingZeros_0f7a4_9 (by decide) (fun h_1 => ?_) (fun h_1 => ?_)
  · have hf := it_y h_1 hf
    refine lv_iconst (v := 1) hx hb dJ6_numberOfTrailingZeros_0f7a4_17 (by decide) ?_
    refine lv_istore_n (lv' := [(1, .int (1 : Int32)), (0, .int ((a1 ^^^ (-1 : Int32)) &&& (a1 - (1 : Int32))))]) hx hb dJ6_numberOfTrailingZeros_0f7a4_18 rfl hl (by decide) rfl (fun ls hl => ?_)
    refine lv_iload_n hx hb dJ6_numberOfTrailingZeros_0f7a4_19 rfl (lv_at hl 1 rfl) ?_
    refine lv_ldcw (v := 65536) hx hb hown (hts _ tw_244) dJ6_numberOfTrailingZeros_0f7a4_20 ?_
    obtain ⟨j_2, ej_2, hf⟩ := jn_e hf
    have q_2 : ∀ (l_2_0 : Int32) (l_2_1 : Int32) (H : Heap) (locs : List Loc) (ls : Array Slot), j_2 l_2_0 l_2_1 = some zr → En D cA ad s A M H locs → lv_has ls 2 [(0, .int l_2_0), (1, .int l_2_1)] → W p l e rm_J6_numberOfTrailingZeros_0f7a4 s m args below meth c H locs 0 0 Q (F0 m 34 ls []) := by
      intro l_2_0 l_2_1 H locs ls hf hE hl
      rw [ej_2] at hf
      refine lv_iload_n hx hb dJ6_numberOfTrailingZeros_0f7a4_34 rfl (lv_at hl 0 rfl) ?_
      refine lv_sipush (v := 256) hx hb dJ6_numberOfTrailingZeros_0f7a4_35 (by decide) ?_
      obtain ⟨j_4, ej_4, hf⟩ := jn_e hf
      have q_4 : ∀ (l_4_0 : Int32) (l_4_1 : Int32) (H : Heap) (locs : List Loc) (ls : Array Slot), j_4 l_4_0 l_4_1 = some zr → En D cA ad s A M H locs → lv_has ls 2 [(0, .int l_4_0), (1, .int l_4_1)] → W p l e rm_J6_numberOfTrailingZeros_0f7a4 s m args below meth c H locs 0 0 Q (F0 m 49 ls []) := by
        intro l_4_0 l_4_1 H locs ls hf hE hl
        rw [ej_4] at hf
        refine lv_iload_n hx hb dJ6_numberOfTrailingZeros_0f7a4_49 rfl (lv_at hl 0 rfl) ?_
        refine lv_bipush (v := 16) hx hb dJ6_numberOfTrailingZeros_0f7a4_50 (by decide) ?_
        obtain ⟨j_6, ej_6, hf⟩ := jn_e hf
        have q_6 : ∀ (l_6_0 : Int32) (l_6_1 : Int32) (H : Heap) (locs : List Loc) (ls : Array Slot), j_6 l_6_0 l_6_1 = some zr → En D cA ad s A M H locs → lv_has ls 2 [(0, .int l_6_0), (1, .int l_6_1)] → W p l e rm_J6_numberOfTrailingZeros_0f7a4 s m args below meth c H locs 0 0 Q (F0 m 62 ls []) := by
          intro l_6_0 l_6_1 H locs ls hf hE hl
          rw [ej_6] at hf
          refine lv_iload_n hx hb dJ6_numberOfTrailingZeros_0f7a4_62 rfl (lv_at hl 0 rfl) ?_
          refine lv_iconst (v := 4) hx hb dJ6_numberOfTrailingZeros_0f7a4_63 (by decide) ?_
          obtain ⟨j_8, ej_8, hf⟩ := jn_e hf
          have q_8 : ∀ (l_8_0 : Int32) (l_8_1 : Int32) (H : Heap) (locs : List Loc) (ls : Array Slot), j_8 l_8_0 l_8_1 = some zr → En D cA ad s A M H locs → lv_has ls 2 [(0, .int l_8_0), (1, .int l_8_1)] → W p l e rm_J6_numberOfTrailingZeros_0f7a4 s m args below meth c H locs 0 0 Q (F0 m 74 ls []) := by
            intro l_8_0 l_8_1 H locs ls hf hE hl
            rw [ej_8] at hf
            refine lv_iload_n hx hb dJ6_numberOfTrailingZeros_0f7a4_74 rfl (lv_at hl 1 rfl) ?_
            refine lv_iload_n hx hb dJ6_numberOfTrailingZeros_0f7a4_75 rfl (lv_at hl 0 rfl) ?_
            refine lv_iconst (v := 1) hx hb dJ6_numberOfTrailingZeros_0f7a4_76 (by decide) ?_
            refine lv_iushr hx hb dJ6_numberOfTrailingZeros_0f7a4_77 rfl ?_
            refine lv_iadd hx hb dJ6_numberOfTrailingZeros_0f7a4_78 ?_
            exact hret _ _ _ _ _ _ (Option.some.inj hf) rfl rfl dJ6_numberOfTrailingZeros_0f7a4_79 hE
          refine lv_icmp_le (tgt := 74) hx hb dJ6_numberOfTrailingZeros_0f7a4_64 (by decide) (fun h_9 => ?_) (fun h_9 => ?_)
          · have hf := it_y h_9 hf
            exact q_8 _ _ _ _ _ hf hE (lv_sub hl [0, 1] rfl)
          · have hf := it_n h_9 hf
            refine lv_iinc (v := (l_6_1 + 2)) (lv' := [(1, .int (l_6_1 + 2)), (0, .int l_6_0)]) hx hb dJ6_numberOfTrailingZeros_0f7a4_67 hl (k := 1) rfl rfl (by decide) rfl (fun ls hl => ?_)
            refine lv_iload_n hx hb dJ6_numberOfTrailingZeros_0f7a4_70 rfl (lv_at hl 1 rfl) ?_
            refine lv_iconst (v := 2) hx hb dJ6_numberOfTrailingZeros_0f7a4_71 (by decide) ?_
            refine lv_iushr hx hb dJ6_numberOfTrailingZeros_0f7a4_72 rfl ?_
            refine lv_istore_n (lv' := [(0, .int ((l_6_0.toUInt32 >>> ((2 : Int32).toUInt32 &&& Int32.toUInt32 31)).toInt32)), (1, .int (l_6_1 + 2))]) hx hb dJ6_numberOfTrailingZeros_0f7a4_73 rfl hl (by decide) rfl (fun ls hl => ?_)
            exact q_8 _ _ _ _ _ hf hE (lv_sub hl [0, 1] rfl)
        refine lv_icmp_le (tgt := 62) hx hb dJ6_numberOfTrailingZeros_0f7a4_52 (by decide) (fun h_7 => ?_) (fun h_7 => ?_)
        · have hf := it_y h_7 hf
          exact q_6 _ _ _ _ _ hf hE (lv_sub hl [0, 1] rfl)
        · have hf := it_n h_7 hf
          refine lv_iinc (v := (l_4_1 + 4)) (lv' := [(1, .int (l_4_1 + 4)), (0, .int l_4_0)]) hx hb dJ6_numberOfTrailingZeros_0f7a4_55 hl (k := 1) rfl rfl (by decide) rfl (fun ls hl => ?_)
          refine lv_iload_n hx hb dJ6_numberOfTrailingZeros_0f7a4_58 rfl (lv_at hl 1 rfl) ?_
          refine lv_iconst (v := 4) hx hb dJ6_numberOfTrailingZeros_0f7a4_59 (by decide) ?_
          refine lv_iushr hx hb dJ6_numberOfTrailingZeros_0f7a4_60 rfl ?_
          refine lv_istore_n (lv' := [(0, .int ((l_4_0.toUInt32 >>> ((4 : Int32).toUInt32 &&& Int32.toUInt32 31)).toInt32)), (1, .int (l_4_1 + 4))]) hx hb dJ6_numberOfTrailingZeros_0f7a4_61 rfl hl (by decide) rfl (fun ls hl => ?_)
          exact q_6 _ _ _ _ _ hf hE (lv_sub hl [0, 1] rfl)
      refine lv_icmp_le (tgt := 49) hx hb dJ6_numberOfTrailingZeros_0f7a4_38 (by decide) (fun h_5 => ?_) (fun h_5 => ?_)
      · have hf := it_y h_5 hf
        exact q_4 _ _ _ _ _ hf hE (lv_sub hl [0, 1] rfl)
      · have hf := it_n h_5 hf
        refine lv_iinc (v := (l_2_1 + 8)) (lv' := [(1, .int (l_2_1 + 8)), (0, .int l_2_0)]) hx hb dJ6_numberOfTrailingZeros_0f7a4_41 hl (k := 1) rfl rfl (by decide) rfl (fun ls hl => ?_)
        refine lv_iload_n hx hb dJ6_numberOfTrailingZeros_0f7a4_44 rfl (lv_at hl 1 rfl) ?_
        refine lv_bipush (v := 8) hx hb dJ6_numberOfTrailingZeros_0f7a4_45 (by decide) ?_
        refine lv_iushr hx hb dJ6_numberOfTrailingZeros_0f7a4_47 rfl ?_
        refine lv_istore_n (lv' := [(0, .int ((l_2_0.toUInt32 >>> ((8 : Int32).toUInt32 &&& Int32.toUInt32 31)).toInt32)), (1, .int (l_2_1 + 8))]) hx hb dJ6_numberOfTrailingZeros_0f7a4_48 rfl hl (by decide) rfl (fun ls hl => ?_)
        exact q_4 _ _ _ _ _ hf hE (lv_sub hl [0, 1] rfl)
    refine lv_icmp_le (tgt := 34) hx hb dJ6_numberOfTrailingZeros_0f7a4_23 (by decide) (fun h_3 => ?_) (fun h_3 => ?_)
    · have hf := it_y h_3 hf
      exact q_2 _ _ _ _ _ hf hE (lv_sub hl [1, 0] rfl)
    · have hf := it_n h_3 hf
      refine lv_iinc (v := ((1 : Int32) + 16)) (lv' := [(1, .int ((1 : Int32) + 16)), (0, .int ((a1 ^^^ (-1 : Int32)) &&& (a1 - (1 : Int32))))]) hx hb dJ6_numberOfTrailingZeros_0f7a4_26 hl (k := 0) rfl rfl (by decide) rfl (fun ls hl => ?_)
      refine lv_iload_n hx hb dJ6_numberOfTrailingZeros_0f7a4_29 rfl (lv_at hl 1 rfl) ?_
      refine lv_bipush (v := 16) hx hb dJ6_numberOfTrailingZeros_0f7a4_30 (by decide) ?_
      refine lv_iushr hx hb dJ6_numberOfTrailingZeros_0f7a4_32 rfl ?_
      refine lv_istore_n (lv' := [(0, .int ((((a1 ^^^ (-1 : Int32)) &&& (a1 - (1 : Int32))).toUInt32 >>> ((16 : Int32).toUInt32 &&& Int32.toUInt32 31)).toInt32)), (1, .int ((1 : Int32) + 16))]) hx hb dJ6_numberOfTrailingZeros_0f7a4_33 rfl hl (by decide) rfl (fun ls hl => ?_)
      exact q_2 _ _ _ _ _ hf hE (lv_sub hl [0, 1] rfl)
  · have hf := it_n h_1 hf
    refine lv_iload_n hx hb dJ6_numberOfTrailingZeros_0f7a4_12 rfl (lv_at hl 0 rfl) ?_
    refine lv_bipush (v := 32) hx hb dJ6_numberOfTrailingZeros_0f7a4_13 (by decide) ?_
    refine lv_iand hx hb dJ6_numberOfTrailingZeros_0f7a4_15 ?_
    exact hret _ _ _ _ _ _ (Option.some.inj hf) rfl rfl dJ6_numberOfTrailingZeros_0f7a4_16 hE
def lp_X4_weighty_5 (i_0 : Nat) (i_1 : Int32) (i_2 : Int32) (M : Mm) : Nat → Int32 → Int32 → Option (Int32)
  | 0, _, _ => none
  | n_5 + 1, v_3, v_4 =>
    (op_gR M 4 i_0 0).bind fun x_1 =>
    (op_gR M 3 x_1 2).bind fun x_2 =>
    (op_aI M x_2 i_2).bind fun x_3 =>
    if x_3 ≤ v_4 then
    some v_3
    else
    (op_gR M 4 i_0 0).bind fun x_5 =>
    (op_is M x_5 3).bind fun _ =>
    (f_X3_inLine x_5 i_1 i_2 v_4 M).bind fun z_6 =>
    (op_gR M 4 i_0 0).bind fun x_7 =>
    (op_gR M 3 x_7 5).bind fun x_8 =>
    (op_aI M x_8 z_6).bind fun x_9 =>
    lp_X4_weighty_5 i_0 i_1 i_2 M n_5 (v_3 ||| (if x_9 ≤ 0 then (0 : Int32) else ((1 : Int32) <<< (z_6 &&& 31)))) (v_4 + 1)
theorem lp_X4_weighty_5_s (i_0 : Nat) (i_1 : Int32) (i_2 : Int32) (M : Mm) {n_5 : Nat} {v_3 : Int32} {v_4 : Int32} {zr : Int32} (hf : lp_X4_weighty_5 i_0 i_1 i_2 M (n_5 + 1) v_3 v_4 = some zr) : (
    (op_gR M 4 i_0 0).bind fun x_1 =>
    (op_gR M 3 x_1 2).bind fun x_2 =>
    (op_aI M x_2 i_2).bind fun x_3 =>
    if x_3 ≤ v_4 then
    some v_3
    else
    (op_gR M 4 i_0 0).bind fun x_5 =>
    (op_is M x_5 3).bind fun _ =>
    (f_X3_inLine x_5 i_1 i_2 v_4 M).bind fun z_6 =>
    (op_gR M 4 i_0 0).bind fun x_7 =>
    (op_gR M 3 x_7 5).bind fun x_8 =>
    (op_aI M x_8 z_6).bind fun x_9 =>
    lp_X4_weighty_5 i_0 i_1 i_2 M n_5 (v_3 ||| (if x_9 ≤ 0 then (0 : Int32) else ((1 : Int32) <<< (z_6 &&& 31)))) (v_4 + 1)) = some zr := hf
def rm_X4_weighty : Room := { frames := 2, cells := 0, slots := 0, locals := 45 }
def f_X4_weighty (o : Nat) (a1 : Int32) (a2 : Int32) (M : Mm) : Option (Int32) :=
    lp_X4_weighty_5  o a1 a2 M FU (0 : Int32) (0 : Int32)
set_option maxHeartbeats 4000000 in
set_option maxRecDepth 100000 in
theorem c_X4_weighty (l : Launch) (D : va_G) (cA : Nat → ClassId) (ad : Nat → Nat) (o : Nat) (a1 : Int32) (a2 : Int32) (M : Mm) (zr : Int32) (hf : f_X4_weighty o a1 a2 M = some zr) : KI l yX4_weighty cX4_weighty 6 (some .int) rm_X4_weighty D cA ad [.ref (ad o), .int a1, .int a2] M zr M := by
  refine KI_of (by decide) (Nat.le_of_ble_eq_true rfl) ?_
  intro p e s m args below meth c ls Q A H locs hZ hE hl hret
  have hx := hZ.1
  have hb := hZ.2.1
  have hown := hZ.2.2.2.1
  have hts := hZ.2.2.2.2.1
  have hl : lv_has ls 6 [(0, .ref (ad o)), (1, .int a1), (2, .int a2)] := hl
  unfold f_X4_weighty at hf
  refine lv_iconst (v := 0) hx hb dX4_weighty_0 (by decide) ?_
  refine lv_istore_n (lv' := [(3, .int (0 : Int32)), (0, .ref (ad o)), (1, .int a1), (2, .int a2)]) hx hb dX4_weighty_1 rfl hl (by decide) rfl (fun ls hl => ?_)
  refine lv_iconst (v := 0) hx hb dX4_weighty_2 (by decide) ?_
  refine lv_istore (lv' := [(4, .int (0 : Int32)), (3, .int (0 : Int32)), (0, .ref (ad o)), (1, .int a1), (2, .int a2)]) hx hb dX4_weighty_3 hl (by decide) rfl (fun ls hl => ?_)
  have L_12 : ∀ (n_5 : Nat) (w_12_3 : Int32) (w_12_4 : Int32) (H : Heap) (locs : List Loc) (ls : Array Slot), lp_X4_weighty_5 o a1 a2 M n_5 w_12_3 w_12_4 = some zr → En D cA ad s A M H locs → lv_has ls 6 [(0, .ref (ad o)), (1, .int a1), (2, .int a2), (3, .int w_12_3), (4, .int w_12_4)] → W p l e rm_X4_weighty s m args below meth c H locs 0 0 Q (F0 m 5 ls []) := by
    intro n_5
    induction n_5 with
    | zero =>
      intro w_12_3 w_12_4 H locs ls hf
      cases (show (none : Option (Int32)) = some zr from hf)
    | succ n_5 ih_5 =>
      intro w_12_3 w_12_4 H locs ls hf hE hl
      have hf := lp_X4_weighty_5_s _ _ _ _ hf
      refine lv_iload hx hb dX4_weighty_5 (lv_at hl 4 rfl) ?_
      refine lv_aload_n hx hb dX4_weighty_7 rfl (lv_at hl 0 rfl) ?_
      obtain ⟨x_13, g_13, hf⟩ := b_some hf
      refine xx_gR hZ hE k_X4 0 (by decide) rfl tw_245 g_13 dX4_weighty_8 ?_
      obtain ⟨x_14, g_14, hf⟩ := b_some hf
      refine xx_gRN hZ hE k_X3 2 (by decide) rfl tw_246 g_14 dX4_weighty_11 ?_
      refine lv_iload_n hx hb dX4_weighty_14 rfl (lv_at hl 2 rfl) ?_
      obtain ⟨x_15, g_15, hf⟩ := b_some hf
      refine xx_aI hZ hE g_15 dX4_weighty_15 ?_
      refine lv_icmp_ge (tgt := 62) hx hb dX4_weighty_16 (by decide) (fun h_16 => ?_) (fun h_16 => ?_)
      · have hf := it_y h_16 hf
        refine lv_iload_n hx hb dX4_weighty_62 rfl (lv_at hl 3 rfl) ?_
        exact hret _ _ _ _ _ _ (Option.some.inj hf) rfl rfl dX4_weighty_63 hE
      · have hf := it_n h_16 hf
        refine lv_aload_n hx hb dX4_weighty_19 rfl (lv_at hl 0 rfl) ?_
        obtain ⟨x_17, g_17, hf⟩ := b_some hf
        refine xx_gR hZ hE k_X4 0 (by decide) rfl tw_245 g_17 dX4_weighty_20 ?_
        refine lv_iload_n hx hb dX4_weighty_23 rfl (lv_at hl 1 rfl) ?_
        refine lv_iload_n hx hb dX4_weighty_24 rfl (lv_at hl 2 rfl) ?_
        refine lv_iload hx hb dX4_weighty_25 (lv_at hl 4 rfl) ?_
        obtain ⟨_, i_18, hf⟩ := b_some hf
        obtain ⟨z_18, c_18, hf⟩ := b_some hf
        refine xx_cVNi hZ hE (As := [.int a1, .int a2, .int w_12_4]) (rest := []) k_X3 (is_m i_18) tw_103 tw_104 (c_X3_inLine l D cA ad x_17 a1 a2 w_12_4 M _ c_18) cw_X3_inLine tw_247 ⟨rfl, rfl⟩ ⟨Nat.le_of_ble_eq_true rfl, Nat.le_of_ble_eq_true rfl⟩ rfl hl.1 rfl (Nat.le_of_ble_eq_true rfl) ⟨Nat.le_of_ble_eq_true rfl, Nat.le_of_ble_eq_true rfl⟩ dX4_weighty_27 (fun H locs hE => ?_)
        refine lv_istore (lv' := [(5, .int z_18), (0, .ref (ad o)), (1, .int a1), (2, .int a2), (3, .int w_12_3), (4, .int w_12_4)]) hx hb dX4_weighty_30 hl (by decide) rfl (fun ls hl => ?_)
        refine lv_iload_n hx hb dX4_weighty_32 rfl (lv_at hl 4 rfl) ?_
        refine lv_aload_n hx hb dX4_weighty_33 rfl (lv_at hl 1 rfl) ?_
        obtain ⟨x_19, g_19, hf⟩ := b_some hf
        refine xx_gR hZ hE k_X4 0 (by decide) rfl tw_245 g_19 dX4_weighty_34 ?_
        obtain ⟨x_20, g_20, hf⟩ := b_some hf
        refine xx_gRN hZ hE k_X3 5 (by decide) rfl tw_248 g_20 dX4_weighty_37 ?_
        refine lv_iload hx hb dX4_weighty_40 (lv_at hl 0 rfl) ?_
        obtain ⟨x_21, g_21, hf⟩ := b_some hf
        refine xx_aI hZ hE g_21 dX4_weighty_42 ?_
        have q_22 : ∀ x_22 : Int32, x_22 = (if x_21 ≤ 0 then (0 : Int32) else ((1 : Int32) <<< (z_18 &&& 31))) → W p l e rm_X4_weighty s m args below meth c H locs 0 0 Q (F0 m 54 ls [.int x_22, .int w_12_3]) := by
          intro x_22 e_22
          subst e_22
          refine lv_ior hx hb dX4_weighty_54 ?_
          refine lv_istore_n (lv' := [(3, .int (w_12_3 ||| (if x_21 ≤ 0 then (0 : Int32) else ((1 : Int32) <<< (z_18 &&& 31))))), (5, .int z_18), (0, .ref (ad o)), (1, .int a1), (2, .int a2), (4, .int w_12_4)]) hx hb dX4_weighty_55 rfl hl (by decide) rfl (fun ls hl => ?_)
          refine lv_iinc (v := (w_12_4 + 1)) (lv' := [(4, .int (w_12_4 + 1)), (3, .int (w_12_3 ||| (if x_21 ≤ 0 then (0 : Int32) else ((1 : Int32) <<< (z_18 &&& 31))))), (5, .int z_18), (0, .ref (ad o)), (1, .int a1), (2, .int a2)]) hx hb dX4_weighty_56 hl (k := 5) rfl rfl (by decide) rfl (fun ls hl => ?_)
          refine lv_goto (tgt := 5) hx hb dX4_weighty_59 (by decide) ?_
          exact ih_5 _ _ _ _ _ hf hE (lv_sub hl [3, 4, 5, 1, 0] rfl)
        refine lv_if_le (tgt := 53) hx hb dX4_weighty_43 (by decide) (fun h_23 => ?_) (fun h_23 => ?_)
        · refine lv_iconst (v := 0) hx hb dX4_weighty_53 (by decide) ?_
          exact q_22 _ (by rw [if_pos h_23])
        · refine lv_iconst (v := 1) hx hb dX4_weighty_46 (by decide) ?_
          refine lv_iload hx hb dX4_weighty_47 (lv_at hl 0 rfl) ?_
          refine lv_ishl hx hb dX4_weighty_49 ?_
          refine lv_goto (tgt := 54) hx hb dX4_weighty_50 (by decide) ?_
          exact q_22 _ (by rw [if_neg h_23])
  exact L_12 _ _ _ _ _ _ hf hE (lv_sub hl [2, 3, 4, 1, 0] rfl)
def rm_X4_proposed : Room := { frames := 2, cells := 0, slots := 0, locals := 43 }
def f_X4_proposed (o : Nat) (a1 : Int32) (a2 : Int32) (M : Mm) : Option (Int32) :=
    (op_gR M 4 o 0).bind fun x_1 =>
    (op_is M x_1 3).bind fun _ =>
    (f_X3_taken x_1 a1 a2 M).bind fun z_2 =>
    (op_gR M 4 o 0).bind fun x_4 =>
    (op_gR M 3 x_4 5).bind fun x_5 =>
    (op_aI M x_5 a2).bind fun x_6 =>
    (op_gR M 4 o 0).bind fun x_7 =>
    (op_gR M 3 x_7 5).bind fun x_8 =>
    (op_aI M x_8 a1).bind fun x_9 =>
    some ((if z_2 ≤ 0 then (0 : Int32) else ((1 : Int32) <<< (a2 &&& 31))) ||| (if x_9 ≤ x_6 then (0 : Int32) else ((1 : Int32) <<< (a1 &&& 31))))
set_option maxHeartbeats 4000000 in
set_option maxRecDepth 100000 in
theorem c_X4_proposed (l : Launch) (D : va_G) (cA : Nat → ClassId) (ad : Nat → Nat) (o : Nat) (a1 : Int32) (a2 : Int32) (M : Mm) (zr : Int32) (hf : f_X4_proposed o a1 a2 M = some zr) : KI l yX4_proposed cX4_proposed 5 (some .int) rm_X4_proposed D cA ad [.ref (ad o), .int a1, .int a2] M zr M := by
  refine KI_of (by decide) (Nat.le_of_ble_eq_true rfl) ?_
  intro p e s m args below meth c ls Q A H locs hZ hE hl hret
  have hx := hZ.1
  have hb := hZ.2.1
  have hown := hZ.2.2.2.1
  have hts := hZ.2.2.2.2.1
  have hl : lv_has ls 5 [(0, .ref (ad o)), (1, .int a1), (2, .int a2)] := hl
  unfold f_X4_proposed at hf
  refine lv_aload_n hx hb dX4_proposed_0 rfl (lv_at hl 0 rfl) ?_
  obtain ⟨x_1, g_1, hf⟩ := b_some hf
  refine xx_gR hZ hE k_X4 0 (by decide) rfl tw_245 g_1 dX4_proposed_1 ?_
  refine lv_iload_n hx hb dX4_proposed_4 rfl (lv_at hl 1 rfl) ?_
  refine lv_iload_n hx hb dX4_proposed_5 rfl (lv_at hl 2 rfl) ?_
  obtain ⟨_, i_2, hf⟩ := b_some hf
  obtain ⟨z_2, c_2, hf⟩ := b_some hf
  refine xx_cVNi hZ hE (As := [.int a1, .int a2]) (rest := []) k_X3 (is_m i_2) tw_130 tw_131 (c_X3_taken l D cA ad x_1 a1 a2 M _ c_2) cw_X3_taken tw_249 ⟨rfl, rfl⟩ ⟨Nat.le_of_ble_eq_true rfl, Nat.le_of_ble_eq_true rfl⟩ rfl hl.1 rfl (Nat.le_of_ble_eq_true rfl) ⟨Nat.le_of_ble_eq_true rfl, Nat.le_of_ble_eq_true rfl⟩ dX4_proposed_6 (fun H locs hE => ?_)
  have q_3 : ∀ x_3 : Int32, x_3 = (if z_2 ≤ 0 then (0 : Int32) else ((1 : Int32) <<< (a2 &&& 31))) → W p l e rm_X4_proposed s m args below meth c H locs 0 0 Q (F0 m 19 ls [.int x_3]) := by
    intro x_3 e_3
    subst e_3
    refine lv_istore_n (lv' := [(3, .int (if z_2 ≤ 0 then (0 : Int32) else ((1 : Int32) <<< (a2 &&& 31)))), (0, .ref (ad o)), (1, .int a1), (2, .int a2)]) hx hb dX4_proposed_19 rfl hl (by decide) rfl (fun ls hl => ?_)
    refine lv_aload_n hx hb dX4_proposed_20 rfl (lv_at hl 1 rfl) ?_
    obtain ⟨x_4, g_4, hf⟩ := b_some hf
    refine xx_gR hZ hE k_X4 0 (by decide) rfl tw_245 g_4 dX4_proposed_21 ?_
    obtain ⟨x_5, g_5, hf⟩ := b_some hf
    refine xx_gRN hZ hE k_X3 5 (by decide) rfl tw_248 g_5 dX4_proposed_24 ?_
    refine lv_iload_n hx hb dX4_proposed_27 rfl (lv_at hl 3 rfl) ?_
    obtain ⟨x_6, g_6, hf⟩ := b_some hf
    refine xx_aI hZ hE g_6 dX4_proposed_28 ?_
    refine lv_aload_n hx hb dX4_proposed_29 rfl (lv_at hl 1 rfl) ?_
    obtain ⟨x_7, g_7, hf⟩ := b_some hf
    refine xx_gR hZ hE k_X4 0 (by decide) rfl tw_245 g_7 dX4_proposed_30 ?_
    obtain ⟨x_8, g_8, hf⟩ := b_some hf
    refine xx_gRN hZ hE k_X3 5 (by decide) rfl tw_248 g_8 dX4_proposed_33 ?_
    refine lv_iload_n hx hb dX4_proposed_36 rfl (lv_at hl 2 rfl) ?_
    obtain ⟨x_9, g_9, hf⟩ := b_some hf
    refine xx_aI hZ hE g_9 dX4_proposed_37 ?_
    have q_10 : ∀ x_10 : Int32, x_10 = (if x_9 ≤ x_6 then (0 : Int32) else ((1 : Int32) <<< (a1 &&& 31))) → W p l e rm_X4_proposed s m args below meth c H locs 0 0 Q (F0 m 48 ls [.int x_10]) := by
      intro x_10 e_10
      subst e_10
      refine lv_istore (lv' := [(4, .int (if x_9 ≤ x_6 then (0 : Int32) else ((1 : Int32) <<< (a1 &&& 31)))), (3, .int (if z_2 ≤ 0 then (0 : Int32) else ((1 : Int32) <<< (a2 &&& 31)))), (0, .ref (ad o)), (1, .int a1), (2, .int a2)]) hx hb dX4_proposed_48 hl (by decide) rfl (fun ls hl => ?_)
      refine lv_iload_n hx hb dX4_proposed_50 rfl (lv_at hl 1 rfl) ?_
      refine lv_iload hx hb dX4_proposed_51 (lv_at hl 0 rfl) ?_
      refine lv_ior hx hb dX4_proposed_53 ?_
      exact hret _ _ _ _ _ _ (Option.some.inj hf) rfl rfl dX4_proposed_54 hE
    refine lv_icmp_ge (tgt := 47) hx hb dX4_proposed_38 (by decide) (fun h_11 => ?_) (fun h_11 => ?_)
    · refine lv_iconst (v := 0) hx hb dX4_proposed_47 (by decide) ?_
      exact q_10 _ (by rw [if_pos h_11])
    · refine lv_iconst (v := 1) hx hb dX4_proposed_41 (by decide) ?_
      refine lv_iload_n hx hb dX4_proposed_42 rfl (lv_at hl 2 rfl) ?_
      refine lv_ishl hx hb dX4_proposed_43 ?_
      refine lv_goto (tgt := 48) hx hb dX4_proposed_44 (by decide) ?_
      exact q_10 _ (by rw [if_neg h_11])
  refine lv_if_le (tgt := 18) hx hb dX4_proposed_9 (by decide) (fun h_12 => ?_) (fun h_12 => ?_)
  · refine lv_iconst (v := 0) hx hb dX4_proposed_18 (by decide) ?_
    exact q_3 _ (by rw [if_pos h_12])
  · refine lv_iconst (v := 1) hx hb dX4_proposed_12 (by decide) ?_
    refine lv_iload_n hx hb dX4_proposed_13 rfl (lv_at hl 2 rfl) ?_
    refine lv_ishl hx hb dX4_proposed_14 ?_
    refine lv_goto (tgt := 19) hx hb dX4_proposed_15 (by decide) ?_
    exact q_3 _ (by rw [if_neg h_12])
def rm_X4_toldProposed : Room := { frames := 2, cells := 0, slots := 0, locals := 45 }
def f_X4_toldProposed (o : Nat) (a1 : Nat) (a2 : Int32) (a3 : Int32) (M : Mm) : Option (Int32) :=
    (op_gR M 4 o 0).bind fun x_1 =>
    (op_is M x_1 3).bind fun _ =>
    (f_X3_pull x_1 a1 a2 a3 M).bind fun z_2 =>
    (op_gR M 4 o 0).bind fun x_3 =>
    (op_is M x_3 3).bind fun _ =>
    (f_X3_pull x_3 a1 a3 a2 M).bind fun z_4 =>
    (op_gR M 4 o 0).bind fun x_5 =>
    (op_gR M 3 x_5 5).bind fun x_6 =>
    (op_aI M x_6 a2).bind fun x_7 =>
    if x_7 = 0 then
    some ((1 : Int32) <<< (a3 &&& 31))
    else
    if z_2 < z_4 then
    if z_2 = (0 : Int64) then
    some ((1 : Int32) <<< (a2 &&& 31))
    else
    some (((1 : Int32) <<< (a3 &&& 31)) ||| ((1 : Int32) <<< (a2 &&& 31)))
    else
    if z_2 ≤ (0 : Int64) then
    if z_2 = (0 : Int64) then
    some ((1 : Int32) <<< (a2 &&& 31))
    else
    some (((1 : Int32) <<< (a3 &&& 31)) ||| ((1 : Int32) <<< (a2 &&& 31)))
    else
    some ((1 : Int32) <<< (a3 &&& 31))
set_option maxHeartbeats 4000000 in
set_option maxRecDepth 100000 in
theorem c_X4_toldProposed (l : Launch) (D : va_G) (cA : Nat → ClassId) (ad : Nat → Nat) (o : Nat) (a1 : Nat) (a2 : Int32) (a3 : Int32) (M : Mm) (zr : Int32) (hf : f_X4_toldProposed o a1 a2 a3 M = some zr) : KI l yX4_toldProposed cX4_toldProposed 8 (some .int) rm_X4_toldProposed D cA ad [.ref (ad o), .ref (ad a1), .int a2, .int a3] M zr M := by
  refine KI_of (by decide) (Nat.le_of_ble_eq_true rfl) ?_
  intro p e s m args below meth c ls Q A H locs hZ hE hl hret
  have hx := hZ.1
  have hb := hZ.2.1
  have hown := hZ.2.2.2.1
  have hts := hZ.2.2.2.2.1
  have hl : lv_has ls 8 [(0, .ref (ad o)), (1, .ref (ad a1)), (2, .int a2), (3, .int a3)] := hl
  unfold f_X4_toldProposed at hf
  refine lv_aload_n hx hb dX4_toldProposed_0 rfl (lv_at hl 0 rfl) ?_
  obtain ⟨x_1, g_1, hf⟩ := b_some hf
  refine xx_gR hZ hE k_X4 0 (by decide) rfl tw_245 g_1 dX4_toldProposed_1 ?_
  refine lv_aload_n hx hb dX4_toldProposed_4 rfl (lv_at hl 1 rfl) ?_
  refine lv_iload_n hx hb dX4_toldProposed_5 rfl (lv_at hl 2 rfl) ?_
  refine lv_iload_n hx hb dX4_toldProposed_6 rfl (lv_at hl 3 rfl) ?_
  obtain ⟨_, i_2, hf⟩ := b_some hf
  obtain ⟨z_2, c_2, hf⟩ := b_some hf
  refine xx_cVNl hZ hE (As := [.ref (ad a1), .int a2, .int a3]) (rest := []) k_X3 (is_m i_2) tw_138 tw_139 (c_X3_pull l D cA ad x_1 a1 a2 a3 M _ c_2) cw_X3_pull tw_250 ⟨rfl, rfl⟩ ⟨Nat.le_of_ble_eq_true rfl, Nat.le_of_ble_eq_true rfl⟩ rfl hl.1 rfl (Nat.le_of_ble_eq_true rfl) ⟨Nat.le_of_ble_eq_true rfl, Nat.le_of_ble_eq_true rfl⟩ dX4_toldProposed_7 (fun H locs hE => ?_)
  refine lv_lstore (lv' := [(4, .long z_2), (0, .ref (ad o)), (1, .ref (ad a1)), (2, .int a2), (3, .int a3)]) hx hb dX4_toldProposed_10 hl (by decide) rfl (fun ls hl => ?_)
  refine lv_aload_n hx hb dX4_toldProposed_12 rfl (lv_at hl 1 rfl) ?_
  obtain ⟨x_3, g_3, hf⟩ := b_some hf
  refine xx_gR hZ hE k_X4 0 (by decide) rfl tw_245 g_3 dX4_toldProposed_13 ?_
  refine lv_aload_n hx hb dX4_toldProposed_16 rfl (lv_at hl 2 rfl) ?_
  refine lv_iload_n hx hb dX4_toldProposed_17 rfl (lv_at hl 4 rfl) ?_
  refine lv_iload_n hx hb dX4_toldProposed_18 rfl (lv_at hl 3 rfl) ?_
  obtain ⟨_, i_4, hf⟩ := b_some hf
  obtain ⟨z_4, c_4, hf⟩ := b_some hf
  refine xx_cVNl hZ hE (As := [.ref (ad a1), .int a3, .int a2]) (rest := []) k_X3 (is_m i_4) tw_138 tw_139 (c_X3_pull l D cA ad x_3 a1 a3 a2 M _ c_4) cw_X3_pull tw_250 ⟨rfl, rfl⟩ ⟨Nat.le_of_ble_eq_true rfl, Nat.le_of_ble_eq_true rfl⟩ rfl hl.1 rfl (Nat.le_of_ble_eq_true rfl) ⟨Nat.le_of_ble_eq_true rfl, Nat.le_of_ble_eq_true rfl⟩ dX4_toldProposed_19 (fun H locs hE => ?_)
  refine lv_lstore (lv' := [(6, .long z_4), (4, .long z_2), (0, .ref (ad o)), (1, .ref (ad a1)), (2, .int a2), (3, .int a3)]) hx hb dX4_toldProposed_22 hl (by decide) rfl (fun ls hl => ?_)
  refine lv_aload_n hx hb dX4_toldProposed_24 rfl (lv_at hl 2 rfl) ?_
  obtain ⟨x_5, g_5, hf⟩ := b_some hf
  refine xx_gR hZ hE k_X4 0 (by decide) rfl tw_245 g_5 dX4_toldProposed_25 ?_
  obtain ⟨x_6, g_6, hf⟩ := b_some hf
  refine xx_gRN hZ hE k_X3 5 (by decide) rfl tw_248 g_6 dX4_toldProposed_28 ?_
  refine lv_iload_n hx hb dX4_toldProposed_31 rfl (lv_at hl 4 rfl) ?_
  obtain ⟨x_7, g_7, hf⟩ := b_some hf
  refine xx_aI hZ hE g_7 dX4_toldProposed_32 ?_
  refine lv_if_eq (tgt := 51) hx hb dX4_toldProposed_33 (by decide) (fun h_8 => ?_) (fun h_8 => ?_)
  · have hf := it_y h_8 hf
    refine lv_iconst (v := 1) hx hb dX4_toldProposed_51 (by decide) ?_
    refine lv_iload_n hx hb dX4_toldProposed_52 rfl (lv_at hl 5 rfl) ?_
    refine lv_ishl hx hb dX4_toldProposed_53 ?_
    exact hret _ _ _ _ _ _ (Option.some.inj hf) rfl rfl dX4_toldProposed_54 hE
  · have hf := it_n h_8 hf
    refine lv_lload hx hb dX4_toldProposed_36 (lv_at hl 1 rfl) ?_
    refine lv_lload hx hb dX4_toldProposed_38 (lv_at hl 0 rfl) ?_
    refine xx_llt (tgt := 55) hx hb dX4_toldProposed_40 dX4_toldProposed_41 (by decide) (fun h_9 => ?_) (fun h_9 => ?_)
    · have hf := it_y h_9 hf
      refine lv_lload hx hb dX4_toldProposed_55 (lv_at hl 1 rfl) ?_
      refine lv_lconst (v := 0) hx hb dX4_toldProposed_57 (by decide) ?_
      refine xx_lne (tgt := 68) hx hb dX4_toldProposed_58 dX4_toldProposed_59 (by decide) (fun h_10 => ?_) (fun h_10 => ?_)
      · have hf := it_n h_10 hf
        refine lv_iconst (v := 1) hx hb dX4_toldProposed_68 (by decide) ?_
        refine lv_iload_n hx hb dX4_toldProposed_69 rfl (lv_at hl 5 rfl) ?_
        refine lv_ishl hx hb dX4_toldProposed_70 ?_
        refine lv_iconst (v := 1) hx hb dX4_toldProposed_71 (by decide) ?_
        refine lv_iload_n hx hb dX4_toldProposed_72 rfl (lv_at hl 4 rfl) ?_
        refine lv_ishl hx hb dX4_toldProposed_73 ?_
        refine lv_ior hx hb dX4_toldProposed_74 ?_
        exact hret _ _ _ _ _ _ (Option.some.inj hf) rfl rfl dX4_toldProposed_75 hE
      · have hf := it_y h_10 hf
        refine lv_iconst (v := 1) hx hb dX4_toldProposed_62 (by decide) ?_
        refine lv_iload_n hx hb dX4_toldProposed_63 rfl (lv_at hl 4 rfl) ?_
        refine lv_ishl hx hb dX4_toldProposed_64 ?_
        refine lv_goto (tgt := 75) hx hb dX4_toldProposed_65 (by decide) ?_
        exact hret _ _ _ _ _ _ (Option.some.inj hf) rfl rfl dX4_toldProposed_75 hE
    · have hf := it_n h_9 hf
      refine lv_lload hx hb dX4_toldProposed_44 (lv_at hl 1 rfl) ?_
      refine lv_lconst (v := 0) hx hb dX4_toldProposed_46 (by decide) ?_
      refine xx_lle (tgt := 55) hx hb dX4_toldProposed_47 dX4_toldProposed_48 (by decide) (fun h_11 => ?_) (fun h_11 => ?_)
      · have hf := it_y h_11 hf
        refine lv_lload hx hb dX4_toldProposed_55 (lv_at hl 1 rfl) ?_
        refine lv_lconst (v := 0) hx hb dX4_toldProposed_57 (by decide) ?_
        refine xx_lne (tgt := 68) hx hb dX4_toldProposed_58 dX4_toldProposed_59 (by decide) (fun h_12 => ?_) (fun h_12 => ?_)
        · have hf := it_n h_12 hf
          refine lv_iconst (v := 1) hx hb dX4_toldProposed_68 (by decide) ?_
          refine lv_iload_n hx hb dX4_toldProposed_69 rfl (lv_at hl 5 rfl) ?_
          refine lv_ishl hx hb dX4_toldProposed_70 ?_
          refine lv_iconst (v := 1) hx hb dX4_toldProposed_71 (by decide) ?_
          refine lv_iload_n hx hb dX4_toldProposed_72 rfl (lv_at hl 4 rfl) ?_
          refine lv_ishl hx hb dX4_toldProposed_73 ?_
          refine lv_ior hx hb dX4_toldProposed_74 ?_
          exact hret _ _ _ _ _ _ (Option.some.inj hf) rfl rfl dX4_toldProposed_75 hE
        · have hf := it_y h_12 hf
          refine lv_iconst (v := 1) hx hb dX4_toldProposed_62 (by decide) ?_
          refine lv_iload_n hx hb dX4_toldProposed_63 rfl (lv_at hl 4 rfl) ?_
          refine lv_ishl hx hb dX4_toldProposed_64 ?_
          refine lv_goto (tgt := 75) hx hb dX4_toldProposed_65 (by decide) ?_
          exact hret _ _ _ _ _ _ (Option.some.inj hf) rfl rfl dX4_toldProposed_75 hE
      · have hf := it_n h_11 hf
        refine lv_iconst (v := 1) hx hb dX4_toldProposed_51 (by decide) ?_
        refine lv_iload_n hx hb dX4_toldProposed_52 rfl (lv_at hl 5 rfl) ?_
        refine lv_ishl hx hb dX4_toldProposed_53 ?_
        exact hret _ _ _ _ _ _ (Option.some.inj hf) rfl rfl dX4_toldProposed_54 hE
def lp_X4_toldOnward_18 (i_0 : Nat) (i_1 : Nat) (i_2 : Int32) (M : Mm) : Nat → Int32 → Int32 → Option (Int32)
  | 0, _, _ => none
  | n_18 + 1, v_3, v_4 =>
    (op_gR M 4 i_0 0).bind fun x_4 =>
    (op_gI M 3 x_4 1).bind fun x_5 =>
    if x_5 ≤ v_4 then
    some v_3
    else
    (op_is M i_1 2).bind fun _ =>
    (f_X2_toldOf i_1 i_2 v_4 M).bind fun z_7 =>
    op_jn (fun (l_8_3 : Int32) =>
    lp_X4_toldOnward_18 i_0 i_1 i_2 M n_18 l_8_3 (v_4 + 1))
    fun j_8 =>
    if z_7 ≤ 0 then
    j_8 v_3
    else
    (op_is M i_0 4).bind fun _ =>
    (f_X4_toldProposed i_0 i_1 i_2 v_4 M).bind fun z_10 =>
    j_8 (v_3 ||| z_10)
theorem lp_X4_toldOnward_18_s (i_0 : Nat) (i_1 : Nat) (i_2 : Int32) (M : Mm) {n_18 : Nat} {v_3 : Int32} {v_4 : Int32} {zr : Int32} (hf : lp_X4_toldOnward_18 i_0 i_1 i_2 M (n_18 + 1) v_3 v_4 = some zr) : (
    (op_gR M 4 i_0 0).bind fun x_4 =>
    (op_gI M 3 x_4 1).bind fun x_5 =>
    if x_5 ≤ v_4 then
    some v_3
    else
    (op_is M i_1 2).bind fun _ =>
    (f_X2_toldOf i_1 i_2 v_4 M).bind fun z_7 =>
    op_jn (fun (l_8_3 : Int32) =>
    lp_X4_toldOnward_18 i_0 i_1 i_2 M n_18 l_8_3 (v_4 + 1))
    fun j_8 =>
    if z_7 ≤ 0 then
    j_8 v_3
    else
    (op_is M i_0 4).bind fun _ =>
    (f_X4_toldProposed i_0 i_1 i_2 v_4 M).bind fun z_10 =>
    j_8 (v_3 ||| z_10)) = some zr := hf
def rm_X4_toldOnward : Room := { frames := 3, cells := 0, slots := 0, locals := 72 }
def f_X4_toldOnward (o : Nat) (a1 : Nat) (a2 : Int32) (M : Mm) : Option (Int32) :=
    (op_gR M 2 a1 7).bind fun x_1 =>
    (op_aI M x_1 a2).bind fun x_2 =>
    if x_2 = 0 then
    some ((1 : Int32) <<< (a2 &&& 31))
    else
    lp_X4_toldOnward_18  o a1 a2 M FU (0 : Int32) (0 : Int32)
set_option maxHeartbeats 4000000 in
set_option maxRecDepth 100000 in
theorem c_X4_toldOnward (l : Launch) (D : va_G) (cA : Nat → ClassId) (ad : Nat → Nat) (o : Nat) (a1 : Nat) (a2 : Int32) (M : Mm) (zr : Int32) (hf : f_X4_toldOnward o a1 a2 M = some zr) : KI l yX4_toldOnward cX4_toldOnward 5 (some .int) rm_X4_toldOnward D cA ad [.ref (ad o), .ref (ad a1), .int a2] M zr M := by
  refine KI_of (by decide) (Nat.le_of_ble_eq_true rfl) ?_
  intro p e s m args below meth c ls Q A H locs hZ hE hl hret
  have hx := hZ.1
  have hb := hZ.2.1
  have hown := hZ.2.2.2.1
  have hts := hZ.2.2.2.2.1
  have hl : lv_has ls 5 [(0, .ref (ad o)), (1, .ref (ad a1)), (2, .int a2)] := hl
  unfold f_X4_toldOnward at hf
  refine lv_aload_n hx hb dX4_toldOnward_0 rfl (lv_at hl 1 rfl) ?_
  obtain ⟨x_1, g_1, hf⟩ := b_some hf
  refine xx_gRN hZ hE k_X2 7 (by decide) rfl tw_251 g_1 dX4_toldOnward_1 ?_
  refine lv_iload_n hx hb dX4_toldOnward_4 rfl (lv_at hl 2 rfl) ?_
  obtain ⟨x_2, g_2, hf⟩ := b_some hf
  refine xx_aI hZ hE g_2 dX4_toldOnward_5 ?_
  refine lv_if_ne (tgt := 13) hx hb dX4_toldOnward_6 (by decide) (fun h_3 => ?_) (fun h_3 => ?_)
  · have hf := it_n h_3 hf
    refine lv_iconst (v := 0) hx hb dX4_toldOnward_13 (by decide) ?_
    refine lv_istore_n (lv' := [(3, .int (0 : Int32)), (0, .ref (ad o)), (1, .ref (ad a1)), (2, .int a2)]) hx hb dX4_toldOnward_14 rfl hl (by decide) rfl (fun ls hl => ?_)
    refine lv_iconst (v := 0) hx hb dX4_toldOnward_15 (by decide) ?_
    refine lv_istore (lv' := [(4, .int (0 : Int32)), (3, .int (0 : Int32)), (0, .ref (ad o)), (1, .ref (ad a1)), (2, .int a2)]) hx hb dX4_toldOnward_16 hl (by decide) rfl (fun ls hl => ?_)
    have L_11 : ∀ (n_18 : Nat) (w_11_3 : Int32) (w_11_4 : Int32) (H : Heap) (locs : List Loc) (ls : Array Slot), lp_X4_toldOnward_18 o a1 a2 M n_18 w_11_3 w_11_4 = some zr → En D cA ad s A M H locs → lv_has ls 5 [(0, .ref (ad o)), (1, .ref (ad a1)), (2, .int a2), (3, .int w_11_3), (4, .int w_11_4)] → W p l e rm_X4_toldOnward s m args below meth c H locs 0 0 Q (F0 m 18 ls []) := by
      intro n_18
      induction n_18 with
      | zero =>
        intro w_11_3 w_11_4 H locs ls hf
        cases (show (none : Option (Int32)) = some zr from hf)
      | succ n_18 ih_18 =>
        intro w_11_3 w_11_4 H locs ls hf hE hl
        have hf := lp_X4_toldOnward_18_s _ _ _ _ hf
        refine lv_iload hx hb dX4_toldOnward_18 (lv_at hl 4 rfl) ?_
        refine lv_aload_n hx hb dX4_toldOnward_20 rfl (lv_at hl 0 rfl) ?_
        obtain ⟨x_12, g_12, hf⟩ := b_some hf
        refine xx_gR hZ hE k_X4 0 (by decide) rfl tw_245 g_12 dX4_toldOnward_21 ?_
        obtain ⟨x_13, g_13, hf⟩ := b_some hf
        refine xx_gIN hZ hE k_X3 1 (by decide) rfl tw_252 g_13 dX4_toldOnward_24 ?_
        refine lv_icmp_ge (tgt := 57) hx hb dX4_toldOnward_27 (by decide) (fun h_14 => ?_) (fun h_14 => ?_)
        · have hf := it_y h_14 hf
          refine lv_iload_n hx hb dX4_toldOnward_57 rfl (lv_at hl 3 rfl) ?_
          exact hret _ _ _ _ _ _ (Option.some.inj hf) rfl rfl dX4_toldOnward_58 hE
        · have hf := it_n h_14 hf
          refine lv_aload_n hx hb dX4_toldOnward_30 rfl (lv_at hl 1 rfl) ?_
          refine lv_iload_n hx hb dX4_toldOnward_31 rfl (lv_at hl 2 rfl) ?_
          refine lv_iload hx hb dX4_toldOnward_32 (lv_at hl 4 rfl) ?_
          obtain ⟨_, i_15, hf⟩ := b_some hf
          obtain ⟨z_15, c_15, hf⟩ := b_some hf
          refine xx_cVNi hZ hE (As := [.int a2, .int w_11_4]) (rest := []) k_X2 (is_m i_15) tw_90 tw_91 (c_X2_toldOf l D cA ad a1 a2 w_11_4 M _ c_15) cw_X2_toldOf tw_253 ⟨rfl, rfl⟩ ⟨Nat.le_of_ble_eq_true rfl, Nat.le_of_ble_eq_true rfl⟩ rfl hl.1 rfl (Nat.le_of_ble_eq_true rfl) ⟨Nat.le_of_ble_eq_true rfl, Nat.le_of_ble_eq_true rfl⟩ dX4_toldOnward_34 (fun H locs hE => ?_)
          obtain ⟨j_16, ej_16, hf⟩ := jn_e hf
          have q_16 : ∀ (l_16_3 : Int32) (H : Heap) (locs : List Loc) (ls : Array Slot), j_16 l_16_3 = some zr → En D cA ad s A M H locs → lv_has ls 5 [(0, .ref (ad o)), (1, .ref (ad a1)), (2, .int a2), (3, .int l_16_3), (4, .int w_11_4)] → W p l e rm_X4_toldOnward s m args below meth c H locs 0 0 Q (F0 m 51 ls []) := by
            intro l_16_3 H locs ls hf hE hl
            rw [ej_16] at hf
            refine lv_iinc (v := (w_11_4 + 1)) (lv' := [(4, .int (w_11_4 + 1)), (0, .ref (ad o)), (1, .ref (ad a1)), (2, .int a2), (3, .int l_16_3)]) hx hb dX4_toldOnward_51 hl (k := 4) rfl rfl (by decide) rfl (fun ls hl => ?_)
            refine lv_goto (tgt := 18) hx hb dX4_toldOnward_54 (by decide) ?_
            exact ih_18 _ _ _ _ _ hf hE (lv_sub hl [1, 2, 3, 4, 0] rfl)
          refine lv_if_le (tgt := 51) hx hb dX4_toldOnward_37 (by decide) (fun h_17 => ?_) (fun h_17 => ?_)
          · have hf := it_y h_17 hf
            exact q_16 _ _ _ _ hf hE (lv_sub hl [0, 1, 2, 3, 4] rfl)
          · have hf := it_n h_17 hf
            refine lv_iload_n hx hb dX4_toldOnward_40 rfl (lv_at hl 3 rfl) ?_
            refine lv_aload_n hx hb dX4_toldOnward_41 rfl (lv_at hl 0 rfl) ?_
            refine lv_aload_n hx hb dX4_toldOnward_42 rfl (lv_at hl 1 rfl) ?_
            refine lv_iload_n hx hb dX4_toldOnward_43 rfl (lv_at hl 2 rfl) ?_
            refine lv_iload hx hb dX4_toldOnward_44 (lv_at hl 4 rfl) ?_
            obtain ⟨_, i_18, hf⟩ := b_some hf
            obtain ⟨z_18, c_18, hf⟩ := b_some hf
            refine xx_cVi hZ hE (As := [.ref (ad a1), .int a2, .int w_11_4]) (rest := [.int w_11_3]) k_X4 (is_m i_18) tw_256 tw_257 (c_X4_toldProposed l D cA ad o a1 a2 w_11_4 M _ c_18) cw_X4_toldProposed tw_254 ⟨rfl, rfl⟩ ⟨Nat.le_of_ble_eq_true rfl, Nat.le_of_ble_eq_true rfl⟩ rfl hl.1 rfl (Nat.le_of_ble_eq_true rfl) ⟨Nat.le_of_ble_eq_true rfl, Nat.le_of_ble_eq_true rfl⟩ dX4_toldOnward_46 (fun H locs hE => ?_)
            refine lv_ior hx hb dX4_toldOnward_49 ?_
            refine lv_istore_n (lv' := [(3, .int (w_11_3 ||| z_18)), (0, .ref (ad o)), (1, .ref (ad a1)), (2, .int a2), (4, .int w_11_4)]) hx hb dX4_toldOnward_50 rfl hl (by decide) rfl (fun ls hl => ?_)
            exact q_16 _ _ _ _ hf hE (lv_sub hl [1, 2, 3, 0, 4] rfl)
    exact L_11 _ _ _ _ _ _ hf hE (lv_sub hl [2, 3, 4, 1, 0] rfl)
  · have hf := it_y h_3 hf
    refine lv_iconst (v := 1) hx hb dX4_toldOnward_9 (by decide) ?_
    refine lv_iload_n hx hb dX4_toldOnward_10 rfl (lv_at hl 2 rfl) ?_
    refine lv_ishl hx hb dX4_toldOnward_11 ?_
    exact hret _ _ _ _ _ _ (Option.some.inj hf) rfl rfl dX4_toldOnward_12 hE
def lp_X4_cycled_20 (rc : Nat → Int32 → Int32 → Int32 → Mm → Option (Int32)) (i_0 : Nat) (i_1 : Nat) (i_3 : Int32) (i_4 : Int32) (M : Mm) : Nat → Int32 → Int32 → Option (Int32)
  | 0, _, _ => none
  | n_20 + 1, v_5, v_6 =>
    (op_gR M 4 i_0 0).bind fun x_3 =>
    (op_gI M 3 x_3 1).bind fun x_4 =>
    if x_4 ≤ v_6 then
    some v_5
    else
    op_jn (fun (l_6_5 : Int32) =>
    lp_X4_cycled_20 rc i_0 i_1 i_3 i_4 M n_20 l_6_5 (v_6 + 1))
    fun j_6 =>
    if ((i_4 >>> (v_6 &&& 31)) &&& (1 : Int32)) = (1 : Int32) then
    (op_gI M 2 i_1 2).bind fun x_8 =>
    (op_is M i_0 4).bind fun _ =>
    (rc i_0 x_8 v_6 (i_3 + (1 : Int32)) M).bind fun z_9 =>
    j_6 (v_5 ||| z_9)
    else
    j_6 v_5
theorem lp_X4_cycled_20_s (rc : Nat → Int32 → Int32 → Int32 → Mm → Option (Int32)) (i_0 : Nat) (i_1 : Nat) (i_3 : Int32) (i_4 : Int32) (M : Mm) {n_20 : Nat} {v_5 : Int32} {v_6 : Int32} {zr : Int32} (hf : lp_X4_cycled_20 rc i_0 i_1 i_3 i_4 M (n_20 + 1) v_5 v_6 = some zr) : (
    (op_gR M 4 i_0 0).bind fun x_3 =>
    (op_gI M 3 x_3 1).bind fun x_4 =>
    if x_4 ≤ v_6 then
    some v_5
    else
    op_jn (fun (l_6_5 : Int32) =>
    lp_X4_cycled_20 rc i_0 i_1 i_3 i_4 M n_20 l_6_5 (v_6 + 1))
    fun j_6 =>
    if ((i_4 >>> (v_6 &&& 31)) &&& (1 : Int32)) = (1 : Int32) then
    (op_gI M 2 i_1 2).bind fun x_8 =>
    (op_is M i_0 4).bind fun _ =>
    (rc i_0 x_8 v_6 (i_3 + (1 : Int32)) M).bind fun z_9 =>
    j_6 (v_5 ||| z_9)
    else
    j_6 v_5) = some zr := hf
def rm_X4_cycled (d : Nat) : Room := { frames := 41 + 3 * (d), cells := 0, slots := 0, locals := 2050 + 100 * (d) }
def f_X4_cycled (rc : Nat → Int32 → Int32 → Int32 → Mm → Option (Int32)) (o : Nat) (a1 : Nat) (a2 : Int32) (a3 : Int32) (M : Mm) : Option (Int32) :=
    (op_gI M 2 a1 1).bind fun x_1 =>
    (op_is M o 4).bind fun _ =>
    (rc o x_1 a2 (a3 + (1 : Int32)) M).bind fun z_2 =>
    lp_X4_cycled_20  rc o a1 a3 z_2 M FU (0 : Int32) (0 : Int32)
set_option maxHeartbeats 4000000 in
set_option maxRecDepth 100000 in
theorem c_X4_cycled (l : Launch) (D : va_G) (cA : Nat → ClassId) (ad : Nat → Nat) (d : Nat) (rc : Nat → Int32 → Int32 → Int32 → Mm → Option (Int32)) (hrc : ∀ (b0 : Nat) (b1 : Int32) (b2 : Int32) (b3 : Int32) (Mz : Mm) (z : Int32), rc b0 b1 b2 b3 Mz = some z → KI l yX4_onward cX4_onward 5 (some .int) (rm_X4_onward d) D cA ad [.ref (ad b0), .int b1, .int b2, .int b3] Mz z Mz) (o : Nat) (a1 : Nat) (a2 : Int32) (a3 : Int32) (M : Mm) (zr : Int32) (hf : f_X4_cycled rc o a1 a2 a3 M = some zr) : KI l yX4_cycled cX4_cycled 7 (some .int) (rm_X4_cycled d) D cA ad [.ref (ad o), .ref (ad a1), .int a2, .int a3] M zr M := by
  refine KI_of (by decide) (Nat.le_of_ble_eq_true rfl) ?_
  intro p e s m args below meth c ls Q A H locs hZ hE hl hret
  have hx := hZ.1
  have hb := hZ.2.1
  have hown := hZ.2.2.2.1
  have hts := hZ.2.2.2.2.1
  have hl : lv_has ls 7 [(0, .ref (ad o)), (1, .ref (ad a1)), (2, .int a2), (3, .int a3)] := hl
  unfold f_X4_cycled at hf
  refine lv_aload_n hx hb dX4_cycled_0 rfl (lv_at hl 0 rfl) ?_
  refine lv_aload_n hx hb dX4_cycled_1 rfl (lv_at hl 1 rfl) ?_
  obtain ⟨x_1, g_1, hf⟩ := b_some hf
  refine xx_gIN hZ hE k_X2 1 (by decide) rfl tw_258 g_1 dX4_cycled_2 ?_
  refine lv_iload_n hx hb dX4_cycled_5 rfl (lv_at hl 2 rfl) ?_
  refine lv_iload_n hx hb dX4_cycled_6 rfl (lv_at hl 3 rfl) ?_
  refine lv_iconst (v := 1) hx hb dX4_cycled_7 (by decide) ?_
  refine lv_iadd hx hb dX4_cycled_8 ?_
  obtain ⟨_, i_2, hf⟩ := b_some hf
  obtain ⟨z_2, c_2, hf⟩ := b_some hf
  refine xx_cVi hZ hE (As := [.int x_1, .int a2, .int (a3 + (1 : Int32))]) (rest := []) k_X4 (is_m i_2) tw_260 tw_261 (hrc o x_1 a2 (a3 + (1 : Int32)) M _ c_2) cw_X4_onward tw_259 ⟨rfl, rfl⟩ ⟨by show 40 + 3 * (d) + 1 ≤ 41 + 3 * (d); omega, by show 8 + (5 + 11) + (2000 + 100 * (d)) ≤ 2050 + 100 * (d); omega⟩ rfl hl.1 rfl (Nat.le_of_ble_eq_true rfl) ⟨Nat.le_of_ble_eq_true rfl, Nat.le_of_ble_eq_true rfl⟩ dX4_cycled_9 (fun H locs hE => ?_)
  refine lv_istore (lv' := [(4, .int z_2), (0, .ref (ad o)), (1, .ref (ad a1)), (2, .int a2), (3, .int a3)]) hx hb dX4_cycled_12 hl (by decide) rfl (fun ls hl => ?_)
  refine lv_iconst (v := 0) hx hb dX4_cycled_14 (by decide) ?_
  refine lv_istore (lv' := [(5, .int (0 : Int32)), (4, .int z_2), (0, .ref (ad o)), (1, .ref (ad a1)), (2, .int a2), (3, .int a3)]) hx hb dX4_cycled_15 hl (by decide) rfl (fun ls hl => ?_)
  refine lv_iconst (v := 0) hx hb dX4_cycled_17 (by decide) ?_
  refine lv_istore (lv' := [(6, .int (0 : Int32)), (5, .int (0 : Int32)), (4, .int z_2), (0, .ref (ad o)), (1, .ref (ad a1)), (2, .int a2), (3, .int a3)]) hx hb dX4_cycled_18 hl (by decide) rfl (fun ls hl => ?_)
  have L_10 : ∀ (n_20 : Nat) (w_10_5 : Int32) (w_10_6 : Int32) (H : Heap) (locs : List Loc) (ls : Array Slot), lp_X4_cycled_20 rc o a1 a3 z_2 M n_20 w_10_5 w_10_6 = some zr → En D cA ad s A M H locs → lv_has ls 7 [(0, .ref (ad o)), (1, .ref (ad a1)), (3, .int a3), (4, .int z_2), (5, .int w_10_5), (6, .int w_10_6)] → W p l e (rm_X4_cycled d) s m args below meth c H locs 0 0 Q (F0 m 20 ls []) := by
    intro n_20
    induction n_20 with
    | zero =>
      intro w_10_5 w_10_6 H locs ls hf
      cases (show (none : Option (Int32)) = some zr from hf)
    | succ n_20 ih_20 =>
      intro w_10_5 w_10_6 H locs ls hf hE hl
      have hf := lp_X4_cycled_20_s _ _ _ _ _ _ hf
      refine lv_iload hx hb dX4_cycled_20 (lv_at hl 5 rfl) ?_
      refine lv_aload_n hx hb dX4_cycled_22 rfl (lv_at hl 0 rfl) ?_
      obtain ⟨x_11, g_11, hf⟩ := b_some hf
      refine xx_gR hZ hE k_X4 0 (by decide) rfl tw_245 g_11 dX4_cycled_23 ?_
      obtain ⟨x_12, g_12, hf⟩ := b_some hf
      refine xx_gIN hZ hE k_X3 1 (by decide) rfl tw_252 g_12 dX4_cycled_26 ?_
      refine lv_icmp_ge (tgt := 67) hx hb dX4_cycled_29 (by decide) (fun h_13 => ?_) (fun h_13 => ?_)
      · have hf := it_y h_13 hf
        refine lv_iload hx hb dX4_cycled_67 (lv_at hl 4 rfl) ?_
        exact hret _ _ _ _ _ _ (Option.some.inj hf) rfl rfl dX4_cycled_69 hE
      · have hf := it_n h_13 hf
        refine lv_iload hx hb dX4_cycled_32 (lv_at hl 3 rfl) ?_
        refine lv_iload hx hb dX4_cycled_34 (lv_at hl 5 rfl) ?_
        refine lv_ishr hx hb dX4_cycled_36 ?_
        refine lv_iconst (v := 1) hx hb dX4_cycled_37 (by decide) ?_
        refine lv_iand hx hb dX4_cycled_38 ?_
        refine lv_iconst (v := 1) hx hb dX4_cycled_39 (by decide) ?_
        obtain ⟨j_14, ej_14, hf⟩ := jn_e hf
        have q_14 : ∀ (l_14_5 : Int32) (H : Heap) (locs : List Loc) (ls : Array Slot), j_14 l_14_5 = some zr → En D cA ad s A M H locs → lv_has ls 7 [(0, .ref (ad o)), (1, .ref (ad a1)), (3, .int a3), (4, .int z_2), (5, .int l_14_5), (6, .int w_10_6)] → W p l e (rm_X4_cycled d) s m args below meth c H locs 0 0 Q (F0 m 61 ls []) := by
          intro l_14_5 H locs ls hf hE hl
          rw [ej_14] at hf
          refine lv_iinc (v := (w_10_6 + 1)) (lv' := [(6, .int (w_10_6 + 1)), (0, .ref (ad o)), (1, .ref (ad a1)), (3, .int a3), (4, .int z_2), (5, .int l_14_5)]) hx hb dX4_cycled_61 hl (k := 5) rfl rfl (by decide) rfl (fun ls hl => ?_)
          refine lv_goto (tgt := 20) hx hb dX4_cycled_64 (by decide) ?_
          exact ih_20 _ _ _ _ _ hf hE (lv_sub hl [1, 2, 3, 4, 5, 0] rfl)
        refine lv_icmp_ne (tgt := 61) hx hb dX4_cycled_40 (by decide) (fun h_15 => ?_) (fun h_15 => ?_)
        · have hf := it_n h_15 hf
          exact q_14 _ _ _ _ hf hE (lv_sub hl [0, 1, 2, 3, 4, 5] rfl)
        · have hf := it_y h_15 hf
          refine lv_iload hx hb dX4_cycled_43 (lv_at hl 4 rfl) ?_
          refine lv_aload_n hx hb dX4_cycled_45 rfl (lv_at hl 0 rfl) ?_
          refine lv_aload_n hx hb dX4_cycled_46 rfl (lv_at hl 1 rfl) ?_
          obtain ⟨x_16, g_16, hf⟩ := b_some hf
          refine xx_gIN hZ hE k_X2 2 (by decide) rfl tw_262 g_16 dX4_cycled_47 ?_
          refine lv_iload hx hb dX4_cycled_50 (lv_at hl 5 rfl) ?_
          refine lv_iload_n hx hb dX4_cycled_52 rfl (lv_at hl 2 rfl) ?_
          refine lv_iconst (v := 1) hx hb dX4_cycled_53 (by decide) ?_
          refine lv_iadd hx hb dX4_cycled_54 ?_
          obtain ⟨_, i_17, hf⟩ := b_some hf
          obtain ⟨z_17, c_17, hf⟩ := b_some hf
          refine xx_cVi hZ hE (As := [.int x_16, .int w_10_6, .int (a3 + (1 : Int32))]) (rest := [.int w_10_5]) k_X4 (is_m i_17) tw_260 tw_261 (hrc o x_16 w_10_6 (a3 + (1 : Int32)) M _ c_17) cw_X4_onward tw_259 ⟨rfl, rfl⟩ ⟨by show 40 + 3 * (d) + 1 ≤ 41 + 3 * (d); omega, by show 8 + (5 + 11) + (2000 + 100 * (d)) ≤ 2050 + 100 * (d); omega⟩ rfl hl.1 rfl (Nat.le_of_ble_eq_true rfl) ⟨Nat.le_of_ble_eq_true rfl, Nat.le_of_ble_eq_true rfl⟩ dX4_cycled_55 (fun H locs hE => ?_)
          refine lv_ior hx hb dX4_cycled_58 ?_
          refine lv_istore (lv' := [(5, .int (w_10_5 ||| z_17)), (0, .ref (ad o)), (1, .ref (ad a1)), (3, .int a3), (4, .int z_2), (6, .int w_10_6)]) hx hb dX4_cycled_59 hl (by decide) rfl (fun ls hl => ?_)
          exact q_14 _ _ _ _ hf hE (lv_sub hl [1, 2, 3, 4, 0, 5] rfl)
  exact L_10 _ _ _ _ _ _ hf hE (lv_sub hl [3, 4, 6, 2, 1, 0] rfl)
def f_X4_onward : Nat → Nat → Int32 → Int32 → Int32 → Mm → Option (Int32)
  | 0, _, _, _, _, _ => none
  | d + 1, o, a1, a2, a3, M =>
    if a3 ≤ (2 : Int32) then
    (op_gR M 4 o 1).bind fun x_2 =>
    (op_aR M x_2 a1).bind fun x_3 =>
    (op_gI M 2 x_3 0).bind fun x_4 =>
    if x_4 = 0 then
    (op_gR M 4 o 0).bind fun x_6 =>
    (op_gI M 2 x_3 1).bind fun x_7 =>
    (op_is M x_6 3).bind fun _ =>
    (f_X3_lineSum x_6 a2 x_7 M).bind fun z_8 =>
    if z_8 = 0 then
    some ((1 : Int32) <<< (a2 &&& 31))
    else
    (op_gI M 2 x_3 1).bind fun x_10 =>
    (op_is M o 4).bind fun _ =>
    (f_X4_weighty o a2 x_10 M).bind fun z_11 =>
    some z_11
    else
    if x_4 = 1 then
    (op_gR M 4 o 0).bind fun x_13 =>
    (op_gI M 2 x_3 1).bind fun x_14 =>
    (op_is M x_13 3).bind fun _ =>
    (f_X3_next x_13 a2 x_14 M).bind fun z_15 =>
    (op_is M o 4).bind fun _ =>
    (f_X4_proposed o a2 z_15 M).bind fun z_16 =>
    (op_gR M 4 o 0).bind fun x_17 =>
    (op_gI M 2 x_3 1).bind fun x_18 =>
    (op_is M x_17 3).bind fun _ =>
    (f_X3_before x_17 a2 x_18 M).bind fun z_19 =>
    (op_is M o 4).bind fun _ =>
    (f_X4_proposed o a2 z_19 M).bind fun z_20 =>
    some (z_16 ||| z_20)
    else
    if x_4 = 2 then
    (op_gR M 4 o 0).bind fun x_22 =>
    (op_gI M 2 x_3 1).bind fun x_23 =>
    (op_gI M 2 x_3 2).bind fun x_24 =>
    (op_is M x_22 3).bind fun _ =>
    (f_X3_exchanged x_22 a2 x_23 x_24 M).bind fun z_25 =>
    (op_is M o 4).bind fun _ =>
    (f_X4_proposed o a2 z_25 M).bind fun z_26 =>
    some z_26
    else
    if x_4 = 3 then
    (op_is M o 4).bind fun _ =>
    (f_X4_toldOnward o x_3 a2 M).bind fun z_28 =>
    some z_28
    else
    if x_4 = 4 then
    (op_gR M 4 o 0).bind fun x_30 =>
    (op_gR M 3 x_30 5).bind fun x_31 =>
    (op_aI M x_31 a2).bind fun x_32 =>
    if x_32 = 0 then
    some ((1 : Int32) <<< (a2 &&& 31))
    else
    (op_gI M 2 x_3 1).bind fun x_34 =>
    (op_is M o 4).bind fun _ =>
    (f_X4_weighty o a2 x_34 M).bind fun z_35 =>
    some z_35
    else
    if x_4 = 5 then
    (op_gI M 2 x_3 1).bind fun x_37 =>
    (op_is M o 4).bind fun _ =>
    (f_X4_onward d o x_37 a2 (a3 + (1 : Int32)) M).bind fun z_38 =>
    (op_gI M 2 x_3 2).bind fun x_39 =>
    (op_is M o 4).bind fun _ =>
    (f_X4_onward d o x_39 a2 (a3 + (1 : Int32)) M).bind fun z_40 =>
    some (z_38 ||| z_40)
    else
    (op_is M o 4).bind fun _ =>
    (f_X4_cycled (f_X4_onward d) o x_3 a2 a3 M).bind fun z_41 =>
    some z_41
    else
    some (0 : Int32)
theorem f_X4_onward_s {d : Nat} (o : Nat) (a1 : Int32) (a2 : Int32) (a3 : Int32) (M : Mm) {zr : Int32} (hf : f_X4_onward (d + 1) o a1 a2 a3 M = some zr) : (
    if a3 ≤ (2 : Int32) then
    (op_gR M 4 o 1).bind fun x_2 =>
    (op_aR M x_2 a1).bind fun x_3 =>
    (op_gI M 2 x_3 0).bind fun x_4 =>
    if x_4 = 0 then
    (op_gR M 4 o 0).bind fun x_6 =>
    (op_gI M 2 x_3 1).bind fun x_7 =>
    (op_is M x_6 3).bind fun _ =>
    (f_X3_lineSum x_6 a2 x_7 M).bind fun z_8 =>
    if z_8 = 0 then
    some ((1 : Int32) <<< (a2 &&& 31))
    else
    (op_gI M 2 x_3 1).bind fun x_10 =>
    (op_is M o 4).bind fun _ =>
    (f_X4_weighty o a2 x_10 M).bind fun z_11 =>
    some z_11
    else
    if x_4 = 1 then
    (op_gR M 4 o 0).bind fun x_13 =>
    (op_gI M 2 x_3 1).bind fun x_14 =>
    (op_is M x_13 3).bind fun _ =>
    (f_X3_next x_13 a2 x_14 M).bind fun z_15 =>
    (op_is M o 4).bind fun _ =>
    (f_X4_proposed o a2 z_15 M).bind fun z_16 =>
    (op_gR M 4 o 0).bind fun x_17 =>
    (op_gI M 2 x_3 1).bind fun x_18 =>
    (op_is M x_17 3).bind fun _ =>
    (f_X3_before x_17 a2 x_18 M).bind fun z_19 =>
    (op_is M o 4).bind fun _ =>
    (f_X4_proposed o a2 z_19 M).bind fun z_20 =>
    some (z_16 ||| z_20)
    else
    if x_4 = 2 then
    (op_gR M 4 o 0).bind fun x_22 =>
    (op_gI M 2 x_3 1).bind fun x_23 =>
    (op_gI M 2 x_3 2).bind fun x_24 =>
    (op_is M x_22 3).bind fun _ =>
    (f_X3_exchanged x_22 a2 x_23 x_24 M).bind fun z_25 =>
    (op_is M o 4).bind fun _ =>
    (f_X4_proposed o a2 z_25 M).bind fun z_26 =>
    some z_26
    else
    if x_4 = 3 then
    (op_is M o 4).bind fun _ =>
    (f_X4_toldOnward o x_3 a2 M).bind fun z_28 =>
    some z_28
    else
    if x_4 = 4 then
    (op_gR M 4 o 0).bind fun x_30 =>
    (op_gR M 3 x_30 5).bind fun x_31 =>
    (op_aI M x_31 a2).bind fun x_32 =>
    if x_32 = 0 then
    some ((1 : Int32) <<< (a2 &&& 31))
    else
    (op_gI M 2 x_3 1).bind fun x_34 =>
    (op_is M o 4).bind fun _ =>
    (f_X4_weighty o a2 x_34 M).bind fun z_35 =>
    some z_35
    else
    if x_4 = 5 then
    (op_gI M 2 x_3 1).bind fun x_37 =>
    (op_is M o 4).bind fun _ =>
    (f_X4_onward d o x_37 a2 (a3 + (1 : Int32)) M).bind fun z_38 =>
    (op_gI M 2 x_3 2).bind fun x_39 =>
    (op_is M o 4).bind fun _ =>
    (f_X4_onward d o x_39 a2 (a3 + (1 : Int32)) M).bind fun z_40 =>
    some (z_38 ||| z_40)
    else
    (op_is M o 4).bind fun _ =>
    (f_X4_cycled (f_X4_onward d) o x_3 a2 a3 M).bind fun z_41 =>
    some z_41
    else
    some (0 : Int32)) = some zr := hf
set_option maxHeartbeats 4000000 in
set_option maxRecDepth 100000 in
theorem c_X4_onward (l : Launch) (D : va_G) (cA : Nat → ClassId) (ad : Nat → Nat) (d : Nat) : ∀ (o : Nat) (a1 : Int32) (a2 : Int32) (a3 : Int32) (M : Mm) (zr : Int32) (hf : f_X4_onward d o a1 a2 a3 M = some zr), KI l yX4_onward cX4_onward 5 (some .int) (rm_X4_onward d) D cA ad [.ref (ad o), .int a1, .int a2, .int a3] M zr M := by
  induction d with
  | zero =>
    intro o a1 a2 a3 M zr hf
    cases (show (none : Option (Int32)) = some zr from hf)
  | succ d ih =>
    intro o a1 a2 a3 M zr hf
    refine KI_of (by decide) (Nat.le_of_ble_eq_true rfl) ?_
    intro p e s m args below meth c ls Q A H locs hZ hE hl hret
    have hx := hZ.1
    have hb := hZ.2.1
    have hown := hZ.2.2.2.1
    have hts := hZ.2.2.2.2.1
    have hl : lv_has ls 5 [(0, .ref (ad o)), (1, .int a1), (2, .int a2), (3, .int a3)] := hl
    have hf := f_X4_onward_s o a1 a2 a3 M hf
    refine lv_iload_n hx hb dX4_onward_0 rfl (lv_at hl 3 rfl) ?_
    refine lv_iconst (v := 2) hx hb dX4_onward_1 (by decide) ?_
    refine lv_icmp_le (tgt := 7) hx hb dX4_onward_2 (by decide) (fun h_1 => ?_) (fun h_1 => ?_)
    · have hf := it_y h_1 hf
      refine lv_aload_n hx hb dX4_onward_7 rfl (lv_at hl 0 rfl) ?_
      obtain ⟨x_2, g_2, hf⟩ := b_some hf
      refine xx_gR hZ hE k_X4 1 (by decide) rfl tw_263 g_2 dX4_onward_8 ?_
      refine lv_iload_n hx hb dX4_onward_11 rfl (lv_at hl 1 rfl) ?_
      obtain ⟨x_3, g_3, hf⟩ := b_some hf
      refine xx_aR hZ hE g_3 dX4_onward_12 ?_
      refine lv_astore (lv' := [(4, .ref (ad x_3)), (0, .ref (ad o)), (1, .int a1), (2, .int a2), (3, .int a3)]) hx hb dX4_onward_13 hl (by decide) rfl (fun ls hl => ?_)
      refine lv_aload hx hb dX4_onward_15 (lv_at hl 0 rfl) ?_
      obtain ⟨x_4, g_4, hf⟩ := b_some hf
      refine xx_gIN hZ hE k_X2 0 (by decide) rfl tw_264 g_4 dX4_onward_17 ?_
      by_cases h_5 : x_4 = 0
      · have hf := it_y h_5 hf
        refine xx_tsw (off := 40) (tgt := 60) hx hb dX4_onward_20 0 h_5 (by decide) (by decide) ?_
        refine lv_aload_n hx hb dX4_onward_60 rfl (lv_at hl 1 rfl) ?_
        obtain ⟨x_6, g_6, hf⟩ := b_some hf
        refine xx_gR hZ hE k_X4 0 (by decide) rfl tw_245 g_6 dX4_onward_61 ?_
        refine lv_iload_n hx hb dX4_onward_64 rfl (lv_at hl 3 rfl) ?_
        refine lv_aload hx hb dX4_onward_65 (lv_at hl 0 rfl) ?_
        obtain ⟨x_7, g_7, hf⟩ := b_some hf
        refine xx_gIN hZ hE k_X2 1 (by decide) rfl tw_258 g_7 dX4_onward_67 ?_
        obtain ⟨_, i_8, hf⟩ := b_some hf
        obtain ⟨z_8, c_8, hf⟩ := b_some hf
        refine xx_cVNi hZ hE (As := [.int a2, .int x_7]) (rest := []) k_X3 (is_m i_8) tw_113 tw_114 (c_X3_lineSum l D cA ad x_6 a2 x_7 M _ c_8) cw_X3_lineSum tw_265 ⟨rfl, rfl⟩ ⟨by show 2 + 1 ≤ 40 + 3 * (d + 1); omega, by show 8 + (5 + 11) + (45) ≤ 2000 + 100 * (d + 1); omega⟩ rfl hl.1 rfl (Nat.le_of_ble_eq_true rfl) ⟨Nat.le_of_ble_eq_true rfl, Nat.le_of_ble_eq_true rfl⟩ dX4_onward_70 (fun H locs hE => ?_)
        refine lv_if_ne (tgt := 82) hx hb dX4_onward_73 (by decide) (fun h_9 => ?_) (fun h_9 => ?_)
        · have hf := it_n h_9 hf
          refine lv_aload_n hx hb dX4_onward_82 rfl (lv_at hl 1 rfl) ?_
          refine lv_iload_n hx hb dX4_onward_83 rfl (lv_at hl 3 rfl) ?_
          refine lv_aload hx hb dX4_onward_84 (lv_at hl 0 rfl) ?_
          obtain ⟨x_10, g_10, hf⟩ := b_some hf
          refine xx_gIN hZ hE k_X2 1 (by decide) rfl tw_258 g_10 dX4_onward_86 ?_
          obtain ⟨_, i_11, hf⟩ := b_some hf
          obtain ⟨z_11, c_11, hf⟩ := b_some hf
          refine xx_cVi hZ hE (As := [.int a2, .int x_10]) (rest := []) k_X4 (is_m i_11) tw_267 tw_268 (c_X4_weighty l D cA ad o a2 x_10 M _ c_11) cw_X4_weighty tw_266 ⟨rfl, rfl⟩ ⟨by show 2 + 1 ≤ 40 + 3 * (d + 1); omega, by show 8 + (6 + 11) + (45) ≤ 2000 + 100 * (d + 1); omega⟩ rfl hl.1 rfl (Nat.le_of_ble_eq_true rfl) ⟨Nat.le_of_ble_eq_true rfl, Nat.le_of_ble_eq_true rfl⟩ dX4_onward_89 (fun H locs hE => ?_)
          exact hret _ _ _ _ _ _ (Option.some.inj hf) rfl rfl dX4_onward_92 hE
        · have hf := it_y h_9 hf
          refine lv_iconst (v := 1) hx hb dX4_onward_76 (by decide) ?_
          refine lv_iload_n hx hb dX4_onward_77 rfl (lv_at hl 3 rfl) ?_
          refine lv_ishl hx hb dX4_onward_78 ?_
          refine lv_goto (tgt := 92) hx hb dX4_onward_79 (by decide) ?_
          exact hret _ _ _ _ _ _ (Option.some.inj hf) rfl rfl dX4_onward_92 hE
      · have hf := it_n h_5 hf
        by_cases h_12 : x_4 = 1
        · have hf := it_y h_12 hf
          refine xx_tsw (off := 73) (tgt := 93) hx hb dX4_onward_20 1 h_12 (by decide) (by decide) ?_
          refine lv_aload_n hx hb dX4_onward_93 rfl (lv_at hl 1 rfl) ?_
          refine lv_iload_n hx hb dX4_onward_94 rfl (lv_at hl 3 rfl) ?_
          refine lv_aload_n hx hb dX4_onward_95 rfl (lv_at hl 1 rfl) ?_
          obtain ⟨x_13, g_13, hf⟩ := b_some hf
          refine xx_gR hZ hE k_X4 0 (by decide) rfl tw_245 g_13 dX4_onward_96 ?_
          refine lv_iload_n hx hb dX4_onward_99 rfl (lv_at hl 3 rfl) ?_
          refine lv_aload hx hb dX4_onward_100 (lv_at hl 0 rfl) ?_
          obtain ⟨x_14, g_14, hf⟩ := b_some hf
          refine xx_gIN hZ hE k_X2 1 (by decide) rfl tw_258 g_14 dX4_onward_102 ?_
          obtain ⟨_, i_15, hf⟩ := b_some hf
          obtain ⟨z_15, c_15, hf⟩ := b_some hf
          refine xx_cVNi hZ hE (As := [.int a2, .int x_14]) (rest := [.int a2, .ref (ad o)]) k_X3 (is_m i_15) tw_195 tw_196 (c_X3_next l D cA ad x_13 a2 x_14 M _ c_15) cw_X3_next tw_269 ⟨rfl, rfl⟩ ⟨by show 2 + 1 ≤ 40 + 3 * (d + 1); omega, by show 8 + (4 + 11) + (45) ≤ 2000 + 100 * (d + 1); omega⟩ rfl hl.1 rfl (Nat.le_of_ble_eq_true rfl) ⟨Nat.le_of_ble_eq_true rfl, Nat.le_of_ble_eq_true rfl⟩ dX4_onward_105 (fun H locs hE => ?_)
          obtain ⟨_, i_16, hf⟩ := b_some hf
          obtain ⟨z_16, c_16, hf⟩ := b_some hf
          refine xx_cVi hZ hE (As := [.int a2, .int z_15]) (rest := []) k_X4 (is_m i_16) tw_271 tw_272 (c_X4_proposed l D cA ad o a2 z_15 M _ c_16) cw_X4_proposed tw_270 ⟨rfl, rfl⟩ ⟨by show 2 + 1 ≤ 40 + 3 * (d + 1); omega, by show 8 + (5 + 11) + (43) ≤ 2000 + 100 * (d + 1); omega⟩ rfl hl.1 rfl (Nat.le_of_ble_eq_true rfl) ⟨Nat.le_of_ble_eq_true rfl, Nat.le_of_ble_eq_true rfl⟩ dX4_onward_108 (fun H locs hE => ?_)
          refine lv_aload_n hx hb dX4_onward_111 rfl (lv_at hl 1 rfl) ?_
          refine lv_iload_n hx hb dX4_onward_112 rfl (lv_at hl 3 rfl) ?_
          refine lv_aload_n hx hb dX4_onward_113 rfl (lv_at hl 1 rfl) ?_
          obtain ⟨x_17, g_17, hf⟩ := b_some hf
          refine xx_gR hZ hE k_X4 0 (by decide) rfl tw_245 g_17 dX4_onward_114 ?_
          refine lv_iload_n hx hb dX4_onward_117 rfl (lv_at hl 3 rfl) ?_
          refine lv_aload hx hb dX4_onward_118 (lv_at hl 0 rfl) ?_
          obtain ⟨x_18, g_18, hf⟩ := b_some hf
          refine xx_gIN hZ hE k_X2 1 (by decide) rfl tw_258 g_18 dX4_onward_120 ?_
          obtain ⟨_, i_19, hf⟩ := b_some hf
          obtain ⟨z_19, c_19, hf⟩ := b_some hf
          refine xx_cVNi hZ hE (As := [.int a2, .int x_18]) (rest := [.int a2, .ref (ad o), .int z_16]) k_X3 (is_m i_19) tw_198 tw_199 (c_X3_before l D cA ad x_17 a2 x_18 M _ c_19) cw_X3_before tw_273 ⟨rfl, rfl⟩ ⟨by show 2 + 1 ≤ 40 + 3 * (d + 1); omega, by show 8 + (4 + 11) + (45) ≤ 2000 + 100 * (d + 1); omega⟩ rfl hl.1 rfl (Nat.le_of_ble_eq_true rfl) ⟨Nat.le_of_ble_eq_true rfl, Nat.le_of_ble_eq_true rfl⟩ dX4_onward_123 (fun H locs hE => ?_)
          obtain ⟨_, i_20, hf⟩ := b_some hf
          obtain ⟨z_20, c_20, hf⟩ := b_some hf
          refine xx_cVi hZ hE (As := [.int a2, .int z_19]) (rest := [.int z_16]) k_X4 (is_m i_20) tw_271 tw_272 (c_X4_proposed l D cA ad o a2 z_19 M _ c_20) cw_X4_proposed tw_270 ⟨rfl, rfl⟩ ⟨by show 2 + 1 ≤ 40 + 3 * (d + 1); omega, by show 8 + (5 + 11) + (43) ≤ 2000 + 100 * (d + 1); omega⟩ rfl hl.1 rfl (Nat.le_of_ble_eq_true rfl) ⟨Nat.le_of_ble_eq_true rfl, Nat.le_of_ble_eq_true rfl⟩ dX4_onward_126 (fun H locs hE => ?_)
          refine lv_ior hx hb dX4_onward_129 ?_
          exact hret _ _ _ _ _ _ (Option.some.inj hf) rfl rfl dX4_onward_130 hE
        · have hf := it_n h_12 hf
          by_cases h_21 : x_4 = 2
          · have hf := it_y h_21 hf
            refine xx_tsw (off := 111) (tgt := 131) hx hb dX4_onward_20 2 h_21 (by decide) (by decide) ?_
            refine lv_aload_n hx hb dX4_onward_131 rfl (lv_at hl 1 rfl) ?_
            refine lv_iload_n hx hb dX4_onward_132 rfl (lv_at hl 3 rfl) ?_
            refine lv_aload_n hx hb dX4_onward_133 rfl (lv_at hl 1 rfl) ?_
            obtain ⟨x_22, g_22, hf⟩ := b_some hf
            refine xx_gR hZ hE k_X4 0 (by decide) rfl tw_245 g_22 dX4_onward_134 ?_
            refine lv_iload_n hx hb dX4_onward_137 rfl (lv_at hl 3 rfl) ?_
            refine lv_aload hx hb dX4_onward_138 (lv_at hl 0 rfl) ?_
            obtain ⟨x_23, g_23, hf⟩ := b_some hf
            refine xx_gIN hZ hE k_X2 1 (by decide) rfl tw_258 g_23 dX4_onward_140 ?_
            refine lv_aload hx hb dX4_onward_143 (lv_at hl 0 rfl) ?_
            obtain ⟨x_24, g_24, hf⟩ := b_some hf
            refine xx_gIN hZ hE k_X2 2 (by decide) rfl tw_262 g_24 dX4_onward_145 ?_
            obtain ⟨_, i_25, hf⟩ := b_some hf
            obtain ⟨z_25, c_25, hf⟩ := b_some hf
            refine xx_cVNi hZ hE (As := [.int a2, .int x_23, .int x_24]) (rest := [.int a2, .ref (ad o)]) k_X3 (is_m i_25) tw_204 tw_205 (c_X3_exchanged l D cA ad x_22 a2 x_23 x_24 M _ c_25) cw_X3_exchanged tw_274 ⟨rfl, rfl⟩ ⟨by show 1 + 1 ≤ 40 + 3 * (d + 1); omega, by show 8 + (5 + 11) + (22) ≤ 2000 + 100 * (d + 1); omega⟩ rfl hl.1 rfl (Nat.le_of_ble_eq_true rfl) ⟨Nat.le_of_ble_eq_true rfl, Nat.le_of_ble_eq_true rfl⟩ dX4_onward_148 (fun H locs hE => ?_)
            obtain ⟨_, i_26, hf⟩ := b_some hf
            obtain ⟨z_26, c_26, hf⟩ := b_some hf
            refine xx_cVi hZ hE (As := [.int a2, .int z_25]) (rest := []) k_X4 (is_m i_26) tw_271 tw_272 (c_X4_proposed l D cA ad o a2 z_25 M _ c_26) cw_X4_proposed tw_270 ⟨rfl, rfl⟩ ⟨by show 2 + 1 ≤ 40 + 3 * (d + 1); omega, by show 8 + (5 + 11) + (43) ≤ 2000 + 100 * (d + 1); omega⟩ rfl hl.1 rfl (Nat.le_of_ble_eq_true rfl) ⟨Nat.le_of_ble_eq_true rfl, Nat.le_of_ble_eq_true rfl⟩ dX4_onward_151 (fun H locs hE => ?_)
            exact hret _ _ _ _ _ _ (Option.some.inj hf) rfl rfl dX4_onward_154 hE
          · have hf := it_n h_21 hf
            by_cases h_27 : x_4 = 3
            · have hf := it_y h_27 hf
              refine xx_tsw (off := 135) (tgt := 155) hx hb dX4_onward_20 3 h_27 (by decide) (by decide) ?_
              refine lv_aload_n hx hb dX4_onward_155 rfl (lv_at hl 1 rfl) ?_
              refine lv_aload hx hb dX4_onward_156 (lv_at hl 0 rfl) ?_
              refine lv_iload_n hx hb dX4_onward_158 rfl (lv_at hl 3 rfl) ?_
              obtain ⟨_, i_28, hf⟩ := b_some hf
              obtain ⟨z_28, c_28, hf⟩ := b_some hf
              refine xx_cVi hZ hE (As := [.ref (ad x_3), .int a2]) (rest := []) k_X4 (is_m i_28) tw_276 tw_277 (c_X4_toldOnward l D cA ad o x_3 a2 M _ c_28) cw_X4_toldOnward tw_275 ⟨rfl, rfl⟩ ⟨by show 3 + 1 ≤ 40 + 3 * (d + 1); omega, by show 8 + (5 + 11) + (72) ≤ 2000 + 100 * (d + 1); omega⟩ rfl hl.1 rfl (Nat.le_of_ble_eq_true rfl) ⟨Nat.le_of_ble_eq_true rfl, Nat.le_of_ble_eq_true rfl⟩ dX4_onward_159 (fun H locs hE => ?_)
              exact hret _ _ _ _ _ _ (Option.some.inj hf) rfl rfl dX4_onward_162 hE
            · have hf := it_n h_27 hf
              by_cases h_29 : x_4 = 4
              · have hf := it_y h_29 hf
                refine xx_tsw (off := 143) (tgt := 163) hx hb dX4_onward_20 4 h_29 (by decide) (by decide) ?_
                refine lv_aload_n hx hb dX4_onward_163 rfl (lv_at hl 1 rfl) ?_
                obtain ⟨x_30, g_30, hf⟩ := b_some hf
                refine xx_gR hZ hE k_X4 0 (by decide) rfl tw_245 g_30 dX4_onward_164 ?_
                obtain ⟨x_31, g_31, hf⟩ := b_some hf
                refine xx_gRN hZ hE k_X3 5 (by decide) rfl tw_248 g_31 dX4_onward_167 ?_
                refine lv_iload_n hx hb dX4_onward_170 rfl (lv_at hl 3 rfl) ?_
                obtain ⟨x_32, g_32, hf⟩ := b_some hf
                refine xx_aI hZ hE g_32 dX4_onward_171 ?_
                refine lv_if_ne (tgt := 181) hx hb dX4_onward_172 (by decide) (fun h_33 => ?_) (fun h_33 => ?_)
                · have hf := it_n h_33 hf
                  refine lv_aload_n hx hb dX4_onward_181 rfl (lv_at hl 1 rfl) ?_
                  refine lv_iload_n hx hb dX4_onward_182 rfl (lv_at hl 3 rfl) ?_
                  refine lv_aload hx hb dX4_onward_183 (lv_at hl 0 rfl) ?_
                  obtain ⟨x_34, g_34, hf⟩ := b_some hf
                  refine xx_gIN hZ hE k_X2 1 (by decide) rfl tw_258 g_34 dX4_onward_185 ?_
                  obtain ⟨_, i_35, hf⟩ := b_some hf
                  obtain ⟨z_35, c_35, hf⟩ := b_some hf
                  refine xx_cVi hZ hE (As := [.int a2, .int x_34]) (rest := []) k_X4 (is_m i_35) tw_267 tw_268 (c_X4_weighty l D cA ad o a2 x_34 M _ c_35) cw_X4_weighty tw_266 ⟨rfl, rfl⟩ ⟨by show 2 + 1 ≤ 40 + 3 * (d + 1); omega, by show 8 + (6 + 11) + (45) ≤ 2000 + 100 * (d + 1); omega⟩ rfl hl.1 rfl (Nat.le_of_ble_eq_true rfl) ⟨Nat.le_of_ble_eq_true rfl, Nat.le_of_ble_eq_true rfl⟩ dX4_onward_188 (fun H locs hE => ?_)
                  exact hret _ _ _ _ _ _ (Option.some.inj hf) rfl rfl dX4_onward_191 hE
                · have hf := it_y h_33 hf
                  refine lv_iconst (v := 1) hx hb dX4_onward_175 (by decide) ?_
                  refine lv_iload_n hx hb dX4_onward_176 rfl (lv_at hl 3 rfl) ?_
                  refine lv_ishl hx hb dX4_onward_177 ?_
                  refine lv_goto (tgt := 191) hx hb dX4_onward_178 (by decide) ?_
                  exact hret _ _ _ _ _ _ (Option.some.inj hf) rfl rfl dX4_onward_191 hE
              · have hf := it_n h_29 hf
                by_cases h_36 : x_4 = 5
                · have hf := it_y h_36 hf
                  refine xx_tsw (off := 172) (tgt := 192) hx hb dX4_onward_20 5 h_36 (by decide) (by decide) ?_
                  refine lv_aload_n hx hb dX4_onward_192 rfl (lv_at hl 1 rfl) ?_
                  refine lv_aload hx hb dX4_onward_193 (lv_at hl 0 rfl) ?_
                  obtain ⟨x_37, g_37, hf⟩ := b_some hf
                  refine xx_gIN hZ hE k_X2 1 (by decide) rfl tw_258 g_37 dX4_onward_195 ?_
                  refine lv_iload_n hx hb dX4_onward_198 rfl (lv_at hl 3 rfl) ?_
                  refine lv_iload_n hx hb dX4_onward_199 rfl (lv_at hl 4 rfl) ?_
                  refine lv_iconst (v := 1) hx hb dX4_onward_200 (by decide) ?_
                  refine lv_iadd hx hb dX4_onward_201 ?_
                  obtain ⟨_, i_38, hf⟩ := b_some hf
                  obtain ⟨z_38, c_38, hf⟩ := b_some hf
                  refine xx_cVi hZ hE (As := [.int x_37, .int a2, .int (a3 + (1 : Int32))]) (rest := []) k_X4 (is_m i_38) tw_260 tw_261 (ih o x_37 a2 (a3 + (1 : Int32)) M _ c_38) cw_X4_onward tw_259 ⟨rfl, rfl⟩ ⟨by show 40 + 3 * (d) + 1 ≤ 40 + 3 * (d + 1); omega, by show 8 + (5 + 11) + (2000 + 100 * (d)) ≤ 2000 + 100 * (d + 1); omega⟩ rfl hl.1 rfl (Nat.le_of_ble_eq_true rfl) ⟨Nat.le_of_ble_eq_true rfl, Nat.le_of_ble_eq_true rfl⟩ dX4_onward_202 (fun H locs hE => ?_)
                  refine lv_aload_n hx hb dX4_onward_205 rfl (lv_at hl 1 rfl) ?_
                  refine lv_aload hx hb dX4_onward_206 (lv_at hl 0 rfl) ?_
                  obtain ⟨x_39, g_39, hf⟩ := b_some hf
                  refine xx_gIN hZ hE k_X2 2 (by decide) rfl tw_262 g_39 dX4_onward_208 ?_
                  refine lv_iload_n hx hb dX4_onward_211 rfl (lv_at hl 3 rfl) ?_
                  refine lv_iload_n hx hb dX4_onward_212 rfl (lv_at hl 4 rfl) ?_
                  refine lv_iconst (v := 1) hx hb dX4_onward_213 (by decide) ?_
                  refine lv_iadd hx hb dX4_onward_214 ?_
                  obtain ⟨_, i_40, hf⟩ := b_some hf
                  obtain ⟨z_40, c_40, hf⟩ := b_some hf
                  refine xx_cVi hZ hE (As := [.int x_39, .int a2, .int (a3 + (1 : Int32))]) (rest := [.int z_38]) k_X4 (is_m i_40) tw_260 tw_261 (ih o x_39 a2 (a3 + (1 : Int32)) M _ c_40) cw_X4_onward tw_259 ⟨rfl, rfl⟩ ⟨by show 40 + 3 * (d) + 1 ≤ 40 + 3 * (d + 1); omega, by show 8 + (5 + 11) + (2000 + 100 * (d)) ≤ 2000 + 100 * (d + 1); omega⟩ rfl hl.1 rfl (Nat.le_of_ble_eq_true rfl) ⟨Nat.le_of_ble_eq_true rfl, Nat.le_of_ble_eq_true rfl⟩ dX4_onward_215 (fun H locs hE => ?_)
                  refine lv_ior hx hb dX4_onward_218 ?_
                  exact hret _ _ _ _ _ _ (Option.some.inj hf) rfl rfl dX4_onward_219 hE
                · have hf := it_n h_36 hf
                  have sw := (⟨i32m h_5 (n := 0) (by decide), i32m h_12 (n := 1) (by decide), i32m h_21 (n := 2) (by decide), i32m h_27 (n := 3) (by decide), i32m h_29 (n := 4) (by decide), i32m h_36 (n := 5) (by decide), trivial⟩ : x_4.toInt ≠ 0 ∧ x_4.toInt ≠ 1 ∧ x_4.toInt ≠ 2 ∧ x_4.toInt ≠ 3 ∧ x_4.toInt ≠ 4 ∧ x_4.toInt ≠ 5 ∧ True)
                  refine lv_tableOut (tgt := 220) hx hb dX4_onward_20 (by omega) (by decide) ?_
                  refine lv_aload_n hx hb dX4_onward_220 rfl (lv_at hl 1 rfl) ?_
                  refine lv_aload hx hb dX4_onward_221 (lv_at hl 0 rfl) ?_
                  refine lv_iload_n hx hb dX4_onward_223 rfl (lv_at hl 3 rfl) ?_
                  refine lv_iload_n hx hb dX4_onward_224 rfl (lv_at hl 4 rfl) ?_
                  obtain ⟨_, i_41, hf⟩ := b_some hf
                  obtain ⟨z_41, c_41, hf⟩ := b_some hf
                  refine xx_cVi hZ hE (As := [.ref (ad x_3), .int a2, .int a3]) (rest := []) k_X4 (is_m i_41) tw_279 tw_280 (c_X4_cycled l D cA ad d _ ih o x_3 a2 a3 M _ c_41) cw_X4_cycled tw_278 ⟨rfl, rfl⟩ ⟨by show 41 + 3 * (d) + 1 ≤ 40 + 3 * (d + 1); omega, by show 8 + (7 + 11) + (2050 + 100 * (d)) ≤ 2000 + 100 * (d + 1); omega⟩ rfl hl.1 rfl (Nat.le_of_ble_eq_true rfl) ⟨Nat.le_of_ble_eq_true rfl, Nat.le_of_ble_eq_true rfl⟩ dX4_onward_225 (fun H locs hE => ?_)
                  exact hret _ _ _ _ _ _ (Option.some.inj hf) rfl rfl dX4_onward_228 hE
    · have hf := it_n h_1 hf
      refine lv_iconst (v := 0) hx hb dX4_onward_5 (by decide) ?_
      exact hret _ _ _ _ _ _ (Option.some.inj hf) rfl rfl dX4_onward_6 hE
def lp_X4_allFrom_10 (i_0 : Nat) (i_1 : Int32) (M : Mm) : Nat → Int32 → Int32 → Int32 → Option (Int32)
  | 0, _, _, _ => none
  | n_10 + 1, v_3, v_4, v_5 =>
    if (16 : Int32) ≤ v_5 then
    some v_3
    else
    if v_4 = v_3 then
    some v_3
    else
    (f_J6_numberOfTrailingZeros_0f7a4 (v_3 &&& (v_4 ^^^ (-1 : Int32)))).bind fun z_3 =>
    (op_is M i_0 4).bind fun _ =>
    (f_X4_onward 4 i_0 i_1 z_3 (0 : Int32) M).bind fun z_4 =>
    lp_X4_allFrom_10 i_0 i_1 M n_10 (v_3 ||| z_4) (v_4 ||| ((1 : Int32) <<< (z_3 &&& 31))) (v_5 + 1)
theorem lp_X4_allFrom_10_s (i_0 : Nat) (i_1 : Int32) (M : Mm) {n_10 : Nat} {v_3 : Int32} {v_4 : Int32} {v_5 : Int32} {zr : Int32} (hf : lp_X4_allFrom_10 i_0 i_1 M (n_10 + 1) v_3 v_4 v_5 = some zr) : (
    if (16 : Int32) ≤ v_5 then
    some v_3
    else
    if v_4 = v_3 then
    some v_3
    else
    (f_J6_numberOfTrailingZeros_0f7a4 (v_3 &&& (v_4 ^^^ (-1 : Int32)))).bind fun z_3 =>
    (op_is M i_0 4).bind fun _ =>
    (f_X4_onward 4 i_0 i_1 z_3 (0 : Int32) M).bind fun z_4 =>
    lp_X4_allFrom_10 i_0 i_1 M n_10 (v_3 ||| z_4) (v_4 ||| ((1 : Int32) <<< (z_3 &&& 31))) (v_5 + 1)) = some zr := hf
def rm_X4_allFrom : Room := { frames := 56, cells := 0, slots := 0, locals := 2524 }
def f_X4_allFrom (o : Nat) (a1 : Int32) (a2 : Int32) (M : Mm) : Option (Int32) :=
    lp_X4_allFrom_10  o a1 M FU ((1 : Int32) <<< (a2 &&& 31)) (0 : Int32) (0 : Int32)
set_option maxHeartbeats 4000000 in
set_option maxRecDepth 100000 in
theorem c_X4_allFrom (l : Launch) (D : va_G) (cA : Nat → ClassId) (ad : Nat → Nat) (o : Nat) (a1 : Int32) (a2 : Int32) (M : Mm) (zr : Int32) (hf : f_X4_allFrom o a1 a2 M = some zr) : KI l yX4_allFrom cX4_allFrom 7 (some .int) rm_X4_allFrom D cA ad [.ref (ad o), .int a1, .int a2] M zr M := by
  refine KI_of (by decide) (Nat.le_of_ble_eq_true rfl) ?_
  intro p e s m args below meth c ls Q A H locs hZ hE hl hret
  have hx := hZ.1
  have hb := hZ.2.1
  have hown := hZ.2.2.2.1
  have hts := hZ.2.2.2.2.1
  have hl : lv_has ls 7 [(0, .ref (ad o)), (1, .int a1), (2, .int a2)] := hl
  unfold f_X4_allFrom at hf
  refine lv_iconst (v := 1) hx hb dX4_allFrom_0 (by decide) ?_
  refine lv_iload_n hx hb dX4_allFrom_1 rfl (lv_at hl 2 rfl) ?_
  refine lv_ishl hx hb dX4_allFrom_2 ?_
  refine lv_istore_n (lv' := [(3, .int ((1 : Int32) <<< (a2 &&& 31))), (0, .ref (ad o)), (1, .int a1), (2, .int a2)]) hx hb dX4_allFrom_3 rfl hl (by decide) rfl (fun ls hl => ?_)
  refine lv_iconst (v := 0) hx hb dX4_allFrom_4 (by decide) ?_
  refine lv_istore (lv' := [(4, .int (0 : Int32)), (3, .int ((1 : Int32) <<< (a2 &&& 31))), (0, .ref (ad o)), (1, .int a1), (2, .int a2)]) hx hb dX4_allFrom_5 hl (by decide) rfl (fun ls hl => ?_)
  refine lv_iconst (v := 0) hx hb dX4_allFrom_7 (by decide) ?_
  refine lv_istore (lv' := [(5, .int (0 : Int32)), (4, .int (0 : Int32)), (3, .int ((1 : Int32) <<< (a2 &&& 31))), (0, .ref (ad o)), (1, .int a1), (2, .int a2)]) hx hb dX4_allFrom_8 hl (by decide) rfl (fun ls hl => ?_)
  have L_5 : ∀ (n_10 : Nat) (w_5_3 : Int32) (w_5_4 : Int32) (w_5_5 : Int32) (H : Heap) (locs : List Loc) (ls : Array Slot), lp_X4_allFrom_10 o a1 M n_10 w_5_3 w_5_4 w_5_5 = some zr → En D cA ad s A M H locs → lv_has ls 7 [(0, .ref (ad o)), (1, .int a1), (3, .int w_5_3), (4, .int w_5_4), (5, .int w_5_5)] → W p l e rm_X4_allFrom s m args below meth c H locs 0 0 Q (F0 m 10 ls []) := by
    intro n_10
    induction n_10 with
    | zero =>
      intro w_5_3 w_5_4 w_5_5 H locs ls hf
      cases (show (none : Option (Int32)) = some zr from hf)
    | succ n_10 ih_10 =>
      intro w_5_3 w_5_4 w_5_5 H locs ls hf hE hl
      have hf := lp_X4_allFrom_10_s _ _ _ hf
      refine lv_iload hx hb dX4_allFrom_10 (lv_at hl 4 rfl) ?_
      refine lv_bipush (v := 16) hx hb dX4_allFrom_12 (by decide) ?_
      refine lv_icmp_ge (tgt := 60) hx hb dX4_allFrom_14 (by decide) (fun h_6 => ?_) (fun h_6 => ?_)
      · have hf := it_y h_6 hf
        refine lv_iload_n hx hb dX4_allFrom_60 rfl (lv_at hl 2 rfl) ?_
        exact hret _ _ _ _ _ _ (Option.some.inj hf) rfl rfl dX4_allFrom_61 hE
      · have hf := it_n h_6 hf
        refine lv_iload hx hb dX4_allFrom_17 (lv_at hl 3 rfl) ?_
        refine lv_iload_n hx hb dX4_allFrom_19 rfl (lv_at hl 2 rfl) ?_
        refine lv_icmp_eq (tgt := 60) hx hb dX4_allFrom_20 (by decide) (fun h_7 => ?_) (fun h_7 => ?_)
        · have hf := it_y h_7 hf
          refine lv_iload_n hx hb dX4_allFrom_60 rfl (lv_at hl 2 rfl) ?_
          exact hret _ _ _ _ _ _ (Option.some.inj hf) rfl rfl dX4_allFrom_61 hE
        · have hf := it_n h_7 hf
          refine lv_iload_n hx hb dX4_allFrom_23 rfl (lv_at hl 2 rfl) ?_
          refine lv_iload hx hb dX4_allFrom_24 (lv_at hl 3 rfl) ?_
          refine lv_iconst (v := -1) hx hb dX4_allFrom_26 (by decide) ?_
          refine lv_ixor hx hb dX4_allFrom_27 ?_
          refine lv_iand hx hb dX4_allFrom_28 ?_
          obtain ⟨z_8, c_8, hf⟩ := b_some hf
          refine xx_cSi hZ hE (As := [.int (w_5_3 &&& (w_5_4 ^^^ (-1 : Int32)))]) (rest := []) tw_283 (c_J6_numberOfTrailingZeros_0f7a4 l D cA ad (w_5_3 &&& (w_5_4 ^^^ (-1 : Int32))) M _ c_8) cw_J6_numberOfTrailingZeros_0f7a4 tw_281 ⟨rfl, rfl⟩ ⟨Nat.le_of_ble_eq_true rfl, Nat.le_of_ble_eq_true rfl⟩ rfl hl.1 rfl (Nat.le_of_ble_eq_true rfl) ⟨Nat.le_of_ble_eq_true rfl, Nat.le_of_ble_eq_true rfl⟩ dX4_allFrom_29 (fun H locs hE => ?_)
          refine lv_istore (lv' := [(6, .int z_8), (0, .ref (ad o)), (1, .int a1), (3, .int w_5_3), (4, .int w_5_4), (5, .int w_5_5)]) hx hb dX4_allFrom_32 hl (by decide) rfl (fun ls hl => ?_)
          refine lv_iload_n hx hb dX4_allFrom_34 rfl (lv_at hl 3 rfl) ?_
          refine lv_aload_n hx hb dX4_allFrom_35 rfl (lv_at hl 1 rfl) ?_
          refine lv_iload_n hx hb dX4_allFrom_36 rfl (lv_at hl 2 rfl) ?_
          refine lv_iload hx hb dX4_allFrom_37 (lv_at hl 0 rfl) ?_
          refine lv_iconst (v := 0) hx hb dX4_allFrom_39 (by decide) ?_
          obtain ⟨_, i_9, hf⟩ := b_some hf
          obtain ⟨z_9, c_9, hf⟩ := b_some hf
          refine xx_cVi hZ hE (As := [.int a1, .int z_8, .int (0 : Int32)]) (rest := [.int w_5_3]) k_X4 (is_m i_9) tw_260 tw_261 (c_X4_onward l D cA ad 4 o a1 z_8 (0 : Int32) M _ c_9) cw_X4_onward tw_259 ⟨rfl, rfl⟩ ⟨Nat.le_of_ble_eq_true rfl, Nat.le_of_ble_eq_true rfl⟩ rfl hl.1 rfl (Nat.le_of_ble_eq_true rfl) ⟨Nat.le_of_ble_eq_true rfl, Nat.le_of_ble_eq_true rfl⟩ dX4_allFrom_40 (fun H locs hE => ?_)
          refine lv_ior hx hb dX4_allFrom_43 ?_
          refine lv_istore_n (lv' := [(3, .int (w_5_3 ||| z_9)), (6, .int z_8), (0, .ref (ad o)), (1, .int a1), (4, .int w_5_4), (5, .int w_5_5)]) hx hb dX4_allFrom_44 rfl hl (by decide) rfl (fun ls hl => ?_)
          refine lv_iload hx hb dX4_allFrom_45 (lv_at hl 4 rfl) ?_
          refine lv_iconst (v := 1) hx hb dX4_allFrom_47 (by decide) ?_
          refine lv_iload hx hb dX4_allFrom_48 (lv_at hl 1 rfl) ?_
          refine lv_ishl hx hb dX4_allFrom_50 ?_
          refine lv_ior hx hb dX4_allFrom_51 ?_
          refine lv_istore (lv' := [(4, .int (w_5_4 ||| ((1 : Int32) <<< (z_8 &&& 31)))), (3, .int (w_5_3 ||| z_9)), (6, .int z_8), (0, .ref (ad o)), (1, .int a1), (5, .int w_5_5)]) hx hb dX4_allFrom_52 hl (by decide) rfl (fun ls hl => ?_)
          refine lv_iinc (v := (w_5_5 + 1)) (lv' := [(5, .int (w_5_5 + 1)), (4, .int (w_5_4 ||| ((1 : Int32) <<< (z_8 &&& 31)))), (3, .int (w_5_3 ||| z_9)), (6, .int z_8), (0, .ref (ad o)), (1, .int a1)]) hx hb dX4_allFrom_54 hl (k := 5) rfl rfl (by decide) rfl (fun ls hl => ?_)
          refine lv_goto (tgt := 10) hx hb dX4_allFrom_57 (by decide) ?_
          exact ih_10 _ _ _ _ _ _ hf hE (lv_sub hl [4, 5, 2, 1, 0] rfl)
  exact L_5 _ _ _ _ _ _ _ hf hE (lv_sub hl [3, 4, 2, 1, 0] rfl)
