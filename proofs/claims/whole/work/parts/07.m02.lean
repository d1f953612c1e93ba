def lp_X0_nextWeight_7 (i_0 : Nat) (i_1 : Int32) (i_2 : Int32) (i_3 : Int32) (M : Mm) : Nat → Int32 → Int32 → Option (Int32)
  | 0, _, _ => none
  | n_7 + 1, v_5, v_6 =>
    (op_gR M 0 i_0 0).bind fun x_1 =>
    (op_gR M 3 x_1 2).bind fun x_2 =>
    (op_aI M x_2 i_1).bind fun x_3 =>
    if x_3 ≤ v_6 then
    some v_5
    else
    (op_gR M 0 i_0 0).bind fun x_5 =>
    (op_gR M 3 x_5 5).bind fun x_6 =>
    (op_gR M 0 i_0 0).bind fun x_7 =>
    (op_is M x_7 3).bind fun _ =>
    (f_X3_inLine x_7 i_2 i_1 v_6 M).bind fun z_8 =>
    (op_aI M x_6 z_8).bind fun x_9 =>
    op_jn (fun (l_10_5 : Int32) =>
    lp_X0_nextWeight_7 i_0 i_1 i_2 i_3 M n_7 l_10_5 (v_6 + 1))
    fun j_10 =>
    if x_9 ≤ i_3 then
    j_10 v_5
    else
    if v_5 ≤ x_9 then
    j_10 v_5
    else
    j_10 x_9
theorem lp_X0_nextWeight_7_s (i_0 : Nat) (i_1 : Int32) (i_2 : Int32) (i_3 : Int32) (M : Mm) {n_7 : Nat} {v_5 : Int32} {v_6 : Int32} {zr : Int32} (hf : lp_X0_nextWeight_7 i_0 i_1 i_2 i_3 M (n_7 + 1) v_5 v_6 = some zr) : (
    (op_gR M 0 i_0 0).bind fun x_1 =>
    (op_gR M 3 x_1 2).bind fun x_2 =>
    (op_aI M x_2 i_1).bind fun x_3 =>
    if x_3 ≤ v_6 then
    some v_5
    else
    (op_gR M 0 i_0 0).bind fun x_5 =>
    (op_gR M 3 x_5 5).bind fun x_6 =>
    (op_gR M 0 i_0 0).bind fun x_7 =>
    (op_is M x_7 3).bind fun _ =>
    (f_X3_inLine x_7 i_2 i_1 v_6 M).bind fun z_8 =>
    (op_aI M x_6 z_8).bind fun x_9 =>
    op_jn (fun (l_10_5 : Int32) =>
    lp_X0_nextWeight_7 i_0 i_1 i_2 i_3 M n_7 l_10_5 (v_6 + 1))
    fun j_10 =>
    if x_9 ≤ i_3 then
    j_10 v_5
    else
    if v_5 ≤ x_9 then
    j_10 v_5
    else
    j_10 x_9) = some zr := hf
def rm_X0_nextWeight : Room := { frames := 2, cells := 0, slots := 0, locals := 45 }
def f_X0_nextWeight (o : Nat) (a1 : Int32) (a2 : Int32) (a3 : Int32) (a4 : Int32) (M : Mm) : Option (Int32) :=
    lp_X0_nextWeight_7  o a1 a2 a3 M FU a4 (0 : Int32)
set_option maxHeartbeats 4000000 in
set_option maxRecDepth 100000 in
theorem c_X0_nextWeight (l : Launch) (D : va_G) (cA : Nat → ClassId) (ad : Nat → Nat) (o : Nat) (a1 : Int32) (a2 : Int32) (a3 : Int32) (a4 : Int32) (M : Mm) (zr : Int32) (hf : f_X0_nextWeight o a1 a2 a3 a4 M = some zr) : KI l yX0_nextWeight cX0_nextWeight 8 (some .int) rm_X0_nextWeight D cA ad [.ref (ad o), .int a1, .int a2, .int a3, .int a4] M zr M := by
  refine KI_of (by decide) (Nat.le_of_ble_eq_true rfl) ?_
  intro p e s m args below meth c ls Q A H locs hZ hE hl hret
  have hx := hZ.1
  have hb := hZ.2.1
  have hown := hZ.2.2.2.1
  have hts := hZ.2.2.2.2.1
  have hl : lv_has ls 8 [(0, .ref (ad o)), (1, .int a1), (2, .int a2), (3, .int a3), (4, .int a4)] := hl
  unfold f_X0_nextWeight at hf
  refine lv_iload hx hb dX0_nextWeight_0 (lv_at hl 4 rfl) ?_
  refine lv_istore (lv' := [(5, .int a4), (0, .ref (ad o)), (1, .int a1), (2, .int a2), (3, .int a3), (4, .int a4)]) hx hb dX0_nextWeight_2 hl (by decide) rfl (fun ls hl => ?_)
  refine lv_iconst (v := 0) hx hb dX0_nextWeight_4 (by decide) ?_
  refine lv_istore (lv' := [(6, .int (0 : Int32)), (5, .int a4), (0, .ref (ad o)), (1, .int a1), (2, .int a2), (3, .int a3), (4, .int a4)]) hx hb dX0_nextWeight_5 hl (by decide) rfl (fun ls hl => ?_)
  have L_13 : ∀ (n_7 : Nat) (w_13_5 : Int32) (w_13_6 : Int32) (H : Heap) (locs : List Loc) (ls : Array Slot), lp_X0_nextWeight_7 o a1 a2 a3 M n_7 w_13_5 w_13_6 = some zr → En D cA ad s A M H locs → lv_has ls 8 [(0, .ref (ad o)), (1, .int a1), (2, .int a2), (3, .int a3), (5, .int w_13_5), (6, .int w_13_6)] → W p l e rm_X0_nextWeight s m args below meth c H locs 0 0 Q (F0 m 7 ls []) := by
    intro n_7
    induction n_7 with
    | zero =>
      intro w_13_5 w_13_6 H locs ls hf
      cases (show (none : Option (Int32)) = some zr from hf)
    | succ n_7 ih_7 =>
      intro w_13_5 w_13_6 H locs ls hf hE hl
      have hf := lp_X0_nextWeight_7_s _ _ _ _ _ hf
      refine lv_iload hx hb dX0_nextWeight_7 (lv_at hl 5 rfl) ?_
      refine lv_aload_n hx hb dX0_nextWeight_9 rfl (lv_at hl 0 rfl) ?_
      obtain ⟨x_14, g_14, hf⟩ := b_some hf
      refine xx_gR hZ hE k_X0 0 (by decide) rfl tw_111 g_14 dX0_nextWeight_10 ?_
      obtain ⟨x_15, g_15, hf⟩ := b_some hf
      refine xx_gRN hZ hE k_X3 2 (by decide) rfl tw_152 g_15 dX0_nextWeight_13 ?_
      refine lv_iload_n hx hb dX0_nextWeight_16 rfl (lv_at hl 1 rfl) ?_
      obtain ⟨x_16, g_16, hf⟩ := b_some hf
      refine xx_aI hZ hE g_16 dX0_nextWeight_17 ?_
      refine lv_icmp_ge (tgt := 65) hx hb dX0_nextWeight_18 (by decide) (fun h_17 => ?_) (fun h_17 => ?_)
      · have hf := it_y h_17 hf
        refine lv_iload hx hb dX0_nextWeight_65 (lv_at hl 4 rfl) ?_
        exact hret _ _ _ _ _ _ (Option.some.inj hf) rfl rfl dX0_nextWeight_67 hE
      · have hf := it_n h_17 hf
        refine lv_aload_n hx hb dX0_nextWeight_21 rfl (lv_at hl 0 rfl) ?_
        obtain ⟨x_18, g_18, hf⟩ := b_some hf
        refine xx_gR hZ hE k_X0 0 (by decide) rfl tw_111 g_18 dX0_nextWeight_22 ?_
        obtain ⟨x_19, g_19, hf⟩ := b_some hf
        refine xx_gRN hZ hE k_X3 5 (by decide) rfl tw_119 g_19 dX0_nextWeight_25 ?_
        refine lv_aload_n hx hb dX0_nextWeight_28 rfl (lv_at hl 0 rfl) ?_
        obtain ⟨x_20, g_20, hf⟩ := b_some hf
        refine xx_gR hZ hE k_X0 0 (by decide) rfl tw_111 g_20 dX0_nextWeight_29 ?_
        refine lv_iload_n hx hb dX0_nextWeight_32 rfl (lv_at hl 2 rfl) ?_
        refine lv_iload_n hx hb dX0_nextWeight_33 rfl (lv_at hl 1 rfl) ?_
        refine lv_iload hx hb dX0_nextWeight_34 (lv_at hl 5 rfl) ?_
        obtain ⟨_, i_21, hf⟩ := b_some hf
        obtain ⟨z_21, c_21, hf⟩ := b_some hf
        refine xx_cVNi hZ hE (As := [.int a2, .int a1, .int w_13_6]) (rest := [.ref (ad x_19)]) k_X3 (is_m i_21) tw_103 tw_104 (c_X3_inLine l D cA ad x_20 a2 a1 w_13_6 M _ c_21) cw_X3_inLine tw_153 ⟨rfl, rfl⟩ ⟨Nat.le_of_ble_eq_true rfl, Nat.le_of_ble_eq_true rfl⟩ rfl hl.1 rfl (Nat.le_of_ble_eq_true rfl) ⟨Nat.le_of_ble_eq_true rfl, Nat.le_of_ble_eq_true rfl⟩ dX0_nextWeight_36 (fun H locs hE => ?_)
        obtain ⟨x_22, g_22, hf⟩ := b_some hf
        refine xx_aI hZ hE g_22 dX0_nextWeight_39 ?_
        refine lv_istore (lv' := [(7, .int x_22), (0, .ref (ad o)), (1, .int a1), (2, .int a2), (3, .int a3), (5, .int w_13_5), (6, .int w_13_6)]) hx hb dX0_nextWeight_40 hl (by decide) rfl (fun ls hl => ?_)
        refine lv_iload hx hb dX0_nextWeight_42 (lv_at hl 0 rfl) ?_
        refine lv_iload_n hx hb dX0_nextWeight_44 rfl (lv_at hl 4 rfl) ?_
        obtain ⟨j_23, ej_23, hf⟩ := jn_e hf
        have q_23 : ∀ (l_23_5 : Int32) (H : Heap) (locs : List Loc) (ls : Array Slot), j_23 l_23_5 = some zr → En D cA ad s A M H locs → lv_has ls 8 [(0, .ref (ad o)), (1, .int a1), (2, .int a2), (3, .int a3), (5, .int l_23_5), (6, .int w_13_6)] → W p l e rm_X0_nextWeight s m args below meth c H locs 0 0 Q (F0 m 59 ls []) := by
          intro l_23_5 H locs ls hf hE hl
          rw [ej_23] at hf
          refine lv_iinc (v := (w_13_6 + 1)) (lv' := [(6, .int (w_13_6 + 1)), (0, .ref (ad o)), (1, .int a1), (2, .int a2), (3, .int a3), (5, .int l_23_5)]) hx hb dX0_nextWeight_59 hl (k := 5) rfl rfl (by decide) rfl (fun ls hl => ?_)
          refine lv_goto (tgt := 7) hx hb dX0_nextWeight_62 (by decide) ?_
          exact ih_7 _ _ _ _ _ hf hE (lv_sub hl [1, 2, 3, 4, 5, 0] rfl)
        refine lv_icmp_le (tgt := 59) hx hb dX0_nextWeight_45 (by decide) (fun h_24 => ?_) (fun h_24 => ?_)
        · have hf := it_y h_24 hf
          exact q_23 _ _ _ _ hf hE (lv_sub hl [1, 2, 3, 4, 5, 6] rfl)
        · have hf := it_n h_24 hf
          refine lv_iload hx hb dX0_nextWeight_48 (lv_at hl 0 rfl) ?_
          refine lv_iload hx hb dX0_nextWeight_50 (lv_at hl 5 rfl) ?_
          refine lv_icmp_ge (tgt := 59) hx hb dX0_nextWeight_52 (by decide) (fun h_25 => ?_) (fun h_25 => ?_)
          · have hf := it_y h_25 hf
            exact q_23 _ _ _ _ hf hE (lv_sub hl [1, 2, 3, 4, 5, 6] rfl)
          · have hf := it_n h_25 hf
            refine lv_iload hx hb dX0_nextWeight_55 (lv_at hl 0 rfl) ?_
            refine lv_istore (lv' := [(5, .int x_22), (7, .int x_22), (0, .ref (ad o)), (1, .int a1), (2, .int a2), (3, .int a3), (6, .int w_13_6)]) hx hb dX0_nextWeight_57 hl (by decide) rfl (fun ls hl => ?_)
            exact q_23 _ _ _ _ hf hE (lv_sub hl [2, 3, 4, 5, 0, 6] rfl)
  exact L_13 _ _ _ _ _ _ hf hE (lv_sub hl [2, 3, 4, 5, 1, 0] rfl)
def lp_X3_lineCount_6 (i_0 : Nat) (i_1 : Int32) (i_2 : Int32) (i_3 : Int32) (M : Mm) : Nat → Int32 → Int32 → Option (Int32)
  | 0, _, _ => none
  | n_6 + 1, v_4, v_5 =>
    (op_gR M 3 i_0 2).bind fun x_1 =>
    (op_aI M x_1 i_2).bind fun x_2 =>
    if x_2 ≤ v_5 then
    some v_4
    else
    (op_gR M 3 i_0 5).bind fun x_4 =>
    (op_is M i_0 3).bind fun _ =>
    (f_X3_inLine i_0 i_1 i_2 v_5 M).bind fun z_5 =>
    (op_aI M x_4 z_5).bind fun x_6 =>
    lp_X3_lineCount_6 i_0 i_1 i_2 i_3 M n_6 (v_4 + (if x_6 < i_3 then (0 : Int32) else (1 : Int32))) (v_5 + 1)
theorem lp_X3_lineCount_6_s (i_0 : Nat) (i_1 : Int32) (i_2 : Int32) (i_3 : Int32) (M : Mm) {n_6 : Nat} {v_4 : Int32} {v_5 : Int32} {zr : Int32} (hf : lp_X3_lineCount_6 i_0 i_1 i_2 i_3 M (n_6 + 1) v_4 v_5 = some zr) : (
    (op_gR M 3 i_0 2).bind fun x_1 =>
    (op_aI M x_1 i_2).bind fun x_2 =>
    if x_2 ≤ v_5 then
    some v_4
    else
    (op_gR M 3 i_0 5).bind fun x_4 =>
    (op_is M i_0 3).bind fun _ =>
    (f_X3_inLine i_0 i_1 i_2 v_5 M).bind fun z_5 =>
    (op_aI M x_4 z_5).bind fun x_6 =>
    lp_X3_lineCount_6 i_0 i_1 i_2 i_3 M n_6 (v_4 + (if x_6 < i_3 then (0 : Int32) else (1 : Int32))) (v_5 + 1)) = some zr := hf
def rm_X3_lineCount : Room := { frames := 2, cells := 0, slots := 0, locals := 45 }
def f_X3_lineCount (o : Nat) (a1 : Int32) (a2 : Int32) (a3 : Int32) (M : Mm) : Option (Int32) :=
    lp_X3_lineCount_6  o a1 a2 a3 M FU (0 : Int32) (0 : Int32)
set_option maxHeartbeats 4000000 in
set_option maxRecDepth 100000 in
theorem c_X3_lineCount (l : Launch) (D : va_G) (cA : Nat → ClassId) (ad : Nat → Nat) (o : Nat) (a1 : Int32) (a2 : Int32) (a3 : Int32) (M : Mm) (zr : Int32) (hf : f_X3_lineCount o a1 a2 a3 M = some zr) : KI l yX3_lineCount cX3_lineCount 6 (some .int) rm_X3_lineCount D cA ad [.ref (ad o), .int a1, .int a2, .int a3] M zr M := by
  refine KI_of (by decide) (Nat.le_of_ble_eq_true rfl) ?_
  intro p e s m args below meth c ls Q A H locs hZ hE hl hret
  have hx := hZ.1
  have hb := hZ.2.1
  have hown := hZ.2.2.2.1
  have hts := hZ.2.2.2.2.1
  have hl : lv_has ls 6 [(0, .ref (ad o)), (1, .int a1), (2, .int a2), (3, .int a3)] := hl
  unfold f_X3_lineCount at hf
  refine lv_iconst (v := 0) hx hb dX3_lineCount_0 (by decide) ?_
  refine lv_istore (lv' := [(4, .int (0 : Int32)), (0, .ref (ad o)), (1, .int a1), (2, .int a2), (3, .int a3)]) hx hb dX3_lineCount_1 hl (by decide) rfl (fun ls hl => ?_)
  refine lv_iconst (v := 0) hx hb dX3_lineCount_3 (by decide) ?_
  refine lv_istore (lv' := [(5, .int (0 : Int32)), (4, .int (0 : Int32)), (0, .ref (ad o)), (1, .int a1), (2, .int a2), (3, .int a3)]) hx hb dX3_lineCount_4 hl (by decide) rfl (fun ls hl => ?_)
  have L_9 : ∀ (n_6 : Nat) (w_9_4 : Int32) (w_9_5 : Int32) (H : Heap) (locs : List Loc) (ls : Array Slot), lp_X3_lineCount_6 o a1 a2 a3 M n_6 w_9_4 w_9_5 = some zr → En D cA ad s A M H locs → lv_has ls 6 [(0, .ref (ad o)), (1, .int a1), (2, .int a2), (3, .int a3), (4, .int w_9_4), (5, .int w_9_5)] → W p l e rm_X3_lineCount s m args below meth c H locs 0 0 Q (F0 m 6 ls []) := by
    intro n_6
    induction n_6 with
    | zero =>
      intro w_9_4 w_9_5 H locs ls hf
      cases (show (none : Option (Int32)) = some zr from hf)
    | succ n_6 ih_6 =>
      intro w_9_4 w_9_5 H locs ls hf hE hl
      have hf := lp_X3_lineCount_6_s _ _ _ _ _ hf
      refine lv_iload hx hb dX3_lineCount_6 (lv_at hl 5 rfl) ?_
      refine lv_aload_n hx hb dX3_lineCount_8 rfl (lv_at hl 0 rfl) ?_
      obtain ⟨x_10, g_10, hf⟩ := b_some hf
      refine xx_gR hZ hE k_X3 2 (by decide) rfl tw_7 g_10 dX3_lineCount_9 ?_
      refine lv_iload_n hx hb dX3_lineCount_12 rfl (lv_at hl 2 rfl) ?_
      obtain ⟨x_11, g_11, hf⟩ := b_some hf
      refine xx_aI hZ hE g_11 dX3_lineCount_13 ?_
      refine lv_icmp_ge (tgt := 50) hx hb dX3_lineCount_14 (by decide) (fun h_12 => ?_) (fun h_12 => ?_)
      · have hf := it_y h_12 hf
        refine lv_iload hx hb dX3_lineCount_50 (lv_at hl 4 rfl) ?_
        exact hret _ _ _ _ _ _ (Option.some.inj hf) rfl rfl dX3_lineCount_52 hE
      · have hf := it_n h_12 hf
        refine lv_iload hx hb dX3_lineCount_17 (lv_at hl 4 rfl) ?_
        refine lv_aload_n hx hb dX3_lineCount_19 rfl (lv_at hl 0 rfl) ?_
        obtain ⟨x_13, g_13, hf⟩ := b_some hf
        refine xx_gR hZ hE k_X3 5 (by decide) rfl tw_12 g_13 dX3_lineCount_20 ?_
        refine lv_aload_n hx hb dX3_lineCount_23 rfl (lv_at hl 0 rfl) ?_
        refine lv_iload_n hx hb dX3_lineCount_24 rfl (lv_at hl 1 rfl) ?_
        refine lv_iload_n hx hb dX3_lineCount_25 rfl (lv_at hl 2 rfl) ?_
        refine lv_iload hx hb dX3_lineCount_26 (lv_at hl 5 rfl) ?_
        obtain ⟨_, i_14, hf⟩ := b_some hf
        obtain ⟨z_14, c_14, hf⟩ := b_some hf
        refine xx_cVi hZ hE (As := [.int a1, .int a2, .int w_9_5]) (rest := [.ref (ad x_13), .int w_9_4]) k_X3 (is_m i_14) tw_103 tw_104 (c_X3_inLine l D cA ad o a1 a2 w_9_5 M _ c_14) cw_X3_inLine tw_102 ⟨rfl, rfl⟩ ⟨Nat.le_of_ble_eq_true rfl, Nat.le_of_ble_eq_true rfl⟩ rfl hl.1 rfl (Nat.le_of_ble_eq_true rfl) ⟨Nat.le_of_ble_eq_true rfl, Nat.le_of_ble_eq_true rfl⟩ dX3_lineCount_28 (fun H locs hE => ?_)
        obtain ⟨x_15, g_15, hf⟩ := b_some hf
        refine xx_aI hZ hE g_15 dX3_lineCount_31 ?_
        refine lv_iload_n hx hb dX3_lineCount_32 rfl (lv_at hl 3 rfl) ?_
        have q_16 : ∀ x_16 : Int32, x_16 = (if x_15 < a3 then (0 : Int32) else (1 : Int32)) → W p l e rm_X3_lineCount s m args below meth c H locs 0 0 Q (F0 m 41 ls [.int x_16, .int w_9_4]) := by
          intro x_16 e_16
          subst e_16
          refine lv_iadd hx hb dX3_lineCount_41 ?_
          refine lv_istore (lv' := [(4, .int (w_9_4 + (if x_15 < a3 then (0 : Int32) else (1 : Int32)))), (0, .ref (ad o)), (1, .int a1), (2, .int a2), (3, .int a3), (5, .int w_9_5)]) hx hb dX3_lineCount_42 hl (by decide) rfl (fun ls hl => ?_)
          refine lv_iinc (v := (w_9_5 + 1)) (lv' := [(5, .int (w_9_5 + 1)), (4, .int (w_9_4 + (if x_15 < a3 then (0 : Int32) else (1 : Int32)))), (0, .ref (ad o)), (1, .int a1), (2, .int a2), (3, .int a3)]) hx hb dX3_lineCount_44 hl (k := 5) rfl rfl (by decide) rfl (fun ls hl => ?_)
          refine lv_goto (tgt := 6) hx hb dX3_lineCount_47 (by decide) ?_
          exact ih_6 _ _ _ _ _ hf hE (lv_sub hl [2, 3, 4, 5, 1, 0] rfl)
        refine lv_icmp_lt (tgt := 40) hx hb dX3_lineCount_33 (by decide) (fun h_17 => ?_) (fun h_17 => ?_)
        · refine lv_iconst (v := 0) hx hb dX3_lineCount_40 (by decide) ?_
          exact q_16 _ (by rw [if_pos h_17])
        · refine lv_iconst (v := 1) hx hb dX3_lineCount_36 (by decide) ?_
          refine lv_goto (tgt := 41) hx hb dX3_lineCount_37 (by decide) ?_
          exact q_16 _ (by rw [if_neg h_17])
  exact L_9 _ _ _ _ _ _ hf hE (lv_sub hl [2, 3, 4, 5, 1, 0] rfl)
def lp_X0_slice_73 (k_146 : Int64 → Option (Mm)) (i_0 : Nat) (i_1 : Int32) (i_2 : Int32) (i_4 : Int32) (i_5 : Int32) (M : Mm) : Nat → Int32 → Int64 → Int32 → Option (Mm)
  | 0, _, _, _ => none
  | n_73 + 1, v_6, v_7, v_9 =>
    if (6 : Int32) ≤ v_9 then
    k_146 v_7
    else
    if i_5 ≤ v_6 then
    k_146 v_7
    else
    (op_is M i_0 0).bind fun _ =>
    (f_X0_nextWeight i_0 i_1 i_2 v_6 i_5 M).bind fun z_17 =>
    (op_gR M 0 i_0 0).bind fun x_18 =>
    (op_is M x_18 3).bind fun _ =>
    (f_X3_lineCount x_18 i_2 i_1 (v_6 + (1 : Int32)) M).bind fun z_19 =>
    if (if z_19 < (1 : Int32) then (1 : Int32) else z_19) = 0 then none else
    lp_X0_slice_73 k_146 i_0 i_1 i_2 i_4 i_5 M n_73 z_17 (v_7 + (((z_17 - v_6).toInt64) * (((60 : Int32) / (if z_19 < (1 : Int32) then (1 : Int32) else z_19)).toInt64))) (v_9 + 1)
theorem lp_X0_slice_73_s (k_146 : Int64 → Option (Mm)) (i_0 : Nat) (i_1 : Int32) (i_2 : Int32) (i_4 : Int32) (i_5 : Int32) (M : Mm) {n_73 : Nat} {v_6 : Int32} {v_7 : Int64} {v_9 : Int32} {zr : Mm} (hf : lp_X0_slice_73 k_146 i_0 i_1 i_2 i_4 i_5 M (n_73 + 1) v_6 v_7 v_9 = some zr) : (
    if (6 : Int32) ≤ v_9 then
    k_146 v_7
    else
    if i_5 ≤ v_6 then
    k_146 v_7
    else
    (op_is M i_0 0).bind fun _ =>
    (f_X0_nextWeight i_0 i_1 i_2 v_6 i_5 M).bind fun z_17 =>
    (op_gR M 0 i_0 0).bind fun x_18 =>
    (op_is M x_18 3).bind fun _ =>
    (f_X3_lineCount x_18 i_2 i_1 (v_6 + (1 : Int32)) M).bind fun z_19 =>
    if (if z_19 < (1 : Int32) then (1 : Int32) else z_19) = 0 then none else
    lp_X0_slice_73 k_146 i_0 i_1 i_2 i_4 i_5 M n_73 z_17 (v_7 + (((z_17 - v_6).toInt64) * (((60 : Int32) / (if z_19 < (1 : Int32) then (1 : Int32) else z_19)).toInt64))) (v_9 + 1)) = some zr := hf
theorem lp_X0_slice_73_k {k_146 : Int64 → Option (Mm)} {i_0 : Nat} {i_1 : Int32} {i_2 : Int32} {i_4 : Int32} {i_5 : Int32} {M : Mm} {n : Nat} {v_6 : Int32} {v_7 : Int64} {v_9 : Int32} {zr : Mm} (hf : lp_X0_slice_73 k_146 i_0 i_1 i_2 i_4 i_5 M n v_6 v_7 v_9 = some zr) : ∃ (m_146 : Int64 → Option (Mm)), m_146 = k_146 ∧ lp_X0_slice_73 m_146 i_0 i_1 i_2 i_4 i_5 M n v_6 v_7 v_9 = some zr := ⟨k_146, rfl, hf⟩
def rm_X0_slice : Room := { frames := 3, cells := 0, slots := 0, locals := 72 }
def f_X0_slice (o : Nat) (a1 : Int32) (a2 : Int32) (a3 : Int32) (M : Mm) : Option (Mm) :=
    (op_gR M 0 o 0).bind fun x_1 =>
    (op_gR M 3 x_1 5).bind fun x_2 =>
    (op_aI M x_2 a2).bind fun x_3 =>
    if x_3 = 0 then
    (op_gR M 0 o 2).bind fun x_5 =>
    (op_is M x_5 1).bind fun _ =>
    (f_X1_set x_5 (if a2 = a3 then (1 : Int64) else (0 : Int64)) (1 : Int64) M).bind fun z_7 =>
    some z_7
    else
    (op_gR M 0 o 0).bind fun x_9 =>
    (op_is M x_9 3).bind fun _ =>
    (f_X3_sharesLine x_9 a2 a3 a1 M).bind fun z_10 =>
    if z_10 = 0 then
    (op_gR M 0 o 2).bind fun x_31 =>
    (op_is M x_31 1).bind fun _ =>
    (f_X1_set x_31 (if a2 = a3 then (1 : Int64) else (0 : Int64)) (1 : Int64) M).bind fun z_33 =>
    some z_33
    else
    (op_gR M 0 o 0).bind fun x_12 =>
    (op_gR M 3 x_12 5).bind fun x_13 =>
    (op_aI M x_13 a3).bind fun x_14 =>
    lp_X0_slice_73 (fun (l_22_7 : Int64) =>
    (op_gR M 0 o 2).bind fun x_23 =>
    (op_is M x_23 1).bind fun _ =>
    (f_X1_set x_23 l_22_7 ((60 : Int64) * x_3.toInt64) M).bind fun z_24 =>
    some z_24) o a1 a2 x_3 (if x_14 < x_3 then x_14 else x_3) M FU (0 : Int32) (0 : Int64) (0 : Int32)
set_option maxHeartbeats 4000000 in
set_option maxRecDepth 100000 in
theorem c_X0_slice (l : Launch) (D : va_G) (cA : Nat → ClassId) (ad : Nat → Nat) (o : Nat) (a1 : Int32) (a2 : Int32) (a3 : Int32) (M : Mm) (zr : Mm) (hf : f_X0_slice o a1 a2 a3 M = some zr) : KV l yX0_slice cX0_slice 12 none rm_X0_slice D cA ad [.ref (ad o), .int a1, .int a2, .int a3] M zr := by
  refine KV_of (by decide) (Nat.le_of_ble_eq_true rfl) ?_
  intro p e s m args below meth c ls Q A H locs hZ hE hl hret
  have hx := hZ.1
  have hb := hZ.2.1
  have hown := hZ.2.2.2.1
  have hts := hZ.2.2.2.2.1
  have hl : lv_has ls 12 [(0, .ref (ad o)), (1, .int a1), (2, .int a2), (3, .int a3)] := hl
  unfold f_X0_slice at hf
  refine lv_aload_n hx hb dX0_slice_0 rfl (lv_at hl 0 rfl) ?_
  obtain ⟨x_1, g_1, hf⟩ := b_some hf
  refine xx_gR hZ hE k_X0 0 (by decide) rfl tw_111 g_1 dX0_slice_1 ?_
  obtain ⟨x_2, g_2, hf⟩ := b_some hf
  refine xx_gRN hZ hE k_X3 5 (by decide) rfl tw_119 g_2 dX0_slice_4 ?_
  refine lv_iload_n hx hb dX0_slice_7 rfl (lv_at hl 2 rfl) ?_
  obtain ⟨x_3, g_3, hf⟩ := b_some hf
  refine xx_aI hZ hE g_3 dX0_slice_8 ?_
  refine lv_istore (lv' := [(4, .int x_3), (0, .ref (ad o)), (1, .int a1), (2, .int a2), (3, .int a3)]) hx hb dX0_slice_9 hl (by decide) rfl (fun ls hl => ?_)
  refine lv_iload hx hb dX0_slice_11 (lv_at hl 0 rfl) ?_
  refine lv_if_eq (tgt := 29) hx hb dX0_slice_13 (by decide) (fun h_4 => ?_) (fun h_4 => ?_)
  · have hf := it_y h_4 hf
    refine lv_aload_n hx hb dX0_slice_29 rfl (lv_at hl 1 rfl) ?_
    obtain ⟨x_5, g_5, hf⟩ := b_some hf
    refine xx_gR hZ hE k_X0 2 (by decide) rfl tw_115 g_5 dX0_slice_30 ?_
    refine lv_iload_n hx hb dX0_slice_33 rfl (lv_at hl 3 rfl) ?_
    refine lv_iload_n hx hb dX0_slice_34 rfl (lv_at hl 4 rfl) ?_
    have q_6 : ∀ x_6 : Int64, x_6 = (if a2 = a3 then (1 : Int64) else (0 : Int64)) → W p l e rm_X0_slice s m args below meth c H locs 0 0 Q (F0 m 43 ls [.long x_6, .ref (ad x_5)]) := by
      intro x_6 e_6
      subst e_6
      refine lv_lconst (v := 1) hx hb dX0_slice_43 (by decide) ?_
      obtain ⟨_, i_7, hf⟩ := b_some hf
      obtain ⟨z_7, c_7, hf⟩ := b_some hf
      refine xx_cVNv hZ hE (As := [.long (if a2 = a3 then (1 : Int64) else (0 : Int64)), .long (1 : Int64)]) (rest := []) k_X1 (is_m i_7) tw_121 tw_122 (c_X1_set l D cA ad x_5 (if a2 = a3 then (1 : Int64) else (0 : Int64)) (1 : Int64) M _ c_7) cw_X1_set tw_120 ⟨rfl, rfl⟩ ⟨Nat.le_of_ble_eq_true rfl, Nat.le_of_ble_eq_true rfl⟩ rfl hl.1 rfl (Nat.le_of_ble_eq_true rfl) ⟨Nat.le_of_ble_eq_true rfl, Nat.le_of_ble_eq_true rfl⟩ dX0_slice_44 (fun H locs hE => ?_)
      exact hret _ _ _ _ _ (Option.some.inj hf) dX0_slice_47 hE
    refine lv_icmp_ne (tgt := 42) hx hb dX0_slice_35 (by decide) (fun h_8 => ?_) (fun h_8 => ?_)
    · refine lv_lconst (v := 0) hx hb dX0_slice_42 (by decide) ?_
      exact q_6 _ (by rw [if_neg h_8])
    · refine lv_lconst (v := 1) hx hb dX0_slice_38 (by decide) ?_
      refine lv_goto (tgt := 43) hx hb dX0_slice_39 (by decide) ?_
      exact q_6 _ (by rw [if_pos h_8])
  · have hf := it_n h_4 hf
    refine lv_aload_n hx hb dX0_slice_16 rfl (lv_at hl 1 rfl) ?_
    obtain ⟨x_9, g_9, hf⟩ := b_some hf
    refine xx_gR hZ hE k_X0 0 (by decide) rfl tw_111 g_9 dX0_slice_17 ?_
    refine lv_iload_n hx hb dX0_slice_20 rfl (lv_at hl 3 rfl) ?_
    refine lv_iload_n hx hb dX0_slice_21 rfl (lv_at hl 4 rfl) ?_
    refine lv_iload_n hx hb dX0_slice_22 rfl (lv_at hl 2 rfl) ?_
    obtain ⟨_, i_10, hf⟩ := b_some hf
    obtain ⟨z_10, c_10, hf⟩ := b_some hf
    refine xx_cVNi hZ hE (As := [.int a2, .int a3, .int a1]) (rest := []) k_X3 (is_m i_10) tw_117 tw_118 (c_X3_sharesLine l D cA ad x_9 a2 a3 a1 M _ c_10) cw_X3_sharesLine tw_116 ⟨rfl, rfl⟩ ⟨Nat.le_of_ble_eq_true rfl, Nat.le_of_ble_eq_true rfl⟩ rfl hl.1 rfl (Nat.le_of_ble_eq_true rfl) ⟨Nat.le_of_ble_eq_true rfl, Nat.le_of_ble_eq_true rfl⟩ dX0_slice_23 (fun H locs hE => ?_)
    refine lv_if_ne (tgt := 48) hx hb dX0_slice_26 (by decide) (fun h_11 => ?_) (fun h_11 => ?_)
    · have hf := it_n h_11 hf
      refine lv_iload hx hb dX0_slice_48 (lv_at hl 0 rfl) ?_
      refine lv_aload_n hx hb dX0_slice_50 rfl (lv_at hl 1 rfl) ?_
      obtain ⟨x_12, g_12, hf⟩ := b_some hf
      refine xx_gR hZ hE k_X0 0 (by decide) rfl tw_111 g_12 dX0_slice_51 ?_
      obtain ⟨x_13, g_13, hf⟩ := b_some hf
      refine xx_gRN hZ hE k_X3 5 (by decide) rfl tw_119 g_13 dX0_slice_54 ?_
      refine lv_iload_n hx hb dX0_slice_57 rfl (lv_at hl 4 rfl) ?_
      obtain ⟨x_14, g_14, hf⟩ := b_some hf
      refine xx_aI hZ hE g_14 dX0_slice_58 ?_
      refine va_mmin hx hb (hZ.2.2.1.trans hl.1.symm) hown (hts _ tw_154) (hts _ tw_124) (hts _ tw_5) (hts _ tw_125) (Nat.le_of_ble_eq_true rfl) (Nat.le_of_ble_eq_true rfl) (Nat.le_of_ble_eq_true rfl) (Nat.le_of_ble_eq_true rfl) dX0_slice_59 ?_
      refine lv_istore (lv' := [(5, .int (if x_14 < x_3 then x_14 else x_3)), (4, .int x_3), (0, .ref (ad o)), (1, .int a1), (2, .int a2), (3, .int a3)]) hx hb dX0_slice_62 hl (by decide) rfl (fun ls hl => ?_)
      refine lv_iconst (v := 0) hx hb dX0_slice_64 (by decide) ?_
      refine lv_istore (lv' := [(6, .int (0 : Int32)), (5, .int (if x_14 < x_3 then x_14 else x_3)), (4, .int x_3), (0, .ref (ad o)), (1, .int a1), (2, .int a2), (3, .int a3)]) hx hb dX0_slice_65 hl (by decide) rfl (fun ls hl => ?_)
      refine lv_lconst (v := 0) hx hb dX0_slice_67 (by decide) ?_
      refine lv_lstore (lv' := [(7, .long (0 : Int64)), (6, .int (0 : Int32)), (5, .int (if x_14 < x_3 then x_14 else x_3)), (4, .int x_3), (0, .ref (ad o)), (1, .int a1), (2, .int a2), (3, .int a3)]) hx hb dX0_slice_68 hl (by decide) rfl (fun ls hl => ?_)
      refine lv_iconst (v := 0) hx hb dX0_slice_70 (by decide) ?_
      refine lv_istore (lv' := [(9, .int (0 : Int32)), (7, .long (0 : Int64)), (6, .int (0 : Int32)), (5, .int (if x_14 < x_3 then x_14 else x_3)), (4, .int x_3), (0, .ref (ad o)), (1, .int a1), (2, .int a2), (3, .int a3)]) hx hb dX0_slice_71 hl (by decide) rfl (fun ls hl => ?_)
      obtain ⟨k_146_22, ek_146_22, hf⟩ := lp_X0_slice_73_k hf
      have o_146_22 : ∀ (l_22_7 : Int64) (H : Heap) (locs : List Loc) (ls : Array Slot), k_146_22 l_22_7 = some zr → En D cA ad s A M H locs → lv_has ls 12 [(0, .ref (ad o)), (4, .int x_3), (7, .long l_22_7)] → W p l e rm_X0_slice s m args below meth c H locs 0 0 Q (F0 m 146 ls []) := by
        intro l_22_7 H locs ls hf hE hl
        rw [ek_146_22] at hf
        refine lv_aload_n hx hb dX0_slice_146 rfl (lv_at hl 0 rfl) ?_
        obtain ⟨x_23, g_23, hf⟩ := b_some hf
        refine xx_gR hZ hE k_X0 2 (by decide) rfl tw_115 g_23 dX0_slice_147 ?_
        refine lv_lload hx hb dX0_slice_150 (lv_at hl 2 rfl) ?_
        refine lv_ldc2 (v := 60) hx hb hown (hts _ tw_162) dX0_slice_152 ?_
        refine lv_iload hx hb dX0_slice_155 (lv_at hl 1 rfl) ?_
        refine lv_i2l hx hb dX0_slice_157 rfl ?_
        refine lv_lmul hx hb dX0_slice_158 ?_
        obtain ⟨_, i_24, hf⟩ := b_some hf
        obtain ⟨z_24, c_24, hf⟩ := b_some hf
        refine xx_cVNv hZ hE (As := [.long l_22_7, .long ((60 : Int64) * x_3.toInt64)]) (rest := []) k_X1 (is_m i_24) tw_121 tw_122 (c_X1_set l D cA ad x_23 l_22_7 ((60 : Int64) * x_3.toInt64) M _ c_24) cw_X1_set tw_120 ⟨rfl, rfl⟩ ⟨Nat.le_of_ble_eq_true rfl, Nat.le_of_ble_eq_true rfl⟩ rfl hl.1 rfl (Nat.le_of_ble_eq_true rfl) ⟨Nat.le_of_ble_eq_true rfl, Nat.le_of_ble_eq_true rfl⟩ dX0_slice_159 (fun H locs hE => ?_)
        exact hret _ _ _ _ _ (Option.some.inj hf) dX0_slice_162 hE
      have L_21 : ∀ (n_73 : Nat) (w_21_6 : Int32) (w_21_7 : Int64) (w_21_9 : Int32) (H : Heap) (locs : List Loc) (ls : Array Slot), lp_X0_slice_73 k_146_22 o a1 a2 x_3 (if x_14 < x_3 then x_14 else x_3) M n_73 w_21_6 w_21_7 w_21_9 = some zr → En D cA ad s A M H locs → lv_has ls 12 [(0, .ref (ad o)), (1, .int a1), (2, .int a2), (4, .int x_3), (5, .int (if x_14 < x_3 then x_14 else x_3)), (6, .int w_21_6), (7, .long w_21_7), (9, .int w_21_9)] → W p l e rm_X0_slice s m args below meth c H locs 0 0 Q (F0 m 73 ls []) := by
        intro n_73
        induction n_73 with
        | zero =>
          intro w_21_6 w_21_7 w_21_9 H locs ls hf
          cases (show (none : Option (Mm)) = some zr from hf)
        | succ n_73 ih_73 =>
          intro w_21_6 w_21_7 w_21_9 H locs ls hf hE hl
          have hf := lp_X0_slice_73_s _ _ _ _ _ _ _ hf
          refine lv_iload hx hb dX0_slice_73 (lv_at hl 7 rfl) ?_
          refine lv_bipush (v := 6) hx hb dX0_slice_75 (by decide) ?_
          refine lv_icmp_ge (tgt := 146) hx hb dX0_slice_77 (by decide) (fun h_25 => ?_) (fun h_25 => ?_)
          · have hf := it_y h_25 hf
            exact o_146_22 _ _ _ _ hf hE (lv_sub hl [0, 3, 6] rfl)
          · have hf := it_n h_25 hf
            refine lv_iload hx hb dX0_slice_80 (lv_at hl 5 rfl) ?_
            refine lv_iload hx hb dX0_slice_82 (lv_at hl 4 rfl) ?_
            refine lv_icmp_ge (tgt := 146) hx hb dX0_slice_84 (by decide) (fun h_26 => ?_) (fun h_26 => ?_)
            · have hf := it_y h_26 hf
              exact o_146_22 _ _ _ _ hf hE (lv_sub hl [0, 3, 6] rfl)
            · have hf := it_n h_26 hf
              refine lv_aload_n hx hb dX0_slice_87 rfl (lv_at hl 0 rfl) ?_
              refine lv_iload_n hx hb dX0_slice_88 rfl (lv_at hl 1 rfl) ?_
              refine lv_iload_n hx hb dX0_slice_89 rfl (lv_at hl 2 rfl) ?_
              refine lv_iload hx hb dX0_slice_90 (lv_at hl 5 rfl) ?_
              refine lv_iload hx hb dX0_slice_92 (lv_at hl 4 rfl) ?_
              obtain ⟨_, i_27, hf⟩ := b_some hf
              obtain ⟨z_27, c_27, hf⟩ := b_some hf
              refine xx_cVi hZ hE (As := [.int a1, .int a2, .int w_21_6, .int (if x_14 < x_3 then x_14 else x_3)]) (rest := []) k_X0 (is_m i_27) tw_156 tw_157 (c_X0_nextWeight l D cA ad o a1 a2 w_21_6 (if x_14 < x_3 then x_14 else x_3) M _ c_27) cw_X0_nextWeight tw_155 ⟨rfl, rfl⟩ ⟨Nat.le_of_ble_eq_true rfl, Nat.le_of_ble_eq_true rfl⟩ rfl hl.1 rfl (Nat.le_of_ble_eq_true rfl) ⟨Nat.le_of_ble_eq_true rfl, Nat.le_of_ble_eq_true rfl⟩ dX0_slice_94 (fun H locs hE => ?_)
              refine lv_istore (lv' := [(10, .int z_27), (0, .ref (ad o)), (1, .int a1), (2, .int a2), (4, .int x_3), (5, .int (if x_14 < x_3 then x_14 else x_3)), (6, .int w_21_6), (7, .long w_21_7), (9, .int w_21_9)]) hx hb dX0_slice_97 hl (by decide) rfl (fun ls hl => ?_)
              refine lv_aload_n hx hb dX0_slice_99 rfl (lv_at hl 1 rfl) ?_
              obtain ⟨x_28, g_28, hf⟩ := b_some hf
              refine xx_gR hZ hE k_X0 0 (by decide) rfl tw_111 g_28 dX0_slice_100 ?_
              refine lv_iload_n hx hb dX0_slice_103 rfl (lv_at hl 3 rfl) ?_
              refine lv_iload_n hx hb dX0_slice_104 rfl (lv_at hl 2 rfl) ?_
              refine lv_iload hx hb dX0_slice_105 (lv_at hl 6 rfl) ?_
              refine lv_iconst (v := 1) hx hb dX0_slice_107 (by decide) ?_
              refine lv_iadd hx hb dX0_slice_108 ?_
              obtain ⟨_, i_29, hf⟩ := b_some hf
              obtain ⟨z_29, c_29, hf⟩ := b_some hf
              refine xx_cVNi hZ hE (As := [.int a2, .int a1, .int (w_21_6 + (1 : Int32))]) (rest := []) k_X3 (is_m i_29) tw_159 tw_160 (c_X3_lineCount l D cA ad x_28 a2 a1 (w_21_6 + (1 : Int32)) M _ c_29) cw_X3_lineCount tw_158 ⟨rfl, rfl⟩ ⟨Nat.le_of_ble_eq_true rfl, Nat.le_of_ble_eq_true rfl⟩ rfl hl.1 rfl (Nat.le_of_ble_eq_true rfl) ⟨Nat.le_of_ble_eq_true rfl, Nat.le_of_ble_eq_true rfl⟩ dX0_slice_109 (fun H locs hE => ?_)
              refine lv_iconst (v := 1) hx hb dX0_slice_112 (by decide) ?_
              refine va_mmax hx hb (hZ.2.2.1.trans hl.1.symm) hown (hts _ tw_161) (hts _ tw_4) (hts _ tw_5) (hts _ tw_6) (Nat.le_of_ble_eq_true rfl) (Nat.le_of_ble_eq_true rfl) (Nat.le_of_ble_eq_true rfl) (Nat.le_of_ble_eq_true rfl) dX0_slice_113 ?_
              refine lv_istore (lv' := [(11, .int (if z_29 < (1 : Int32) then (1 : Int32) else z_29)), (10, .int z_27), (0, .ref (ad o)), (1, .int a1), (2, .int a2), (4, .int x_3), (5, .int (if x_14 < x_3 then x_14 else x_3)), (6, .int w_21_6), (7, .long w_21_7), (9, .int w_21_9)]) hx hb dX0_slice_116 hl (by decide) rfl (fun ls hl => ?_)
              refine lv_lload hx hb dX0_slice_118 (lv_at hl 8 rfl) ?_
              refine lv_iload hx hb dX0_slice_120 (lv_at hl 1 rfl) ?_
              refine lv_iload hx hb dX0_slice_122 (lv_at hl 7 rfl) ?_
              refine lv_isub hx hb dX0_slice_124 ?_
              refine lv_i2l hx hb dX0_slice_125 rfl ?_
              refine lv_bipush (v := 60) hx hb dX0_slice_126 (by decide) ?_
              refine lv_iload hx hb dX0_slice_128 (lv_at hl 0 rfl) ?_
              obtain ⟨h_30, hf⟩ := e_some hf
              refine lv_idiv hx hb dX0_slice_130 h_30 ?_
              refine lv_i2l hx hb dX0_slice_131 rfl ?_
              refine lv_lmul hx hb dX0_slice_132 ?_
              refine lv_ladd hx hb dX0_slice_133 ?_
              refine lv_lstore (lv' := [(7, .long (w_21_7 + (((z_27 - w_21_6).toInt64) * (((60 : Int32) / (if z_29 < (1 : Int32) then (1 : Int32) else z_29)).toInt64)))), (11, .int (if z_29 < (1 : Int32) then (1 : Int32) else z_29)), (10, .int z_27), (0, .ref (ad o)), (1, .int a1), (2, .int a2), (4, .int x_3), (5, .int (if x_14 < x_3 then x_14 else x_3)), (6, .int w_21_6), (9, .int w_21_9)]) hx hb dX0_slice_134 hl (by decide) rfl (fun ls hl => ?_)
              refine lv_iload hx hb dX0_slice_136 (lv_at hl 2 rfl) ?_
              refine lv_istore (lv' := [(6, .int z_27), (7, .long (w_21_7 + (((z_27 - w_21_6).toInt64) * (((60 : Int32) / (if z_29 < (1 : Int32) then (1 : Int32) else z_29)).toInt64)))), (11, .int (if z_29 < (1 : Int32) then (1 : Int32) else z_29)), (10, .int z_27), (0, .ref (ad o)), (1, .int a1), (2, .int a2), (4, .int x_3), (5, .int (if x_14 < x_3 then x_14 else x_3)), (9, .int w_21_9)]) hx hb dX0_slice_138 hl (by decide) rfl (fun ls hl => ?_)
              refine lv_iinc (v := (w_21_9 + 1)) (lv' := [(9, .int (w_21_9 + 1)), (6, .int z_27), (7, .long (w_21_7 + (((z_27 - w_21_6).toInt64) * (((60 : Int32) / (if z_29 < (1 : Int32) then (1 : Int32) else z_29)).toInt64)))), (11, .int (if z_29 < (1 : Int32) then (1 : Int32) else z_29)), (10, .int z_27), (0, .ref (ad o)), (1, .int a1), (2, .int a2), (4, .int x_3), (5, .int (if x_14 < x_3 then x_14 else x_3))]) hx hb dX0_slice_140 hl (k := 9) rfl rfl (by decide) rfl (fun ls hl => ?_)
              refine lv_goto (tgt := 73) hx hb dX0_slice_143 (by decide) ?_
              exact ih_73 _ _ _ _ _ _ hf hE (lv_sub hl [5, 6, 7, 8, 9, 1, 2, 0] rfl)
      exact L_21 _ _ _ _ _ _ _ hf hE (lv_sub hl [5, 6, 7, 4, 3, 2, 1, 0] rfl)
    · have hf := it_y h_11 hf
      refine lv_aload_n hx hb dX0_slice_29 rfl (lv_at hl 1 rfl) ?_
      obtain ⟨x_31, g_31, hf⟩ := b_some hf
      refine xx_gR hZ hE k_X0 2 (by decide) rfl tw_115 g_31 dX0_slice_30 ?_
      refine lv_iload_n hx hb dX0_slice_33 rfl (lv_at hl 3 rfl) ?_
      refine lv_iload_n hx hb dX0_slice_34 rfl (lv_at hl 4 rfl) ?_
      have q_32 : ∀ x_32 : Int64, x_32 = (if a2 = a3 then (1 : Int64) else (0 : Int64)) → W p l e rm_X0_slice s m args below meth c H locs 0 0 Q (F0 m 43 ls [.long x_32, .ref (ad x_31)]) := by
        intro x_32 e_32
        subst e_32
        refine lv_lconst (v := 1) hx hb dX0_slice_43 (by decide) ?_
        obtain ⟨_, i_33, hf⟩ := b_some hf
        obtain ⟨z_33, c_33, hf⟩ := b_some hf
        refine xx_cVNv hZ hE (As := [.long (if a2 = a3 then (1 : Int64) else (0 : Int64)), .long (1 : Int64)]) (rest := []) k_X1 (is_m i_33) tw_121 tw_122 (c_X1_set l D cA ad x_31 (if a2 = a3 then (1 : Int64) else (0 : Int64)) (1 : Int64) M _ c_33) cw_X1_set tw_120 ⟨rfl, rfl⟩ ⟨Nat.le_of_ble_eq_true rfl, Nat.le_of_ble_eq_true rfl⟩ rfl hl.1 rfl (Nat.le_of_ble_eq_true rfl) ⟨Nat.le_of_ble_eq_true rfl, Nat.le_of_ble_eq_true rfl⟩ dX0_slice_44 (fun H locs hE => ?_)
        exact hret _ _ _ _ _ (Option.some.inj hf) dX0_slice_47 hE
      refine lv_icmp_ne (tgt := 42) hx hb dX0_slice_35 (by decide) (fun h_34 => ?_) (fun h_34 => ?_)
      · refine lv_lconst (v := 0) hx hb dX0_slice_42 (by decide) ?_
        exact q_32 _ (by rw [if_neg h_34])
      · refine lv_lconst (v := 1) hx hb dX0_slice_38 (by decide) ?_
        refine lv_goto (tgt := 43) hx hb dX0_slice_39 (by decide) ?_
        exact q_32 _ (by rw [if_pos h_34])
def rm_X2_load : Room := { frames := 1, cells := 0, slots := 0, locals := 21 }
def f_X2_load (o : Nat) (a1 : Int32) (a2 : Int32) (a3 : Nat) (M : Mm) : Option (Mm) :=
    (op_gR M 2 o 8).bind fun x_1 =>
    (f_X2_cell a1 a2).bind fun z_2 =>
    (op_aL M x_1 z_2).bind fun x_3 =>
    (op_pL M 1 a3 0 x_3).bind fun M_4 =>
    (op_gR M_4 2 o 9).bind fun x_5 =>
    (f_X2_cell a1 a2).bind fun z_6 =>
    (op_aL M_4 x_5 z_6).bind fun x_7 =>
    (op_pL M_4 1 a3 1 x_7).bind fun M_8 =>
    (op_gL M_8 1 a3 1).bind fun x_9 =>
    (op_pZ M_8 1 a3 2 (if x_9 ≤ (0 : Int64) then (0 : Int32) else (1 : Int32))).bind fun M_11 =>
    some M_11
set_option maxHeartbeats 4000000 in
set_option maxRecDepth 100000 in
theorem c_X2_load (l : Launch) (D : va_G) (cA : Nat → ClassId) (ad : Nat → Nat) (o : Nat) (a1 : Int32) (a2 : Int32) (a3 : Nat) (M : Mm) (zr : Mm) (hf : f_X2_load o a1 a2 a3 M = some zr) : KV l yX2_load cX2_load 4 none rm_X2_load D cA ad [.ref (ad o), .int a1, .int a2, .ref (ad a3)] M zr := by
  refine KV_of (by decide) (Nat.le_of_ble_eq_true rfl) ?_
  intro p e s m args below meth c ls Q A H locs hZ hE hl hret
  have hx := hZ.1
  have hb := hZ.2.1
  have hown := hZ.2.2.2.1
  have hts := hZ.2.2.2.2.1
  have hl : lv_has ls 4 [(0, .ref (ad o)), (1, .int a1), (2, .int a2), (3, .ref (ad a3))] := hl
  unfold f_X2_load at hf
  refine lv_aload_n hx hb dX2_load_0 rfl (lv_at hl 3 rfl) ?_
  refine lv_aload_n hx hb dX2_load_1 rfl (lv_at hl 0 rfl) ?_
  obtain ⟨x_1, g_1, hf⟩ := b_some hf
  refine xx_gR hZ hE k_X2 8 (by decide) rfl tw_163 g_1 dX2_load_2 ?_
  refine lv_iload_n hx hb dX2_load_5 rfl (lv_at hl 1 rfl) ?_
  refine lv_iload_n hx hb dX2_load_6 rfl (lv_at hl 2 rfl) ?_
  obtain ⟨z_2, c_2, hf⟩ := b_some hf
  refine xx_cSi hZ hE (As := [.int a1, .int a2]) (rest := [.ref (ad x_1), .ref (ad a3)]) tw_100 (c_X2_cell l D cA ad a1 a2 M _ c_2) cw_X2_cell tw_99 ⟨rfl, rfl⟩ ⟨Nat.le_of_ble_eq_true rfl, Nat.le_of_ble_eq_true rfl⟩ rfl hl.1 rfl (Nat.le_of_ble_eq_true rfl) ⟨Nat.le_of_ble_eq_true rfl, Nat.le_of_ble_eq_true rfl⟩ dX2_load_7 (fun H locs hE => ?_)
  obtain ⟨x_3, g_3, hf⟩ := b_some hf
  refine xx_aL hZ hE g_3 dX2_load_10 ?_
  obtain ⟨M_4, g_4, hf⟩ := b_some hf
  refine xx_pLN hZ hE k_X1 0 (by decide) rfl rfl rfl tw_164 g_4 dX2_load_11 (fun H locs hE => ?_)
  refine lv_aload_n hx hb dX2_load_14 rfl (lv_at hl 3 rfl) ?_
  refine lv_aload_n hx hb dX2_load_15 rfl (lv_at hl 0 rfl) ?_
  obtain ⟨x_5, g_5, hf⟩ := b_some hf
  refine xx_gR hZ hE k_X2 9 (by decide) rfl tw_96 g_5 dX2_load_16 ?_
  refine lv_iload_n hx hb dX2_load_19 rfl (lv_at hl 1 rfl) ?_
  refine lv_iload_n hx hb dX2_load_20 rfl (lv_at hl 2 rfl) ?_
  obtain ⟨z_6, c_6, hf⟩ := b_some hf
  refine xx_cSi hZ hE (As := [.int a1, .int a2]) (rest := [.ref (ad x_5), .ref (ad a3)]) tw_100 (c_X2_cell l D cA ad a1 a2 M_4 _ c_6) cw_X2_cell tw_99 ⟨rfl, rfl⟩ ⟨Nat.le_of_ble_eq_true rfl, Nat.le_of_ble_eq_true rfl⟩ rfl hl.1 rfl (Nat.le_of_ble_eq_true rfl) ⟨Nat.le_of_ble_eq_true rfl, Nat.le_of_ble_eq_true rfl⟩ dX2_load_21 (fun H locs hE => ?_)
  obtain ⟨x_7, g_7, hf⟩ := b_some hf
  refine xx_aL hZ hE g_7 dX2_load_24 ?_
  obtain ⟨M_8, g_8, hf⟩ := b_some hf
  refine xx_pLN hZ hE k_X1 1 (by decide) rfl rfl rfl tw_165 g_8 dX2_load_25 (fun H locs hE => ?_)
  refine lv_aload_n hx hb dX2_load_28 rfl (lv_at hl 3 rfl) ?_
  refine lv_aload_n hx hb dX2_load_29 rfl (lv_at hl 3 rfl) ?_
  obtain ⟨x_9, g_9, hf⟩ := b_some hf
  refine xx_gLN hZ hE k_X1 1 (by decide) rfl tw_165 g_9 dX2_load_30 ?_
  refine lv_lconst (v := 0) hx hb dX2_load_33 (by decide) ?_
  have q_10 : ∀ x_10 : Int32, x_10 = (if x_9 ≤ (0 : Int64) then (0 : Int32) else (1 : Int32)) → W p l e rm_X2_load s m args below meth c H locs 0 0 Q (F0 m 43 ls [.int x_10, .ref (ad a3)]) := by
    intro x_10 e_10
    subst e_10
    obtain ⟨M_11, g_11, hf⟩ := b_some hf
    refine xx_pZN hZ hE k_X1 2 (by decide) rfl rfl rfl tw_166 g_11 dX2_load_43 (fun H locs hE => ?_)
    exact hret _ _ _ _ _ (Option.some.inj hf) dX2_load_46 hE
  refine xx_lle (tgt := 42) hx hb dX2_load_34 dX2_load_35 (by decide) (fun h_12 => ?_) (fun h_12 => ?_)
  · refine lv_iconst (v := 0) hx hb dX2_load_42 (by decide) ?_
    exact q_10 _ (by rw [if_pos h_12])
  · refine lv_iconst (v := 1) hx hb dX2_load_38 (by decide) ?_
    refine lv_goto (tgt := 43) hx hb dX2_load_39 (by decide) ?_
    exact q_10 _ (by rw [if_neg h_12])
def rm_X1_times : Room := { frames := 2, cells := 0, slots := 0, locals := 56 }
def f_X1_times (o : Nat) (a1 : Nat) (M : Mm) : Option (Mm) :=
    (op_gI M 1 o 2).bind fun x_1 =>
    op_jn (fun (x_2_0 : Int32) =>
    (op_pZ M 1 o 2 x_2_0).bind fun M_14 =>
    (op_gI M_14 1 o 2).bind fun x_15 =>
    if x_15 = 0 then
    some M_14
    else
    (op_gL M_14 1 o 0).bind fun x_17 =>
    (op_gL M_14 1 a1 0).bind fun x_18 =>
    (op_gL M_14 1 o 1).bind fun x_19 =>
    (op_gL M_14 1 a1 1).bind fun x_20 =>
    (op_is M_14 o 1).bind fun _ =>
    (f_X1_set o (x_17 * x_18) (x_19 * x_20) M_14).bind fun z_21 =>
    some z_21)
    fun j_2 =>
    if x_1 = 0 then
    j_2 (0 : Int32)
    else
    (op_gI M 1 a1 2).bind fun x_4 =>
    if x_4 = 0 then
    j_2 (0 : Int32)
    else
    (op_gL M 1 o 0).bind fun x_6 =>
    (op_gL M 1 a1 0).bind fun x_7 =>
    (f_X1_fitProduct x_6 x_7).bind fun z_8 =>
    if z_8 = 0 then
    j_2 (0 : Int32)
    else
    (op_gL M 1 o 1).bind fun x_10 =>
    (op_gL M 1 a1 1).bind fun x_11 =>
    (f_X1_fitProduct x_10 x_11).bind fun z_12 =>
    if z_12 = 0 then
    j_2 (0 : Int32)
    else
    j_2 (1 : Int32)
set_option maxHeartbeats 4000000 in
set_option maxRecDepth 100000 in
theorem c_X1_times (l : Launch) (D : va_G) (cA : Nat → ClassId) (ad : Nat → Nat) (o : Nat) (a1 : Nat) (M : Mm) (zr : Mm) (hf : f_X1_times o a1 M = some zr) : KV l yX1_times cX1_times 2 none rm_X1_times D cA ad [.ref (ad o), .ref (ad a1)] M zr := by
  refine KV_of (by decide) (Nat.le_of_ble_eq_true rfl) ?_
  intro p e s m args below meth c ls Q A H locs hZ hE hl hret
  have hx := hZ.1
  have hb := hZ.2.1
  have hown := hZ.2.2.2.1
  have hts := hZ.2.2.2.2.1
  have hl : lv_has ls 2 [(0, .ref (ad o)), (1, .ref (ad a1))] := hl
  unfold f_X1_times at hf
  refine lv_aload_n hx hb dX1_times_0 rfl (lv_at hl 0 rfl) ?_
  refine lv_aload_n hx hb dX1_times_1 rfl (lv_at hl 0 rfl) ?_
  obtain ⟨x_1, g_1, hf⟩ := b_some hf
  refine xx_gI hZ hE k_X1 2 (by decide) rfl tw_110 g_1 dX1_times_2 ?_
  obtain ⟨j_2, ej_2, hf⟩ := jn_e hf
  have q_2 : ∀ (x_2_0 : Int32) (H : Heap) (locs : List Loc) (ls : Array Slot), j_2 x_2_0 = some zr → En D cA ad s A M H locs → lv_has ls 2 [(0, .ref (ad o)), (1, .ref (ad a1))] → W p l e rm_X1_times s m args below meth c H locs 0 0 Q (F0 m 48 ls [.int x_2_0, .ref (ad o)]) := by
    intro x_2_0 H locs ls hf hE hl
    rw [ej_2] at hf
    obtain ⟨M_14, g_14, hf⟩ := b_some hf
    refine xx_pZ hZ hE k_X1 2 (by decide) rfl rfl rfl tw_110 g_14 dX1_times_48 (fun H locs hE => ?_)
    refine lv_aload_n hx hb dX1_times_51 rfl (lv_at hl 0 rfl) ?_
    obtain ⟨x_15, g_15, hf⟩ := b_some hf
    refine xx_gI hZ hE k_X1 2 (by decide) rfl tw_110 g_15 dX1_times_52 ?_
    refine lv_if_eq (tgt := 80) hx hb dX1_times_55 (by decide) (fun h_16 => ?_) (fun h_16 => ?_)
    · have hf := it_y h_16 hf
      exact hret _ _ _ _ _ (Option.some.inj hf) dX1_times_80 hE
    · have hf := it_n h_16 hf
      refine lv_aload_n hx hb dX1_times_58 rfl (lv_at hl 0 rfl) ?_
      refine lv_aload_n hx hb dX1_times_59 rfl (lv_at hl 0 rfl) ?_
      obtain ⟨x_17, g_17, hf⟩ := b_some hf
      refine xx_gL hZ hE k_X1 0 (by decide) rfl tw_108 g_17 dX1_times_60 ?_
      refine lv_aload_n hx hb dX1_times_63 rfl (lv_at hl 1 rfl) ?_
      obtain ⟨x_18, g_18, hf⟩ := b_some hf
      refine xx_gL hZ hE k_X1 0 (by decide) rfl tw_108 g_18 dX1_times_64 ?_
      refine lv_lmul hx hb dX1_times_67 ?_
      refine lv_aload_n hx hb dX1_times_68 rfl (lv_at hl 0 rfl) ?_
      obtain ⟨x_19, g_19, hf⟩ := b_some hf
      refine xx_gL hZ hE k_X1 1 (by decide) rfl tw_109 g_19 dX1_times_69 ?_
      refine lv_aload_n hx hb dX1_times_72 rfl (lv_at hl 1 rfl) ?_
      obtain ⟨x_20, g_20, hf⟩ := b_some hf
      refine xx_gL hZ hE k_X1 1 (by decide) rfl tw_109 g_20 dX1_times_73 ?_
      refine lv_lmul hx hb dX1_times_76 ?_
      obtain ⟨_, i_21, hf⟩ := b_some hf
      obtain ⟨z_21, c_21, hf⟩ := b_some hf
      refine xx_cVv hZ hE (As := [.long (x_17 * x_18), .long (x_19 * x_20)]) (rest := []) k_X1 (is_m i_21) tw_121 tw_122 (c_X1_set l D cA ad o (x_17 * x_18) (x_19 * x_20) M_14 _ c_21) cw_X1_set tw_143 ⟨rfl, rfl⟩ ⟨Nat.le_of_ble_eq_true rfl, Nat.le_of_ble_eq_true rfl⟩ rfl hl.1 rfl (Nat.le_of_ble_eq_true rfl) ⟨Nat.le_of_ble_eq_true rfl, Nat.le_of_ble_eq_true rfl⟩ dX1_times_77 (fun H locs hE => ?_)
      exact hret _ _ _ _ _ (Option.some.inj hf) dX1_times_80 hE
  refine lv_if_eq (tgt := 47) hx hb dX1_times_5 (by decide) (fun h_3 => ?_) (fun h_3 => ?_)
  · have hf := it_y h_3 hf
    refine lv_iconst (v := 0) hx hb dX1_times_47 (by decide) ?_
    exact q_2 _ _ _ _ hf hE (lv_sub hl [0, 1] rfl)
  · have hf := it_n h_3 hf
    refine lv_aload_n hx hb dX1_times_8 rfl (lv_at hl 1 rfl) ?_
    obtain ⟨x_4, g_4, hf⟩ := b_some hf
    refine xx_gI hZ hE k_X1 2 (by decide) rfl tw_110 g_4 dX1_times_9 ?_
    refine lv_if_eq (tgt := 47) hx hb dX1_times_12 (by decide) (fun h_5 => ?_) (fun h_5 => ?_)
    · have hf := it_y h_5 hf
      refine lv_iconst (v := 0) hx hb dX1_times_47 (by decide) ?_
      exact q_2 _ _ _ _ hf hE (lv_sub hl [0, 1] rfl)
    · have hf := it_n h_5 hf
      refine lv_aload_n hx hb dX1_times_15 rfl (lv_at hl 0 rfl) ?_
      obtain ⟨x_6, g_6, hf⟩ := b_some hf
      refine xx_gL hZ hE k_X1 0 (by decide) rfl tw_108 g_6 dX1_times_16 ?_
      refine lv_aload_n hx hb dX1_times_19 rfl (lv_at hl 1 rfl) ?_
      obtain ⟨x_7, g_7, hf⟩ := b_some hf
      refine xx_gL hZ hE k_X1 0 (by decide) rfl tw_108 g_7 dX1_times_20 ?_
      obtain ⟨z_8, c_8, hf⟩ := b_some hf
      refine xx_cSi hZ hE (As := [.long x_6, .long x_7]) (rest := [.ref (ad o)]) tw_142 (c_X1_fitProduct l D cA ad x_6 x_7 M _ c_8) cw_X1_fitProduct tw_141 ⟨rfl, rfl⟩ ⟨Nat.le_of_ble_eq_true rfl, Nat.le_of_ble_eq_true rfl⟩ rfl hl.1 rfl (Nat.le_of_ble_eq_true rfl) ⟨Nat.le_of_ble_eq_true rfl, Nat.le_of_ble_eq_true rfl⟩ dX1_times_23 (fun H locs hE => ?_)
      refine lv_if_eq (tgt := 47) hx hb dX1_times_26 (by decide) (fun h_9 => ?_) (fun h_9 => ?_)
      · have hf := it_y h_9 hf
        refine lv_iconst (v := 0) hx hb dX1_times_47 (by decide) ?_
        exact q_2 _ _ _ _ hf hE (lv_sub hl [0, 1] rfl)
      · have hf := it_n h_9 hf
        refine lv_aload_n hx hb dX1_times_29 rfl (lv_at hl 0 rfl) ?_
        obtain ⟨x_10, g_10, hf⟩ := b_some hf
        refine xx_gL hZ hE k_X1 1 (by decide) rfl tw_109 g_10 dX1_times_30 ?_
        refine lv_aload_n hx hb dX1_times_33 rfl (lv_at hl 1 rfl) ?_
        obtain ⟨x_11, g_11, hf⟩ := b_some hf
        refine xx_gL hZ hE k_X1 1 (by decide) rfl tw_109 g_11 dX1_times_34 ?_
        obtain ⟨z_12, c_12, hf⟩ := b_some hf
        refine xx_cSi hZ hE (As := [.long x_10, .long x_11]) (rest := [.ref (ad o)]) tw_142 (c_X1_fitProduct l D cA ad x_10 x_11 M _ c_12) cw_X1_fitProduct tw_141 ⟨rfl, rfl⟩ ⟨Nat.le_of_ble_eq_true rfl, Nat.le_of_ble_eq_true rfl⟩ rfl hl.1 rfl (Nat.le_of_ble_eq_true rfl) ⟨Nat.le_of_ble_eq_true rfl, Nat.le_of_ble_eq_true rfl⟩ dX1_times_37 (fun H locs hE => ?_)
        refine lv_if_eq (tgt := 47) hx hb dX1_times_40 (by decide) (fun h_13 => ?_) (fun h_13 => ?_)
        · have hf := it_y h_13 hf
          refine lv_iconst (v := 0) hx hb dX1_times_47 (by decide) ?_
          exact q_2 _ _ _ _ hf hE (lv_sub hl [0, 1] rfl)
        · have hf := it_n h_13 hf
          refine lv_iconst (v := 1) hx hb dX1_times_43 (by decide) ?_
          refine lv_goto (tgt := 48) hx hb dX1_times_44 (by decide) ?_
          exact q_2 _ _ _ _ hf hE (lv_sub hl [0, 1] rfl)
def rm_X0_mix (d : Nat) : Room := { frames := 41 + 3 * (d), cells := 0, slots := 0, locals := 2050 + 100 * (d) }
def f_X0_mix (rc : Nat → Int32 → Int32 → Int32 → Int32 → Mm → Option (Mm)) (o : Nat) (a1 : Nat) (a2 : Int32) (a3 : Int32) (a4 : Int32) (M : Mm) : Option (Mm) :=
    (op_gI M 2 a1 1).bind fun x_1 =>
    (op_is M o 0).bind fun _ =>
    (rc o x_1 a2 a3 (a4 + (1 : Int32)) M).bind fun z_2 =>
    (op_gI z_2 2 a1 2).bind fun x_3 =>
    (op_is z_2 o 0).bind fun _ =>
    (rc o x_3 a2 a3 (a4 + (1 : Int32)) z_2).bind fun z_4 =>
    (op_gI z_4 2 a1 3).bind fun x_5 =>
    (op_gI z_4 2 a1 4).bind fun x_6 =>
    (op_gR z_4 0 o 1).bind fun x_7 =>
    (op_gI z_4 2 a1 1).bind fun x_8 =>
    (op_aR z_4 x_7 x_8).bind fun x_9 =>
    (op_gR z_4 0 o 3).bind fun x_10 =>
    (op_is z_4 x_9 2).bind fun _ =>
    (f_X2_load x_9 a2 a3 x_10 z_4).bind fun z_11 =>
    (op_gR z_11 0 o 2).bind fun x_12 =>
    (op_gI z_11 2 a1 3).bind fun x_13 =>
    (op_is z_11 x_12 1).bind fun _ =>
    (f_X1_set x_12 x_13.toInt64 ((x_5 + x_6).toInt64) z_11).bind fun z_14 =>
    (op_gR z_14 0 o 2).bind fun x_15 =>
    (op_gR z_14 0 o 3).bind fun x_16 =>
    (op_is z_14 x_15 1).bind fun _ =>
    (f_X1_times x_15 x_16 z_14).bind fun z_17 =>
    (op_gR z_17 0 o 1).bind fun x_18 =>
    (op_gI z_17 2 a1 2).bind fun x_19 =>
    (op_aR z_17 x_18 x_19).bind fun x_20 =>
    (op_gR z_17 0 o 4).bind fun x_21 =>
    (op_is z_17 x_20 2).bind fun _ =>
    (f_X2_load x_20 a2 a3 x_21 z_17).bind fun z_22 =>
    (op_gR z_22 0 o 3).bind fun x_23 =>
    (op_gI z_22 2 a1 4).bind fun x_24 =>
    (op_is z_22 x_23 1).bind fun _ =>
    (f_X1_set x_23 x_24.toInt64 ((x_5 + x_6).toInt64) z_22).bind fun z_25 =>
    (op_gR z_25 0 o 3).bind fun x_26 =>
    (op_gR z_25 0 o 4).bind fun x_27 =>
    (op_is z_25 x_26 1).bind fun _ =>
    (f_X1_times x_26 x_27 z_25).bind fun z_28 =>
    (op_gR z_28 0 o 2).bind fun x_29 =>
    (op_gR z_28 0 o 3).bind fun x_30 =>
    (op_is z_28 x_29 1).bind fun _ =>
    (f_X1_add x_29 (1 : Int32) x_30 z_28).bind fun z_31 =>
    some z_31
set_option maxHeartbeats 4000000 in
set_option maxRecDepth 100000 in
theorem c_X0_mix (l : Launch) (D : va_G) (cA : Nat → ClassId) (ad : Nat → Nat) (d : Nat) (rc : Nat → Int32 → Int32 → Int32 → Int32 → Mm → Option (Mm)) (hrc : ∀ (b0 : Nat) (b1 : Int32) (b2 : Int32) (b3 : Int32) (b4 : Int32) (Mz : Mm) (z : Mm), rc b0 b1 b2 b3 b4 Mz = some z → KV l yX0_reckon cX0_reckon 7 none (rm_X0_reckon d) D cA ad [.ref (ad b0), .int b1, .int b2, .int b3, .int b4] Mz z) (o : Nat) (a1 : Nat) (a2 : Int32) (a3 : Int32) (a4 : Int32) (M : Mm) (zr : Mm) (hf : f_X0_mix rc o a1 a2 a3 a4 M = some zr) : KV l yX0_mix cX0_mix 7 none (rm_X0_mix d) D cA ad [.ref (ad o), .ref (ad a1), .int a2, .int a3, .int a4] M zr := by
  refine KV_of (by decide) (Nat.le_of_ble_eq_true rfl) ?_
  intro p e s m args below meth c ls Q A H locs hZ hE hl hret
  have hx := hZ.1
  have hb := hZ.2.1
  have hown := hZ.2.2.2.1
  have hts := hZ.2.2.2.2.1
  have hl : lv_has ls 7 [(0, .ref (ad o)), (1, .ref (ad a1)), (2, .int a2), (3, .int a3), (4, .int a4)] := hl
  unfold f_X0_mix at hf
  refine lv_aload_n hx hb dX0_mix_0 rfl (lv_at hl 0 rfl) ?_
  refine lv_aload_n hx hb dX0_mix_1 rfl (lv_at hl 1 rfl) ?_
  obtain ⟨x_1, g_1, hf⟩ := b_some hf
  refine xx_gIN hZ hE k_X2 1 (by decide) rfl tw_167 g_1 dX0_mix_2 ?_
  refine lv_iload_n hx hb dX0_mix_5 rfl (lv_at hl 2 rfl) ?_
  refine lv_iload_n hx hb dX0_mix_6 rfl (lv_at hl 3 rfl) ?_
  refine lv_iload hx hb dX0_mix_7 (lv_at hl 4 rfl) ?_
  refine lv_iconst (v := 1) hx hb dX0_mix_9 (by decide) ?_
  refine lv_iadd hx hb dX0_mix_10 ?_
  obtain ⟨_, i_2, hf⟩ := b_some hf
  obtain ⟨z_2, c_2, hf⟩ := b_some hf
  refine xx_cVv hZ hE (As := [.int x_1, .int a2, .int a3, .int (a4 + (1 : Int32))]) (rest := []) k_X0 (is_m i_2) tw_169 tw_170 (hrc o x_1 a2 a3 (a4 + (1 : Int32)) M _ c_2) cw_X0_reckon tw_168 ⟨rfl, rfl⟩ ⟨by show 40 + 3 * (d) + 1 ≤ 41 + 3 * (d); omega, by show 8 + (7 + 11) + (2000 + 100 * (d)) ≤ 2050 + 100 * (d); omega⟩ rfl hl.1 rfl (Nat.le_of_ble_eq_true rfl) ⟨Nat.le_of_ble_eq_true rfl, Nat.le_of_ble_eq_true rfl⟩ dX0_mix_11 (fun H locs hE => ?_)
  refine lv_aload_n hx hb dX0_mix_14 rfl (lv_at hl 0 rfl) ?_
  refine lv_aload_n hx hb dX0_mix_15 rfl (lv_at hl 1 rfl) ?_
  obtain ⟨x_3, g_3, hf⟩ := b_some hf
  refine xx_gIN hZ hE k_X2 2 (by decide) rfl tw_171 g_3 dX0_mix_16 ?_
  refine lv_iload_n hx hb dX0_mix_19 rfl (lv_at hl 2 rfl) ?_
  refine lv_iload_n hx hb dX0_mix_20 rfl (lv_at hl 3 rfl) ?_
  refine lv_iload hx hb dX0_mix_21 (lv_at hl 4 rfl) ?_
  refine lv_iconst (v := 1) hx hb dX0_mix_23 (by decide) ?_
  refine lv_iadd hx hb dX0_mix_24 ?_
  obtain ⟨_, i_4, hf⟩ := b_some hf
  obtain ⟨z_4, c_4, hf⟩ := b_some hf
  refine xx_cVv hZ hE (As := [.int x_3, .int a2, .int a3, .int (a4 + (1 : Int32))]) (rest := []) k_X0 (is_m i_4) tw_169 tw_170 (hrc o x_3 a2 a3 (a4 + (1 : Int32)) z_2 _ c_4) cw_X0_reckon tw_168 ⟨rfl, rfl⟩ ⟨by show 40 + 3 * (d) + 1 ≤ 41 + 3 * (d); omega, by show 8 + (7 + 11) + (2000 + 100 * (d)) ≤ 2050 + 100 * (d); omega⟩ rfl hl.1 rfl (Nat.le_of_ble_eq_true rfl) ⟨Nat.le_of_ble_eq_true rfl, Nat.le_of_ble_eq_true rfl⟩ dX0_mix_25 (fun H locs hE => ?_)
  refine lv_aload_n hx hb dX0_mix_28 rfl (lv_at hl 1 rfl) ?_
  obtain ⟨x_5, g_5, hf⟩ := b_some hf
  refine xx_gIN hZ hE k_X2 3 (by decide) rfl tw_172 g_5 dX0_mix_29 ?_
  refine lv_aload_n hx hb dX0_mix_32 rfl (lv_at hl 1 rfl) ?_
  obtain ⟨x_6, g_6, hf⟩ := b_some hf
  refine xx_gIN hZ hE k_X2 4 (by decide) rfl tw_173 g_6 dX0_mix_33 ?_
  refine lv_iadd hx hb dX0_mix_36 ?_
  refine lv_i2l hx hb dX0_mix_37 rfl ?_
  refine lv_lstore (lv' := [(5, .long ((x_5 + x_6).toInt64)), (0, .ref (ad o)), (1, .ref (ad a1)), (2, .int a2), (3, .int a3), (4, .int a4)]) hx hb dX0_mix_38 hl (by decide) rfl (fun ls hl => ?_)
  refine lv_aload_n hx hb dX0_mix_40 rfl (lv_at hl 1 rfl) ?_
  obtain ⟨x_7, g_7, hf⟩ := b_some hf
  refine xx_gR hZ hE k_X0 1 (by decide) rfl tw_174 g_7 dX0_mix_41 ?_
  refine lv_aload_n hx hb dX0_mix_44 rfl (lv_at hl 2 rfl) ?_
  obtain ⟨x_8, g_8, hf⟩ := b_some hf
  refine xx_gIN hZ hE k_X2 1 (by decide) rfl tw_167 g_8 dX0_mix_45 ?_
  obtain ⟨x_9, g_9, hf⟩ := b_some hf
  refine xx_aR hZ hE g_9 dX0_mix_48 ?_
  refine lv_iload_n hx hb dX0_mix_49 rfl (lv_at hl 3 rfl) ?_
  refine lv_iload_n hx hb dX0_mix_50 rfl (lv_at hl 4 rfl) ?_
  refine lv_aload_n hx hb dX0_mix_51 rfl (lv_at hl 1 rfl) ?_
  obtain ⟨x_10, g_10, hf⟩ := b_some hf
  refine xx_gR hZ hE k_X0 3 (by decide) rfl tw_145 g_10 dX0_mix_52 ?_
  obtain ⟨_, i_11, hf⟩ := b_some hf
  obtain ⟨z_11, c_11, hf⟩ := b_some hf
  refine xx_cVNv hZ hE (As := [.int a2, .int a3, .ref (ad x_10)]) (rest := []) k_X2 (is_m i_11) tw_176 tw_177 (c_X2_load l D cA ad x_9 a2 a3 x_10 z_4 _ c_11) cw_X2_load tw_175 ⟨rfl, rfl⟩ ⟨by show 1 + 1 ≤ 41 + 3 * (d); omega, by show 8 + (4 + 11) + (21) ≤ 2050 + 100 * (d); omega⟩ rfl hl.1 rfl (Nat.le_of_ble_eq_true rfl) ⟨Nat.le_of_ble_eq_true rfl, Nat.le_of_ble_eq_true rfl⟩ dX0_mix_55 (fun H locs hE => ?_)
  refine lv_aload_n hx hb dX0_mix_58 rfl (lv_at hl 1 rfl) ?_
  obtain ⟨x_12, g_12, hf⟩ := b_some hf
  refine xx_gR hZ hE k_X0 2 (by decide) rfl tw_115 g_12 dX0_mix_59 ?_
  refine lv_aload_n hx hb dX0_mix_62 rfl (lv_at hl 2 rfl) ?_
  obtain ⟨x_13, g_13, hf⟩ := b_some hf
  refine xx_gIN hZ hE k_X2 3 (by decide) rfl tw_172 g_13 dX0_mix_63 ?_
  refine lv_i2l hx hb dX0_mix_66 rfl ?_
  refine lv_lload hx hb dX0_mix_67 (lv_at hl 0 rfl) ?_
  obtain ⟨_, i_14, hf⟩ := b_some hf
  obtain ⟨z_14, c_14, hf⟩ := b_some hf
  refine xx_cVNv hZ hE (As := [.long x_13.toInt64, .long ((x_5 + x_6).toInt64)]) (rest := []) k_X1 (is_m i_14) tw_121 tw_122 (c_X1_set l D cA ad x_12 x_13.toInt64 ((x_5 + x_6).toInt64) z_11 _ c_14) cw_X1_set tw_120 ⟨rfl, rfl⟩ ⟨by show 1 + 1 ≤ 41 + 3 * (d); omega, by show 8 + (7 + 11) + (30) ≤ 2050 + 100 * (d); omega⟩ rfl hl.1 rfl (Nat.le_of_ble_eq_true rfl) ⟨Nat.le_of_ble_eq_true rfl, Nat.le_of_ble_eq_true rfl⟩ dX0_mix_69 (fun H locs hE => ?_)
  refine lv_aload_n hx hb dX0_mix_72 rfl (lv_at hl 1 rfl) ?_
  obtain ⟨x_15, g_15, hf⟩ := b_some hf
  refine xx_gR hZ hE k_X0 2 (by decide) rfl tw_115 g_15 dX0_mix_73 ?_
  refine lv_aload_n hx hb dX0_mix_76 rfl (lv_at hl 1 rfl) ?_
  obtain ⟨x_16, g_16, hf⟩ := b_some hf
  refine xx_gR hZ hE k_X0 3 (by decide) rfl tw_145 g_16 dX0_mix_77 ?_
  obtain ⟨_, i_17, hf⟩ := b_some hf
  obtain ⟨z_17, c_17, hf⟩ := b_some hf
  refine xx_cVNv hZ hE (As := [.ref (ad x_16)]) (rest := []) k_X1 (is_m i_17) tw_179 tw_180 (c_X1_times l D cA ad x_15 x_16 z_14 _ c_17) cw_X1_times tw_178 ⟨rfl, rfl⟩ ⟨by show 2 + 1 ≤ 41 + 3 * (d); omega, by show 8 + (2 + 11) + (56) ≤ 2050 + 100 * (d); omega⟩ rfl hl.1 rfl (Nat.le_of_ble_eq_true rfl) ⟨Nat.le_of_ble_eq_true rfl, Nat.le_of_ble_eq_true rfl⟩ dX0_mix_80 (fun H locs hE => ?_)
  refine lv_aload_n hx hb dX0_mix_83 rfl (lv_at hl 1 rfl) ?_
  obtain ⟨x_18, g_18, hf⟩ := b_some hf
  refine xx_gR hZ hE k_X0 1 (by decide) rfl tw_174 g_18 dX0_mix_84 ?_
  refine lv_aload_n hx hb dX0_mix_87 rfl (lv_at hl 2 rfl) ?_
  obtain ⟨x_19, g_19, hf⟩ := b_some hf
  refine xx_gIN hZ hE k_X2 2 (by decide) rfl tw_171 g_19 dX0_mix_88 ?_
  obtain ⟨x_20, g_20, hf⟩ := b_some hf
  refine xx_aR hZ hE g_20 dX0_mix_91 ?_
  refine lv_iload_n hx hb dX0_mix_92 rfl (lv_at hl 3 rfl) ?_
  refine lv_iload_n hx hb dX0_mix_93 rfl (lv_at hl 4 rfl) ?_
  refine lv_aload_n hx hb dX0_mix_94 rfl (lv_at hl 1 rfl) ?_
  obtain ⟨x_21, g_21, hf⟩ := b_some hf
  refine xx_gR hZ hE k_X0 4 (by decide) rfl tw_181 g_21 dX0_mix_95 ?_
  obtain ⟨_, i_22, hf⟩ := b_some hf
  obtain ⟨z_22, c_22, hf⟩ := b_some hf
  refine xx_cVNv hZ hE (As := [.int a2, .int a3, .ref (ad x_21)]) (rest := []) k_X2 (is_m i_22) tw_176 tw_177 (c_X2_load l D cA ad x_20 a2 a3 x_21 z_17 _ c_22) cw_X2_load tw_175 ⟨rfl, rfl⟩ ⟨by show 1 + 1 ≤ 41 + 3 * (d); omega, by show 8 + (4 + 11) + (21) ≤ 2050 + 100 * (d); omega⟩ rfl hl.1 rfl (Nat.le_of_ble_eq_true rfl) ⟨Nat.le_of_ble_eq_true rfl, Nat.le_of_ble_eq_true rfl⟩ dX0_mix_98 (fun H locs hE => ?_)
  refine lv_aload_n hx hb dX0_mix_101 rfl (lv_at hl 1 rfl) ?_
  obtain ⟨x_23, g_23, hf⟩ := b_some hf
  refine xx_gR hZ hE k_X0 3 (by decide) rfl tw_145 g_23 dX0_mix_102 ?_
  refine lv_aload_n hx hb dX0_mix_105 rfl (lv_at hl 2 rfl) ?_
  obtain ⟨x_24, g_24, hf⟩ := b_some hf
  refine xx_gIN hZ hE k_X2 4 (by decide) rfl tw_173 g_24 dX0_mix_106 ?_
  refine lv_i2l hx hb dX0_mix_109 rfl ?_
  refine lv_lload hx hb dX0_mix_110 (lv_at hl 0 rfl) ?_
  obtain ⟨_, i_25, hf⟩ := b_some hf
  obtain ⟨z_25, c_25, hf⟩ := b_some hf
  refine xx_cVNv hZ hE (As := [.long x_24.toInt64, .long ((x_5 + x_6).toInt64)]) (rest := []) k_X1 (is_m i_25) tw_121 tw_122 (c_X1_set l D cA ad x_23 x_24.toInt64 ((x_5 + x_6).toInt64) z_22 _ c_25) cw_X1_set tw_120 ⟨rfl, rfl⟩ ⟨by show 1 + 1 ≤ 41 + 3 * (d); omega, by show 8 + (7 + 11) + (30) ≤ 2050 + 100 * (d); omega⟩ rfl hl.1 rfl (Nat.le_of_ble_eq_true rfl) ⟨Nat.le_of_ble_eq_true rfl, Nat.le_of_ble_eq_true rfl⟩ dX0_mix_112 (fun H locs hE => ?_)
  refine lv_aload_n hx hb dX0_mix_115 rfl (lv_at hl 1 rfl) ?_
  obtain ⟨x_26, g_26, hf⟩ := b_some hf
  refine xx_gR hZ hE k_X0 3 (by decide) rfl tw_145 g_26 dX0_mix_116 ?_
  refine lv_aload_n hx hb dX0_mix_119 rfl (lv_at hl 1 rfl) ?_
  obtain ⟨x_27, g_27, hf⟩ := b_some hf
  refine xx_gR hZ hE k_X0 4 (by decide) rfl tw_181 g_27 dX0_mix_120 ?_
  obtain ⟨_, i_28, hf⟩ := b_some hf
  obtain ⟨z_28, c_28, hf⟩ := b_some hf
  refine xx_cVNv hZ hE (As := [.ref (ad x_27)]) (rest := []) k_X1 (is_m i_28) tw_179 tw_180 (c_X1_times l D cA ad x_26 x_27 z_25 _ c_28) cw_X1_times tw_178 ⟨rfl, rfl⟩ ⟨by show 2 + 1 ≤ 41 + 3 * (d); omega, by show 8 + (2 + 11) + (56) ≤ 2050 + 100 * (d); omega⟩ rfl hl.1 rfl (Nat.le_of_ble_eq_true rfl) ⟨Nat.le_of_ble_eq_true rfl, Nat.le_of_ble_eq_true rfl⟩ dX0_mix_123 (fun H locs hE => ?_)
  refine lv_aload_n hx hb dX0_mix_126 rfl (lv_at hl 1 rfl) ?_
  obtain ⟨x_29, g_29, hf⟩ := b_some hf
  refine xx_gR hZ hE k_X0 2 (by decide) rfl tw_115 g_29 dX0_mix_127 ?_
  refine lv_iconst (v := 1) hx hb dX0_mix_130 (by decide) ?_
  refine lv_aload_n hx hb dX0_mix_131 rfl (lv_at hl 1 rfl) ?_
  obtain ⟨x_30, g_30, hf⟩ := b_some hf
  refine xx_gR hZ hE k_X0 3 (by decide) rfl tw_145 g_30 dX0_mix_132 ?_
  obtain ⟨_, i_31, hf⟩ := b_some hf
  obtain ⟨z_31, c_31, hf⟩ := b_some hf
  refine xx_cVNv hZ hE (As := [.int (1 : Int32), .ref (ad x_30)]) (rest := []) k_X1 (is_m i_31) tw_150 tw_151 (c_X1_add l D cA ad x_29 (1 : Int32) x_30 z_28 _ c_31) cw_X1_add tw_149 ⟨rfl, rfl⟩ ⟨by show 2 + 1 ≤ 41 + 3 * (d); omega, by show 8 + (13 + 11) + (56) ≤ 2050 + 100 * (d); omega⟩ rfl hl.1 rfl (Nat.le_of_ble_eq_true rfl) ⟨Nat.le_of_ble_eq_true rfl, Nat.le_of_ble_eq_true rfl⟩ dX0_mix_135 (fun H locs hE => ?_)
  exact hret _ _ _ _ _ (Option.some.inj hf) dX0_mix_138 hE
def lp_X0_cycle_3 (k_51 : Mm → Option (Mm)) (rc : Nat → Int32 → Int32 → Int32 → Int32 → Mm → Option (Mm)) (i_0 : Nat) (i_1 : Nat) (i_2 : Int32) (i_3 : Int32) (i_4 : Int32) : Nat → Int32 → Mm → Option (Mm)
  | 0, _, _ => none
  | n_3 + 1, v_5, M =>
    (op_gR M 0 i_0 0).bind fun x_1 =>
    (op_gI M 3 x_1 1).bind fun x_2 =>
    if x_2 ≤ v_5 then
    k_51 M
    else
    (op_gI M 2 i_1 1).bind fun x_4 =>
    (op_is M i_0 0).bind fun _ =>
    (rc i_0 x_4 i_2 v_5 (i_4 + (1 : Int32)) M).bind fun z_5 =>
    (op_gI z_5 2 i_1 2).bind fun x_6 =>
    (op_is z_5 i_0 0).bind fun _ =>
    (rc i_0 x_6 v_5 i_3 (i_4 + (1 : Int32)) z_5).bind fun z_7 =>
    lp_X0_cycle_3 k_51 rc i_0 i_1 i_2 i_3 i_4 n_3 (v_5 + 1) z_7
theorem lp_X0_cycle_3_s (k_51 : Mm → Option (Mm)) (rc : Nat → Int32 → Int32 → Int32 → Int32 → Mm → Option (Mm)) (i_0 : Nat) (i_1 : Nat) (i_2 : Int32) (i_3 : Int32) (i_4 : Int32) {n_3 : Nat} {v_5 : Int32} {M : Mm} {zr : Mm} (hf : lp_X0_cycle_3 k_51 rc i_0 i_1 i_2 i_3 i_4 (n_3 + 1) v_5 M = some zr) : (
    (op_gR M 0 i_0 0).bind fun x_1 =>
    (op_gI M 3 x_1 1).bind fun x_2 =>
    if x_2 ≤ v_5 then
    k_51 M
    else
    (op_gI M 2 i_1 1).bind fun x_4 =>
    (op_is M i_0 0).bind fun _ =>
    (rc i_0 x_4 i_2 v_5 (i_4 + (1 : Int32)) M).bind fun z_5 =>
    (op_gI z_5 2 i_1 2).bind fun x_6 =>
    (op_is z_5 i_0 0).bind fun _ =>
    (rc i_0 x_6 v_5 i_3 (i_4 + (1 : Int32)) z_5).bind fun z_7 =>
    lp_X0_cycle_3 k_51 rc i_0 i_1 i_2 i_3 i_4 n_3 (v_5 + 1) z_7) = some zr := hf
def lp_X0_cycle_63 (rc : Nat → Int32 → Int32 → Int32 → Int32 → Mm → Option (Mm)) (i_0 : Nat) (i_1 : Nat) (i_2 : Int32) (i_3 : Int32) : Nat → Int32 → Mm → Option (Mm)
  | 0, _, _ => none
  | n_63 + 1, v_5, M =>
    (op_gR M 0 i_0 0).bind fun x_12 =>
    (op_gI M 3 x_12 1).bind fun x_13 =>
    if x_13 ≤ v_5 then
    some M
    else
    (op_gR M 0 i_0 2).bind fun x_15 =>
    (op_gI M 1 x_15 2).bind fun x_16 =>
    if x_16 = 0 then
    some M
    else
    (op_gR M 0 i_0 1).bind fun x_18 =>
    (op_gI M 2 i_1 1).bind fun x_19 =>
    (op_aR M x_18 x_19).bind fun x_20 =>
    (op_gR M 0 i_0 3).bind fun x_21 =>
    (op_is M x_20 2).bind fun _ =>
    (f_X2_load x_20 i_2 v_5 x_21 M).bind fun z_22 =>
    (op_gR z_22 0 i_0 1).bind fun x_23 =>
    (op_gI z_22 2 i_1 2).bind fun x_24 =>
    (op_aR z_22 x_23 x_24).bind fun x_25 =>
    (op_gR z_22 0 i_0 4).bind fun x_26 =>
    (op_is z_22 x_25 2).bind fun _ =>
    (f_X2_load x_25 v_5 i_3 x_26 z_22).bind fun z_27 =>
    (op_gR z_27 0 i_0 3).bind fun x_28 =>
    (op_gR z_27 0 i_0 4).bind fun x_29 =>
    (op_is z_27 x_28 1).bind fun _ =>
    (f_X1_times x_28 x_29 z_27).bind fun z_30 =>
    (op_gR z_30 0 i_0 2).bind fun x_31 =>
    (op_gR z_30 0 i_0 3).bind fun x_32 =>
    (op_is z_30 x_31 1).bind fun _ =>
    (f_X1_add x_31 (1 : Int32) x_32 z_30).bind fun z_33 =>
    lp_X0_cycle_63 rc i_0 i_1 i_2 i_3 n_63 (v_5 + 1) z_33
theorem lp_X0_cycle_63_s (rc : Nat → Int32 → Int32 → Int32 → Int32 → Mm → Option (Mm)) (i_0 : Nat) (i_1 : Nat) (i_2 : Int32) (i_3 : Int32) {n_63 : Nat} {v_5 : Int32} {M : Mm} {zr : Mm} (hf : lp_X0_cycle_63 rc i_0 i_1 i_2 i_3 (n_63 + 1) v_5 M = some zr) : (
    (op_gR M 0 i_0 0).bind fun x_12 =>
    (op_gI M 3 x_12 1).bind fun x_13 =>
    if x_13 ≤ v_5 then
    some M
    else
    (op_gR M 0 i_0 2).bind fun x_15 =>
    (op_gI M 1 x_15 2).bind fun x_16 =>
    if x_16 = 0 then
    some M
    else
    (op_gR M 0 i_0 1).bind fun x_18 =>
    (op_gI M 2 i_1 1).bind fun x_19 =>
    (op_aR M x_18 x_19).bind fun x_20 =>
    (op_gR M 0 i_0 3).bind fun x_21 =>
    (op_is M x_20 2).bind fun _ =>
    (f_X2_load x_20 i_2 v_5 x_21 M).bind fun z_22 =>
    (op_gR z_22 0 i_0 1).bind fun x_23 =>
    (op_gI z_22 2 i_1 2).bind fun x_24 =>
    (op_aR z_22 x_23 x_24).bind fun x_25 =>
    (op_gR z_22 0 i_0 4).bind fun x_26 =>
    (op_is z_22 x_25 2).bind fun _ =>
    (f_X2_load x_25 v_5 i_3 x_26 z_22).bind fun z_27 =>
    (op_gR z_27 0 i_0 3).bind fun x_28 =>
    (op_gR z_27 0 i_0 4).bind fun x_29 =>
    (op_is z_27 x_28 1).bind fun _ =>
    (f_X1_times x_28 x_29 z_27).bind fun z_30 =>
    (op_gR z_30 0 i_0 2).bind fun x_31 =>
    (op_gR z_30 0 i_0 3).bind fun x_32 =>
    (op_is z_30 x_31 1).bind fun _ =>
    (f_X1_add x_31 (1 : Int32) x_32 z_30).bind fun z_33 =>
    lp_X0_cycle_63 rc i_0 i_1 i_2 i_3 n_63 (v_5 + 1) z_33) = some zr := hf
theorem lp_X0_cycle_3_k {k_51 : Mm → Option (Mm)} {rc : Nat → Int32 → Int32 → Int32 → Int32 → Mm → Option (Mm)} {i_0 : Nat} {i_1 : Nat} {i_2 : Int32} {i_3 : Int32} {i_4 : Int32} {n : Nat} {v_5 : Int32} {M : Mm} {zr : Mm} (hf : lp_X0_cycle_3 k_51 rc i_0 i_1 i_2 i_3 i_4 n v_5 M = some zr) : ∃ (m_51 : Mm → Option (Mm)), m_51 = k_51 ∧ lp_X0_cycle_3 m_51 rc i_0 i_1 i_2 i_3 i_4 n v_5 M = some zr := ⟨k_51, rfl, hf⟩
def rm_X0_cycle (d : Nat) : Room := { frames := 41 + 3 * (d), cells := 0, slots := 0, locals := 2050 + 100 * (d) }
def f_X0_cycle (rc : Nat → Int32 → Int32 → Int32 → Int32 → Mm → Option (Mm)) (o : Nat) (a1 : Nat) (a2 : Int32) (a3 : Int32) (a4 : Int32) (M : Mm) : Option (Mm) :=
    lp_X0_cycle_3 (fun (M_9 : Mm) =>
    (op_gR M_9 0 o 2).bind fun x_10 =>
    (op_is M_9 x_10 1).bind fun _ =>
    (f_X1_set x_10 (0 : Int64) (1 : Int64) M_9).bind fun z_11 =>
    lp_X0_cycle_63  rc o a1 a2 a3 FU (0 : Int32) z_11) rc o a1 a2 a3 a4 FU (0 : Int32) M
set_option maxHeartbeats 4000000 in
set_option maxRecDepth 100000 in
theorem c_X0_cycle (l : Launch) (D : va_G) (cA : Nat → ClassId) (ad : Nat → Nat) (d : Nat) (rc : Nat → Int32 → Int32 → Int32 → Int32 → Mm → Option (Mm)) (hrc : ∀ (b0 : Nat) (b1 : Int32) (b2 : Int32) (b3 : Int32) (b4 : Int32) (Mz : Mm) (z : Mm), rc b0 b1 b2 b3 b4 Mz = some z → KV l yX0_reckon cX0_reckon 7 none (rm_X0_reckon d) D cA ad [.ref (ad b0), .int b1, .int b2, .int b3, .int b4] Mz z) (o : Nat) (a1 : Nat) (a2 : Int32) (a3 : Int32) (a4 : Int32) (M : Mm) (zr : Mm) (hf : f_X0_cycle rc o a1 a2 a3 a4 M = some zr) : KV l yX0_cycle cX0_cycle 6 none (rm_X0_cycle d) D cA ad [.ref (ad o), .ref (ad a1), .int a2, .int a3, .int a4] M zr := by
  refine KV_of (by decide) (Nat.le_of_ble_eq_true rfl) ?_
  intro p e s m args below meth c ls Q A H locs hZ hE hl hret
  have hx := hZ.1
  have hb := hZ.2.1
  have hown := hZ.2.2.2.1
  have hts := hZ.2.2.2.2.1
  have hl : lv_has ls 6 [(0, .ref (ad o)), (1, .ref (ad a1)), (2, .int a2), (3, .int a3), (4, .int a4)] := hl
  unfold f_X0_cycle at hf
  refine lv_iconst (v := 0) hx hb dX0_cycle_0 (by decide) ?_
  refine lv_istore (lv' := [(5, .int (0 : Int32)), (0, .ref (ad o)), (1, .ref (ad a1)), (2, .int a2), (3, .int a3), (4, .int a4)]) hx hb dX0_cycle_1 hl (by decide) rfl (fun ls hl => ?_)
  obtain ⟨k_51_9, ek_51_9, hf⟩ := lp_X0_cycle_3_k hf
  have o_51_9 : ∀ (M_9 : Mm) (H : Heap) (locs : List Loc) (ls : Array Slot), k_51_9 M_9 = some zr → En D cA ad s A M_9 H locs → lv_has ls 6 [(0, .ref (ad o)), (1, .ref (ad a1)), (2, .int a2), (3, .int a3)] → W p l e (rm_X0_cycle d) s m args below meth c H locs 0 0 Q (F0 m 51 ls []) := by
    intro M_9 H locs ls hf hE hl
    rw [ek_51_9] at hf
    refine lv_aload_n hx hb dX0_cycle_51 rfl (lv_at hl 0 rfl) ?_
    obtain ⟨x_10, g_10, hf⟩ := b_some hf
    refine xx_gR hZ hE k_X0 2 (by decide) rfl tw_115 g_10 dX0_cycle_52 ?_
    refine lv_lconst (v := 0) hx hb dX0_cycle_55 (by decide) ?_
    refine lv_lconst (v := 1) hx hb dX0_cycle_56 (by decide) ?_
    obtain ⟨_, i_11, hf⟩ := b_some hf
    obtain ⟨z_11, c_11, hf⟩ := b_some hf
    refine xx_cVNv hZ hE (As := [.long (0 : Int64), .long (1 : Int64)]) (rest := []) k_X1 (is_m i_11) tw_121 tw_122 (c_X1_set l D cA ad x_10 (0 : Int64) (1 : Int64) M_9 _ c_11) cw_X1_set tw_120 ⟨rfl, rfl⟩ ⟨by show 1 + 1 ≤ 41 + 3 * (d); omega, by show 8 + (7 + 11) + (30) ≤ 2050 + 100 * (d); omega⟩ rfl hl.1 rfl (Nat.le_of_ble_eq_true rfl) ⟨Nat.le_of_ble_eq_true rfl, Nat.le_of_ble_eq_true rfl⟩ dX0_cycle_57 (fun H locs hE => ?_)
    refine lv_iconst (v := 0) hx hb dX0_cycle_60 (by decide) ?_
    refine lv_istore (lv' := [(5, .int (0 : Int32)), (0, .ref (ad o)), (1, .ref (ad a1)), (2, .int a2), (3, .int a3)]) hx hb dX0_cycle_61 hl (by decide) rfl (fun ls hl => ?_)
    have L_34 : ∀ (n_63 : Nat) (w_34_5 : Int32) (M_34 : Mm) (H : Heap) (locs : List Loc) (ls : Array Slot), lp_X0_cycle_63 rc o a1 a2 a3 n_63 w_34_5 M_34 = some zr → En D cA ad s A M_34 H locs → lv_has ls 6 [(0, .ref (ad o)), (1, .ref (ad a1)), (2, .int a2), (3, .int a3), (5, .int w_34_5)] → W p l e (rm_X0_cycle d) s m args below meth c H locs 0 0 Q (F0 m 63 ls []) := by
      intro n_63
      induction n_63 with
      | zero =>
        intro w_34_5 M_34 H locs ls hf
        cases (show (none : Option (Mm)) = some zr from hf)
      | succ n_63 ih_63 =>
        intro w_34_5 M_34 H locs ls hf hE hl
        have hf := lp_X0_cycle_63_s _ _ _ _ _ hf
        refine lv_iload hx hb dX0_cycle_63 (lv_at hl 4 rfl) ?_
        refine lv_aload_n hx hb dX0_cycle_65 rfl (lv_at hl 0 rfl) ?_
        obtain ⟨x_35, g_35, hf⟩ := b_some hf
        refine xx_gR hZ hE k_X0 0 (by decide) rfl tw_111 g_35 dX0_cycle_66 ?_
        obtain ⟨x_36, g_36, hf⟩ := b_some hf
        refine xx_gIN hZ hE k_X3 1 (by decide) rfl tw_144 g_36 dX0_cycle_69 ?_
        refine lv_icmp_ge (tgt := 152) hx hb dX0_cycle_72 (by decide) (fun h_37 => ?_) (fun h_37 => ?_)
        · have hf := it_y h_37 hf
          exact hret _ _ _ _ _ (Option.some.inj hf) dX0_cycle_152 hE
        · have hf := it_n h_37 hf
          refine lv_aload_n hx hb dX0_cycle_75 rfl (lv_at hl 0 rfl) ?_
          obtain ⟨x_38, g_38, hf⟩ := b_some hf
          refine xx_gR hZ hE k_X0 2 (by decide) rfl tw_115 g_38 dX0_cycle_76 ?_
          obtain ⟨x_39, g_39, hf⟩ := b_some hf
          refine xx_gIN hZ hE k_X1 2 (by decide) rfl tw_182 g_39 dX0_cycle_79 ?_
          refine lv_if_eq (tgt := 152) hx hb dX0_cycle_82 (by decide) (fun h_40 => ?_) (fun h_40 => ?_)
          · have hf := it_y h_40 hf
            exact hret _ _ _ _ _ (Option.some.inj hf) dX0_cycle_152 hE
          · have hf := it_n h_40 hf
            refine lv_aload_n hx hb dX0_cycle_85 rfl (lv_at hl 0 rfl) ?_
            obtain ⟨x_41, g_41, hf⟩ := b_some hf
            refine xx_gR hZ hE k_X0 1 (by decide) rfl tw_174 g_41 dX0_cycle_86 ?_
            refine lv_aload_n hx hb dX0_cycle_89 rfl (lv_at hl 1 rfl) ?_
            obtain ⟨x_42, g_42, hf⟩ := b_some hf
            refine xx_gIN hZ hE k_X2 1 (by decide) rfl tw_167 g_42 dX0_cycle_90 ?_
            obtain ⟨x_43, g_43, hf⟩ := b_some hf
            refine xx_aR hZ hE g_43 dX0_cycle_93 ?_
            refine lv_iload_n hx hb dX0_cycle_94 rfl (lv_at hl 2 rfl) ?_
            refine lv_iload hx hb dX0_cycle_95 (lv_at hl 4 rfl) ?_
            refine lv_aload_n hx hb dX0_cycle_97 rfl (lv_at hl 0 rfl) ?_
            obtain ⟨x_44, g_44, hf⟩ := b_some hf
            refine xx_gR hZ hE k_X0 3 (by decide) rfl tw_145 g_44 dX0_cycle_98 ?_
            obtain ⟨_, i_45, hf⟩ := b_some hf
            obtain ⟨z_45, c_45, hf⟩ := b_some hf
            refine xx_cVNv hZ hE (As := [.int a2, .int w_34_5, .ref (ad x_44)]) (rest := []) k_X2 (is_m i_45) tw_176 tw_177 (c_X2_load l D cA ad x_43 a2 w_34_5 x_44 M_34 _ c_45) cw_X2_load tw_175 ⟨rfl, rfl⟩ ⟨by show 1 + 1 ≤ 41 + 3 * (d); omega, by show 8 + (4 + 11) + (21) ≤ 2050 + 100 * (d); omega⟩ rfl hl.1 rfl (Nat.le_of_ble_eq_true rfl) ⟨Nat.le_of_ble_eq_true rfl, Nat.le_of_ble_eq_true rfl⟩ dX0_cycle_101 (fun H locs hE => ?_)
            refine lv_aload_n hx hb dX0_cycle_104 rfl (lv_at hl 0 rfl) ?_
            obtain ⟨x_46, g_46, hf⟩ := b_some hf
            refine xx_gR hZ hE k_X0 1 (by decide) rfl tw_174 g_46 dX0_cycle_105 ?_
            refine lv_aload_n hx hb dX0_cycle_108 rfl (lv_at hl 1 rfl) ?_
            obtain ⟨x_47, g_47, hf⟩ := b_some hf
            refine xx_gIN hZ hE k_X2 2 (by decide) rfl tw_171 g_47 dX0_cycle_109 ?_
            obtain ⟨x_48, g_48, hf⟩ := b_some hf
            refine xx_aR hZ hE g_48 dX0_cycle_112 ?_
            refine lv_iload hx hb dX0_cycle_113 (lv_at hl 4 rfl) ?_
            refine lv_iload_n hx hb dX0_cycle_115 rfl (lv_at hl 3 rfl) ?_
            refine lv_aload_n hx hb dX0_cycle_116 rfl (lv_at hl 0 rfl) ?_
            obtain ⟨x_49, g_49, hf⟩ := b_some hf
            refine xx_gR hZ hE k_X0 4 (by decide) rfl tw_181 g_49 dX0_cycle_117 ?_
            obtain ⟨_, i_50, hf⟩ := b_some hf
            obtain ⟨z_50, c_50, hf⟩ := b_some hf
            refine xx_cVNv hZ hE (As := [.int w_34_5, .int a3, .ref (ad x_49)]) (rest := []) k_X2 (is_m i_50) tw_176 tw_177 (c_X2_load l D cA ad x_48 w_34_5 a3 x_49 z_45 _ c_50) cw_X2_load tw_175 ⟨rfl, rfl⟩ ⟨by show 1 + 1 ≤ 41 + 3 * (d); omega, by show 8 + (4 + 11) + (21) ≤ 2050 + 100 * (d); omega⟩ rfl hl.1 rfl (Nat.le_of_ble_eq_true rfl) ⟨Nat.le_of_ble_eq_true rfl, Nat.le_of_ble_eq_true rfl⟩ dX0_cycle_120 (fun H locs hE => ?_)
            refine lv_aload_n hx hb dX0_cycle_123 rfl (lv_at hl 0 rfl) ?_
            obtain ⟨x_51, g_51, hf⟩ := b_some hf
            refine xx_gR hZ hE k_X0 3 (by decide) rfl tw_145 g_51 dX0_cycle_124 ?_
            refine lv_aload_n hx hb dX0_cycle_127 rfl (lv_at hl 0 rfl) ?_
            obtain ⟨x_52, g_52, hf⟩ := b_some hf
            refine xx_gR hZ hE k_X0 4 (by decide) rfl tw_181 g_52 dX0_cycle_128 ?_
            obtain ⟨_, i_53, hf⟩ := b_some hf
            obtain ⟨z_53, c_53, hf⟩ := b_some hf
            refine xx_cVNv hZ hE (As := [.ref (ad x_52)]) (rest := []) k_X1 (is_m i_53) tw_179 tw_180 (c_X1_times l D cA ad x_51 x_52 z_50 _ c_53) cw_X1_times tw_178 ⟨rfl, rfl⟩ ⟨by show 2 + 1 ≤ 41 + 3 * (d); omega, by show 8 + (2 + 11) + (56) ≤ 2050 + 100 * (d); omega⟩ rfl hl.1 rfl (Nat.le_of_ble_eq_true rfl) ⟨Nat.le_of_ble_eq_true rfl, Nat.le_of_ble_eq_true rfl⟩ dX0_cycle_131 (fun H locs hE => ?_)
            refine lv_aload_n hx hb dX0_cycle_134 rfl (lv_at hl 0 rfl) ?_
            obtain ⟨x_54, g_54, hf⟩ := b_some hf
            refine xx_gR hZ hE k_X0 2 (by decide) rfl tw_115 g_54 dX0_cycle_135 ?_
            refine lv_iconst (v := 1) hx hb dX0_cycle_138 (by decide) ?_
            refine lv_aload_n hx hb dX0_cycle_139 rfl (lv_at hl 0 rfl) ?_
            obtain ⟨x_55, g_55, hf⟩ := b_some hf
            refine xx_gR hZ hE k_X0 3 (by decide) rfl tw_145 g_55 dX0_cycle_140 ?_
            obtain ⟨_, i_56, hf⟩ := b_some hf
            obtain ⟨z_56, c_56, hf⟩ := b_some hf
            refine xx_cVNv hZ hE (As := [.int (1 : Int32), .ref (ad x_55)]) (rest := []) k_X1 (is_m i_56) tw_150 tw_151 (c_X1_add l D cA ad x_54 (1 : Int32) x_55 z_53 _ c_56) cw_X1_add tw_149 ⟨rfl, rfl⟩ ⟨by show 2 + 1 ≤ 41 + 3 * (d); omega, by show 8 + (13 + 11) + (56) ≤ 2050 + 100 * (d); omega⟩ rfl hl.1 rfl (Nat.le_of_ble_eq_true rfl) ⟨Nat.le_of_ble_eq_true rfl, Nat.le_of_ble_eq_true rfl⟩ dX0_cycle_143 (fun H locs hE => ?_)
            refine lv_iinc (v := (w_34_5 + 1)) (lv' := [(5, .int (w_34_5 + 1)), (0, .ref (ad o)), (1, .ref (ad a1)), (2, .int a2), (3, .int a3)]) hx hb dX0_cycle_146 hl (k := 4) rfl rfl (by decide) rfl (fun ls hl => ?_)
            refine lv_goto (tgt := 63) hx hb dX0_cycle_149 (by decide) ?_
            exact ih_63 _ _ _ _ _ hf hE (lv_sub hl [1, 2, 3, 4, 0] rfl)
    exact L_34 _ _ _ _ _ _ hf hE (lv_sub hl [1, 2, 3, 4, 0] rfl)
  have L_8 : ∀ (n_3 : Nat) (w_8_5 : Int32) (M_8 : Mm) (H : Heap) (locs : List Loc) (ls : Array Slot), lp_X0_cycle_3 k_51_9 rc o a1 a2 a3 a4 n_3 w_8_5 M_8 = some zr → En D cA ad s A M_8 H locs → lv_has ls 6 [(0, .ref (ad o)), (1, .ref (ad a1)), (2, .int a2), (3, .int a3), (4, .int a4), (5, .int w_8_5)] → W p l e (rm_X0_cycle d) s m args below meth c H locs 0 0 Q (F0 m 3 ls []) := by
    intro n_3
    induction n_3 with
    | zero =>
      intro w_8_5 M_8 H locs ls hf
      cases (show (none : Option (Mm)) = some zr from hf)
    | succ n_3 ih_3 =>
      intro w_8_5 M_8 H locs ls hf hE hl
      have hf := lp_X0_cycle_3_s _ _ _ _ _ _ _ hf
      refine lv_iload hx hb dX0_cycle_3 (lv_at hl 5 rfl) ?_
      refine lv_aload_n hx hb dX0_cycle_5 rfl (lv_at hl 0 rfl) ?_
      obtain ⟨x_57, g_57, hf⟩ := b_some hf
      refine xx_gR hZ hE k_X0 0 (by decide) rfl tw_111 g_57 dX0_cycle_6 ?_
      obtain ⟨x_58, g_58, hf⟩ := b_some hf
      refine xx_gIN hZ hE k_X3 1 (by decide) rfl tw_144 g_58 dX0_cycle_9 ?_
      refine lv_icmp_ge (tgt := 51) hx hb dX0_cycle_12 (by decide) (fun h_59 => ?_) (fun h_59 => ?_)
      · have hf := it_y h_59 hf
        exact o_51_9 _ _ _ _ hf hE (lv_sub hl [0, 1, 2, 3] rfl)
      · have hf := it_n h_59 hf
        refine lv_aload_n hx hb dX0_cycle_15 rfl (lv_at hl 0 rfl) ?_
        refine lv_aload_n hx hb dX0_cycle_16 rfl (lv_at hl 1 rfl) ?_
        obtain ⟨x_60, g_60, hf⟩ := b_some hf
        refine xx_gIN hZ hE k_X2 1 (by decide) rfl tw_167 g_60 dX0_cycle_17 ?_
        refine lv_iload_n hx hb dX0_cycle_20 rfl (lv_at hl 2 rfl) ?_
        refine lv_iload hx hb dX0_cycle_21 (lv_at hl 5 rfl) ?_
        refine lv_iload hx hb dX0_cycle_23 (lv_at hl 4 rfl) ?_
        refine lv_iconst (v := 1) hx hb dX0_cycle_25 (by decide) ?_
        refine lv_iadd hx hb dX0_cycle_26 ?_
        obtain ⟨_, i_61, hf⟩ := b_some hf
        obtain ⟨z_61, c_61, hf⟩ := b_some hf
        refine xx_cVv hZ hE (As := [.int x_60, .int a2, .int w_8_5, .int (a4 + (1 : Int32))]) (rest := []) k_X0 (is_m i_61) tw_169 tw_170 (hrc o x_60 a2 w_8_5 (a4 + (1 : Int32)) M_8 _ c_61) cw_X0_reckon tw_168 ⟨rfl, rfl⟩ ⟨by show 40 + 3 * (d) + 1 ≤ 41 + 3 * (d); omega, by show 8 + (7 + 11) + (2000 + 100 * (d)) ≤ 2050 + 100 * (d); omega⟩ rfl hl.1 rfl (Nat.le_of_ble_eq_true rfl) ⟨Nat.le_of_ble_eq_true rfl, Nat.le_of_ble_eq_true rfl⟩ dX0_cycle_27 (fun H locs hE => ?_)
        refine lv_aload_n hx hb dX0_cycle_30 rfl (lv_at hl 0 rfl) ?_
        refine lv_aload_n hx hb dX0_cycle_31 rfl (lv_at hl 1 rfl) ?_
        obtain ⟨x_62, g_62, hf⟩ := b_some hf
        refine xx_gIN hZ hE k_X2 2 (by decide) rfl tw_171 g_62 dX0_cycle_32 ?_
        refine lv_iload hx hb dX0_cycle_35 (lv_at hl 5 rfl) ?_
        refine lv_iload_n hx hb dX0_cycle_37 rfl (lv_at hl 3 rfl) ?_
        refine lv_iload hx hb dX0_cycle_38 (lv_at hl 4 rfl) ?_
        refine lv_iconst (v := 1) hx hb dX0_cycle_40 (by decide) ?_
        refine lv_iadd hx hb dX0_cycle_41 ?_
        obtain ⟨_, i_63, hf⟩ := b_some hf
        obtain ⟨z_63, c_63, hf⟩ := b_some hf
        refine xx_cVv hZ hE (As := [.int x_62, .int w_8_5, .int a3, .int (a4 + (1 : Int32))]) (rest := []) k_X0 (is_m i_63) tw_169 tw_170 (hrc o x_62 w_8_5 a3 (a4 + (1 : Int32)) z_61 _ c_63) cw_X0_reckon tw_168 ⟨rfl, rfl⟩ ⟨by show 40 + 3 * (d) + 1 ≤ 41 + 3 * (d); omega, by show 8 + (7 + 11) + (2000 + 100 * (d)) ≤ 2050 + 100 * (d); omega⟩ rfl hl.1 rfl (Nat.le_of_ble_eq_true rfl) ⟨Nat.le_of_ble_eq_true rfl, Nat.le_of_ble_eq_true rfl⟩ dX0_cycle_42 (fun H locs hE => ?_)
        refine lv_iinc (v := (w_8_5 + 1)) (lv' := [(5, .int (w_8_5 + 1)), (0, .ref (ad o)), (1, .ref (ad a1)), (2, .int a2), (3, .int a3), (4, .int a4)]) hx hb dX0_cycle_45 hl (k := 5) rfl rfl (by decide) rfl (fun ls hl => ?_)
        refine lv_goto (tgt := 3) hx hb dX0_cycle_48 (by decide) ?_
        exact ih_3 _ _ _ _ _ hf hE (lv_sub hl [1, 2, 3, 4, 5, 0] rfl)
  exact L_8 _ _ _ _ _ _ hf hE (lv_sub hl [1, 2, 3, 4, 5, 0] rfl)
def rm_X2_store : Room := { frames := 1, cells := 0, slots := 0, locals := 21 }
def f_X2_store (o : Nat) (a1 : Int32) (a2 : Int32) (a3 : Nat) (M : Mm) : Option (Mm) :=
    (op_gR M 2 o 8).bind fun x_1 =>
    (f_X2_cell a1 a2).bind fun z_2 =>
    (op_gL M 1 a3 0).bind fun x_3 =>
    (op_sL M x_1 z_2 x_3).bind fun M_4 =>
    (op_gR M_4 2 o 9).bind fun x_5 =>
    (f_X2_cell a1 a2).bind fun z_6 =>
    (op_gI M_4 1 a3 2).bind fun x_7 =>
    op_jn (fun (x_8_0 : Int64) =>
    (op_sL M_4 x_5 z_6 x_8_0).bind fun M_11 =>
    some M_11)
    fun j_8 =>
    if x_7 = 0 then
    j_8 (-1 : Int64)
    else
    (op_gL M_4 1 a3 1).bind fun x_10 =>
    j_8 x_10
set_option maxHeartbeats 4000000 in
set_option maxRecDepth 100000 in
theorem c_X2_store (l : Launch) (D : va_G) (cA : Nat → ClassId) (ad : Nat → Nat) (o : Nat) (a1 : Int32) (a2 : Int32) (a3 : Nat) (M : Mm) (zr : Mm) (hf : f_X2_store o a1 a2 a3 M = some zr) : KV l yX2_store cX2_store 4 none rm_X2_store D cA ad [.ref (ad o), .int a1, .int a2, .ref (ad a3)] M zr := by
  refine KV_of (by decide) (Nat.le_of_ble_eq_true rfl) ?_
  intro p e s m args below meth c ls Q A H locs hZ hE hl hret
  have hx := hZ.1
  have hb := hZ.2.1
  have hown := hZ.2.2.2.1
  have hts := hZ.2.2.2.2.1
  have hl : lv_has ls 4 [(0, .ref (ad o)), (1, .int a1), (2, .int a2), (3, .ref (ad a3))] := hl
  unfold f_X2_store at hf
  refine lv_aload_n hx hb dX2_store_0 rfl (lv_at hl 0 rfl) ?_
  obtain ⟨x_1, g_1, hf⟩ := b_some hf
  refine xx_gR hZ hE k_X2 8 (by decide) rfl tw_163 g_1 dX2_store_1 ?_
  refine lv_iload_n hx hb dX2_store_4 rfl (lv_at hl 1 rfl) ?_
  refine lv_iload_n hx hb dX2_store_5 rfl (lv_at hl 2 rfl) ?_
  obtain ⟨z_2, c_2, hf⟩ := b_some hf
  refine xx_cSi hZ hE (As := [.int a1, .int a2]) (rest := [.ref (ad x_1)]) tw_100 (c_X2_cell l D cA ad a1 a2 M _ c_2) cw_X2_cell tw_99 ⟨rfl, rfl⟩ ⟨Nat.le_of_ble_eq_true rfl, Nat.le_of_ble_eq_true rfl⟩ rfl hl.1 rfl (Nat.le_of_ble_eq_true rfl) ⟨Nat.le_of_ble_eq_true rfl, Nat.le_of_ble_eq_true rfl⟩ dX2_store_6 (fun H locs hE => ?_)
  refine lv_aload_n hx hb dX2_store_9 rfl (lv_at hl 3 rfl) ?_
  obtain ⟨x_3, g_3, hf⟩ := b_some hf
  refine xx_gLN hZ hE k_X1 0 (by decide) rfl tw_164 g_3 dX2_store_10 ?_
  obtain ⟨M_4, g_4, hf⟩ := b_some hf
  refine xx_sL hZ hE g_4 dX2_store_13 (fun H locs hE => ?_)
  refine lv_aload_n hx hb dX2_store_14 rfl (lv_at hl 0 rfl) ?_
  obtain ⟨x_5, g_5, hf⟩ := b_some hf
  refine xx_gR hZ hE k_X2 9 (by decide) rfl tw_96 g_5 dX2_store_15 ?_
  refine lv_iload_n hx hb dX2_store_18 rfl (lv_at hl 1 rfl) ?_
  refine lv_iload_n hx hb dX2_store_19 rfl (lv_at hl 2 rfl) ?_
  obtain ⟨z_6, c_6, hf⟩ := b_some hf
  refine xx_cSi hZ hE (As := [.int a1, .int a2]) (rest := [.ref (ad x_5)]) tw_100 (c_X2_cell l D cA ad a1 a2 M_4 _ c_6) cw_X2_cell tw_99 ⟨rfl, rfl⟩ ⟨Nat.le_of_ble_eq_true rfl, Nat.le_of_ble_eq_true rfl⟩ rfl hl.1 rfl (Nat.le_of_ble_eq_true rfl) ⟨Nat.le_of_ble_eq_true rfl, Nat.le_of_ble_eq_true rfl⟩ dX2_store_20 (fun H locs hE => ?_)
  refine lv_aload_n hx hb dX2_store_23 rfl (lv_at hl 3 rfl) ?_
  obtain ⟨x_7, g_7, hf⟩ := b_some hf
  refine xx_gIN hZ hE k_X1 2 (by decide) rfl tw_166 g_7 dX2_store_24 ?_
  obtain ⟨j_8, ej_8, hf⟩ := jn_e hf
  have q_8 : ∀ (x_8_0 : Int64) (H : Heap) (locs : List Loc) (ls : Array Slot), j_8 x_8_0 = some zr → En D cA ad s A M_4 H locs → lv_has ls 4 [] → W p l e rm_X2_store s m args below meth c H locs 0 0 Q (F0 m 40 ls [.long x_8_0, .int z_6, .ref (ad x_5)]) := by
    intro x_8_0 H locs ls hf hE hl
    rw [ej_8] at hf
    obtain ⟨M_11, g_11, hf⟩ := b_some hf
    refine xx_sL hZ hE g_11 dX2_store_40 (fun H locs hE => ?_)
    exact hret _ _ _ _ _ (Option.some.inj hf) dX2_store_41 hE
  refine lv_if_eq (tgt := 37) hx hb dX2_store_27 (by decide) (fun h_9 => ?_) (fun h_9 => ?_)
  · have hf := it_y h_9 hf
    refine lv_ldc2 (v := -1) hx hb hown (hts _ tw_183) dX2_store_37 ?_
    exact q_8 _ _ _ _ hf hE (lv_sub hl [] rfl)
  · have hf := it_n h_9 hf
    refine lv_aload_n hx hb dX2_store_30 rfl (lv_at hl 3 rfl) ?_
    obtain ⟨x_10, g_10, hf⟩ := b_some hf
    refine xx_gLN hZ hE k_X1 1 (by decide) rfl tw_165 g_10 dX2_store_31 ?_
    refine lv_goto (tgt := 40) hx hb dX2_store_34 (by decide) ?_
    exact q_8 _ _ _ _ hf hE (lv_sub hl [] rfl)
def f_X0_reckon : Nat → Nat → Int32 → Int32 → Int32 → Int32 → Mm → Option (Mm)
  | 0, _, _, _, _, _, _ => none
  | d + 1, o, a1, a2, a3, a4, M =>
    (op_gR M 0 o 1).bind fun x_1 =>
    (op_aR M x_1 a1).bind fun x_2 =>
    (op_gI M 0 o 7).bind fun x_3 =>
    (op_is M x_2 2).bind fun _ =>
    (f_X2_freshen x_2 x_3 M).bind fun z_4 =>
    if (2 : Int32) < a4 then
    some z_4
    else
    (op_is z_4 x_2 2).bind fun _ =>
    (f_X2_knows x_2 a2 a3 z_4).bind fun z_6 =>
    if z_6 = 0 then
    (op_gI z_4 2 x_2 0).bind fun x_8 =>
    op_jn (fun (M_9 : Mm) =>
    (op_gR M_9 0 o 2).bind fun x_35 =>
    (op_is M_9 x_2 2).bind fun _ =>
    (f_X2_store x_2 a2 a3 x_35 M_9).bind fun z_36 =>
    some z_36)
    fun j_9 =>
    if x_8 = 0 then
    (op_gI z_4 2 x_2 1).bind fun x_11 =>
    (op_is z_4 o 0).bind fun _ =>
    (f_X0_redraw o x_11 a2 a3 z_4).bind fun z_12 =>
    j_9 z_12
    else
    if x_8 = 1 then
    (op_gR z_4 0 o 0).bind fun x_14 =>
    (op_gI z_4 2 x_2 1).bind fun x_15 =>
    (op_is z_4 x_14 3).bind fun _ =>
    (f_X3_next x_14 a2 x_15 z_4).bind fun z_16 =>
    (op_gR z_4 0 o 0).bind fun x_17 =>
    (op_gI z_4 2 x_2 1).bind fun x_18 =>
    (op_is z_4 x_17 3).bind fun _ =>
    (f_X3_before x_17 a2 x_18 z_4).bind fun z_19 =>
    (op_is z_4 o 0).bind fun _ =>
    (f_X0_propose o z_16 z_19 a2 a3 z_4).bind fun z_20 =>
    j_9 z_20
    else
    if x_8 = 2 then
    (op_gR z_4 0 o 0).bind fun x_22 =>
    (op_gI z_4 2 x_2 1).bind fun x_23 =>
    (op_gI z_4 2 x_2 2).bind fun x_24 =>
    (op_is z_4 x_22 3).bind fun _ =>
    (f_X3_exchanged x_22 a2 x_23 x_24 z_4).bind fun z_25 =>
    (op_is z_4 o 0).bind fun _ =>
    (f_X0_propose o z_25 z_25 a2 a3 z_4).bind fun z_26 =>
    j_9 z_26
    else
    if x_8 = 3 then
    (op_is z_4 o 0).bind fun _ =>
    (f_X0_tell o x_2 a2 a3 z_4).bind fun z_28 =>
    j_9 z_28
    else
    if x_8 = 4 then
    (op_gI z_4 2 x_2 1).bind fun x_30 =>
    (op_is z_4 o 0).bind fun _ =>
    (f_X0_slice o x_30 a2 a3 z_4).bind fun z_31 =>
    j_9 z_31
    else
    if x_8 = 5 then
    (op_is z_4 o 0).bind fun _ =>
    (f_X0_mix (f_X0_reckon d) o x_2 a2 a3 a4 z_4).bind fun z_33 =>
    j_9 z_33
    else
    (op_is z_4 o 0).bind fun _ =>
    (f_X0_cycle (f_X0_reckon d) o x_2 a2 a3 a4 z_4).bind fun z_34 =>
    j_9 z_34
    else
    some z_4
theorem f_X0_reckon_s {d : Nat} (o : Nat) (a1 : Int32) (a2 : Int32) (a3 : Int32) (a4 : Int32) (M : Mm) {zr : Mm} (hf : f_X0_reckon (d + 1) o a1 a2 a3 a4 M = some zr) : (
    (op_gR M 0 o 1).bind fun x_1 =>
    (op_aR M x_1 a1).bind fun x_2 =>
    (op_gI M 0 o 7).bind fun x_3 =>
    (op_is M x_2 2).bind fun _ =>
    (f_X2_freshen x_2 x_3 M).bind fun z_4 =>
    if (2 : Int32) < a4 then
    some z_4
    else
    (op_is z_4 x_2 2).bind fun _ =>
    (f_X2_knows x_2 a2 a3 z_4).bind fun z_6 =>
    if z_6 = 0 then
    (op_gI z_4 2 x_2 0).bind fun x_8 =>
    op_jn (fun (M_9 : Mm) =>
    (op_gR M_9 0 o 2).bind fun x_35 =>
    (op_is M_9 x_2 2).bind fun _ =>
    (f_X2_store x_2 a2 a3 x_35 M_9).bind fun z_36 =>
    some z_36)
    fun j_9 =>
    if x_8 = 0 then
    (op_gI z_4 2 x_2 1).bind fun x_11 =>
    (op_is z_4 o 0).bind fun _ =>
    (f_X0_redraw o x_11 a2 a3 z_4).bind fun z_12 =>
    j_9 z_12
    else
    if x_8 = 1 then
    (op_gR z_4 0 o 0).bind fun x_14 =>
    (op_gI z_4 2 x_2 1).bind fun x_15 =>
    (op_is z_4 x_14 3).bind fun _ =>
    (f_X3_next x_14 a2 x_15 z_4).bind fun z_16 =>
    (op_gR z_4 0 o 0).bind fun x_17 =>
    (op_gI z_4 2 x_2 1).bind fun x_18 =>
    (op_is z_4 x_17 3).bind fun _ =>
    (f_X3_before x_17 a2 x_18 z_4).bind fun z_19 =>
    (op_is z_4 o 0).bind fun _ =>
    (f_X0_propose o z_16 z_19 a2 a3 z_4).bind fun z_20 =>
    j_9 z_20
    else
    if x_8 = 2 then
    (op_gR z_4 0 o 0).bind fun x_22 =>
    (op_gI z_4 2 x_2 1).bind fun x_23 =>
    (op_gI z_4 2 x_2 2).bind fun x_24 =>
    (op_is z_4 x_22 3).bind fun _ =>
    (f_X3_exchanged x_22 a2 x_23 x_24 z_4).bind fun z_25 =>
    (op_is z_4 o 0).bind fun _ =>
    (f_X0_propose o z_25 z_25 a2 a3 z_4).bind fun z_26 =>
    j_9 z_26
    else
    if x_8 = 3 then
    (op_is z_4 o 0).bind fun _ =>
    (f_X0_tell o x_2 a2 a3 z_4).bind fun z_28 =>
    j_9 z_28
    else
    if x_8 = 4 then
    (op_gI z_4 2 x_2 1).bind fun x_30 =>
    (op_is z_4 o 0).bind fun _ =>
    (f_X0_slice o x_30 a2 a3 z_4).bind fun z_31 =>
    j_9 z_31
    else
    if x_8 = 5 then
    (op_is z_4 o 0).bind fun _ =>
    (f_X0_mix (f_X0_reckon d) o x_2 a2 a3 a4 z_4).bind fun z_33 =>
    j_9 z_33
    else
    (op_is z_4 o 0).bind fun _ =>
    (f_X0_cycle (f_X0_reckon d) o x_2 a2 a3 a4 z_4).bind fun z_34 =>
    j_9 z_34
    else
    some z_4) = some zr := hf
set_option maxHeartbeats 4000000 in
set_option maxRecDepth 100000 in
theorem c_X0_reckon (l : Launch) (D : va_G) (cA : Nat → ClassId) (ad : Nat → Nat) (d : Nat) : ∀ (o : Nat) (a1 : Int32) (a2 : Int32) (a3 : Int32) (a4 : Int32) (M : Mm) (zr : Mm) (hf : f_X0_reckon d o a1 a2 a3 a4 M = some zr), KV l yX0_reckon cX0_reckon 7 none (rm_X0_reckon d) D cA ad [.ref (ad o), .int a1, .int a2, .int a3, .int a4] M zr := by
  induction d with
  | zero =>
    intro o a1 a2 a3 a4 M zr hf
    cases (show (none : Option (Mm)) = some zr from hf)
  | succ d ih =>
    intro o a1 a2 a3 a4 M zr hf
    refine KV_of (by decide) (Nat.le_of_ble_eq_true rfl) ?_
    intro p e s m args below meth c ls Q A H locs hZ hE hl hret
    have hx := hZ.1
    have hb := hZ.2.1
    have hown := hZ.2.2.2.1
    have hts := hZ.2.2.2.2.1
    have hl : lv_has ls 7 [(0, .ref (ad o)), (1, .int a1), (2, .int a2), (3, .int a3), (4, .int a4)] := hl
    have hf := f_X0_reckon_s o a1 a2 a3 a4 M hf
    refine lv_aload_n hx hb dX0_reckon_0 rfl (lv_at hl 0 rfl) ?_
    obtain ⟨x_1, g_1, hf⟩ := b_some hf
    refine xx_gR hZ hE k_X0 1 (by decide) rfl tw_174 g_1 dX0_reckon_1 ?_
    refine lv_iload_n hx hb dX0_reckon_4 rfl (lv_at hl 1 rfl) ?_
    obtain ⟨x_2, g_2, hf⟩ := b_some hf
    refine xx_aR hZ hE g_2 dX0_reckon_5 ?_
    refine lv_astore (lv' := [(5, .ref (ad x_2)), (0, .ref (ad o)), (1, .int a1), (2, .int a2), (3, .int a3), (4, .int a4)]) hx hb dX0_reckon_6 hl (by decide) rfl (fun ls hl => ?_)
    refine lv_aload hx hb dX0_reckon_8 (lv_at hl 0 rfl) ?_
    refine lv_aload_n hx hb dX0_reckon_10 rfl (lv_at hl 1 rfl) ?_
    obtain ⟨x_3, g_3, hf⟩ := b_some hf
    refine xx_gI hZ hE k_X0 7 (by decide) rfl tw_16 g_3 dX0_reckon_11 ?_
    obtain ⟨_, i_4, hf⟩ := b_some hf
    obtain ⟨z_4, c_4, hf⟩ := b_some hf
    refine xx_cVNv hZ hE (As := [.int x_3]) (rest := []) k_X2 (is_m i_4) tw_185 tw_186 (c_X2_freshen l D cA ad x_2 x_3 M _ c_4) cw_X2_freshen tw_184 ⟨rfl, rfl⟩ ⟨by show 1 + 1 ≤ 40 + 3 * (d + 1); omega, by show 8 + (2 + 11) + (24) ≤ 2000 + 100 * (d + 1); omega⟩ rfl hl.1 rfl (Nat.le_of_ble_eq_true rfl) ⟨Nat.le_of_ble_eq_true rfl, Nat.le_of_ble_eq_true rfl⟩ dX0_reckon_14 (fun H locs hE => ?_)
    refine lv_iload hx hb dX0_reckon_17 (lv_at hl 5 rfl) ?_
    refine lv_iconst (v := 2) hx hb dX0_reckon_19 (by decide) ?_
    refine lv_icmp_gt (tgt := 33) hx hb dX0_reckon_20 (by decide) (fun h_5 => ?_) (fun h_5 => ?_)
    · have hf := it_y h_5 hf
      exact hret _ _ _ _ _ (Option.some.inj hf) dX0_reckon_33 hE
    · have hf := it_n h_5 hf
      refine lv_aload hx hb dX0_reckon_23 (lv_at hl 0 rfl) ?_
      refine lv_iload_n hx hb dX0_reckon_25 rfl (lv_at hl 3 rfl) ?_
      refine lv_iload_n hx hb dX0_reckon_26 rfl (lv_at hl 4 rfl) ?_
      obtain ⟨_, i_6, hf⟩ := b_some hf
      obtain ⟨z_6, c_6, hf⟩ := b_some hf
      refine xx_cVNi hZ hE (As := [.int a2, .int a3]) (rest := []) k_X2 (is_m i_6) tw_188 tw_189 (c_X2_knows l D cA ad x_2 a2 a3 z_4 _ c_6) cw_X2_knows tw_187 ⟨rfl, rfl⟩ ⟨by show 1 + 1 ≤ 40 + 3 * (d + 1); omega, by show 8 + (3 + 11) + (21) ≤ 2000 + 100 * (d + 1); omega⟩ rfl hl.1 rfl (Nat.le_of_ble_eq_true rfl) ⟨Nat.le_of_ble_eq_true rfl, Nat.le_of_ble_eq_true rfl⟩ dX0_reckon_27 (fun H locs hE => ?_)
      refine lv_if_eq (tgt := 34) hx hb dX0_reckon_30 (by decide) (fun h_7 => ?_) (fun h_7 => ?_)
      · have hf := it_y h_7 hf
        refine lv_aload hx hb dX0_reckon_34 (lv_at hl 0 rfl) ?_
        obtain ⟨x_8, g_8, hf⟩ := b_some hf
        refine xx_gIN hZ hE k_X2 0 (by decide) rfl tw_190 g_8 dX0_reckon_36 ?_
        obtain ⟨j_9, ej_9, hf⟩ := jn_e hf
        have q_9 : ∀ (M_9 : Mm) (H : Heap) (locs : List Loc) (ls : Array Slot), j_9 M_9 = some zr → En D cA ad s A M_9 H locs → lv_has ls 7 [(0, .ref (ad o)), (2, .int a2), (3, .int a3), (5, .ref (ad x_2))] → W p l e (rm_X0_reckon (d + 1)) s m args below meth c H locs 0 0 Q (F0 m 206 ls []) := by
          intro M_9 H locs ls hf hE hl
          rw [ej_9] at hf
          refine lv_aload hx hb dX0_reckon_206 (lv_at hl 3 rfl) ?_
          refine lv_iload_n hx hb dX0_reckon_208 rfl (lv_at hl 1 rfl) ?_
          refine lv_iload_n hx hb dX0_reckon_209 rfl (lv_at hl 2 rfl) ?_
          refine lv_aload_n hx hb dX0_reckon_210 rfl (lv_at hl 0 rfl) ?_
          obtain ⟨x_35, g_35, hf⟩ := b_some hf
          refine xx_gR hZ hE k_X0 2 (by decide) rfl tw_115 g_35 dX0_reckon_211 ?_
          obtain ⟨_, i_36, hf⟩ := b_some hf
          obtain ⟨z_36, c_36, hf⟩ := b_some hf
          refine xx_cVNv hZ hE (As := [.int a2, .int a3, .ref (ad x_35)]) (rest := []) k_X2 (is_m i_36) tw_219 tw_220 (c_X2_store l D cA ad x_2 a2 a3 x_35 M_9 _ c_36) cw_X2_store tw_218 ⟨rfl, rfl⟩ ⟨by show 1 + 1 ≤ 40 + 3 * (d + 1); omega, by show 8 + (4 + 11) + (21) ≤ 2000 + 100 * (d + 1); omega⟩ rfl hl.1 rfl (Nat.le_of_ble_eq_true rfl) ⟨Nat.le_of_ble_eq_true rfl, Nat.le_of_ble_eq_true rfl⟩ dX0_reckon_214 (fun H locs hE => ?_)
          exact hret _ _ _ _ _ (Option.some.inj hf) dX0_reckon_217 hE
        by_cases h_10 : x_8 = 0
        · have hf := it_y h_10 hf
          refine xx_tsw (off := 37) (tgt := 76) hx hb dX0_reckon_39 0 h_10 (by decide) (by decide) ?_
          refine lv_aload_n hx hb dX0_reckon_76 rfl (lv_at hl 1 rfl) ?_
          refine lv_aload hx hb dX0_reckon_77 (lv_at hl 0 rfl) ?_
          obtain ⟨x_11, g_11, hf⟩ := b_some hf
          refine xx_gIN hZ hE k_X2 1 (by decide) rfl tw_167 g_11 dX0_reckon_79 ?_
          refine lv_iload_n hx hb dX0_reckon_82 rfl (lv_at hl 3 rfl) ?_
          refine lv_iload_n hx hb dX0_reckon_83 rfl (lv_at hl 4 rfl) ?_
          obtain ⟨_, i_12, hf⟩ := b_some hf
          obtain ⟨z_12, c_12, hf⟩ := b_some hf
          refine xx_cVv hZ hE (As := [.int x_11, .int a2, .int a3]) (rest := []) k_X0 (is_m i_12) tw_192 tw_193 (c_X0_redraw l D cA ad o x_11 a2 a3 z_4 _ c_12) cw_X0_redraw tw_191 ⟨rfl, rfl⟩ ⟨by show 3 + 1 ≤ 40 + 3 * (d + 1); omega, by show 8 + (5 + 11) + (69) ≤ 2000 + 100 * (d + 1); omega⟩ rfl hl.1 rfl (Nat.le_of_ble_eq_true rfl) ⟨Nat.le_of_ble_eq_true rfl, Nat.le_of_ble_eq_true rfl⟩ dX0_reckon_84 (fun H locs hE => ?_)
          refine lv_goto (tgt := 206) hx hb dX0_reckon_87 (by decide) ?_
          exact q_9 _ _ _ _ hf hE (lv_sub hl [1, 3, 4, 0] rfl)
        · have hf := it_n h_10 hf
          by_cases h_13 : x_8 = 1
          · have hf := it_y h_13 hf
            refine xx_tsw (off := 51) (tgt := 90) hx hb dX0_reckon_39 1 h_13 (by decide) (by decide) ?_
            refine lv_aload_n hx hb dX0_reckon_90 rfl (lv_at hl 1 rfl) ?_
            refine lv_aload_n hx hb dX0_reckon_91 rfl (lv_at hl 1 rfl) ?_
            obtain ⟨x_14, g_14, hf⟩ := b_some hf
            refine xx_gR hZ hE k_X0 0 (by decide) rfl tw_111 g_14 dX0_reckon_92 ?_
            refine lv_iload_n hx hb dX0_reckon_95 rfl (lv_at hl 3 rfl) ?_
            refine lv_aload hx hb dX0_reckon_96 (lv_at hl 0 rfl) ?_
            obtain ⟨x_15, g_15, hf⟩ := b_some hf
            refine xx_gIN hZ hE k_X2 1 (by decide) rfl tw_167 g_15 dX0_reckon_98 ?_
            obtain ⟨_, i_16, hf⟩ := b_some hf
            obtain ⟨z_16, c_16, hf⟩ := b_some hf
            refine xx_cVNi hZ hE (As := [.int a2, .int x_15]) (rest := [.ref (ad o)]) k_X3 (is_m i_16) tw_195 tw_196 (c_X3_next l D cA ad x_14 a2 x_15 z_4 _ c_16) cw_X3_next tw_194 ⟨rfl, rfl⟩ ⟨by show 2 + 1 ≤ 40 + 3 * (d + 1); omega, by show 8 + (4 + 11) + (45) ≤ 2000 + 100 * (d + 1); omega⟩ rfl hl.1 rfl (Nat.le_of_ble_eq_true rfl) ⟨Nat.le_of_ble_eq_true rfl, Nat.le_of_ble_eq_true rfl⟩ dX0_reckon_101 (fun H locs hE => ?_)
            refine lv_aload_n hx hb dX0_reckon_104 rfl (lv_at hl 1 rfl) ?_
            obtain ⟨x_17, g_17, hf⟩ := b_some hf
            refine xx_gR hZ hE k_X0 0 (by decide) rfl tw_111 g_17 dX0_reckon_105 ?_
            refine lv_iload_n hx hb dX0_reckon_108 rfl (lv_at hl 3 rfl) ?_
            refine lv_aload hx hb dX0_reckon_109 (lv_at hl 0 rfl) ?_
            obtain ⟨x_18, g_18, hf⟩ := b_some hf
            refine xx_gIN hZ hE k_X2 1 (by decide) rfl tw_167 g_18 dX0_reckon_111 ?_
            obtain ⟨_, i_19, hf⟩ := b_some hf
            obtain ⟨z_19, c_19, hf⟩ := b_some hf
            refine xx_cVNi hZ hE (As := [.int a2, .int x_18]) (rest := [.int z_16, .ref (ad o)]) k_X3 (is_m i_19) tw_198 tw_199 (c_X3_before l D cA ad x_17 a2 x_18 z_4 _ c_19) cw_X3_before tw_197 ⟨rfl, rfl⟩ ⟨by show 2 + 1 ≤ 40 + 3 * (d + 1); omega, by show 8 + (4 + 11) + (45) ≤ 2000 + 100 * (d + 1); omega⟩ rfl hl.1 rfl (Nat.le_of_ble_eq_true rfl) ⟨Nat.le_of_ble_eq_true rfl, Nat.le_of_ble_eq_true rfl⟩ dX0_reckon_114 (fun H locs hE => ?_)
            refine lv_iload_n hx hb dX0_reckon_117 rfl (lv_at hl 3 rfl) ?_
            refine lv_iload_n hx hb dX0_reckon_118 rfl (lv_at hl 4 rfl) ?_
            obtain ⟨_, i_20, hf⟩ := b_some hf
            obtain ⟨z_20, c_20, hf⟩ := b_some hf
            refine xx_cVv hZ hE (As := [.int z_16, .int z_19, .int a2, .int a3]) (rest := []) k_X0 (is_m i_20) tw_201 tw_202 (c_X0_propose l D cA ad o z_16 z_19 a2 a3 z_4 _ c_20) cw_X0_propose tw_200 ⟨rfl, rfl⟩ ⟨by show 2 + 1 ≤ 40 + 3 * (d + 1); omega, by show 8 + (10 + 11) + (56) ≤ 2000 + 100 * (d + 1); omega⟩ rfl hl.1 rfl (Nat.le_of_ble_eq_true rfl) ⟨Nat.le_of_ble_eq_true rfl, Nat.le_of_ble_eq_true rfl⟩ dX0_reckon_119 (fun H locs hE => ?_)
            refine lv_goto (tgt := 206) hx hb dX0_reckon_122 (by decide) ?_
            exact q_9 _ _ _ _ hf hE (lv_sub hl [1, 3, 4, 0] rfl)
          · have hf := it_n h_13 hf
            by_cases h_21 : x_8 = 2
            · have hf := it_y h_21 hf
              refine xx_tsw (off := 86) (tgt := 125) hx hb dX0_reckon_39 2 h_21 (by decide) (by decide) ?_
              refine lv_aload_n hx hb dX0_reckon_125 rfl (lv_at hl 1 rfl) ?_
              obtain ⟨x_22, g_22, hf⟩ := b_some hf
              refine xx_gR hZ hE k_X0 0 (by decide) rfl tw_111 g_22 dX0_reckon_126 ?_
              refine lv_iload_n hx hb dX0_reckon_129 rfl (lv_at hl 3 rfl) ?_
              refine lv_aload hx hb dX0_reckon_130 (lv_at hl 0 rfl) ?_
              obtain ⟨x_23, g_23, hf⟩ := b_some hf
              refine xx_gIN hZ hE k_X2 1 (by decide) rfl tw_167 g_23 dX0_reckon_132 ?_
              refine lv_aload hx hb dX0_reckon_135 (lv_at hl 0 rfl) ?_
              obtain ⟨x_24, g_24, hf⟩ := b_some hf
              refine xx_gIN hZ hE k_X2 2 (by decide) rfl tw_171 g_24 dX0_reckon_137 ?_
              obtain ⟨_, i_25, hf⟩ := b_some hf
              obtain ⟨z_25, c_25, hf⟩ := b_some hf
              refine xx_cVNi hZ hE (As := [.int a2, .int x_23, .int x_24]) (rest := []) k_X3 (is_m i_25) tw_204 tw_205 (c_X3_exchanged l D cA ad x_22 a2 x_23 x_24 z_4 _ c_25) cw_X3_exchanged tw_203 ⟨rfl, rfl⟩ ⟨by show 1 + 1 ≤ 40 + 3 * (d + 1); omega, by show 8 + (5 + 11) + (22) ≤ 2000 + 100 * (d + 1); omega⟩ rfl hl.1 rfl (Nat.le_of_ble_eq_true rfl) ⟨Nat.le_of_ble_eq_true rfl, Nat.le_of_ble_eq_true rfl⟩ dX0_reckon_140 (fun H locs hE => ?_)
              refine lv_istore (lv' := [(6, .int z_25), (5, .ref (ad x_2)), (0, .ref (ad o)), (1, .int a1), (2, .int a2), (3, .int a3), (4, .int a4)]) hx hb dX0_reckon_143 hl (by decide) rfl (fun ls hl => ?_)
              refine lv_aload_n hx hb dX0_reckon_145 rfl (lv_at hl 2 rfl) ?_
              refine lv_iload hx hb dX0_reckon_146 (lv_at hl 0 rfl) ?_
              refine lv_iload hx hb dX0_reckon_148 (lv_at hl 0 rfl) ?_
              refine lv_iload_n hx hb dX0_reckon_150 rfl (lv_at hl 4 rfl) ?_
              refine lv_iload_n hx hb dX0_reckon_151 rfl (lv_at hl 5 rfl) ?_
              obtain ⟨_, i_26, hf⟩ := b_some hf
              obtain ⟨z_26, c_26, hf⟩ := b_some hf
              refine xx_cVv hZ hE (As := [.int z_25, .int z_25, .int a2, .int a3]) (rest := []) k_X0 (is_m i_26) tw_201 tw_202 (c_X0_propose l D cA ad o z_25 z_25 a2 a3 z_4 _ c_26) cw_X0_propose tw_200 ⟨rfl, rfl⟩ ⟨by show 2 + 1 ≤ 40 + 3 * (d + 1); omega, by show 8 + (10 + 11) + (56) ≤ 2000 + 100 * (d + 1); omega⟩ rfl hl.1 rfl (Nat.le_of_ble_eq_true rfl) ⟨Nat.le_of_ble_eq_true rfl, Nat.le_of_ble_eq_true rfl⟩ dX0_reckon_152 (fun H locs hE => ?_)
              refine lv_goto (tgt := 206) hx hb dX0_reckon_155 (by decide) ?_
              exact q_9 _ _ _ _ hf hE (lv_sub hl [2, 4, 5, 1] rfl)
            · have hf := it_n h_21 hf
              by_cases h_27 : x_8 = 3
              · have hf := it_y h_27 hf
                refine xx_tsw (off := 119) (tgt := 158) hx hb dX0_reckon_39 3 h_27 (by decide) (by decide) ?_
                refine lv_aload_n hx hb dX0_reckon_158 rfl (lv_at hl 1 rfl) ?_
                refine lv_aload hx hb dX0_reckon_159 (lv_at hl 0 rfl) ?_
                refine lv_iload_n hx hb dX0_reckon_161 rfl (lv_at hl 3 rfl) ?_
                refine lv_iload_n hx hb dX0_reckon_162 rfl (lv_at hl 4 rfl) ?_
                obtain ⟨_, i_28, hf⟩ := b_some hf
                obtain ⟨z_28, c_28, hf⟩ := b_some hf
                refine xx_cVv hZ hE (As := [.ref (ad x_2), .int a2, .int a3]) (rest := []) k_X0 (is_m i_28) tw_207 tw_208 (c_X0_tell l D cA ad o x_2 a2 a3 z_4 _ c_28) cw_X0_tell tw_206 ⟨rfl, rfl⟩ ⟨by show 3 + 1 ≤ 40 + 3 * (d + 1); omega, by show 8 + (5 + 11) + (89) ≤ 2000 + 100 * (d + 1); omega⟩ rfl hl.1 rfl (Nat.le_of_ble_eq_true rfl) ⟨Nat.le_of_ble_eq_true rfl, Nat.le_of_ble_eq_true rfl⟩ dX0_reckon_163 (fun H locs hE => ?_)
                refine lv_goto (tgt := 206) hx hb dX0_reckon_166 (by decide) ?_
                exact q_9 _ _ _ _ hf hE (lv_sub hl [1, 3, 4, 0] rfl)
              · have hf := it_n h_27 hf
                by_cases h_29 : x_8 = 4
                · have hf := it_y h_29 hf
                  refine xx_tsw (off := 130) (tgt := 169) hx hb dX0_reckon_39 4 h_29 (by decide) (by decide) ?_
                  refine lv_aload_n hx hb dX0_reckon_169 rfl (lv_at hl 1 rfl) ?_
                  refine lv_aload hx hb dX0_reckon_170 (lv_at hl 0 rfl) ?_
                  obtain ⟨x_30, g_30, hf⟩ := b_some hf
                  refine xx_gIN hZ hE k_X2 1 (by decide) rfl tw_167 g_30 dX0_reckon_172 ?_
                  refine lv_iload_n hx hb dX0_reckon_175 rfl (lv_at hl 3 rfl) ?_
                  refine lv_iload_n hx hb dX0_reckon_176 rfl (lv_at hl 4 rfl) ?_
                  obtain ⟨_, i_31, hf⟩ := b_some hf
                  obtain ⟨z_31, c_31, hf⟩ := b_some hf
                  refine xx_cVv hZ hE (As := [.int x_30, .int a2, .int a3]) (rest := []) k_X0 (is_m i_31) tw_210 tw_211 (c_X0_slice l D cA ad o x_30 a2 a3 z_4 _ c_31) cw_X0_slice tw_209 ⟨rfl, rfl⟩ ⟨by show 3 + 1 ≤ 40 + 3 * (d + 1); omega, by show 8 + (12 + 11) + (72) ≤ 2000 + 100 * (d + 1); omega⟩ rfl hl.1 rfl (Nat.le_of_ble_eq_true rfl) ⟨Nat.le_of_ble_eq_true rfl, Nat.le_of_ble_eq_true rfl⟩ dX0_reckon_177 (fun H locs hE => ?_)
                  refine lv_goto (tgt := 206) hx hb dX0_reckon_180 (by decide) ?_
                  exact q_9 _ _ _ _ hf hE (lv_sub hl [1, 3, 4, 0] rfl)
                · have hf := it_n h_29 hf
                  by_cases h_32 : x_8 = 5
                  · have hf := it_y h_32 hf
                    refine xx_tsw (off := 144) (tgt := 183) hx hb dX0_reckon_39 5 h_32 (by decide) (by decide) ?_
                    refine lv_aload_n hx hb dX0_reckon_183 rfl (lv_at hl 1 rfl) ?_
                    refine lv_aload hx hb dX0_reckon_184 (lv_at hl 0 rfl) ?_
                    refine lv_iload_n hx hb dX0_reckon_186 rfl (lv_at hl 3 rfl) ?_
                    refine lv_iload_n hx hb dX0_reckon_187 rfl (lv_at hl 4 rfl) ?_
                    refine lv_iload hx hb dX0_reckon_188 (lv_at hl 5 rfl) ?_
                    obtain ⟨_, i_33, hf⟩ := b_some hf
                    obtain ⟨z_33, c_33, hf⟩ := b_some hf
                    refine xx_cVv hZ hE (As := [.ref (ad x_2), .int a2, .int a3, .int a4]) (rest := []) k_X0 (is_m i_33) tw_213 tw_214 (c_X0_mix l D cA ad d _ ih o x_2 a2 a3 a4 z_4 _ c_33) cw_X0_mix tw_212 ⟨rfl, rfl⟩ ⟨by show 41 + 3 * (d) + 1 ≤ 40 + 3 * (d + 1); omega, by show 8 + (7 + 11) + (2050 + 100 * (d)) ≤ 2000 + 100 * (d + 1); omega⟩ rfl hl.1 rfl (Nat.le_of_ble_eq_true rfl) ⟨Nat.le_of_ble_eq_true rfl, Nat.le_of_ble_eq_true rfl⟩ dX0_reckon_190 (fun H locs hE => ?_)
                    refine lv_goto (tgt := 206) hx hb dX0_reckon_193 (by decide) ?_
                    exact q_9 _ _ _ _ hf hE (lv_sub hl [1, 3, 4, 0] rfl)
                  · have hf := it_n h_32 hf
                    have sw := (⟨i32m h_10 (n := 0) (by decide), i32m h_13 (n := 1) (by decide), i32m h_21 (n := 2) (by decide), i32m h_27 (n := 3) (by decide), i32m h_29 (n := 4) (by decide), i32m h_32 (n := 5) (by decide), trivial⟩ : x_8.toInt ≠ 0 ∧ x_8.toInt ≠ 1 ∧ x_8.toInt ≠ 2 ∧ x_8.toInt ≠ 3 ∧ x_8.toInt ≠ 4 ∧ x_8.toInt ≠ 5 ∧ True)
                    refine lv_tableOut (tgt := 196) hx hb dX0_reckon_39 (by omega) (by decide) ?_
                    refine lv_aload_n hx hb dX0_reckon_196 rfl (lv_at hl 1 rfl) ?_
                    refine lv_aload hx hb dX0_reckon_197 (lv_at hl 0 rfl) ?_
                    refine lv_iload_n hx hb dX0_reckon_199 rfl (lv_at hl 3 rfl) ?_
                    refine lv_iload_n hx hb dX0_reckon_200 rfl (lv_at hl 4 rfl) ?_
                    refine lv_iload hx hb dX0_reckon_201 (lv_at hl 5 rfl) ?_
                    obtain ⟨_, i_34, hf⟩ := b_some hf
                    obtain ⟨z_34, c_34, hf⟩ := b_some hf
                    refine xx_cVv hZ hE (As := [.ref (ad x_2), .int a2, .int a3, .int a4]) (rest := []) k_X0 (is_m i_34) tw_216 tw_217 (c_X0_cycle l D cA ad d _ ih o x_2 a2 a3 a4 z_4 _ c_34) cw_X0_cycle tw_215 ⟨rfl, rfl⟩ ⟨by show 41 + 3 * (d) + 1 ≤ 40 + 3 * (d + 1); omega, by show 8 + (6 + 11) + (2050 + 100 * (d)) ≤ 2000 + 100 * (d + 1); omega⟩ rfl hl.1 rfl (Nat.le_of_ble_eq_true rfl) ⟨Nat.le_of_ble_eq_true rfl, Nat.le_of_ble_eq_true rfl⟩ dX0_reckon_203 (fun H locs hE => ?_)
                    exact q_9 _ _ _ _ hf hE (lv_sub hl [1, 3, 4, 0] rfl)
      · have hf := it_n h_7 hf
        exact hret _ _ _ _ _ (Option.some.inj hf) dX0_reckon_33 hE
def rm_X0_find : Room := { frames := 56, cells := 0, slots := 0, locals := 2526 }
def f_X0_find (o : Nat) (a1 : Int32) (a2 : Int32) (a3 : Int32) (M : Mm) : Option (Nat × Mm) :=
    (op_is M o 0).bind fun _ =>
    (f_X0_reckon 4 o a1 a2 a3 (0 : Int32) M).bind fun z_1 =>
    (op_gR z_1 0 o 1).bind fun x_2 =>
    (op_aR z_1 x_2 a1).bind fun x_3 =>
    (op_gR z_1 0 o 2).bind fun x_4 =>
    (op_is z_1 x_3 2).bind fun _ =>
    (f_X2_load x_3 a2 a3 x_4 z_1).bind fun z_5 =>
    (op_gR z_5 0 o 2).bind fun x_6 =>
    some (x_6, z_5)
set_option maxHeartbeats 4000000 in
set_option maxRecDepth 100000 in
theorem c_X0_find (l : Launch) (D : va_G) (cA : Nat → ClassId) (ad : Nat → Nat) (o : Nat) (a1 : Int32) (a2 : Int32) (a3 : Int32) (M : Mm) (zr : Nat × Mm) (hf : f_X0_find o a1 a2 a3 M = some zr) : KR l yX0_find cX0_find 4 (some (.object "ChainMoves$Fraction")) rm_X0_find D cA ad [.ref (ad o), .int a1, .int a2, .int a3] M zr.1 zr.2 := by
  refine KR_of (by decide) (Nat.le_of_ble_eq_true rfl) ?_
  intro p e s m args below meth c ls Q A H locs hZ hE hl hret
  have hx := hZ.1
  have hb := hZ.2.1
  have hown := hZ.2.2.2.1
  have hts := hZ.2.2.2.2.1
  have hl : lv_has ls 4 [(0, .ref (ad o)), (1, .int a1), (2, .int a2), (3, .int a3)] := hl
  unfold f_X0_find at hf
  refine lv_aload_n hx hb dX0_find_0 rfl (lv_at hl 0 rfl) ?_
  refine lv_iload_n hx hb dX0_find_1 rfl (lv_at hl 1 rfl) ?_
  refine lv_iload_n hx hb dX0_find_2 rfl (lv_at hl 2 rfl) ?_
  refine lv_iload_n hx hb dX0_find_3 rfl (lv_at hl 3 rfl) ?_
  refine lv_iconst (v := 0) hx hb dX0_find_4 (by decide) ?_
  obtain ⟨_, i_1, hf⟩ := b_some hf
  obtain ⟨z_1, c_1, hf⟩ := b_some hf
  refine xx_cVv hZ hE (As := [.int a1, .int a2, .int a3, .int (0 : Int32)]) (rest := []) k_X0 (is_m i_1) tw_169 tw_170 (c_X0_reckon l D cA ad 4 o a1 a2 a3 (0 : Int32) M _ c_1) cw_X0_reckon tw_168 ⟨rfl, rfl⟩ ⟨Nat.le_of_ble_eq_true rfl, Nat.le_of_ble_eq_true rfl⟩ rfl hl.1 rfl (Nat.le_of_ble_eq_true rfl) ⟨Nat.le_of_ble_eq_true rfl, Nat.le_of_ble_eq_true rfl⟩ dX0_find_5 (fun H locs hE => ?_)
  refine lv_aload_n hx hb dX0_find_8 rfl (lv_at hl 0 rfl) ?_
  obtain ⟨x_2, g_2, hf⟩ := b_some hf
  refine xx_gR hZ hE k_X0 1 (by decide) rfl tw_174 g_2 dX0_find_9 ?_
  refine lv_iload_n hx hb dX0_find_12 rfl (lv_at hl 1 rfl) ?_
  obtain ⟨x_3, g_3, hf⟩ := b_some hf
  refine xx_aR hZ hE g_3 dX0_find_13 ?_
  refine lv_iload_n hx hb dX0_find_14 rfl (lv_at hl 2 rfl) ?_
  refine lv_iload_n hx hb dX0_find_15 rfl (lv_at hl 3 rfl) ?_
  refine lv_aload_n hx hb dX0_find_16 rfl (lv_at hl 0 rfl) ?_
  obtain ⟨x_4, g_4, hf⟩ := b_some hf
  refine xx_gR hZ hE k_X0 2 (by decide) rfl tw_115 g_4 dX0_find_17 ?_
  obtain ⟨_, i_5, hf⟩ := b_some hf
  obtain ⟨z_5, c_5, hf⟩ := b_some hf
  refine xx_cVNv hZ hE (As := [.int a2, .int a3, .ref (ad x_4)]) (rest := []) k_X2 (is_m i_5) tw_176 tw_177 (c_X2_load l D cA ad x_3 a2 a3 x_4 z_1 _ c_5) cw_X2_load tw_175 ⟨rfl, rfl⟩ ⟨Nat.le_of_ble_eq_true rfl, Nat.le_of_ble_eq_true rfl⟩ rfl hl.1 rfl (Nat.le_of_ble_eq_true rfl) ⟨Nat.le_of_ble_eq_true rfl, Nat.le_of_ble_eq_true rfl⟩ dX0_find_20 (fun H locs hE => ?_)
  refine lv_aload_n hx hb dX0_find_23 rfl (lv_at hl 0 rfl) ?_
  obtain ⟨x_6, g_6, hf⟩ := b_some hf
  refine xx_gR hZ hE k_X0 2 (by decide) rfl tw_115 g_6 dX0_find_24 ?_
  exact hret _ _ _ _ _ _ (pr_1 hf) (pr_2 hf) dX0_find_27 hE
def rm_X6_row : Room := { frames := 57, cells := 0, slots := 0, locals := 2549 }
def f_X6_row (o : Nat) (a1 : Int32) (a2 : Int32) (a3 : Int32) (a4 : Int32) (M : Mm) : Option (Int64 × Mm) :=
    (op_is M o 6).bind fun _ =>
    (f_X6_hasModel o M).bind fun z_1 =>
    if z_1 = 0 then
    some ((-2 : Int64), M)
    else
    (op_is M o 6).bind fun _ =>
    (f_X6_isMove o a1 M).bind fun z_3 =>
    if z_3 = 0 then
    some ((-1 : Int64), M)
    else
    (op_gR M 6 o 0).bind fun x_5 =>
    (op_is M x_5 3).bind fun _ =>
    (f_X3_isState x_5 a2 M).bind fun z_6 =>
    if z_6 = 0 then
    some ((-1 : Int64), M)
    else
    (op_gR M 6 o 0).bind fun x_8 =>
    (op_is M x_8 3).bind fun _ =>
    (f_X3_isState x_8 a3 M).bind fun z_9 =>
    if z_9 = 0 then
    some ((-1 : Int64), M)
    else
    if a4 < 0 then
    some ((-1 : Int64), M)
    else
    if a4 ≤ (1 : Int32) then
    (op_gR M 6 o 2).bind fun x_13 =>
    (op_is M x_13 0).bind fun _ =>
    (f_X0_find x_13 a1 a2 a3 M).bind fun z_14 =>
    (op_gI z_14.2 1 z_14.1 2).bind fun x_15 =>
    if x_15 = 0 then
    some ((-4 : Int64), z_14.2)
    else
    if a4 = 0 then
    (op_gL z_14.2 1 z_14.1 0).bind fun x_19 =>
    some (x_19, z_14.2)
    else
    (op_gL z_14.2 1 z_14.1 1).bind fun x_18 =>
    some (x_18, z_14.2)
    else
    some ((-1 : Int64), M)
set_option maxHeartbeats 4000000 in
set_option maxRecDepth 100000 in
theorem c_X6_row (l : Launch) (D : va_G) (cA : Nat → ClassId) (ad : Nat → Nat) (o : Nat) (a1 : Int32) (a2 : Int32) (a3 : Int32) (a4 : Int32) (M : Mm) (zr : Int64 × Mm) (hf : f_X6_row o a1 a2 a3 a4 M = some zr) : KL l yX6_row cX6_row 6 (some .long) rm_X6_row D cA ad [.ref (ad o), .int a1, .int a2, .int a3, .int a4] M zr.1 zr.2 := by
  refine KL_of (by decide) (Nat.le_of_ble_eq_true rfl) ?_
  intro p e s m args below meth c ls Q A H locs hZ hE hl hret
  have hx := hZ.1
  have hb := hZ.2.1
  have hown := hZ.2.2.2.1
  have hts := hZ.2.2.2.2.1
  have hl : lv_has ls 6 [(0, .ref (ad o)), (1, .int a1), (2, .int a2), (3, .int a3), (4, .int a4)] := hl
  unfold f_X6_row at hf
  refine lv_aload_n hx hb dX6_row_0 rfl (lv_at hl 0 rfl) ?_
  obtain ⟨_, i_1, hf⟩ := b_some hf
  obtain ⟨z_1, c_1, hf⟩ := b_some hf
  refine xx_cVi hZ hE (As := []) (rest := []) k_X6 (is_m i_1) tw_38 tw_39 (c_X6_hasModel l D cA ad o M _ c_1) cw_X6_hasModel tw_36 ⟨rfl, rfl⟩ ⟨Nat.le_of_ble_eq_true rfl, Nat.le_of_ble_eq_true rfl⟩ rfl hl.1 rfl (Nat.le_of_ble_eq_true rfl) ⟨Nat.le_of_ble_eq_true rfl, Nat.le_of_ble_eq_true rfl⟩ dX6_row_1 (fun H locs hE => ?_)
  refine lv_if_ne (tgt := 11) hx hb dX6_row_4 (by decide) (fun h_2 => ?_) (fun h_2 => ?_)
  · have hf := it_n h_2 hf
    refine lv_aload_n hx hb dX6_row_11 rfl (lv_at hl 0 rfl) ?_
    refine lv_iload_n hx hb dX6_row_12 rfl (lv_at hl 1 rfl) ?_
    obtain ⟨_, i_3, hf⟩ := b_some hf
    obtain ⟨z_3, c_3, hf⟩ := b_some hf
    refine xx_cVi hZ hE (As := [.int a1]) (rest := []) k_X6 (is_m i_3) tw_59 tw_60 (c_X6_isMove l D cA ad o a1 M _ c_3) cw_X6_isMove tw_58 ⟨rfl, rfl⟩ ⟨Nat.le_of_ble_eq_true rfl, Nat.le_of_ble_eq_true rfl⟩ rfl hl.1 rfl (Nat.le_of_ble_eq_true rfl) ⟨Nat.le_of_ble_eq_true rfl, Nat.le_of_ble_eq_true rfl⟩ dX6_row_13 (fun H locs hE => ?_)
    refine lv_if_eq (tgt := 52) hx hb dX6_row_16 (by decide) (fun h_4 => ?_) (fun h_4 => ?_)
    · have hf := it_y h_4 hf
      refine lv_ldc2 (v := -1) hx hb hown (hts _ tw_221) dX6_row_52 ?_
      exact hret _ _ _ _ _ _ (pr_1 hf) (pr_2 hf) dX6_row_55 hE
    · have hf := it_n h_4 hf
      refine lv_aload_n hx hb dX6_row_19 rfl (lv_at hl 0 rfl) ?_
      obtain ⟨x_5, g_5, hf⟩ := b_some hf
      refine xx_gR hZ hE k_X6 0 (by decide) rfl tw_20 g_5 dX6_row_20 ?_
      refine lv_iload_n hx hb dX6_row_23 rfl (lv_at hl 2 rfl) ?_
      obtain ⟨_, i_6, hf⟩ := b_some hf
      obtain ⟨z_6, c_6, hf⟩ := b_some hf
      refine xx_cVNi hZ hE (As := [.int a2]) (rest := []) k_X3 (is_m i_6) tw_41 tw_42 (c_X3_isState l D cA ad x_5 a2 M _ c_6) cw_X3_isState tw_40 ⟨rfl, rfl⟩ ⟨Nat.le_of_ble_eq_true rfl, Nat.le_of_ble_eq_true rfl⟩ rfl hl.1 rfl (Nat.le_of_ble_eq_true rfl) ⟨Nat.le_of_ble_eq_true rfl, Nat.le_of_ble_eq_true rfl⟩ dX6_row_24 (fun H locs hE => ?_)
      refine lv_if_eq (tgt := 52) hx hb dX6_row_27 (by decide) (fun h_7 => ?_) (fun h_7 => ?_)
      · have hf := it_y h_7 hf
        refine lv_ldc2 (v := -1) hx hb hown (hts _ tw_221) dX6_row_52 ?_
        exact hret _ _ _ _ _ _ (pr_1 hf) (pr_2 hf) dX6_row_55 hE
      · have hf := it_n h_7 hf
        refine lv_aload_n hx hb dX6_row_30 rfl (lv_at hl 0 rfl) ?_
        obtain ⟨x_8, g_8, hf⟩ := b_some hf
        refine xx_gR hZ hE k_X6 0 (by decide) rfl tw_20 g_8 dX6_row_31 ?_
        refine lv_iload_n hx hb dX6_row_34 rfl (lv_at hl 3 rfl) ?_
        obtain ⟨_, i_9, hf⟩ := b_some hf
        obtain ⟨z_9, c_9, hf⟩ := b_some hf
        refine xx_cVNi hZ hE (As := [.int a3]) (rest := []) k_X3 (is_m i_9) tw_41 tw_42 (c_X3_isState l D cA ad x_8 a3 M _ c_9) cw_X3_isState tw_40 ⟨rfl, rfl⟩ ⟨Nat.le_of_ble_eq_true rfl, Nat.le_of_ble_eq_true rfl⟩ rfl hl.1 rfl (Nat.le_of_ble_eq_true rfl) ⟨Nat.le_of_ble_eq_true rfl, Nat.le_of_ble_eq_true rfl⟩ dX6_row_35 (fun H locs hE => ?_)
        refine lv_if_eq (tgt := 52) hx hb dX6_row_38 (by decide) (fun h_10 => ?_) (fun h_10 => ?_)
        · have hf := it_y h_10 hf
          refine lv_ldc2 (v := -1) hx hb hown (hts _ tw_221) dX6_row_52 ?_
          exact hret _ _ _ _ _ _ (pr_1 hf) (pr_2 hf) dX6_row_55 hE
        · have hf := it_n h_10 hf
          refine lv_iload hx hb dX6_row_41 (lv_at hl 4 rfl) ?_
          refine lv_if_lt (tgt := 52) hx hb dX6_row_43 (by decide) (fun h_11 => ?_) (fun h_11 => ?_)
          · have hf := it_y h_11 hf
            refine lv_ldc2 (v := -1) hx hb hown (hts _ tw_221) dX6_row_52 ?_
            exact hret _ _ _ _ _ _ (pr_1 hf) (pr_2 hf) dX6_row_55 hE
          · have hf := it_n h_11 hf
            refine lv_iload hx hb dX6_row_46 (lv_at hl 4 rfl) ?_
            refine lv_iconst (v := 1) hx hb dX6_row_48 (by decide) ?_
            refine lv_icmp_le (tgt := 56) hx hb dX6_row_49 (by decide) (fun h_12 => ?_) (fun h_12 => ?_)
            · have hf := it_y h_12 hf
              refine lv_aload_n hx hb dX6_row_56 rfl (lv_at hl 0 rfl) ?_
              obtain ⟨x_13, g_13, hf⟩ := b_some hf
              refine xx_gR hZ hE k_X6 2 (by decide) rfl tw_25 g_13 dX6_row_57 ?_
              refine lv_iload_n hx hb dX6_row_60 rfl (lv_at hl 1 rfl) ?_
              refine lv_iload_n hx hb dX6_row_61 rfl (lv_at hl 2 rfl) ?_
              refine lv_iload_n hx hb dX6_row_62 rfl (lv_at hl 3 rfl) ?_
              obtain ⟨_, i_14, hf⟩ := b_some hf
              obtain ⟨z_14, c_14, hf⟩ := b_some hf
              refine xx_cVNr hZ hE (As := [.int a1, .int a2, .int a3]) (rest := []) k_X0 (is_m i_14) tw_223 tw_224 (c_X0_find l D cA ad x_13 a1 a2 a3 M _ c_14) cw_X0_find tw_222 ⟨rfl, rfl⟩ ⟨Nat.le_of_ble_eq_true rfl, Nat.le_of_ble_eq_true rfl⟩ rfl hl.1 rfl (Nat.le_of_ble_eq_true rfl) ⟨Nat.le_of_ble_eq_true rfl, Nat.le_of_ble_eq_true rfl⟩ dX6_row_63 (fun H locs hE => ?_)
              refine lv_astore (lv' := [(5, .ref (ad z_14.1)), (0, .ref (ad o)), (1, .int a1), (2, .int a2), (3, .int a3), (4, .int a4)]) hx hb dX6_row_66 hl (by decide) rfl (fun ls hl => ?_)
              refine lv_aload hx hb dX6_row_68 (lv_at hl 0 rfl) ?_
              obtain ⟨x_15, g_15, hf⟩ := b_some hf
              refine xx_gIN hZ hE k_X1 2 (by decide) rfl tw_225 g_15 dX6_row_70 ?_
              refine lv_if_ne (tgt := 80) hx hb dX6_row_73 (by decide) (fun h_16 => ?_) (fun h_16 => ?_)
              · have hf := it_n h_16 hf
                refine lv_iload hx hb dX6_row_80 (lv_at hl 5 rfl) ?_
                refine lv_if_ne (tgt := 93) hx hb dX6_row_82 (by decide) (fun h_17 => ?_) (fun h_17 => ?_)
                · have hf := it_n h_17 hf
                  refine lv_aload hx hb dX6_row_93 (lv_at hl 0 rfl) ?_
                  obtain ⟨x_18, g_18, hf⟩ := b_some hf
                  refine xx_gLN hZ hE k_X1 1 (by decide) rfl tw_226 g_18 dX6_row_95 ?_
                  exact hret _ _ _ _ _ _ (pr_1 hf) (pr_2 hf) dX6_row_98 hE
                · have hf := it_y h_17 hf
                  refine lv_aload hx hb dX6_row_85 (lv_at hl 0 rfl) ?_
                  obtain ⟨x_19, g_19, hf⟩ := b_some hf
                  refine xx_gLN hZ hE k_X1 0 (by decide) rfl tw_227 g_19 dX6_row_87 ?_
                  refine lv_goto (tgt := 98) hx hb dX6_row_90 (by decide) ?_
                  exact hret _ _ _ _ _ _ (pr_1 hf) (pr_2 hf) dX6_row_98 hE
              · have hf := it_y h_16 hf
                refine lv_ldc2 (v := -4) hx hb hown (hts _ tw_228) dX6_row_76 ?_
                exact hret _ _ _ _ _ _ (pr_1 hf) (pr_2 hf) dX6_row_79 hE
            · have hf := it_n h_12 hf
              refine lv_ldc2 (v := -1) hx hb hown (hts _ tw_221) dX6_row_52 ?_
              exact hret _ _ _ _ _ _ (pr_1 hf) (pr_2 hf) dX6_row_55 hE
  · have hf := it_y h_2 hf
    refine lv_ldc2 (v := -2) hx hb hown (hts _ tw_229) dX6_row_7 ?_
    exact hret _ _ _ _ _ _ (pr_1 hf) (pr_2 hf) dX6_row_10 hE
def rm_X0_weigh : Room := { frames := 3, cells := 0, slots := 0, locals := 77 }
def f_X0_weigh (o : Nat) (a1 : Int32) (a2 : Int32) (a3 : Int32) (a4 : Nat) (M : Mm) : Option (Mm) :=
    (op_gR M 0 o 1).bind fun x_1 =>
    (op_aR M x_1 a1).bind fun x_2 =>
    (op_is M x_2 2).bind fun _ =>
    (f_X2_load x_2 a2 a3 a4 M).bind fun z_3 =>
    (op_gR z_3 0 o 4).bind fun x_4 =>
    (op_gR z_3 0 o 0).bind fun x_5 =>
    (op_gR z_3 3 x_5 5).bind fun x_6 =>
    (op_aI z_3 x_6 a2).bind fun x_7 =>
    (op_is z_3 x_4 1).bind fun _ =>
    (f_X1_set x_4 x_7.toInt64 (1 : Int64) z_3).bind fun z_8 =>
    (op_gR z_8 0 o 4).bind fun x_9 =>
    (op_is z_8 a4 1).bind fun _ =>
    (f_X1_times a4 x_9 z_8).bind fun z_10 =>
    some z_10
set_option maxHeartbeats 4000000 in
set_option maxRecDepth 100000 in
theorem c_X0_weigh (l : Launch) (D : va_G) (cA : Nat → ClassId) (ad : Nat → Nat) (o : Nat) (a1 : Int32) (a2 : Int32) (a3 : Int32) (a4 : Nat) (M : Mm) (zr : Mm) (hf : f_X0_weigh o a1 a2 a3 a4 M = some zr) : KV l yX0_weigh cX0_weigh 5 none rm_X0_weigh D cA ad [.ref (ad o), .int a1, .int a2, .int a3, .ref (ad a4)] M zr := by
  refine KV_of (by decide) (Nat.le_of_ble_eq_true rfl) ?_
  intro p e s m args below meth c ls Q A H locs hZ hE hl hret
  have hx := hZ.1
  have hb := hZ.2.1
  have hown := hZ.2.2.2.1
  have hts := hZ.2.2.2.2.1
  have hl : lv_has ls 5 [(0, .ref (ad o)), (1, .int a1), (2, .int a2), (3, .int a3), (4, .ref (ad a4))] := hl
  unfold f_X0_weigh at hf
  refine lv_aload_n hx hb dX0_weigh_0 rfl (lv_at hl 0 rfl) ?_
  obtain ⟨x_1, g_1, hf⟩ := b_some hf
  refine xx_gR hZ hE k_X0 1 (by decide) rfl tw_174 g_1 dX0_weigh_1 ?_
  refine lv_iload_n hx hb dX0_weigh_4 rfl (lv_at hl 1 rfl) ?_
  obtain ⟨x_2, g_2, hf⟩ := b_some hf
  refine xx_aR hZ hE g_2 dX0_weigh_5 ?_
  refine lv_iload_n hx hb dX0_weigh_6 rfl (lv_at hl 2 rfl) ?_
  refine lv_iload_n hx hb dX0_weigh_7 rfl (lv_at hl 3 rfl) ?_
  refine lv_aload hx hb dX0_weigh_8 (lv_at hl 4 rfl) ?_
  obtain ⟨_, i_3, hf⟩ := b_some hf
  obtain ⟨z_3, c_3, hf⟩ := b_some hf
  refine xx_cVNv hZ hE (As := [.int a2, .int a3, .ref (ad a4)]) (rest := []) k_X2 (is_m i_3) tw_176 tw_177 (c_X2_load l D cA ad x_2 a2 a3 a4 M _ c_3) cw_X2_load tw_175 ⟨rfl, rfl⟩ ⟨Nat.le_of_ble_eq_true rfl, Nat.le_of_ble_eq_true rfl⟩ rfl hl.1 rfl (Nat.le_of_ble_eq_true rfl) ⟨Nat.le_of_ble_eq_true rfl, Nat.le_of_ble_eq_true rfl⟩ dX0_weigh_10 (fun H locs hE => ?_)
  refine lv_aload_n hx hb dX0_weigh_13 rfl (lv_at hl 0 rfl) ?_
  obtain ⟨x_4, g_4, hf⟩ := b_some hf
  refine xx_gR hZ hE k_X0 4 (by decide) rfl tw_181 g_4 dX0_weigh_14 ?_
  refine lv_aload_n hx hb dX0_weigh_17 rfl (lv_at hl 0 rfl) ?_
  obtain ⟨x_5, g_5, hf⟩ := b_some hf
  refine xx_gR hZ hE k_X0 0 (by decide) rfl tw_111 g_5 dX0_weigh_18 ?_
  obtain ⟨x_6, g_6, hf⟩ := b_some hf
  refine xx_gRN hZ hE k_X3 5 (by decide) rfl tw_119 g_6 dX0_weigh_21 ?_
  refine lv_iload_n hx hb dX0_weigh_24 rfl (lv_at hl 2 rfl) ?_
  obtain ⟨x_7, g_7, hf⟩ := b_some hf
  refine xx_aI hZ hE g_7 dX0_weigh_25 ?_
  refine lv_i2l hx hb dX0_weigh_26 rfl ?_
  refine lv_lconst (v := 1) hx hb dX0_weigh_27 (by decide) ?_
  obtain ⟨_, i_8, hf⟩ := b_some hf
  obtain ⟨z_8, c_8, hf⟩ := b_some hf
  refine xx_cVNv hZ hE (As := [.long x_7.toInt64, .long (1 : Int64)]) (rest := []) k_X1 (is_m i_8) tw_121 tw_122 (c_X1_set l D cA ad x_4 x_7.toInt64 (1 : Int64) z_3 _ c_8) cw_X1_set tw_120 ⟨rfl, rfl⟩ ⟨Nat.le_of_ble_eq_true rfl, Nat.le_of_ble_eq_true rfl⟩ rfl hl.1 rfl (Nat.le_of_ble_eq_true rfl) ⟨Nat.le_of_ble_eq_true rfl, Nat.le_of_ble_eq_true rfl⟩ dX0_weigh_28 (fun H locs hE => ?_)
  refine lv_aload hx hb dX0_weigh_31 (lv_at hl 4 rfl) ?_
  refine lv_aload_n hx hb dX0_weigh_33 rfl (lv_at hl 0 rfl) ?_
  obtain ⟨x_9, g_9, hf⟩ := b_some hf
  refine xx_gR hZ hE k_X0 4 (by decide) rfl tw_181 g_9 dX0_weigh_34 ?_
  obtain ⟨_, i_10, hf⟩ := b_some hf
  obtain ⟨z_10, c_10, hf⟩ := b_some hf
  refine xx_cVNv hZ hE (As := [.ref (ad x_9)]) (rest := []) k_X1 (is_m i_10) tw_179 tw_180 (c_X1_times l D cA ad a4 x_9 z_8 _ c_10) cw_X1_times tw_178 ⟨rfl, rfl⟩ ⟨Nat.le_of_ble_eq_true rfl, Nat.le_of_ble_eq_true rfl⟩ rfl hl.1 rfl (Nat.le_of_ble_eq_true rfl) ⟨Nat.le_of_ble_eq_true rfl, Nat.le_of_ble_eq_true rfl⟩ dX0_weigh_37 (fun H locs hE => ?_)
  exact hret _ _ _ _ _ (Option.some.inj hf) dX0_weigh_40 hE
