def rm_J6_bitCount_0f7a4 : Room := { frames := 0, cells := 0, slots := 0, locals := 0 }
def f_J6_bitCount_0f7a4 (a1 : Int32) : Option (Int32) :=
    some ((((((((a1 - (((a1.toUInt32 >>> ((1 : Int32).toUInt32 &&& Int32.toUInt32 31)).toInt32) &&& (1431655765 : Int32))) &&& (858993459 : Int32)) + ((((a1 - (((a1.toUInt32 >>> ((1 : Int32).toUInt32 &&& Int32.toUInt32 31)).toInt32) &&& (1431655765 : Int32))).toUInt32 >>> ((2 : Int32).toUInt32 &&& Int32.toUInt32 31)).toInt32) &&& (858993459 : Int32))) + (((((a1 - (((a1.toUInt32 >>> ((1 : Int32).toUInt32 &&& Int32.toUInt32 31)).toInt32) &&& (1431655765 : Int32))) &&& (858993459 : Int32)) + ((((a1 - (((a1.toUInt32 >>> ((1 : Int32).toUInt32 &&& Int32.toUInt32 31)).toInt32) &&& (1431655765 : Int32))).toUInt32 >>> ((2 : Int32).toUInt32 &&& Int32.toUInt32 31)).toInt32) &&& (858993459 : Int32))).toUInt32 >>> ((4 : Int32).toUInt32 &&& Int32.toUInt32 31)).toInt32)) &&& (252645135 : Int32)) + (((((((a1 - (((a1.toUInt32 >>> ((1 : Int32).toUInt32 &&& Int32.toUInt32 31)).toInt32) &&& (1431655765 : Int32))) &&& (858993459 : Int32)) + ((((a1 - (((a1.toUInt32 >>> ((1 : Int32).toUInt32 &&& Int32.toUInt32 31)).toInt32) &&& (1431655765 : Int32))).toUInt32 >>> ((2 : Int32).toUInt32 &&& Int32.toUInt32 31)).toInt32) &&& (858993459 : Int32))) + (((((a1 - (((a1.toUInt32 >>> ((1 : Int32).toUInt32 &&& Int32.toUInt32 31)).toInt32) &&& (1431655765 : Int32))) &&& (858993459 : Int32)) + ((((a1 - (((a1.toUInt32 >>> ((1 : Int32).toUInt32 &&& Int32.toUInt32 31)).toInt32) &&& (1431655765 : Int32))).toUInt32 >>> ((2 : Int32).toUInt32 &&& Int32.toUInt32 31)).toInt32) &&& (858993459 : Int32))).toUInt32 >>> ((4 : Int32).toUInt32 &&& Int32.toUInt32 31)).toInt32)) &&& (252645135 : Int32)).toUInt32 >>> ((8 : Int32).toUInt32 &&& Int32.toUInt32 31)).toInt32)) + ((((((((a1 - (((a1.toUInt32 >>> ((1 : Int32).toUInt32 &&& Int32.toUInt32 31)).toInt32) &&& (1431655765 : Int32))) &&& (858993459 : Int32)) + ((((a1 - (((a1.toUInt32 >>> ((1 : Int32).toUInt32 &&& Int32.toUInt32 31)).toInt32) &&& (1431655765 : Int32))).toUInt32 >>> ((2 : Int32).toUInt32 &&& Int32.toUInt32 31)).toInt32) &&& (858993459 : Int32))) + (((((a1 - (((a1.toUInt32 >>> ((1 : Int32).toUInt32 &&& Int32.toUInt32 31)).toInt32) &&& (1431655765 : Int32))) &&& (858993459 : Int32)) + ((((a1 - (((a1.toUInt32 >>> ((1 : Int32).toUInt32 &&& Int32.toUInt32 31)).toInt32) &&& (1431655765 : Int32))).toUInt32 >>> ((2 : Int32).toUInt32 &&& Int32.toUInt32 31)).toInt32) &&& (858993459 : Int32))).toUInt32 >>> ((4 : Int32).toUInt32 &&& Int32.toUInt32 31)).toInt32)) &&& (252645135 : Int32)) + (((((((a1 - (((a1.toUInt32 >>> ((1 : Int32).toUInt32 &&& Int32.toUInt32 31)).toInt32) &&& (1431655765 : Int32))) &&& (858993459 : Int32)) + ((((a1 - (((a1.toUInt32 >>> ((1 : Int32).toUInt32 &&& Int32.toUInt32 31)).toInt32) &&& (1431655765 : Int32))).toUInt32 >>> ((2 : Int32).toUInt32 &&& Int32.toUInt32 31)).toInt32) &&& (858993459 : Int32))) + (((((a1 - (((a1.toUInt32 >>> ((1 : Int32).toUInt32 &&& Int32.toUInt32 31)).toInt32) &&& (1431655765 : Int32))) &&& (858993459 : Int32)) + ((((a1 - (((a1.toUInt32 >>> ((1 : Int32).toUInt32 &&& Int32.toUInt32 31)).toInt32) &&& (1431655765 : Int32))).toUInt32 >>> ((2 : Int32).toUInt32 &&& Int32.toUInt32 31)).toInt32) &&& (858993459 : Int32))).toUInt32 >>> ((4 : Int32).toUInt32 &&& Int32.toUInt32 31)).toInt32)) &&& (252645135 : Int32)).toUInt32 >>> ((8 : Int32).toUInt32 &&& Int32.toUInt32 31)).toInt32)).toUInt32 >>> ((16 : Int32).toUInt32 &&& Int32.toUInt32 31)).toInt32)) &&& (63 : Int32))
set_option maxHeartbeats 4000000 in
set_option maxRecDepth 100000 in
theorem c_J6_bitCount_0f7a4 (l : Launch) (D : va_G) (cA : Nat → ClassId) (ad : Nat → Nat) (a1 : Int32) (M : Mm) (zr : Int32) (hf : f_J6_bitCount_0f7a4 a1 = some zr) : KI l yJ6_bitCount_0f7a4 cJ6_bitCount_0f7a4 1 (some .int) rm_J6_bitCount_0f7a4 D cA ad [.int a1] M zr M := by
  refine KI_of (by decide) (Nat.le_of_ble_eq_true rfl) ?_
  intro p e s m args below meth c ls Q A H locs hZ hE hl hret
  have hx := hZ.1
  have hb := hZ.2.1
  have hown := hZ.2.2.2.1
  have hts := hZ.2.2.2.2.1
  have hl : lv_has ls 1 [(0, .int a1)] := hl
  unfold f_J6_bitCount_0f7a4 at hf
  refine lv_iload_n hx hb dJ6_bitCount_0f7a4_0 rfl (lv_at hl 0 rfl) ?_
  refine lv_iload_n hx hb dJ6_bitCount_0f7a4_1 rfl (lv_at hl 0 rfl) ?_
  refine lv_iconst (v := 1) hx hb dJ6_bitCount_0f7a4_2 (by decide) ?_
  refine lv_iushr hx hb dJ6_bitCount_0f7a4_3 rfl ?_
  refine lv_ldcw (v := 1431655765) hx hb hown (hts _ tw_284) dJ6_bitCount_0f7a4_4 ?_
  refine lv_iand hx hb dJ6_bitCount_0f7a4_7 ?_
  refine lv_isub hx hb dJ6_bitCount_0f7a4_8 ?_
  refine lv_istore_n (lv' := [(0, .int (a1 - (((a1.toUInt32 >>> ((1 : Int32).toUInt32 &&& Int32.toUInt32 31)).toInt32) &&& (1431655765 : Int32))))]) hx hb dJ6_bitCount_0f7a4_9 rfl hl (by decide) rfl (fun ls hl => ?_)
  refine lv_iload_n hx hb dJ6_bitCount_0f7a4_10 rfl (lv_at hl 0 rfl) ?_
  refine lv_ldcw (v := 858993459) hx hb hown (hts _ tw_285) dJ6_bitCount_0f7a4_11 ?_
  refine lv_iand hx hb dJ6_bitCount_0f7a4_14 ?_
  refine lv_iload_n hx hb dJ6_bitCount_0f7a4_15 rfl (lv_at hl 0 rfl) ?_
  refine lv_iconst (v := 2) hx hb dJ6_bitCount_0f7a4_16 (by decide) ?_
  refine lv_iushr hx hb dJ6_bitCount_0f7a4_17 rfl ?_
  refine lv_ldcw (v := 858993459) hx hb hown (hts _ tw_285) dJ6_bitCount_0f7a4_18 ?_
  refine lv_iand hx hb dJ6_bitCount_0f7a4_21 ?_
  refine lv_iadd hx hb dJ6_bitCount_0f7a4_22 ?_
  refine lv_istore_n (lv' := [(0, .int (((a1 - (((a1.toUInt32 >>> ((1 : Int32).toUInt32 &&& Int32.toUInt32 31)).toInt32) &&& (1431655765 : Int32))) &&& (858993459 : Int32)) + ((((a1 - (((a1.toUInt32 >>> ((1 : Int32).toUInt32 &&& Int32.toUInt32 31)).toInt32) &&& (1431655765 : Int32))).toUInt32 >>> ((2 : Int32).toUInt32 &&& Int32.toUInt32 31)).toInt32) &&& (858993459 : Int32))))]) hx hb dJ6_bitCount_0f7a4_23 rfl hl (by decide) rfl (fun ls hl => ?_)
  refine lv_iload_n hx hb dJ6_bitCount_0f7a4_24 rfl (lv_at hl 0 rfl) ?_
  refine lv_iload_n hx hb dJ6_bitCount_0f7a4_25 rfl (lv_at hl 0 rfl) ?_
  refine lv_iconst (v := 4) hx hb dJ6_bitCount_0f7a4_26 (by decide) ?_
  refine lv_iushr hx hb dJ6_bitCount_0f7a4_27 rfl ?_
  refine lv_iadd hx hb dJ6_bitCount_0f7a4_28 ?_
  refine lv_ldcw (v := 252645135) hx hb hown (hts _ tw_286) dJ6_bitCount_0f7a4_29 ?_
  refine lv_iand hx hb dJ6_bitCount_0f7a4_32 ?_
  refine lv_istore_n (lv' := [(0, .int (((((a1 - (((a1.toUInt32 >>> ((1 : Int32).toUInt32 &&& Int32.toUInt32 31)).toInt32) &&& (1431655765 : Int32))) &&& (858993459 : Int32)) + ((((a1 - (((a1.toUInt32 >>> ((1 : Int32).toUInt32 &&& Int32.toUInt32 31)).toInt32) &&& (1431655765 : Int32))).toUInt32 >>> ((2 : Int32).toUInt32 &&& Int32.toUInt32 31)).toInt32) &&& (858993459 : Int32))) + (((((a1 - (((a1.toUInt32 >>> ((1 : Int32).toUInt32 &&& Int32.toUInt32 31)).toInt32) &&& (1431655765 : Int32))) &&& (858993459 : Int32)) + ((((a1 - (((a1.toUInt32 >>> ((1 : Int32).toUInt32 &&& Int32.toUInt32 31)).toInt32) &&& (1431655765 : Int32))).toUInt32 >>> ((2 : Int32).toUInt32 &&& Int32.toUInt32 31)).toInt32) &&& (858993459 : Int32))).toUInt32 >>> ((4 : Int32).toUInt32 &&& Int32.toUInt32 31)).toInt32)) &&& (252645135 : Int32)))]) hx hb dJ6_bitCount_0f7a4_33 rfl hl (by decide) rfl (fun ls hl => ?_)
  refine lv_iload_n hx hb dJ6_bitCount_0f7a4_34 rfl (lv_at hl 0 rfl) ?_
  refine lv_iload_n hx hb dJ6_bitCount_0f7a4_35 rfl (lv_at hl 0 rfl) ?_
  refine lv_bipush (v := 8) hx hb dJ6_bitCount_0f7a4_36 (by decide) ?_
  refine lv_iushr hx hb dJ6_bitCount_0f7a4_38 rfl ?_
  refine lv_iadd hx hb dJ6_bitCount_0f7a4_39 ?_
  refine lv_istore_n (lv' := [(0, .int ((((((a1 - (((a1.toUInt32 >>> ((1 : Int32).toUInt32 &&& Int32.toUInt32 31)).toInt32) &&& (1431655765 : Int32))) &&& (858993459 : Int32)) + ((((a1 - (((a1.toUInt32 >>> ((1 : Int32).toUInt32 &&& Int32.toUInt32 31)).toInt32) &&& (1431655765 : Int32))).toUInt32 >>> ((2 : Int32).toUInt32 &&& Int32.toUInt32 31)).toInt32) &&& (858993459 : Int32))) + (((((a1 - (((a1.toUInt32 >>> ((1 : Int32).toUInt32 &&& Int32.toUInt32 31)).toInt32) &&& (1431655765 : Int32))) &&& (858993459 : Int32)) + ((((a1 - (((a1.toUInt32 >>> ((1 : Int32).toUInt32 &&& Int32.toUInt32 31)).toInt32) &&& (1431655765 : Int32))).toUInt32 >>> ((2 : Int32).toUInt32 &&& Int32.toUInt32 31)).toInt32) &&& (858993459 : Int32))).toUInt32 >>> ((4 : Int32).toUInt32 &&& Int32.toUInt32 31)).toInt32)) &&& (252645135 : Int32)) + (((((((a1 - (((a1.toUInt32 >>> ((1 : Int32).toUInt32 &&& Int32.toUInt32 31)).toInt32) &&& (1431655765 : Int32))) &&& (858993459 : Int32)) + ((((a1 - (((a1.toUInt32 >>> ((1 : Int32).toUInt32 &&& Int32.toUInt32 31)).toInt32) &&& (1431655765 : Int32))).toUInt32 >>> ((2 : Int32).toUInt32 &&& Int32.toUInt32 31)).toInt32) &&& (858993459 : Int32))) + (((((a1 - (((a1.toUInt32 >>> ((1 : Int32).toUInt32 &&& Int32.toUInt32 31)).toInt32) &&& (1431655765 : Int32))) &&& (858993459 : Int32)) + ((((a1 - (((a1.toUInt32 >>> ((1 : Int32).toUInt32 &&& Int32.toUInt32 31)).toInt32) &&& (1431655765 : Int32))).toUInt32 >>> ((2 : Int32).toUInt32 &&& Int32.toUInt32 31)).toInt32) &&& (858993459 : Int32))).toUInt32 >>> ((4 : Int32).toUInt32 &&& Int32.toUInt32 31)).toInt32)) &&& (252645135 : Int32)).toUInt32 >>> ((8 : Int32).toUInt32 &&& Int32.toUInt32 31)).toInt32)))]) hx hb dJ6_bitCount_0f7a4_40 rfl hl (by decide) rfl (fun ls hl => ?_)
  refine lv_iload_n hx hb dJ6_bitCount_0f7a4_41 rfl (lv_at hl 0 rfl) ?_
  refine lv_iload_n hx hb dJ6_bitCount_0f7a4_42 rfl (lv_at hl 0 rfl) ?_
  refine lv_bipush (v := 16) hx hb dJ6_bitCount_0f7a4_43 (by decide) ?_
  refine lv_iushr hx hb dJ6_bitCount_0f7a4_45 rfl ?_
  refine lv_iadd hx hb dJ6_bitCount_0f7a4_46 ?_
  refine lv_istore_n (lv' := [(0, .int (((((((a1 - (((a1.toUInt32 >>> ((1 : Int32).toUInt32 &&& Int32.toUInt32 31)).toInt32) &&& (1431655765 : Int32))) &&& (858993459 : Int32)) + ((((a1 - (((a1.toUInt32 >>> ((1 : Int32).toUInt32 &&& Int32.toUInt32 31)).toInt32) &&& (1431655765 : Int32))).toUInt32 >>> ((2 : Int32).toUInt32 &&& Int32.toUInt32 31)).toInt32) &&& (858993459 : Int32))) + (((((a1 - (((a1.toUInt32 >>> ((1 : Int32).toUInt32 &&& Int32.toUInt32 31)).toInt32) &&& (1431655765 : Int32))) &&& (858993459 : Int32)) + ((((a1 - (((a1.toUInt32 >>> ((1 : Int32).toUInt32 &&& Int32.toUInt32 31)).toInt32) &&& (1431655765 : Int32))).toUInt32 >>> ((2 : Int32).toUInt32 &&& Int32.toUInt32 31)).toInt32) &&& (858993459 : Int32))).toUInt32 >>> ((4 : Int32).toUInt32 &&& Int32.toUInt32 31)).toInt32)) &&& (252645135 : Int32)) + (((((((a1 - (((a1.toUInt32 >>> ((1 : Int32).toUInt32 &&& Int32.toUInt32 31)).toInt32) &&& (1431655765 : Int32))) &&& (858993459 : Int32)) + ((((a1 - (((a1.toUInt32 >>> ((1 : Int32).toUInt32 &&& Int32.toUInt32 31)).toInt32) &&& (1431655765 : Int32))).toUInt32 >>> ((2 : Int32).toUInt32 &&& Int32.toUInt32 31)).toInt32) &&& (858993459 : Int32))) + (((((a1 - (((a1.toUInt32 >>> ((1 : Int32).toUInt32 &&& Int32.toUInt32 31)).toInt32) &&& (1431655765 : Int32))) &&& (858993459 : Int32)) + ((((a1 - (((a1.toUInt32 >>> ((1 : Int32).toUInt32 &&& Int32.toUInt32 31)).toInt32) &&& (1431655765 : Int32))).toUInt32 >>> ((2 : Int32).toUInt32 &&& Int32.toUInt32 31)).toInt32) &&& (858993459 : Int32))).toUInt32 >>> ((4 : Int32).toUInt32 &&& Int32.toUInt32 31)).toInt32)) &&& (252645135 : Int32)).toUInt32 >>> ((8 : Int32).toUInt32 &&& Int32.toUInt32 31)).toInt32)) + ((((((((a1 - (((a1.toUInt32 >>> ((1 : Int32).toUInt32 &&& Int32.toUInt32 31)).toInt32) &&& (1431655765 : Int32))) &&& (858993459 : Int32)) + ((((a1 - (((a1.toUInt32 >>> ((1 : Int32).toUInt32 &&& Int32.toUInt32 31)).toInt32) &&& (1431655765 : Int32))).toUInt32 >>> ((2 : Int32).toUInt32 &&& Int32.toUInt32 31)).toInt32) &&& (858993459 : Int32))) + (((((a1 - (((a1.toUInt32 >>> ((1 : Int32).toUInt32 &&& Int32.toUInt32 31)).toInt32) &&& (1431655765 : Int32))) &&& (858993459 : Int32)) + ((((a1 - (((a1.toUInt32 >>> ((1 : Int32).toUInt32 &&& Int32.toUInt32 31)).toInt32) &&& (1431655765 : Int32))).toUInt32 >>> ((2 : Int32).toUInt32 &&& Int32.toUInt32 31)).toInt32) &&& (858993459 : Int32))).toUInt32 >>> ((4 : Int32).toUInt32 &&& Int32.toUInt32 31)).toInt32)) &&& (252645135 : Int32)) + (((((((a1 - (((a1.toUInt32 >>> ((1 : Int32).toUInt32 &&& Int32.toUInt32 31)).toInt32) &&& (1431655765 : Int32))) &&& (858993459 : Int32)) + ((((a1 - (((a1.toUInt32 >>> ((1 : Int32).toUInt32 &&& Int32.toUInt32 31)).toInt32) &&& (1431655765 : Int32))).toUInt32 >>> ((2 : Int32).toUInt32 &&& Int32.toUInt32 31)).toInt32) &&& (858993459 : Int32))) + (((((a1 - (((a1.toUInt32 >>> ((1 : Int32).toUInt32 &&& Int32.toUInt32 31)).toInt32) &&& (1431655765 : Int32))) &&& (858993459 : Int32)) + ((((a1 - (((a1.toUInt32 >>> ((1 : Int32).toUInt32 &&& Int32.toUInt32 31)).toInt32) &&& (1431655765 : Int32))).toUInt32 >>> ((2 : Int32).toUInt32 &&& Int32.toUInt32 31)).toInt32) &&& (858993459 : Int32))).toUInt32 >>> ((4 : Int32).toUInt32 &&& Int32.toUInt32 31)).toInt32)) &&& (252645135 : Int32)).toUInt32 >>> ((8 : Int32).toUInt32 &&& Int32.toUInt32 31)).toInt32)).toUInt32 >>> ((16 : Int32).toUInt32 &&& Int32.toUInt32 31)).toInt32)))]) hx hb dJ6_bitCount_0f7a4_47 rfl hl (by decide) rfl (fun ls hl => ?_)
  refine lv_iload_n hx hb dJ6_bitCount_0f7a4_48 rfl (lv_at hl 0 rfl) ?_
  refine lv_bipush (v := 63) hx hb dJ6_bitCount_0f7a4_49 (by decide) ?_
  refine lv_iand hx hb dJ6_bitCount_0f7a4_51 ?_
  exact hret _ _ _ _ _ _ (Option.some.inj hf) rfl rfl dJ6_bitCount_0f7a4_52 hE
def rm_X6_reach : Room := { frames := 57, cells := 0, slots := 0, locals := 2550 }
def f_X6_reach (o : Nat) (a1 : Int32) (a2 : Int32) (M : Mm) : Option (Int32) :=
    (op_is M o 6).bind fun _ =>
    (f_X6_hasModel o M).bind fun z_1 =>
    if z_1 = 0 then
    some (-2 : Int32)
    else
    (op_is M o 6).bind fun _ =>
    (f_X6_isMove o a1 M).bind fun z_3 =>
    if z_3 = 0 then
    some (-1 : Int32)
    else
    (op_gR M 6 o 0).bind fun x_5 =>
    (op_is M x_5 3).bind fun _ =>
    (f_X3_isState x_5 a2 M).bind fun z_6 =>
    if z_6 = 0 then
    some (-1 : Int32)
    else
    (op_gR M 6 o 3).bind fun x_8 =>
    (op_is M x_8 4).bind fun _ =>
    (f_X4_allFrom x_8 a1 a2 M).bind fun z_9 =>
    (f_J6_bitCount_0f7a4 z_9).bind fun z_10 =>
    some z_10
set_option maxHeartbeats 4000000 in
set_option maxRecDepth 100000 in
theorem c_X6_reach (l : Launch) (D : va_G) (cA : Nat → ClassId) (ad : Nat → Nat) (o : Nat) (a1 : Int32) (a2 : Int32) (M : Mm) (zr : Int32) (hf : f_X6_reach o a1 a2 M = some zr) : KI l yX6_reach cX6_reach 3 (some .int) rm_X6_reach D cA ad [.ref (ad o), .int a1, .int a2] M zr M := by
  refine KI_of (by decide) (Nat.le_of_ble_eq_true rfl) ?_
  intro p e s m args below meth c ls Q A H locs hZ hE hl hret
  have hx := hZ.1
  have hb := hZ.2.1
  have hown := hZ.2.2.2.1
  have hts := hZ.2.2.2.2.1
  have hl : lv_has ls 3 [(0, .ref (ad o)), (1, .int a1), (2, .int a2)] := hl
  unfold f_X6_reach at hf
  refine lv_aload_n hx hb dX6_reach_0 rfl (lv_at hl 0 rfl) ?_
  obtain ⟨_, i_1, hf⟩ := b_some hf
  obtain ⟨z_1, c_1, hf⟩ := b_some hf
  refine xx_cVi hZ hE (As := []) (rest := []) k_X6 (is_m i_1) tw_38 tw_39 (c_X6_hasModel l D cA ad o M _ c_1) cw_X6_hasModel tw_36 ⟨rfl, rfl⟩ ⟨Nat.le_of_ble_eq_true rfl, Nat.le_of_ble_eq_true rfl⟩ rfl hl.1 rfl (Nat.le_of_ble_eq_true rfl) ⟨Nat.le_of_ble_eq_true rfl, Nat.le_of_ble_eq_true rfl⟩ dX6_reach_1 (fun H locs hE => ?_)
  refine lv_if_ne (tgt := 10) hx hb dX6_reach_4 (by decide) (fun h_2 => ?_) (fun h_2 => ?_)
  · have hf := it_n h_2 hf
    refine lv_aload_n hx hb dX6_reach_10 rfl (lv_at hl 0 rfl) ?_
    refine lv_iload_n hx hb dX6_reach_11 rfl (lv_at hl 1 rfl) ?_
    obtain ⟨_, i_3, hf⟩ := b_some hf
    obtain ⟨z_3, c_3, hf⟩ := b_some hf
    refine xx_cVi hZ hE (As := [.int a1]) (rest := []) k_X6 (is_m i_3) tw_59 tw_60 (c_X6_isMove l D cA ad o a1 M _ c_3) cw_X6_isMove tw_58 ⟨rfl, rfl⟩ ⟨Nat.le_of_ble_eq_true rfl, Nat.le_of_ble_eq_true rfl⟩ rfl hl.1 rfl (Nat.le_of_ble_eq_true rfl) ⟨Nat.le_of_ble_eq_true rfl, Nat.le_of_ble_eq_true rfl⟩ dX6_reach_12 (fun H locs hE => ?_)
    refine lv_if_eq (tgt := 29) hx hb dX6_reach_15 (by decide) (fun h_4 => ?_) (fun h_4 => ?_)
    · have hf := it_y h_4 hf
      refine lv_iconst (v := -1) hx hb dX6_reach_29 (by decide) ?_
      exact hret _ _ _ _ _ _ (Option.some.inj hf) rfl rfl dX6_reach_30 hE
    · have hf := it_n h_4 hf
      refine lv_aload_n hx hb dX6_reach_18 rfl (lv_at hl 0 rfl) ?_
      obtain ⟨x_5, g_5, hf⟩ := b_some hf
      refine xx_gR hZ hE k_X6 0 (by decide) rfl tw_20 g_5 dX6_reach_19 ?_
      refine lv_iload_n hx hb dX6_reach_22 rfl (lv_at hl 2 rfl) ?_
      obtain ⟨_, i_6, hf⟩ := b_some hf
      obtain ⟨z_6, c_6, hf⟩ := b_some hf
      refine xx_cVNi hZ hE (As := [.int a2]) (rest := []) k_X3 (is_m i_6) tw_41 tw_42 (c_X3_isState l D cA ad x_5 a2 M _ c_6) cw_X3_isState tw_40 ⟨rfl, rfl⟩ ⟨Nat.le_of_ble_eq_true rfl, Nat.le_of_ble_eq_true rfl⟩ rfl hl.1 rfl (Nat.le_of_ble_eq_true rfl) ⟨Nat.le_of_ble_eq_true rfl, Nat.le_of_ble_eq_true rfl⟩ dX6_reach_23 (fun H locs hE => ?_)
      refine lv_if_ne (tgt := 31) hx hb dX6_reach_26 (by decide) (fun h_7 => ?_) (fun h_7 => ?_)
      · have hf := it_n h_7 hf
        refine lv_aload_n hx hb dX6_reach_31 rfl (lv_at hl 0 rfl) ?_
        obtain ⟨x_8, g_8, hf⟩ := b_some hf
        refine xx_gR hZ hE k_X6 3 (by decide) rfl tw_287 g_8 dX6_reach_32 ?_
        refine lv_iload_n hx hb dX6_reach_35 rfl (lv_at hl 1 rfl) ?_
        refine lv_iload_n hx hb dX6_reach_36 rfl (lv_at hl 2 rfl) ?_
        obtain ⟨_, i_9, hf⟩ := b_some hf
        obtain ⟨z_9, c_9, hf⟩ := b_some hf
        refine xx_cVNi hZ hE (As := [.int a1, .int a2]) (rest := []) k_X4 (is_m i_9) tw_289 tw_290 (c_X4_allFrom l D cA ad x_8 a1 a2 M _ c_9) cw_X4_allFrom tw_288 ⟨rfl, rfl⟩ ⟨Nat.le_of_ble_eq_true rfl, Nat.le_of_ble_eq_true rfl⟩ rfl hl.1 rfl (Nat.le_of_ble_eq_true rfl) ⟨Nat.le_of_ble_eq_true rfl, Nat.le_of_ble_eq_true rfl⟩ dX6_reach_37 (fun H locs hE => ?_)
        obtain ⟨z_10, c_10, hf⟩ := b_some hf
        refine xx_cSi hZ hE (As := [.int z_9]) (rest := []) tw_292 (c_J6_bitCount_0f7a4 l D cA ad z_9 M _ c_10) cw_J6_bitCount_0f7a4 tw_291 ⟨rfl, rfl⟩ ⟨Nat.le_of_ble_eq_true rfl, Nat.le_of_ble_eq_true rfl⟩ rfl hl.1 rfl (Nat.le_of_ble_eq_true rfl) ⟨Nat.le_of_ble_eq_true rfl, Nat.le_of_ble_eq_true rfl⟩ dX6_reach_40 (fun H locs hE => ?_)
        exact hret _ _ _ _ _ _ (Option.some.inj hf) rfl rfl dX6_reach_43 hE
      · have hf := it_y h_7 hf
        refine lv_iconst (v := -1) hx hb dX6_reach_29 (by decide) ?_
        exact hret _ _ _ _ _ _ (Option.some.inj hf) rfl rfl dX6_reach_30 hE
  · have hf := it_y h_2 hf
    refine lv_bipush (v := -2) hx hb dX6_reach_7 (by decide) ?_
    exact hret _ _ _ _ _ _ (Option.some.inj hf) rfl rfl dX6_reach_9 hE
def rm_X5_draw : Room := { frames := 0, cells := 0, slots := 0, locals := 0 }
def f_X5_draw (o : Nat) (a1 : Int64) (M : Mm) : Option (Int64 × Mm) :=
    (op_gL M 5 o 5).bind fun x_1 =>
    (op_pL M 5 o 5 (((x_1 * (25214903917 : Int64)) + (11 : Int64)) &&& (281474976710655 : Int64))).bind fun M_2 =>
    if a1 ≤ (0 : Int64) then
    some ((0 : Int64), M_2)
    else
    (op_gL M_2 5 o 5).bind fun x_4 =>
    if a1 = 0 then none else
    some (((x_4 >>> ((17 : Int32).toInt64 &&& 63)) - (x_4 >>> ((17 : Int32).toInt64 &&& 63)) / a1 * a1), M_2)
set_option maxHeartbeats 4000000 in
set_option maxRecDepth 100000 in
theorem c_X5_draw (l : Launch) (D : va_G) (cA : Nat → ClassId) (ad : Nat → Nat) (o : Nat) (a1 : Int64) (M : Mm) (zr : Int64 × Mm) (hf : f_X5_draw o a1 M = some zr) : KL l yX5_draw cX5_draw 3 (some .long) rm_X5_draw D cA ad [.ref (ad o), .long a1] M zr.1 zr.2 := by
  refine KL_of (by decide) (Nat.le_of_ble_eq_true rfl) ?_
  intro p e s m args below meth c ls Q A H locs hZ hE hl hret
  have hx := hZ.1
  have hb := hZ.2.1
  have hown := hZ.2.2.2.1
  have hts := hZ.2.2.2.2.1
  have hl : lv_has ls 3 [(0, .ref (ad o)), (1, .long a1)] := hl
  unfold f_X5_draw at hf
  refine lv_aload_n hx hb dX5_draw_0 rfl (lv_at hl 0 rfl) ?_
  refine lv_aload_n hx hb dX5_draw_1 rfl (lv_at hl 0 rfl) ?_
  obtain ⟨x_1, g_1, hf⟩ := b_some hf
  refine xx_gL hZ hE k_X5 5 (by decide) rfl tw_293 g_1 dX5_draw_2 ?_
  refine lv_ldc2 (v := 25214903917) hx hb hown (hts _ tw_294) dX5_draw_5 ?_
  refine lv_lmul hx hb dX5_draw_8 ?_
  refine lv_ldc2 (v := 11) hx hb hown (hts _ tw_295) dX5_draw_9 ?_
  refine lv_ladd hx hb dX5_draw_12 ?_
  refine lv_ldc2 (v := 281474976710655) hx hb hown (hts _ tw_296) dX5_draw_13 ?_
  refine lv_land hx hb dX5_draw_16 ?_
  obtain ⟨M_2, g_2, hf⟩ := b_some hf
  refine xx_pL hZ hE k_X5 5 (by decide) rfl rfl rfl tw_293 g_2 dX5_draw_17 (fun H locs hE => ?_)
  refine lv_lload_n hx hb dX5_draw_20 rfl (lv_at hl 1 rfl) ?_
  refine lv_lconst (v := 0) hx hb dX5_draw_21 (by decide) ?_
  refine xx_lle (tgt := 38) hx hb dX5_draw_22 dX5_draw_23 (by decide) (fun h_3 => ?_) (fun h_3 => ?_)
  · have hf := it_y h_3 hf
    refine lv_lconst (v := 0) hx hb dX5_draw_38 (by decide) ?_
    exact hret _ _ _ _ _ _ (pr_1 hf) (pr_2 hf) dX5_draw_39 hE
  · have hf := it_n h_3 hf
    refine lv_aload_n hx hb dX5_draw_26 rfl (lv_at hl 0 rfl) ?_
    obtain ⟨x_4, g_4, hf⟩ := b_some hf
    refine xx_gL hZ hE k_X5 5 (by decide) rfl tw_293 g_4 dX5_draw_27 ?_
    refine lv_bipush (v := 17) hx hb dX5_draw_30 (by decide) ?_
    refine lv_lshr hx hb dX5_draw_32 rfl ?_
    refine lv_lload_n hx hb dX5_draw_33 rfl (lv_at hl 1 rfl) ?_
    obtain ⟨h_5, hf⟩ := e_some hf
    refine lv_lrem hx hb dX5_draw_34 h_5 ?_
    refine lv_goto (tgt := 39) hx hb dX5_draw_35 (by decide) ?_
    exact hret _ _ _ _ _ _ (pr_1 hf) (pr_2 hf) dX5_draw_39 hE
def lp_X5_redraw_27 (i_0 : Nat) (i_1 : Int32) (i_2 : Int32) (M : Mm) : Nat → Int64 → Int32 → Option (Int32 × Mm)
  | 0, _, _ => none
  | n_27 + 1, v_4, v_6 =>
    (op_gR M 5 i_0 0).bind fun x_5 =>
    (op_gR M 3 x_5 2).bind fun x_6 =>
    (op_aI M x_6 i_1).bind fun x_7 =>
    if x_7 ≤ v_6 then
    some (i_2, M)
    else
    (op_gR M 5 i_0 0).bind fun x_9 =>
    (op_is M x_9 3).bind fun _ =>
    (f_X3_inLine x_9 i_2 i_1 v_6 M).bind fun z_10 =>
    (op_gR M 5 i_0 0).bind fun x_11 =>
    (op_gR M 3 x_11 5).bind fun x_12 =>
    (op_aI M x_12 z_10).bind fun x_13 =>
    if (0 : Int64) ≤ (v_4 - x_13.toInt64) then
    lp_X5_redraw_27 i_0 i_1 i_2 M n_27 (v_4 - x_13.toInt64) (v_6 + 1)
    else
    some (z_10, M)
theorem lp_X5_redraw_27_s (i_0 : Nat) (i_1 : Int32) (i_2 : Int32) (M : Mm) {n_27 : Nat} {v_4 : Int64} {v_6 : Int32} {zr : Int32 × Mm} (hf : lp_X5_redraw_27 i_0 i_1 i_2 M (n_27 + 1) v_4 v_6 = some zr) : (
    (op_gR M 5 i_0 0).bind fun x_5 =>
    (op_gR M 3 x_5 2).bind fun x_6 =>
    (op_aI M x_6 i_1).bind fun x_7 =>
    if x_7 ≤ v_6 then
    some (i_2, M)
    else
    (op_gR M 5 i_0 0).bind fun x_9 =>
    (op_is M x_9 3).bind fun _ =>
    (f_X3_inLine x_9 i_2 i_1 v_6 M).bind fun z_10 =>
    (op_gR M 5 i_0 0).bind fun x_11 =>
    (op_gR M 3 x_11 5).bind fun x_12 =>
    (op_aI M x_12 z_10).bind fun x_13 =>
    if (0 : Int64) ≤ (v_4 - x_13.toInt64) then
    lp_X5_redraw_27 i_0 i_1 i_2 M n_27 (v_4 - x_13.toInt64) (v_6 + 1)
    else
    some (z_10, M)) = some zr := hf
def rm_X5_redraw : Room := { frames := 3, cells := 0, slots := 0, locals := 69 }
def f_X5_redraw (o : Nat) (a1 : Int32) (a2 : Int32) (M : Mm) : Option (Int32 × Mm) :=
    (op_gR M 5 o 0).bind fun x_1 =>
    (op_is M x_1 3).bind fun _ =>
    (f_X3_lineSum x_1 a2 a1 M).bind fun z_2 =>
    if z_2 = 0 then
    some (a2, M)
    else
    (op_is M o 5).bind fun _ =>
    (f_X5_draw o z_2.toInt64 M).bind fun z_4 =>
    lp_X5_redraw_27  o a1 a2 z_4.2 FU z_4.1 (0 : Int32)
set_option maxHeartbeats 4000000 in
set_option maxRecDepth 100000 in
theorem c_X5_redraw (l : Launch) (D : va_G) (cA : Nat → ClassId) (ad : Nat → Nat) (o : Nat) (a1 : Int32) (a2 : Int32) (M : Mm) (zr : Int32 × Mm) (hf : f_X5_redraw o a1 a2 M = some zr) : KI l yX5_redraw cX5_redraw 8 (some .int) rm_X5_redraw D cA ad [.ref (ad o), .int a1, .int a2] M zr.1 zr.2 := by
  refine KI_of (by decide) (Nat.le_of_ble_eq_true rfl) ?_
  intro p e s m args below meth c ls Q A H locs hZ hE hl hret
  have hx := hZ.1
  have hb := hZ.2.1
  have hown := hZ.2.2.2.1
  have hts := hZ.2.2.2.2.1
  have hl : lv_has ls 8 [(0, .ref (ad o)), (1, .int a1), (2, .int a2)] := hl
  unfold f_X5_redraw at hf
  refine lv_aload_n hx hb dX5_redraw_0 rfl (lv_at hl 0 rfl) ?_
  obtain ⟨x_1, g_1, hf⟩ := b_some hf
  refine xx_gR hZ hE k_X5 0 (by decide) rfl tw_297 g_1 dX5_redraw_1 ?_
  refine lv_iload_n hx hb dX5_redraw_4 rfl (lv_at hl 2 rfl) ?_
  refine lv_iload_n hx hb dX5_redraw_5 rfl (lv_at hl 1 rfl) ?_
  obtain ⟨_, i_2, hf⟩ := b_some hf
  obtain ⟨z_2, c_2, hf⟩ := b_some hf
  refine xx_cVNi hZ hE (As := [.int a2, .int a1]) (rest := []) k_X3 (is_m i_2) tw_113 tw_114 (c_X3_lineSum l D cA ad x_1 a2 a1 M _ c_2) cw_X3_lineSum tw_298 ⟨rfl, rfl⟩ ⟨Nat.le_of_ble_eq_true rfl, Nat.le_of_ble_eq_true rfl⟩ rfl hl.1 rfl (Nat.le_of_ble_eq_true rfl) ⟨Nat.le_of_ble_eq_true rfl, Nat.le_of_ble_eq_true rfl⟩ dX5_redraw_6 (fun H locs hE => ?_)
  refine lv_istore_n (lv' := [(3, .int z_2), (0, .ref (ad o)), (1, .int a1), (2, .int a2)]) hx hb dX5_redraw_9 rfl hl (by decide) rfl (fun ls hl => ?_)
  refine lv_iload_n hx hb dX5_redraw_10 rfl (lv_at hl 0 rfl) ?_
  refine lv_if_ne (tgt := 16) hx hb dX5_redraw_11 (by decide) (fun h_3 => ?_) (fun h_3 => ?_)
  · have hf := it_n h_3 hf
    refine lv_aload_n hx hb dX5_redraw_16 rfl (lv_at hl 1 rfl) ?_
    refine lv_iload_n hx hb dX5_redraw_17 rfl (lv_at hl 0 rfl) ?_
    refine lv_i2l hx hb dX5_redraw_18 rfl ?_
    obtain ⟨_, i_4, hf⟩ := b_some hf
    obtain ⟨z_4, c_4, hf⟩ := b_some hf
    refine xx_cVl hZ hE (As := [.long z_2.toInt64]) (rest := []) k_X5 (is_m i_4) tw_300 tw_301 (c_X5_draw l D cA ad o z_2.toInt64 M _ c_4) cw_X5_draw tw_299 ⟨rfl, rfl⟩ ⟨Nat.le_of_ble_eq_true rfl, Nat.le_of_ble_eq_true rfl⟩ rfl hl.1 rfl (Nat.le_of_ble_eq_true rfl) ⟨Nat.le_of_ble_eq_true rfl, Nat.le_of_ble_eq_true rfl⟩ dX5_redraw_19 (fun H locs hE => ?_)
    refine lv_lstore (lv' := [(4, .long z_4.1), (3, .int z_2), (0, .ref (ad o)), (1, .int a1), (2, .int a2)]) hx hb dX5_redraw_22 hl (by decide) rfl (fun ls hl => ?_)
    refine lv_iconst (v := 0) hx hb dX5_redraw_24 (by decide) ?_
    refine lv_istore (lv' := [(6, .int (0 : Int32)), (4, .long z_4.1), (3, .int z_2), (0, .ref (ad o)), (1, .int a1), (2, .int a2)]) hx hb dX5_redraw_25 hl (by decide) rfl (fun ls hl => ?_)
    have L_15 : ∀ (n_27 : Nat) (w_15_4 : Int64) (w_15_6 : Int32) (H : Heap) (locs : List Loc) (ls : Array Slot), lp_X5_redraw_27 o a1 a2 z_4.2 n_27 w_15_4 w_15_6 = some zr → En D cA ad s A z_4.2 H locs → lv_has ls 8 [(0, .ref (ad o)), (1, .int a1), (2, .int a2), (4, .long w_15_4), (6, .int w_15_6)] → W p l e rm_X5_redraw s m args below meth c H locs 0 0 Q (F0 m 27 ls []) := by
      intro n_27
      induction n_27 with
      | zero =>
        intro w_15_4 w_15_6 H locs ls hf
        cases (show (none : Option (Int32 × Mm)) = some zr from hf)
      | succ n_27 ih_27 =>
        intro w_15_4 w_15_6 H locs ls hf hE hl
        have hf := lp_X5_redraw_27_s _ _ _ _ hf
        refine lv_iload hx hb dX5_redraw_27 (lv_at hl 4 rfl) ?_
        refine lv_aload_n hx hb dX5_redraw_29 rfl (lv_at hl 0 rfl) ?_
        obtain ⟨x_16, g_16, hf⟩ := b_some hf
        refine xx_gR hZ hE k_X5 0 (by decide) rfl tw_297 g_16 dX5_redraw_30 ?_
        obtain ⟨x_17, g_17, hf⟩ := b_some hf
        refine xx_gRN hZ hE k_X3 2 (by decide) rfl tw_302 g_17 dX5_redraw_33 ?_
        refine lv_iload_n hx hb dX5_redraw_36 rfl (lv_at hl 1 rfl) ?_
        obtain ⟨x_18, g_18, hf⟩ := b_some hf
        refine xx_aI hZ hE g_18 dX5_redraw_37 ?_
        refine lv_icmp_ge (tgt := 86) hx hb dX5_redraw_38 (by decide) (fun h_19 => ?_) (fun h_19 => ?_)
        · have hf := it_y h_19 hf
          refine lv_iload_n hx hb dX5_redraw_86 rfl (lv_at hl 2 rfl) ?_
          exact hret _ _ _ _ _ _ (pr_1 hf) (pr_2 hf) rfl dX5_redraw_87 hE
        · have hf := it_n h_19 hf
          refine lv_aload_n hx hb dX5_redraw_41 rfl (lv_at hl 0 rfl) ?_
          obtain ⟨x_20, g_20, hf⟩ := b_some hf
          refine xx_gR hZ hE k_X5 0 (by decide) rfl tw_297 g_20 dX5_redraw_42 ?_
          refine lv_iload_n hx hb dX5_redraw_45 rfl (lv_at hl 2 rfl) ?_
          refine lv_iload_n hx hb dX5_redraw_46 rfl (lv_at hl 1 rfl) ?_
          refine lv_iload hx hb dX5_redraw_47 (lv_at hl 4 rfl) ?_
          obtain ⟨_, i_21, hf⟩ := b_some hf
          obtain ⟨z_21, c_21, hf⟩ := b_some hf
          refine xx_cVNi hZ hE (As := [.int a2, .int a1, .int w_15_6]) (rest := []) k_X3 (is_m i_21) tw_103 tw_104 (c_X3_inLine l D cA ad x_20 a2 a1 w_15_6 z_4.2 _ c_21) cw_X3_inLine tw_303 ⟨rfl, rfl⟩ ⟨Nat.le_of_ble_eq_true rfl, Nat.le_of_ble_eq_true rfl⟩ rfl hl.1 rfl (Nat.le_of_ble_eq_true rfl) ⟨Nat.le_of_ble_eq_true rfl, Nat.le_of_ble_eq_true rfl⟩ dX5_redraw_49 (fun H locs hE => ?_)
          refine lv_istore (lv' := [(7, .int z_21), (0, .ref (ad o)), (1, .int a1), (2, .int a2), (4, .long w_15_4), (6, .int w_15_6)]) hx hb dX5_redraw_52 hl (by decide) rfl (fun ls hl => ?_)
          refine lv_lload hx hb dX5_redraw_54 (lv_at hl 4 rfl) ?_
          refine lv_aload_n hx hb dX5_redraw_56 rfl (lv_at hl 1 rfl) ?_
          obtain ⟨x_22, g_22, hf⟩ := b_some hf
          refine xx_gR hZ hE k_X5 0 (by decide) rfl tw_297 g_22 dX5_redraw_57 ?_
          obtain ⟨x_23, g_23, hf⟩ := b_some hf
          refine xx_gRN hZ hE k_X3 5 (by decide) rfl tw_304 g_23 dX5_redraw_60 ?_
          refine lv_iload hx hb dX5_redraw_63 (lv_at hl 0 rfl) ?_
          obtain ⟨x_24, g_24, hf⟩ := b_some hf
          refine xx_aI hZ hE g_24 dX5_redraw_65 ?_
          refine lv_i2l hx hb dX5_redraw_66 rfl ?_
          refine lv_lsub hx hb dX5_redraw_67 ?_
          refine lv_lstore (lv' := [(4, .long (w_15_4 - x_24.toInt64)), (7, .int z_21), (0, .ref (ad o)), (1, .int a1), (2, .int a2), (6, .int w_15_6)]) hx hb dX5_redraw_68 hl (by decide) rfl (fun ls hl => ?_)
          refine lv_lload hx hb dX5_redraw_70 (lv_at hl 0 rfl) ?_
          refine lv_lconst (v := 0) hx hb dX5_redraw_72 (by decide) ?_
          refine xx_lge (tgt := 80) hx hb dX5_redraw_73 dX5_redraw_74 (by decide) (fun h_25 => ?_) (fun h_25 => ?_)
          · have hf := it_y h_25 hf
            refine lv_iinc (v := (w_15_6 + 1)) (lv' := [(6, .int (w_15_6 + 1)), (4, .long (w_15_4 - x_24.toInt64)), (7, .int z_21), (0, .ref (ad o)), (1, .int a1), (2, .int a2)]) hx hb dX5_redraw_80 hl (k := 5) rfl rfl (by decide) rfl (fun ls hl => ?_)
            refine lv_goto (tgt := 27) hx hb dX5_redraw_83 (by decide) ?_
            exact ih_27 _ _ _ _ _ hf hE (lv_sub hl [3, 4, 5, 1, 0] rfl)
          · have hf := it_n h_25 hf
            refine lv_iload hx hb dX5_redraw_77 (lv_at hl 1 rfl) ?_
            exact hret _ _ _ _ _ _ (pr_1 hf) (pr_2 hf) rfl dX5_redraw_79 hE
    exact L_15 _ _ _ _ _ _ hf hE (lv_sub hl [3, 4, 5, 1, 0] rfl)
  · have hf := it_y h_3 hf
    refine lv_iload_n hx hb dX5_redraw_14 rfl (lv_at hl 3 rfl) ?_
    exact hret _ _ _ _ _ _ (pr_1 hf) (pr_2 hf) rfl dX5_redraw_15 hE
def rm_X5_decide : Room := { frames := 1, cells := 0, slots := 0, locals := 22 }
def f_X5_decide (o : Nat) (a1 : Int64) (a2 : Int64) (M : Mm) : Option (Int32 × Mm) :=
    if a2 ≤ a1 then
    some ((1 : Int32), M)
    else
    (op_is M o 5).bind fun _ =>
    (f_X5_draw o a2 M).bind fun z_2 =>
    if a1 ≤ z_2.1 then
    some ((0 : Int32), z_2.2)
    else
    some ((1 : Int32), z_2.2)
set_option maxHeartbeats 4000000 in
set_option maxRecDepth 100000 in
theorem c_X5_decide (l : Launch) (D : va_G) (cA : Nat → ClassId) (ad : Nat → Nat) (o : Nat) (a1 : Int64) (a2 : Int64) (M : Mm) (zr : Int32 × Mm) (hf : f_X5_decide o a1 a2 M = some zr) : KI l yX5_decide cX5_decide 5 (some .boolean) rm_X5_decide D cA ad [.ref (ad o), .long a1, .long a2] M zr.1 zr.2 := by
  refine KI_of (by decide) (Nat.le_of_ble_eq_true rfl) ?_
  intro p e s m args below meth c ls Q A H locs hZ hE hl hret
  have hx := hZ.1
  have hb := hZ.2.1
  have hown := hZ.2.2.2.1
  have hts := hZ.2.2.2.2.1
  have hl : lv_has ls 5 [(0, .ref (ad o)), (1, .long a1), (3, .long a2)] := hl
  unfold f_X5_decide at hf
  refine lv_lload_n hx hb dX5_decide_0 rfl (lv_at hl 1 rfl) ?_
  refine lv_lload_n hx hb dX5_decide_1 rfl (lv_at hl 2 rfl) ?_
  refine xx_lge (tgt := 16) hx hb dX5_decide_2 dX5_decide_3 (by decide) (fun h_1 => ?_) (fun h_1 => ?_)
  · have hf := it_y h_1 hf
    refine lv_iconst (v := 1) hx hb dX5_decide_16 (by decide) ?_
    refine lv_goto (tgt := 21) hx hb dX5_decide_17 (by decide) ?_
    exact hret _ _ _ _ _ _ (pr_1 hf) (pr_2 hf) rfl dX5_decide_21 hE
  · have hf := it_n h_1 hf
    refine lv_aload_n hx hb dX5_decide_6 rfl (lv_at hl 0 rfl) ?_
    refine lv_lload_n hx hb dX5_decide_7 rfl (lv_at hl 2 rfl) ?_
    obtain ⟨_, i_2, hf⟩ := b_some hf
    obtain ⟨z_2, c_2, hf⟩ := b_some hf
    refine xx_cVl hZ hE (As := [.long a2]) (rest := []) k_X5 (is_m i_2) tw_300 tw_301 (c_X5_draw l D cA ad o a2 M _ c_2) cw_X5_draw tw_299 ⟨rfl, rfl⟩ ⟨Nat.le_of_ble_eq_true rfl, Nat.le_of_ble_eq_true rfl⟩ rfl hl.1 rfl (Nat.le_of_ble_eq_true rfl) ⟨Nat.le_of_ble_eq_true rfl, Nat.le_of_ble_eq_true rfl⟩ dX5_decide_8 (fun H locs hE => ?_)
    refine lv_lload_n hx hb dX5_decide_11 rfl (lv_at hl 1 rfl) ?_
    refine xx_lge (tgt := 20) hx hb dX5_decide_12 dX5_decide_13 (by decide) (fun h_3 => ?_) (fun h_3 => ?_)
    · have hf := it_y h_3 hf
      refine lv_iconst (v := 0) hx hb dX5_decide_20 (by decide) ?_
      exact hret _ _ _ _ _ _ (pr_1 hf) (pr_2 hf) rfl dX5_decide_21 hE
    · have hf := it_n h_3 hf
      refine lv_iconst (v := 1) hx hb dX5_decide_16 (by decide) ?_
      refine lv_goto (tgt := 21) hx hb dX5_decide_17 (by decide) ?_
      exact hret _ _ _ _ _ _ (pr_1 hf) (pr_2 hf) rfl dX5_decide_21 hE
def rm_X5_refuse : Room := { frames := 0, cells := 0, slots := 0, locals := 0 }
def f_X5_refuse (o : Nat) (a1 : Int32) (M : Mm) : Option (Int32 × Mm) :=
    (op_gI M 5 o 4).bind fun x_1 =>
    (op_pI M 5 o 4 (x_1 + (1 : Int32))).bind fun M_2 =>
    some (a1, M_2)
set_option maxHeartbeats 4000000 in
set_option maxRecDepth 100000 in
theorem c_X5_refuse (l : Launch) (D : va_G) (cA : Nat → ClassId) (ad : Nat → Nat) (o : Nat) (a1 : Int32) (M : Mm) (zr : Int32 × Mm) (hf : f_X5_refuse o a1 M = some zr) : KI l yX5_refuse cX5_refuse 2 (some .int) rm_X5_refuse D cA ad [.ref (ad o), .int a1] M zr.1 zr.2 := by
  refine KI_of (by decide) (Nat.le_of_ble_eq_true rfl) ?_
  intro p e s m args below meth c ls Q A H locs hZ hE hl hret
  have hx := hZ.1
  have hb := hZ.2.1
  have hown := hZ.2.2.2.1
  have hts := hZ.2.2.2.2.1
  have hl : lv_has ls 2 [(0, .ref (ad o)), (1, .int a1)] := hl
  unfold f_X5_refuse at hf
  refine lv_aload_n hx hb dX5_refuse_0 rfl (lv_at hl 0 rfl) ?_
  refine lv_dup hx hb dX5_refuse_1 rfl ?_
  obtain ⟨x_1, g_1, hf⟩ := b_some hf
  refine xx_gI hZ hE k_X5 4 (by decide) rfl tw_305 g_1 dX5_refuse_2 ?_
  refine lv_iconst (v := 1) hx hb dX5_refuse_5 (by decide) ?_
  refine lv_iadd hx hb dX5_refuse_6 ?_
  obtain ⟨M_2, g_2, hf⟩ := b_some hf
  refine xx_pI hZ hE k_X5 4 (by decide) rfl rfl rfl tw_305 g_2 dX5_refuse_7 (fun H locs hE => ?_)
  refine lv_iload_n hx hb dX5_refuse_10 rfl (lv_at hl 1 rfl) ?_
  exact hret _ _ _ _ _ _ (pr_1 hf) (pr_2 hf) rfl dX5_refuse_11 hE
def rm_X5_accept : Room := { frames := 2, cells := 0, slots := 0, locals := 46 }
def f_X5_accept (o : Nat) (a1 : Int32) (a2 : Int32) (M : Mm) : Option (Int32 × Mm) :=
    (op_gR M 5 o 0).bind fun x_1 =>
    (op_gR M 3 x_1 5).bind fun x_2 =>
    (op_aI M x_2 a2).bind fun x_3 =>
    (op_gR M 5 o 0).bind fun x_4 =>
    (op_gR M 3 x_4 5).bind fun x_5 =>
    (op_aI M x_5 a1).bind fun x_6 =>
    (op_is M o 5).bind fun _ =>
    (f_X5_decide o x_3.toInt64 x_6.toInt64 M).bind fun z_7 =>
    if z_7.1 = 0 then
    (op_is z_7.2 o 5).bind fun _ =>
    (f_X5_refuse o a1 z_7.2).bind fun z_9 =>
    some (z_9.1, z_9.2)
    else
    some (a2, z_7.2)
set_option maxHeartbeats 4000000 in
set_option maxRecDepth 100000 in
theorem c_X5_accept (l : Launch) (D : va_G) (cA : Nat → ClassId) (ad : Nat → Nat) (o : Nat) (a1 : Int32) (a2 : Int32) (M : Mm) (zr : Int32 × Mm) (hf : f_X5_accept o a1 a2 M = some zr) : KI l yX5_accept cX5_accept 3 (some .int) rm_X5_accept D cA ad [.ref (ad o), .int a1, .int a2] M zr.1 zr.2 := by
  refine KI_of (by decide) (Nat.le_of_ble_eq_true rfl) ?_
  intro p e s m args below meth c ls Q A H locs hZ hE hl hret
  have hx := hZ.1
  have hb := hZ.2.1
  have hown := hZ.2.2.2.1
  have hts := hZ.2.2.2.2.1
  have hl : lv_has ls 3 [(0, .ref (ad o)), (1, .int a1), (2, .int a2)] := hl
  unfold f_X5_accept at hf
  refine lv_aload_n hx hb dX5_accept_0 rfl (lv_at hl 0 rfl) ?_
  refine lv_aload_n hx hb dX5_accept_1 rfl (lv_at hl 0 rfl) ?_
  obtain ⟨x_1, g_1, hf⟩ := b_some hf
  refine xx_gR hZ hE k_X5 0 (by decide) rfl tw_297 g_1 dX5_accept_2 ?_
  obtain ⟨x_2, g_2, hf⟩ := b_some hf
  refine xx_gRN hZ hE k_X3 5 (by decide) rfl tw_304 g_2 dX5_accept_5 ?_
  refine lv_iload_n hx hb dX5_accept_8 rfl (lv_at hl 2 rfl) ?_
  obtain ⟨x_3, g_3, hf⟩ := b_some hf
  refine xx_aI hZ hE g_3 dX5_accept_9 ?_
  refine lv_i2l hx hb dX5_accept_10 rfl ?_
  refine lv_aload_n hx hb dX5_accept_11 rfl (lv_at hl 0 rfl) ?_
  obtain ⟨x_4, g_4, hf⟩ := b_some hf
  refine xx_gR hZ hE k_X5 0 (by decide) rfl tw_297 g_4 dX5_accept_12 ?_
  obtain ⟨x_5, g_5, hf⟩ := b_some hf
  refine xx_gRN hZ hE k_X3 5 (by decide) rfl tw_304 g_5 dX5_accept_15 ?_
  refine lv_iload_n hx hb dX5_accept_18 rfl (lv_at hl 1 rfl) ?_
  obtain ⟨x_6, g_6, hf⟩ := b_some hf
  refine xx_aI hZ hE g_6 dX5_accept_19 ?_
  refine lv_i2l hx hb dX5_accept_20 rfl ?_
  obtain ⟨_, i_7, hf⟩ := b_some hf
  obtain ⟨z_7, c_7, hf⟩ := b_some hf
  refine xx_cVi hZ hE (As := [.long x_3.toInt64, .long x_6.toInt64]) (rest := []) k_X5 (is_m i_7) tw_307 tw_308 (c_X5_decide l D cA ad o x_3.toInt64 x_6.toInt64 M _ c_7) cw_X5_decide tw_306 ⟨rfl, rfl⟩ ⟨Nat.le_of_ble_eq_true rfl, Nat.le_of_ble_eq_true rfl⟩ rfl hl.1 rfl (Nat.le_of_ble_eq_true rfl) ⟨Nat.le_of_ble_eq_true rfl, Nat.le_of_ble_eq_true rfl⟩ dX5_accept_21 (fun H locs hE => ?_)
  refine lv_if_eq (tgt := 31) hx hb dX5_accept_24 (by decide) (fun h_8 => ?_) (fun h_8 => ?_)
  · have hf := it_y h_8 hf
    refine lv_aload_n hx hb dX5_accept_31 rfl (lv_at hl 0 rfl) ?_
    refine lv_iload_n hx hb dX5_accept_32 rfl (lv_at hl 1 rfl) ?_
    obtain ⟨_, i_9, hf⟩ := b_some hf
    obtain ⟨z_9, c_9, hf⟩ := b_some hf
    refine xx_cVi hZ hE (As := [.int a1]) (rest := []) k_X5 (is_m i_9) tw_310 tw_311 (c_X5_refuse l D cA ad o a1 z_7.2 _ c_9) cw_X5_refuse tw_309 ⟨rfl, rfl⟩ ⟨Nat.le_of_ble_eq_true rfl, Nat.le_of_ble_eq_true rfl⟩ rfl hl.1 rfl (Nat.le_of_ble_eq_true rfl) ⟨Nat.le_of_ble_eq_true rfl, Nat.le_of_ble_eq_true rfl⟩ dX5_accept_33 (fun H locs hE => ?_)
    exact hret _ _ _ _ _ _ (pr_1 hf) (pr_2 hf) rfl dX5_accept_36 hE
  · have hf := it_n h_8 hf
    refine lv_iload_n hx hb dX5_accept_27 rfl (lv_at hl 2 rfl) ?_
    refine lv_goto (tgt := 36) hx hb dX5_accept_28 (by decide) ?_
    exact hret _ _ _ _ _ _ (pr_1 hf) (pr_2 hf) rfl dX5_accept_36 hE
def lp_X5_drawTold_15 (i_0 : Nat) (i_1 : Nat) (i_2 : Int32) (M : Mm) : Nat → Int64 → Int32 → Option (Int32 × Mm)
  | 0, _, _ => none
  | n_15 + 1, v_3, v_5 =>
    (op_gR M 5 i_0 0).bind fun x_4 =>
    (op_gI M 3 x_4 1).bind fun x_5 =>
    if x_5 ≤ v_5 then
    some (i_2, M)
    else
    (op_is M i_1 2).bind fun _ =>
    (f_X2_toldOf i_1 i_2 v_5 M).bind fun z_7 =>
    if (0 : Int64) ≤ (v_3 - z_7.toInt64) then
    lp_X5_drawTold_15 i_0 i_1 i_2 M n_15 (v_3 - z_7.toInt64) (v_5 + 1)
    else
    some (v_5, M)
theorem lp_X5_drawTold_15_s (i_0 : Nat) (i_1 : Nat) (i_2 : Int32) (M : Mm) {n_15 : Nat} {v_3 : Int64} {v_5 : Int32} {zr : Int32 × Mm} (hf : lp_X5_drawTold_15 i_0 i_1 i_2 M (n_15 + 1) v_3 v_5 = some zr) : (
    (op_gR M 5 i_0 0).bind fun x_4 =>
    (op_gI M 3 x_4 1).bind fun x_5 =>
    if x_5 ≤ v_5 then
    some (i_2, M)
    else
    (op_is M i_1 2).bind fun _ =>
    (f_X2_toldOf i_1 i_2 v_5 M).bind fun z_7 =>
    if (0 : Int64) ≤ (v_3 - z_7.toInt64) then
    lp_X5_drawTold_15 i_0 i_1 i_2 M n_15 (v_3 - z_7.toInt64) (v_5 + 1)
    else
    some (v_5, M)) = some zr := hf
def rm_X5_drawTold : Room := { frames := 1, cells := 0, slots := 0, locals := 22 }
def f_X5_drawTold (o : Nat) (a1 : Nat) (a2 : Int32) (M : Mm) : Option (Int32 × Mm) :=
    (op_gR M 2 a1 7).bind fun x_1 =>
    (op_aI M x_1 a2).bind fun x_2 =>
    (op_is M o 5).bind fun _ =>
    (f_X5_draw o x_2.toInt64 M).bind fun z_3 =>
    lp_X5_drawTold_15  o a1 a2 z_3.2 FU z_3.1 (0 : Int32)
set_option maxHeartbeats 4000000 in
set_option maxRecDepth 100000 in
theorem c_X5_drawTold (l : Launch) (D : va_G) (cA : Nat → ClassId) (ad : Nat → Nat) (o : Nat) (a1 : Nat) (a2 : Int32) (M : Mm) (zr : Int32 × Mm) (hf : f_X5_drawTold o a1 a2 M = some zr) : KI l yX5_drawTold cX5_drawTold 6 (some .int) rm_X5_drawTold D cA ad [.ref (ad o), .ref (ad a1), .int a2] M zr.1 zr.2 := by
  refine KI_of (by decide) (Nat.le_of_ble_eq_true rfl) ?_
  intro p e s m args below meth c ls Q A H locs hZ hE hl hret
  have hx := hZ.1
  have hb := hZ.2.1
  have hown := hZ.2.2.2.1
  have hts := hZ.2.2.2.2.1
  have hl : lv_has ls 6 [(0, .ref (ad o)), (1, .ref (ad a1)), (2, .int a2)] := hl
  unfold f_X5_drawTold at hf
  refine lv_aload_n hx hb dX5_drawTold_0 rfl (lv_at hl 0 rfl) ?_
  refine lv_aload_n hx hb dX5_drawTold_1 rfl (lv_at hl 1 rfl) ?_
  obtain ⟨x_1, g_1, hf⟩ := b_some hf
  refine xx_gRN hZ hE k_X2 7 (by decide) rfl tw_312 g_1 dX5_drawTold_2 ?_
  refine lv_iload_n hx hb dX5_drawTold_5 rfl (lv_at hl 2 rfl) ?_
  obtain ⟨x_2, g_2, hf⟩ := b_some hf
  refine xx_aI hZ hE g_2 dX5_drawTold_6 ?_
  refine lv_i2l hx hb dX5_drawTold_7 rfl ?_
  obtain ⟨_, i_3, hf⟩ := b_some hf
  obtain ⟨z_3, c_3, hf⟩ := b_some hf
  refine xx_cVl hZ hE (As := [.long x_2.toInt64]) (rest := []) k_X5 (is_m i_3) tw_300 tw_301 (c_X5_draw l D cA ad o x_2.toInt64 M _ c_3) cw_X5_draw tw_299 ⟨rfl, rfl⟩ ⟨Nat.le_of_ble_eq_true rfl, Nat.le_of_ble_eq_true rfl⟩ rfl hl.1 rfl (Nat.le_of_ble_eq_true rfl) ⟨Nat.le_of_ble_eq_true rfl, Nat.le_of_ble_eq_true rfl⟩ dX5_drawTold_8 (fun H locs hE => ?_)
  refine lv_lstore_n (lv' := [(3, .long z_3.1), (0, .ref (ad o)), (1, .ref (ad a1)), (2, .int a2)]) hx hb dX5_drawTold_11 rfl hl (by decide) rfl (fun ls hl => ?_)
  refine lv_iconst (v := 0) hx hb dX5_drawTold_12 (by decide) ?_
  refine lv_istore (lv' := [(5, .int (0 : Int32)), (3, .long z_3.1), (0, .ref (ad o)), (1, .ref (ad a1)), (2, .int a2)]) hx hb dX5_drawTold_13 hl (by decide) rfl (fun ls hl => ?_)
  have L_9 : ∀ (n_15 : Nat) (w_9_3 : Int64) (w_9_5 : Int32) (H : Heap) (locs : List Loc) (ls : Array Slot), lp_X5_drawTold_15 o a1 a2 z_3.2 n_15 w_9_3 w_9_5 = some zr → En D cA ad s A z_3.2 H locs → lv_has ls 6 [(0, .ref (ad o)), (1, .ref (ad a1)), (2, .int a2), (3, .long w_9_3), (5, .int w_9_5)] → W p l e rm_X5_drawTold s m args below meth c H locs 0 0 Q (F0 m 15 ls []) := by
    intro n_15
    induction n_15 with
    | zero =>
      intro w_9_3 w_9_5 H locs ls hf
      cases (show (none : Option (Int32 × Mm)) = some zr from hf)
    | succ n_15 ih_15 =>
      intro w_9_3 w_9_5 H locs ls hf hE hl
      have hf := lp_X5_drawTold_15_s _ _ _ _ hf
      refine lv_iload hx hb dX5_drawTold_15 (lv_at hl 4 rfl) ?_
      refine lv_aload_n hx hb dX5_drawTold_17 rfl (lv_at hl 0 rfl) ?_
      obtain ⟨x_10, g_10, hf⟩ := b_some hf
      refine xx_gR hZ hE k_X5 0 (by decide) rfl tw_297 g_10 dX5_drawTold_18 ?_
      obtain ⟨x_11, g_11, hf⟩ := b_some hf
      refine xx_gIN hZ hE k_X3 1 (by decide) rfl tw_313 g_11 dX5_drawTold_21 ?_
      refine lv_icmp_ge (tgt := 53) hx hb dX5_drawTold_24 (by decide) (fun h_12 => ?_) (fun h_12 => ?_)
      · have hf := it_y h_12 hf
        refine lv_iload_n hx hb dX5_drawTold_53 rfl (lv_at hl 2 rfl) ?_
        exact hret _ _ _ _ _ _ (pr_1 hf) (pr_2 hf) rfl dX5_drawTold_54 hE
      · have hf := it_n h_12 hf
        refine lv_lload_n hx hb dX5_drawTold_27 rfl (lv_at hl 3 rfl) ?_
        refine lv_aload_n hx hb dX5_drawTold_28 rfl (lv_at hl 1 rfl) ?_
        refine lv_iload_n hx hb dX5_drawTold_29 rfl (lv_at hl 2 rfl) ?_
        refine lv_iload hx hb dX5_drawTold_30 (lv_at hl 4 rfl) ?_
        obtain ⟨_, i_13, hf⟩ := b_some hf
        obtain ⟨z_13, c_13, hf⟩ := b_some hf
        refine xx_cVNi hZ hE (As := [.int a2, .int w_9_5]) (rest := [.long w_9_3]) k_X2 (is_m i_13) tw_90 tw_91 (c_X2_toldOf l D cA ad a1 a2 w_9_5 z_3.2 _ c_13) cw_X2_toldOf tw_314 ⟨rfl, rfl⟩ ⟨Nat.le_of_ble_eq_true rfl, Nat.le_of_ble_eq_true rfl⟩ rfl hl.1 rfl (Nat.le_of_ble_eq_true rfl) ⟨Nat.le_of_ble_eq_true rfl, Nat.le_of_ble_eq_true rfl⟩ dX5_drawTold_32 (fun H locs hE => ?_)
        refine lv_i2l hx hb dX5_drawTold_35 rfl ?_
        refine lv_lsub hx hb dX5_drawTold_36 ?_
        refine lv_lstore_n (lv' := [(3, .long (w_9_3 - z_13.toInt64)), (0, .ref (ad o)), (1, .ref (ad a1)), (2, .int a2), (5, .int w_9_5)]) hx hb dX5_drawTold_37 rfl hl (by decide) rfl (fun ls hl => ?_)
        refine lv_lload_n hx hb dX5_drawTold_38 rfl (lv_at hl 0 rfl) ?_
        refine lv_lconst (v := 0) hx hb dX5_drawTold_39 (by decide) ?_
        refine xx_lge (tgt := 47) hx hb dX5_drawTold_40 dX5_drawTold_41 (by decide) (fun h_14 => ?_) (fun h_14 => ?_)
        · have hf := it_y h_14 hf
          refine lv_iinc (v := (w_9_5 + 1)) (lv' := [(5, .int (w_9_5 + 1)), (3, .long (w_9_3 - z_13.toInt64)), (0, .ref (ad o)), (1, .ref (ad a1)), (2, .int a2)]) hx hb dX5_drawTold_47 hl (k := 4) rfl rfl (by decide) rfl (fun ls hl => ?_)
          refine lv_goto (tgt := 15) hx hb dX5_drawTold_50 (by decide) ?_
          exact ih_15 _ _ _ _ _ hf hE (lv_sub hl [2, 3, 4, 1, 0] rfl)
        · have hf := it_n h_14 hf
          refine lv_iload hx hb dX5_drawTold_44 (lv_at hl 4 rfl) ?_
          exact hret _ _ _ _ _ _ (pr_1 hf) (pr_2 hf) rfl dX5_drawTold_46 hE
  exact L_9 _ _ _ _ _ _ hf hE (lv_sub hl [2, 3, 4, 1, 0] rfl)
def rm_X5_followTold : Room := { frames := 2, cells := 0, slots := 0, locals := 47 }
def f_X5_followTold (o : Nat) (a1 : Nat) (a2 : Int32) (M : Mm) : Option (Int32 × Mm) :=
    (op_gR M 2 a1 7).bind fun x_1 =>
    (op_aI M x_1 a2).bind fun x_2 =>
    if x_2 = 0 then
    some (a2, M)
    else
    (op_is M o 5).bind fun _ =>
    (f_X5_drawTold o a1 a2 M).bind fun z_4 =>
    (op_gR z_4.2 5 o 0).bind fun x_5 =>
    (op_gR z_4.2 3 x_5 5).bind fun x_6 =>
    (op_aI z_4.2 x_6 a2).bind fun x_7 =>
    if x_7 = 0 then
    some (z_4.1, z_4.2)
    else
    (op_gR z_4.2 5 o 0).bind fun x_9 =>
    (op_is z_4.2 x_9 3).bind fun _ =>
    (f_X3_pull x_9 a1 a2 z_4.1 z_4.2).bind fun z_10 =>
    (op_gR z_4.2 5 o 0).bind fun x_11 =>
    (op_is z_4.2 x_11 3).bind fun _ =>
    (f_X3_pull x_11 a1 z_4.1 a2 z_4.2).bind fun z_12 =>
    if z_10 ≤ (0 : Int64) then
    (op_is z_4.2 o 5).bind fun _ =>
    (f_X5_refuse o a2 z_4.2).bind fun z_14 =>
    some (z_14.1, z_14.2)
    else
    (op_is z_4.2 o 5).bind fun _ =>
    (f_X5_decide o z_10 z_12 z_4.2).bind fun z_15 =>
    if z_15.1 = 0 then
    (op_is z_15.2 o 5).bind fun _ =>
    (f_X5_refuse o a2 z_15.2).bind fun z_17 =>
    some (z_17.1, z_17.2)
    else
    some (z_4.1, z_15.2)
set_option maxHeartbeats 4000000 in
set_option maxRecDepth 100000 in
theorem c_X5_followTold (l : Launch) (D : va_G) (cA : Nat → ClassId) (ad : Nat → Nat) (o : Nat) (a1 : Nat) (a2 : Int32) (M : Mm) (zr : Int32 × Mm) (hf : f_X5_followTold o a1 a2 M = some zr) : KI l yX5_followTold cX5_followTold 8 (some .int) rm_X5_followTold D cA ad [.ref (ad o), .ref (ad a1), .int a2] M zr.1 zr.2 := by
  refine KI_of (by decide) (Nat.le_of_ble_eq_true rfl) ?_
  intro p e s m args below meth c ls Q A H locs hZ hE hl hret
  have hx := hZ.1
  have hb := hZ.2.1
  have hown := hZ.2.2.2.1
  have hts := hZ.2.2.2.2.1
  have hl : lv_has ls 8 [(0, .ref (ad o)), (1, .ref (ad a1)), (2, .int a2)] := hl
  unfold f_X5_followTold at hf
  refine lv_aload_n hx hb dX5_followTold_0 rfl (lv_at hl 1 rfl) ?_
  obtain ⟨x_1, g_1, hf⟩ := b_some hf
  refine xx_gRN hZ hE k_X2 7 (by decide) rfl tw_312 g_1 dX5_followTold_1 ?_
  refine lv_iload_n hx hb dX5_followTold_4 rfl (lv_at hl 2 rfl) ?_
  obtain ⟨x_2, g_2, hf⟩ := b_some hf
  refine xx_aI hZ hE g_2 dX5_followTold_5 ?_
  refine lv_if_ne (tgt := 11) hx hb dX5_followTold_6 (by decide) (fun h_3 => ?_) (fun h_3 => ?_)
  · have hf := it_n h_3 hf
    refine lv_aload_n hx hb dX5_followTold_11 rfl (lv_at hl 0 rfl) ?_
    refine lv_aload_n hx hb dX5_followTold_12 rfl (lv_at hl 1 rfl) ?_
    refine lv_iload_n hx hb dX5_followTold_13 rfl (lv_at hl 2 rfl) ?_
    obtain ⟨_, i_4, hf⟩ := b_some hf
    obtain ⟨z_4, c_4, hf⟩ := b_some hf
    refine xx_cVi hZ hE (As := [.ref (ad a1), .int a2]) (rest := []) k_X5 (is_m i_4) tw_316 tw_317 (c_X5_drawTold l D cA ad o a1 a2 M _ c_4) cw_X5_drawTold tw_315 ⟨rfl, rfl⟩ ⟨Nat.le_of_ble_eq_true rfl, Nat.le_of_ble_eq_true rfl⟩ rfl hl.1 rfl (Nat.le_of_ble_eq_true rfl) ⟨Nat.le_of_ble_eq_true rfl, Nat.le_of_ble_eq_true rfl⟩ dX5_followTold_14 (fun H locs hE => ?_)
    refine lv_istore_n (lv' := [(3, .int z_4.1), (0, .ref (ad o)), (1, .ref (ad a1)), (2, .int a2)]) hx hb dX5_followTold_17 rfl hl (by decide) rfl (fun ls hl => ?_)
    refine lv_aload_n hx hb dX5_followTold_18 rfl (lv_at hl 1 rfl) ?_
    obtain ⟨x_5, g_5, hf⟩ := b_some hf
    refine xx_gR hZ hE k_X5 0 (by decide) rfl tw_297 g_5 dX5_followTold_19 ?_
    obtain ⟨x_6, g_6, hf⟩ := b_some hf
    refine xx_gRN hZ hE k_X3 5 (by decide) rfl tw_304 g_6 dX5_followTold_22 ?_
    refine lv_iload_n hx hb dX5_followTold_25 rfl (lv_at hl 3 rfl) ?_
    obtain ⟨x_7, g_7, hf⟩ := b_some hf
    refine xx_aI hZ hE g_7 dX5_followTold_26 ?_
    refine lv_if_ne (tgt := 32) hx hb dX5_followTold_27 (by decide) (fun h_8 => ?_) (fun h_8 => ?_)
    · have hf := it_n h_8 hf
      refine lv_aload_n hx hb dX5_followTold_32 rfl (lv_at hl 1 rfl) ?_
      obtain ⟨x_9, g_9, hf⟩ := b_some hf
      refine xx_gR hZ hE k_X5 0 (by decide) rfl tw_297 g_9 dX5_followTold_33 ?_
      refine lv_aload_n hx hb dX5_followTold_36 rfl (lv_at hl 2 rfl) ?_
      refine lv_iload_n hx hb dX5_followTold_37 rfl (lv_at hl 3 rfl) ?_
      refine lv_iload_n hx hb dX5_followTold_38 rfl (lv_at hl 0 rfl) ?_
      obtain ⟨_, i_10, hf⟩ := b_some hf
      obtain ⟨z_10, c_10, hf⟩ := b_some hf
      refine xx_cVNl hZ hE (As := [.ref (ad a1), .int a2, .int z_4.1]) (rest := []) k_X3 (is_m i_10) tw_138 tw_139 (c_X3_pull l D cA ad x_9 a1 a2 z_4.1 z_4.2 _ c_10) cw_X3_pull tw_318 ⟨rfl, rfl⟩ ⟨Nat.le_of_ble_eq_true rfl, Nat.le_of_ble_eq_true rfl⟩ rfl hl.1 rfl (Nat.le_of_ble_eq_true rfl) ⟨Nat.le_of_ble_eq_true rfl, Nat.le_of_ble_eq_true rfl⟩ dX5_followTold_39 (fun H locs hE => ?_)
      refine lv_lstore (lv' := [(4, .long z_10), (3, .int z_4.1), (0, .ref (ad o)), (1, .ref (ad a1)), (2, .int a2)]) hx hb dX5_followTold_42 hl (by decide) rfl (fun ls hl => ?_)
      refine lv_aload_n hx hb dX5_followTold_44 rfl (lv_at hl 2 rfl) ?_
      obtain ⟨x_11, g_11, hf⟩ := b_some hf
      refine xx_gR hZ hE k_X5 0 (by decide) rfl tw_297 g_11 dX5_followTold_45 ?_
      refine lv_aload_n hx hb dX5_followTold_48 rfl (lv_at hl 3 rfl) ?_
      refine lv_iload_n hx hb dX5_followTold_49 rfl (lv_at hl 1 rfl) ?_
      refine lv_iload_n hx hb dX5_followTold_50 rfl (lv_at hl 4 rfl) ?_
      obtain ⟨_, i_12, hf⟩ := b_some hf
      obtain ⟨z_12, c_12, hf⟩ := b_some hf
      refine xx_cVNl hZ hE (As := [.ref (ad a1), .int z_4.1, .int a2]) (rest := []) k_X3 (is_m i_12) tw_138 tw_139 (c_X3_pull l D cA ad x_11 a1 z_4.1 a2 z_4.2 _ c_12) cw_X3_pull tw_318 ⟨rfl, rfl⟩ ⟨Nat.le_of_ble_eq_true rfl, Nat.le_of_ble_eq_true rfl⟩ rfl hl.1 rfl (Nat.le_of_ble_eq_true rfl) ⟨Nat.le_of_ble_eq_true rfl, Nat.le_of_ble_eq_true rfl⟩ dX5_followTold_51 (fun H locs hE => ?_)
      refine lv_lstore (lv' := [(6, .long z_12), (4, .long z_10), (3, .int z_4.1), (0, .ref (ad o)), (1, .ref (ad a1)), (2, .int a2)]) hx hb dX5_followTold_54 hl (by decide) rfl (fun ls hl => ?_)
      refine lv_lload hx hb dX5_followTold_56 (lv_at hl 1 rfl) ?_
      refine lv_lconst (v := 0) hx hb dX5_followTold_58 (by decide) ?_
      refine xx_lle (tgt := 78) hx hb dX5_followTold_59 dX5_followTold_60 (by decide) (fun h_13 => ?_) (fun h_13 => ?_)
      · have hf := it_y h_13 hf
        refine lv_aload_n hx hb dX5_followTold_78 rfl (lv_at hl 3 rfl) ?_
        refine lv_iload_n hx hb dX5_followTold_79 rfl (lv_at hl 5 rfl) ?_
        obtain ⟨_, i_14, hf⟩ := b_some hf
        obtain ⟨z_14, c_14, hf⟩ := b_some hf
        refine xx_cVi hZ hE (As := [.int a2]) (rest := []) k_X5 (is_m i_14) tw_310 tw_311 (c_X5_refuse l D cA ad o a2 z_4.2 _ c_14) cw_X5_refuse tw_309 ⟨rfl, rfl⟩ ⟨Nat.le_of_ble_eq_true rfl, Nat.le_of_ble_eq_true rfl⟩ rfl hl.1 rfl (Nat.le_of_ble_eq_true rfl) ⟨Nat.le_of_ble_eq_true rfl, Nat.le_of_ble_eq_true rfl⟩ dX5_followTold_80 (fun H locs hE => ?_)
        exact hret _ _ _ _ _ _ (pr_1 hf) (pr_2 hf) rfl dX5_followTold_83 hE
      · have hf := it_n h_13 hf
        refine lv_aload_n hx hb dX5_followTold_63 rfl (lv_at hl 3 rfl) ?_
        refine lv_lload hx hb dX5_followTold_64 (lv_at hl 1 rfl) ?_
        refine lv_lload hx hb dX5_followTold_66 (lv_at hl 0 rfl) ?_
        obtain ⟨_, i_15, hf⟩ := b_some hf
        obtain ⟨z_15, c_15, hf⟩ := b_some hf
        refine xx_cVi hZ hE (As := [.long z_10, .long z_12]) (rest := []) k_X5 (is_m i_15) tw_307 tw_308 (c_X5_decide l D cA ad o z_10 z_12 z_4.2 _ c_15) cw_X5_decide tw_306 ⟨rfl, rfl⟩ ⟨Nat.le_of_ble_eq_true rfl, Nat.le_of_ble_eq_true rfl⟩ rfl hl.1 rfl (Nat.le_of_ble_eq_true rfl) ⟨Nat.le_of_ble_eq_true rfl, Nat.le_of_ble_eq_true rfl⟩ dX5_followTold_68 (fun H locs hE => ?_)
        refine lv_if_eq (tgt := 78) hx hb dX5_followTold_71 (by decide) (fun h_16 => ?_) (fun h_16 => ?_)
        · have hf := it_y h_16 hf
          refine lv_aload_n hx hb dX5_followTold_78 rfl (lv_at hl 3 rfl) ?_
          refine lv_iload_n hx hb dX5_followTold_79 rfl (lv_at hl 5 rfl) ?_
          obtain ⟨_, i_17, hf⟩ := b_some hf
          obtain ⟨z_17, c_17, hf⟩ := b_some hf
          refine xx_cVi hZ hE (As := [.int a2]) (rest := []) k_X5 (is_m i_17) tw_310 tw_311 (c_X5_refuse l D cA ad o a2 z_15.2 _ c_17) cw_X5_refuse tw_309 ⟨rfl, rfl⟩ ⟨Nat.le_of_ble_eq_true rfl, Nat.le_of_ble_eq_true rfl⟩ rfl hl.1 rfl (Nat.le_of_ble_eq_true rfl) ⟨Nat.le_of_ble_eq_true rfl, Nat.le_of_ble_eq_true rfl⟩ dX5_followTold_80 (fun H locs hE => ?_)
          exact hret _ _ _ _ _ _ (pr_1 hf) (pr_2 hf) rfl dX5_followTold_83 hE
        · have hf := it_n h_16 hf
          refine lv_iload_n hx hb dX5_followTold_74 rfl (lv_at hl 2 rfl) ?_
          refine lv_goto (tgt := 83) hx hb dX5_followTold_75 (by decide) ?_
          exact hret _ _ _ _ _ _ (pr_1 hf) (pr_2 hf) rfl dX5_followTold_83 hE
    · have hf := it_y h_8 hf
      refine lv_iload_n hx hb dX5_followTold_30 rfl (lv_at hl 0 rfl) ?_
      exact hret _ _ _ _ _ _ (pr_1 hf) (pr_2 hf) rfl dX5_followTold_31 hE
  · have hf := it_y h_3 hf
    refine lv_iload_n hx hb dX5_followTold_9 rfl (lv_at hl 2 rfl) ?_
    exact hret _ _ _ _ _ _ (pr_1 hf) (pr_2 hf) rfl dX5_followTold_10 hE
def lp_X5_slice_52 (i_0 : Nat) (i_1 : Int32) (i_2 : Int32) (i_3 : Int32) (M : Mm) : Nat → Int64 → Int32 → Option (Int32 × Mm)
  | 0, _, _ => none
  | n_52 + 1, v_4, v_6 =>
    (op_gR M 5 i_0 0).bind fun x_12 =>
    (op_gR M 3 x_12 2).bind fun x_13 =>
    (op_aI M x_13 i_1).bind fun x_14 =>
    if x_14 ≤ v_6 then
    some (i_2, M)
    else
    (op_gR M 5 i_0 0).bind fun x_16 =>
    (op_is M x_16 3).bind fun _ =>
    (f_X3_inLine x_16 i_2 i_1 v_6 M).bind fun z_17 =>
    (op_gR M 5 i_0 0).bind fun x_18 =>
    (op_gR M 3 x_18 5).bind fun x_19 =>
    (op_aI M x_19 z_17).bind fun x_20 =>
    if (0 : Int64) ≤ (v_4 - (if x_20 < i_3 then (0 : Int64) else (1 : Int64))) then
    lp_X5_slice_52 i_0 i_1 i_2 i_3 M n_52 (v_4 - (if x_20 < i_3 then (0 : Int64) else (1 : Int64))) (v_6 + 1)
    else
    some (z_17, M)
theorem lp_X5_slice_52_s (i_0 : Nat) (i_1 : Int32) (i_2 : Int32) (i_3 : Int32) (M : Mm) {n_52 : Nat} {v_4 : Int64} {v_6 : Int32} {zr : Int32 × Mm} (hf : lp_X5_slice_52 i_0 i_1 i_2 i_3 M (n_52 + 1) v_4 v_6 = some zr) : (
    (op_gR M 5 i_0 0).bind fun x_12 =>
    (op_gR M 3 x_12 2).bind fun x_13 =>
    (op_aI M x_13 i_1).bind fun x_14 =>
    if x_14 ≤ v_6 then
    some (i_2, M)
    else
    (op_gR M 5 i_0 0).bind fun x_16 =>
    (op_is M x_16 3).bind fun _ =>
    (f_X3_inLine x_16 i_2 i_1 v_6 M).bind fun z_17 =>
    (op_gR M 5 i_0 0).bind fun x_18 =>
    (op_gR M 3 x_18 5).bind fun x_19 =>
    (op_aI M x_19 z_17).bind fun x_20 =>
    if (0 : Int64) ≤ (v_4 - (if x_20 < i_3 then (0 : Int64) else (1 : Int64))) then
    lp_X5_slice_52 i_0 i_1 i_2 i_3 M n_52 (v_4 - (if x_20 < i_3 then (0 : Int64) else (1 : Int64))) (v_6 + 1)
    else
    some (z_17, M)) = some zr := hf
def rm_X5_slice : Room := { frames := 3, cells := 0, slots := 0, locals := 70 }
def f_X5_slice (o : Nat) (a1 : Int32) (a2 : Int32) (M : Mm) : Option (Int32 × Mm) :=
    (op_gR M 5 o 0).bind fun x_1 =>
    (op_gR M 3 x_1 5).bind fun x_2 =>
    (op_aI M x_2 a2).bind fun x_3 =>
    if x_3 = 0 then
    some (a2, M)
    else
    (op_gR M 5 o 0).bind fun x_5 =>
    (op_gR M 3 x_5 5).bind fun x_6 =>
    (op_aI M x_6 a2).bind fun x_7 =>
    (op_is M o 5).bind fun _ =>
    (f_X5_draw o x_7.toInt64 M).bind fun z_8 =>
    (op_gR z_8.2 5 o 0).bind fun x_9 =>
    (op_is z_8.2 x_9 3).bind fun _ =>
    (f_X3_lineCount x_9 a2 a1 ((1 : Int32) + z_8.1.toInt32) z_8.2).bind fun z_10 =>
    (op_is z_8.2 o 5).bind fun _ =>
    (f_X5_draw o z_10.toInt64 z_8.2).bind fun z_11 =>
    lp_X5_slice_52  o a1 a2 ((1 : Int32) + z_8.1.toInt32) z_11.2 FU z_11.1 (0 : Int32)
set_option maxHeartbeats 4000000 in
set_option maxRecDepth 100000 in
theorem c_X5_slice (l : Launch) (D : va_G) (cA : Nat → ClassId) (ad : Nat → Nat) (o : Nat) (a1 : Int32) (a2 : Int32) (M : Mm) (zr : Int32 × Mm) (hf : f_X5_slice o a1 a2 M = some zr) : KI l yX5_slice cX5_slice 8 (some .int) rm_X5_slice D cA ad [.ref (ad o), .int a1, .int a2] M zr.1 zr.2 := by
  refine KI_of (by decide) (Nat.le_of_ble_eq_true rfl) ?_
  intro p e s m args below meth c ls Q A H locs hZ hE hl hret
  have hx := hZ.1
  have hb := hZ.2.1
  have hown := hZ.2.2.2.1
  have hts := hZ.2.2.2.2.1
  have hl : lv_has ls 8 [(0, .ref (ad o)), (1, .int a1), (2, .int a2)] := hl
  unfold f_X5_slice at hf
  refine lv_aload_n hx hb dX5_slice_0 rfl (lv_at hl 0 rfl) ?_
  obtain ⟨x_1, g_1, hf⟩ := b_some hf
  refine xx_gR hZ hE k_X5 0 (by decide) rfl tw_297 g_1 dX5_slice_1 ?_
  obtain ⟨x_2, g_2, hf⟩ := b_some hf
  refine xx_gRN hZ hE k_X3 5 (by decide) rfl tw_304 g_2 dX5_slice_4 ?_
  refine lv_iload_n hx hb dX5_slice_7 rfl (lv_at hl 2 rfl) ?_
  obtain ⟨x_3, g_3, hf⟩ := b_some hf
  refine xx_aI hZ hE g_3 dX5_slice_8 ?_
  refine lv_if_ne (tgt := 14) hx hb dX5_slice_9 (by decide) (fun h_4 => ?_) (fun h_4 => ?_)
  · have hf := it_n h_4 hf
    refine lv_iconst (v := 1) hx hb dX5_slice_14 (by decide) ?_
    refine lv_aload_n hx hb dX5_slice_15 rfl (lv_at hl 0 rfl) ?_
    refine lv_aload_n hx hb dX5_slice_16 rfl (lv_at hl 0 rfl) ?_
    obtain ⟨x_5, g_5, hf⟩ := b_some hf
    refine xx_gR hZ hE k_X5 0 (by decide) rfl tw_297 g_5 dX5_slice_17 ?_
    obtain ⟨x_6, g_6, hf⟩ := b_some hf
    refine xx_gRN hZ hE k_X3 5 (by decide) rfl tw_304 g_6 dX5_slice_20 ?_
    refine lv_iload_n hx hb dX5_slice_23 rfl (lv_at hl 2 rfl) ?_
    obtain ⟨x_7, g_7, hf⟩ := b_some hf
    refine xx_aI hZ hE g_7 dX5_slice_24 ?_
    refine lv_i2l hx hb dX5_slice_25 rfl ?_
    obtain ⟨_, i_8, hf⟩ := b_some hf
    obtain ⟨z_8, c_8, hf⟩ := b_some hf
    refine xx_cVl hZ hE (As := [.long x_7.toInt64]) (rest := [.int (1 : Int32)]) k_X5 (is_m i_8) tw_300 tw_301 (c_X5_draw l D cA ad o x_7.toInt64 M _ c_8) cw_X5_draw tw_299 ⟨rfl, rfl⟩ ⟨Nat.le_of_ble_eq_true rfl, Nat.le_of_ble_eq_true rfl⟩ rfl hl.1 rfl (Nat.le_of_ble_eq_true rfl) ⟨Nat.le_of_ble_eq_true rfl, Nat.le_of_ble_eq_true rfl⟩ dX5_slice_26 (fun H locs hE => ?_)
    refine lv_l2i hx hb dX5_slice_29 rfl ?_
    refine lv_iadd hx hb dX5_slice_30 ?_
    refine lv_istore_n (lv' := [(3, .int ((1 : Int32) + z_8.1.toInt32)), (0, .ref (ad o)), (1, .int a1), (2, .int a2)]) hx hb dX5_slice_31 rfl hl (by decide) rfl (fun ls hl => ?_)
    refine lv_aload_n hx hb dX5_slice_32 rfl (lv_at hl 1 rfl) ?_
    refine lv_aload_n hx hb dX5_slice_33 rfl (lv_at hl 1 rfl) ?_
    obtain ⟨x_9, g_9, hf⟩ := b_some hf
    refine xx_gR hZ hE k_X5 0 (by decide) rfl tw_297 g_9 dX5_slice_34 ?_
    refine lv_iload_n hx hb dX5_slice_37 rfl (lv_at hl 3 rfl) ?_
    refine lv_iload_n hx hb dX5_slice_38 rfl (lv_at hl 2 rfl) ?_
    refine lv_iload_n hx hb dX5_slice_39 rfl (lv_at hl 0 rfl) ?_
    obtain ⟨_, i_10, hf⟩ := b_some hf
    obtain ⟨z_10, c_10, hf⟩ := b_some hf
    refine xx_cVNi hZ hE (As := [.int a2, .int a1, .int ((1 : Int32) + z_8.1.toInt32)]) (rest := [.ref (ad o)]) k_X3 (is_m i_10) tw_159 tw_160 (c_X3_lineCount l D cA ad x_9 a2 a1 ((1 : Int32) + z_8.1.toInt32) z_8.2 _ c_10) cw_X3_lineCount tw_319 ⟨rfl, rfl⟩ ⟨Nat.le_of_ble_eq_true rfl, Nat.le_of_ble_eq_true rfl⟩ rfl hl.1 rfl (Nat.le_of_ble_eq_true rfl) ⟨Nat.le_of_ble_eq_true rfl, Nat.le_of_ble_eq_true rfl⟩ dX5_slice_40 (fun H locs hE => ?_)
    refine lv_i2l hx hb dX5_slice_43 rfl ?_
    obtain ⟨_, i_11, hf⟩ := b_some hf
    obtain ⟨z_11, c_11, hf⟩ := b_some hf
    refine xx_cVl hZ hE (As := [.long z_10.toInt64]) (rest := []) k_X5 (is_m i_11) tw_300 tw_301 (c_X5_draw l D cA ad o z_10.toInt64 z_8.2 _ c_11) cw_X5_draw tw_299 ⟨rfl, rfl⟩ ⟨Nat.le_of_ble_eq_true rfl, Nat.le_of_ble_eq_true rfl⟩ rfl hl.1 rfl (Nat.le_of_ble_eq_true rfl) ⟨Nat.le_of_ble_eq_true rfl, Nat.le_of_ble_eq_true rfl⟩ dX5_slice_44 (fun H locs hE => ?_)
    refine lv_lstore (lv' := [(4, .long z_11.1), (3, .int ((1 : Int32) + z_8.1.toInt32)), (0, .ref (ad o)), (1, .int a1), (2, .int a2)]) hx hb dX5_slice_47 hl (by decide) rfl (fun ls hl => ?_)
    refine lv_iconst (v := 0) hx hb dX5_slice_49 (by decide) ?_
    refine lv_istore (lv' := [(6, .int (0 : Int32)), (4, .long z_11.1), (3, .int ((1 : Int32) + z_8.1.toInt32)), (0, .ref (ad o)), (1, .int a1), (2, .int a2)]) hx hb dX5_slice_50 hl (by decide) rfl (fun ls hl => ?_)
    have L_24 : ∀ (n_52 : Nat) (w_24_4 : Int64) (w_24_6 : Int32) (H : Heap) (locs : List Loc) (ls : Array Slot), lp_X5_slice_52 o a1 a2 ((1 : Int32) + z_8.1.toInt32) z_11.2 n_52 w_24_4 w_24_6 = some zr → En D cA ad s A z_11.2 H locs → lv_has ls 8 [(0, .ref (ad o)), (1, .int a1), (2, .int a2), (3, .int ((1 : Int32) + z_8.1.toInt32)), (4, .long w_24_4), (6, .int w_24_6)] → W p l e rm_X5_slice s m args below meth c H locs 0 0 Q (F0 m 52 ls []) := by
      intro n_52
      induction n_52 with
      | zero =>
        intro w_24_4 w_24_6 H locs ls hf
        cases (show (none : Option (Int32 × Mm)) = some zr from hf)
      | succ n_52 ih_52 =>
        intro w_24_4 w_24_6 H locs ls hf hE hl
        have hf := lp_X5_slice_52_s _ _ _ _ _ hf
        refine lv_iload hx hb dX5_slice_52 (lv_at hl 5 rfl) ?_
        refine lv_aload_n hx hb dX5_slice_54 rfl (lv_at hl 0 rfl) ?_
        obtain ⟨x_25, g_25, hf⟩ := b_some hf
        refine xx_gR hZ hE k_X5 0 (by decide) rfl tw_297 g_25 dX5_slice_55 ?_
        obtain ⟨x_26, g_26, hf⟩ := b_some hf
        refine xx_gRN hZ hE k_X3 2 (by decide) rfl tw_302 g_26 dX5_slice_58 ?_
        refine lv_iload_n hx hb dX5_slice_61 rfl (lv_at hl 1 rfl) ?_
        obtain ⟨x_27, g_27, hf⟩ := b_some hf
        refine xx_aI hZ hE g_27 dX5_slice_62 ?_
        refine lv_icmp_ge (tgt := 119) hx hb dX5_slice_63 (by decide) (fun h_28 => ?_) (fun h_28 => ?_)
        · have hf := it_y h_28 hf
          refine lv_iload_n hx hb dX5_slice_119 rfl (lv_at hl 2 rfl) ?_
          exact hret _ _ _ _ _ _ (pr_1 hf) (pr_2 hf) rfl dX5_slice_120 hE
        · have hf := it_n h_28 hf
          refine lv_aload_n hx hb dX5_slice_66 rfl (lv_at hl 0 rfl) ?_
          obtain ⟨x_29, g_29, hf⟩ := b_some hf
          refine xx_gR hZ hE k_X5 0 (by decide) rfl tw_297 g_29 dX5_slice_67 ?_
          refine lv_iload_n hx hb dX5_slice_70 rfl (lv_at hl 2 rfl) ?_
          refine lv_iload_n hx hb dX5_slice_71 rfl (lv_at hl 1 rfl) ?_
          refine lv_iload hx hb dX5_slice_72 (lv_at hl 5 rfl) ?_
          obtain ⟨_, i_30, hf⟩ := b_some hf
          obtain ⟨z_30, c_30, hf⟩ := b_some hf
          refine xx_cVNi hZ hE (As := [.int a2, .int a1, .int w_24_6]) (rest := []) k_X3 (is_m i_30) tw_103 tw_104 (c_X3_inLine l D cA ad x_29 a2 a1 w_24_6 z_11.2 _ c_30) cw_X3_inLine tw_303 ⟨rfl, rfl⟩ ⟨Nat.le_of_ble_eq_true rfl, Nat.le_of_ble_eq_true rfl⟩ rfl hl.1 rfl (Nat.le_of_ble_eq_true rfl) ⟨Nat.le_of_ble_eq_true rfl, Nat.le_of_ble_eq_true rfl⟩ dX5_slice_74 (fun H locs hE => ?_)
          refine lv_istore (lv' := [(7, .int z_30), (0, .ref (ad o)), (1, .int a1), (2, .int a2), (3, .int ((1 : Int32) + z_8.1.toInt32)), (4, .long w_24_4), (6, .int w_24_6)]) hx hb dX5_slice_77 hl (by decide) rfl (fun ls hl => ?_)
          refine lv_lload hx hb dX5_slice_79 (lv_at hl 5 rfl) ?_
          refine lv_aload_n hx hb dX5_slice_81 rfl (lv_at hl 1 rfl) ?_
          obtain ⟨x_31, g_31, hf⟩ := b_some hf
          refine xx_gR hZ hE k_X5 0 (by decide) rfl tw_297 g_31 dX5_slice_82 ?_
          obtain ⟨x_32, g_32, hf⟩ := b_some hf
          refine xx_gRN hZ hE k_X3 5 (by decide) rfl tw_304 g_32 dX5_slice_85 ?_
          refine lv_iload hx hb dX5_slice_88 (lv_at hl 0 rfl) ?_
          obtain ⟨x_33, g_33, hf⟩ := b_some hf
          refine xx_aI hZ hE g_33 dX5_slice_90 ?_
          refine lv_iload_n hx hb dX5_slice_91 rfl (lv_at hl 4 rfl) ?_
          have q_34 : ∀ x_34 : Int64, x_34 = (if x_33 < ((1 : Int32) + z_8.1.toInt32) then (0 : Int64) else (1 : Int64)) → W p l e rm_X5_slice s m args below meth c H locs 0 0 Q (F0 m 100 ls [.long x_34, .long w_24_4]) := by
            intro x_34 e_34
            subst e_34
            refine lv_lsub hx hb dX5_slice_100 ?_
            refine lv_lstore (lv' := [(4, .long (w_24_4 - (if x_33 < ((1 : Int32) + z_8.1.toInt32) then (0 : Int64) else (1 : Int64)))), (7, .int z_30), (0, .ref (ad o)), (1, .int a1), (2, .int a2), (3, .int ((1 : Int32) + z_8.1.toInt32)), (6, .int w_24_6)]) hx hb dX5_slice_101 hl (by decide) rfl (fun ls hl => ?_)
            refine lv_lload hx hb dX5_slice_103 (lv_at hl 0 rfl) ?_
            refine lv_lconst (v := 0) hx hb dX5_slice_105 (by decide) ?_
            refine xx_lge (tgt := 113) hx hb dX5_slice_106 dX5_slice_107 (by decide) (fun h_35 => ?_) (fun h_35 => ?_)
            · have hf := it_y h_35 hf
              refine lv_iinc (v := (w_24_6 + 1)) (lv' := [(6, .int (w_24_6 + 1)), (4, .long (w_24_4 - (if x_33 < ((1 : Int32) + z_8.1.toInt32) then (0 : Int64) else (1 : Int64)))), (7, .int z_30), (0, .ref (ad o)), (1, .int a1), (2, .int a2), (3, .int ((1 : Int32) + z_8.1.toInt32))]) hx hb dX5_slice_113 hl (k := 6) rfl rfl (by decide) rfl (fun ls hl => ?_)
              refine lv_goto (tgt := 52) hx hb dX5_slice_116 (by decide) ?_
              exact ih_52 _ _ _ _ _ hf hE (lv_sub hl [3, 4, 5, 6, 1, 0] rfl)
            · have hf := it_n h_35 hf
              refine lv_iload hx hb dX5_slice_110 (lv_at hl 1 rfl) ?_
              exact hret _ _ _ _ _ _ (pr_1 hf) (pr_2 hf) rfl dX5_slice_112 hE
          refine lv_icmp_lt (tgt := 99) hx hb dX5_slice_92 (by decide) (fun h_36 => ?_) (fun h_36 => ?_)
          · refine lv_lconst (v := 0) hx hb dX5_slice_99 (by decide) ?_
            exact q_34 _ (by rw [if_pos h_36])
          · refine lv_lconst (v := 1) hx hb dX5_slice_95 (by decide) ?_
            refine lv_goto (tgt := 100) hx hb dX5_slice_96 (by decide) ?_
            exact q_34 _ (by rw [if_neg h_36])
    exact L_24 _ _ _ _ _ _ hf hE (lv_sub hl [3, 4, 5, 2, 1, 0] rfl)
  · have hf := it_y h_4 hf
    refine lv_iload_n hx hb dX5_slice_12 rfl (lv_at hl 2 rfl) ?_
    exact hret _ _ _ _ _ _ (pr_1 hf) (pr_2 hf) rfl dX5_slice_13 hE
def f_X5_lead : Nat → Nat → Int32 → Int32 → Int32 → Mm → Option (Int32 × Mm)
  | 0, _, _, _, _, _ => none
  | d + 1, o, a1, a2, a3, M =>
    if a3 ≤ (2 : Int32) then
    (op_gR M 5 o 1).bind fun x_2 =>
    (op_aR M x_2 a1).bind fun x_3 =>
    (op_gI M 2 x_3 0).bind fun x_4 =>
    if x_4 = 0 then
    (op_gI M 2 x_3 1).bind fun x_6 =>
    (op_is M o 5).bind fun _ =>
    (f_X5_redraw o x_6 a2 M).bind fun z_7 =>
    some (z_7.1, z_7.2)
    else
    if x_4 = 1 then
    (op_is M o 5).bind fun _ =>
    (f_X5_draw o (2 : Int64) M).bind fun z_9 =>
    op_jn (fun (x_10_0 : Int32) =>
    (op_is z_9.2 o 5).bind fun _ =>
    (f_X5_accept o a2 x_10_0 z_9.2).bind fun z_18 =>
    some (z_18.1, z_18.2))
    fun j_10 =>
    if z_9.1 = (0 : Int64) then
    (op_gR z_9.2 5 o 0).bind fun x_15 =>
    (op_gI z_9.2 2 x_3 1).bind fun x_16 =>
    (op_is z_9.2 x_15 3).bind fun _ =>
    (f_X3_next x_15 a2 x_16 z_9.2).bind fun z_17 =>
    j_10 z_17
    else
    (op_gR z_9.2 5 o 0).bind fun x_12 =>
    (op_gI z_9.2 2 x_3 1).bind fun x_13 =>
    (op_is z_9.2 x_12 3).bind fun _ =>
    (f_X3_before x_12 a2 x_13 z_9.2).bind fun z_14 =>
    j_10 z_14
    else
    if x_4 = 2 then
    (op_gR M 5 o 0).bind fun x_20 =>
    (op_gI M 2 x_3 1).bind fun x_21 =>
    (op_gI M 2 x_3 2).bind fun x_22 =>
    (op_is M x_20 3).bind fun _ =>
    (f_X3_exchanged x_20 a2 x_21 x_22 M).bind fun z_23 =>
    (op_is M o 5).bind fun _ =>
    (f_X5_accept o a2 z_23 M).bind fun z_24 =>
    some (z_24.1, z_24.2)
    else
    if x_4 = 3 then
    (op_is M o 5).bind fun _ =>
    (f_X5_followTold o x_3 a2 M).bind fun z_26 =>
    some (z_26.1, z_26.2)
    else
    if x_4 = 4 then
    (op_gI M 2 x_3 1).bind fun x_28 =>
    (op_is M o 5).bind fun _ =>
    (f_X5_slice o x_28 a2 M).bind fun z_29 =>
    some (z_29.1, z_29.2)
    else
    if x_4 = 5 then
    (op_gI M 2 x_3 3).bind fun x_31 =>
    (op_gI M 2 x_3 4).bind fun x_32 =>
    (op_is M o 5).bind fun _ =>
    (f_X5_draw o ((x_31 + x_32).toInt64) M).bind fun z_33 =>
    (op_gI z_33.2 2 x_3 3).bind fun x_34 =>
    op_jn (fun (x_35_0 : Int32) =>
    (op_is z_33.2 o 5).bind fun _ =>
    (f_X5_lead d o x_35_0 a2 (a3 + (1 : Int32)) z_33.2).bind fun z_39 =>
    some (z_39.1, z_39.2))
    fun j_35 =>
    if x_34.toInt64 ≤ z_33.1 then
    (op_gI z_33.2 2 x_3 2).bind fun x_37 =>
    j_35 x_37
    else
    (op_gI z_33.2 2 x_3 1).bind fun x_38 =>
    j_35 x_38
    else
    (op_gI M 2 x_3 2).bind fun x_40 =>
    (op_gI M 2 x_3 1).bind fun x_41 =>
    (op_is M o 5).bind fun _ =>
    (f_X5_lead d o x_41 a2 (a3 + (1 : Int32)) M).bind fun z_42 =>
    (op_is z_42.2 o 5).bind fun _ =>
    (f_X5_lead d o x_40 z_42.1 (a3 + (1 : Int32)) z_42.2).bind fun z_43 =>
    some (z_43.1, z_43.2)
    else
    some (a2, M)
theorem f_X5_lead_s {d : Nat} (o : Nat) (a1 : Int32) (a2 : Int32) (a3 : Int32) (M : Mm) {zr : Int32 × Mm} (hf : f_X5_lead (d + 1) o a1 a2 a3 M = some zr) : (
    if a3 ≤ (2 : Int32) then
    (op_gR M 5 o 1).bind fun x_2 =>
    (op_aR M x_2 a1).bind fun x_3 =>
    (op_gI M 2 x_3 0).bind fun x_4 =>
    if x_4 = 0 then
    (op_gI M 2 x_3 1).bind fun x_6 =>
    (op_is M o 5).bind fun _ =>
    (f_X5_redraw o x_6 a2 M).bind fun z_7 =>
    some (z_7.1, z_7.2)
    else
    if x_4 = 1 then
    (op_is M o 5).bind fun _ =>
    (f_X5_draw o (2 : Int64) M).bind fun z_9 =>
    op_jn (fun (x_10_0 : Int32) =>
    (op_is z_9.2 o 5).bind fun _ =>
    (f_X5_accept o a2 x_10_0 z_9.2).bind fun z_18 =>
    some (z_18.1, z_18.2))
    fun j_10 =>
    if z_9.1 = (0 : Int64) then
    (op_gR z_9.2 5 o 0).bind fun x_15 =>
    (op_gI z_9.2 2 x_3 1).bind fun x_16 =>
    (op_is z_9.2 x_15 3).bind fun _ =>
    (f_X3_next x_15 a2 x_16 z_9.2).bind fun z_17 =>
    j_10 z_17
    else
    (op_gR z_9.2 5 o 0).bind fun x_12 =>
    (op_gI z_9.2 2 x_3 1).bind fun x_13 =>
    (op_is z_9.2 x_12 3).bind fun _ =>
    (f_X3_before x_12 a2 x_13 z_9.2).bind fun z_14 =>
    j_10 z_14
    else
    if x_4 = 2 then
    (op_gR M 5 o 0).bind fun x_20 =>
    (op_gI M 2 x_3 1).bind fun x_21 =>
    (op_gI M 2 x_3 2).bind fun x_22 =>
    (op_is M x_20 3).bind fun _ =>
    (f_X3_exchanged x_20 a2 x_21 x_22 M).bind fun z_23 =>
    (op_is M o 5).bind fun _ =>
    (f_X5_accept o a2 z_23 M).bind fun z_24 =>
    some (z_24.1, z_24.2)
    else
    if x_4 = 3 then
    (op_is M o 5).bind fun _ =>
    (f_X5_followTold o x_3 a2 M).bind fun z_26 =>
    some (z_26.1, z_26.2)
    else
    if x_4 = 4 then
    (op_gI M 2 x_3 1).bind fun x_28 =>
    (op_is M o 5).bind fun _ =>
    (f_X5_slice o x_28 a2 M).bind fun z_29 =>
    some (z_29.1, z_29.2)
    else
    if x_4 = 5 then
    (op_gI M 2 x_3 3).bind fun x_31 =>
    (op_gI M 2 x_3 4).bind fun x_32 =>
    (op_is M o 5).bind fun _ =>
    (f_X5_draw o ((x_31 + x_32).toInt64) M).bind fun z_33 =>
    (op_gI z_33.2 2 x_3 3).bind fun x_34 =>
    op_jn (fun (x_35_0 : Int32) =>
    (op_is z_33.2 o 5).bind fun _ =>
    (f_X5_lead d o x_35_0 a2 (a3 + (1 : Int32)) z_33.2).bind fun z_39 =>
    some (z_39.1, z_39.2))
    fun j_35 =>
    if x_34.toInt64 ≤ z_33.1 then
    (op_gI z_33.2 2 x_3 2).bind fun x_37 =>
    j_35 x_37
    else
    (op_gI z_33.2 2 x_3 1).bind fun x_38 =>
    j_35 x_38
    else
    (op_gI M 2 x_3 2).bind fun x_40 =>
    (op_gI M 2 x_3 1).bind fun x_41 =>
    (op_is M o 5).bind fun _ =>
    (f_X5_lead d o x_41 a2 (a3 + (1 : Int32)) M).bind fun z_42 =>
    (op_is z_42.2 o 5).bind fun _ =>
    (f_X5_lead d o x_40 z_42.1 (a3 + (1 : Int32)) z_42.2).bind fun z_43 =>
    some (z_43.1, z_43.2)
    else
    some (a2, M)) = some zr := hf
set_option maxHeartbeats 4000000 in
set_option maxRecDepth 100000 in
theorem c_X5_lead (l : Launch) (D : va_G) (cA : Nat → ClassId) (ad : Nat → Nat) (d : Nat) : ∀ (o : Nat) (a1 : Int32) (a2 : Int32) (a3 : Int32) (M : Mm) (zr : Int32 × Mm) (hf : f_X5_lead d o a1 a2 a3 M = some zr), KI l yX5_lead cX5_lead 5 (some .int) (rm_X5_lead d) D cA ad [.ref (ad o), .int a1, .int a2, .int a3] M zr.1 zr.2 := by
  induction d with
  | zero =>
    intro o a1 a2 a3 M zr hf
    cases (show (none : Option (Int32 × Mm)) = some zr from hf)
  | succ d ih =>
    intro o a1 a2 a3 M zr hf
    refine KI_of (by decide) (Nat.le_of_ble_eq_true rfl) ?_
    intro p e s m args below meth c ls Q A H locs hZ hE hl hret
    have hx := hZ.1
    have hb := hZ.2.1
    have hown := hZ.2.2.2.1
    have hts := hZ.2.2.2.2.1
    have hl : lv_has ls 5 [(0, .ref (ad o)), (1, .int a1), (2, .int a2), (3, .int a3)] := hl
    have hf := f_X5_lead_s o a1 a2 a3 M hf
    refine lv_iload_n hx hb dX5_lead_0 rfl (lv_at hl 3 rfl) ?_
    refine lv_iconst (v := 2) hx hb dX5_lead_1 (by decide) ?_
    refine lv_icmp_le (tgt := 7) hx hb dX5_lead_2 (by decide) (fun h_1 => ?_) (fun h_1 => ?_)
    · have hf := it_y h_1 hf
      refine lv_aload_n hx hb dX5_lead_7 rfl (lv_at hl 0 rfl) ?_
      obtain ⟨x_2, g_2, hf⟩ := b_some hf
      refine xx_gR hZ hE k_X5 1 (by decide) rfl tw_320 g_2 dX5_lead_8 ?_
      refine lv_iload_n hx hb dX5_lead_11 rfl (lv_at hl 1 rfl) ?_
      obtain ⟨x_3, g_3, hf⟩ := b_some hf
      refine xx_aR hZ hE g_3 dX5_lead_12 ?_
      refine lv_astore (lv' := [(4, .ref (ad x_3)), (0, .ref (ad o)), (1, .int a1), (2, .int a2), (3, .int a3)]) hx hb dX5_lead_13 hl (by decide) rfl (fun ls hl => ?_)
      refine lv_aload hx hb dX5_lead_15 (lv_at hl 0 rfl) ?_
      obtain ⟨x_4, g_4, hf⟩ := b_some hf
      refine xx_gIN hZ hE k_X2 0 (by decide) rfl tw_321 g_4 dX5_lead_17 ?_
      by_cases h_5 : x_4 = 0
      · have hf := it_y h_5 hf
        refine xx_tsw (off := 40) (tgt := 60) hx hb dX5_lead_20 0 h_5 (by decide) (by decide) ?_
        refine lv_aload_n hx hb dX5_lead_60 rfl (lv_at hl 1 rfl) ?_
        refine lv_aload hx hb dX5_lead_61 (lv_at hl 0 rfl) ?_
        obtain ⟨x_6, g_6, hf⟩ := b_some hf
        refine xx_gIN hZ hE k_X2 1 (by decide) rfl tw_322 g_6 dX5_lead_63 ?_
        refine lv_iload_n hx hb dX5_lead_66 rfl (lv_at hl 3 rfl) ?_
        obtain ⟨_, i_7, hf⟩ := b_some hf
        obtain ⟨z_7, c_7, hf⟩ := b_some hf
        refine xx_cVi hZ hE (As := [.int x_6, .int a2]) (rest := []) k_X5 (is_m i_7) tw_324 tw_325 (c_X5_redraw l D cA ad o x_6 a2 M _ c_7) cw_X5_redraw tw_323 ⟨rfl, rfl⟩ ⟨by show 3 + 1 ≤ 40 + 3 * (d + 1); omega, by show 8 + (8 + 11) + (69) ≤ 2000 + 100 * (d + 1); omega⟩ rfl hl.1 rfl (Nat.le_of_ble_eq_true rfl) ⟨Nat.le_of_ble_eq_true rfl, Nat.le_of_ble_eq_true rfl⟩ dX5_lead_67 (fun H locs hE => ?_)
        exact hret _ _ _ _ _ _ (pr_1 hf) (pr_2 hf) rfl dX5_lead_70 hE
      · have hf := it_n h_5 hf
        by_cases h_8 : x_4 = 1
        · have hf := it_y h_8 hf
          refine xx_tsw (off := 51) (tgt := 71) hx hb dX5_lead_20 1 h_8 (by decide) (by decide) ?_
          refine lv_aload_n hx hb dX5_lead_71 rfl (lv_at hl 1 rfl) ?_
          refine lv_iload_n hx hb dX5_lead_72 rfl (lv_at hl 3 rfl) ?_
          refine lv_aload_n hx hb dX5_lead_73 rfl (lv_at hl 1 rfl) ?_
          refine lv_ldc2 (v := 2) hx hb hown (hts _ tw_326) dX5_lead_74 ?_
          obtain ⟨_, i_9, hf⟩ := b_some hf
          obtain ⟨z_9, c_9, hf⟩ := b_some hf
          refine xx_cVl hZ hE (As := [.long (2 : Int64)]) (rest := [.int a2, .ref (ad o)]) k_X5 (is_m i_9) tw_300 tw_301 (c_X5_draw l D cA ad o (2 : Int64) M _ c_9) cw_X5_draw tw_299 ⟨rfl, rfl⟩ ⟨by show 0 + 1 ≤ 40 + 3 * (d + 1); omega, by show 8 + (3 + 11) + (0) ≤ 2000 + 100 * (d + 1); omega⟩ rfl hl.1 rfl (Nat.le_of_ble_eq_true rfl) ⟨Nat.le_of_ble_eq_true rfl, Nat.le_of_ble_eq_true rfl⟩ dX5_lead_77 (fun H locs hE => ?_)
          refine lv_lconst (v := 0) hx hb dX5_lead_80 (by decide) ?_
          obtain ⟨j_10, ej_10, hf⟩ := jn_e hf
          have q_10 : ∀ (x_10_0 : Int32) (H : Heap) (locs : List Loc) (ls : Array Slot), j_10 x_10_0 = some zr → En D cA ad s A z_9.2 H locs → lv_has ls 5 [] → W p l e (rm_X5_lead (d + 1)) s m args below meth c H locs 0 0 Q (F0 m 114 ls [.int x_10_0, .int a2, .ref (ad o)]) := by
            intro x_10_0 H locs ls hf hE hl
            rw [ej_10] at hf
            obtain ⟨_, i_18, hf⟩ := b_some hf
            obtain ⟨z_18, c_18, hf⟩ := b_some hf
            refine xx_cVi hZ hE (As := [.int a2, .int x_10_0]) (rest := []) k_X5 (is_m i_18) tw_330 tw_331 (c_X5_accept l D cA ad o a2 x_10_0 z_9.2 _ c_18) cw_X5_accept tw_329 ⟨rfl, rfl⟩ ⟨by show 2 + 1 ≤ 40 + 3 * (d + 1); omega, by show 8 + (3 + 11) + (46) ≤ 2000 + 100 * (d + 1); omega⟩ rfl hl.1 rfl (Nat.le_of_ble_eq_true rfl) ⟨Nat.le_of_ble_eq_true rfl, Nat.le_of_ble_eq_true rfl⟩ dX5_lead_114 (fun H locs hE => ?_)
            exact hret _ _ _ _ _ _ (pr_1 hf) (pr_2 hf) rfl dX5_lead_117 hE
          refine xx_lne (tgt := 101) hx hb dX5_lead_81 dX5_lead_82 (by decide) (fun h_11 => ?_) (fun h_11 => ?_)
          · have hf := it_n h_11 hf
            refine lv_aload_n hx hb dX5_lead_101 rfl (lv_at hl 1 rfl) ?_
            obtain ⟨x_12, g_12, hf⟩ := b_some hf
            refine xx_gR hZ hE k_X5 0 (by decide) rfl tw_297 g_12 dX5_lead_102 ?_
            refine lv_iload_n hx hb dX5_lead_105 rfl (lv_at hl 3 rfl) ?_
            refine lv_aload hx hb dX5_lead_106 (lv_at hl 0 rfl) ?_
            obtain ⟨x_13, g_13, hf⟩ := b_some hf
            refine xx_gIN hZ hE k_X2 1 (by decide) rfl tw_322 g_13 dX5_lead_108 ?_
            obtain ⟨_, i_14, hf⟩ := b_some hf
            obtain ⟨z_14, c_14, hf⟩ := b_some hf
            refine xx_cVNi hZ hE (As := [.int a2, .int x_13]) (rest := [.int a2, .ref (ad o)]) k_X3 (is_m i_14) tw_198 tw_199 (c_X3_before l D cA ad x_12 a2 x_13 z_9.2 _ c_14) cw_X3_before tw_327 ⟨rfl, rfl⟩ ⟨by show 2 + 1 ≤ 40 + 3 * (d + 1); omega, by show 8 + (4 + 11) + (45) ≤ 2000 + 100 * (d + 1); omega⟩ rfl hl.1 rfl (Nat.le_of_ble_eq_true rfl) ⟨Nat.le_of_ble_eq_true rfl, Nat.le_of_ble_eq_true rfl⟩ dX5_lead_111 (fun H locs hE => ?_)
            exact q_10 _ _ _ _ hf hE (lv_sub hl [] rfl)
          · have hf := it_y h_11 hf
            refine lv_aload_n hx hb dX5_lead_85 rfl (lv_at hl 1 rfl) ?_
            obtain ⟨x_15, g_15, hf⟩ := b_some hf
            refine xx_gR hZ hE k_X5 0 (by decide) rfl tw_297 g_15 dX5_lead_86 ?_
            refine lv_iload_n hx hb dX5_lead_89 rfl (lv_at hl 3 rfl) ?_
            refine lv_aload hx hb dX5_lead_90 (lv_at hl 0 rfl) ?_
            obtain ⟨x_16, g_16, hf⟩ := b_some hf
            refine xx_gIN hZ hE k_X2 1 (by decide) rfl tw_322 g_16 dX5_lead_92 ?_
            obtain ⟨_, i_17, hf⟩ := b_some hf
            obtain ⟨z_17, c_17, hf⟩ := b_some hf
            refine xx_cVNi hZ hE (As := [.int a2, .int x_16]) (rest := [.int a2, .ref (ad o)]) k_X3 (is_m i_17) tw_195 tw_196 (c_X3_next l D cA ad x_15 a2 x_16 z_9.2 _ c_17) cw_X3_next tw_328 ⟨rfl, rfl⟩ ⟨by show 2 + 1 ≤ 40 + 3 * (d + 1); omega, by show 8 + (4 + 11) + (45) ≤ 2000 + 100 * (d + 1); omega⟩ rfl hl.1 rfl (Nat.le_of_ble_eq_true rfl) ⟨Nat.le_of_ble_eq_true rfl, Nat.le_of_ble_eq_true rfl⟩ dX5_lead_95 (fun H locs hE => ?_)
            refine lv_goto (tgt := 114) hx hb dX5_lead_98 (by decide) ?_
            exact q_10 _ _ _ _ hf hE (lv_sub hl [] rfl)
        · have hf := it_n h_8 hf
          by_cases h_19 : x_4 = 2
          · have hf := it_y h_19 hf
            refine xx_tsw (off := 98) (tgt := 118) hx hb dX5_lead_20 2 h_19 (by decide) (by decide) ?_
            refine lv_aload_n hx hb dX5_lead_118 rfl (lv_at hl 1 rfl) ?_
            refine lv_iload_n hx hb dX5_lead_119 rfl (lv_at hl 3 rfl) ?_
            refine lv_aload_n hx hb dX5_lead_120 rfl (lv_at hl 1 rfl) ?_
            obtain ⟨x_20, g_20, hf⟩ := b_some hf
            refine xx_gR hZ hE k_X5 0 (by decide) rfl tw_297 g_20 dX5_lead_121 ?_
            refine lv_iload_n hx hb dX5_lead_124 rfl (lv_at hl 3 rfl) ?_
            refine lv_aload hx hb dX5_lead_125 (lv_at hl 0 rfl) ?_
            obtain ⟨x_21, g_21, hf⟩ := b_some hf
            refine xx_gIN hZ hE k_X2 1 (by decide) rfl tw_322 g_21 dX5_lead_127 ?_
            refine lv_aload hx hb dX5_lead_130 (lv_at hl 0 rfl) ?_
            obtain ⟨x_22, g_22, hf⟩ := b_some hf
            refine xx_gIN hZ hE k_X2 2 (by decide) rfl tw_332 g_22 dX5_lead_132 ?_
            obtain ⟨_, i_23, hf⟩ := b_some hf
            obtain ⟨z_23, c_23, hf⟩ := b_some hf
            refine xx_cVNi hZ hE (As := [.int a2, .int x_21, .int x_22]) (rest := [.int a2, .ref (ad o)]) k_X3 (is_m i_23) tw_204 tw_205 (c_X3_exchanged l D cA ad x_20 a2 x_21 x_22 M _ c_23) cw_X3_exchanged tw_333 ⟨rfl, rfl⟩ ⟨by show 1 + 1 ≤ 40 + 3 * (d + 1); omega, by show 8 + (5 + 11) + (22) ≤ 2000 + 100 * (d + 1); omega⟩ rfl hl.1 rfl (Nat.le_of_ble_eq_true rfl) ⟨Nat.le_of_ble_eq_true rfl, Nat.le_of_ble_eq_true rfl⟩ dX5_lead_135 (fun H locs hE => ?_)
            obtain ⟨_, i_24, hf⟩ := b_some hf
            obtain ⟨z_24, c_24, hf⟩ := b_some hf
            refine xx_cVi hZ hE (As := [.int a2, .int z_23]) (rest := []) k_X5 (is_m i_24) tw_330 tw_331 (c_X5_accept l D cA ad o a2 z_23 M _ c_24) cw_X5_accept tw_329 ⟨rfl, rfl⟩ ⟨by show 2 + 1 ≤ 40 + 3 * (d + 1); omega, by show 8 + (3 + 11) + (46) ≤ 2000 + 100 * (d + 1); omega⟩ rfl hl.1 rfl (Nat.le_of_ble_eq_true rfl) ⟨Nat.le_of_ble_eq_true rfl, Nat.le_of_ble_eq_true rfl⟩ dX5_lead_138 (fun H locs hE => ?_)
            exact hret _ _ _ _ _ _ (pr_1 hf) (pr_2 hf) rfl dX5_lead_141 hE
          · have hf := it_n h_19 hf
            by_cases h_25 : x_4 = 3
            · have hf := it_y h_25 hf
              refine xx_tsw (off := 122) (tgt := 142) hx hb dX5_lead_20 3 h_25 (by decide) (by decide) ?_
              refine lv_aload_n hx hb dX5_lead_142 rfl (lv_at hl 1 rfl) ?_
              refine lv_aload hx hb dX5_lead_143 (lv_at hl 0 rfl) ?_
              refine lv_iload_n hx hb dX5_lead_145 rfl (lv_at hl 3 rfl) ?_
              obtain ⟨_, i_26, hf⟩ := b_some hf
              obtain ⟨z_26, c_26, hf⟩ := b_some hf
              refine xx_cVi hZ hE (As := [.ref (ad x_3), .int a2]) (rest := []) k_X5 (is_m i_26) tw_335 tw_336 (c_X5_followTold l D cA ad o x_3 a2 M _ c_26) cw_X5_followTold tw_334 ⟨rfl, rfl⟩ ⟨by show 2 + 1 ≤ 40 + 3 * (d + 1); omega, by show 8 + (8 + 11) + (47) ≤ 2000 + 100 * (d + 1); omega⟩ rfl hl.1 rfl (Nat.le_of_ble_eq_true rfl) ⟨Nat.le_of_ble_eq_true rfl, Nat.le_of_ble_eq_true rfl⟩ dX5_lead_146 (fun H locs hE => ?_)
              exact hret _ _ _ _ _ _ (pr_1 hf) (pr_2 hf) rfl dX5_lead_149 hE
            · have hf := it_n h_25 hf
              by_cases h_27 : x_4 = 4
              · have hf := it_y h_27 hf
                refine xx_tsw (off := 130) (tgt := 150) hx hb dX5_lead_20 4 h_27 (by decide) (by decide) ?_
                refine lv_aload_n hx hb dX5_lead_150 rfl (lv_at hl 1 rfl) ?_
                refine lv_aload hx hb dX5_lead_151 (lv_at hl 0 rfl) ?_
                obtain ⟨x_28, g_28, hf⟩ := b_some hf
                refine xx_gIN hZ hE k_X2 1 (by decide) rfl tw_322 g_28 dX5_lead_153 ?_
                refine lv_iload_n hx hb dX5_lead_156 rfl (lv_at hl 3 rfl) ?_
                obtain ⟨_, i_29, hf⟩ := b_some hf
                obtain ⟨z_29, c_29, hf⟩ := b_some hf
                refine xx_cVi hZ hE (As := [.int x_28, .int a2]) (rest := []) k_X5 (is_m i_29) tw_338 tw_339 (c_X5_slice l D cA ad o x_28 a2 M _ c_29) cw_X5_slice tw_337 ⟨rfl, rfl⟩ ⟨by show 3 + 1 ≤ 40 + 3 * (d + 1); omega, by show 8 + (8 + 11) + (70) ≤ 2000 + 100 * (d + 1); omega⟩ rfl hl.1 rfl (Nat.le_of_ble_eq_true rfl) ⟨Nat.le_of_ble_eq_true rfl, Nat.le_of_ble_eq_true rfl⟩ dX5_lead_157 (fun H locs hE => ?_)
                exact hret _ _ _ _ _ _ (pr_1 hf) (pr_2 hf) rfl dX5_lead_160 hE
              · have hf := it_n h_27 hf
                by_cases h_30 : x_4 = 5
                · have hf := it_y h_30 hf
                  refine xx_tsw (off := 141) (tgt := 161) hx hb dX5_lead_20 5 h_30 (by decide) (by decide) ?_
                  refine lv_aload_n hx hb dX5_lead_161 rfl (lv_at hl 1 rfl) ?_
                  refine lv_aload_n hx hb dX5_lead_162 rfl (lv_at hl 1 rfl) ?_
                  refine lv_aload hx hb dX5_lead_163 (lv_at hl 0 rfl) ?_
                  obtain ⟨x_31, g_31, hf⟩ := b_some hf
                  refine xx_gIN hZ hE k_X2 3 (by decide) rfl tw_340 g_31 dX5_lead_165 ?_
                  refine lv_aload hx hb dX5_lead_168 (lv_at hl 0 rfl) ?_
                  obtain ⟨x_32, g_32, hf⟩ := b_some hf
                  refine xx_gIN hZ hE k_X2 4 (by decide) rfl tw_341 g_32 dX5_lead_170 ?_
                  refine lv_iadd hx hb dX5_lead_173 ?_
                  refine lv_i2l hx hb dX5_lead_174 rfl ?_
                  obtain ⟨_, i_33, hf⟩ := b_some hf
                  obtain ⟨z_33, c_33, hf⟩ := b_some hf
                  refine xx_cVl hZ hE (As := [.long ((x_31 + x_32).toInt64)]) (rest := [.ref (ad o)]) k_X5 (is_m i_33) tw_300 tw_301 (c_X5_draw l D cA ad o ((x_31 + x_32).toInt64) M _ c_33) cw_X5_draw tw_299 ⟨rfl, rfl⟩ ⟨by show 0 + 1 ≤ 40 + 3 * (d + 1); omega, by show 8 + (3 + 11) + (0) ≤ 2000 + 100 * (d + 1); omega⟩ rfl hl.1 rfl (Nat.le_of_ble_eq_true rfl) ⟨Nat.le_of_ble_eq_true rfl, Nat.le_of_ble_eq_true rfl⟩ dX5_lead_175 (fun H locs hE => ?_)
                  refine lv_aload hx hb dX5_lead_178 (lv_at hl 0 rfl) ?_
                  obtain ⟨x_34, g_34, hf⟩ := b_some hf
                  refine xx_gIN hZ hE k_X2 3 (by decide) rfl tw_340 g_34 dX5_lead_180 ?_
                  refine lv_i2l hx hb dX5_lead_183 rfl ?_
                  obtain ⟨j_35, ej_35, hf⟩ := jn_e hf
                  have q_35 : ∀ (x_35_0 : Int32) (H : Heap) (locs : List Loc) (ls : Array Slot), j_35 x_35_0 = some zr → En D cA ad s A z_33.2 H locs → lv_has ls 5 [(2, .int a2), (3, .int a3)] → W p l e (rm_X5_lead (d + 1)) s m args below meth c H locs 0 0 Q (F0 m 201 ls [.int x_35_0, .ref (ad o)]) := by
                    intro x_35_0 H locs ls hf hE hl
                    rw [ej_35] at hf
                    refine lv_iload_n hx hb dX5_lead_201 rfl (lv_at hl 0 rfl) ?_
                    refine lv_iload_n hx hb dX5_lead_202 rfl (lv_at hl 1 rfl) ?_
                    refine lv_iconst (v := 1) hx hb dX5_lead_203 (by decide) ?_
                    refine lv_iadd hx hb dX5_lead_204 ?_
                    obtain ⟨_, i_39, hf⟩ := b_some hf
                    obtain ⟨z_39, c_39, hf⟩ := b_some hf
                    refine xx_cVi hZ hE (As := [.int x_35_0, .int a2, .int (a3 + (1 : Int32))]) (rest := []) k_X5 (is_m i_39) tw_343 tw_344 (ih o x_35_0 a2 (a3 + (1 : Int32)) z_33.2 _ c_39) cw_X5_lead tw_342 ⟨rfl, rfl⟩ ⟨by show 40 + 3 * (d) + 1 ≤ 40 + 3 * (d + 1); omega, by show 8 + (5 + 11) + (2000 + 100 * (d)) ≤ 2000 + 100 * (d + 1); omega⟩ rfl hl.1 rfl (Nat.le_of_ble_eq_true rfl) ⟨Nat.le_of_ble_eq_true rfl, Nat.le_of_ble_eq_true rfl⟩ dX5_lead_205 (fun H locs hE => ?_)
                    exact hret _ _ _ _ _ _ (pr_1 hf) (pr_2 hf) rfl dX5_lead_208 hE
                  refine xx_lge (tgt := 196) hx hb dX5_lead_184 dX5_lead_185 (by decide) (fun h_36 => ?_) (fun h_36 => ?_)
                  · have hf := it_y h_36 hf
                    refine lv_aload hx hb dX5_lead_196 (lv_at hl 0 rfl) ?_
                    obtain ⟨x_37, g_37, hf⟩ := b_some hf
                    refine xx_gIN hZ hE k_X2 2 (by decide) rfl tw_332 g_37 dX5_lead_198 ?_
                    exact q_35 _ _ _ _ hf hE (lv_sub hl [3, 4] rfl)
                  · have hf := it_n h_36 hf
                    refine lv_aload hx hb dX5_lead_188 (lv_at hl 0 rfl) ?_
                    obtain ⟨x_38, g_38, hf⟩ := b_some hf
                    refine xx_gIN hZ hE k_X2 1 (by decide) rfl tw_322 g_38 dX5_lead_190 ?_
                    refine lv_goto (tgt := 201) hx hb dX5_lead_193 (by decide) ?_
                    exact q_35 _ _ _ _ hf hE (lv_sub hl [3, 4] rfl)
                · have hf := it_n h_30 hf
                  have sw := (⟨i32m h_5 (n := 0) (by decide), i32m h_8 (n := 1) (by decide), i32m h_19 (n := 2) (by decide), i32m h_25 (n := 3) (by decide), i32m h_27 (n := 4) (by decide), i32m h_30 (n := 5) (by decide), trivial⟩ : x_4.toInt ≠ 0 ∧ x_4.toInt ≠ 1 ∧ x_4.toInt ≠ 2 ∧ x_4.toInt ≠ 3 ∧ x_4.toInt ≠ 4 ∧ x_4.toInt ≠ 5 ∧ True)
                  refine lv_tableOut (tgt := 209) hx hb dX5_lead_20 (by omega) (by decide) ?_
                  refine lv_aload_n hx hb dX5_lead_209 rfl (lv_at hl 1 rfl) ?_
                  refine lv_aload hx hb dX5_lead_210 (lv_at hl 0 rfl) ?_
                  obtain ⟨x_40, g_40, hf⟩ := b_some hf
                  refine xx_gIN hZ hE k_X2 2 (by decide) rfl tw_332 g_40 dX5_lead_212 ?_
                  refine lv_aload_n hx hb dX5_lead_215 rfl (lv_at hl 1 rfl) ?_
                  refine lv_aload hx hb dX5_lead_216 (lv_at hl 0 rfl) ?_
                  obtain ⟨x_41, g_41, hf⟩ := b_some hf
                  refine xx_gIN hZ hE k_X2 1 (by decide) rfl tw_322 g_41 dX5_lead_218 ?_
                  refine lv_iload_n hx hb dX5_lead_221 rfl (lv_at hl 3 rfl) ?_
                  refine lv_iload_n hx hb dX5_lead_222 rfl (lv_at hl 4 rfl) ?_
                  refine lv_iconst (v := 1) hx hb dX5_lead_223 (by decide) ?_
                  refine lv_iadd hx hb dX5_lead_224 ?_
                  obtain ⟨_, i_42, hf⟩ := b_some hf
                  obtain ⟨z_42, c_42, hf⟩ := b_some hf
                  refine xx_cVi hZ hE (As := [.int x_41, .int a2, .int (a3 + (1 : Int32))]) (rest := [.int x_40, .ref (ad o)]) k_X5 (is_m i_42) tw_343 tw_344 (ih o x_41 a2 (a3 + (1 : Int32)) M _ c_42) cw_X5_lead tw_342 ⟨rfl, rfl⟩ ⟨by show 40 + 3 * (d) + 1 ≤ 40 + 3 * (d + 1); omega, by show 8 + (5 + 11) + (2000 + 100 * (d)) ≤ 2000 + 100 * (d + 1); omega⟩ rfl hl.1 rfl (Nat.le_of_ble_eq_true rfl) ⟨Nat.le_of_ble_eq_true rfl, Nat.le_of_ble_eq_true rfl⟩ dX5_lead_225 (fun H locs hE => ?_)
                  refine lv_iload_n hx hb dX5_lead_228 rfl (lv_at hl 4 rfl) ?_
                  refine lv_iconst (v := 1) hx hb dX5_lead_229 (by decide) ?_
                  refine lv_iadd hx hb dX5_lead_230 ?_
                  obtain ⟨_, i_43, hf⟩ := b_some hf
                  obtain ⟨z_43, c_43, hf⟩ := b_some hf
                  refine xx_cVi hZ hE (As := [.int x_40, .int z_42.1, .int (a3 + (1 : Int32))]) (rest := []) k_X5 (is_m i_43) tw_343 tw_344 (ih o x_40 z_42.1 (a3 + (1 : Int32)) z_42.2 _ c_43) cw_X5_lead tw_342 ⟨rfl, rfl⟩ ⟨by show 40 + 3 * (d) + 1 ≤ 40 + 3 * (d + 1); omega, by show 8 + (5 + 11) + (2000 + 100 * (d)) ≤ 2000 + 100 * (d + 1); omega⟩ rfl hl.1 rfl (Nat.le_of_ble_eq_true rfl) ⟨Nat.le_of_ble_eq_true rfl, Nat.le_of_ble_eq_true rfl⟩ dX5_lead_231 (fun H locs hE => ?_)
                  exact hret _ _ _ _ _ _ (pr_1 hf) (pr_2 hf) rfl dX5_lead_234 hE
    · have hf := it_n h_1 hf
      refine lv_iload_n hx hb dX5_lead_5 rfl (lv_at hl 2 rfl) ?_
      exact hret _ _ _ _ _ _ (pr_1 hf) (pr_2 hf) rfl dX5_lead_6 hE
def lp_X5_go_30 (k_64 : Mm → Option (Int32 × Mm)) (i_0 : Nat) (i_1 : Int32) (i_3 : Int32) : Nat → Int32 → Mm → Option (Int32 × Mm)
  | 0, _, _ => none
  | n_30 + 1, v_6, M =>
    if i_3 ≤ v_6 then
    k_64 M
    else
    (op_gR M 5 i_0 2).bind fun x_7 =>
    (op_gR M 5 i_0 2).bind fun x_8 =>
    (op_aI M x_8 v_6).bind fun x_9 =>
    (op_is M i_0 5).bind fun _ =>
    (f_X5_lead 4 i_0 i_1 x_9 (0 : Int32) M).bind fun z_10 =>
    (op_sI z_10.2 x_7 (v_6 + (1 : Int32)) z_10.1).bind fun M_11 =>
    lp_X5_go_30 k_64 i_0 i_1 i_3 n_30 (v_6 + 1) M_11
theorem lp_X5_go_30_s (k_64 : Mm → Option (Int32 × Mm)) (i_0 : Nat) (i_1 : Int32) (i_3 : Int32) {n_30 : Nat} {v_6 : Int32} {M : Mm} {zr : Int32 × Mm} (hf : lp_X5_go_30 k_64 i_0 i_1 i_3 (n_30 + 1) v_6 M = some zr) : (
    if i_3 ≤ v_6 then
    k_64 M
    else
    (op_gR M 5 i_0 2).bind fun x_7 =>
    (op_gR M 5 i_0 2).bind fun x_8 =>
    (op_aI M x_8 v_6).bind fun x_9 =>
    (op_is M i_0 5).bind fun _ =>
    (f_X5_lead 4 i_0 i_1 x_9 (0 : Int32) M).bind fun z_10 =>
    (op_sI z_10.2 x_7 (v_6 + (1 : Int32)) z_10.1).bind fun M_11 =>
    lp_X5_go_30 k_64 i_0 i_1 i_3 n_30 (v_6 + 1) M_11) = some zr := hf
theorem lp_X5_go_30_k {k_64 : Mm → Option (Int32 × Mm)} {i_0 : Nat} {i_1 : Int32} {i_3 : Int32} {n : Nat} {v_6 : Int32} {M : Mm} {zr : Int32 × Mm} (hf : lp_X5_go_30 k_64 i_0 i_1 i_3 n v_6 M = some zr) : ∃ (m_64 : Mm → Option (Int32 × Mm)), m_64 = k_64 ∧ lp_X5_go_30 m_64 i_0 i_1 i_3 n v_6 M = some zr := ⟨k_64, rfl, hf⟩
def rm_X5_go : Room := { frames := 56, cells := 0, slots := 0, locals := 2524 }
def f_X5_go (o : Nat) (a1 : Int32) (a2 : Int32) (a3 : Int32) (a4 : Int64) (M : Mm) : Option (Int32 × Mm) :=
    (op_pL M 5 o 5 (a4 &&& (281474976710655 : Int64))).bind fun M_1 =>
    (op_pI M_1 5 o 4 (0 : Int32)).bind fun M_2 =>
    (op_pI M_2 5 o 3 a3).bind fun M_3 =>
    (op_gR M_3 5 o 2).bind fun x_4 =>
    (op_sI M_3 x_4 (0 : Int32) a2).bind fun M_5 =>
    lp_X5_go_30 (fun (M_13 : Mm) =>
    (op_gR M_13 5 o 2).bind fun x_14 =>
    (op_aI M_13 x_14 a3).bind fun x_15 =>
    some (x_15, M_13)) o a1 a3 FU (0 : Int32) M_5
set_option maxHeartbeats 4000000 in
set_option maxRecDepth 100000 in
theorem c_X5_go (l : Launch) (D : va_G) (cA : Nat → ClassId) (ad : Nat → Nat) (o : Nat) (a1 : Int32) (a2 : Int32) (a3 : Int32) (a4 : Int64) (M : Mm) (zr : Int32 × Mm) (hf : f_X5_go o a1 a2 a3 a4 M = some zr) : KI l yX5_go cX5_go 7 (some .int) rm_X5_go D cA ad [.ref (ad o), .int a1, .int a2, .int a3, .long a4] M zr.1 zr.2 := by
  refine KI_of (by decide) (Nat.le_of_ble_eq_true rfl) ?_
  intro p e s m args below meth c ls Q A H locs hZ hE hl hret
  have hx := hZ.1
  have hb := hZ.2.1
  have hown := hZ.2.2.2.1
  have hts := hZ.2.2.2.2.1
  have hl : lv_has ls 7 [(0, .ref (ad o)), (1, .int a1), (2, .int a2), (3, .int a3), (4, .long a4)] := hl
  unfold f_X5_go at hf
  refine lv_aload_n hx hb dX5_go_0 rfl (lv_at hl 0 rfl) ?_
  refine lv_lload hx hb dX5_go_1 (lv_at hl 4 rfl) ?_
  refine lv_ldc2 (v := 281474976710655) hx hb hown (hts _ tw_296) dX5_go_3 ?_
  refine lv_land hx hb dX5_go_6 ?_
  obtain ⟨M_1, g_1, hf⟩ := b_some hf
  refine xx_pL hZ hE k_X5 5 (by decide) rfl rfl rfl tw_293 g_1 dX5_go_7 (fun H locs hE => ?_)
  refine lv_aload_n hx hb dX5_go_10 rfl (lv_at hl 0 rfl) ?_
  refine lv_iconst (v := 0) hx hb dX5_go_11 (by decide) ?_
  obtain ⟨M_2, g_2, hf⟩ := b_some hf
  refine xx_pI hZ hE k_X5 4 (by decide) rfl rfl rfl tw_305 g_2 dX5_go_12 (fun H locs hE => ?_)
  refine lv_aload_n hx hb dX5_go_15 rfl (lv_at hl 0 rfl) ?_
  refine lv_iload_n hx hb dX5_go_16 rfl (lv_at hl 3 rfl) ?_
  obtain ⟨M_3, g_3, hf⟩ := b_some hf
  refine xx_pI hZ hE k_X5 3 (by decide) rfl rfl rfl tw_17 g_3 dX5_go_17 (fun H locs hE => ?_)
  refine lv_aload_n hx hb dX5_go_20 rfl (lv_at hl 0 rfl) ?_
  obtain ⟨x_4, g_4, hf⟩ := b_some hf
  refine xx_gR hZ hE k_X5 2 (by decide) rfl tw_345 g_4 dX5_go_21 ?_
  refine lv_iconst (v := 0) hx hb dX5_go_24 (by decide) ?_
  refine lv_iload_n hx hb dX5_go_25 rfl (lv_at hl 2 rfl) ?_
  obtain ⟨M_5, g_5, hf⟩ := b_some hf
  refine xx_sI hZ hE g_5 dX5_go_26 (fun H locs hE => ?_)
  refine lv_iconst (v := 0) hx hb dX5_go_27 (by decide) ?_
  refine lv_istore (lv' := [(6, .int (0 : Int32)), (0, .ref (ad o)), (1, .int a1), (2, .int a2), (3, .int a3), (4, .long a4)]) hx hb dX5_go_28 hl (by decide) rfl (fun ls hl => ?_)
  obtain ⟨k_64_13, ek_64_13, hf⟩ := lp_X5_go_30_k hf
  have o_64_13 : ∀ (M_13 : Mm) (H : Heap) (locs : List Loc) (ls : Array Slot), k_64_13 M_13 = some zr → En D cA ad s A M_13 H locs → lv_has ls 7 [(0, .ref (ad o)), (3, .int a3)] → W p l e rm_X5_go s m args below meth c H locs 0 0 Q (F0 m 64 ls []) := by
    intro M_13 H locs ls hf hE hl
    rw [ek_64_13] at hf
    refine lv_aload_n hx hb dX5_go_64 rfl (lv_at hl 0 rfl) ?_
    obtain ⟨x_14, g_14, hf⟩ := b_some hf
    refine xx_gR hZ hE k_X5 2 (by decide) rfl tw_345 g_14 dX5_go_65 ?_
    refine lv_iload_n hx hb dX5_go_68 rfl (lv_at hl 1 rfl) ?_
    obtain ⟨x_15, g_15, hf⟩ := b_some hf
    refine xx_aI hZ hE g_15 dX5_go_69 ?_
    exact hret _ _ _ _ _ _ (pr_1 hf) (pr_2 hf) rfl dX5_go_70 hE
  have L_12 : ∀ (n_30 : Nat) (w_12_6 : Int32) (M_12 : Mm) (H : Heap) (locs : List Loc) (ls : Array Slot), lp_X5_go_30 k_64_13 o a1 a3 n_30 w_12_6 M_12 = some zr → En D cA ad s A M_12 H locs → lv_has ls 7 [(0, .ref (ad o)), (1, .int a1), (3, .int a3), (6, .int w_12_6)] → W p l e rm_X5_go s m args below meth c H locs 0 0 Q (F0 m 30 ls []) := by
    intro n_30
    induction n_30 with
    | zero =>
      intro w_12_6 M_12 H locs ls hf
      cases (show (none : Option (Int32 × Mm)) = some zr from hf)
    | succ n_30 ih_30 =>
      intro w_12_6 M_12 H locs ls hf hE hl
      have hf := lp_X5_go_30_s _ _ _ _ hf
      refine lv_iload hx hb dX5_go_30 (lv_at hl 3 rfl) ?_
      refine lv_iload_n hx hb dX5_go_32 rfl (lv_at hl 2 rfl) ?_
      refine lv_icmp_ge (tgt := 64) hx hb dX5_go_33 (by decide) (fun h_16 => ?_) (fun h_16 => ?_)
      · have hf := it_y h_16 hf
        exact o_64_13 _ _ _ _ hf hE (lv_sub hl [0, 2] rfl)
      · have hf := it_n h_16 hf
        refine lv_aload_n hx hb dX5_go_36 rfl (lv_at hl 0 rfl) ?_
        obtain ⟨x_17, g_17, hf⟩ := b_some hf
        refine xx_gR hZ hE k_X5 2 (by decide) rfl tw_345 g_17 dX5_go_37 ?_
        refine lv_iload hx hb dX5_go_40 (lv_at hl 3 rfl) ?_
        refine lv_iconst (v := 1) hx hb dX5_go_42 (by decide) ?_
        refine lv_iadd hx hb dX5_go_43 ?_
        refine lv_aload_n hx hb dX5_go_44 rfl (lv_at hl 0 rfl) ?_
        refine lv_iload_n hx hb dX5_go_45 rfl (lv_at hl 1 rfl) ?_
        refine lv_aload_n hx hb dX5_go_46 rfl (lv_at hl 0 rfl) ?_
        obtain ⟨x_18, g_18, hf⟩ := b_some hf
        refine xx_gR hZ hE k_X5 2 (by decide) rfl tw_345 g_18 dX5_go_47 ?_
        refine lv_iload hx hb dX5_go_50 (lv_at hl 3 rfl) ?_
        obtain ⟨x_19, g_19, hf⟩ := b_some hf
        refine xx_aI hZ hE g_19 dX5_go_52 ?_
        refine lv_iconst (v := 0) hx hb dX5_go_53 (by decide) ?_
        obtain ⟨_, i_20, hf⟩ := b_some hf
        obtain ⟨z_20, c_20, hf⟩ := b_some hf
        refine xx_cVi hZ hE (As := [.int a1, .int x_19, .int (0 : Int32)]) (rest := [.int (w_12_6 + (1 : Int32)), .ref (ad x_17)]) k_X5 (is_m i_20) tw_343 tw_344 (c_X5_lead l D cA ad 4 o a1 x_19 (0 : Int32) M_12 _ c_20) cw_X5_lead tw_342 ⟨rfl, rfl⟩ ⟨Nat.le_of_ble_eq_true rfl, Nat.le_of_ble_eq_true rfl⟩ rfl hl.1 rfl (Nat.le_of_ble_eq_true rfl) ⟨Nat.le_of_ble_eq_true rfl, Nat.le_of_ble_eq_true rfl⟩ dX5_go_54 (fun H locs hE => ?_)
        obtain ⟨M_21, g_21, hf⟩ := b_some hf
        refine xx_sI hZ hE g_21 dX5_go_57 (fun H locs hE => ?_)
        refine lv_iinc (v := (w_12_6 + 1)) (lv' := [(6, .int (w_12_6 + 1)), (0, .ref (ad o)), (1, .int a1), (3, .int a3)]) hx hb dX5_go_58 hl (k := 3) rfl rfl (by decide) rfl (fun ls hl => ?_)
        refine lv_goto (tgt := 30) hx hb dX5_go_61 (by decide) ?_
        exact ih_30 _ _ _ _ _ hf hE (lv_sub hl [1, 2, 3, 0] rfl)
  exact L_12 _ _ _ _ _ _ hf hE (lv_sub hl [1, 2, 4, 0] rfl)
def rm_X6_run : Room := { frames := 57, cells := 0, slots := 0, locals := 2550 }
def f_X6_run (o : Nat) (a1 : Int32) (a2 : Int32) (a3 : Int32) (a4 : Int64) (M : Mm) : Option (Int32 × Mm) :=
    (op_is M o 6).bind fun _ =>
    (f_X6_hasModel o M).bind fun z_1 =>
    if z_1 = 0 then
    some ((-2 : Int32), M)
    else
    (op_is M o 6).bind fun _ =>
    (f_X6_isMove o a1 M).bind fun z_3 =>
    if z_3 = 0 then
    some ((-1 : Int32), M)
    else
    (op_gR M 6 o 0).bind fun x_5 =>
    (op_is M x_5 3).bind fun _ =>
    (f_X3_isState x_5 a2 M).bind fun z_6 =>
    if z_6 = 0 then
    some ((-1 : Int32), M)
    else
    if a3 < 0 then
    some ((-1 : Int32), M)
    else
    if a3 ≤ (200 : Int32) then
    (op_gR M 6 o 4).bind fun x_10 =>
    (op_is M x_10 5).bind fun _ =>
    (f_X5_go x_10 a1 a2 a3 a4 M).bind fun z_11 =>
    some (z_11.1, z_11.2)
    else
    some ((-1 : Int32), M)
set_option maxHeartbeats 4000000 in
set_option maxRecDepth 100000 in
theorem c_X6_run (l : Launch) (D : va_G) (cA : Nat → ClassId) (ad : Nat → Nat) (o : Nat) (a1 : Int32) (a2 : Int32) (a3 : Int32) (a4 : Int64) (M : Mm) (zr : Int32 × Mm) (hf : f_X6_run o a1 a2 a3 a4 M = some zr) : KI l yX6_run cX6_run 6 (some .int) rm_X6_run D cA ad [.ref (ad o), .int a1, .int a2, .int a3, .long a4] M zr.1 zr.2 := by
  refine KI_of (by decide) (Nat.le_of_ble_eq_true rfl) ?_
  intro p e s m args below meth c ls Q A H locs hZ hE hl hret
  have hx := hZ.1
  have hb := hZ.2.1
  have hown := hZ.2.2.2.1
  have hts := hZ.2.2.2.2.1
  have hl : lv_has ls 6 [(0, .ref (ad o)), (1, .int a1), (2, .int a2), (3, .int a3), (4, .long a4)] := hl
  unfold f_X6_run at hf
  refine lv_aload_n hx hb dX6_run_0 rfl (lv_at hl 0 rfl) ?_
  obtain ⟨_, i_1, hf⟩ := b_some hf
  obtain ⟨z_1, c_1, hf⟩ := b_some hf
  refine xx_cVi hZ hE (As := []) (rest := []) k_X6 (is_m i_1) tw_38 tw_39 (c_X6_hasModel l D cA ad o M _ c_1) cw_X6_hasModel tw_36 ⟨rfl, rfl⟩ ⟨Nat.le_of_ble_eq_true rfl, Nat.le_of_ble_eq_true rfl⟩ rfl hl.1 rfl (Nat.le_of_ble_eq_true rfl) ⟨Nat.le_of_ble_eq_true rfl, Nat.le_of_ble_eq_true rfl⟩ dX6_run_1 (fun H locs hE => ?_)
  refine lv_if_ne (tgt := 10) hx hb dX6_run_4 (by decide) (fun h_2 => ?_) (fun h_2 => ?_)
  · have hf := it_n h_2 hf
    refine lv_aload_n hx hb dX6_run_10 rfl (lv_at hl 0 rfl) ?_
    refine lv_iload_n hx hb dX6_run_11 rfl (lv_at hl 1 rfl) ?_
    obtain ⟨_, i_3, hf⟩ := b_some hf
    obtain ⟨z_3, c_3, hf⟩ := b_some hf
    refine xx_cVi hZ hE (As := [.int a1]) (rest := []) k_X6 (is_m i_3) tw_59 tw_60 (c_X6_isMove l D cA ad o a1 M _ c_3) cw_X6_isMove tw_58 ⟨rfl, rfl⟩ ⟨Nat.le_of_ble_eq_true rfl, Nat.le_of_ble_eq_true rfl⟩ rfl hl.1 rfl (Nat.le_of_ble_eq_true rfl) ⟨Nat.le_of_ble_eq_true rfl, Nat.le_of_ble_eq_true rfl⟩ dX6_run_12 (fun H locs hE => ?_)
    refine lv_if_eq (tgt := 40) hx hb dX6_run_15 (by decide) (fun h_4 => ?_) (fun h_4 => ?_)
    · have hf := it_y h_4 hf
      refine lv_iconst (v := -1) hx hb dX6_run_40 (by decide) ?_
      exact hret _ _ _ _ _ _ (pr_1 hf) (pr_2 hf) rfl dX6_run_41 hE
    · have hf := it_n h_4 hf
      refine lv_aload_n hx hb dX6_run_18 rfl (lv_at hl 0 rfl) ?_
      obtain ⟨x_5, g_5, hf⟩ := b_some hf
      refine xx_gR hZ hE k_X6 0 (by decide) rfl tw_20 g_5 dX6_run_19 ?_
      refine lv_iload_n hx hb dX6_run_22 rfl (lv_at hl 2 rfl) ?_
      obtain ⟨_, i_6, hf⟩ := b_some hf
      obtain ⟨z_6, c_6, hf⟩ := b_some hf
      refine xx_cVNi hZ hE (As := [.int a2]) (rest := []) k_X3 (is_m i_6) tw_41 tw_42 (c_X3_isState l D cA ad x_5 a2 M _ c_6) cw_X3_isState tw_40 ⟨rfl, rfl⟩ ⟨Nat.le_of_ble_eq_true rfl, Nat.le_of_ble_eq_true rfl⟩ rfl hl.1 rfl (Nat.le_of_ble_eq_true rfl) ⟨Nat.le_of_ble_eq_true rfl, Nat.le_of_ble_eq_true rfl⟩ dX6_run_23 (fun H locs hE => ?_)
      refine lv_if_eq (tgt := 40) hx hb dX6_run_26 (by decide) (fun h_7 => ?_) (fun h_7 => ?_)
      · have hf := it_y h_7 hf
        refine lv_iconst (v := -1) hx hb dX6_run_40 (by decide) ?_
        exact hret _ _ _ _ _ _ (pr_1 hf) (pr_2 hf) rfl dX6_run_41 hE
      · have hf := it_n h_7 hf
        refine lv_iload_n hx hb dX6_run_29 rfl (lv_at hl 3 rfl) ?_
        refine lv_if_lt (tgt := 40) hx hb dX6_run_30 (by decide) (fun h_8 => ?_) (fun h_8 => ?_)
        · have hf := it_y h_8 hf
          refine lv_iconst (v := -1) hx hb dX6_run_40 (by decide) ?_
          exact hret _ _ _ _ _ _ (pr_1 hf) (pr_2 hf) rfl dX6_run_41 hE
        · have hf := it_n h_8 hf
          refine lv_iload_n hx hb dX6_run_33 rfl (lv_at hl 3 rfl) ?_
          refine lv_sipush (v := 200) hx hb dX6_run_34 (by decide) ?_
          refine lv_icmp_le (tgt := 42) hx hb dX6_run_37 (by decide) (fun h_9 => ?_) (fun h_9 => ?_)
          · have hf := it_y h_9 hf
            refine lv_aload_n hx hb dX6_run_42 rfl (lv_at hl 0 rfl) ?_
            obtain ⟨x_10, g_10, hf⟩ := b_some hf
            refine xx_gR hZ hE k_X6 4 (by decide) rfl tw_30 g_10 dX6_run_43 ?_
            refine lv_iload_n hx hb dX6_run_46 rfl (lv_at hl 1 rfl) ?_
            refine lv_iload_n hx hb dX6_run_47 rfl (lv_at hl 2 rfl) ?_
            refine lv_iload_n hx hb dX6_run_48 rfl (lv_at hl 3 rfl) ?_
            refine lv_lload hx hb dX6_run_49 (lv_at hl 4 rfl) ?_
            obtain ⟨_, i_11, hf⟩ := b_some hf
            obtain ⟨z_11, c_11, hf⟩ := b_some hf
            refine xx_cVNi hZ hE (As := [.int a1, .int a2, .int a3, .long a4]) (rest := []) k_X5 (is_m i_11) tw_347 tw_348 (c_X5_go l D cA ad x_10 a1 a2 a3 a4 M _ c_11) cw_X5_go tw_346 ⟨rfl, rfl⟩ ⟨Nat.le_of_ble_eq_true rfl, Nat.le_of_ble_eq_true rfl⟩ rfl hl.1 rfl (Nat.le_of_ble_eq_true rfl) ⟨Nat.le_of_ble_eq_true rfl, Nat.le_of_ble_eq_true rfl⟩ dX6_run_51 (fun H locs hE => ?_)
            exact hret _ _ _ _ _ _ (pr_1 hf) (pr_2 hf) rfl dX6_run_54 hE
          · have hf := it_n h_9 hf
            refine lv_iconst (v := -1) hx hb dX6_run_40 (by decide) ?_
            exact hret _ _ _ _ _ _ (pr_1 hf) (pr_2 hf) rfl dX6_run_41 hE
  · have hf := it_y h_2 hf
    refine lv_bipush (v := -2) hx hb dX6_run_7 (by decide) ?_
    exact hret _ _ _ _ _ _ (pr_1 hf) (pr_2 hf) rfl dX6_run_9 hE
def rm_X5_isThere : Room := { frames := 0, cells := 0, slots := 0, locals := 0 }
def f_X5_isThere (o : Nat) (M : Mm) : Option (Int32) :=
    (op_gI M 5 o 3).bind fun x_1 =>
    if x_1 = (-1 : Int32) then
    some (0 : Int32)
    else
    some (1 : Int32)
set_option maxHeartbeats 4000000 in
set_option maxRecDepth 100000 in
theorem c_X5_isThere (l : Launch) (D : va_G) (cA : Nat → ClassId) (ad : Nat → Nat) (o : Nat) (M : Mm) (zr : Int32) (hf : f_X5_isThere o M = some zr) : KI l yX5_isThere cX5_isThere 1 (some .boolean) rm_X5_isThere D cA ad [.ref (ad o)] M zr M := by
  refine KI_of (by decide) (Nat.le_of_ble_eq_true rfl) ?_
  intro p e s m args below meth c ls Q A H locs hZ hE hl hret
  have hx := hZ.1
  have hb := hZ.2.1
  have hown := hZ.2.2.2.1
  have hts := hZ.2.2.2.2.1
  have hl : lv_has ls 1 [(0, .ref (ad o))] := hl
  unfold f_X5_isThere at hf
  refine lv_aload_n hx hb dX5_isThere_0 rfl (lv_at hl 0 rfl) ?_
  obtain ⟨x_1, g_1, hf⟩ := b_some hf
  refine xx_gI hZ hE k_X5 3 (by decide) rfl tw_17 g_1 dX5_isThere_1 ?_
  refine lv_iconst (v := -1) hx hb dX5_isThere_4 (by decide) ?_
  refine lv_icmp_eq (tgt := 12) hx hb dX5_isThere_5 (by decide) (fun h_2 => ?_) (fun h_2 => ?_)
  · have hf := it_y h_2 hf
    refine lv_iconst (v := 0) hx hb dX5_isThere_12 (by decide) ?_
    exact hret _ _ _ _ _ _ (Option.some.inj hf) rfl rfl dX5_isThere_13 hE
  · have hf := it_n h_2 hf
    refine lv_iconst (v := 1) hx hb dX5_isThere_8 (by decide) ?_
    refine lv_goto (tgt := 13) hx hb dX5_isThere_9 (by decide) ?_
    exact hret _ _ _ _ _ _ (Option.some.inj hf) rfl rfl dX5_isThere_13 hE
def rm_X6_trace : Room := { frames := 1, cells := 0, slots := 0, locals := 20 }
def f_X6_trace (o : Nat) (a1 : Int32) (M : Mm) : Option (Int32) :=
    (op_gR M 6 o 4).bind fun x_1 =>
    (op_is M x_1 5).bind fun _ =>
    (f_X5_isThere x_1 M).bind fun z_2 =>
    if z_2 = 0 then
    some (-2 : Int32)
    else
    if a1 < 0 then
    some (-1 : Int32)
    else
    (op_gR M 6 o 4).bind fun x_5 =>
    (op_gI M 5 x_5 3).bind fun x_6 =>
    if a1 ≤ x_6 then
    (op_gR M 6 o 4).bind fun x_8 =>
    (op_gR M 5 x_8 2).bind fun x_9 =>
    (op_aI M x_9 a1).bind fun x_10 =>
    some x_10
    else
    some (-1 : Int32)
set_option maxHeartbeats 4000000 in
set_option maxRecDepth 100000 in
theorem c_X6_trace (l : Launch) (D : va_G) (cA : Nat → ClassId) (ad : Nat → Nat) (o : Nat) (a1 : Int32) (M : Mm) (zr : Int32) (hf : f_X6_trace o a1 M = some zr) : KI l yX6_trace cX6_trace 2 (some .int) rm_X6_trace D cA ad [.ref (ad o), .int a1] M zr M := by
  refine KI_of (by decide) (Nat.le_of_ble_eq_true rfl) ?_
  intro p e s m args below meth c ls Q A H locs hZ hE hl hret
  have hx := hZ.1
  have hb := hZ.2.1
  have hown := hZ.2.2.2.1
  have hts := hZ.2.2.2.2.1
  have hl : lv_has ls 2 [(0, .ref (ad o)), (1, .int a1)] := hl
  unfold f_X6_trace at hf
  refine lv_aload_n hx hb dX6_trace_0 rfl (lv_at hl 0 rfl) ?_
  obtain ⟨x_1, g_1, hf⟩ := b_some hf
  refine xx_gR hZ hE k_X6 4 (by decide) rfl tw_30 g_1 dX6_trace_1 ?_
  obtain ⟨_, i_2, hf⟩ := b_some hf
  obtain ⟨z_2, c_2, hf⟩ := b_some hf
  refine xx_cVNi hZ hE (As := []) (rest := []) k_X5 (is_m i_2) tw_350 tw_351 (c_X5_isThere l D cA ad x_1 M _ c_2) cw_X5_isThere tw_349 ⟨rfl, rfl⟩ ⟨Nat.le_of_ble_eq_true rfl, Nat.le_of_ble_eq_true rfl⟩ rfl hl.1 rfl (Nat.le_of_ble_eq_true rfl) ⟨Nat.le_of_ble_eq_true rfl, Nat.le_of_ble_eq_true rfl⟩ dX6_trace_4 (fun H locs hE => ?_)
  refine lv_if_ne (tgt := 13) hx hb dX6_trace_7 (by decide) (fun h_3 => ?_) (fun h_3 => ?_)
  · have hf := it_n h_3 hf
    refine lv_iload_n hx hb dX6_trace_13 rfl (lv_at hl 1 rfl) ?_
    refine lv_if_lt (tgt := 28) hx hb dX6_trace_14 (by decide) (fun h_4 => ?_) (fun h_4 => ?_)
    · have hf := it_y h_4 hf
      refine lv_iconst (v := -1) hx hb dX6_trace_28 (by decide) ?_
      exact hret _ _ _ _ _ _ (Option.some.inj hf) rfl rfl dX6_trace_29 hE
    · have hf := it_n h_4 hf
      refine lv_iload_n hx hb dX6_trace_17 rfl (lv_at hl 1 rfl) ?_
      refine lv_aload_n hx hb dX6_trace_18 rfl (lv_at hl 0 rfl) ?_
      obtain ⟨x_5, g_5, hf⟩ := b_some hf
      refine xx_gR hZ hE k_X6 4 (by decide) rfl tw_30 g_5 dX6_trace_19 ?_
      obtain ⟨x_6, g_6, hf⟩ := b_some hf
      refine xx_gIN hZ hE k_X5 3 (by decide) rfl tw_352 g_6 dX6_trace_22 ?_
      refine lv_icmp_le (tgt := 30) hx hb dX6_trace_25 (by decide) (fun h_7 => ?_) (fun h_7 => ?_)
      · have hf := it_y h_7 hf
        refine lv_aload_n hx hb dX6_trace_30 rfl (lv_at hl 0 rfl) ?_
        obtain ⟨x_8, g_8, hf⟩ := b_some hf
        refine xx_gR hZ hE k_X6 4 (by decide) rfl tw_30 g_8 dX6_trace_31 ?_
        obtain ⟨x_9, g_9, hf⟩ := b_some hf
        refine xx_gRN hZ hE k_X5 2 (by decide) rfl tw_353 g_9 dX6_trace_34 ?_
        refine lv_iload_n hx hb dX6_trace_37 rfl (lv_at hl 1 rfl) ?_
        obtain ⟨x_10, g_10, hf⟩ := b_some hf
        refine xx_aI hZ hE g_10 dX6_trace_38 ?_
        exact hret _ _ _ _ _ _ (Option.some.inj hf) rfl rfl dX6_trace_39 hE
      · have hf := it_n h_7 hf
        refine lv_iconst (v := -1) hx hb dX6_trace_28 (by decide) ?_
        exact hret _ _ _ _ _ _ (Option.some.inj hf) rfl rfl dX6_trace_29 hE
  · have hf := it_y h_3 hf
    refine lv_bipush (v := -2) hx hb dX6_trace_10 (by decide) ?_
    exact hret _ _ _ _ _ _ (Option.some.inj hf) rfl rfl dX6_trace_12 hE
def lp_X5_timesIn_4 (i_0 : Nat) (i_1 : Int32) (M : Mm) : Nat → Int32 → Int32 → Option (Int32)
  | 0, _, _ => none
  | n_4 + 1, v_2, v_3 =>
    (op_gI M 5 i_0 3).bind fun x_1 =>
    if x_1 < v_3 then
    some v_2
    else
    (op_gR M 5 i_0 2).bind fun x_3 =>
    (op_aI M x_3 v_3).bind fun x_4 =>
    lp_X5_timesIn_4 i_0 i_1 M n_4 (v_2 + (if x_4 = i_1 then (1 : Int32) else (0 : Int32))) (v_3 + 1)
theorem lp_X5_timesIn_4_s (i_0 : Nat) (i_1 : Int32) (M : Mm) {n_4 : Nat} {v_2 : Int32} {v_3 : Int32} {zr : Int32} (hf : lp_X5_timesIn_4 i_0 i_1 M (n_4 + 1) v_2 v_3 = some zr) : (
    (op_gI M 5 i_0 3).bind fun x_1 =>
    if x_1 < v_3 then
    some v_2
    else
    (op_gR M 5 i_0 2).bind fun x_3 =>
    (op_aI M x_3 v_3).bind fun x_4 =>
    lp_X5_timesIn_4 i_0 i_1 M n_4 (v_2 + (if x_4 = i_1 then (1 : Int32) else (0 : Int32))) (v_3 + 1)) = some zr := hf
def rm_X5_timesIn : Room := { frames := 0, cells := 0, slots := 0, locals := 0 }
def f_X5_timesIn (o : Nat) (a1 : Int32) (M : Mm) : Option (Int32) :=
    lp_X5_timesIn_4  o a1 M FU (0 : Int32) (0 : Int32)
set_option maxHeartbeats 4000000 in
set_option maxRecDepth 100000 in
theorem c_X5_timesIn (l : Launch) (D : va_G) (cA : Nat → ClassId) (ad : Nat → Nat) (o : Nat) (a1 : Int32) (M : Mm) (zr : Int32) (hf : f_X5_timesIn o a1 M = some zr) : KI l yX5_timesIn cX5_timesIn 4 (some .int) rm_X5_timesIn D cA ad [.ref (ad o), .int a1] M zr M := by
  refine KI_of (by decide) (Nat.le_of_ble_eq_true rfl) ?_
  intro p e s m args below meth c ls Q A H locs hZ hE hl hret
  have hx := hZ.1
  have hb := hZ.2.1
  have hown := hZ.2.2.2.1
  have hts := hZ.2.2.2.2.1
  have hl : lv_has ls 4 [(0, .ref (ad o)), (1, .int a1)] := hl
  unfold f_X5_timesIn at hf
  refine lv_iconst (v := 0) hx hb dX5_timesIn_0 (by decide) ?_
  refine lv_istore_n (lv' := [(2, .int (0 : Int32)), (0, .ref (ad o)), (1, .int a1)]) hx hb dX5_timesIn_1 rfl hl (by decide) rfl (fun ls hl => ?_)
  refine lv_iconst (v := 0) hx hb dX5_timesIn_2 (by decide) ?_
  refine lv_istore_n (lv' := [(3, .int (0 : Int32)), (2, .int (0 : Int32)), (0, .ref (ad o)), (1, .int a1)]) hx hb dX5_timesIn_3 rfl hl (by decide) rfl (fun ls hl => ?_)
  have L_7 : ∀ (n_4 : Nat) (w_7_2 : Int32) (w_7_3 : Int32) (H : Heap) (locs : List Loc) (ls : Array Slot), lp_X5_timesIn_4 o a1 M n_4 w_7_2 w_7_3 = some zr → En D cA ad s A M H locs → lv_has ls 4 [(0, .ref (ad o)), (1, .int a1), (2, .int w_7_2), (3, .int w_7_3)] → W p l e rm_X5_timesIn s m args below meth c H locs 0 0 Q (F0 m 4 ls []) := by
    intro n_4
    induction n_4 with
    | zero =>
      intro w_7_2 w_7_3 H locs ls hf
      cases (show (none : Option (Int32)) = some zr from hf)
    | succ n_4 ih_4 =>
      intro w_7_2 w_7_3 H locs ls hf hE hl
      have hf := lp_X5_timesIn_4_s _ _ _ hf
      refine lv_iload_n hx hb dX5_timesIn_4 rfl (lv_at hl 3 rfl) ?_
      refine lv_aload_n hx hb dX5_timesIn_5 rfl (lv_at hl 0 rfl) ?_
      obtain ⟨x_8, g_8, hf⟩ := b_some hf
      refine xx_gI hZ hE k_X5 3 (by decide) rfl tw_17 g_8 dX5_timesIn_6 ?_
      refine lv_icmp_gt (tgt := 36) hx hb dX5_timesIn_9 (by decide) (fun h_9 => ?_) (fun h_9 => ?_)
      · have hf := it_y h_9 hf
        refine lv_iload_n hx hb dX5_timesIn_36 rfl (lv_at hl 2 rfl) ?_
        exact hret _ _ _ _ _ _ (Option.some.inj hf) rfl rfl dX5_timesIn_37 hE
      · have hf := it_n h_9 hf
        refine lv_iload_n hx hb dX5_timesIn_12 rfl (lv_at hl 2 rfl) ?_
        refine lv_aload_n hx hb dX5_timesIn_13 rfl (lv_at hl 0 rfl) ?_
        obtain ⟨x_10, g_10, hf⟩ := b_some hf
        refine xx_gR hZ hE k_X5 2 (by decide) rfl tw_345 g_10 dX5_timesIn_14 ?_
        refine lv_iload_n hx hb dX5_timesIn_17 rfl (lv_at hl 3 rfl) ?_
        obtain ⟨x_11, g_11, hf⟩ := b_some hf
        refine xx_aI hZ hE g_11 dX5_timesIn_18 ?_
        refine lv_iload_n hx hb dX5_timesIn_19 rfl (lv_at hl 1 rfl) ?_
        have q_12 : ∀ x_12 : Int32, x_12 = (if x_11 = a1 then (1 : Int32) else (0 : Int32)) → W p l e rm_X5_timesIn s m args below meth c H locs 0 0 Q (F0 m 28 ls [.int x_12, .int w_7_2]) := by
          intro x_12 e_12
          subst e_12
          refine lv_iadd hx hb dX5_timesIn_28 ?_
          refine lv_istore_n (lv' := [(2, .int (w_7_2 + (if x_11 = a1 then (1 : Int32) else (0 : Int32)))), (0, .ref (ad o)), (1, .int a1), (3, .int w_7_3)]) hx hb dX5_timesIn_29 rfl hl (by decide) rfl (fun ls hl => ?_)
          refine lv_iinc (v := (w_7_3 + 1)) (lv' := [(3, .int (w_7_3 + 1)), (2, .int (w_7_2 + (if x_11 = a1 then (1 : Int32) else (0 : Int32)))), (0, .ref (ad o)), (1, .int a1)]) hx hb dX5_timesIn_30 hl (k := 3) rfl rfl (by decide) rfl (fun ls hl => ?_)
          refine lv_goto (tgt := 4) hx hb dX5_timesIn_33 (by decide) ?_
          exact ih_4 _ _ _ _ _ hf hE (lv_sub hl [2, 3, 1, 0] rfl)
        refine lv_icmp_ne (tgt := 27) hx hb dX5_timesIn_20 (by decide) (fun h_13 => ?_) (fun h_13 => ?_)
        · refine lv_iconst (v := 0) hx hb dX5_timesIn_27 (by decide) ?_
          exact q_12 _ (by rw [if_neg h_13])
        · refine lv_iconst (v := 1) hx hb dX5_timesIn_23 (by decide) ?_
          refine lv_goto (tgt := 28) hx hb dX5_timesIn_24 (by decide) ?_
          exact q_12 _ (by rw [if_pos h_13])
  exact L_7 _ _ _ _ _ _ hf hE (lv_sub hl [2, 3, 1, 0] rfl)
def rm_X6_visits : Room := { frames := 1, cells := 0, slots := 0, locals := 23 }
def f_X6_visits (o : Nat) (a1 : Int32) (M : Mm) : Option (Int32) :=
    (op_gR M 6 o 4).bind fun x_1 =>
    (op_is M x_1 5).bind fun _ =>
    (f_X5_isThere x_1 M).bind fun z_2 =>
    if z_2 = 0 then
    some (-2 : Int32)
    else
    (op_gR M 6 o 0).bind fun x_4 =>
    (op_is M x_4 3).bind fun _ =>
    (f_X3_isState x_4 a1 M).bind fun z_5 =>
    if z_5 = 0 then
    some (-1 : Int32)
    else
    (op_gR M 6 o 4).bind fun x_7 =>
    (op_is M x_7 5).bind fun _ =>
    (f_X5_timesIn x_7 a1 M).bind fun z_8 =>
    some z_8
set_option maxHeartbeats 4000000 in
set_option maxRecDepth 100000 in
theorem c_X6_visits (l : Launch) (D : va_G) (cA : Nat → ClassId) (ad : Nat → Nat) (o : Nat) (a1 : Int32) (M : Mm) (zr : Int32) (hf : f_X6_visits o a1 M = some zr) : KI l yX6_visits cX6_visits 2 (some .int) rm_X6_visits D cA ad [.ref (ad o), .int a1] M zr M := by
  refine KI_of (by decide) (Nat.le_of_ble_eq_true rfl) ?_
  intro p e s m args below meth c ls Q A H locs hZ hE hl hret
  have hx := hZ.1
  have hb := hZ.2.1
  have hown := hZ.2.2.2.1
  have hts := hZ.2.2.2.2.1
  have hl : lv_has ls 2 [(0, .ref (ad o)), (1, .int a1)] := hl
  unfold f_X6_visits at hf
  refine lv_aload_n hx hb dX6_visits_0 rfl (lv_at hl 0 rfl) ?_
  obtain ⟨x_1, g_1, hf⟩ := b_some hf
  refine xx_gR hZ hE k_X6 4 (by decide) rfl tw_30 g_1 dX6_visits_1 ?_
  obtain ⟨_, i_2, hf⟩ := b_some hf
  obtain ⟨z_2, c_2, hf⟩ := b_some hf
  refine xx_cVNi hZ hE (As := []) (rest := []) k_X5 (is_m i_2) tw_350 tw_351 (c_X5_isThere l D cA ad x_1 M _ c_2) cw_X5_isThere tw_349 ⟨rfl, rfl⟩ ⟨Nat.le_of_ble_eq_true rfl, Nat.le_of_ble_eq_true rfl⟩ rfl hl.1 rfl (Nat.le_of_ble_eq_true rfl) ⟨Nat.le_of_ble_eq_true rfl, Nat.le_of_ble_eq_true rfl⟩ dX6_visits_4 (fun H locs hE => ?_)
  refine lv_if_ne (tgt := 13) hx hb dX6_visits_7 (by decide) (fun h_3 => ?_) (fun h_3 => ?_)
  · have hf := it_n h_3 hf
    refine lv_aload_n hx hb dX6_visits_13 rfl (lv_at hl 0 rfl) ?_
    obtain ⟨x_4, g_4, hf⟩ := b_some hf
    refine xx_gR hZ hE k_X6 0 (by decide) rfl tw_20 g_4 dX6_visits_14 ?_
    refine lv_iload_n hx hb dX6_visits_17 rfl (lv_at hl 1 rfl) ?_
    obtain ⟨_, i_5, hf⟩ := b_some hf
    obtain ⟨z_5, c_5, hf⟩ := b_some hf
    refine xx_cVNi hZ hE (As := [.int a1]) (rest := []) k_X3 (is_m i_5) tw_41 tw_42 (c_X3_isState l D cA ad x_4 a1 M _ c_5) cw_X3_isState tw_40 ⟨rfl, rfl⟩ ⟨Nat.le_of_ble_eq_true rfl, Nat.le_of_ble_eq_true rfl⟩ rfl hl.1 rfl (Nat.le_of_ble_eq_true rfl) ⟨Nat.le_of_ble_eq_true rfl, Nat.le_of_ble_eq_true rfl⟩ dX6_visits_18 (fun H locs hE => ?_)
    refine lv_if_ne (tgt := 26) hx hb dX6_visits_21 (by decide) (fun h_6 => ?_) (fun h_6 => ?_)
    · have hf := it_n h_6 hf
      refine lv_aload_n hx hb dX6_visits_26 rfl (lv_at hl 0 rfl) ?_
      obtain ⟨x_7, g_7, hf⟩ := b_some hf
      refine xx_gR hZ hE k_X6 4 (by decide) rfl tw_30 g_7 dX6_visits_27 ?_
      refine lv_iload_n hx hb dX6_visits_30 rfl (lv_at hl 1 rfl) ?_
      obtain ⟨_, i_8, hf⟩ := b_some hf
      obtain ⟨z_8, c_8, hf⟩ := b_some hf
      refine xx_cVNi hZ hE (As := [.int a1]) (rest := []) k_X5 (is_m i_8) tw_355 tw_356 (c_X5_timesIn l D cA ad x_7 a1 M _ c_8) cw_X5_timesIn tw_354 ⟨rfl, rfl⟩ ⟨Nat.le_of_ble_eq_true rfl, Nat.le_of_ble_eq_true rfl⟩ rfl hl.1 rfl (Nat.le_of_ble_eq_true rfl) ⟨Nat.le_of_ble_eq_true rfl, Nat.le_of_ble_eq_true rfl⟩ dX6_visits_31 (fun H locs hE => ?_)
      exact hret _ _ _ _ _ _ (Option.some.inj hf) rfl rfl dX6_visits_34 hE
    · have hf := it_y h_6 hf
      refine lv_iconst (v := -1) hx hb dX6_visits_24 (by decide) ?_
      exact hret _ _ _ _ _ _ (Option.some.inj hf) rfl rfl dX6_visits_25 hE
  · have hf := it_y h_3 hf
    refine lv_bipush (v := -2) hx hb dX6_visits_10 (by decide) ?_
    exact hret _ _ _ _ _ _ (Option.some.inj hf) rfl rfl dX6_visits_12 hE
def rm_X6_refused : Room := { frames := 1, cells := 0, slots := 0, locals := 20 }
def f_X6_refused (o : Nat) (M : Mm) : Option (Int32) :=
    (op_gR M 6 o 4).bind fun x_1 =>
    (op_is M x_1 5).bind fun _ =>
    (f_X5_isThere x_1 M).bind fun z_2 =>
    if z_2 = 0 then
    some (-2 : Int32)
    else
    (op_gR M 6 o 4).bind fun x_4 =>
    (op_gI M 5 x_4 4).bind fun x_5 =>
    some x_5
set_option maxHeartbeats 4000000 in
set_option maxRecDepth 100000 in
theorem c_X6_refused (l : Launch) (D : va_G) (cA : Nat → ClassId) (ad : Nat → Nat) (o : Nat) (M : Mm) (zr : Int32) (hf : f_X6_refused o M = some zr) : KI l yX6_refused cX6_refused 1 (some .int) rm_X6_refused D cA ad [.ref (ad o)] M zr M := by
  refine KI_of (by decide) (Nat.le_of_ble_eq_true rfl) ?_
  intro p e s m args below meth c ls Q A H locs hZ hE hl hret
  have hx := hZ.1
  have hb := hZ.2.1
  have hown := hZ.2.2.2.1
  have hts := hZ.2.2.2.2.1
  have hl : lv_has ls 1 [(0, .ref (ad o))] := hl
  unfold f_X6_refused at hf
  refine lv_aload_n hx hb dX6_refused_0 rfl (lv_at hl 0 rfl) ?_
  obtain ⟨x_1, g_1, hf⟩ := b_some hf
  refine xx_gR hZ hE k_X6 4 (by decide) rfl tw_30 g_1 dX6_refused_1 ?_
  obtain ⟨_, i_2, hf⟩ := b_some hf
  obtain ⟨z_2, c_2, hf⟩ := b_some hf
  refine xx_cVNi hZ hE (As := []) (rest := []) k_X5 (is_m i_2) tw_350 tw_351 (c_X5_isThere l D cA ad x_1 M _ c_2) cw_X5_isThere tw_349 ⟨rfl, rfl⟩ ⟨Nat.le_of_ble_eq_true rfl, Nat.le_of_ble_eq_true rfl⟩ rfl hl.1 rfl (Nat.le_of_ble_eq_true rfl) ⟨Nat.le_of_ble_eq_true rfl, Nat.le_of_ble_eq_true rfl⟩ dX6_refused_4 (fun H locs hE => ?_)
  refine lv_if_eq (tgt := 20) hx hb dX6_refused_7 (by decide) (fun h_3 => ?_) (fun h_3 => ?_)
  · have hf := it_y h_3 hf
    refine lv_bipush (v := -2) hx hb dX6_refused_20 (by decide) ?_
    exact hret _ _ _ _ _ _ (Option.some.inj hf) rfl rfl dX6_refused_22 hE
  · have hf := it_n h_3 hf
    refine lv_aload_n hx hb dX6_refused_10 rfl (lv_at hl 0 rfl) ?_
    obtain ⟨x_4, g_4, hf⟩ := b_some hf
    refine xx_gR hZ hE k_X6 4 (by decide) rfl tw_30 g_4 dX6_refused_11 ?_
    obtain ⟨x_5, g_5, hf⟩ := b_some hf
    refine xx_gIN hZ hE k_X5 4 (by decide) rfl tw_357 g_5 dX6_refused_14 ?_
    refine lv_goto (tgt := 22) hx hb dX6_refused_17 (by decide) ?_
    exact hret _ _ _ _ _ _ (Option.some.inj hf) rfl rfl dX6_refused_22 hE
