def rm_X3_isSize : Room := { frames := 0, cells := 0, slots := 0, locals := 0 }
def f_X3_isSize (a1 : Int32) : Option (Int32) :=
    if a1 = 0 then
    some (1 : Int32)
    else
    if a1 < (2 : Int32) then
    some (0 : Int32)
    else
    if (6 : Int32) < a1 then
    some (0 : Int32)
    else
    some (1 : Int32)
set_option maxHeartbeats 4000000 in
set_option maxRecDepth 100000 in
theorem c_X3_isSize (l : Launch) (D : va_G) (cA : Nat → ClassId) (ad : Nat → Nat) (a1 : Int32) (M : Mm) (zr : Int32) (hf : f_X3_isSize a1 = some zr) : KI l yX3_isSize cX3_isSize 1 (some .boolean) rm_X3_isSize D cA ad [.int a1] M zr M := by
  refine KI_of (by decide) (Nat.le_of_ble_eq_true rfl) ?_
  intro p e s m args below meth c ls Q A H locs hZ hE hl hret
  have hx := hZ.1
  have hb := hZ.2.1
  have hown := hZ.2.2.2.1
  have hts := hZ.2.2.2.2.1
  have hl : lv_has ls 1 [(0, .int a1)] := hl
  unfold f_X3_isSize at hf
  refine lv_iload_n hx hb dX3_isSize_0 rfl (lv_at hl 0 rfl) ?_
  refine lv_if_eq (tgt := 15) hx hb dX3_isSize_1 (by decide) (fun h_1 => ?_) (fun h_1 => ?_)
  · have hf := it_y h_1 hf
    refine lv_iconst (v := 1) hx hb dX3_isSize_15 (by decide) ?_
    refine lv_goto (tgt := 20) hx hb dX3_isSize_16 (by decide) ?_
    exact hret _ _ _ _ _ _ (Option.some.inj hf) rfl rfl dX3_isSize_20 hE
  · have hf := it_n h_1 hf
    refine lv_iload_n hx hb dX3_isSize_4 rfl (lv_at hl 0 rfl) ?_
    refine lv_iconst (v := 2) hx hb dX3_isSize_5 (by decide) ?_
    refine lv_icmp_lt (tgt := 19) hx hb dX3_isSize_6 (by decide) (fun h_2 => ?_) (fun h_2 => ?_)
    · have hf := it_y h_2 hf
      refine lv_iconst (v := 0) hx hb dX3_isSize_19 (by decide) ?_
      exact hret _ _ _ _ _ _ (Option.some.inj hf) rfl rfl dX3_isSize_20 hE
    · have hf := it_n h_2 hf
      refine lv_iload_n hx hb dX3_isSize_9 rfl (lv_at hl 0 rfl) ?_
      refine lv_bipush (v := 6) hx hb dX3_isSize_10 (by decide) ?_
      refine lv_icmp_gt (tgt := 19) hx hb dX3_isSize_12 (by decide) (fun h_3 => ?_) (fun h_3 => ?_)
      · have hf := it_y h_3 hf
        refine lv_iconst (v := 0) hx hb dX3_isSize_19 (by decide) ?_
        exact hret _ _ _ _ _ _ (Option.some.inj hf) rfl rfl dX3_isSize_20 hE
      · have hf := it_n h_3 hf
        refine lv_iconst (v := 1) hx hb dX3_isSize_15 (by decide) ?_
        refine lv_goto (tgt := 20) hx hb dX3_isSize_16 (by decide) ?_
        exact hret _ _ _ _ _ _ (Option.some.inj hf) rfl rfl dX3_isSize_20 hE
def rm_X3_canBe : Room := { frames := 1, cells := 0, slots := 0, locals := 21 }
def f_X3_canBe (a1 : Int32) (a2 : Int32) (a3 : Int32) (a4 : Int32) : Option (Int32) :=
    op_jn (fun (x_1_0 : Int32) =>
    if x_1_0 = 0 then
    some (0 : Int32)
    else
    if (if a2 = 0 then (if a3 = 0 then (if a3 = 0 then (if a4 = 0 then (1 : Int32) else (0 : Int32)) else (1 : Int32)) else (0 : Int32)) else (if a3 = 0 then (if a4 = 0 then (1 : Int32) else (0 : Int32)) else (1 : Int32))) = 0 then
    some (0 : Int32)
    else
    if (16 : Int32) < (((a1 * (if a2 < (1 : Int32) then (1 : Int32) else a2)) * (if a3 < (1 : Int32) then (1 : Int32) else a3)) * (if a4 < (1 : Int32) then (1 : Int32) else a4)) then
    some (0 : Int32)
    else
    some (1 : Int32))
    fun j_1 =>
    if a1 = 0 then
    j_1 (0 : Int32)
    else
    (f_X3_isSize a1).bind fun z_3 =>
    if z_3 = 0 then
    j_1 (0 : Int32)
    else
    (f_X3_isSize a2).bind fun z_5 =>
    if z_5 = 0 then
    j_1 (0 : Int32)
    else
    (f_X3_isSize a3).bind fun z_7 =>
    if z_7 = 0 then
    j_1 (0 : Int32)
    else
    (f_X3_isSize a4).bind fun z_9 =>
    if z_9 = 0 then
    j_1 (0 : Int32)
    else
    j_1 (1 : Int32)
set_option maxHeartbeats 4000000 in
set_option maxRecDepth 100000 in
theorem c_X3_canBe (l : Launch) (D : va_G) (cA : Nat → ClassId) (ad : Nat → Nat) (a1 : Int32) (a2 : Int32) (a3 : Int32) (a4 : Int32) (M : Mm) (zr : Int32) (hf : f_X3_canBe a1 a2 a3 a4 = some zr) : KI l yX3_canBe cX3_canBe 6 (some .boolean) rm_X3_canBe D cA ad [.int a1, .int a2, .int a3, .int a4] M zr M := by
  refine KI_of (by decide) (Nat.le_of_ble_eq_true rfl) ?_
  intro p e s m args below meth c ls Q A H locs hZ hE hl hret
  have hx := hZ.1
  have hb := hZ.2.1
  have hown := hZ.2.2.2.1
  have hts := hZ.2.2.2.2.1
  have hl : lv_has ls 6 [(0, .int a1), (1, .int a2), (2, .int a3), (3, .int a4)] := hl
  unfold f_X3_canBe at hf
  refine lv_iload_n hx hb dX3_canBe_0 rfl (lv_at hl 0 rfl) ?_
  obtain ⟨j_1, ej_1, hf⟩ := jn_e hf
  have q_1 : ∀ (x_1_0 : Int32) (H : Heap) (locs : List Loc) (ls : Array Slot), j_1 x_1_0 = some zr → En D cA ad s A M H locs → lv_has ls 6 [(0, .int a1), (1, .int a2), (2, .int a3), (3, .int a4)] → W p l e rm_X3_canBe s m args below meth c H locs 0 0 Q (F0 m 37 ls [.int x_1_0]) := by
    intro x_1_0 H locs ls hf hE hl
    rw [ej_1] at hf
    refine lv_istore (lv' := [(4, .int x_1_0), (0, .int a1), (1, .int a2), (2, .int a3), (3, .int a4)]) hx hb dX3_canBe_37 hl (by decide) rfl (fun ls hl => ?_)
    refine lv_iload_n hx hb dX3_canBe_39 rfl (lv_at hl 2 rfl) ?_
    have q_11 : ∀ x_11 : Int32, x_11 = (if a2 = 0 then (if a3 = 0 then (if a3 = 0 then (if a4 = 0 then (1 : Int32) else (0 : Int32)) else (1 : Int32)) else (0 : Int32)) else (if a3 = 0 then (if a4 = 0 then (1 : Int32) else (0 : Int32)) else (1 : Int32))) → W p l e rm_X3_canBe s m args below meth c H locs 0 0 Q (F0 m 60 ls [.int x_11]) := by
      intro x_11 e_11
      subst e_11
      refine lv_istore (lv' := [(5, .int (if a2 = 0 then (if a3 = 0 then (if a3 = 0 then (if a4 = 0 then (1 : Int32) else (0 : Int32)) else (1 : Int32)) else (0 : Int32)) else (if a3 = 0 then (if a4 = 0 then (1 : Int32) else (0 : Int32)) else (1 : Int32)))), (4, .int x_1_0), (0, .int a1), (1, .int a2), (2, .int a3), (3, .int a4)]) hx hb dX3_canBe_60 hl (by decide) rfl (fun ls hl => ?_)
      refine lv_iload hx hb dX3_canBe_62 (lv_at hl 1 rfl) ?_
      refine lv_if_eq (tgt := 100) hx hb dX3_canBe_64 (by decide) (fun h_12 => ?_) (fun h_12 => ?_)
      · have hf := it_y h_12 hf
        refine lv_iconst (v := 0) hx hb dX3_canBe_100 (by decide) ?_
        exact hret _ _ _ _ _ _ (Option.some.inj hf) rfl rfl dX3_canBe_101 hE
      · have hf := it_n h_12 hf
        refine lv_iload hx hb dX3_canBe_67 (lv_at hl 0 rfl) ?_
        refine lv_if_eq (tgt := 100) hx hb dX3_canBe_69 (by decide) (fun h_13 => ?_) (fun h_13 => ?_)
        · have hf := it_y h_13 hf
          refine lv_iconst (v := 0) hx hb dX3_canBe_100 (by decide) ?_
          exact hret _ _ _ _ _ _ (Option.some.inj hf) rfl rfl dX3_canBe_101 hE
        · have hf := it_n h_13 hf
          refine lv_iload_n hx hb dX3_canBe_72 rfl (lv_at hl 2 rfl) ?_
          refine lv_iload_n hx hb dX3_canBe_73 rfl (lv_at hl 3 rfl) ?_
          refine lv_iconst (v := 1) hx hb dX3_canBe_74 (by decide) ?_
          refine va_mmax hx hb (hZ.2.2.1.trans hl.1.symm) hown (hts _ tw_3) (hts _ tw_4) (hts _ tw_5) (hts _ tw_6) (Nat.le_of_ble_eq_true rfl) (Nat.le_of_ble_eq_true rfl) (Nat.le_of_ble_eq_true rfl) (Nat.le_of_ble_eq_true rfl) dX3_canBe_75 ?_
          refine lv_imul hx hb dX3_canBe_78 ?_
          refine lv_iload_n hx hb dX3_canBe_79 rfl (lv_at hl 4 rfl) ?_
          refine lv_iconst (v := 1) hx hb dX3_canBe_80 (by decide) ?_
          refine va_mmax hx hb (hZ.2.2.1.trans hl.1.symm) hown (hts _ tw_3) (hts _ tw_4) (hts _ tw_5) (hts _ tw_6) (Nat.le_of_ble_eq_true rfl) (Nat.le_of_ble_eq_true rfl) (Nat.le_of_ble_eq_true rfl) (Nat.le_of_ble_eq_true rfl) dX3_canBe_81 ?_
          refine lv_imul hx hb dX3_canBe_84 ?_
          refine lv_iload_n hx hb dX3_canBe_85 rfl (lv_at hl 5 rfl) ?_
          refine lv_iconst (v := 1) hx hb dX3_canBe_86 (by decide) ?_
          refine va_mmax hx hb (hZ.2.2.1.trans hl.1.symm) hown (hts _ tw_3) (hts _ tw_4) (hts _ tw_5) (hts _ tw_6) (Nat.le_of_ble_eq_true rfl) (Nat.le_of_ble_eq_true rfl) (Nat.le_of_ble_eq_true rfl) (Nat.le_of_ble_eq_true rfl) dX3_canBe_87 ?_
          refine lv_imul hx hb dX3_canBe_90 ?_
          refine lv_bipush (v := 16) hx hb dX3_canBe_91 (by decide) ?_
          refine lv_icmp_gt (tgt := 100) hx hb dX3_canBe_93 (by decide) (fun h_14 => ?_) (fun h_14 => ?_)
          · have hf := it_y h_14 hf
            refine lv_iconst (v := 0) hx hb dX3_canBe_100 (by decide) ?_
            exact hret _ _ _ _ _ _ (Option.some.inj hf) rfl rfl dX3_canBe_101 hE
          · have hf := it_n h_14 hf
            refine lv_iconst (v := 1) hx hb dX3_canBe_96 (by decide) ?_
            refine lv_goto (tgt := 101) hx hb dX3_canBe_97 (by decide) ?_
            exact hret _ _ _ _ _ _ (Option.some.inj hf) rfl rfl dX3_canBe_101 hE
    refine lv_if_ne (tgt := 47) hx hb dX3_canBe_40 (by decide) (fun h_15 => ?_) (fun h_15 => ?_)
    · refine lv_iload_n hx hb dX3_canBe_47 rfl (lv_at hl 3 rfl) ?_
      refine lv_if_ne (tgt := 55) hx hb dX3_canBe_48 (by decide) (fun h_16 => ?_) (fun h_16 => ?_)
      · refine lv_iconst (v := 1) hx hb dX3_canBe_55 (by decide) ?_
        refine lv_goto (tgt := 60) hx hb dX3_canBe_56 (by decide) ?_
        exact q_11 _ (by rw [if_neg h_15, if_neg h_16])
      · refine lv_iload_n hx hb dX3_canBe_51 rfl (lv_at hl 4 rfl) ?_
        refine lv_if_ne (tgt := 59) hx hb dX3_canBe_52 (by decide) (fun h_17 => ?_) (fun h_17 => ?_)
        · refine lv_iconst (v := 0) hx hb dX3_canBe_59 (by decide) ?_
          exact q_11 _ (by rw [if_neg h_15, if_pos h_16, if_neg h_17])
        · refine lv_iconst (v := 1) hx hb dX3_canBe_55 (by decide) ?_
          refine lv_goto (tgt := 60) hx hb dX3_canBe_56 (by decide) ?_
          exact q_11 _ (by rw [if_neg h_15, if_pos h_16, if_pos h_17])
    · refine lv_iload_n hx hb dX3_canBe_43 rfl (lv_at hl 3 rfl) ?_
      refine lv_if_ne (tgt := 59) hx hb dX3_canBe_44 (by decide) (fun h_18 => ?_) (fun h_18 => ?_)
      · refine lv_iconst (v := 0) hx hb dX3_canBe_59 (by decide) ?_
        exact q_11 _ (by rw [if_pos h_15, if_neg h_18])
      · refine lv_iload_n hx hb dX3_canBe_47 rfl (lv_at hl 3 rfl) ?_
        refine lv_if_ne (tgt := 55) hx hb dX3_canBe_48 (by decide) (fun h_19 => ?_) (fun h_19 => ?_)
        · refine lv_iconst (v := 1) hx hb dX3_canBe_55 (by decide) ?_
          refine lv_goto (tgt := 60) hx hb dX3_canBe_56 (by decide) ?_
          exact q_11 _ (by rw [if_pos h_15, if_pos h_18, if_neg h_19])
        · refine lv_iload_n hx hb dX3_canBe_51 rfl (lv_at hl 4 rfl) ?_
          refine lv_if_ne (tgt := 59) hx hb dX3_canBe_52 (by decide) (fun h_20 => ?_) (fun h_20 => ?_)
          · refine lv_iconst (v := 0) hx hb dX3_canBe_59 (by decide) ?_
            exact q_11 _ (by rw [if_pos h_15, if_pos h_18, if_pos h_19, if_neg h_20])
          · refine lv_iconst (v := 1) hx hb dX3_canBe_55 (by decide) ?_
            refine lv_goto (tgt := 60) hx hb dX3_canBe_56 (by decide) ?_
            exact q_11 _ (by rw [if_pos h_15, if_pos h_18, if_pos h_19, if_pos h_20])
  refine lv_if_eq (tgt := 36) hx hb dX3_canBe_1 (by decide) (fun h_2 => ?_) (fun h_2 => ?_)
  · have hf := it_y h_2 hf
    refine lv_iconst (v := 0) hx hb dX3_canBe_36 (by decide) ?_
    exact q_1 _ _ _ _ hf hE (lv_sub hl [0, 1, 2, 3] rfl)
  · have hf := it_n h_2 hf
    refine lv_iload_n hx hb dX3_canBe_4 rfl (lv_at hl 0 rfl) ?_
    obtain ⟨z_3, c_3, hf⟩ := b_some hf
    refine xx_cSi hZ hE (As := [.int a1]) (rest := []) tw_2 (c_X3_isSize l D cA ad a1 M _ c_3) cw_X3_isSize tw_0 ⟨rfl, rfl⟩ ⟨Nat.le_of_ble_eq_true rfl, Nat.le_of_ble_eq_true rfl⟩ rfl hl.1 rfl (Nat.le_of_ble_eq_true rfl) ⟨Nat.le_of_ble_eq_true rfl, Nat.le_of_ble_eq_true rfl⟩ dX3_canBe_5 (fun H locs hE => ?_)
    refine lv_if_eq (tgt := 36) hx hb dX3_canBe_8 (by decide) (fun h_4 => ?_) (fun h_4 => ?_)
    · have hf := it_y h_4 hf
      refine lv_iconst (v := 0) hx hb dX3_canBe_36 (by decide) ?_
      exact q_1 _ _ _ _ hf hE (lv_sub hl [0, 1, 2, 3] rfl)
    · have hf := it_n h_4 hf
      refine lv_iload_n hx hb dX3_canBe_11 rfl (lv_at hl 1 rfl) ?_
      obtain ⟨z_5, c_5, hf⟩ := b_some hf
      refine xx_cSi hZ hE (As := [.int a2]) (rest := []) tw_2 (c_X3_isSize l D cA ad a2 M _ c_5) cw_X3_isSize tw_0 ⟨rfl, rfl⟩ ⟨Nat.le_of_ble_eq_true rfl, Nat.le_of_ble_eq_true rfl⟩ rfl hl.1 rfl (Nat.le_of_ble_eq_true rfl) ⟨Nat.le_of_ble_eq_true rfl, Nat.le_of_ble_eq_true rfl⟩ dX3_canBe_12 (fun H locs hE => ?_)
      refine lv_if_eq (tgt := 36) hx hb dX3_canBe_15 (by decide) (fun h_6 => ?_) (fun h_6 => ?_)
      · have hf := it_y h_6 hf
        refine lv_iconst (v := 0) hx hb dX3_canBe_36 (by decide) ?_
        exact q_1 _ _ _ _ hf hE (lv_sub hl [0, 1, 2, 3] rfl)
      · have hf := it_n h_6 hf
        refine lv_iload_n hx hb dX3_canBe_18 rfl (lv_at hl 2 rfl) ?_
        obtain ⟨z_7, c_7, hf⟩ := b_some hf
        refine xx_cSi hZ hE (As := [.int a3]) (rest := []) tw_2 (c_X3_isSize l D cA ad a3 M _ c_7) cw_X3_isSize tw_0 ⟨rfl, rfl⟩ ⟨Nat.le_of_ble_eq_true rfl, Nat.le_of_ble_eq_true rfl⟩ rfl hl.1 rfl (Nat.le_of_ble_eq_true rfl) ⟨Nat.le_of_ble_eq_true rfl, Nat.le_of_ble_eq_true rfl⟩ dX3_canBe_19 (fun H locs hE => ?_)
        refine lv_if_eq (tgt := 36) hx hb dX3_canBe_22 (by decide) (fun h_8 => ?_) (fun h_8 => ?_)
        · have hf := it_y h_8 hf
          refine lv_iconst (v := 0) hx hb dX3_canBe_36 (by decide) ?_
          exact q_1 _ _ _ _ hf hE (lv_sub hl [0, 1, 2, 3] rfl)
        · have hf := it_n h_8 hf
          refine lv_iload_n hx hb dX3_canBe_25 rfl (lv_at hl 3 rfl) ?_
          obtain ⟨z_9, c_9, hf⟩ := b_some hf
          refine xx_cSi hZ hE (As := [.int a4]) (rest := []) tw_2 (c_X3_isSize l D cA ad a4 M _ c_9) cw_X3_isSize tw_0 ⟨rfl, rfl⟩ ⟨Nat.le_of_ble_eq_true rfl, Nat.le_of_ble_eq_true rfl⟩ rfl hl.1 rfl (Nat.le_of_ble_eq_true rfl) ⟨Nat.le_of_ble_eq_true rfl, Nat.le_of_ble_eq_true rfl⟩ dX3_canBe_26 (fun H locs hE => ?_)
          refine lv_if_eq (tgt := 36) hx hb dX3_canBe_29 (by decide) (fun h_10 => ?_) (fun h_10 => ?_)
          · have hf := it_y h_10 hf
            refine lv_iconst (v := 0) hx hb dX3_canBe_36 (by decide) ?_
            exact q_1 _ _ _ _ hf hE (lv_sub hl [0, 1, 2, 3] rfl)
          · have hf := it_n h_10 hf
            refine lv_iconst (v := 1) hx hb dX3_canBe_32 (by decide) ?_
            refine lv_goto (tgt := 37) hx hb dX3_canBe_33 (by decide) ?_
            exact q_1 _ _ _ _ hf hE (lv_sub hl [0, 1, 2, 3] rfl)
def lp_J7_fill_53178_5 (i_0 : Nat) (i_1 : Int32) (i_3 : Int32) : Nat → Int32 → Mm → Option (Mm)
  | 0, _, _ => none
  | n_5 + 1, v_2, M =>
    if i_3 ≤ v_2 then
    some M
    else
    (op_sI M i_0 v_2 i_1).bind fun M_3 =>
    lp_J7_fill_53178_5 i_0 i_1 i_3 n_5 (v_2 + 1) M_3
theorem lp_J7_fill_53178_5_s (i_0 : Nat) (i_1 : Int32) (i_3 : Int32) {n_5 : Nat} {v_2 : Int32} {M : Mm} {zr : Mm} (hf : lp_J7_fill_53178_5 i_0 i_1 i_3 (n_5 + 1) v_2 M = some zr) : (
    if i_3 ≤ v_2 then
    some M
    else
    (op_sI M i_0 v_2 i_1).bind fun M_3 =>
    lp_J7_fill_53178_5 i_0 i_1 i_3 n_5 (v_2 + 1) M_3) = some zr := hf
def rm_J7_fill_53178 : Room := { frames := 0, cells := 0, slots := 0, locals := 0 }
def f_J7_fill_53178 (a1 : Nat) (a2 : Int32) (M : Mm) : Option (Mm) :=
    (op_n M 100 a1).bind fun x_1 =>
    lp_J7_fill_53178_5  a1 a2 x_1 FU (0 : Int32) M
set_option maxHeartbeats 4000000 in
set_option maxRecDepth 100000 in
theorem c_J7_fill_53178 (l : Launch) (D : va_G) (cA : Nat → ClassId) (ad : Nat → Nat) (a1 : Nat) (a2 : Int32) (M : Mm) (zr : Mm) (hf : f_J7_fill_53178 a1 a2 M = some zr) : KV l yJ7_fill_53178 cJ7_fill_53178 4 none rm_J7_fill_53178 D cA ad [.ref (ad a1), .int a2] M zr := by
  refine KV_of (by decide) (Nat.le_of_ble_eq_true rfl) ?_
  intro p e s m args below meth c ls Q A H locs hZ hE hl hret
  have hx := hZ.1
  have hb := hZ.2.1
  have hown := hZ.2.2.2.1
  have hts := hZ.2.2.2.2.1
  have hl : lv_has ls 4 [(0, .ref (ad a1)), (1, .int a2)] := hl
  unfold f_J7_fill_53178 at hf
  refine lv_iconst (v := 0) hx hb dJ7_fill_53178_0 (by decide) ?_
  refine lv_istore_n (lv' := [(2, .int (0 : Int32)), (0, .ref (ad a1)), (1, .int a2)]) hx hb dJ7_fill_53178_1 rfl hl (by decide) rfl (fun ls hl => ?_)
  refine lv_aload_n hx hb dJ7_fill_53178_2 rfl (lv_at hl 1 rfl) ?_
  obtain ⟨x_1, g_1, hf⟩ := b_some hf
  refine xx_n hZ hE g_1 dJ7_fill_53178_3 ?_
  refine lv_istore_n (lv' := [(3, .int x_1), (2, .int (0 : Int32)), (0, .ref (ad a1)), (1, .int a2)]) hx hb dJ7_fill_53178_4 rfl hl (by decide) rfl (fun ls hl => ?_)
  have L_4 : ∀ (n_5 : Nat) (w_4_2 : Int32) (M_4 : Mm) (H : Heap) (locs : List Loc) (ls : Array Slot), lp_J7_fill_53178_5 a1 a2 x_1 n_5 w_4_2 M_4 = some zr → En D cA ad s A M_4 H locs → lv_has ls 4 [(0, .ref (ad a1)), (1, .int a2), (2, .int w_4_2), (3, .int x_1)] → W p l e rm_J7_fill_53178 s m args below meth c H locs 0 0 Q (F0 m 5 ls []) := by
    intro n_5
    induction n_5 with
    | zero =>
      intro w_4_2 M_4 H locs ls hf
      cases (show (none : Option (Mm)) = some zr from hf)
    | succ n_5 ih_5 =>
      intro w_4_2 M_4 H locs ls hf hE hl
      have hf := lp_J7_fill_53178_5_s _ _ _ hf
      refine lv_iload_n hx hb dJ7_fill_53178_5 rfl (lv_at hl 2 rfl) ?_
      refine lv_iload_n hx hb dJ7_fill_53178_6 rfl (lv_at hl 3 rfl) ?_
      refine lv_icmp_ge (tgt := 20) hx hb dJ7_fill_53178_7 (by decide) (fun h_5 => ?_) (fun h_5 => ?_)
      · have hf := it_y h_5 hf
        exact hret _ _ _ _ _ (Option.some.inj hf) dJ7_fill_53178_20 hE
      · have hf := it_n h_5 hf
        refine lv_aload_n hx hb dJ7_fill_53178_10 rfl (lv_at hl 0 rfl) ?_
        refine lv_iload_n hx hb dJ7_fill_53178_11 rfl (lv_at hl 2 rfl) ?_
        refine lv_iload_n hx hb dJ7_fill_53178_12 rfl (lv_at hl 1 rfl) ?_
        obtain ⟨M_6, g_6, hf⟩ := b_some hf
        refine xx_sI hZ hE g_6 dJ7_fill_53178_13 (fun H locs hE => ?_)
        refine lv_iinc (v := (w_4_2 + 1)) (lv' := [(2, .int (w_4_2 + 1)), (0, .ref (ad a1)), (1, .int a2), (3, .int x_1)]) hx hb dJ7_fill_53178_14 hl (k := 2) rfl rfl (by decide) rfl (fun ls hl => ?_)
        refine lv_goto (tgt := 5) hx hb dJ7_fill_53178_17 (by decide) ?_
        exact ih_5 _ _ _ _ _ hf hE (lv_sub hl [1, 2, 0, 3] rfl)
  exact L_4 _ _ _ _ _ _ hf hE (lv_sub hl [2, 3, 1, 0] rfl)
def lp_X3_lay_70 (k_103 : Mm → Option (Mm)) (i_0 : Nat) (i_5 : Int32) (i_6 : Int32) (i_7 : Int32) : Nat → Int32 → Mm → Option (Mm)
  | 0, _, _ => none
  | n_70 + 1, v_8, M =>
    if (16 : Int32) ≤ v_8 then
    k_103 M
    else
    (op_gR M 3 i_0 4).bind fun x_16 =>
    if i_5 = 0 then none else
    if i_7 = 0 then none else
    (op_sI M x_16 ((v_8 * (4 : Int32)) + i_6) ((v_8 / i_5) - (v_8 / i_5) / i_7 * i_7)).bind fun M_19 =>
    lp_X3_lay_70 k_103 i_0 i_5 i_6 i_7 n_70 (v_8 + 1) M_19
theorem lp_X3_lay_70_s (k_103 : Mm → Option (Mm)) (i_0 : Nat) (i_5 : Int32) (i_6 : Int32) (i_7 : Int32) {n_70 : Nat} {v_8 : Int32} {M : Mm} {zr : Mm} (hf : lp_X3_lay_70 k_103 i_0 i_5 i_6 i_7 (n_70 + 1) v_8 M = some zr) : (
    if (16 : Int32) ≤ v_8 then
    k_103 M
    else
    (op_gR M 3 i_0 4).bind fun x_16 =>
    if i_5 = 0 then none else
    if i_7 = 0 then none else
    (op_sI M x_16 ((v_8 * (4 : Int32)) + i_6) ((v_8 / i_5) - (v_8 / i_5) / i_7 * i_7)).bind fun M_19 =>
    lp_X3_lay_70 k_103 i_0 i_5 i_6 i_7 n_70 (v_8 + 1) M_19) = some zr := hf
theorem lp_X3_lay_70_k {k_103 : Mm → Option (Mm)} {i_0 : Nat} {i_5 : Int32} {i_6 : Int32} {i_7 : Int32} {n : Nat} {v_8 : Int32} {M : Mm} {zr : Mm} (hf : lp_X3_lay_70 k_103 i_0 i_5 i_6 i_7 n v_8 M = some zr) : ∃ (m_103 : Mm → Option (Mm)), m_103 = k_103 ∧ lp_X3_lay_70 m_103 i_0 i_5 i_6 i_7 n v_8 M = some zr := ⟨k_103, rfl, hf⟩
def lp_X3_lay_40 (k_140 : Int32 → Mm → Option (Mm)) (i_0 : Nat) : Nat → Int32 → Int32 → Mm → Option (Mm)
  | 0, _, _, _ => none
  | n_40 + 1, v_5, v_6, M =>
    if v_6 < 0 then
    k_140 v_5 M
    else
    (op_gR M 3 i_0 2).bind fun x_11 =>
    (op_aI M x_11 v_6).bind fun x_12 =>
    (op_gR M 3 i_0 3).bind fun x_13 =>
    (op_sI M x_13 v_6 v_5).bind fun M_14 =>
    lp_X3_lay_70 (fun (M_21 : Mm) =>
    (op_gI M_21 3 i_0 0).bind fun x_22 =>
    (op_gR M_21 3 i_0 2).bind fun x_23 =>
    (op_aI M_21 x_23 v_6).bind fun x_24 =>
    (op_pI M_21 3 i_0 0 (x_22 + (if x_24 ≤ 0 then (0 : Int32) else (1 : Int32)))).bind fun M_26 =>
    lp_X3_lay_40 k_140 i_0 n_40 (v_5 * (if x_12 < (1 : Int32) then (1 : Int32) else x_12)) (v_6 + (-1)) M_26) i_0 v_5 v_6 (if x_12 < (1 : Int32) then (1 : Int32) else x_12) FU (0 : Int32) M_14
theorem lp_X3_lay_40_s (k_140 : Int32 → Mm → Option (Mm)) (i_0 : Nat) {n_40 : Nat} {v_5 : Int32} {v_6 : Int32} {M : Mm} {zr : Mm} (hf : lp_X3_lay_40 k_140 i_0 (n_40 + 1) v_5 v_6 M = some zr) : (
    if v_6 < 0 then
    k_140 v_5 M
    else
    (op_gR M 3 i_0 2).bind fun x_11 =>
    (op_aI M x_11 v_6).bind fun x_12 =>
    (op_gR M 3 i_0 3).bind fun x_13 =>
    (op_sI M x_13 v_6 v_5).bind fun M_14 =>
    lp_X3_lay_70 (fun (M_21 : Mm) =>
    (op_gI M_21 3 i_0 0).bind fun x_22 =>
    (op_gR M_21 3 i_0 2).bind fun x_23 =>
    (op_aI M_21 x_23 v_6).bind fun x_24 =>
    (op_pI M_21 3 i_0 0 (x_22 + (if x_24 ≤ 0 then (0 : Int32) else (1 : Int32)))).bind fun M_26 =>
    lp_X3_lay_40 k_140 i_0 n_40 (v_5 * (if x_12 < (1 : Int32) then (1 : Int32) else x_12)) (v_6 + (-1)) M_26) i_0 v_5 v_6 (if x_12 < (1 : Int32) then (1 : Int32) else x_12) FU (0 : Int32) M_14) = some zr := hf
theorem lp_X3_lay_40_k {k_140 : Int32 → Mm → Option (Mm)} {i_0 : Nat} {n : Nat} {v_5 : Int32} {v_6 : Int32} {M : Mm} {zr : Mm} (hf : lp_X3_lay_40 k_140 i_0 n v_5 v_6 M = some zr) : ∃ (m_140 : Int32 → Mm → Option (Mm)), m_140 = k_140 ∧ lp_X3_lay_40 m_140 i_0 n v_5 v_6 M = some zr := ⟨k_140, rfl, hf⟩
def rm_X3_lay : Room := { frames := 1, cells := 0, slots := 0, locals := 23 }
def f_X3_lay (o : Nat) (a1 : Int32) (a2 : Int32) (a3 : Int32) (a4 : Int32) (M : Mm) : Option (Mm) :=
    (op_gR M 3 o 2).bind fun x_1 =>
    (op_sI M x_1 (0 : Int32) a1).bind fun M_2 =>
    (op_gR M_2 3 o 2).bind fun x_3 =>
    (op_sI M_2 x_3 (1 : Int32) a2).bind fun M_4 =>
    (op_gR M_4 3 o 2).bind fun x_5 =>
    (op_sI M_4 x_5 (2 : Int32) a3).bind fun M_6 =>
    (op_gR M_6 3 o 2).bind fun x_7 =>
    (op_sI M_6 x_7 (3 : Int32) a4).bind fun M_8 =>
    (op_pI M_8 3 o 0 (0 : Int32)).bind fun M_9 =>
    lp_X3_lay_40 (fun (l_34_5 : Int32) (M_34 : Mm) =>
    (op_pI M_34 3 o 1 l_34_5).bind fun M_35 =>
    (op_gR M_35 3 o 5).bind fun x_36 =>
    (f_J7_fill_53178 x_36 (1 : Int32) M_35).bind fun z_37 =>
    some z_37) o FU (1 : Int32) (3 : Int32) M_9
set_option maxHeartbeats 4000000 in
set_option maxRecDepth 100000 in
theorem c_X3_lay (l : Launch) (D : va_G) (cA : Nat → ClassId) (ad : Nat → Nat) (o : Nat) (a1 : Int32) (a2 : Int32) (a3 : Int32) (a4 : Int32) (M : Mm) (zr : Mm) (hf : f_X3_lay o a1 a2 a3 a4 M = some zr) : KV l yX3_lay cX3_lay 9 none rm_X3_lay D cA ad [.ref (ad o), .int a1, .int a2, .int a3, .int a4] M zr := by
  refine KV_of (by decide) (Nat.le_of_ble_eq_true rfl) ?_
  intro p e s m args below meth c ls Q A H locs hZ hE hl hret
  have hx := hZ.1
  have hb := hZ.2.1
  have hown := hZ.2.2.2.1
  have hts := hZ.2.2.2.2.1
  have hl : lv_has ls 9 [(0, .ref (ad o)), (1, .int a1), (2, .int a2), (3, .int a3), (4, .int a4)] := hl
  unfold f_X3_lay at hf
  refine lv_aload_n hx hb dX3_lay_0 rfl (lv_at hl 0 rfl) ?_
  obtain ⟨x_1, g_1, hf⟩ := b_some hf
  refine xx_gR hZ hE k_X3 2 (by decide) rfl tw_7 g_1 dX3_lay_1 ?_
  refine lv_iconst (v := 0) hx hb dX3_lay_4 (by decide) ?_
  refine lv_iload_n hx hb dX3_lay_5 rfl (lv_at hl 1 rfl) ?_
  obtain ⟨M_2, g_2, hf⟩ := b_some hf
  refine xx_sI hZ hE g_2 dX3_lay_6 (fun H locs hE => ?_)
  refine lv_aload_n hx hb dX3_lay_7 rfl (lv_at hl 0 rfl) ?_
  obtain ⟨x_3, g_3, hf⟩ := b_some hf
  refine xx_gR hZ hE k_X3 2 (by decide) rfl tw_7 g_3 dX3_lay_8 ?_
  refine lv_iconst (v := 1) hx hb dX3_lay_11 (by decide) ?_
  refine lv_iload_n hx hb dX3_lay_12 rfl (lv_at hl 2 rfl) ?_
  obtain ⟨M_4, g_4, hf⟩ := b_some hf
  refine xx_sI hZ hE g_4 dX3_lay_13 (fun H locs hE => ?_)
  refine lv_aload_n hx hb dX3_lay_14 rfl (lv_at hl 0 rfl) ?_
  obtain ⟨x_5, g_5, hf⟩ := b_some hf
  refine xx_gR hZ hE k_X3 2 (by decide) rfl tw_7 g_5 dX3_lay_15 ?_
  refine lv_iconst (v := 2) hx hb dX3_lay_18 (by decide) ?_
  refine lv_iload_n hx hb dX3_lay_19 rfl (lv_at hl 3 rfl) ?_
  obtain ⟨M_6, g_6, hf⟩ := b_some hf
  refine xx_sI hZ hE g_6 dX3_lay_20 (fun H locs hE => ?_)
  refine lv_aload_n hx hb dX3_lay_21 rfl (lv_at hl 0 rfl) ?_
  obtain ⟨x_7, g_7, hf⟩ := b_some hf
  refine xx_gR hZ hE k_X3 2 (by decide) rfl tw_7 g_7 dX3_lay_22 ?_
  refine lv_iconst (v := 3) hx hb dX3_lay_25 (by decide) ?_
  refine lv_iload hx hb dX3_lay_26 (lv_at hl 4 rfl) ?_
  obtain ⟨M_8, g_8, hf⟩ := b_some hf
  refine xx_sI hZ hE g_8 dX3_lay_28 (fun H locs hE => ?_)
  refine lv_aload_n hx hb dX3_lay_29 rfl (lv_at hl 0 rfl) ?_
  refine lv_iconst (v := 0) hx hb dX3_lay_30 (by decide) ?_
  obtain ⟨M_9, g_9, hf⟩ := b_some hf
  refine xx_pI hZ hE k_X3 0 (by decide) rfl rfl rfl tw_8 g_9 dX3_lay_31 (fun H locs hE => ?_)
  refine lv_iconst (v := 1) hx hb dX3_lay_34 (by decide) ?_
  refine lv_istore (lv' := [(5, .int (1 : Int32)), (0, .ref (ad o)), (1, .int a1), (2, .int a2), (3, .int a3), (4, .int a4)]) hx hb dX3_lay_35 hl (by decide) rfl (fun ls hl => ?_)
  refine lv_iconst (v := 3) hx hb dX3_lay_37 (by decide) ?_
  refine lv_istore (lv' := [(6, .int (3 : Int32)), (5, .int (1 : Int32)), (0, .ref (ad o)), (1, .int a1), (2, .int a2), (3, .int a3), (4, .int a4)]) hx hb dX3_lay_38 hl (by decide) rfl (fun ls hl => ?_)
  obtain ⟨k_140_34, ek_140_34, hf⟩ := lp_X3_lay_40_k hf
  have o_140_34 : ∀ (l_34_5 : Int32) (M_34 : Mm) (H : Heap) (locs : List Loc) (ls : Array Slot), k_140_34 l_34_5 M_34 = some zr → En D cA ad s A M_34 H locs → lv_has ls 9 [(0, .ref (ad o)), (5, .int l_34_5)] → W p l e rm_X3_lay s m args below meth c H locs 0 0 Q (F0 m 140 ls []) := by
    intro l_34_5 M_34 H locs ls hf hE hl
    rw [ek_140_34] at hf
    refine lv_aload_n hx hb dX3_lay_140 rfl (lv_at hl 0 rfl) ?_
    refine lv_iload hx hb dX3_lay_141 (lv_at hl 1 rfl) ?_
    obtain ⟨M_35, g_35, hf⟩ := b_some hf
    refine xx_pI hZ hE k_X3 1 (by decide) rfl rfl rfl tw_11 g_35 dX3_lay_143 (fun H locs hE => ?_)
    refine lv_aload_n hx hb dX3_lay_146 rfl (lv_at hl 0 rfl) ?_
    obtain ⟨x_36, g_36, hf⟩ := b_some hf
    refine xx_gR hZ hE k_X3 5 (by decide) rfl tw_12 g_36 dX3_lay_147 ?_
    refine lv_iconst (v := 1) hx hb dX3_lay_150 (by decide) ?_
    obtain ⟨z_37, c_37, hf⟩ := b_some hf
    refine xx_cSv hZ hE (As := [.ref (ad x_36), .int (1 : Int32)]) (rest := []) tw_15 (c_J7_fill_53178 l D cA ad x_36 (1 : Int32) M_35 _ c_37) cw_J7_fill_53178 tw_13 ⟨rfl, rfl⟩ ⟨Nat.le_of_ble_eq_true rfl, Nat.le_of_ble_eq_true rfl⟩ rfl hl.1 rfl (Nat.le_of_ble_eq_true rfl) ⟨Nat.le_of_ble_eq_true rfl, Nat.le_of_ble_eq_true rfl⟩ dX3_lay_151 (fun H locs hE => ?_)
    exact hret _ _ _ _ _ (Option.some.inj hf) dX3_lay_154 hE
  have L_33 : ∀ (n_40 : Nat) (w_33_5 : Int32) (w_33_6 : Int32) (M_33 : Mm) (H : Heap) (locs : List Loc) (ls : Array Slot), lp_X3_lay_40 k_140_34 o n_40 w_33_5 w_33_6 M_33 = some zr → En D cA ad s A M_33 H locs → lv_has ls 9 [(0, .ref (ad o)), (5, .int w_33_5), (6, .int w_33_6)] → W p l e rm_X3_lay s m args below meth c H locs 0 0 Q (F0 m 40 ls []) := by
    intro n_40
    induction n_40 with
    | zero =>
      intro w_33_5 w_33_6 M_33 H locs ls hf
      cases (show (none : Option (Mm)) = some zr from hf)
    | succ n_40 ih_40 =>
      intro w_33_5 w_33_6 M_33 H locs ls hf hE hl
      have hf := lp_X3_lay_40_s _ _ hf
      refine lv_iload hx hb dX3_lay_40 (lv_at hl 2 rfl) ?_
      refine lv_if_lt (tgt := 140) hx hb dX3_lay_42 (by decide) (fun h_38 => ?_) (fun h_38 => ?_)
      · have hf := it_y h_38 hf
        exact o_140_34 _ _ _ _ _ hf hE (lv_sub hl [0, 1] rfl)
      · have hf := it_n h_38 hf
        refine lv_aload_n hx hb dX3_lay_45 rfl (lv_at hl 0 rfl) ?_
        obtain ⟨x_39, g_39, hf⟩ := b_some hf
        refine xx_gR hZ hE k_X3 2 (by decide) rfl tw_7 g_39 dX3_lay_46 ?_
        refine lv_iload hx hb dX3_lay_49 (lv_at hl 2 rfl) ?_
        obtain ⟨x_40, g_40, hf⟩ := b_some hf
        refine xx_aI hZ hE g_40 dX3_lay_51 ?_
        refine lv_iconst (v := 1) hx hb dX3_lay_52 (by decide) ?_
        refine va_mmax hx hb (hZ.2.2.1.trans hl.1.symm) hown (hts _ tw_3) (hts _ tw_4) (hts _ tw_5) (hts _ tw_6) (Nat.le_of_ble_eq_true rfl) (Nat.le_of_ble_eq_true rfl) (Nat.le_of_ble_eq_true rfl) (Nat.le_of_ble_eq_true rfl) dX3_lay_53 ?_
        refine lv_istore (lv' := [(7, .int (if x_40 < (1 : Int32) then (1 : Int32) else x_40)), (0, .ref (ad o)), (5, .int w_33_5), (6, .int w_33_6)]) hx hb dX3_lay_56 hl (by decide) rfl (fun ls hl => ?_)
        refine lv_aload_n hx hb dX3_lay_58 rfl (lv_at hl 1 rfl) ?_
        obtain ⟨x_41, g_41, hf⟩ := b_some hf
        refine xx_gR hZ hE k_X3 3 (by decide) rfl tw_9 g_41 dX3_lay_59 ?_
        refine lv_iload hx hb dX3_lay_62 (lv_at hl 3 rfl) ?_
        refine lv_iload hx hb dX3_lay_64 (lv_at hl 2 rfl) ?_
        obtain ⟨M_42, g_42, hf⟩ := b_some hf
        refine xx_sI hZ hE g_42 dX3_lay_66 (fun H locs hE => ?_)
        refine lv_iconst (v := 0) hx hb dX3_lay_67 (by decide) ?_
        refine lv_istore (lv' := [(8, .int (0 : Int32)), (7, .int (if x_40 < (1 : Int32) then (1 : Int32) else x_40)), (0, .ref (ad o)), (5, .int w_33_5), (6, .int w_33_6)]) hx hb dX3_lay_68 hl (by decide) rfl (fun ls hl => ?_)
        obtain ⟨k_103_44, ek_103_44, hf⟩ := lp_X3_lay_70_k hf
        have o_103_44 : ∀ (M_44 : Mm) (H : Heap) (locs : List Loc) (ls : Array Slot), k_103_44 M_44 = some zr → En D cA ad s A M_44 H locs → lv_has ls 9 [(0, .ref (ad o)), (5, .int w_33_5), (6, .int w_33_6), (7, .int (if x_40 < (1 : Int32) then (1 : Int32) else x_40))] → W p l e rm_X3_lay s m args below meth c H locs 0 0 Q (F0 m 103 ls []) := by
          intro M_44 H locs ls hf hE hl
          rw [ek_103_44] at hf
          refine lv_iload hx hb dX3_lay_103 (lv_at hl 1 rfl) ?_
          refine lv_iload hx hb dX3_lay_105 (lv_at hl 3 rfl) ?_
          refine lv_imul hx hb dX3_lay_107 ?_
          refine lv_istore (lv' := [(5, .int (w_33_5 * (if x_40 < (1 : Int32) then (1 : Int32) else x_40))), (0, .ref (ad o)), (6, .int w_33_6), (7, .int (if x_40 < (1 : Int32) then (1 : Int32) else x_40))]) hx hb dX3_lay_108 hl (by decide) rfl (fun ls hl => ?_)
          refine lv_aload_n hx hb dX3_lay_110 rfl (lv_at hl 1 rfl) ?_
          refine lv_dup hx hb dX3_lay_111 rfl ?_
          obtain ⟨x_45, g_45, hf⟩ := b_some hf
          refine xx_gI hZ hE k_X3 0 (by decide) rfl tw_8 g_45 dX3_lay_112 ?_
          refine lv_aload_n hx hb dX3_lay_115 rfl (lv_at hl 1 rfl) ?_
          obtain ⟨x_46, g_46, hf⟩ := b_some hf
          refine xx_gR hZ hE k_X3 2 (by decide) rfl tw_7 g_46 dX3_lay_116 ?_
          refine lv_iload hx hb dX3_lay_119 (lv_at hl 2 rfl) ?_
          obtain ⟨x_47, g_47, hf⟩ := b_some hf
          refine xx_aI hZ hE g_47 dX3_lay_121 ?_
          have q_48 : ∀ x_48 : Int32, x_48 = (if x_47 ≤ 0 then (0 : Int32) else (1 : Int32)) → W p l e rm_X3_lay s m args below meth c H locs 0 0 Q (F0 m 130 ls [.int x_48, .int x_45, .ref (ad o)]) := by
            intro x_48 e_48
            subst e_48
            refine lv_iadd hx hb dX3_lay_130 ?_
            obtain ⟨M_49, g_49, hf⟩ := b_some hf
            refine xx_pI hZ hE k_X3 0 (by decide) rfl rfl rfl tw_8 g_49 dX3_lay_131 (fun H locs hE => ?_)
            refine lv_iinc (v := (w_33_6 + (-1))) (lv' := [(6, .int (w_33_6 + (-1))), (5, .int (w_33_5 * (if x_40 < (1 : Int32) then (1 : Int32) else x_40))), (0, .ref (ad o)), (7, .int (if x_40 < (1 : Int32) then (1 : Int32) else x_40))]) hx hb dX3_lay_134 hl (k := 2) rfl rfl (by decide) rfl (fun ls hl => ?_)
            refine lv_goto (tgt := 40) hx hb dX3_lay_137 (by decide) ?_
            exact ih_40 _ _ _ _ _ _ hf hE (lv_sub hl [2, 1, 0] rfl)
          refine lv_if_le (tgt := 129) hx hb dX3_lay_122 (by decide) (fun h_50 => ?_) (fun h_50 => ?_)
          · refine lv_iconst (v := 0) hx hb dX3_lay_129 (by decide) ?_
            exact q_48 _ (by rw [if_pos h_50])
          · refine lv_iconst (v := 1) hx hb dX3_lay_125 (by decide) ?_
            refine lv_goto (tgt := 130) hx hb dX3_lay_126 (by decide) ?_
            exact q_48 _ (by rw [if_neg h_50])
        have L_43 : ∀ (n_70 : Nat) (w_43_8 : Int32) (M_43 : Mm) (H : Heap) (locs : List Loc) (ls : Array Slot), lp_X3_lay_70 k_103_44 o w_33_5 w_33_6 (if x_40 < (1 : Int32) then (1 : Int32) else x_40) n_70 w_43_8 M_43 = some zr → En D cA ad s A M_43 H locs → lv_has ls 9 [(0, .ref (ad o)), (5, .int w_33_5), (6, .int w_33_6), (7, .int (if x_40 < (1 : Int32) then (1 : Int32) else x_40)), (8, .int w_43_8)] → W p l e rm_X3_lay s m args below meth c H locs 0 0 Q (F0 m 70 ls []) := by
          intro n_70
          induction n_70 with
          | zero =>
            intro w_43_8 M_43 H locs ls hf
            cases (show (none : Option (Mm)) = some zr from hf)
          | succ n_70 ih_70 =>
            intro w_43_8 M_43 H locs ls hf hE hl
            have hf := lp_X3_lay_70_s _ _ _ _ _ hf
            refine lv_iload hx hb dX3_lay_70 (lv_at hl 4 rfl) ?_
            refine lv_bipush (v := 16) hx hb dX3_lay_72 (by decide) ?_
            refine lv_icmp_ge (tgt := 103) hx hb dX3_lay_74 (by decide) (fun h_51 => ?_) (fun h_51 => ?_)
            · have hf := it_y h_51 hf
              exact o_103_44 _ _ _ _ hf hE (lv_sub hl [0, 1, 2, 3] rfl)
            · have hf := it_n h_51 hf
              refine lv_aload_n hx hb dX3_lay_77 rfl (lv_at hl 0 rfl) ?_
              obtain ⟨x_52, g_52, hf⟩ := b_some hf
              refine xx_gR hZ hE k_X3 4 (by decide) rfl tw_10 g_52 dX3_lay_78 ?_
              refine lv_iload hx hb dX3_lay_81 (lv_at hl 4 rfl) ?_
              refine lv_iconst (v := 4) hx hb dX3_lay_83 (by decide) ?_
              refine lv_imul hx hb dX3_lay_84 ?_
              refine lv_iload hx hb dX3_lay_85 (lv_at hl 2 rfl) ?_
              refine lv_iadd hx hb dX3_lay_87 ?_
              refine lv_iload hx hb dX3_lay_88 (lv_at hl 4 rfl) ?_
              refine lv_iload hx hb dX3_lay_90 (lv_at hl 1 rfl) ?_
              obtain ⟨h_53, hf⟩ := e_some hf
              refine lv_idiv hx hb dX3_lay_92 h_53 ?_
              refine lv_iload hx hb dX3_lay_93 (lv_at hl 3 rfl) ?_
              obtain ⟨h_54, hf⟩ := e_some hf
              refine lv_irem hx hb dX3_lay_95 h_54 ?_
              obtain ⟨M_55, g_55, hf⟩ := b_some hf
              refine xx_sI hZ hE g_55 dX3_lay_96 (fun H locs hE => ?_)
              refine lv_iinc (v := (w_43_8 + 1)) (lv' := [(8, .int (w_43_8 + 1)), (0, .ref (ad o)), (5, .int w_33_5), (6, .int w_33_6), (7, .int (if x_40 < (1 : Int32) then (1 : Int32) else x_40))]) hx hb dX3_lay_97 hl (k := 4) rfl rfl (by decide) rfl (fun ls hl => ?_)
              refine lv_goto (tgt := 70) hx hb dX3_lay_100 (by decide) ?_
              exact ih_70 _ _ _ _ _ hf hE (lv_sub hl [1, 2, 3, 4, 0] rfl)
        exact L_43 _ _ _ _ _ _ hf hE (lv_sub hl [2, 3, 4, 1, 0] rfl)
  exact L_33 _ _ _ _ _ _ _ hf hE (lv_sub hl [2, 1, 0] rfl)
def rm_X0_forget : Room := { frames := 0, cells := 0, slots := 0, locals := 0 }
def f_X0_forget (o : Nat) (M : Mm) : Option (Mm) :=
    (op_gI M 0 o 7).bind fun x_1 =>
    (op_pI M 0 o 7 (x_1 + (1 : Int32))).bind fun M_2 =>
    some M_2
set_option maxHeartbeats 4000000 in
set_option maxRecDepth 100000 in
theorem c_X0_forget (l : Launch) (D : va_G) (cA : Nat → ClassId) (ad : Nat → Nat) (o : Nat) (M : Mm) (zr : Mm) (hf : f_X0_forget o M = some zr) : KV l yX0_forget cX0_forget 1 none rm_X0_forget D cA ad [.ref (ad o)] M zr := by
  refine KV_of (by decide) (Nat.le_of_ble_eq_true rfl) ?_
  intro p e s m args below meth c ls Q A H locs hZ hE hl hret
  have hx := hZ.1
  have hb := hZ.2.1
  have hown := hZ.2.2.2.1
  have hts := hZ.2.2.2.2.1
  have hl : lv_has ls 1 [(0, .ref (ad o))] := hl
  unfold f_X0_forget at hf
  refine lv_aload_n hx hb dX0_forget_0 rfl (lv_at hl 0 rfl) ?_
  refine lv_dup hx hb dX0_forget_1 rfl ?_
  obtain ⟨x_1, g_1, hf⟩ := b_some hf
  refine xx_gI hZ hE k_X0 7 (by decide) rfl tw_16 g_1 dX0_forget_2 ?_
  refine lv_iconst (v := 1) hx hb dX0_forget_5 (by decide) ?_
  refine lv_iadd hx hb dX0_forget_6 ?_
  obtain ⟨M_2, g_2, hf⟩ := b_some hf
  refine xx_pI hZ hE k_X0 7 (by decide) rfl rfl rfl tw_16 g_2 dX0_forget_7 (fun H locs hE => ?_)
  exact hret _ _ _ _ _ (Option.some.inj hf) dX0_forget_10 hE
def rm_X5_forget : Room := { frames := 0, cells := 0, slots := 0, locals := 0 }
def f_X5_forget (o : Nat) (M : Mm) : Option (Mm) :=
    (op_pI M 5 o 3 (-1 : Int32)).bind fun M_1 =>
    some M_1
set_option maxHeartbeats 4000000 in
set_option maxRecDepth 100000 in
theorem c_X5_forget (l : Launch) (D : va_G) (cA : Nat → ClassId) (ad : Nat → Nat) (o : Nat) (M : Mm) (zr : Mm) (hf : f_X5_forget o M = some zr) : KV l yX5_forget cX5_forget 1 none rm_X5_forget D cA ad [.ref (ad o)] M zr := by
  refine KV_of (by decide) (Nat.le_of_ble_eq_true rfl) ?_
  intro p e s m args below meth c ls Q A H locs hZ hE hl hret
  have hx := hZ.1
  have hb := hZ.2.1
  have hown := hZ.2.2.2.1
  have hts := hZ.2.2.2.2.1
  have hl : lv_has ls 1 [(0, .ref (ad o))] := hl
  unfold f_X5_forget at hf
  refine lv_aload_n hx hb dX5_forget_0 rfl (lv_at hl 0 rfl) ?_
  refine lv_iconst (v := -1) hx hb dX5_forget_1 (by decide) ?_
  obtain ⟨M_1, g_1, hf⟩ := b_some hf
  refine xx_pI hZ hE k_X5 3 (by decide) rfl rfl rfl tw_17 g_1 dX5_forget_2 (fun H locs hE => ?_)
  exact hret _ _ _ _ _ (Option.some.inj hf) dX5_forget_5 hE
def rm_X6_model : Room := { frames := 2, cells := 0, slots := 0, locals := 51 }
def f_X6_model (o : Nat) (a1 : Int32) (a2 : Int32) (a3 : Int32) (a4 : Int32) (M : Mm) : Option (Int32 × Mm) :=
    (f_X3_canBe a1 a2 a3 a4).bind fun z_1 =>
    if z_1 = 0 then
    some ((-1 : Int32), M)
    else
    (op_gR M 6 o 0).bind fun x_3 =>
    (op_is M x_3 3).bind fun _ =>
    (f_X3_lay x_3 a1 a2 a3 a4 M).bind fun z_4 =>
    (op_pI z_4 6 o 5 (0 : Int32)).bind fun M_5 =>
    (op_gR M_5 6 o 2).bind fun x_6 =>
    (op_is M_5 x_6 0).bind fun _ =>
    (f_X0_forget x_6 M_5).bind fun z_7 =>
    (op_gR z_7 6 o 4).bind fun x_8 =>
    (op_is z_7 x_8 5).bind fun _ =>
    (f_X5_forget x_8 z_7).bind fun z_9 =>
    (op_gR z_9 6 o 0).bind fun x_10 =>
    (op_gI z_9 3 x_10 1).bind fun x_11 =>
    some (x_11, z_9)
set_option maxHeartbeats 4000000 in
set_option maxRecDepth 100000 in
theorem c_X6_model (l : Launch) (D : va_G) (cA : Nat → ClassId) (ad : Nat → Nat) (o : Nat) (a1 : Int32) (a2 : Int32) (a3 : Int32) (a4 : Int32) (M : Mm) (zr : Int32 × Mm) (hf : f_X6_model o a1 a2 a3 a4 M = some zr) : KI l yX6_model cX6_model 5 (some .int) rm_X6_model D cA ad [.ref (ad o), .int a1, .int a2, .int a3, .int a4] M zr.1 zr.2 := by
  refine KI_of (by decide) (Nat.le_of_ble_eq_true rfl) ?_
  intro p e s m args below meth c ls Q A H locs hZ hE hl hret
  have hx := hZ.1
  have hb := hZ.2.1
  have hown := hZ.2.2.2.1
  have hts := hZ.2.2.2.2.1
  have hl : lv_has ls 5 [(0, .ref (ad o)), (1, .int a1), (2, .int a2), (3, .int a3), (4, .int a4)] := hl
  unfold f_X6_model at hf
  refine lv_iload_n hx hb dX6_model_0 rfl (lv_at hl 1 rfl) ?_
  refine lv_iload_n hx hb dX6_model_1 rfl (lv_at hl 2 rfl) ?_
  refine lv_iload_n hx hb dX6_model_2 rfl (lv_at hl 3 rfl) ?_
  refine lv_iload hx hb dX6_model_3 (lv_at hl 4 rfl) ?_
  obtain ⟨z_1, c_1, hf⟩ := b_some hf
  refine xx_cSNi hZ hE (As := [.int a1, .int a2, .int a3, .int a4]) (rest := []) tw_19 (c_X3_canBe l D cA ad a1 a2 a3 a4 M _ c_1) cw_X3_canBe tw_18 ⟨rfl, rfl⟩ ⟨Nat.le_of_ble_eq_true rfl, Nat.le_of_ble_eq_true rfl⟩ rfl hl.1 rfl (Nat.le_of_ble_eq_true rfl) ⟨Nat.le_of_ble_eq_true rfl, Nat.le_of_ble_eq_true rfl⟩ dX6_model_5 (fun H locs hE => ?_)
  refine lv_if_ne (tgt := 13) hx hb dX6_model_8 (by decide) (fun h_2 => ?_) (fun h_2 => ?_)
  · have hf := it_n h_2 hf
    refine lv_aload_n hx hb dX6_model_13 rfl (lv_at hl 0 rfl) ?_
    obtain ⟨x_3, g_3, hf⟩ := b_some hf
    refine xx_gR hZ hE k_X6 0 (by decide) rfl tw_20 g_3 dX6_model_14 ?_
    refine lv_iload_n hx hb dX6_model_17 rfl (lv_at hl 1 rfl) ?_
    refine lv_iload_n hx hb dX6_model_18 rfl (lv_at hl 2 rfl) ?_
    refine lv_iload_n hx hb dX6_model_19 rfl (lv_at hl 3 rfl) ?_
    refine lv_iload hx hb dX6_model_20 (lv_at hl 4 rfl) ?_
    obtain ⟨_, i_4, hf⟩ := b_some hf
    obtain ⟨z_4, c_4, hf⟩ := b_some hf
    refine xx_cVNv hZ hE (As := [.int a1, .int a2, .int a3, .int a4]) (rest := []) k_X3 (is_m i_4) tw_22 tw_23 (c_X3_lay l D cA ad x_3 a1 a2 a3 a4 M _ c_4) cw_X3_lay tw_21 ⟨rfl, rfl⟩ ⟨Nat.le_of_ble_eq_true rfl, Nat.le_of_ble_eq_true rfl⟩ rfl hl.1 rfl (Nat.le_of_ble_eq_true rfl) ⟨Nat.le_of_ble_eq_true rfl, Nat.le_of_ble_eq_true rfl⟩ dX6_model_22 (fun H locs hE => ?_)
    refine lv_aload_n hx hb dX6_model_25 rfl (lv_at hl 0 rfl) ?_
    refine lv_iconst (v := 0) hx hb dX6_model_26 (by decide) ?_
    obtain ⟨M_5, g_5, hf⟩ := b_some hf
    refine xx_pI hZ hE k_X6 5 (by decide) rfl rfl rfl tw_24 g_5 dX6_model_27 (fun H locs hE => ?_)
    refine lv_aload_n hx hb dX6_model_30 rfl (lv_at hl 0 rfl) ?_
    obtain ⟨x_6, g_6, hf⟩ := b_some hf
    refine xx_gR hZ hE k_X6 2 (by decide) rfl tw_25 g_6 dX6_model_31 ?_
    obtain ⟨_, i_7, hf⟩ := b_some hf
    obtain ⟨z_7, c_7, hf⟩ := b_some hf
    refine xx_cVNv hZ hE (As := []) (rest := []) k_X0 (is_m i_7) tw_28 tw_29 (c_X0_forget l D cA ad x_6 M_5 _ c_7) cw_X0_forget tw_26 ⟨rfl, rfl⟩ ⟨Nat.le_of_ble_eq_true rfl, Nat.le_of_ble_eq_true rfl⟩ rfl hl.1 rfl (Nat.le_of_ble_eq_true rfl) ⟨Nat.le_of_ble_eq_true rfl, Nat.le_of_ble_eq_true rfl⟩ dX6_model_34 (fun H locs hE => ?_)
    refine lv_aload_n hx hb dX6_model_37 rfl (lv_at hl 0 rfl) ?_
    obtain ⟨x_8, g_8, hf⟩ := b_some hf
    refine xx_gR hZ hE k_X6 4 (by decide) rfl tw_30 g_8 dX6_model_38 ?_
    obtain ⟨_, i_9, hf⟩ := b_some hf
    obtain ⟨z_9, c_9, hf⟩ := b_some hf
    refine xx_cVNv hZ hE (As := []) (rest := []) k_X5 (is_m i_9) tw_33 tw_34 (c_X5_forget l D cA ad x_8 z_7 _ c_9) cw_X5_forget tw_31 ⟨rfl, rfl⟩ ⟨Nat.le_of_ble_eq_true rfl, Nat.le_of_ble_eq_true rfl⟩ rfl hl.1 rfl (Nat.le_of_ble_eq_true rfl) ⟨Nat.le_of_ble_eq_true rfl, Nat.le_of_ble_eq_true rfl⟩ dX6_model_41 (fun H locs hE => ?_)
    refine lv_aload_n hx hb dX6_model_44 rfl (lv_at hl 0 rfl) ?_
    obtain ⟨x_10, g_10, hf⟩ := b_some hf
    refine xx_gR hZ hE k_X6 0 (by decide) rfl tw_20 g_10 dX6_model_45 ?_
    obtain ⟨x_11, g_11, hf⟩ := b_some hf
    refine xx_gIN hZ hE k_X3 1 (by decide) rfl tw_35 g_11 dX6_model_48 ?_
    exact hret _ _ _ _ _ _ (pr_1 hf) (pr_2 hf) rfl dX6_model_51 hE
  · have hf := it_y h_2 hf
    refine lv_iconst (v := -1) hx hb dX6_model_11 (by decide) ?_
    exact hret _ _ _ _ _ _ (pr_1 hf) (pr_2 hf) rfl dX6_model_12 hE
def rm_X6_hasModel : Room := { frames := 0, cells := 0, slots := 0, locals := 0 }
def f_X6_hasModel (o : Nat) (M : Mm) : Option (Int32) :=
    (op_gR M 6 o 0).bind fun x_1 =>
    (op_gI M 3 x_1 1).bind fun x_2 =>
    if x_2 ≤ 0 then
    some (0 : Int32)
    else
    some (1 : Int32)
set_option maxHeartbeats 4000000 in
set_option maxRecDepth 100000 in
theorem c_X6_hasModel (l : Launch) (D : va_G) (cA : Nat → ClassId) (ad : Nat → Nat) (o : Nat) (M : Mm) (zr : Int32) (hf : f_X6_hasModel o M = some zr) : KI l yX6_hasModel cX6_hasModel 1 (some .boolean) rm_X6_hasModel D cA ad [.ref (ad o)] M zr M := by
  refine KI_of (by decide) (Nat.le_of_ble_eq_true rfl) ?_
  intro p e s m args below meth c ls Q A H locs hZ hE hl hret
  have hx := hZ.1
  have hb := hZ.2.1
  have hown := hZ.2.2.2.1
  have hts := hZ.2.2.2.2.1
  have hl : lv_has ls 1 [(0, .ref (ad o))] := hl
  unfold f_X6_hasModel at hf
  refine lv_aload_n hx hb dX6_hasModel_0 rfl (lv_at hl 0 rfl) ?_
  obtain ⟨x_1, g_1, hf⟩ := b_some hf
  refine xx_gR hZ hE k_X6 0 (by decide) rfl tw_20 g_1 dX6_hasModel_1 ?_
  obtain ⟨x_2, g_2, hf⟩ := b_some hf
  refine xx_gIN hZ hE k_X3 1 (by decide) rfl tw_35 g_2 dX6_hasModel_4 ?_
  refine lv_if_le (tgt := 14) hx hb dX6_hasModel_7 (by decide) (fun h_3 => ?_) (fun h_3 => ?_)
  · have hf := it_y h_3 hf
    refine lv_iconst (v := 0) hx hb dX6_hasModel_14 (by decide) ?_
    exact hret _ _ _ _ _ _ (Option.some.inj hf) rfl rfl dX6_hasModel_15 hE
  · have hf := it_n h_3 hf
    refine lv_iconst (v := 1) hx hb dX6_hasModel_10 (by decide) ?_
    refine lv_goto (tgt := 15) hx hb dX6_hasModel_11 (by decide) ?_
    exact hret _ _ _ _ _ _ (Option.some.inj hf) rfl rfl dX6_hasModel_15 hE
def rm_X3_isState : Room := { frames := 0, cells := 0, slots := 0, locals := 0 }
def f_X3_isState (o : Nat) (a1 : Int32) (M : Mm) : Option (Int32) :=
    if a1 < 0 then
    some (0 : Int32)
    else
    (op_gI M 3 o 1).bind fun x_2 =>
    if x_2 ≤ a1 then
    some (0 : Int32)
    else
    some (1 : Int32)
set_option maxHeartbeats 4000000 in
set_option maxRecDepth 100000 in
theorem c_X3_isState (l : Launch) (D : va_G) (cA : Nat → ClassId) (ad : Nat → Nat) (o : Nat) (a1 : Int32) (M : Mm) (zr : Int32) (hf : f_X3_isState o a1 M = some zr) : KI l yX3_isState cX3_isState 2 (some .boolean) rm_X3_isState D cA ad [.ref (ad o), .int a1] M zr M := by
  refine KI_of (by decide) (Nat.le_of_ble_eq_true rfl) ?_
  intro p e s m args below meth c ls Q A H locs hZ hE hl hret
  have hx := hZ.1
  have hb := hZ.2.1
  have hown := hZ.2.2.2.1
  have hts := hZ.2.2.2.2.1
  have hl : lv_has ls 2 [(0, .ref (ad o)), (1, .int a1)] := hl
  unfold f_X3_isState at hf
  refine lv_iload_n hx hb dX3_isState_0 rfl (lv_at hl 1 rfl) ?_
  refine lv_if_lt (tgt := 16) hx hb dX3_isState_1 (by decide) (fun h_1 => ?_) (fun h_1 => ?_)
  · have hf := it_y h_1 hf
    refine lv_iconst (v := 0) hx hb dX3_isState_16 (by decide) ?_
    exact hret _ _ _ _ _ _ (Option.some.inj hf) rfl rfl dX3_isState_17 hE
  · have hf := it_n h_1 hf
    refine lv_iload_n hx hb dX3_isState_4 rfl (lv_at hl 1 rfl) ?_
    refine lv_aload_n hx hb dX3_isState_5 rfl (lv_at hl 0 rfl) ?_
    obtain ⟨x_2, g_2, hf⟩ := b_some hf
    refine xx_gI hZ hE k_X3 1 (by decide) rfl tw_11 g_2 dX3_isState_6 ?_
    refine lv_icmp_ge (tgt := 16) hx hb dX3_isState_9 (by decide) (fun h_3 => ?_) (fun h_3 => ?_)
    · have hf := it_y h_3 hf
      refine lv_iconst (v := 0) hx hb dX3_isState_16 (by decide) ?_
      exact hret _ _ _ _ _ _ (Option.some.inj hf) rfl rfl dX3_isState_17 hE
    · have hf := it_n h_3 hf
      refine lv_iconst (v := 1) hx hb dX3_isState_12 (by decide) ?_
      refine lv_goto (tgt := 17) hx hb dX3_isState_13 (by decide) ?_
      exact hret _ _ _ _ _ _ (Option.some.inj hf) rfl rfl dX3_isState_17 hE
def rm_X6_weight : Room := { frames := 1, cells := 0, slots := 0, locals := 21 }
def f_X6_weight (o : Nat) (a1 : Int32) (a2 : Int32) (M : Mm) : Option (Int32 × Mm) :=
    (op_is M o 6).bind fun _ =>
    (f_X6_hasModel o M).bind fun z_1 =>
    if z_1 = 0 then
    some ((-2 : Int32), M)
    else
    (op_gR M 6 o 0).bind fun x_3 =>
    (op_is M x_3 3).bind fun _ =>
    (f_X3_isState x_3 a1 M).bind fun z_4 =>
    if z_4 = 0 then
    some ((-1 : Int32), M)
    else
    if a2 < 0 then
    some ((-1 : Int32), M)
    else
    if a2 ≤ (1000 : Int32) then
    (op_gR M 6 o 0).bind fun x_8 =>
    (op_gR M 3 x_8 5).bind fun x_9 =>
    (op_aI M x_9 a1).bind fun x_10 =>
    (op_gR M 6 o 0).bind fun x_11 =>
    (op_gR M 3 x_11 5).bind fun x_12 =>
    (op_sI M x_12 a1 a2).bind fun M_13 =>
    (op_gR M_13 6 o 2).bind fun x_14 =>
    (op_is M_13 x_14 0).bind fun _ =>
    (f_X0_forget x_14 M_13).bind fun z_15 =>
    some (x_10, z_15)
    else
    some ((-1 : Int32), M)
set_option maxHeartbeats 4000000 in
set_option maxRecDepth 100000 in
theorem c_X6_weight (l : Launch) (D : va_G) (cA : Nat → ClassId) (ad : Nat → Nat) (o : Nat) (a1 : Int32) (a2 : Int32) (M : Mm) (zr : Int32 × Mm) (hf : f_X6_weight o a1 a2 M = some zr) : KI l yX6_weight cX6_weight 4 (some .int) rm_X6_weight D cA ad [.ref (ad o), .int a1, .int a2] M zr.1 zr.2 := by
  refine KI_of (by decide) (Nat.le_of_ble_eq_true rfl) ?_
  intro p e s m args below meth c ls Q A H locs hZ hE hl hret
  have hx := hZ.1
  have hb := hZ.2.1
  have hown := hZ.2.2.2.1
  have hts := hZ.2.2.2.2.1
  have hl : lv_has ls 4 [(0, .ref (ad o)), (1, .int a1), (2, .int a2)] := hl
  unfold f_X6_weight at hf
  refine lv_aload_n hx hb dX6_weight_0 rfl (lv_at hl 0 rfl) ?_
  obtain ⟨_, i_1, hf⟩ := b_some hf
  obtain ⟨z_1, c_1, hf⟩ := b_some hf
  refine xx_cVi hZ hE (As := []) (rest := []) k_X6 (is_m i_1) tw_38 tw_39 (c_X6_hasModel l D cA ad o M _ c_1) cw_X6_hasModel tw_36 ⟨rfl, rfl⟩ ⟨Nat.le_of_ble_eq_true rfl, Nat.le_of_ble_eq_true rfl⟩ rfl hl.1 rfl (Nat.le_of_ble_eq_true rfl) ⟨Nat.le_of_ble_eq_true rfl, Nat.le_of_ble_eq_true rfl⟩ dX6_weight_1 (fun H locs hE => ?_)
  refine lv_if_ne (tgt := 10) hx hb dX6_weight_4 (by decide) (fun h_2 => ?_) (fun h_2 => ?_)
  · have hf := it_n h_2 hf
    refine lv_aload_n hx hb dX6_weight_10 rfl (lv_at hl 0 rfl) ?_
    obtain ⟨x_3, g_3, hf⟩ := b_some hf
    refine xx_gR hZ hE k_X6 0 (by decide) rfl tw_20 g_3 dX6_weight_11 ?_
    refine lv_iload_n hx hb dX6_weight_14 rfl (lv_at hl 1 rfl) ?_
    obtain ⟨_, i_4, hf⟩ := b_some hf
    obtain ⟨z_4, c_4, hf⟩ := b_some hf
    refine xx_cVNi hZ hE (As := [.int a1]) (rest := []) k_X3 (is_m i_4) tw_41 tw_42 (c_X3_isState l D cA ad x_3 a1 M _ c_4) cw_X3_isState tw_40 ⟨rfl, rfl⟩ ⟨Nat.le_of_ble_eq_true rfl, Nat.le_of_ble_eq_true rfl⟩ rfl hl.1 rfl (Nat.le_of_ble_eq_true rfl) ⟨Nat.le_of_ble_eq_true rfl, Nat.le_of_ble_eq_true rfl⟩ dX6_weight_15 (fun H locs hE => ?_)
    refine lv_if_eq (tgt := 32) hx hb dX6_weight_18 (by decide) (fun h_5 => ?_) (fun h_5 => ?_)
    · have hf := it_y h_5 hf
      refine lv_iconst (v := -1) hx hb dX6_weight_32 (by decide) ?_
      exact hret _ _ _ _ _ _ (pr_1 hf) (pr_2 hf) rfl dX6_weight_33 hE
    · have hf := it_n h_5 hf
      refine lv_iload_n hx hb dX6_weight_21 rfl (lv_at hl 2 rfl) ?_
      refine lv_if_lt (tgt := 32) hx hb dX6_weight_22 (by decide) (fun h_6 => ?_) (fun h_6 => ?_)
      · have hf := it_y h_6 hf
        refine lv_iconst (v := -1) hx hb dX6_weight_32 (by decide) ?_
        exact hret _ _ _ _ _ _ (pr_1 hf) (pr_2 hf) rfl dX6_weight_33 hE
      · have hf := it_n h_6 hf
        refine lv_iload_n hx hb dX6_weight_25 rfl (lv_at hl 2 rfl) ?_
        refine lv_sipush (v := 1000) hx hb dX6_weight_26 (by decide) ?_
        refine lv_icmp_le (tgt := 34) hx hb dX6_weight_29 (by decide) (fun h_7 => ?_) (fun h_7 => ?_)
        · have hf := it_y h_7 hf
          refine lv_aload_n hx hb dX6_weight_34 rfl (lv_at hl 0 rfl) ?_
          obtain ⟨x_8, g_8, hf⟩ := b_some hf
          refine xx_gR hZ hE k_X6 0 (by decide) rfl tw_20 g_8 dX6_weight_35 ?_
          obtain ⟨x_9, g_9, hf⟩ := b_some hf
          refine xx_gRN hZ hE k_X3 5 (by decide) rfl tw_43 g_9 dX6_weight_38 ?_
          refine lv_iload_n hx hb dX6_weight_41 rfl (lv_at hl 1 rfl) ?_
          obtain ⟨x_10, g_10, hf⟩ := b_some hf
          refine xx_aI hZ hE g_10 dX6_weight_42 ?_
          refine lv_istore_n (lv' := [(3, .int x_10), (0, .ref (ad o)), (1, .int a1), (2, .int a2)]) hx hb dX6_weight_43 rfl hl (by decide) rfl (fun ls hl => ?_)
          refine lv_aload_n hx hb dX6_weight_44 rfl (lv_at hl 1 rfl) ?_
          obtain ⟨x_11, g_11, hf⟩ := b_some hf
          refine xx_gR hZ hE k_X6 0 (by decide) rfl tw_20 g_11 dX6_weight_45 ?_
          obtain ⟨x_12, g_12, hf⟩ := b_some hf
          refine xx_gRN hZ hE k_X3 5 (by decide) rfl tw_43 g_12 dX6_weight_48 ?_
          refine lv_iload_n hx hb dX6_weight_51 rfl (lv_at hl 2 rfl) ?_
          refine lv_iload_n hx hb dX6_weight_52 rfl (lv_at hl 3 rfl) ?_
          obtain ⟨M_13, g_13, hf⟩ := b_some hf
          refine xx_sI hZ hE g_13 dX6_weight_53 (fun H locs hE => ?_)
          refine lv_aload_n hx hb dX6_weight_54 rfl (lv_at hl 1 rfl) ?_
          obtain ⟨x_14, g_14, hf⟩ := b_some hf
          refine xx_gR hZ hE k_X6 2 (by decide) rfl tw_25 g_14 dX6_weight_55 ?_
          obtain ⟨_, i_15, hf⟩ := b_some hf
          obtain ⟨z_15, c_15, hf⟩ := b_some hf
          refine xx_cVNv hZ hE (As := []) (rest := []) k_X0 (is_m i_15) tw_28 tw_29 (c_X0_forget l D cA ad x_14 M_13 _ c_15) cw_X0_forget tw_26 ⟨rfl, rfl⟩ ⟨Nat.le_of_ble_eq_true rfl, Nat.le_of_ble_eq_true rfl⟩ rfl hl.1 rfl (Nat.le_of_ble_eq_true rfl) ⟨Nat.le_of_ble_eq_true rfl, Nat.le_of_ble_eq_true rfl⟩ dX6_weight_58 (fun H locs hE => ?_)
          refine lv_iload_n hx hb dX6_weight_61 rfl (lv_at hl 0 rfl) ?_
          exact hret _ _ _ _ _ _ (pr_1 hf) (pr_2 hf) rfl dX6_weight_62 hE
        · have hf := it_n h_7 hf
          refine lv_iconst (v := -1) hx hb dX6_weight_32 (by decide) ?_
          exact hret _ _ _ _ _ _ (pr_1 hf) (pr_2 hf) rfl dX6_weight_33 hE
  · have hf := it_y h_2 hf
    refine lv_bipush (v := -2) hx hb dX6_weight_7 (by decide) ?_
    exact hret _ _ _ _ _ _ (pr_1 hf) (pr_2 hf) rfl dX6_weight_9 hE
def rm_X3_isPlace : Room := { frames := 0, cells := 0, slots := 0, locals := 0 }
def f_X3_isPlace (o : Nat) (a1 : Int32) (M : Mm) : Option (Int32) :=
    if a1 < 0 then
    some (0 : Int32)
    else
    (op_gI M 3 o 0).bind fun x_2 =>
    if x_2 ≤ a1 then
    some (0 : Int32)
    else
    some (1 : Int32)
set_option maxHeartbeats 4000000 in
set_option maxRecDepth 100000 in
theorem c_X3_isPlace (l : Launch) (D : va_G) (cA : Nat → ClassId) (ad : Nat → Nat) (o : Nat) (a1 : Int32) (M : Mm) (zr : Int32) (hf : f_X3_isPlace o a1 M = some zr) : KI l yX3_isPlace cX3_isPlace 2 (some .boolean) rm_X3_isPlace D cA ad [.ref (ad o), .int a1] M zr M := by
  refine KI_of (by decide) (Nat.le_of_ble_eq_true rfl) ?_
  intro p e s m args below meth c ls Q A H locs hZ hE hl hret
  have hx := hZ.1
  have hb := hZ.2.1
  have hown := hZ.2.2.2.1
  have hts := hZ.2.2.2.2.1
  have hl : lv_has ls 2 [(0, .ref (ad o)), (1, .int a1)] := hl
  unfold f_X3_isPlace at hf
  refine lv_iload_n hx hb dX3_isPlace_0 rfl (lv_at hl 1 rfl) ?_
  refine lv_if_lt (tgt := 16) hx hb dX3_isPlace_1 (by decide) (fun h_1 => ?_) (fun h_1 => ?_)
  · have hf := it_y h_1 hf
    refine lv_iconst (v := 0) hx hb dX3_isPlace_16 (by decide) ?_
    exact hret _ _ _ _ _ _ (Option.some.inj hf) rfl rfl dX3_isPlace_17 hE
  · have hf := it_n h_1 hf
    refine lv_iload_n hx hb dX3_isPlace_4 rfl (lv_at hl 1 rfl) ?_
    refine lv_aload_n hx hb dX3_isPlace_5 rfl (lv_at hl 0 rfl) ?_
    obtain ⟨x_2, g_2, hf⟩ := b_some hf
    refine xx_gI hZ hE k_X3 0 (by decide) rfl tw_8 g_2 dX3_isPlace_6 ?_
    refine lv_icmp_ge (tgt := 16) hx hb dX3_isPlace_9 (by decide) (fun h_3 => ?_) (fun h_3 => ?_)
    · have hf := it_y h_3 hf
      refine lv_iconst (v := 0) hx hb dX3_isPlace_16 (by decide) ?_
      exact hret _ _ _ _ _ _ (Option.some.inj hf) rfl rfl dX3_isPlace_17 hE
    · have hf := it_n h_3 hf
      refine lv_iconst (v := 1) hx hb dX3_isPlace_12 (by decide) ?_
      refine lv_goto (tgt := 17) hx hb dX3_isPlace_13 (by decide) ?_
      exact hret _ _ _ _ _ _ (Option.some.inj hf) rfl rfl dX3_isPlace_17 hE
def rm_X3_hasValue : Room := { frames := 1, cells := 0, slots := 0, locals := 21 }
def f_X3_hasValue (o : Nat) (a1 : Int32) (a2 : Int32) (M : Mm) : Option (Int32) :=
    (op_is M o 3).bind fun _ =>
    (f_X3_isPlace o a1 M).bind fun z_1 =>
    if z_1 = 0 then
    some (1 : Int32)
    else
    if a2 < 0 then
    some (0 : Int32)
    else
    (op_gR M 3 o 2).bind fun x_4 =>
    (op_aI M x_4 a1).bind fun x_5 =>
    if x_5 ≤ a2 then
    some (0 : Int32)
    else
    some (1 : Int32)
set_option maxHeartbeats 4000000 in
set_option maxRecDepth 100000 in
theorem c_X3_hasValue (l : Launch) (D : va_G) (cA : Nat → ClassId) (ad : Nat → Nat) (o : Nat) (a1 : Int32) (a2 : Int32) (M : Mm) (zr : Int32) (hf : f_X3_hasValue o a1 a2 M = some zr) : KI l yX3_hasValue cX3_hasValue 3 (some .boolean) rm_X3_hasValue D cA ad [.ref (ad o), .int a1, .int a2] M zr M := by
  refine KI_of (by decide) (Nat.le_of_ble_eq_true rfl) ?_
  intro p e s m args below meth c ls Q A H locs hZ hE hl hret
  have hx := hZ.1
  have hb := hZ.2.1
  have hown := hZ.2.2.2.1
  have hts := hZ.2.2.2.2.1
  have hl : lv_has ls 3 [(0, .ref (ad o)), (1, .int a1), (2, .int a2)] := hl
  unfold f_X3_hasValue at hf
  refine lv_aload_n hx hb dX3_hasValue_0 rfl (lv_at hl 0 rfl) ?_
  refine lv_iload_n hx hb dX3_hasValue_1 rfl (lv_at hl 1 rfl) ?_
  obtain ⟨_, i_1, hf⟩ := b_some hf
  obtain ⟨z_1, c_1, hf⟩ := b_some hf
  refine xx_cVi hZ hE (As := [.int a1]) (rest := []) k_X3 (is_m i_1) tw_45 tw_46 (c_X3_isPlace l D cA ad o a1 M _ c_1) cw_X3_isPlace tw_44 ⟨rfl, rfl⟩ ⟨Nat.le_of_ble_eq_true rfl, Nat.le_of_ble_eq_true rfl⟩ rfl hl.1 rfl (Nat.le_of_ble_eq_true rfl) ⟨Nat.le_of_ble_eq_true rfl, Nat.le_of_ble_eq_true rfl⟩ dX3_hasValue_2 (fun H locs hE => ?_)
  refine lv_if_eq (tgt := 22) hx hb dX3_hasValue_5 (by decide) (fun h_2 => ?_) (fun h_2 => ?_)
  · have hf := it_y h_2 hf
    refine lv_iconst (v := 1) hx hb dX3_hasValue_22 (by decide) ?_
    refine lv_goto (tgt := 27) hx hb dX3_hasValue_23 (by decide) ?_
    exact hret _ _ _ _ _ _ (Option.some.inj hf) rfl rfl dX3_hasValue_27 hE
  · have hf := it_n h_2 hf
    refine lv_iload_n hx hb dX3_hasValue_8 rfl (lv_at hl 2 rfl) ?_
    refine lv_if_lt (tgt := 26) hx hb dX3_hasValue_9 (by decide) (fun h_3 => ?_) (fun h_3 => ?_)
    · have hf := it_y h_3 hf
      refine lv_iconst (v := 0) hx hb dX3_hasValue_26 (by decide) ?_
      exact hret _ _ _ _ _ _ (Option.some.inj hf) rfl rfl dX3_hasValue_27 hE
    · have hf := it_n h_3 hf
      refine lv_iload_n hx hb dX3_hasValue_12 rfl (lv_at hl 2 rfl) ?_
      refine lv_aload_n hx hb dX3_hasValue_13 rfl (lv_at hl 0 rfl) ?_
      obtain ⟨x_4, g_4, hf⟩ := b_some hf
      refine xx_gR hZ hE k_X3 2 (by decide) rfl tw_7 g_4 dX3_hasValue_14 ?_
      refine lv_iload_n hx hb dX3_hasValue_17 rfl (lv_at hl 1 rfl) ?_
      obtain ⟨x_5, g_5, hf⟩ := b_some hf
      refine xx_aI hZ hE g_5 dX3_hasValue_18 ?_
      refine lv_icmp_ge (tgt := 26) hx hb dX3_hasValue_19 (by decide) (fun h_6 => ?_) (fun h_6 => ?_)
      · have hf := it_y h_6 hf
        refine lv_iconst (v := 0) hx hb dX3_hasValue_26 (by decide) ?_
        exact hret _ _ _ _ _ _ (Option.some.inj hf) rfl rfl dX3_hasValue_27 hE
      · have hf := it_n h_6 hf
        refine lv_iconst (v := 1) hx hb dX3_hasValue_22 (by decide) ?_
        refine lv_goto (tgt := 27) hx hb dX3_hasValue_23 (by decide) ?_
        exact hret _ _ _ _ _ _ (Option.some.inj hf) rfl rfl dX3_hasValue_27 hE
def rm_X3_part : Room := { frames := 1, cells := 0, slots := 0, locals := 21 }
def f_X3_part (o : Nat) (a1 : Int32) (a2 : Int32) (M : Mm) : Option (Int32) :=
    (op_is M o 3).bind fun _ =>
    (f_X3_isPlace o a1 M).bind fun z_1 =>
    if z_1 = 0 then
    some (0 : Int32)
    else
    (op_gR M 3 o 3).bind fun x_3 =>
    (op_aI M x_3 a1).bind fun x_4 =>
    some (a2 * x_4)
set_option maxHeartbeats 4000000 in
set_option maxRecDepth 100000 in
theorem c_X3_part (l : Launch) (D : va_G) (cA : Nat → ClassId) (ad : Nat → Nat) (o : Nat) (a1 : Int32) (a2 : Int32) (M : Mm) (zr : Int32) (hf : f_X3_part o a1 a2 M = some zr) : KI l yX3_part cX3_part 3 (some .int) rm_X3_part D cA ad [.ref (ad o), .int a1, .int a2] M zr M := by
  refine KI_of (by decide) (Nat.le_of_ble_eq_true rfl) ?_
  intro p e s m args below meth c ls Q A H locs hZ hE hl hret
  have hx := hZ.1
  have hb := hZ.2.1
  have hown := hZ.2.2.2.1
  have hts := hZ.2.2.2.2.1
  have hl : lv_has ls 3 [(0, .ref (ad o)), (1, .int a1), (2, .int a2)] := hl
  unfold f_X3_part at hf
  refine lv_aload_n hx hb dX3_part_0 rfl (lv_at hl 0 rfl) ?_
  refine lv_iload_n hx hb dX3_part_1 rfl (lv_at hl 1 rfl) ?_
  obtain ⟨_, i_1, hf⟩ := b_some hf
  obtain ⟨z_1, c_1, hf⟩ := b_some hf
  refine xx_cVi hZ hE (As := [.int a1]) (rest := []) k_X3 (is_m i_1) tw_45 tw_46 (c_X3_isPlace l D cA ad o a1 M _ c_1) cw_X3_isPlace tw_44 ⟨rfl, rfl⟩ ⟨Nat.le_of_ble_eq_true rfl, Nat.le_of_ble_eq_true rfl⟩ rfl hl.1 rfl (Nat.le_of_ble_eq_true rfl) ⟨Nat.le_of_ble_eq_true rfl, Nat.le_of_ble_eq_true rfl⟩ dX3_part_2 (fun H locs hE => ?_)
  refine lv_if_eq (tgt := 19) hx hb dX3_part_5 (by decide) (fun h_2 => ?_) (fun h_2 => ?_)
  · have hf := it_y h_2 hf
    refine lv_iconst (v := 0) hx hb dX3_part_19 (by decide) ?_
    exact hret _ _ _ _ _ _ (Option.some.inj hf) rfl rfl dX3_part_20 hE
  · have hf := it_n h_2 hf
    refine lv_iload_n hx hb dX3_part_8 rfl (lv_at hl 2 rfl) ?_
    refine lv_aload_n hx hb dX3_part_9 rfl (lv_at hl 0 rfl) ?_
    obtain ⟨x_3, g_3, hf⟩ := b_some hf
    refine xx_gR hZ hE k_X3 3 (by decide) rfl tw_9 g_3 dX3_part_10 ?_
    refine lv_iload_n hx hb dX3_part_13 rfl (lv_at hl 1 rfl) ?_
    obtain ⟨x_4, g_4, hf⟩ := b_some hf
    refine xx_aI hZ hE g_4 dX3_part_14 ?_
    refine lv_imul hx hb dX3_part_15 ?_
    refine lv_goto (tgt := 20) hx hb dX3_part_16 (by decide) ?_
    exact hret _ _ _ _ _ _ (Option.some.inj hf) rfl rfl dX3_part_20 hE
def rm_X6_state : Room := { frames := 2, cells := 0, slots := 0, locals := 43 }
def f_X6_state (o : Nat) (a1 : Int32) (a2 : Int32) (a3 : Int32) (a4 : Int32) (M : Mm) : Option (Int32) :=
    (op_is M o 6).bind fun _ =>
    (f_X6_hasModel o M).bind fun z_1 =>
    if z_1 = 0 then
    some (-2 : Int32)
    else
    (op_gR M 6 o 0).bind fun x_3 =>
    (op_is M x_3 3).bind fun _ =>
    (f_X3_hasValue x_3 (0 : Int32) a1 M).bind fun z_4 =>
    op_jn (fun (x_5_0 : Int32) =>
    if x_5_0 = 0 then
    some (-1 : Int32)
    else
    (op_gR M 6 o 0).bind fun x_17 =>
    (op_is M x_17 3).bind fun _ =>
    (f_X3_part x_17 (0 : Int32) a1 M).bind fun z_18 =>
    (op_gR M 6 o 0).bind fun x_19 =>
    (op_is M x_19 3).bind fun _ =>
    (f_X3_part x_19 (1 : Int32) a2 M).bind fun z_20 =>
    (op_gR M 6 o 0).bind fun x_21 =>
    (op_is M x_21 3).bind fun _ =>
    (f_X3_part x_21 (2 : Int32) a3 M).bind fun z_22 =>
    (op_gR M 6 o 0).bind fun x_23 =>
    (op_is M x_23 3).bind fun _ =>
    (f_X3_part x_23 (3 : Int32) a4 M).bind fun z_24 =>
    some (((z_18 + z_20) + z_22) + z_24))
    fun j_5 =>
    if z_4 = 0 then
    j_5 (0 : Int32)
    else
    (op_gR M 6 o 0).bind fun x_7 =>
    (op_is M x_7 3).bind fun _ =>
    (f_X3_hasValue x_7 (1 : Int32) a2 M).bind fun z_8 =>
    if z_8 = 0 then
    j_5 (0 : Int32)
    else
    (op_gR M 6 o 0).bind fun x_10 =>
    (op_is M x_10 3).bind fun _ =>
    (f_X3_hasValue x_10 (2 : Int32) a3 M).bind fun z_11 =>
    if z_11 = 0 then
    j_5 (0 : Int32)
    else
    (op_gR M 6 o 0).bind fun x_13 =>
    (op_is M x_13 3).bind fun _ =>
    (f_X3_hasValue x_13 (3 : Int32) a4 M).bind fun z_14 =>
    if z_14 = 0 then
    j_5 (0 : Int32)
    else
    j_5 (1 : Int32)
set_option maxHeartbeats 4000000 in
set_option maxRecDepth 100000 in
theorem c_X6_state (l : Launch) (D : va_G) (cA : Nat → ClassId) (ad : Nat → Nat) (o : Nat) (a1 : Int32) (a2 : Int32) (a3 : Int32) (a4 : Int32) (M : Mm) (zr : Int32) (hf : f_X6_state o a1 a2 a3 a4 M = some zr) : KI l yX6_state cX6_state 6 (some .int) rm_X6_state D cA ad [.ref (ad o), .int a1, .int a2, .int a3, .int a4] M zr M := by
  refine KI_of (by decide) (Nat.le_of_ble_eq_true rfl) ?_
  intro p e s m args below meth c ls Q A H locs hZ hE hl hret
  have hx := hZ.1
  have hb := hZ.2.1
  have hown := hZ.2.2.2.1
  have hts := hZ.2.2.2.2.1
  have hl : lv_has ls 6 [(0, .ref (ad o)), (1, .int a1), (2, .int a2), (3, .int a3), (4, .int a4)] := hl
  unfold f_X6_state at hf
  refine lv_aload_n hx hb dX6_state_0 rfl (lv_at hl 0 rfl) ?_
  obtain ⟨_, i_1, hf⟩ := b_some hf
  obtain ⟨z_1, c_1, hf⟩ := b_some hf
  refine xx_cVi hZ hE (As := []) (rest := []) k_X6 (is_m i_1) tw_38 tw_39 (c_X6_hasModel l D cA ad o M _ c_1) cw_X6_hasModel tw_36 ⟨rfl, rfl⟩ ⟨Nat.le_of_ble_eq_true rfl, Nat.le_of_ble_eq_true rfl⟩ rfl hl.1 rfl (Nat.le_of_ble_eq_true rfl) ⟨Nat.le_of_ble_eq_true rfl, Nat.le_of_ble_eq_true rfl⟩ dX6_state_1 (fun H locs hE => ?_)
  refine lv_if_ne (tgt := 10) hx hb dX6_state_4 (by decide) (fun h_2 => ?_) (fun h_2 => ?_)
  · have hf := it_n h_2 hf
    refine lv_aload_n hx hb dX6_state_10 rfl (lv_at hl 0 rfl) ?_
    obtain ⟨x_3, g_3, hf⟩ := b_some hf
    refine xx_gR hZ hE k_X6 0 (by decide) rfl tw_20 g_3 dX6_state_11 ?_
    refine lv_iconst (v := 0) hx hb dX6_state_14 (by decide) ?_
    refine lv_iload_n hx hb dX6_state_15 rfl (lv_at hl 1 rfl) ?_
    obtain ⟨_, i_4, hf⟩ := b_some hf
    obtain ⟨z_4, c_4, hf⟩ := b_some hf
    refine xx_cVNi hZ hE (As := [.int (0 : Int32), .int a1]) (rest := []) k_X3 (is_m i_4) tw_48 tw_49 (c_X3_hasValue l D cA ad x_3 (0 : Int32) a1 M _ c_4) cw_X3_hasValue tw_47 ⟨rfl, rfl⟩ ⟨Nat.le_of_ble_eq_true rfl, Nat.le_of_ble_eq_true rfl⟩ rfl hl.1 rfl (Nat.le_of_ble_eq_true rfl) ⟨Nat.le_of_ble_eq_true rfl, Nat.le_of_ble_eq_true rfl⟩ dX6_state_16 (fun H locs hE => ?_)
    obtain ⟨j_5, ej_5, hf⟩ := jn_e hf
    have q_5 : ∀ (x_5_0 : Int32) (H : Heap) (locs : List Loc) (ls : Array Slot), j_5 x_5_0 = some zr → En D cA ad s A M H locs → lv_has ls 6 [(0, .ref (ad o)), (1, .int a1), (2, .int a2), (3, .int a3), (4, .int a4)] → W p l e rm_X6_state s m args below meth c H locs 0 0 Q (F0 m 64 ls [.int x_5_0]) := by
      intro x_5_0 H locs ls hf hE hl
      rw [ej_5] at hf
      refine lv_istore (lv' := [(5, .int x_5_0), (0, .ref (ad o)), (1, .int a1), (2, .int a2), (3, .int a3), (4, .int a4)]) hx hb dX6_state_64 hl (by decide) rfl (fun ls hl => ?_)
      refine lv_iload hx hb dX6_state_66 (lv_at hl 0 rfl) ?_
      refine lv_if_ne (tgt := 73) hx hb dX6_state_68 (by decide) (fun h_16 => ?_) (fun h_16 => ?_)
      · have hf := it_n h_16 hf
        refine lv_aload_n hx hb dX6_state_73 rfl (lv_at hl 1 rfl) ?_
        obtain ⟨x_17, g_17, hf⟩ := b_some hf
        refine xx_gR hZ hE k_X6 0 (by decide) rfl tw_20 g_17 dX6_state_74 ?_
        refine lv_iconst (v := 0) hx hb dX6_state_77 (by decide) ?_
        refine lv_iload_n hx hb dX6_state_78 rfl (lv_at hl 2 rfl) ?_
        obtain ⟨_, i_18, hf⟩ := b_some hf
        obtain ⟨z_18, c_18, hf⟩ := b_some hf
        refine xx_cVNi hZ hE (As := [.int (0 : Int32), .int a1]) (rest := []) k_X3 (is_m i_18) tw_51 tw_52 (c_X3_part l D cA ad x_17 (0 : Int32) a1 M _ c_18) cw_X3_part tw_50 ⟨rfl, rfl⟩ ⟨Nat.le_of_ble_eq_true rfl, Nat.le_of_ble_eq_true rfl⟩ rfl hl.1 rfl (Nat.le_of_ble_eq_true rfl) ⟨Nat.le_of_ble_eq_true rfl, Nat.le_of_ble_eq_true rfl⟩ dX6_state_79 (fun H locs hE => ?_)
        refine lv_aload_n hx hb dX6_state_82 rfl (lv_at hl 1 rfl) ?_
        obtain ⟨x_19, g_19, hf⟩ := b_some hf
        refine xx_gR hZ hE k_X6 0 (by decide) rfl tw_20 g_19 dX6_state_83 ?_
        refine lv_iconst (v := 1) hx hb dX6_state_86 (by decide) ?_
        refine lv_iload_n hx hb dX6_state_87 rfl (lv_at hl 3 rfl) ?_
        obtain ⟨_, i_20, hf⟩ := b_some hf
        obtain ⟨z_20, c_20, hf⟩ := b_some hf
        refine xx_cVNi hZ hE (As := [.int (1 : Int32), .int a2]) (rest := [.int z_18]) k_X3 (is_m i_20) tw_51 tw_52 (c_X3_part l D cA ad x_19 (1 : Int32) a2 M _ c_20) cw_X3_part tw_50 ⟨rfl, rfl⟩ ⟨Nat.le_of_ble_eq_true rfl, Nat.le_of_ble_eq_true rfl⟩ rfl hl.1 rfl (Nat.le_of_ble_eq_true rfl) ⟨Nat.le_of_ble_eq_true rfl, Nat.le_of_ble_eq_true rfl⟩ dX6_state_88 (fun H locs hE => ?_)
        refine lv_iadd hx hb dX6_state_91 ?_
        refine lv_aload_n hx hb dX6_state_92 rfl (lv_at hl 1 rfl) ?_
        obtain ⟨x_21, g_21, hf⟩ := b_some hf
        refine xx_gR hZ hE k_X6 0 (by decide) rfl tw_20 g_21 dX6_state_93 ?_
        refine lv_iconst (v := 2) hx hb dX6_state_96 (by decide) ?_
        refine lv_iload_n hx hb dX6_state_97 rfl (lv_at hl 4 rfl) ?_
        obtain ⟨_, i_22, hf⟩ := b_some hf
        obtain ⟨z_22, c_22, hf⟩ := b_some hf
        refine xx_cVNi hZ hE (As := [.int (2 : Int32), .int a3]) (rest := [.int (z_18 + z_20)]) k_X3 (is_m i_22) tw_51 tw_52 (c_X3_part l D cA ad x_21 (2 : Int32) a3 M _ c_22) cw_X3_part tw_50 ⟨rfl, rfl⟩ ⟨Nat.le_of_ble_eq_true rfl, Nat.le_of_ble_eq_true rfl⟩ rfl hl.1 rfl (Nat.le_of_ble_eq_true rfl) ⟨Nat.le_of_ble_eq_true rfl, Nat.le_of_ble_eq_true rfl⟩ dX6_state_98 (fun H locs hE => ?_)
        refine lv_iadd hx hb dX6_state_101 ?_
        refine lv_aload_n hx hb dX6_state_102 rfl (lv_at hl 1 rfl) ?_
        obtain ⟨x_23, g_23, hf⟩ := b_some hf
        refine xx_gR hZ hE k_X6 0 (by decide) rfl tw_20 g_23 dX6_state_103 ?_
        refine lv_iconst (v := 3) hx hb dX6_state_106 (by decide) ?_
        refine lv_iload hx hb dX6_state_107 (lv_at hl 5 rfl) ?_
        obtain ⟨_, i_24, hf⟩ := b_some hf
        obtain ⟨z_24, c_24, hf⟩ := b_some hf
        refine xx_cVNi hZ hE (As := [.int (3 : Int32), .int a4]) (rest := [.int ((z_18 + z_20) + z_22)]) k_X3 (is_m i_24) tw_51 tw_52 (c_X3_part l D cA ad x_23 (3 : Int32) a4 M _ c_24) cw_X3_part tw_50 ⟨rfl, rfl⟩ ⟨Nat.le_of_ble_eq_true rfl, Nat.le_of_ble_eq_true rfl⟩ rfl hl.1 rfl (Nat.le_of_ble_eq_true rfl) ⟨Nat.le_of_ble_eq_true rfl, Nat.le_of_ble_eq_true rfl⟩ dX6_state_109 (fun H locs hE => ?_)
        refine lv_iadd hx hb dX6_state_112 ?_
        exact hret _ _ _ _ _ _ (Option.some.inj hf) rfl rfl dX6_state_113 hE
      · have hf := it_y h_16 hf
        refine lv_iconst (v := -1) hx hb dX6_state_71 (by decide) ?_
        exact hret _ _ _ _ _ _ (Option.some.inj hf) rfl rfl dX6_state_72 hE
    refine lv_if_eq (tgt := 63) hx hb dX6_state_19 (by decide) (fun h_6 => ?_) (fun h_6 => ?_)
    · have hf := it_y h_6 hf
      refine lv_iconst (v := 0) hx hb dX6_state_63 (by decide) ?_
      exact q_5 _ _ _ _ hf hE (lv_sub hl [0, 1, 2, 3, 4] rfl)
    · have hf := it_n h_6 hf
      refine lv_aload_n hx hb dX6_state_22 rfl (lv_at hl 0 rfl) ?_
      obtain ⟨x_7, g_7, hf⟩ := b_some hf
      refine xx_gR hZ hE k_X6 0 (by decide) rfl tw_20 g_7 dX6_state_23 ?_
      refine lv_iconst (v := 1) hx hb dX6_state_26 (by decide) ?_
      refine lv_iload_n hx hb dX6_state_27 rfl (lv_at hl 2 rfl) ?_
      obtain ⟨_, i_8, hf⟩ := b_some hf
      obtain ⟨z_8, c_8, hf⟩ := b_some hf
      refine xx_cVNi hZ hE (As := [.int (1 : Int32), .int a2]) (rest := []) k_X3 (is_m i_8) tw_48 tw_49 (c_X3_hasValue l D cA ad x_7 (1 : Int32) a2 M _ c_8) cw_X3_hasValue tw_47 ⟨rfl, rfl⟩ ⟨Nat.le_of_ble_eq_true rfl, Nat.le_of_ble_eq_true rfl⟩ rfl hl.1 rfl (Nat.le_of_ble_eq_true rfl) ⟨Nat.le_of_ble_eq_true rfl, Nat.le_of_ble_eq_true rfl⟩ dX6_state_28 (fun H locs hE => ?_)
      refine lv_if_eq (tgt := 63) hx hb dX6_state_31 (by decide) (fun h_9 => ?_) (fun h_9 => ?_)
      · have hf := it_y h_9 hf
        refine lv_iconst (v := 0) hx hb dX6_state_63 (by decide) ?_
        exact q_5 _ _ _ _ hf hE (lv_sub hl [0, 1, 2, 3, 4] rfl)
      · have hf := it_n h_9 hf
        refine lv_aload_n hx hb dX6_state_34 rfl (lv_at hl 0 rfl) ?_
        obtain ⟨x_10, g_10, hf⟩ := b_some hf
        refine xx_gR hZ hE k_X6 0 (by decide) rfl tw_20 g_10 dX6_state_35 ?_
        refine lv_iconst (v := 2) hx hb dX6_state_38 (by decide) ?_
        refine lv_iload_n hx hb dX6_state_39 rfl (lv_at hl 3 rfl) ?_
        obtain ⟨_, i_11, hf⟩ := b_some hf
        obtain ⟨z_11, c_11, hf⟩ := b_some hf
        refine xx_cVNi hZ hE (As := [.int (2 : Int32), .int a3]) (rest := []) k_X3 (is_m i_11) tw_48 tw_49 (c_X3_hasValue l D cA ad x_10 (2 : Int32) a3 M _ c_11) cw_X3_hasValue tw_47 ⟨rfl, rfl⟩ ⟨Nat.le_of_ble_eq_true rfl, Nat.le_of_ble_eq_true rfl⟩ rfl hl.1 rfl (Nat.le_of_ble_eq_true rfl) ⟨Nat.le_of_ble_eq_true rfl, Nat.le_of_ble_eq_true rfl⟩ dX6_state_40 (fun H locs hE => ?_)
        refine lv_if_eq (tgt := 63) hx hb dX6_state_43 (by decide) (fun h_12 => ?_) (fun h_12 => ?_)
        · have hf := it_y h_12 hf
          refine lv_iconst (v := 0) hx hb dX6_state_63 (by decide) ?_
          exact q_5 _ _ _ _ hf hE (lv_sub hl [0, 1, 2, 3, 4] rfl)
        · have hf := it_n h_12 hf
          refine lv_aload_n hx hb dX6_state_46 rfl (lv_at hl 0 rfl) ?_
          obtain ⟨x_13, g_13, hf⟩ := b_some hf
          refine xx_gR hZ hE k_X6 0 (by decide) rfl tw_20 g_13 dX6_state_47 ?_
          refine lv_iconst (v := 3) hx hb dX6_state_50 (by decide) ?_
          refine lv_iload hx hb dX6_state_51 (lv_at hl 4 rfl) ?_
          obtain ⟨_, i_14, hf⟩ := b_some hf
          obtain ⟨z_14, c_14, hf⟩ := b_some hf
          refine xx_cVNi hZ hE (As := [.int (3 : Int32), .int a4]) (rest := []) k_X3 (is_m i_14) tw_48 tw_49 (c_X3_hasValue l D cA ad x_13 (3 : Int32) a4 M _ c_14) cw_X3_hasValue tw_47 ⟨rfl, rfl⟩ ⟨Nat.le_of_ble_eq_true rfl, Nat.le_of_ble_eq_true rfl⟩ rfl hl.1 rfl (Nat.le_of_ble_eq_true rfl) ⟨Nat.le_of_ble_eq_true rfl, Nat.le_of_ble_eq_true rfl⟩ dX6_state_53 (fun H locs hE => ?_)
          refine lv_if_eq (tgt := 63) hx hb dX6_state_56 (by decide) (fun h_15 => ?_) (fun h_15 => ?_)
          · have hf := it_y h_15 hf
            refine lv_iconst (v := 0) hx hb dX6_state_63 (by decide) ?_
            exact q_5 _ _ _ _ hf hE (lv_sub hl [0, 1, 2, 3, 4] rfl)
          · have hf := it_n h_15 hf
            refine lv_iconst (v := 1) hx hb dX6_state_59 (by decide) ?_
            refine lv_goto (tgt := 64) hx hb dX6_state_60 (by decide) ?_
            exact q_5 _ _ _ _ hf hE (lv_sub hl [0, 1, 2, 3, 4] rfl)
  · have hf := it_y h_2 hf
    refine lv_bipush (v := -2) hx hb dX6_state_7 (by decide) ?_
    exact hret _ _ _ _ _ _ (Option.some.inj hf) rfl rfl dX6_state_9 hE
def rm_X3_valueAt : Room := { frames := 0, cells := 0, slots := 0, locals := 0 }
def f_X3_valueAt (o : Nat) (a1 : Int32) (a2 : Int32) (M : Mm) : Option (Int32) :=
    (op_gR M 3 o 4).bind fun x_1 =>
    (op_aI M x_1 ((a1 * (4 : Int32)) + a2)).bind fun x_2 =>
    some x_2
set_option maxHeartbeats 4000000 in
set_option maxRecDepth 100000 in
theorem c_X3_valueAt (l : Launch) (D : va_G) (cA : Nat → ClassId) (ad : Nat → Nat) (o : Nat) (a1 : Int32) (a2 : Int32) (M : Mm) (zr : Int32) (hf : f_X3_valueAt o a1 a2 M = some zr) : KI l yX3_valueAt cX3_valueAt 3 (some .int) rm_X3_valueAt D cA ad [.ref (ad o), .int a1, .int a2] M zr M := by
  refine KI_of (by decide) (Nat.le_of_ble_eq_true rfl) ?_
  intro p e s m args below meth c ls Q A H locs hZ hE hl hret
  have hx := hZ.1
  have hb := hZ.2.1
  have hown := hZ.2.2.2.1
  have hts := hZ.2.2.2.2.1
  have hl : lv_has ls 3 [(0, .ref (ad o)), (1, .int a1), (2, .int a2)] := hl
  unfold f_X3_valueAt at hf
  refine lv_aload_n hx hb dX3_valueAt_0 rfl (lv_at hl 0 rfl) ?_
  obtain ⟨x_1, g_1, hf⟩ := b_some hf
  refine xx_gR hZ hE k_X3 4 (by decide) rfl tw_10 g_1 dX3_valueAt_1 ?_
  refine lv_iload_n hx hb dX3_valueAt_4 rfl (lv_at hl 1 rfl) ?_
  refine lv_iconst (v := 4) hx hb dX3_valueAt_5 (by decide) ?_
  refine lv_imul hx hb dX3_valueAt_6 ?_
  refine lv_iload_n hx hb dX3_valueAt_7 rfl (lv_at hl 2 rfl) ?_
  refine lv_iadd hx hb dX3_valueAt_8 ?_
  obtain ⟨x_2, g_2, hf⟩ := b_some hf
  refine xx_aI hZ hE g_2 dX3_valueAt_9 ?_
  exact hret _ _ _ _ _ _ (Option.some.inj hf) rfl rfl dX3_valueAt_10 hE
def rm_X6_value : Room := { frames := 1, cells := 0, slots := 0, locals := 22 }
def f_X6_value (o : Nat) (a1 : Int32) (a2 : Int32) (M : Mm) : Option (Int32) :=
    (op_is M o 6).bind fun _ =>
    (f_X6_hasModel o M).bind fun z_1 =>
    if z_1 = 0 then
    some (-2 : Int32)
    else
    (op_gR M 6 o 0).bind fun x_3 =>
    (op_is M x_3 3).bind fun _ =>
    (f_X3_isState x_3 a1 M).bind fun z_4 =>
    if z_4 = 0 then
    some (-1 : Int32)
    else
    (op_gR M 6 o 0).bind fun x_6 =>
    (op_is M x_6 3).bind fun _ =>
    (f_X3_isPlace x_6 a2 M).bind fun z_7 =>
    if z_7 = 0 then
    some (-1 : Int32)
    else
    (op_gR M 6 o 0).bind fun x_9 =>
    (op_is M x_9 3).bind fun _ =>
    (f_X3_valueAt x_9 a1 a2 M).bind fun z_10 =>
    some z_10
set_option maxHeartbeats 4000000 in
set_option maxRecDepth 100000 in
theorem c_X6_value (l : Launch) (D : va_G) (cA : Nat → ClassId) (ad : Nat → Nat) (o : Nat) (a1 : Int32) (a2 : Int32) (M : Mm) (zr : Int32) (hf : f_X6_value o a1 a2 M = some zr) : KI l yX6_value cX6_value 3 (some .int) rm_X6_value D cA ad [.ref (ad o), .int a1, .int a2] M zr M := by
  refine KI_of (by decide) (Nat.le_of_ble_eq_true rfl) ?_
  intro p e s m args below meth c ls Q A H locs hZ hE hl hret
  have hx := hZ.1
  have hb := hZ.2.1
  have hown := hZ.2.2.2.1
  have hts := hZ.2.2.2.2.1
  have hl : lv_has ls 3 [(0, .ref (ad o)), (1, .int a1), (2, .int a2)] := hl
  unfold f_X6_value at hf
  refine lv_aload_n hx hb dX6_value_0 rfl (lv_at hl 0 rfl) ?_
  obtain ⟨_, i_1, hf⟩ := b_some hf
  obtain ⟨z_1, c_1, hf⟩ := b_some hf
  refine xx_cVi hZ hE (As := []) (rest := []) k_X6 (is_m i_1) tw_38 tw_39 (c_X6_hasModel l D cA ad o M _ c_1) cw_X6_hasModel tw_36 ⟨rfl, rfl⟩ ⟨Nat.le_of_ble_eq_true rfl, Nat.le_of_ble_eq_true rfl⟩ rfl hl.1 rfl (Nat.le_of_ble_eq_true rfl) ⟨Nat.le_of_ble_eq_true rfl, Nat.le_of_ble_eq_true rfl⟩ dX6_value_1 (fun H locs hE => ?_)
  refine lv_if_ne (tgt := 10) hx hb dX6_value_4 (by decide) (fun h_2 => ?_) (fun h_2 => ?_)
  · have hf := it_n h_2 hf
    refine lv_aload_n hx hb dX6_value_10 rfl (lv_at hl 0 rfl) ?_
    obtain ⟨x_3, g_3, hf⟩ := b_some hf
    refine xx_gR hZ hE k_X6 0 (by decide) rfl tw_20 g_3 dX6_value_11 ?_
    refine lv_iload_n hx hb dX6_value_14 rfl (lv_at hl 1 rfl) ?_
    obtain ⟨_, i_4, hf⟩ := b_some hf
    obtain ⟨z_4, c_4, hf⟩ := b_some hf
    refine xx_cVNi hZ hE (As := [.int a1]) (rest := []) k_X3 (is_m i_4) tw_41 tw_42 (c_X3_isState l D cA ad x_3 a1 M _ c_4) cw_X3_isState tw_40 ⟨rfl, rfl⟩ ⟨Nat.le_of_ble_eq_true rfl, Nat.le_of_ble_eq_true rfl⟩ rfl hl.1 rfl (Nat.le_of_ble_eq_true rfl) ⟨Nat.le_of_ble_eq_true rfl, Nat.le_of_ble_eq_true rfl⟩ dX6_value_15 (fun H locs hE => ?_)
    refine lv_if_eq (tgt := 32) hx hb dX6_value_18 (by decide) (fun h_5 => ?_) (fun h_5 => ?_)
    · have hf := it_y h_5 hf
      refine lv_iconst (v := -1) hx hb dX6_value_32 (by decide) ?_
      exact hret _ _ _ _ _ _ (Option.some.inj hf) rfl rfl dX6_value_33 hE
    · have hf := it_n h_5 hf
      refine lv_aload_n hx hb dX6_value_21 rfl (lv_at hl 0 rfl) ?_
      obtain ⟨x_6, g_6, hf⟩ := b_some hf
      refine xx_gR hZ hE k_X6 0 (by decide) rfl tw_20 g_6 dX6_value_22 ?_
      refine lv_iload_n hx hb dX6_value_25 rfl (lv_at hl 2 rfl) ?_
      obtain ⟨_, i_7, hf⟩ := b_some hf
      obtain ⟨z_7, c_7, hf⟩ := b_some hf
      refine xx_cVNi hZ hE (As := [.int a2]) (rest := []) k_X3 (is_m i_7) tw_45 tw_46 (c_X3_isPlace l D cA ad x_6 a2 M _ c_7) cw_X3_isPlace tw_53 ⟨rfl, rfl⟩ ⟨Nat.le_of_ble_eq_true rfl, Nat.le_of_ble_eq_true rfl⟩ rfl hl.1 rfl (Nat.le_of_ble_eq_true rfl) ⟨Nat.le_of_ble_eq_true rfl, Nat.le_of_ble_eq_true rfl⟩ dX6_value_26 (fun H locs hE => ?_)
      refine lv_if_ne (tgt := 34) hx hb dX6_value_29 (by decide) (fun h_8 => ?_) (fun h_8 => ?_)
      · have hf := it_n h_8 hf
        refine lv_aload_n hx hb dX6_value_34 rfl (lv_at hl 0 rfl) ?_
        obtain ⟨x_9, g_9, hf⟩ := b_some hf
        refine xx_gR hZ hE k_X6 0 (by decide) rfl tw_20 g_9 dX6_value_35 ?_
        refine lv_iload_n hx hb dX6_value_38 rfl (lv_at hl 1 rfl) ?_
        refine lv_iload_n hx hb dX6_value_39 rfl (lv_at hl 2 rfl) ?_
        obtain ⟨_, i_10, hf⟩ := b_some hf
        obtain ⟨z_10, c_10, hf⟩ := b_some hf
        refine xx_cVNi hZ hE (As := [.int a1, .int a2]) (rest := []) k_X3 (is_m i_10) tw_55 tw_56 (c_X3_valueAt l D cA ad x_9 a1 a2 M _ c_10) cw_X3_valueAt tw_54 ⟨rfl, rfl⟩ ⟨Nat.le_of_ble_eq_true rfl, Nat.le_of_ble_eq_true rfl⟩ rfl hl.1 rfl (Nat.le_of_ble_eq_true rfl) ⟨Nat.le_of_ble_eq_true rfl, Nat.le_of_ble_eq_true rfl⟩ dX6_value_40 (fun H locs hE => ?_)
        exact hret _ _ _ _ _ _ (Option.some.inj hf) rfl rfl dX6_value_43 hE
      · have hf := it_y h_8 hf
        refine lv_iconst (v := -1) hx hb dX6_value_32 (by decide) ?_
        exact hret _ _ _ _ _ _ (Option.some.inj hf) rfl rfl dX6_value_33 hE
  · have hf := it_y h_2 hf
    refine lv_bipush (v := -2) hx hb dX6_value_7 (by decide) ?_
    exact hret _ _ _ _ _ _ (Option.some.inj hf) rfl rfl dX6_value_9 hE
def rm_X6_isMove : Room := { frames := 0, cells := 0, slots := 0, locals := 0 }
def f_X6_isMove (o : Nat) (a1 : Int32) (M : Mm) : Option (Int32) :=
    if a1 < 0 then
    some (0 : Int32)
    else
    (op_gI M 6 o 5).bind fun x_2 =>
    if x_2 ≤ a1 then
    some (0 : Int32)
    else
    some (1 : Int32)
set_option maxHeartbeats 4000000 in
set_option maxRecDepth 100000 in
theorem c_X6_isMove (l : Launch) (D : va_G) (cA : Nat → ClassId) (ad : Nat → Nat) (o : Nat) (a1 : Int32) (M : Mm) (zr : Int32) (hf : f_X6_isMove o a1 M = some zr) : KI l yX6_isMove cX6_isMove 2 (some .boolean) rm_X6_isMove D cA ad [.ref (ad o), .int a1] M zr M := by
  refine KI_of (by decide) (Nat.le_of_ble_eq_true rfl) ?_
  intro p e s m args below meth c ls Q A H locs hZ hE hl hret
  have hx := hZ.1
  have hb := hZ.2.1
  have hown := hZ.2.2.2.1
  have hts := hZ.2.2.2.2.1
  have hl : lv_has ls 2 [(0, .ref (ad o)), (1, .int a1)] := hl
  unfold f_X6_isMove at hf
  refine lv_iload_n hx hb dX6_isMove_0 rfl (lv_at hl 1 rfl) ?_
  refine lv_if_lt (tgt := 16) hx hb dX6_isMove_1 (by decide) (fun h_1 => ?_) (fun h_1 => ?_)
  · have hf := it_y h_1 hf
    refine lv_iconst (v := 0) hx hb dX6_isMove_16 (by decide) ?_
    exact hret _ _ _ _ _ _ (Option.some.inj hf) rfl rfl dX6_isMove_17 hE
  · have hf := it_n h_1 hf
    refine lv_iload_n hx hb dX6_isMove_4 rfl (lv_at hl 1 rfl) ?_
    refine lv_aload_n hx hb dX6_isMove_5 rfl (lv_at hl 0 rfl) ?_
    obtain ⟨x_2, g_2, hf⟩ := b_some hf
    refine xx_gI hZ hE k_X6 5 (by decide) rfl tw_24 g_2 dX6_isMove_6 ?_
    refine lv_icmp_ge (tgt := 16) hx hb dX6_isMove_9 (by decide) (fun h_3 => ?_) (fun h_3 => ?_)
    · have hf := it_y h_3 hf
      refine lv_iconst (v := 0) hx hb dX6_isMove_16 (by decide) ?_
      exact hret _ _ _ _ _ _ (Option.some.inj hf) rfl rfl dX6_isMove_17 hE
    · have hf := it_n h_3 hf
      refine lv_iconst (v := 1) hx hb dX6_isMove_12 (by decide) ?_
      refine lv_goto (tgt := 17) hx hb dX6_isMove_13 (by decide) ?_
      exact hret _ _ _ _ _ _ (Option.some.inj hf) rfl rfl dX6_isMove_17 hE
def rm_X6_canName : Room := { frames := 1, cells := 0, slots := 0, locals := 21 }
def f_X6_canName (o : Nat) (a1 : Int32) (a2 : Int32) (a3 : Int32) (M : Mm) : Option (Int32) :=
    if a1 = 0 then
    (op_gR M 6 o 0).bind fun x_2 =>
    (op_is M x_2 3).bind fun _ =>
    (f_X3_isPlace x_2 a2 M).bind fun z_3 =>
    (op_rz z_3).bind fun z_4 =>
    some z_4
    else
    if a1 = 1 then
    (op_gR M 6 o 0).bind fun x_6 =>
    (op_is M x_6 3).bind fun _ =>
    (f_X3_isPlace x_6 a2 M).bind fun z_7 =>
    (op_rz z_7).bind fun z_8 =>
    some z_8
    else
    if a1 = 2 then
    (op_gR M 6 o 0).bind fun x_10 =>
    (op_is M x_10 3).bind fun _ =>
    (f_X3_isPlace x_10 a2 M).bind fun z_11 =>
    if z_11 = 0 then
    some (0 : Int32)
    else
    (op_gR M 6 o 0).bind fun x_13 =>
    (op_is M x_13 3).bind fun _ =>
    (f_X3_isPlace x_13 a3 M).bind fun z_14 =>
    if z_14 = 0 then
    some (0 : Int32)
    else
    if a2 = a3 then
    some (0 : Int32)
    else
    (op_gR M 6 o 0).bind fun x_17 =>
    (op_gR M 3 x_17 2).bind fun x_18 =>
    (op_aI M x_18 a2).bind fun x_19 =>
    (op_gR M 6 o 0).bind fun x_20 =>
    (op_gR M 3 x_20 2).bind fun x_21 =>
    (op_aI M x_21 a3).bind fun x_22 =>
    if x_19 = x_22 then
    some (1 : Int32)
    else
    some (0 : Int32)
    else
    if a1 = 3 then
    some (1 : Int32)
    else
    if a1 = 4 then
    (op_gR M 6 o 0).bind fun x_26 =>
    (op_is M x_26 3).bind fun _ =>
    (f_X3_isPlace x_26 a2 M).bind fun z_27 =>
    (op_rz z_27).bind fun z_28 =>
    some z_28
    else
    if a1 = 5 then
    (op_is M o 6).bind fun _ =>
    (f_X6_isMove o a2 M).bind fun z_30 =>
    if z_30 = 0 then
    some (0 : Int32)
    else
    (op_is M o 6).bind fun _ =>
    (f_X6_isMove o a3 M).bind fun z_32 =>
    if z_32 = 0 then
    some (0 : Int32)
    else
    some (1 : Int32)
    else
    if a1 = 6 then
    (op_is M o 6).bind fun _ =>
    (f_X6_isMove o a2 M).bind fun z_35 =>
    if z_35 = 0 then
    some (0 : Int32)
    else
    (op_is M o 6).bind fun _ =>
    (f_X6_isMove o a3 M).bind fun z_37 =>
    if z_37 = 0 then
    some (0 : Int32)
    else
    some (1 : Int32)
    else
    some (0 : Int32)
set_option maxHeartbeats 4000000 in
set_option maxRecDepth 100000 in
theorem c_X6_canName (l : Launch) (D : va_G) (cA : Nat → ClassId) (ad : Nat → Nat) (o : Nat) (a1 : Int32) (a2 : Int32) (a3 : Int32) (M : Mm) (zr : Int32) (hf : f_X6_canName o a1 a2 a3 M = some zr) : KI l yX6_canName cX6_canName 4 (some .boolean) rm_X6_canName D cA ad [.ref (ad o), .int a1, .int a2, .int a3] M zr M := by
  refine KI_of (by decide) (Nat.le_of_ble_eq_true rfl) ?_
  intro p e s m args below meth c ls Q A H locs hZ hE hl hret
  have hx := hZ.1
  have hb := hZ.2.1
  have hown := hZ.2.2.2.1
  have hts := hZ.2.2.2.2.1
  have hl : lv_has ls 4 [(0, .ref (ad o)), (1, .int a1), (2, .int a2), (3, .int a3)] := hl
  unfold f_X6_canName at hf
  refine lv_iload_n hx hb dX6_canName_0 rfl (lv_at hl 1 rfl) ?_
  by_cases h_1 : a1 = 0
  · have hf := it_y h_1 hf
    refine xx_tsw (off := 43) (tgt := 44) hx hb dX6_canName_1 0 h_1 (by decide) (by decide) ?_
    refine lv_aload_n hx hb dX6_canName_44 rfl (lv_at hl 0 rfl) ?_
    obtain ⟨x_2, g_2, hf⟩ := b_some hf
    refine xx_gR hZ hE k_X6 0 (by decide) rfl tw_20 g_2 dX6_canName_45 ?_
    refine lv_iload_n hx hb dX6_canName_48 rfl (lv_at hl 2 rfl) ?_
    obtain ⟨_, i_3, hf⟩ := b_some hf
    obtain ⟨z_3, c_3, hf⟩ := b_some hf
    refine xx_cVNi hZ hE (As := [.int a2]) (rest := []) k_X3 (is_m i_3) tw_45 tw_46 (c_X3_isPlace l D cA ad x_2 a2 M _ c_3) cw_X3_isPlace tw_53 ⟨rfl, rfl⟩ ⟨Nat.le_of_ble_eq_true rfl, Nat.le_of_ble_eq_true rfl⟩ rfl hl.1 rfl (Nat.le_of_ble_eq_true rfl) ⟨Nat.le_of_ble_eq_true rfl, Nat.le_of_ble_eq_true rfl⟩ dX6_canName_49 (fun H locs hE => ?_)
    obtain ⟨z_4, r_4, hf⟩ := b_some hf
    obtain ⟨e_4, r_4⟩ := rz_m r_4
    exact hret _ _ _ _ _ _ (e_4.symm.trans (Option.some.inj hf)) rfl r_4 dX6_canName_52 hE
  · have hf := it_n h_1 hf
    by_cases h_5 : a1 = 1
    · have hf := it_y h_5 hf
      refine xx_tsw (off := 43) (tgt := 44) hx hb dX6_canName_1 1 h_5 (by decide) (by decide) ?_
      refine lv_aload_n hx hb dX6_canName_44 rfl (lv_at hl 0 rfl) ?_
      obtain ⟨x_6, g_6, hf⟩ := b_some hf
      refine xx_gR hZ hE k_X6 0 (by decide) rfl tw_20 g_6 dX6_canName_45 ?_
      refine lv_iload_n hx hb dX6_canName_48 rfl (lv_at hl 2 rfl) ?_
      obtain ⟨_, i_7, hf⟩ := b_some hf
      obtain ⟨z_7, c_7, hf⟩ := b_some hf
      refine xx_cVNi hZ hE (As := [.int a2]) (rest := []) k_X3 (is_m i_7) tw_45 tw_46 (c_X3_isPlace l D cA ad x_6 a2 M _ c_7) cw_X3_isPlace tw_53 ⟨rfl, rfl⟩ ⟨Nat.le_of_ble_eq_true rfl, Nat.le_of_ble_eq_true rfl⟩ rfl hl.1 rfl (Nat.le_of_ble_eq_true rfl) ⟨Nat.le_of_ble_eq_true rfl, Nat.le_of_ble_eq_true rfl⟩ dX6_canName_49 (fun H locs hE => ?_)
      obtain ⟨z_8, r_8, hf⟩ := b_some hf
      obtain ⟨e_8, r_8⟩ := rz_m r_8
      exact hret _ _ _ _ _ _ (e_8.symm.trans (Option.some.inj hf)) rfl r_8 dX6_canName_52 hE
    · have hf := it_n h_5 hf
      by_cases h_9 : a1 = 2
      · have hf := it_y h_9 hf
        refine xx_tsw (off := 52) (tgt := 53) hx hb dX6_canName_1 2 h_9 (by decide) (by decide) ?_
        refine lv_aload_n hx hb dX6_canName_53 rfl (lv_at hl 0 rfl) ?_
        obtain ⟨x_10, g_10, hf⟩ := b_some hf
        refine xx_gR hZ hE k_X6 0 (by decide) rfl tw_20 g_10 dX6_canName_54 ?_
        refine lv_iload_n hx hb dX6_canName_57 rfl (lv_at hl 2 rfl) ?_
        obtain ⟨_, i_11, hf⟩ := b_some hf
        obtain ⟨z_11, c_11, hf⟩ := b_some hf
        refine xx_cVNi hZ hE (As := [.int a2]) (rest := []) k_X3 (is_m i_11) tw_45 tw_46 (c_X3_isPlace l D cA ad x_10 a2 M _ c_11) cw_X3_isPlace tw_53 ⟨rfl, rfl⟩ ⟨Nat.le_of_ble_eq_true rfl, Nat.le_of_ble_eq_true rfl⟩ rfl hl.1 rfl (Nat.le_of_ble_eq_true rfl) ⟨Nat.le_of_ble_eq_true rfl, Nat.le_of_ble_eq_true rfl⟩ dX6_canName_58 (fun H locs hE => ?_)
        refine lv_if_eq (tgt := 105) hx hb dX6_canName_61 (by decide) (fun h_12 => ?_) (fun h_12 => ?_)
        · have hf := it_y h_12 hf
          refine lv_iconst (v := 0) hx hb dX6_canName_105 (by decide) ?_
          exact hret _ _ _ _ _ _ (Option.some.inj hf) rfl rfl dX6_canName_106 hE
        · have hf := it_n h_12 hf
          refine lv_aload_n hx hb dX6_canName_64 rfl (lv_at hl 0 rfl) ?_
          obtain ⟨x_13, g_13, hf⟩ := b_some hf
          refine xx_gR hZ hE k_X6 0 (by decide) rfl tw_20 g_13 dX6_canName_65 ?_
          refine lv_iload_n hx hb dX6_canName_68 rfl (lv_at hl 3 rfl) ?_
          obtain ⟨_, i_14, hf⟩ := b_some hf
          obtain ⟨z_14, c_14, hf⟩ := b_some hf
          refine xx_cVNi hZ hE (As := [.int a3]) (rest := []) k_X3 (is_m i_14) tw_45 tw_46 (c_X3_isPlace l D cA ad x_13 a3 M _ c_14) cw_X3_isPlace tw_53 ⟨rfl, rfl⟩ ⟨Nat.le_of_ble_eq_true rfl, Nat.le_of_ble_eq_true rfl⟩ rfl hl.1 rfl (Nat.le_of_ble_eq_true rfl) ⟨Nat.le_of_ble_eq_true rfl, Nat.le_of_ble_eq_true rfl⟩ dX6_canName_69 (fun H locs hE => ?_)
          refine lv_if_eq (tgt := 105) hx hb dX6_canName_72 (by decide) (fun h_15 => ?_) (fun h_15 => ?_)
          · have hf := it_y h_15 hf
            refine lv_iconst (v := 0) hx hb dX6_canName_105 (by decide) ?_
            exact hret _ _ _ _ _ _ (Option.some.inj hf) rfl rfl dX6_canName_106 hE
          · have hf := it_n h_15 hf
            refine lv_iload_n hx hb dX6_canName_75 rfl (lv_at hl 2 rfl) ?_
            refine lv_iload_n hx hb dX6_canName_76 rfl (lv_at hl 3 rfl) ?_
            refine lv_icmp_eq (tgt := 105) hx hb dX6_canName_77 (by decide) (fun h_16 => ?_) (fun h_16 => ?_)
            · have hf := it_y h_16 hf
              refine lv_iconst (v := 0) hx hb dX6_canName_105 (by decide) ?_
              exact hret _ _ _ _ _ _ (Option.some.inj hf) rfl rfl dX6_canName_106 hE
            · have hf := it_n h_16 hf
              refine lv_aload_n hx hb dX6_canName_80 rfl (lv_at hl 0 rfl) ?_
              obtain ⟨x_17, g_17, hf⟩ := b_some hf
              refine xx_gR hZ hE k_X6 0 (by decide) rfl tw_20 g_17 dX6_canName_81 ?_
              obtain ⟨x_18, g_18, hf⟩ := b_some hf
              refine xx_gRN hZ hE k_X3 2 (by decide) rfl tw_57 g_18 dX6_canName_84 ?_
              refine lv_iload_n hx hb dX6_canName_87 rfl (lv_at hl 2 rfl) ?_
              obtain ⟨x_19, g_19, hf⟩ := b_some hf
              refine xx_aI hZ hE g_19 dX6_canName_88 ?_
              refine lv_aload_n hx hb dX6_canName_89 rfl (lv_at hl 0 rfl) ?_
              obtain ⟨x_20, g_20, hf⟩ := b_some hf
              refine xx_gR hZ hE k_X6 0 (by decide) rfl tw_20 g_20 dX6_canName_90 ?_
              obtain ⟨x_21, g_21, hf⟩ := b_some hf
              refine xx_gRN hZ hE k_X3 2 (by decide) rfl tw_57 g_21 dX6_canName_93 ?_
              refine lv_iload_n hx hb dX6_canName_96 rfl (lv_at hl 3 rfl) ?_
              obtain ⟨x_22, g_22, hf⟩ := b_some hf
              refine xx_aI hZ hE g_22 dX6_canName_97 ?_
              refine lv_icmp_ne (tgt := 105) hx hb dX6_canName_98 (by decide) (fun h_23 => ?_) (fun h_23 => ?_)
              · have hf := it_n h_23 hf
                refine lv_iconst (v := 0) hx hb dX6_canName_105 (by decide) ?_
                exact hret _ _ _ _ _ _ (Option.some.inj hf) rfl rfl dX6_canName_106 hE
              · have hf := it_y h_23 hf
                refine lv_iconst (v := 1) hx hb dX6_canName_101 (by decide) ?_
                refine lv_goto (tgt := 106) hx hb dX6_canName_102 (by decide) ?_
                exact hret _ _ _ _ _ _ (Option.some.inj hf) rfl rfl dX6_canName_106 hE
      · have hf := it_n h_9 hf
        by_cases h_24 : a1 = 3
        · have hf := it_y h_24 hf
          refine xx_tsw (off := 106) (tgt := 107) hx hb dX6_canName_1 3 h_24 (by decide) (by decide) ?_
          refine lv_iconst (v := 1) hx hb dX6_canName_107 (by decide) ?_
          exact hret _ _ _ _ _ _ (Option.some.inj hf) rfl rfl dX6_canName_108 hE
        · have hf := it_n h_24 hf
          by_cases h_25 : a1 = 4
          · have hf := it_y h_25 hf
            refine xx_tsw (off := 43) (tgt := 44) hx hb dX6_canName_1 4 h_25 (by decide) (by decide) ?_
            refine lv_aload_n hx hb dX6_canName_44 rfl (lv_at hl 0 rfl) ?_
            obtain ⟨x_26, g_26, hf⟩ := b_some hf
            refine xx_gR hZ hE k_X6 0 (by decide) rfl tw_20 g_26 dX6_canName_45 ?_
            refine lv_iload_n hx hb dX6_canName_48 rfl (lv_at hl 2 rfl) ?_
            obtain ⟨_, i_27, hf⟩ := b_some hf
            obtain ⟨z_27, c_27, hf⟩ := b_some hf
            refine xx_cVNi hZ hE (As := [.int a2]) (rest := []) k_X3 (is_m i_27) tw_45 tw_46 (c_X3_isPlace l D cA ad x_26 a2 M _ c_27) cw_X3_isPlace tw_53 ⟨rfl, rfl⟩ ⟨Nat.le_of_ble_eq_true rfl, Nat.le_of_ble_eq_true rfl⟩ rfl hl.1 rfl (Nat.le_of_ble_eq_true rfl) ⟨Nat.le_of_ble_eq_true rfl, Nat.le_of_ble_eq_true rfl⟩ dX6_canName_49 (fun H locs hE => ?_)
            obtain ⟨z_28, r_28, hf⟩ := b_some hf
            obtain ⟨e_28, r_28⟩ := rz_m r_28
            exact hret _ _ _ _ _ _ (e_28.symm.trans (Option.some.inj hf)) rfl r_28 dX6_canName_52 hE
          · have hf := it_n h_25 hf
            by_cases h_29 : a1 = 5
            · have hf := it_y h_29 hf
              refine xx_tsw (off := 108) (tgt := 109) hx hb dX6_canName_1 5 h_29 (by decide) (by decide) ?_
              refine lv_aload_n hx hb dX6_canName_109 rfl (lv_at hl 0 rfl) ?_
              refine lv_iload_n hx hb dX6_canName_110 rfl (lv_at hl 2 rfl) ?_
              obtain ⟨_, i_30, hf⟩ := b_some hf
              obtain ⟨z_30, c_30, hf⟩ := b_some hf
              refine xx_cVi hZ hE (As := [.int a2]) (rest := []) k_X6 (is_m i_30) tw_59 tw_60 (c_X6_isMove l D cA ad o a2 M _ c_30) cw_X6_isMove tw_58 ⟨rfl, rfl⟩ ⟨Nat.le_of_ble_eq_true rfl, Nat.le_of_ble_eq_true rfl⟩ rfl hl.1 rfl (Nat.le_of_ble_eq_true rfl) ⟨Nat.le_of_ble_eq_true rfl, Nat.le_of_ble_eq_true rfl⟩ dX6_canName_111 (fun H locs hE => ?_)
              refine lv_if_eq (tgt := 129) hx hb dX6_canName_114 (by decide) (fun h_31 => ?_) (fun h_31 => ?_)
              · have hf := it_y h_31 hf
                refine lv_iconst (v := 0) hx hb dX6_canName_129 (by decide) ?_
                exact hret _ _ _ _ _ _ (Option.some.inj hf) rfl rfl dX6_canName_130 hE
              · have hf := it_n h_31 hf
                refine lv_aload_n hx hb dX6_canName_117 rfl (lv_at hl 0 rfl) ?_
                refine lv_iload_n hx hb dX6_canName_118 rfl (lv_at hl 3 rfl) ?_
                obtain ⟨_, i_32, hf⟩ := b_some hf
                obtain ⟨z_32, c_32, hf⟩ := b_some hf
                refine xx_cVi hZ hE (As := [.int a3]) (rest := []) k_X6 (is_m i_32) tw_59 tw_60 (c_X6_isMove l D cA ad o a3 M _ c_32) cw_X6_isMove tw_58 ⟨rfl, rfl⟩ ⟨Nat.le_of_ble_eq_true rfl, Nat.le_of_ble_eq_true rfl⟩ rfl hl.1 rfl (Nat.le_of_ble_eq_true rfl) ⟨Nat.le_of_ble_eq_true rfl, Nat.le_of_ble_eq_true rfl⟩ dX6_canName_119 (fun H locs hE => ?_)
                refine lv_if_eq (tgt := 129) hx hb dX6_canName_122 (by decide) (fun h_33 => ?_) (fun h_33 => ?_)
                · have hf := it_y h_33 hf
                  refine lv_iconst (v := 0) hx hb dX6_canName_129 (by decide) ?_
                  exact hret _ _ _ _ _ _ (Option.some.inj hf) rfl rfl dX6_canName_130 hE
                · have hf := it_n h_33 hf
                  refine lv_iconst (v := 1) hx hb dX6_canName_125 (by decide) ?_
                  refine lv_goto (tgt := 130) hx hb dX6_canName_126 (by decide) ?_
                  exact hret _ _ _ _ _ _ (Option.some.inj hf) rfl rfl dX6_canName_130 hE
            · have hf := it_n h_29 hf
              by_cases h_34 : a1 = 6
              · have hf := it_y h_34 hf
                refine xx_tsw (off := 108) (tgt := 109) hx hb dX6_canName_1 6 h_34 (by decide) (by decide) ?_
                refine lv_aload_n hx hb dX6_canName_109 rfl (lv_at hl 0 rfl) ?_
                refine lv_iload_n hx hb dX6_canName_110 rfl (lv_at hl 2 rfl) ?_
                obtain ⟨_, i_35, hf⟩ := b_some hf
                obtain ⟨z_35, c_35, hf⟩ := b_some hf
                refine xx_cVi hZ hE (As := [.int a2]) (rest := []) k_X6 (is_m i_35) tw_59 tw_60 (c_X6_isMove l D cA ad o a2 M _ c_35) cw_X6_isMove tw_58 ⟨rfl, rfl⟩ ⟨Nat.le_of_ble_eq_true rfl, Nat.le_of_ble_eq_true rfl⟩ rfl hl.1 rfl (Nat.le_of_ble_eq_true rfl) ⟨Nat.le_of_ble_eq_true rfl, Nat.le_of_ble_eq_true rfl⟩ dX6_canName_111 (fun H locs hE => ?_)
                refine lv_if_eq (tgt := 129) hx hb dX6_canName_114 (by decide) (fun h_36 => ?_) (fun h_36 => ?_)
                · have hf := it_y h_36 hf
                  refine lv_iconst (v := 0) hx hb dX6_canName_129 (by decide) ?_
                  exact hret _ _ _ _ _ _ (Option.some.inj hf) rfl rfl dX6_canName_130 hE
                · have hf := it_n h_36 hf
                  refine lv_aload_n hx hb dX6_canName_117 rfl (lv_at hl 0 rfl) ?_
                  refine lv_iload_n hx hb dX6_canName_118 rfl (lv_at hl 3 rfl) ?_
                  obtain ⟨_, i_37, hf⟩ := b_some hf
                  obtain ⟨z_37, c_37, hf⟩ := b_some hf
                  refine xx_cVi hZ hE (As := [.int a3]) (rest := []) k_X6 (is_m i_37) tw_59 tw_60 (c_X6_isMove l D cA ad o a3 M _ c_37) cw_X6_isMove tw_58 ⟨rfl, rfl⟩ ⟨Nat.le_of_ble_eq_true rfl, Nat.le_of_ble_eq_true rfl⟩ rfl hl.1 rfl (Nat.le_of_ble_eq_true rfl) ⟨Nat.le_of_ble_eq_true rfl, Nat.le_of_ble_eq_true rfl⟩ dX6_canName_119 (fun H locs hE => ?_)
                  refine lv_if_eq (tgt := 129) hx hb dX6_canName_122 (by decide) (fun h_38 => ?_) (fun h_38 => ?_)
                  · have hf := it_y h_38 hf
                    refine lv_iconst (v := 0) hx hb dX6_canName_129 (by decide) ?_
                    exact hret _ _ _ _ _ _ (Option.some.inj hf) rfl rfl dX6_canName_130 hE
                  · have hf := it_n h_38 hf
                    refine lv_iconst (v := 1) hx hb dX6_canName_125 (by decide) ?_
                    refine lv_goto (tgt := 130) hx hb dX6_canName_126 (by decide) ?_
                    exact hret _ _ _ _ _ _ (Option.some.inj hf) rfl rfl dX6_canName_130 hE
              · have hf := it_n h_34 hf
                have sw := (⟨i32m h_1 (n := 0) (by decide), i32m h_5 (n := 1) (by decide), i32m h_9 (n := 2) (by decide), i32m h_24 (n := 3) (by decide), i32m h_25 (n := 4) (by decide), i32m h_29 (n := 5) (by decide), i32m h_34 (n := 6) (by decide), trivial⟩ : a1.toInt ≠ 0 ∧ a1.toInt ≠ 1 ∧ a1.toInt ≠ 2 ∧ a1.toInt ≠ 3 ∧ a1.toInt ≠ 4 ∧ a1.toInt ≠ 5 ∧ a1.toInt ≠ 6 ∧ True)
                refine lv_tableOut (tgt := 131) hx hb dX6_canName_1 (by omega) (by decide) ?_
                refine lv_iconst (v := 0) hx hb dX6_canName_131 (by decide) ?_
                exact hret _ _ _ _ _ _ (Option.some.inj hf) rfl rfl dX6_canName_132 hE
def rm_X6_depthOf : Room := { frames := 1, cells := 0, slots := 0, locals := 21 }
def f_X6_depthOf (o : Nat) (a1 : Int32) (a2 : Int32) (a3 : Int32) (M : Mm) : Option (Int32) :=
    if (if a1 = (5 : Int32) then (1 : Int32) else (if a1 = (6 : Int32) then (1 : Int32) else (0 : Int32))) = 0 then
    some (0 : Int32)
    else
    (op_is M o 6).bind fun _ =>
    (f_X6_isMove o a2 M).bind fun z_3 =>
    if z_3 = 0 then
    some (0 : Int32)
    else
    (op_is M o 6).bind fun _ =>
    (f_X6_isMove o a3 M).bind fun z_5 =>
    if z_5 = 0 then
    some (0 : Int32)
    else
    (op_gR M 6 o 1).bind fun x_7 =>
    (op_aR M x_7 a2).bind fun x_8 =>
    (op_gI M 2 x_8 5).bind fun x_9 =>
    (op_gR M 6 o 1).bind fun x_10 =>
    (op_aR M x_10 a3).bind fun x_11 =>
    (op_gI M 2 x_11 5).bind fun x_12 =>
    some ((1 : Int32) + (if x_9 < x_12 then x_12 else x_9))
set_option maxHeartbeats 4000000 in
set_option maxRecDepth 100000 in
theorem c_X6_depthOf (l : Launch) (D : va_G) (cA : Nat → ClassId) (ad : Nat → Nat) (o : Nat) (a1 : Int32) (a2 : Int32) (a3 : Int32) (M : Mm) (zr : Int32) (hf : f_X6_depthOf o a1 a2 a3 M = some zr) : KI l yX6_depthOf cX6_depthOf 5 (some .int) rm_X6_depthOf D cA ad [.ref (ad o), .int a1, .int a2, .int a3] M zr M := by
  refine KI_of (by decide) (Nat.le_of_ble_eq_true rfl) ?_
  intro p e s m args below meth c ls Q A H locs hZ hE hl hret
  have hx := hZ.1
  have hb := hZ.2.1
  have hown := hZ.2.2.2.1
  have hts := hZ.2.2.2.2.1
  have hl : lv_has ls 5 [(0, .ref (ad o)), (1, .int a1), (2, .int a2), (3, .int a3)] := hl
  unfold f_X6_depthOf at hf
  refine lv_iload_n hx hb dX6_depthOf_0 rfl (lv_at hl 1 rfl) ?_
  refine lv_iconst (v := 5) hx hb dX6_depthOf_1 (by decide) ?_
  have q_1 : ∀ x_1 : Int32, x_1 = (if a1 = (5 : Int32) then (1 : Int32) else (if a1 = (6 : Int32) then (1 : Int32) else (0 : Int32))) → W p l e rm_X6_depthOf s m args below meth c H locs 0 0 Q (F0 m 16 ls [.int x_1]) := by
    intro x_1 e_1
    subst e_1
    refine lv_istore (lv' := [(4, .int (if a1 = (5 : Int32) then (1 : Int32) else (if a1 = (6 : Int32) then (1 : Int32) else (0 : Int32)))), (0, .ref (ad o)), (1, .int a1), (2, .int a2), (3, .int a3)]) hx hb dX6_depthOf_16 hl (by decide) rfl (fun ls hl => ?_)
    refine lv_iload hx hb dX6_depthOf_18 (lv_at hl 0 rfl) ?_
    refine lv_if_eq (tgt := 39) hx hb dX6_depthOf_20 (by decide) (fun h_2 => ?_) (fun h_2 => ?_)
    · have hf := it_y h_2 hf
      refine lv_iconst (v := 0) hx hb dX6_depthOf_39 (by decide) ?_
      exact hret _ _ _ _ _ _ (Option.some.inj hf) rfl rfl dX6_depthOf_40 hE
    · have hf := it_n h_2 hf
      refine lv_aload_n hx hb dX6_depthOf_23 rfl (lv_at hl 1 rfl) ?_
      refine lv_iload_n hx hb dX6_depthOf_24 rfl (lv_at hl 3 rfl) ?_
      obtain ⟨_, i_3, hf⟩ := b_some hf
      obtain ⟨z_3, c_3, hf⟩ := b_some hf
      refine xx_cVi hZ hE (As := [.int a2]) (rest := []) k_X6 (is_m i_3) tw_59 tw_60 (c_X6_isMove l D cA ad o a2 M _ c_3) cw_X6_isMove tw_58 ⟨rfl, rfl⟩ ⟨Nat.le_of_ble_eq_true rfl, Nat.le_of_ble_eq_true rfl⟩ rfl hl.1 rfl (Nat.le_of_ble_eq_true rfl) ⟨Nat.le_of_ble_eq_true rfl, Nat.le_of_ble_eq_true rfl⟩ dX6_depthOf_25 (fun H locs hE => ?_)
      refine lv_if_eq (tgt := 39) hx hb dX6_depthOf_28 (by decide) (fun h_4 => ?_) (fun h_4 => ?_)
      · have hf := it_y h_4 hf
        refine lv_iconst (v := 0) hx hb dX6_depthOf_39 (by decide) ?_
        exact hret _ _ _ _ _ _ (Option.some.inj hf) rfl rfl dX6_depthOf_40 hE
      · have hf := it_n h_4 hf
        refine lv_aload_n hx hb dX6_depthOf_31 rfl (lv_at hl 1 rfl) ?_
        refine lv_iload_n hx hb dX6_depthOf_32 rfl (lv_at hl 4 rfl) ?_
        obtain ⟨_, i_5, hf⟩ := b_some hf
        obtain ⟨z_5, c_5, hf⟩ := b_some hf
        refine xx_cVi hZ hE (As := [.int a3]) (rest := []) k_X6 (is_m i_5) tw_59 tw_60 (c_X6_isMove l D cA ad o a3 M _ c_5) cw_X6_isMove tw_58 ⟨rfl, rfl⟩ ⟨Nat.le_of_ble_eq_true rfl, Nat.le_of_ble_eq_true rfl⟩ rfl hl.1 rfl (Nat.le_of_ble_eq_true rfl) ⟨Nat.le_of_ble_eq_true rfl, Nat.le_of_ble_eq_true rfl⟩ dX6_depthOf_33 (fun H locs hE => ?_)
        refine lv_if_ne (tgt := 41) hx hb dX6_depthOf_36 (by decide) (fun h_6 => ?_) (fun h_6 => ?_)
        · have hf := it_n h_6 hf
          refine lv_iconst (v := 1) hx hb dX6_depthOf_41 (by decide) ?_
          refine lv_aload_n hx hb dX6_depthOf_42 rfl (lv_at hl 1 rfl) ?_
          obtain ⟨x_7, g_7, hf⟩ := b_some hf
          refine xx_gR hZ hE k_X6 1 (by decide) rfl tw_61 g_7 dX6_depthOf_43 ?_
          refine lv_iload_n hx hb dX6_depthOf_46 rfl (lv_at hl 3 rfl) ?_
          obtain ⟨x_8, g_8, hf⟩ := b_some hf
          refine xx_aR hZ hE g_8 dX6_depthOf_47 ?_
          obtain ⟨x_9, g_9, hf⟩ := b_some hf
          refine xx_gIN hZ hE k_X2 5 (by decide) rfl tw_62 g_9 dX6_depthOf_48 ?_
          refine lv_aload_n hx hb dX6_depthOf_51 rfl (lv_at hl 1 rfl) ?_
          obtain ⟨x_10, g_10, hf⟩ := b_some hf
          refine xx_gR hZ hE k_X6 1 (by decide) rfl tw_61 g_10 dX6_depthOf_52 ?_
          refine lv_iload_n hx hb dX6_depthOf_55 rfl (lv_at hl 4 rfl) ?_
          obtain ⟨x_11, g_11, hf⟩ := b_some hf
          refine xx_aR hZ hE g_11 dX6_depthOf_56 ?_
          obtain ⟨x_12, g_12, hf⟩ := b_some hf
          refine xx_gIN hZ hE k_X2 5 (by decide) rfl tw_62 g_12 dX6_depthOf_57 ?_
          refine va_mmax hx hb (hZ.2.2.1.trans hl.1.symm) hown (hts _ tw_63) (hts _ tw_4) (hts _ tw_5) (hts _ tw_6) (Nat.le_of_ble_eq_true rfl) (Nat.le_of_ble_eq_true rfl) (Nat.le_of_ble_eq_true rfl) (Nat.le_of_ble_eq_true rfl) dX6_depthOf_60 ?_
          refine lv_iadd hx hb dX6_depthOf_63 ?_
          exact hret _ _ _ _ _ _ (Option.some.inj hf) rfl rfl dX6_depthOf_64 hE
        · have hf := it_y h_6 hf
          refine lv_iconst (v := 0) hx hb dX6_depthOf_39 (by decide) ?_
          exact hret _ _ _ _ _ _ (Option.some.inj hf) rfl rfl dX6_depthOf_40 hE
  refine lv_icmp_eq (tgt := 11) hx hb dX6_depthOf_2 (by decide) (fun h_13 => ?_) (fun h_13 => ?_)
  · refine lv_iconst (v := 1) hx hb dX6_depthOf_11 (by decide) ?_
    refine lv_goto (tgt := 16) hx hb dX6_depthOf_12 (by decide) ?_
    exact q_1 _ (by rw [if_pos h_13])
  · refine lv_iload_n hx hb dX6_depthOf_5 rfl (lv_at hl 1 rfl) ?_
    refine lv_bipush (v := 6) hx hb dX6_depthOf_6 (by decide) ?_
    refine lv_icmp_ne (tgt := 15) hx hb dX6_depthOf_8 (by decide) (fun h_14 => ?_) (fun h_14 => ?_)
    · refine lv_iconst (v := 0) hx hb dX6_depthOf_15 (by decide) ?_
      exact q_1 _ (by rw [if_neg h_13, if_neg h_14])
    · refine lv_iconst (v := 1) hx hb dX6_depthOf_11 (by decide) ?_
      refine lv_goto (tgt := 16) hx hb dX6_depthOf_12 (by decide) ?_
      exact q_1 _ (by rw [if_neg h_13, if_pos h_14])
def rm_X2_become : Room := { frames := 1, cells := 0, slots := 0, locals := 23 }
def f_X2_become (o : Nat) (a1 : Int32) (a2 : Int32) (a3 : Int32) (a4 : Int32) (M : Mm) : Option (Mm) :=
    (op_pI M 2 o 0 a1).bind fun M_1 =>
    (op_pI M_1 2 o 1 a2).bind fun M_2 =>
    (op_pI M_2 2 o 2 a3).bind fun M_3 =>
    (op_pI M_3 2 o 3 (1 : Int32)).bind fun M_4 =>
    (op_pI M_4 2 o 4 (1 : Int32)).bind fun M_5 =>
    (op_pI M_5 2 o 5 a4).bind fun M_6 =>
    (op_gR M_6 2 o 6).bind fun x_7 =>
    (f_J7_fill_53178 x_7 (0 : Int32) M_6).bind fun z_8 =>
    (op_gR z_8 2 o 7).bind fun x_9 =>
    (f_J7_fill_53178 x_9 (0 : Int32) z_8).bind fun z_10 =>
    some z_10
set_option maxHeartbeats 4000000 in
set_option maxRecDepth 100000 in
theorem c_X2_become (l : Launch) (D : va_G) (cA : Nat → ClassId) (ad : Nat → Nat) (o : Nat) (a1 : Int32) (a2 : Int32) (a3 : Int32) (a4 : Int32) (M : Mm) (zr : Mm) (hf : f_X2_become o a1 a2 a3 a4 M = some zr) : KV l yX2_become cX2_become 5 none rm_X2_become D cA ad [.ref (ad o), .int a1, .int a2, .int a3, .int a4] M zr := by
  refine KV_of (by decide) (Nat.le_of_ble_eq_true rfl) ?_
  intro p e s m args below meth c ls Q A H locs hZ hE hl hret
  have hx := hZ.1
  have hb := hZ.2.1
  have hown := hZ.2.2.2.1
  have hts := hZ.2.2.2.2.1
  have hl : lv_has ls 5 [(0, .ref (ad o)), (1, .int a1), (2, .int a2), (3, .int a3), (4, .int a4)] := hl
  unfold f_X2_become at hf
  refine lv_aload_n hx hb dX2_become_0 rfl (lv_at hl 0 rfl) ?_
  refine lv_iload_n hx hb dX2_become_1 rfl (lv_at hl 1 rfl) ?_
  obtain ⟨M_1, g_1, hf⟩ := b_some hf
  refine xx_pI hZ hE k_X2 0 (by decide) rfl rfl rfl tw_64 g_1 dX2_become_2 (fun H locs hE => ?_)
  refine lv_aload_n hx hb dX2_become_5 rfl (lv_at hl 0 rfl) ?_
  refine lv_iload_n hx hb dX2_become_6 rfl (lv_at hl 2 rfl) ?_
  obtain ⟨M_2, g_2, hf⟩ := b_some hf
  refine xx_pI hZ hE k_X2 1 (by decide) rfl rfl rfl tw_65 g_2 dX2_become_7 (fun H locs hE => ?_)
  refine lv_aload_n hx hb dX2_become_10 rfl (lv_at hl 0 rfl) ?_
  refine lv_iload_n hx hb dX2_become_11 rfl (lv_at hl 3 rfl) ?_
  obtain ⟨M_3, g_3, hf⟩ := b_some hf
  refine xx_pI hZ hE k_X2 2 (by decide) rfl rfl rfl tw_66 g_3 dX2_become_12 (fun H locs hE => ?_)
  refine lv_aload_n hx hb dX2_become_15 rfl (lv_at hl 0 rfl) ?_
  refine lv_iconst (v := 1) hx hb dX2_become_16 (by decide) ?_
  obtain ⟨M_4, g_4, hf⟩ := b_some hf
  refine xx_pI hZ hE k_X2 3 (by decide) rfl rfl rfl tw_67 g_4 dX2_become_17 (fun H locs hE => ?_)
  refine lv_aload_n hx hb dX2_become_20 rfl (lv_at hl 0 rfl) ?_
  refine lv_iconst (v := 1) hx hb dX2_become_21 (by decide) ?_
  obtain ⟨M_5, g_5, hf⟩ := b_some hf
  refine xx_pI hZ hE k_X2 4 (by decide) rfl rfl rfl tw_68 g_5 dX2_become_22 (fun H locs hE => ?_)
  refine lv_aload_n hx hb dX2_become_25 rfl (lv_at hl 0 rfl) ?_
  refine lv_iload hx hb dX2_become_26 (lv_at hl 4 rfl) ?_
  obtain ⟨M_6, g_6, hf⟩ := b_some hf
  refine xx_pI hZ hE k_X2 5 (by decide) rfl rfl rfl tw_69 g_6 dX2_become_28 (fun H locs hE => ?_)
  refine lv_aload_n hx hb dX2_become_31 rfl (lv_at hl 0 rfl) ?_
  obtain ⟨x_7, g_7, hf⟩ := b_some hf
  refine xx_gR hZ hE k_X2 6 (by decide) rfl tw_70 g_7 dX2_become_32 ?_
  refine lv_iconst (v := 0) hx hb dX2_become_35 (by decide) ?_
  obtain ⟨z_8, c_8, hf⟩ := b_some hf
  refine xx_cSv hZ hE (As := [.ref (ad x_7), .int (0 : Int32)]) (rest := []) tw_15 (c_J7_fill_53178 l D cA ad x_7 (0 : Int32) M_6 _ c_8) cw_J7_fill_53178 tw_71 ⟨rfl, rfl⟩ ⟨Nat.le_of_ble_eq_true rfl, Nat.le_of_ble_eq_true rfl⟩ rfl hl.1 rfl (Nat.le_of_ble_eq_true rfl) ⟨Nat.le_of_ble_eq_true rfl, Nat.le_of_ble_eq_true rfl⟩ dX2_become_36 (fun H locs hE => ?_)
  refine lv_aload_n hx hb dX2_become_39 rfl (lv_at hl 0 rfl) ?_
  obtain ⟨x_9, g_9, hf⟩ := b_some hf
  refine xx_gR hZ hE k_X2 7 (by decide) rfl tw_72 g_9 dX2_become_40 ?_
  refine lv_iconst (v := 0) hx hb dX2_become_43 (by decide) ?_
  obtain ⟨z_10, c_10, hf⟩ := b_some hf
  refine xx_cSv hZ hE (As := [.ref (ad x_9), .int (0 : Int32)]) (rest := []) tw_15 (c_J7_fill_53178 l D cA ad x_9 (0 : Int32) z_8 _ c_10) cw_J7_fill_53178 tw_71 ⟨rfl, rfl⟩ ⟨Nat.le_of_ble_eq_true rfl, Nat.le_of_ble_eq_true rfl⟩ rfl hl.1 rfl (Nat.le_of_ble_eq_true rfl) ⟨Nat.le_of_ble_eq_true rfl, Nat.le_of_ble_eq_true rfl⟩ dX2_become_44 (fun H locs hE => ?_)
  exact hret _ _ _ _ _ (Option.some.inj hf) dX2_become_47 hE
def rm_X6_move : Room := { frames := 2, cells := 0, slots := 0, locals := 47 }
def f_X6_move (o : Nat) (a1 : Int32) (a2 : Int32) (a3 : Int32) (M : Mm) : Option (Int32 × Mm) :=
    (op_is M o 6).bind fun _ =>
    (f_X6_hasModel o M).bind fun z_1 =>
    if z_1 = 0 then
    some ((-2 : Int32), M)
    else
    (op_is M o 6).bind fun _ =>
    (f_X6_canName o a1 a2 a3 M).bind fun z_3 =>
    if z_3 = 0 then
    some ((-1 : Int32), M)
    else
    (op_is M o 6).bind fun _ =>
    (f_X6_depthOf o a1 a2 a3 M).bind fun z_5 =>
    if z_5 ≤ (2 : Int32) then
    (op_gI M 6 o 5).bind fun x_7 =>
    if x_7 < (10 : Int32) then
    (op_gR M 6 o 1).bind fun x_9 =>
    (op_gI M 6 o 5).bind fun x_10 =>
    (op_aR M x_9 x_10).bind fun x_11 =>
    (op_is M x_11 2).bind fun _ =>
    (f_X2_become x_11 a1 a2 a3 z_5 M).bind fun z_12 =>
    (op_gI z_12 6 o 5).bind fun x_13 =>
    (op_pI z_12 6 o 5 (x_13 + (1 : Int32))).bind fun M_14 =>
    (op_gI M_14 6 o 5).bind fun x_15 =>
    some ((x_15 - (1 : Int32)), M_14)
    else
    some ((-3 : Int32), M)
    else
    some ((-5 : Int32), M)
set_option maxHeartbeats 4000000 in
set_option maxRecDepth 100000 in
theorem c_X6_move (l : Launch) (D : va_G) (cA : Nat → ClassId) (ad : Nat → Nat) (o : Nat) (a1 : Int32) (a2 : Int32) (a3 : Int32) (M : Mm) (zr : Int32 × Mm) (hf : f_X6_move o a1 a2 a3 M = some zr) : KI l yX6_move cX6_move 5 (some .int) rm_X6_move D cA ad [.ref (ad o), .int a1, .int a2, .int a3] M zr.1 zr.2 := by
  refine KI_of (by decide) (Nat.le_of_ble_eq_true rfl) ?_
  intro p e s m args below meth c ls Q A H locs hZ hE hl hret
  have hx := hZ.1
  have hb := hZ.2.1
  have hown := hZ.2.2.2.1
  have hts := hZ.2.2.2.2.1
  have hl : lv_has ls 5 [(0, .ref (ad o)), (1, .int a1), (2, .int a2), (3, .int a3)] := hl
  unfold f_X6_move at hf
  refine lv_aload_n hx hb dX6_move_0 rfl (lv_at hl 0 rfl) ?_
  obtain ⟨_, i_1, hf⟩ := b_some hf
  obtain ⟨z_1, c_1, hf⟩ := b_some hf
  refine xx_cVi hZ hE (As := []) (rest := []) k_X6 (is_m i_1) tw_38 tw_39 (c_X6_hasModel l D cA ad o M _ c_1) cw_X6_hasModel tw_36 ⟨rfl, rfl⟩ ⟨Nat.le_of_ble_eq_true rfl, Nat.le_of_ble_eq_true rfl⟩ rfl hl.1 rfl (Nat.le_of_ble_eq_true rfl) ⟨Nat.le_of_ble_eq_true rfl, Nat.le_of_ble_eq_true rfl⟩ dX6_move_1 (fun H locs hE => ?_)
  refine lv_if_ne (tgt := 10) hx hb dX6_move_4 (by decide) (fun h_2 => ?_) (fun h_2 => ?_)
  · have hf := it_n h_2 hf
    refine lv_aload_n hx hb dX6_move_10 rfl (lv_at hl 0 rfl) ?_
    refine lv_iload_n hx hb dX6_move_11 rfl (lv_at hl 1 rfl) ?_
    refine lv_iload_n hx hb dX6_move_12 rfl (lv_at hl 2 rfl) ?_
    refine lv_iload_n hx hb dX6_move_13 rfl (lv_at hl 3 rfl) ?_
    obtain ⟨_, i_3, hf⟩ := b_some hf
    obtain ⟨z_3, c_3, hf⟩ := b_some hf
    refine xx_cVi hZ hE (As := [.int a1, .int a2, .int a3]) (rest := []) k_X6 (is_m i_3) tw_74 tw_75 (c_X6_canName l D cA ad o a1 a2 a3 M _ c_3) cw_X6_canName tw_73 ⟨rfl, rfl⟩ ⟨Nat.le_of_ble_eq_true rfl, Nat.le_of_ble_eq_true rfl⟩ rfl hl.1 rfl (Nat.le_of_ble_eq_true rfl) ⟨Nat.le_of_ble_eq_true rfl, Nat.le_of_ble_eq_true rfl⟩ dX6_move_14 (fun H locs hE => ?_)
    refine lv_if_ne (tgt := 22) hx hb dX6_move_17 (by decide) (fun h_4 => ?_) (fun h_4 => ?_)
    · have hf := it_n h_4 hf
      refine lv_aload_n hx hb dX6_move_22 rfl (lv_at hl 0 rfl) ?_
      refine lv_iload_n hx hb dX6_move_23 rfl (lv_at hl 1 rfl) ?_
      refine lv_iload_n hx hb dX6_move_24 rfl (lv_at hl 2 rfl) ?_
      refine lv_iload_n hx hb dX6_move_25 rfl (lv_at hl 3 rfl) ?_
      obtain ⟨_, i_5, hf⟩ := b_some hf
      obtain ⟨z_5, c_5, hf⟩ := b_some hf
      refine xx_cVi hZ hE (As := [.int a1, .int a2, .int a3]) (rest := []) k_X6 (is_m i_5) tw_77 tw_78 (c_X6_depthOf l D cA ad o a1 a2 a3 M _ c_5) cw_X6_depthOf tw_76 ⟨rfl, rfl⟩ ⟨Nat.le_of_ble_eq_true rfl, Nat.le_of_ble_eq_true rfl⟩ rfl hl.1 rfl (Nat.le_of_ble_eq_true rfl) ⟨Nat.le_of_ble_eq_true rfl, Nat.le_of_ble_eq_true rfl⟩ dX6_move_26 (fun H locs hE => ?_)
      refine lv_istore (lv' := [(4, .int z_5), (0, .ref (ad o)), (1, .int a1), (2, .int a2), (3, .int a3)]) hx hb dX6_move_29 hl (by decide) rfl (fun ls hl => ?_)
      refine lv_iload hx hb dX6_move_31 (lv_at hl 0 rfl) ?_
      refine lv_iconst (v := 2) hx hb dX6_move_33 (by decide) ?_
      refine lv_icmp_le (tgt := 40) hx hb dX6_move_34 (by decide) (fun h_6 => ?_) (fun h_6 => ?_)
      · have hf := it_y h_6 hf
        refine lv_aload_n hx hb dX6_move_40 rfl (lv_at hl 1 rfl) ?_
        obtain ⟨x_7, g_7, hf⟩ := b_some hf
        refine xx_gI hZ hE k_X6 5 (by decide) rfl tw_24 g_7 dX6_move_41 ?_
        refine lv_bipush (v := 10) hx hb dX6_move_44 (by decide) ?_
        refine lv_icmp_lt (tgt := 52) hx hb dX6_move_46 (by decide) (fun h_8 => ?_) (fun h_8 => ?_)
        · have hf := it_y h_8 hf
          refine lv_aload_n hx hb dX6_move_52 rfl (lv_at hl 1 rfl) ?_
          obtain ⟨x_9, g_9, hf⟩ := b_some hf
          refine xx_gR hZ hE k_X6 1 (by decide) rfl tw_61 g_9 dX6_move_53 ?_
          refine lv_aload_n hx hb dX6_move_56 rfl (lv_at hl 1 rfl) ?_
          obtain ⟨x_10, g_10, hf⟩ := b_some hf
          refine xx_gI hZ hE k_X6 5 (by decide) rfl tw_24 g_10 dX6_move_57 ?_
          obtain ⟨x_11, g_11, hf⟩ := b_some hf
          refine xx_aR hZ hE g_11 dX6_move_60 ?_
          refine lv_iload_n hx hb dX6_move_61 rfl (lv_at hl 2 rfl) ?_
          refine lv_iload_n hx hb dX6_move_62 rfl (lv_at hl 3 rfl) ?_
          refine lv_iload_n hx hb dX6_move_63 rfl (lv_at hl 4 rfl) ?_
          refine lv_iload hx hb dX6_move_64 (lv_at hl 0 rfl) ?_
          obtain ⟨_, i_12, hf⟩ := b_some hf
          obtain ⟨z_12, c_12, hf⟩ := b_some hf
          refine xx_cVNv hZ hE (As := [.int a1, .int a2, .int a3, .int z_5]) (rest := []) k_X2 (is_m i_12) tw_81 tw_82 (c_X2_become l D cA ad x_11 a1 a2 a3 z_5 M _ c_12) cw_X2_become tw_79 ⟨rfl, rfl⟩ ⟨Nat.le_of_ble_eq_true rfl, Nat.le_of_ble_eq_true rfl⟩ rfl hl.1 rfl (Nat.le_of_ble_eq_true rfl) ⟨Nat.le_of_ble_eq_true rfl, Nat.le_of_ble_eq_true rfl⟩ dX6_move_66 (fun H locs hE => ?_)
          refine lv_aload_n hx hb dX6_move_69 rfl (lv_at hl 1 rfl) ?_
          refine lv_dup hx hb dX6_move_70 rfl ?_
          obtain ⟨x_13, g_13, hf⟩ := b_some hf
          refine xx_gI hZ hE k_X6 5 (by decide) rfl tw_24 g_13 dX6_move_71 ?_
          refine lv_iconst (v := 1) hx hb dX6_move_74 (by decide) ?_
          refine lv_iadd hx hb dX6_move_75 ?_
          obtain ⟨M_14, g_14, hf⟩ := b_some hf
          refine xx_pI hZ hE k_X6 5 (by decide) rfl rfl rfl tw_24 g_14 dX6_move_76 (fun H locs hE => ?_)
          refine lv_aload_n hx hb dX6_move_79 rfl (lv_at hl 1 rfl) ?_
          obtain ⟨x_15, g_15, hf⟩ := b_some hf
          refine xx_gI hZ hE k_X6 5 (by decide) rfl tw_24 g_15 dX6_move_80 ?_
          refine lv_iconst (v := 1) hx hb dX6_move_83 (by decide) ?_
          refine lv_isub hx hb dX6_move_84 ?_
          exact hret _ _ _ _ _ _ (pr_1 hf) (pr_2 hf) rfl dX6_move_85 hE
        · have hf := it_n h_8 hf
          refine lv_bipush (v := -3) hx hb dX6_move_49 (by decide) ?_
          exact hret _ _ _ _ _ _ (pr_1 hf) (pr_2 hf) rfl dX6_move_51 hE
      · have hf := it_n h_6 hf
        refine lv_bipush (v := -5) hx hb dX6_move_37 (by decide) ?_
        exact hret _ _ _ _ _ _ (pr_1 hf) (pr_2 hf) rfl dX6_move_39 hE
    · have hf := it_y h_4 hf
      refine lv_iconst (v := -1) hx hb dX6_move_20 (by decide) ?_
      exact hret _ _ _ _ _ _ (pr_1 hf) (pr_2 hf) rfl dX6_move_21 hE
  · have hf := it_y h_2 hf
    refine lv_bipush (v := -2) hx hb dX6_move_7 (by decide) ?_
    exact hret _ _ _ _ _ _ (pr_1 hf) (pr_2 hf) rfl dX6_move_9 hE
def rm_X6_isMoveOf : Room := { frames := 1, cells := 0, slots := 0, locals := 21 }
def f_X6_isMoveOf (o : Nat) (a1 : Int32) (a2 : Int32) (M : Mm) : Option (Int32) :=
    (op_is M o 6).bind fun _ =>
    (f_X6_isMove o a1 M).bind fun z_1 =>
    if z_1 = 0 then
    some (0 : Int32)
    else
    (op_gR M 6 o 1).bind fun x_3 =>
    (op_aR M x_3 a1).bind fun x_4 =>
    (op_gI M 2 x_4 0).bind fun x_5 =>
    if x_5 = a2 then
    some (1 : Int32)
    else
    some (0 : Int32)
set_option maxHeartbeats 4000000 in
set_option maxRecDepth 100000 in
theorem c_X6_isMoveOf (l : Launch) (D : va_G) (cA : Nat → ClassId) (ad : Nat → Nat) (o : Nat) (a1 : Int32) (a2 : Int32) (M : Mm) (zr : Int32) (hf : f_X6_isMoveOf o a1 a2 M = some zr) : KI l yX6_isMoveOf cX6_isMoveOf 3 (some .boolean) rm_X6_isMoveOf D cA ad [.ref (ad o), .int a1, .int a2] M zr M := by
  refine KI_of (by decide) (Nat.le_of_ble_eq_true rfl) ?_
  intro p e s m args below meth c ls Q A H locs hZ hE hl hret
  have hx := hZ.1
  have hb := hZ.2.1
  have hown := hZ.2.2.2.1
  have hts := hZ.2.2.2.2.1
  have hl : lv_has ls 3 [(0, .ref (ad o)), (1, .int a1), (2, .int a2)] := hl
  unfold f_X6_isMoveOf at hf
  refine lv_aload_n hx hb dX6_isMoveOf_0 rfl (lv_at hl 0 rfl) ?_
  refine lv_iload_n hx hb dX6_isMoveOf_1 rfl (lv_at hl 1 rfl) ?_
  obtain ⟨_, i_1, hf⟩ := b_some hf
  obtain ⟨z_1, c_1, hf⟩ := b_some hf
  refine xx_cVi hZ hE (As := [.int a1]) (rest := []) k_X6 (is_m i_1) tw_59 tw_60 (c_X6_isMove l D cA ad o a1 M _ c_1) cw_X6_isMove tw_58 ⟨rfl, rfl⟩ ⟨Nat.le_of_ble_eq_true rfl, Nat.le_of_ble_eq_true rfl⟩ rfl hl.1 rfl (Nat.le_of_ble_eq_true rfl) ⟨Nat.le_of_ble_eq_true rfl, Nat.le_of_ble_eq_true rfl⟩ dX6_isMoveOf_2 (fun H locs hE => ?_)
  refine lv_if_eq (tgt := 25) hx hb dX6_isMoveOf_5 (by decide) (fun h_2 => ?_) (fun h_2 => ?_)
  · have hf := it_y h_2 hf
    refine lv_iconst (v := 0) hx hb dX6_isMoveOf_25 (by decide) ?_
    exact hret _ _ _ _ _ _ (Option.some.inj hf) rfl rfl dX6_isMoveOf_26 hE
  · have hf := it_n h_2 hf
    refine lv_aload_n hx hb dX6_isMoveOf_8 rfl (lv_at hl 0 rfl) ?_
    obtain ⟨x_3, g_3, hf⟩ := b_some hf
    refine xx_gR hZ hE k_X6 1 (by decide) rfl tw_61 g_3 dX6_isMoveOf_9 ?_
    refine lv_iload_n hx hb dX6_isMoveOf_12 rfl (lv_at hl 1 rfl) ?_
    obtain ⟨x_4, g_4, hf⟩ := b_some hf
    refine xx_aR hZ hE g_4 dX6_isMoveOf_13 ?_
    obtain ⟨x_5, g_5, hf⟩ := b_some hf
    refine xx_gIN hZ hE k_X2 0 (by decide) rfl tw_83 g_5 dX6_isMoveOf_14 ?_
    refine lv_iload_n hx hb dX6_isMoveOf_17 rfl (lv_at hl 2 rfl) ?_
    refine lv_icmp_ne (tgt := 25) hx hb dX6_isMoveOf_18 (by decide) (fun h_6 => ?_) (fun h_6 => ?_)
    · have hf := it_n h_6 hf
      refine lv_iconst (v := 0) hx hb dX6_isMoveOf_25 (by decide) ?_
      exact hret _ _ _ _ _ _ (Option.some.inj hf) rfl rfl dX6_isMoveOf_26 hE
    · have hf := it_y h_6 hf
      refine lv_iconst (v := 1) hx hb dX6_isMoveOf_21 (by decide) ?_
      refine lv_goto (tgt := 26) hx hb dX6_isMoveOf_22 (by decide) ?_
      exact hret _ _ _ _ _ _ (Option.some.inj hf) rfl rfl dX6_isMoveOf_26 hE
def rm_X6_odds : Room := { frames := 2, cells := 0, slots := 0, locals := 43 }
def f_X6_odds (o : Nat) (a1 : Int32) (a2 : Int32) (a3 : Int32) (M : Mm) : Option (Int32 × Mm) :=
    (op_is M o 6).bind fun _ =>
    (f_X6_hasModel o M).bind fun z_1 =>
    if z_1 = 0 then
    some ((-2 : Int32), M)
    else
    (op_is M o 6).bind fun _ =>
    (f_X6_isMoveOf o a1 (5 : Int32) M).bind fun z_3 =>
    if z_3 = 0 then
    some ((-1 : Int32), M)
    else
    if a2 < (1 : Int32) then
    some ((-1 : Int32), M)
    else
    if (100 : Int32) < a2 then
    some ((-1 : Int32), M)
    else
    if a3 < (1 : Int32) then
    some ((-1 : Int32), M)
    else
    if a3 ≤ (100 : Int32) then
    (op_gR M 6 o 1).bind fun x_9 =>
    (op_aR M x_9 a1).bind fun x_10 =>
    (op_pI M 2 x_10 3 a2).bind fun M_11 =>
    (op_gR M_11 6 o 1).bind fun x_12 =>
    (op_aR M_11 x_12 a1).bind fun x_13 =>
    (op_pI M_11 2 x_13 4 a3).bind fun M_14 =>
    (op_gR M_14 6 o 2).bind fun x_15 =>
    (op_is M_14 x_15 0).bind fun _ =>
    (f_X0_forget x_15 M_14).bind fun z_16 =>
    some ((1 : Int32), z_16)
    else
    some ((-1 : Int32), M)
set_option maxHeartbeats 4000000 in
set_option maxRecDepth 100000 in
theorem c_X6_odds (l : Launch) (D : va_G) (cA : Nat → ClassId) (ad : Nat → Nat) (o : Nat) (a1 : Int32) (a2 : Int32) (a3 : Int32) (M : Mm) (zr : Int32 × Mm) (hf : f_X6_odds o a1 a2 a3 M = some zr) : KI l yX6_odds cX6_odds 4 (some .int) rm_X6_odds D cA ad [.ref (ad o), .int a1, .int a2, .int a3] M zr.1 zr.2 := by
  refine KI_of (by decide) (Nat.le_of_ble_eq_true rfl) ?_
  intro p e s m args below meth c ls Q A H locs hZ hE hl hret
  have hx := hZ.1
  have hb := hZ.2.1
  have hown := hZ.2.2.2.1
  have hts := hZ.2.2.2.2.1
  have hl : lv_has ls 4 [(0, .ref (ad o)), (1, .int a1), (2, .int a2), (3, .int a3)] := hl
  unfold f_X6_odds at hf
  refine lv_aload_n hx hb dX6_odds_0 rfl (lv_at hl 0 rfl) ?_
  obtain ⟨_, i_1, hf⟩ := b_some hf
  obtain ⟨z_1, c_1, hf⟩ := b_some hf
  refine xx_cVi hZ hE (As := []) (rest := []) k_X6 (is_m i_1) tw_38 tw_39 (c_X6_hasModel l D cA ad o M _ c_1) cw_X6_hasModel tw_36 ⟨rfl, rfl⟩ ⟨Nat.le_of_ble_eq_true rfl, Nat.le_of_ble_eq_true rfl⟩ rfl hl.1 rfl (Nat.le_of_ble_eq_true rfl) ⟨Nat.le_of_ble_eq_true rfl, Nat.le_of_ble_eq_true rfl⟩ dX6_odds_1 (fun H locs hE => ?_)
  refine lv_if_ne (tgt := 10) hx hb dX6_odds_4 (by decide) (fun h_2 => ?_) (fun h_2 => ?_)
  · have hf := it_n h_2 hf
    refine lv_aload_n hx hb dX6_odds_10 rfl (lv_at hl 0 rfl) ?_
    refine lv_iload_n hx hb dX6_odds_11 rfl (lv_at hl 1 rfl) ?_
    refine lv_iconst (v := 5) hx hb dX6_odds_12 (by decide) ?_
    obtain ⟨_, i_3, hf⟩ := b_some hf
    obtain ⟨z_3, c_3, hf⟩ := b_some hf
    refine xx_cVi hZ hE (As := [.int a1, .int (5 : Int32)]) (rest := []) k_X6 (is_m i_3) tw_85 tw_86 (c_X6_isMoveOf l D cA ad o a1 (5 : Int32) M _ c_3) cw_X6_isMoveOf tw_84 ⟨rfl, rfl⟩ ⟨Nat.le_of_ble_eq_true rfl, Nat.le_of_ble_eq_true rfl⟩ rfl hl.1 rfl (Nat.le_of_ble_eq_true rfl) ⟨Nat.le_of_ble_eq_true rfl, Nat.le_of_ble_eq_true rfl⟩ dX6_odds_13 (fun H locs hE => ?_)
    refine lv_if_eq (tgt := 41) hx hb dX6_odds_16 (by decide) (fun h_4 => ?_) (fun h_4 => ?_)
    · have hf := it_y h_4 hf
      refine lv_iconst (v := -1) hx hb dX6_odds_41 (by decide) ?_
      exact hret _ _ _ _ _ _ (pr_1 hf) (pr_2 hf) rfl dX6_odds_42 hE
    · have hf := it_n h_4 hf
      refine lv_iload_n hx hb dX6_odds_19 rfl (lv_at hl 2 rfl) ?_
      refine lv_iconst (v := 1) hx hb dX6_odds_20 (by decide) ?_
      refine lv_icmp_lt (tgt := 41) hx hb dX6_odds_21 (by decide) (fun h_5 => ?_) (fun h_5 => ?_)
      · have hf := it_y h_5 hf
        refine lv_iconst (v := -1) hx hb dX6_odds_41 (by decide) ?_
        exact hret _ _ _ _ _ _ (pr_1 hf) (pr_2 hf) rfl dX6_odds_42 hE
      · have hf := it_n h_5 hf
        refine lv_iload_n hx hb dX6_odds_24 rfl (lv_at hl 2 rfl) ?_
        refine lv_bipush (v := 100) hx hb dX6_odds_25 (by decide) ?_
        refine lv_icmp_gt (tgt := 41) hx hb dX6_odds_27 (by decide) (fun h_6 => ?_) (fun h_6 => ?_)
        · have hf := it_y h_6 hf
          refine lv_iconst (v := -1) hx hb dX6_odds_41 (by decide) ?_
          exact hret _ _ _ _ _ _ (pr_1 hf) (pr_2 hf) rfl dX6_odds_42 hE
        · have hf := it_n h_6 hf
          refine lv_iload_n hx hb dX6_odds_30 rfl (lv_at hl 3 rfl) ?_
          refine lv_iconst (v := 1) hx hb dX6_odds_31 (by decide) ?_
          refine lv_icmp_lt (tgt := 41) hx hb dX6_odds_32 (by decide) (fun h_7 => ?_) (fun h_7 => ?_)
          · have hf := it_y h_7 hf
            refine lv_iconst (v := -1) hx hb dX6_odds_41 (by decide) ?_
            exact hret _ _ _ _ _ _ (pr_1 hf) (pr_2 hf) rfl dX6_odds_42 hE
          · have hf := it_n h_7 hf
            refine lv_iload_n hx hb dX6_odds_35 rfl (lv_at hl 3 rfl) ?_
            refine lv_bipush (v := 100) hx hb dX6_odds_36 (by decide) ?_
            refine lv_icmp_le (tgt := 43) hx hb dX6_odds_38 (by decide) (fun h_8 => ?_) (fun h_8 => ?_)
            · have hf := it_y h_8 hf
              refine lv_aload_n hx hb dX6_odds_43 rfl (lv_at hl 0 rfl) ?_
              obtain ⟨x_9, g_9, hf⟩ := b_some hf
              refine xx_gR hZ hE k_X6 1 (by decide) rfl tw_61 g_9 dX6_odds_44 ?_
              refine lv_iload_n hx hb dX6_odds_47 rfl (lv_at hl 1 rfl) ?_
              obtain ⟨x_10, g_10, hf⟩ := b_some hf
              refine xx_aR hZ hE g_10 dX6_odds_48 ?_
              refine lv_iload_n hx hb dX6_odds_49 rfl (lv_at hl 2 rfl) ?_
              obtain ⟨M_11, g_11, hf⟩ := b_some hf
              refine xx_pIN hZ hE k_X2 3 (by decide) rfl rfl rfl tw_87 g_11 dX6_odds_50 (fun H locs hE => ?_)
              refine lv_aload_n hx hb dX6_odds_53 rfl (lv_at hl 0 rfl) ?_
              obtain ⟨x_12, g_12, hf⟩ := b_some hf
              refine xx_gR hZ hE k_X6 1 (by decide) rfl tw_61 g_12 dX6_odds_54 ?_
              refine lv_iload_n hx hb dX6_odds_57 rfl (lv_at hl 1 rfl) ?_
              obtain ⟨x_13, g_13, hf⟩ := b_some hf
              refine xx_aR hZ hE g_13 dX6_odds_58 ?_
              refine lv_iload_n hx hb dX6_odds_59 rfl (lv_at hl 3 rfl) ?_
              obtain ⟨M_14, g_14, hf⟩ := b_some hf
              refine xx_pIN hZ hE k_X2 4 (by decide) rfl rfl rfl tw_88 g_14 dX6_odds_60 (fun H locs hE => ?_)
              refine lv_aload_n hx hb dX6_odds_63 rfl (lv_at hl 0 rfl) ?_
              obtain ⟨x_15, g_15, hf⟩ := b_some hf
              refine xx_gR hZ hE k_X6 2 (by decide) rfl tw_25 g_15 dX6_odds_64 ?_
              obtain ⟨_, i_16, hf⟩ := b_some hf
              obtain ⟨z_16, c_16, hf⟩ := b_some hf
              refine xx_cVNv hZ hE (As := []) (rest := []) k_X0 (is_m i_16) tw_28 tw_29 (c_X0_forget l D cA ad x_15 M_14 _ c_16) cw_X0_forget tw_26 ⟨rfl, rfl⟩ ⟨Nat.le_of_ble_eq_true rfl, Nat.le_of_ble_eq_true rfl⟩ rfl hl.1 rfl (Nat.le_of_ble_eq_true rfl) ⟨Nat.le_of_ble_eq_true rfl, Nat.le_of_ble_eq_true rfl⟩ dX6_odds_67 (fun H locs hE => ?_)
              refine lv_iconst (v := 1) hx hb dX6_odds_70 (by decide) ?_
              exact hret _ _ _ _ _ _ (pr_1 hf) (pr_2 hf) rfl dX6_odds_71 hE
            · have hf := it_n h_8 hf
              refine lv_iconst (v := -1) hx hb dX6_odds_41 (by decide) ?_
              exact hret _ _ _ _ _ _ (pr_1 hf) (pr_2 hf) rfl dX6_odds_42 hE
  · have hf := it_y h_2 hf
    refine lv_bipush (v := -2) hx hb dX6_odds_7 (by decide) ?_
    exact hret _ _ _ _ _ _ (pr_1 hf) (pr_2 hf) rfl dX6_odds_9 hE
