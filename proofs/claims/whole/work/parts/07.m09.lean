def lp_X7_reach_64 (k_94 : Mm → Option (Int32 × Mm)) (i_0 : Nat) (i_1 : Int32) (i_2 : Int32) (i_3 : Int32) (i_4 : Int32) : Nat → Int32 → Mm → Option (Int32 × Mm)
  | 0, _, _ => none
  | n_64 + 1, v_5, M =>
    (op_gI M 7 i_0 2).bind fun x_14 =>
    if x_14 ≤ v_5 then
    k_94 M
    else
    (op_gR M 7 i_0 15).bind fun x_16 =>
    (op_is M i_0 7).bind fun _ =>
    (f_X7_at i_0 i_3 i_4 v_5).bind fun z_17 =>
    (op_sZ M x_16 z_17 (0 : Int32)).bind fun M_18 =>
    lp_X7_reach_64 k_94 i_0 i_1 i_2 i_3 i_4 n_64 (v_5 + 1) M_18
theorem lp_X7_reach_64_s (k_94 : Mm → Option (Int32 × Mm)) (i_0 : Nat) (i_1 : Int32) (i_2 : Int32) (i_3 : Int32) (i_4 : Int32) {n_64 : Nat} {v_5 : Int32} {M : Mm} {zr : Int32 × Mm} (hf : lp_X7_reach_64 k_94 i_0 i_1 i_2 i_3 i_4 (n_64 + 1) v_5 M = some zr) : (
    (op_gI M 7 i_0 2).bind fun x_14 =>
    if x_14 ≤ v_5 then
    k_94 M
    else
    (op_gR M 7 i_0 15).bind fun x_16 =>
    (op_is M i_0 7).bind fun _ =>
    (f_X7_at i_0 i_3 i_4 v_5).bind fun z_17 =>
    (op_sZ M x_16 z_17 (0 : Int32)).bind fun M_18 =>
    lp_X7_reach_64 k_94 i_0 i_1 i_2 i_3 i_4 n_64 (v_5 + 1) M_18) = some zr := hf
theorem lp_X7_reach_64_k {k_94 : Mm → Option (Int32 × Mm)} {i_0 : Nat} {i_1 : Int32} {i_2 : Int32} {i_3 : Int32} {i_4 : Int32} {n : Nat} {v_5 : Int32} {M : Mm} {zr : Int32 × Mm} (hf : lp_X7_reach_64 k_94 i_0 i_1 i_2 i_3 i_4 n v_5 M = some zr) : ∃ (m_94 : Mm → Option (Int32 × Mm)), m_94 = k_94 ∧ lp_X7_reach_64 m_94 i_0 i_1 i_2 i_3 i_4 n v_5 M = some zr := ⟨k_94, rfl, hf⟩
def lp_X7_reach_43 (k_127 : Mm → Option (Int32 × Mm)) (i_0 : Nat) (i_1 : Int32) (i_2 : Int32) (i_3 : Int32) : Nat → Int32 → Mm → Option (Int32 × Mm)
  | 0, _, _ => none
  | n_43 + 1, v_4, M =>
    (op_gI M 7 i_0 2).bind fun x_9 =>
    if x_9 ≤ v_4 then
    k_127 M
    else
    (op_gR M 7 i_0 16).bind fun x_11 =>
    (op_aZ M x_11 i_3).bind fun x_12 =>
    if x_12 = 0 then
    k_127 M
    else
    lp_X7_reach_64 (fun (M_20 : Mm) =>
    (op_gR M_20 7 i_0 5).bind fun x_21 =>
    (op_aI M_20 x_21 i_3).bind fun x_22 =>
    op_jn (fun (M_23 : Mm) =>
    lp_X7_reach_43 k_127 i_0 i_1 i_2 i_3 n_43 (v_4 + 1) M_23)
    fun j_23 =>
    if x_22 < (5 : Int32) then
    (op_is M_20 i_0 7).bind fun _ =>
    (f_X7_plainLeads i_0 i_3 v_4 M_20).bind fun z_25 =>
    j_23 z_25
    else
    (op_is M_20 i_0 7).bind fun _ =>
    (f_X7_nestedLeads i_0 i_3 v_4 M_20).bind fun z_26 =>
    j_23 z_26) i_0 i_1 i_2 i_3 v_4 FU (0 : Int32) M
theorem lp_X7_reach_43_s (k_127 : Mm → Option (Int32 × Mm)) (i_0 : Nat) (i_1 : Int32) (i_2 : Int32) (i_3 : Int32) {n_43 : Nat} {v_4 : Int32} {M : Mm} {zr : Int32 × Mm} (hf : lp_X7_reach_43 k_127 i_0 i_1 i_2 i_3 (n_43 + 1) v_4 M = some zr) : (
    (op_gI M 7 i_0 2).bind fun x_9 =>
    if x_9 ≤ v_4 then
    k_127 M
    else
    (op_gR M 7 i_0 16).bind fun x_11 =>
    (op_aZ M x_11 i_3).bind fun x_12 =>
    if x_12 = 0 then
    k_127 M
    else
    lp_X7_reach_64 (fun (M_20 : Mm) =>
    (op_gR M_20 7 i_0 5).bind fun x_21 =>
    (op_aI M_20 x_21 i_3).bind fun x_22 =>
    op_jn (fun (M_23 : Mm) =>
    lp_X7_reach_43 k_127 i_0 i_1 i_2 i_3 n_43 (v_4 + 1) M_23)
    fun j_23 =>
    if x_22 < (5 : Int32) then
    (op_is M_20 i_0 7).bind fun _ =>
    (f_X7_plainLeads i_0 i_3 v_4 M_20).bind fun z_25 =>
    j_23 z_25
    else
    (op_is M_20 i_0 7).bind fun _ =>
    (f_X7_nestedLeads i_0 i_3 v_4 M_20).bind fun z_26 =>
    j_23 z_26) i_0 i_1 i_2 i_3 v_4 FU (0 : Int32) M) = some zr := hf
theorem lp_X7_reach_43_k {k_127 : Mm → Option (Int32 × Mm)} {i_0 : Nat} {i_1 : Int32} {i_2 : Int32} {i_3 : Int32} {n : Nat} {v_4 : Int32} {M : Mm} {zr : Int32 × Mm} (hf : lp_X7_reach_43 k_127 i_0 i_1 i_2 i_3 n v_4 M = some zr) : ∃ (m_127 : Mm → Option (Int32 × Mm)), m_127 = k_127 ∧ lp_X7_reach_43 m_127 i_0 i_1 i_2 i_3 n v_4 M = some zr := ⟨k_127, rfl, hf⟩
def lp_X7_reach_35 (k_133 : Mm → Option (Int32 × Mm)) (i_0 : Nat) (i_1 : Int32) (i_2 : Int32) : Nat → Int32 → Mm → Option (Int32 × Mm)
  | 0, _, _ => none
  | n_35 + 1, v_3, M =>
    if i_1 < v_3 then
    k_133 M
    else
    lp_X7_reach_43 (fun (M_33 : Mm) =>
    lp_X7_reach_35 k_133 i_0 i_1 i_2 n_35 (v_3 + 1) M_33) i_0 i_1 i_2 v_3 FU (0 : Int32) M
theorem lp_X7_reach_35_s (k_133 : Mm → Option (Int32 × Mm)) (i_0 : Nat) (i_1 : Int32) (i_2 : Int32) {n_35 : Nat} {v_3 : Int32} {M : Mm} {zr : Int32 × Mm} (hf : lp_X7_reach_35 k_133 i_0 i_1 i_2 (n_35 + 1) v_3 M = some zr) : (
    if i_1 < v_3 then
    k_133 M
    else
    lp_X7_reach_43 (fun (M_33 : Mm) =>
    lp_X7_reach_35 k_133 i_0 i_1 i_2 n_35 (v_3 + 1) M_33) i_0 i_1 i_2 v_3 FU (0 : Int32) M) = some zr := hf
def lp_X7_reach_164 (k_217 : Int32 → Option (Int32 × Mm)) (i_0 : Nat) (i_1 : Int32) (i_4 : Int32) (i_5 : Int32) (M : Mm) : Nat → Int32 → Int32 → Option (Int32 × Mm)
  | 0, _, _ => none
  | n_164 + 1, v_3, v_6 =>
    (op_gI M 7 i_0 2).bind fun x_57 =>
    if x_57 ≤ v_6 then
    k_217 v_3
    else
    if ((v_3 >>> (i_5 &&& 31)) &&& (1 : Int32)) = (1 : Int32) then
    (op_gR M 7 i_0 15).bind fun x_60 =>
    (op_is M i_0 7).bind fun _ =>
    (f_X7_at i_0 i_1 i_5 v_6).bind fun z_61 =>
    (op_aZ M x_60 z_61).bind fun x_62 =>
    lp_X7_reach_164 k_217 i_0 i_1 i_4 i_5 M n_164 (v_3 ||| (if x_62 = 0 then (0 : Int32) else ((1 : Int32) <<< (v_6 &&& 31)))) (v_6 + 1)
    else
    k_217 v_3
theorem lp_X7_reach_164_s (k_217 : Int32 → Option (Int32 × Mm)) (i_0 : Nat) (i_1 : Int32) (i_4 : Int32) (i_5 : Int32) (M : Mm) {n_164 : Nat} {v_3 : Int32} {v_6 : Int32} {zr : Int32 × Mm} (hf : lp_X7_reach_164 k_217 i_0 i_1 i_4 i_5 M (n_164 + 1) v_3 v_6 = some zr) : (
    (op_gI M 7 i_0 2).bind fun x_57 =>
    if x_57 ≤ v_6 then
    k_217 v_3
    else
    if ((v_3 >>> (i_5 &&& 31)) &&& (1 : Int32)) = (1 : Int32) then
    (op_gR M 7 i_0 15).bind fun x_60 =>
    (op_is M i_0 7).bind fun _ =>
    (f_X7_at i_0 i_1 i_5 v_6).bind fun z_61 =>
    (op_aZ M x_60 z_61).bind fun x_62 =>
    lp_X7_reach_164 k_217 i_0 i_1 i_4 i_5 M n_164 (v_3 ||| (if x_62 = 0 then (0 : Int32) else ((1 : Int32) <<< (v_6 &&& 31)))) (v_6 + 1)
    else
    k_217 v_3) = some zr := hf
theorem lp_X7_reach_164_k {k_217 : Int32 → Option (Int32 × Mm)} {i_0 : Nat} {i_1 : Int32} {i_4 : Int32} {i_5 : Int32} {M : Mm} {n : Nat} {v_3 : Int32} {v_6 : Int32} {zr : Int32 × Mm} (hf : lp_X7_reach_164 k_217 i_0 i_1 i_4 i_5 M n v_3 v_6 = some zr) : ∃ (m_217 : Int32 → Option (Int32 × Mm)), m_217 = k_217 ∧ lp_X7_reach_164 m_217 i_0 i_1 i_4 i_5 M n v_3 v_6 = some zr := ⟨k_217, rfl, hf⟩
def lp_X7_reach_152 (k_223 : Int32 → Option (Int32 × Mm)) (i_0 : Nat) (i_1 : Int32) (i_4 : Int32) (M : Mm) : Nat → Int32 → Int32 → Option (Int32 × Mm)
  | 0, _, _ => none
  | n_152 + 1, v_3, v_5 =>
    (op_gI M 7 i_0 2).bind fun x_55 =>
    if x_55 ≤ v_5 then
    k_223 v_3
    else
    lp_X7_reach_164 (fun (l_66_3 : Int32) =>
    lp_X7_reach_152 k_223 i_0 i_1 i_4 M n_152 l_66_3 (v_5 + 1)) i_0 i_1 i_4 v_5 M FU v_3 (0 : Int32)
theorem lp_X7_reach_152_s (k_223 : Int32 → Option (Int32 × Mm)) (i_0 : Nat) (i_1 : Int32) (i_4 : Int32) (M : Mm) {n_152 : Nat} {v_3 : Int32} {v_5 : Int32} {zr : Int32 × Mm} (hf : lp_X7_reach_152 k_223 i_0 i_1 i_4 M (n_152 + 1) v_3 v_5 = some zr) : (
    (op_gI M 7 i_0 2).bind fun x_55 =>
    if x_55 ≤ v_5 then
    k_223 v_3
    else
    lp_X7_reach_164 (fun (l_66_3 : Int32) =>
    lp_X7_reach_152 k_223 i_0 i_1 i_4 M n_152 l_66_3 (v_5 + 1)) i_0 i_1 i_4 v_5 M FU v_3 (0 : Int32)) = some zr := hf
theorem lp_X7_reach_152_k {k_223 : Int32 → Option (Int32 × Mm)} {i_0 : Nat} {i_1 : Int32} {i_4 : Int32} {M : Mm} {n : Nat} {v_3 : Int32} {v_5 : Int32} {zr : Int32 × Mm} (hf : lp_X7_reach_152 k_223 i_0 i_1 i_4 M n v_3 v_5 = some zr) : ∃ (m_223 : Int32 → Option (Int32 × Mm)), m_223 = k_223 ∧ lp_X7_reach_152 m_223 i_0 i_1 i_4 M n v_3 v_5 = some zr := ⟨k_223, rfl, hf⟩
def lp_X7_reach_140 (k_226 : Int32 → Option (Int32 × Mm)) (i_0 : Nat) (i_1 : Int32) (M : Mm) : Nat → Int32 → Int32 → Option (Int32 × Mm)
  | 0, _, _ => none
  | n_140 + 1, v_3, v_4 =>
    if v_4 = v_3 then
    k_226 v_3
    else
    lp_X7_reach_152 (fun (l_76_3 : Int32) =>
    lp_X7_reach_140 k_226 i_0 i_1 M n_140 l_76_3 v_3) i_0 i_1 v_3 M FU v_3 (0 : Int32)
theorem lp_X7_reach_140_s (k_226 : Int32 → Option (Int32 × Mm)) (i_0 : Nat) (i_1 : Int32) (M : Mm) {n_140 : Nat} {v_3 : Int32} {v_4 : Int32} {zr : Int32 × Mm} (hf : lp_X7_reach_140 k_226 i_0 i_1 M (n_140 + 1) v_3 v_4 = some zr) : (
    if v_4 = v_3 then
    k_226 v_3
    else
    lp_X7_reach_152 (fun (l_76_3 : Int32) =>
    lp_X7_reach_140 k_226 i_0 i_1 M n_140 l_76_3 v_3) i_0 i_1 v_3 M FU v_3 (0 : Int32)) = some zr := hf
def lp_X7_reach_232 (i_0 : Nat) (i_3 : Int32) (M : Mm) : Nat → Int32 → Int32 → Option (Int32 × Mm)
  | 0, _, _ => none
  | n_232 + 1, v_5, v_6 =>
    (op_gI M 7 i_0 2).bind fun x_91 =>
    if x_91 ≤ v_6 then
    some (v_5, M)
    else
    lp_X7_reach_232 i_0 i_3 M n_232 (v_5 + ((i_3 >>> (v_6 &&& 31)) &&& (1 : Int32))) (v_6 + 1)
theorem lp_X7_reach_232_s (i_0 : Nat) (i_3 : Int32) (M : Mm) {n_232 : Nat} {v_5 : Int32} {v_6 : Int32} {zr : Int32 × Mm} (hf : lp_X7_reach_232 i_0 i_3 M (n_232 + 1) v_5 v_6 = some zr) : (
    (op_gI M 7 i_0 2).bind fun x_91 =>
    if x_91 ≤ v_6 then
    some (v_5, M)
    else
    lp_X7_reach_232 i_0 i_3 M n_232 (v_5 + ((i_3 >>> (v_6 &&& 31)) &&& (1 : Int32))) (v_6 + 1)) = some zr := hf
theorem lp_X7_reach_140_k {k_226 : Int32 → Option (Int32 × Mm)} {i_0 : Nat} {i_1 : Int32} {M : Mm} {n : Nat} {v_3 : Int32} {v_4 : Int32} {zr : Int32 × Mm} (hf : lp_X7_reach_140 k_226 i_0 i_1 M n v_3 v_4 = some zr) : ∃ (m_226 : Int32 → Option (Int32 × Mm)), m_226 = k_226 ∧ lp_X7_reach_140 m_226 i_0 i_1 M n v_3 v_4 = some zr := ⟨k_226, rfl, hf⟩
theorem lp_X7_reach_35_k {k_133 : Mm → Option (Int32 × Mm)} {i_0 : Nat} {i_1 : Int32} {i_2 : Int32} {n : Nat} {v_3 : Int32} {M : Mm} {zr : Int32 × Mm} (hf : lp_X7_reach_35 k_133 i_0 i_1 i_2 n v_3 M = some zr) : ∃ (m_133 : Mm → Option (Int32 × Mm)), m_133 = k_133 ∧ lp_X7_reach_35 m_133 i_0 i_1 i_2 n v_3 M = some zr := ⟨k_133, rfl, hf⟩
def rm_X7_reach : Room := { frames := 5, cells := 0, slots := 0, locals := 118 }
def f_X7_reach (o : Nat) (a1 : Int32) (a2 : Int32) (M : Mm) : Option (Int32 × Mm) :=
    (op_gI M 7 o 2).bind fun x_1 =>
    if x_1 = 0 then
    some ((-2 : Int32), M)
    else
    (op_is M o 7).bind fun _ =>
    (f_X7_isMove o a1 M).bind fun z_3 =>
    if z_3 = 0 then
    some ((-1 : Int32), M)
    else
    (op_is M o 7).bind fun _ =>
    (f_X7_isState o a2 M).bind fun z_5 =>
    if z_5 = 0 then
    some ((-1 : Int32), M)
    else
    (op_is M o 7).bind fun _ =>
    (f_X7_want o a1 M).bind fun z_7 =>
    lp_X7_reach_35 (fun (M_53 : Mm) =>
    lp_X7_reach_140 (fun (l_90_3 : Int32) =>
    lp_X7_reach_232  o l_90_3 M_53 FU (0 : Int32) (0 : Int32)) o a1 M_53 FU ((1 : Int32) <<< (a2 &&& 31)) (0 : Int32)) o a1 a2 FU (0 : Int32) z_7
set_option maxHeartbeats 4000000 in
set_option maxRecDepth 100000 in
theorem c_X7_reach (l : Launch) (D : va_G) (cA : Nat → ClassId) (ad : Nat → Nat) (o : Nat) (a1 : Int32) (a2 : Int32) (M : Mm) (zr : Int32 × Mm) (hf : f_X7_reach o a1 a2 M = some zr) : KI l yX7_reach cX7_reach 7 (some .int) rm_X7_reach D cA ad [.ref (ad o), .int a1, .int a2] M zr.1 zr.2 := by
  refine KI_of (by decide) (Nat.le_of_ble_eq_true rfl) ?_
  intro p e s m args below meth c ls Q A H locs hZ hE hl hret
  have hx := hZ.1
  have hb := hZ.2.1
  have hown := hZ.2.2.2.1
  have hts := hZ.2.2.2.2.1
  have hl : lv_has ls 7 [(0, .ref (ad o)), (1, .int a1), (2, .int a2)] := hl
  unfold f_X7_reach at hf
  refine lv_aload_n hx hb dX7_reach_0 rfl (lv_at hl 0 rfl) ?_
  obtain ⟨x_1, g_1, hf⟩ := b_some hf
  refine xx_gI hZ hE k_X7 2 (by decide) rfl tw_363 g_1 dX7_reach_1 ?_
  refine lv_if_ne (tgt := 10) hx hb dX7_reach_4 (by decide) (fun h_2 => ?_) (fun h_2 => ?_)
  · have hf := it_n h_2 hf
    refine lv_aload_n hx hb dX7_reach_10 rfl (lv_at hl 0 rfl) ?_
    refine lv_iload_n hx hb dX7_reach_11 rfl (lv_at hl 1 rfl) ?_
    obtain ⟨_, i_3, hf⟩ := b_some hf
    obtain ⟨z_3, c_3, hf⟩ := b_some hf
    refine xx_cVi hZ hE (As := [.int a1]) (rest := []) k_X7 (is_m i_3) tw_390 tw_391 (c_X7_isMove l D cA ad o a1 M _ c_3) cw_X7_isMove tw_389 ⟨rfl, rfl⟩ ⟨Nat.le_of_ble_eq_true rfl, Nat.le_of_ble_eq_true rfl⟩ rfl hl.1 rfl (Nat.le_of_ble_eq_true rfl) ⟨Nat.le_of_ble_eq_true rfl, Nat.le_of_ble_eq_true rfl⟩ dX7_reach_12 (fun H locs hE => ?_)
    refine lv_if_eq (tgt := 26) hx hb dX7_reach_15 (by decide) (fun h_4 => ?_) (fun h_4 => ?_)
    · have hf := it_y h_4 hf
      refine lv_iconst (v := -1) hx hb dX7_reach_26 (by decide) ?_
      exact hret _ _ _ _ _ _ (pr_1 hf) (pr_2 hf) rfl dX7_reach_27 hE
    · have hf := it_n h_4 hf
      refine lv_aload_n hx hb dX7_reach_18 rfl (lv_at hl 0 rfl) ?_
      refine lv_iload_n hx hb dX7_reach_19 rfl (lv_at hl 2 rfl) ?_
      obtain ⟨_, i_5, hf⟩ := b_some hf
      obtain ⟨z_5, c_5, hf⟩ := b_some hf
      refine xx_cVi hZ hE (As := [.int a2]) (rest := []) k_X7 (is_m i_5) tw_378 tw_379 (c_X7_isState l D cA ad o a2 M _ c_5) cw_X7_isState tw_377 ⟨rfl, rfl⟩ ⟨Nat.le_of_ble_eq_true rfl, Nat.le_of_ble_eq_true rfl⟩ rfl hl.1 rfl (Nat.le_of_ble_eq_true rfl) ⟨Nat.le_of_ble_eq_true rfl, Nat.le_of_ble_eq_true rfl⟩ dX7_reach_20 (fun H locs hE => ?_)
      refine lv_if_ne (tgt := 28) hx hb dX7_reach_23 (by decide) (fun h_6 => ?_) (fun h_6 => ?_)
      · have hf := it_n h_6 hf
        refine lv_aload_n hx hb dX7_reach_28 rfl (lv_at hl 0 rfl) ?_
        refine lv_iload_n hx hb dX7_reach_29 rfl (lv_at hl 1 rfl) ?_
        obtain ⟨_, i_7, hf⟩ := b_some hf
        obtain ⟨z_7, c_7, hf⟩ := b_some hf
        refine xx_cVv hZ hE (As := [.int a1]) (rest := []) k_X7 (is_m i_7) tw_469 tw_470 (c_X7_want l D cA ad o a1 M _ c_7) cw_X7_want tw_468 ⟨rfl, rfl⟩ ⟨Nat.le_of_ble_eq_true rfl, Nat.le_of_ble_eq_true rfl⟩ rfl hl.1 rfl (Nat.le_of_ble_eq_true rfl) ⟨Nat.le_of_ble_eq_true rfl, Nat.le_of_ble_eq_true rfl⟩ dX7_reach_30 (fun H locs hE => ?_)
        refine lv_iconst (v := 0) hx hb dX7_reach_33 (by decide) ?_
        refine lv_istore_n (lv' := [(3, .int (0 : Int32)), (0, .ref (ad o)), (1, .int a1), (2, .int a2)]) hx hb dX7_reach_34 rfl hl (by decide) rfl (fun ls hl => ?_)
        obtain ⟨k_133_53, ek_133_53, hf⟩ := lp_X7_reach_35_k hf
        have o_133_53 : ∀ (M_53 : Mm) (H : Heap) (locs : List Loc) (ls : Array Slot), k_133_53 M_53 = some zr → En D cA ad s A M_53 H locs → lv_has ls 7 [(0, .ref (ad o)), (1, .int a1), (2, .int a2)] → W p l e rm_X7_reach s m args below meth c H locs 0 0 Q (F0 m 133 ls []) := by
          intro M_53 H locs ls hf hE hl
          rw [ek_133_53] at hf
          refine lv_iconst (v := 1) hx hb dX7_reach_133 (by decide) ?_
          refine lv_iload_n hx hb dX7_reach_134 rfl (lv_at hl 2 rfl) ?_
          refine lv_ishl hx hb dX7_reach_135 ?_
          refine lv_istore_n (lv' := [(3, .int ((1 : Int32) <<< (a2 &&& 31))), (0, .ref (ad o)), (1, .int a1), (2, .int a2)]) hx hb dX7_reach_136 rfl hl (by decide) rfl (fun ls hl => ?_)
          refine lv_iconst (v := 0) hx hb dX7_reach_137 (by decide) ?_
          refine lv_istore (lv' := [(4, .int (0 : Int32)), (3, .int ((1 : Int32) <<< (a2 &&& 31))), (0, .ref (ad o)), (1, .int a1), (2, .int a2)]) hx hb dX7_reach_138 hl (by decide) rfl (fun ls hl => ?_)
          obtain ⟨k_226_90, ek_226_90, hf⟩ := lp_X7_reach_140_k hf
          have o_226_90 : ∀ (l_90_3 : Int32) (H : Heap) (locs : List Loc) (ls : Array Slot), k_226_90 l_90_3 = some zr → En D cA ad s A M_53 H locs → lv_has ls 7 [(0, .ref (ad o)), (3, .int l_90_3)] → W p l e rm_X7_reach s m args below meth c H locs 0 0 Q (F0 m 226 ls []) := by
            intro l_90_3 H locs ls hf hE hl
            rw [ek_226_90] at hf
            refine lv_iconst (v := 0) hx hb dX7_reach_226 (by decide) ?_
            refine lv_istore (lv' := [(5, .int (0 : Int32)), (0, .ref (ad o)), (3, .int l_90_3)]) hx hb dX7_reach_227 hl (by decide) rfl (fun ls hl => ?_)
            refine lv_iconst (v := 0) hx hb dX7_reach_229 (by decide) ?_
            refine lv_istore (lv' := [(6, .int (0 : Int32)), (5, .int (0 : Int32)), (0, .ref (ad o)), (3, .int l_90_3)]) hx hb dX7_reach_230 hl (by decide) rfl (fun ls hl => ?_)
            have L_93 : ∀ (n_232 : Nat) (w_93_5 : Int32) (w_93_6 : Int32) (H : Heap) (locs : List Loc) (ls : Array Slot), lp_X7_reach_232 o l_90_3 M_53 n_232 w_93_5 w_93_6 = some zr → En D cA ad s A M_53 H locs → lv_has ls 7 [(0, .ref (ad o)), (3, .int l_90_3), (5, .int w_93_5), (6, .int w_93_6)] → W p l e rm_X7_reach s m args below meth c H locs 0 0 Q (F0 m 232 ls []) := by
              intro n_232
              induction n_232 with
              | zero =>
                intro w_93_5 w_93_6 H locs ls hf
                cases (show (none : Option (Int32 × Mm)) = some zr from hf)
              | succ n_232 ih_232 =>
                intro w_93_5 w_93_6 H locs ls hf hE hl
                have hf := lp_X7_reach_232_s _ _ _ hf
                refine lv_iload hx hb dX7_reach_232 (lv_at hl 3 rfl) ?_
                refine lv_aload_n hx hb dX7_reach_234 rfl (lv_at hl 0 rfl) ?_
                obtain ⟨x_94, g_94, hf⟩ := b_some hf
                refine xx_gI hZ hE k_X7 2 (by decide) rfl tw_363 g_94 dX7_reach_235 ?_
                refine lv_icmp_ge (tgt := 258) hx hb dX7_reach_238 (by decide) (fun h_95 => ?_) (fun h_95 => ?_)
                · have hf := it_y h_95 hf
                  refine lv_iload hx hb dX7_reach_258 (lv_at hl 2 rfl) ?_
                  exact hret _ _ _ _ _ _ (pr_1 hf) (pr_2 hf) rfl dX7_reach_260 hE
                · have hf := it_n h_95 hf
                  refine lv_iload hx hb dX7_reach_241 (lv_at hl 2 rfl) ?_
                  refine lv_iload_n hx hb dX7_reach_243 rfl (lv_at hl 1 rfl) ?_
                  refine lv_iload hx hb dX7_reach_244 (lv_at hl 3 rfl) ?_
                  refine lv_ishr hx hb dX7_reach_246 ?_
                  refine lv_iconst (v := 1) hx hb dX7_reach_247 (by decide) ?_
                  refine lv_iand hx hb dX7_reach_248 ?_
                  refine lv_iadd hx hb dX7_reach_249 ?_
                  refine lv_istore (lv' := [(5, .int (w_93_5 + ((l_90_3 >>> (w_93_6 &&& 31)) &&& (1 : Int32)))), (0, .ref (ad o)), (3, .int l_90_3), (6, .int w_93_6)]) hx hb dX7_reach_250 hl (by decide) rfl (fun ls hl => ?_)
                  refine lv_iinc (v := (w_93_6 + 1)) (lv' := [(6, .int (w_93_6 + 1)), (5, .int (w_93_5 + ((l_90_3 >>> (w_93_6 &&& 31)) &&& (1 : Int32)))), (0, .ref (ad o)), (3, .int l_90_3)]) hx hb dX7_reach_252 hl (k := 3) rfl rfl (by decide) rfl (fun ls hl => ?_)
                  refine lv_goto (tgt := 232) hx hb dX7_reach_255 (by decide) ?_
                  exact ih_232 _ _ _ _ _ hf hE (lv_sub hl [2, 3, 1, 0] rfl)
            exact L_93 _ _ _ _ _ _ hf hE (lv_sub hl [2, 3, 1, 0] rfl)
          have L_89 : ∀ (n_140 : Nat) (w_89_3 : Int32) (w_89_4 : Int32) (H : Heap) (locs : List Loc) (ls : Array Slot), lp_X7_reach_140 k_226_90 o a1 M_53 n_140 w_89_3 w_89_4 = some zr → En D cA ad s A M_53 H locs → lv_has ls 7 [(0, .ref (ad o)), (1, .int a1), (3, .int w_89_3), (4, .int w_89_4)] → W p l e rm_X7_reach s m args below meth c H locs 0 0 Q (F0 m 140 ls []) := by
            intro n_140
            induction n_140 with
            | zero =>
              intro w_89_3 w_89_4 H locs ls hf
              cases (show (none : Option (Int32 × Mm)) = some zr from hf)
            | succ n_140 ih_140 =>
              intro w_89_3 w_89_4 H locs ls hf hE hl
              have hf := lp_X7_reach_140_s _ _ _ _ hf
              refine lv_iload hx hb dX7_reach_140 (lv_at hl 3 rfl) ?_
              refine lv_iload_n hx hb dX7_reach_142 rfl (lv_at hl 2 rfl) ?_
              refine lv_icmp_eq (tgt := 226) hx hb dX7_reach_143 (by decide) (fun h_96 => ?_) (fun h_96 => ?_)
              · have hf := it_y h_96 hf
                exact o_226_90 _ _ _ _ hf hE (lv_sub hl [0, 2] rfl)
              · have hf := it_n h_96 hf
                refine lv_iload_n hx hb dX7_reach_146 rfl (lv_at hl 2 rfl) ?_
                refine lv_istore (lv' := [(4, .int w_89_3), (0, .ref (ad o)), (1, .int a1), (3, .int w_89_3)]) hx hb dX7_reach_147 hl (by decide) rfl (fun ls hl => ?_)
                refine lv_iconst (v := 0) hx hb dX7_reach_149 (by decide) ?_
                refine lv_istore (lv' := [(5, .int (0 : Int32)), (4, .int w_89_3), (0, .ref (ad o)), (1, .int a1), (3, .int w_89_3)]) hx hb dX7_reach_150 hl (by decide) rfl (fun ls hl => ?_)
                obtain ⟨k_223_98, ek_223_98, hf⟩ := lp_X7_reach_152_k hf
                have o_223_98 : ∀ (l_98_3 : Int32) (H : Heap) (locs : List Loc) (ls : Array Slot), k_223_98 l_98_3 = some zr → En D cA ad s A M_53 H locs → lv_has ls 7 [(0, .ref (ad o)), (1, .int a1), (3, .int l_98_3), (4, .int w_89_3)] → W p l e rm_X7_reach s m args below meth c H locs 0 0 Q (F0 m 223 ls []) := by
                  intro l_98_3 H locs ls hf hE hl
                  rw [ek_223_98] at hf
                  refine lv_goto (tgt := 140) hx hb dX7_reach_223 (by decide) ?_
                  exact ih_140 _ _ _ _ _ hf hE (lv_sub hl [0, 1, 2, 3] rfl)
                have L_97 : ∀ (n_152 : Nat) (w_97_3 : Int32) (w_97_5 : Int32) (H : Heap) (locs : List Loc) (ls : Array Slot), lp_X7_reach_152 k_223_98 o a1 w_89_3 M_53 n_152 w_97_3 w_97_5 = some zr → En D cA ad s A M_53 H locs → lv_has ls 7 [(0, .ref (ad o)), (1, .int a1), (3, .int w_97_3), (4, .int w_89_3), (5, .int w_97_5)] → W p l e rm_X7_reach s m args below meth c H locs 0 0 Q (F0 m 152 ls []) := by
                  intro n_152
                  induction n_152 with
                  | zero =>
                    intro w_97_3 w_97_5 H locs ls hf
                    cases (show (none : Option (Int32 × Mm)) = some zr from hf)
                  | succ n_152 ih_152 =>
                    intro w_97_3 w_97_5 H locs ls hf hE hl
                    have hf := lp_X7_reach_152_s _ _ _ _ _ hf
                    refine lv_iload hx hb dX7_reach_152 (lv_at hl 4 rfl) ?_
                    refine lv_aload_n hx hb dX7_reach_154 rfl (lv_at hl 0 rfl) ?_
                    obtain ⟨x_99, g_99, hf⟩ := b_some hf
                    refine xx_gI hZ hE k_X7 2 (by decide) rfl tw_363 g_99 dX7_reach_155 ?_
                    refine lv_icmp_ge (tgt := 223) hx hb dX7_reach_158 (by decide) (fun h_100 => ?_) (fun h_100 => ?_)
                    · have hf := it_y h_100 hf
                      exact o_223_98 _ _ _ _ hf hE (lv_sub hl [0, 1, 2, 3] rfl)
                    · have hf := it_n h_100 hf
                      refine lv_iconst (v := 0) hx hb dX7_reach_161 (by decide) ?_
                      refine lv_istore (lv' := [(6, .int (0 : Int32)), (0, .ref (ad o)), (1, .int a1), (3, .int w_97_3), (4, .int w_89_3), (5, .int w_97_5)]) hx hb dX7_reach_162 hl (by decide) rfl (fun ls hl => ?_)
                      obtain ⟨k_217_102, ek_217_102, hf⟩ := lp_X7_reach_164_k hf
                      have o_217_102 : ∀ (l_102_3 : Int32) (H : Heap) (locs : List Loc) (ls : Array Slot), k_217_102 l_102_3 = some zr → En D cA ad s A M_53 H locs → lv_has ls 7 [(0, .ref (ad o)), (1, .int a1), (3, .int l_102_3), (4, .int w_89_3), (5, .int w_97_5)] → W p l e rm_X7_reach s m args below meth c H locs 0 0 Q (F0 m 217 ls []) := by
                        intro l_102_3 H locs ls hf hE hl
                        rw [ek_217_102] at hf
                        refine lv_iinc (v := (w_97_5 + 1)) (lv' := [(5, .int (w_97_5 + 1)), (0, .ref (ad o)), (1, .int a1), (3, .int l_102_3), (4, .int w_89_3)]) hx hb dX7_reach_217 hl (k := 4) rfl rfl (by decide) rfl (fun ls hl => ?_)
                        refine lv_goto (tgt := 152) hx hb dX7_reach_220 (by decide) ?_
                        exact ih_152 _ _ _ _ _ hf hE (lv_sub hl [1, 2, 3, 4, 0] rfl)
                      have L_101 : ∀ (n_164 : Nat) (w_101_3 : Int32) (w_101_6 : Int32) (H : Heap) (locs : List Loc) (ls : Array Slot), lp_X7_reach_164 k_217_102 o a1 w_89_3 w_97_5 M_53 n_164 w_101_3 w_101_6 = some zr → En D cA ad s A M_53 H locs → lv_has ls 7 [(0, .ref (ad o)), (1, .int a1), (3, .int w_101_3), (4, .int w_89_3), (5, .int w_97_5), (6, .int w_101_6)] → W p l e rm_X7_reach s m args below meth c H locs 0 0 Q (F0 m 164 ls []) := by
                        intro n_164
                        induction n_164 with
                        | zero =>
                          intro w_101_3 w_101_6 H locs ls hf
                          cases (show (none : Option (Int32 × Mm)) = some zr from hf)
                        | succ n_164 ih_164 =>
                          intro w_101_3 w_101_6 H locs ls hf hE hl
                          have hf := lp_X7_reach_164_s _ _ _ _ _ _ hf
                          refine lv_iload hx hb dX7_reach_164 (lv_at hl 5 rfl) ?_
                          refine lv_aload_n hx hb dX7_reach_166 rfl (lv_at hl 0 rfl) ?_
                          obtain ⟨x_103, g_103, hf⟩ := b_some hf
                          refine xx_gI hZ hE k_X7 2 (by decide) rfl tw_363 g_103 dX7_reach_167 ?_
                          refine lv_icmp_ge (tgt := 217) hx hb dX7_reach_170 (by decide) (fun h_104 => ?_) (fun h_104 => ?_)
                          · have hf := it_y h_104 hf
                            exact o_217_102 _ _ _ _ hf hE (lv_sub hl [0, 1, 2, 3, 4] rfl)
                          · have hf := it_n h_104 hf
                            refine lv_iload_n hx hb dX7_reach_173 rfl (lv_at hl 2 rfl) ?_
                            refine lv_iload hx hb dX7_reach_174 (lv_at hl 4 rfl) ?_
                            refine lv_ishr hx hb dX7_reach_176 ?_
                            refine lv_iconst (v := 1) hx hb dX7_reach_177 (by decide) ?_
                            refine lv_iand hx hb dX7_reach_178 ?_
                            refine lv_iconst (v := 1) hx hb dX7_reach_179 (by decide) ?_
                            refine lv_icmp_ne (tgt := 217) hx hb dX7_reach_180 (by decide) (fun h_105 => ?_) (fun h_105 => ?_)
                            · have hf := it_n h_105 hf
                              exact o_217_102 _ _ _ _ hf hE (lv_sub hl [0, 1, 2, 3, 4] rfl)
                            · have hf := it_y h_105 hf
                              refine lv_iload_n hx hb dX7_reach_183 rfl (lv_at hl 2 rfl) ?_
                              refine lv_aload_n hx hb dX7_reach_184 rfl (lv_at hl 0 rfl) ?_
                              obtain ⟨x_106, g_106, hf⟩ := b_some hf
                              refine xx_gR hZ hE k_X7 15 (by decide) rfl tw_486 g_106 dX7_reach_185 ?_
                              refine lv_aload_n hx hb dX7_reach_188 rfl (lv_at hl 0 rfl) ?_
                              refine lv_iload_n hx hb dX7_reach_189 rfl (lv_at hl 1 rfl) ?_
                              refine lv_iload hx hb dX7_reach_190 (lv_at hl 4 rfl) ?_
                              refine lv_iload hx hb dX7_reach_192 (lv_at hl 5 rfl) ?_
                              obtain ⟨_, i_107, hf⟩ := b_some hf
                              obtain ⟨z_107, c_107, hf⟩ := b_some hf
                              refine xx_cVi hZ hE (As := [.int a1, .int w_97_5, .int w_101_6]) (rest := [.ref (ad x_106), .int w_101_3]) k_X7 (is_m i_107) tw_462 tw_463 (c_X7_at l D cA ad o a1 w_97_5 w_101_6 M_53 _ c_107) cw_X7_at tw_461 ⟨rfl, rfl⟩ ⟨Nat.le_of_ble_eq_true rfl, Nat.le_of_ble_eq_true rfl⟩ rfl hl.1 rfl (Nat.le_of_ble_eq_true rfl) ⟨Nat.le_of_ble_eq_true rfl, Nat.le_of_ble_eq_true rfl⟩ dX7_reach_194 (fun H locs hE => ?_)
                              obtain ⟨x_108, g_108, hf⟩ := b_some hf
                              refine xx_aZ hZ hE g_108 dX7_reach_197 ?_
                              have q_109 : ∀ x_109 : Int32, x_109 = (if x_108 = 0 then (0 : Int32) else ((1 : Int32) <<< (w_101_6 &&& 31))) → W p l e rm_X7_reach s m args below meth c H locs 0 0 Q (F0 m 209 ls [.int x_109, .int w_101_3]) := by
                                intro x_109 e_109
                                subst e_109
                                refine lv_ior hx hb dX7_reach_209 ?_
                                refine lv_istore_n (lv' := [(3, .int (w_101_3 ||| (if x_108 = 0 then (0 : Int32) else ((1 : Int32) <<< (w_101_6 &&& 31))))), (0, .ref (ad o)), (1, .int a1), (4, .int w_89_3), (5, .int w_97_5), (6, .int w_101_6)]) hx hb dX7_reach_210 rfl hl (by decide) rfl (fun ls hl => ?_)
                                refine lv_iinc (v := (w_101_6 + 1)) (lv' := [(6, .int (w_101_6 + 1)), (3, .int (w_101_3 ||| (if x_108 = 0 then (0 : Int32) else ((1 : Int32) <<< (w_101_6 &&& 31))))), (0, .ref (ad o)), (1, .int a1), (4, .int w_89_3), (5, .int w_97_5)]) hx hb dX7_reach_211 hl (k := 5) rfl rfl (by decide) rfl (fun ls hl => ?_)
                                refine lv_goto (tgt := 164) hx hb dX7_reach_214 (by decide) ?_
                                exact ih_164 _ _ _ _ _ hf hE (lv_sub hl [2, 3, 1, 4, 5, 0] rfl)
                              refine lv_if_eq (tgt := 208) hx hb dX7_reach_198 (by decide) (fun h_110 => ?_) (fun h_110 => ?_)
                              · refine lv_iconst (v := 0) hx hb dX7_reach_208 (by decide) ?_
                                exact q_109 _ (by rw [if_pos h_110])
                              · refine lv_iconst (v := 1) hx hb dX7_reach_201 (by decide) ?_
                                refine lv_iload hx hb dX7_reach_202 (lv_at hl 5 rfl) ?_
                                refine lv_ishl hx hb dX7_reach_204 ?_
                                refine lv_goto (tgt := 209) hx hb dX7_reach_205 (by decide) ?_
                                exact q_109 _ (by rw [if_neg h_110])
                      exact L_101 _ _ _ _ _ _ hf hE (lv_sub hl [1, 2, 3, 4, 5, 0] rfl)
                exact L_97 _ _ _ _ _ _ hf hE (lv_sub hl [2, 3, 4, 1, 0] rfl)
          exact L_89 _ _ _ _ _ _ hf hE (lv_sub hl [2, 3, 1, 0] rfl)
        have L_52 : ∀ (n_35 : Nat) (w_52_3 : Int32) (M_52 : Mm) (H : Heap) (locs : List Loc) (ls : Array Slot), lp_X7_reach_35 k_133_53 o a1 a2 n_35 w_52_3 M_52 = some zr → En D cA ad s A M_52 H locs → lv_has ls 7 [(0, .ref (ad o)), (1, .int a1), (2, .int a2), (3, .int w_52_3)] → W p l e rm_X7_reach s m args below meth c H locs 0 0 Q (F0 m 35 ls []) := by
          intro n_35
          induction n_35 with
          | zero =>
            intro w_52_3 M_52 H locs ls hf
            cases (show (none : Option (Int32 × Mm)) = some zr from hf)
          | succ n_35 ih_35 =>
            intro w_52_3 M_52 H locs ls hf hE hl
            have hf := lp_X7_reach_35_s _ _ _ _ hf
            refine lv_iload_n hx hb dX7_reach_35 rfl (lv_at hl 3 rfl) ?_
            refine lv_iload_n hx hb dX7_reach_36 rfl (lv_at hl 1 rfl) ?_
            refine lv_icmp_gt (tgt := 133) hx hb dX7_reach_37 (by decide) (fun h_111 => ?_) (fun h_111 => ?_)
            · have hf := it_y h_111 hf
              exact o_133_53 _ _ _ _ hf hE (lv_sub hl [0, 1, 2] rfl)
            · have hf := it_n h_111 hf
              refine lv_iconst (v := 0) hx hb dX7_reach_40 (by decide) ?_
              refine lv_istore (lv' := [(4, .int (0 : Int32)), (0, .ref (ad o)), (1, .int a1), (2, .int a2), (3, .int w_52_3)]) hx hb dX7_reach_41 hl (by decide) rfl (fun ls hl => ?_)
              obtain ⟨k_127_113, ek_127_113, hf⟩ := lp_X7_reach_43_k hf
              have o_127_113 : ∀ (M_113 : Mm) (H : Heap) (locs : List Loc) (ls : Array Slot), k_127_113 M_113 = some zr → En D cA ad s A M_113 H locs → lv_has ls 7 [(0, .ref (ad o)), (1, .int a1), (2, .int a2), (3, .int w_52_3)] → W p l e rm_X7_reach s m args below meth c H locs 0 0 Q (F0 m 127 ls []) := by
                intro M_113 H locs ls hf hE hl
                rw [ek_127_113] at hf
                refine lv_iinc (v := (w_52_3 + 1)) (lv' := [(3, .int (w_52_3 + 1)), (0, .ref (ad o)), (1, .int a1), (2, .int a2)]) hx hb dX7_reach_127 hl (k := 3) rfl rfl (by decide) rfl (fun ls hl => ?_)
                refine lv_goto (tgt := 35) hx hb dX7_reach_130 (by decide) ?_
                exact ih_35 _ _ _ _ _ hf hE (lv_sub hl [1, 2, 3, 0] rfl)
              have L_112 : ∀ (n_43 : Nat) (w_112_4 : Int32) (M_112 : Mm) (H : Heap) (locs : List Loc) (ls : Array Slot), lp_X7_reach_43 k_127_113 o a1 a2 w_52_3 n_43 w_112_4 M_112 = some zr → En D cA ad s A M_112 H locs → lv_has ls 7 [(0, .ref (ad o)), (1, .int a1), (2, .int a2), (3, .int w_52_3), (4, .int w_112_4)] → W p l e rm_X7_reach s m args below meth c H locs 0 0 Q (F0 m 43 ls []) := by
                intro n_43
                induction n_43 with
                | zero =>
                  intro w_112_4 M_112 H locs ls hf
                  cases (show (none : Option (Int32 × Mm)) = some zr from hf)
                | succ n_43 ih_43 =>
                  intro w_112_4 M_112 H locs ls hf hE hl
                  have hf := lp_X7_reach_43_s _ _ _ _ _ hf
                  refine lv_iload hx hb dX7_reach_43 (lv_at hl 4 rfl) ?_
                  refine lv_aload_n hx hb dX7_reach_45 rfl (lv_at hl 0 rfl) ?_
                  obtain ⟨x_114, g_114, hf⟩ := b_some hf
                  refine xx_gI hZ hE k_X7 2 (by decide) rfl tw_363 g_114 dX7_reach_46 ?_
                  refine lv_icmp_ge (tgt := 127) hx hb dX7_reach_49 (by decide) (fun h_115 => ?_) (fun h_115 => ?_)
                  · have hf := it_y h_115 hf
                    exact o_127_113 _ _ _ _ hf hE (lv_sub hl [0, 1, 2, 3] rfl)
                  · have hf := it_n h_115 hf
                    refine lv_aload_n hx hb dX7_reach_52 rfl (lv_at hl 0 rfl) ?_
                    obtain ⟨x_116, g_116, hf⟩ := b_some hf
                    refine xx_gR hZ hE k_X7 16 (by decide) rfl tw_467 g_116 dX7_reach_53 ?_
                    refine lv_iload_n hx hb dX7_reach_56 rfl (lv_at hl 3 rfl) ?_
                    obtain ⟨x_117, g_117, hf⟩ := b_some hf
                    refine xx_aZ hZ hE g_117 dX7_reach_57 ?_
                    refine lv_if_eq (tgt := 127) hx hb dX7_reach_58 (by decide) (fun h_118 => ?_) (fun h_118 => ?_)
                    · have hf := it_y h_118 hf
                      exact o_127_113 _ _ _ _ hf hE (lv_sub hl [0, 1, 2, 3] rfl)
                    · have hf := it_n h_118 hf
                      refine lv_iconst (v := 0) hx hb dX7_reach_61 (by decide) ?_
                      refine lv_istore (lv' := [(5, .int (0 : Int32)), (0, .ref (ad o)), (1, .int a1), (2, .int a2), (3, .int w_52_3), (4, .int w_112_4)]) hx hb dX7_reach_62 hl (by decide) rfl (fun ls hl => ?_)
                      obtain ⟨k_94_120, ek_94_120, hf⟩ := lp_X7_reach_64_k hf
                      have o_94_120 : ∀ (M_120 : Mm) (H : Heap) (locs : List Loc) (ls : Array Slot), k_94_120 M_120 = some zr → En D cA ad s A M_120 H locs → lv_has ls 7 [(0, .ref (ad o)), (1, .int a1), (2, .int a2), (3, .int w_52_3), (4, .int w_112_4)] → W p l e rm_X7_reach s m args below meth c H locs 0 0 Q (F0 m 94 ls []) := by
                        intro M_120 H locs ls hf hE hl
                        rw [ek_94_120] at hf
                        refine lv_aload_n hx hb dX7_reach_94 rfl (lv_at hl 0 rfl) ?_
                        obtain ⟨x_121, g_121, hf⟩ := b_some hf
                        refine xx_gR hZ hE k_X7 5 (by decide) rfl tw_393 g_121 dX7_reach_95 ?_
                        refine lv_iload_n hx hb dX7_reach_98 rfl (lv_at hl 3 rfl) ?_
                        obtain ⟨x_122, g_122, hf⟩ := b_some hf
                        refine xx_aI hZ hE g_122 dX7_reach_99 ?_
                        refine lv_iconst (v := 5) hx hb dX7_reach_100 (by decide) ?_
                        obtain ⟨j_123, ej_123, hf⟩ := jn_e hf
                        have q_123 : ∀ (M_123 : Mm) (H : Heap) (locs : List Loc) (ls : Array Slot), j_123 M_123 = some zr → En D cA ad s A M_123 H locs → lv_has ls 7 [(0, .ref (ad o)), (1, .int a1), (2, .int a2), (3, .int w_52_3), (4, .int w_112_4)] → W p l e rm_X7_reach s m args below meth c H locs 0 0 Q (F0 m 121 ls []) := by
                          intro M_123 H locs ls hf hE hl
                          rw [ej_123] at hf
                          refine lv_iinc (v := (w_112_4 + 1)) (lv' := [(4, .int (w_112_4 + 1)), (0, .ref (ad o)), (1, .int a1), (2, .int a2), (3, .int w_52_3)]) hx hb dX7_reach_121 hl (k := 4) rfl rfl (by decide) rfl (fun ls hl => ?_)
                          refine lv_goto (tgt := 43) hx hb dX7_reach_124 (by decide) ?_
                          exact ih_43 _ _ _ _ _ hf hE (lv_sub hl [1, 2, 3, 4, 0] rfl)
                        refine lv_icmp_lt (tgt := 114) hx hb dX7_reach_101 (by decide) (fun h_124 => ?_) (fun h_124 => ?_)
                        · have hf := it_y h_124 hf
                          refine lv_aload_n hx hb dX7_reach_114 rfl (lv_at hl 0 rfl) ?_
                          refine lv_iload_n hx hb dX7_reach_115 rfl (lv_at hl 3 rfl) ?_
                          refine lv_iload hx hb dX7_reach_116 (lv_at hl 4 rfl) ?_
                          obtain ⟨_, i_125, hf⟩ := b_some hf
                          obtain ⟨z_125, c_125, hf⟩ := b_some hf
                          refine xx_cVv hZ hE (As := [.int w_52_3, .int w_112_4]) (rest := []) k_X7 (is_m i_125) tw_497 tw_498 (c_X7_plainLeads l D cA ad o w_52_3 w_112_4 M_120 _ c_125) cw_X7_plainLeads tw_496 ⟨rfl, rfl⟩ ⟨Nat.le_of_ble_eq_true rfl, Nat.le_of_ble_eq_true rfl⟩ rfl hl.1 rfl (Nat.le_of_ble_eq_true rfl) ⟨Nat.le_of_ble_eq_true rfl, Nat.le_of_ble_eq_true rfl⟩ dX7_reach_118 (fun H locs hE => ?_)
                          exact q_123 _ _ _ _ hf hE (lv_sub hl [0, 1, 2, 3, 4] rfl)
                        · have hf := it_n h_124 hf
                          refine lv_aload_n hx hb dX7_reach_104 rfl (lv_at hl 0 rfl) ?_
                          refine lv_iload_n hx hb dX7_reach_105 rfl (lv_at hl 3 rfl) ?_
                          refine lv_iload hx hb dX7_reach_106 (lv_at hl 4 rfl) ?_
                          obtain ⟨_, i_126, hf⟩ := b_some hf
                          obtain ⟨z_126, c_126, hf⟩ := b_some hf
                          refine xx_cVv hZ hE (As := [.int w_52_3, .int w_112_4]) (rest := []) k_X7 (is_m i_126) tw_500 tw_501 (c_X7_nestedLeads l D cA ad o w_52_3 w_112_4 M_120 _ c_126) cw_X7_nestedLeads tw_499 ⟨rfl, rfl⟩ ⟨Nat.le_of_ble_eq_true rfl, Nat.le_of_ble_eq_true rfl⟩ rfl hl.1 rfl (Nat.le_of_ble_eq_true rfl) ⟨Nat.le_of_ble_eq_true rfl, Nat.le_of_ble_eq_true rfl⟩ dX7_reach_108 (fun H locs hE => ?_)
                          refine lv_goto (tgt := 121) hx hb dX7_reach_111 (by decide) ?_
                          exact q_123 _ _ _ _ hf hE (lv_sub hl [0, 1, 2, 3, 4] rfl)
                      have L_119 : ∀ (n_64 : Nat) (w_119_5 : Int32) (M_119 : Mm) (H : Heap) (locs : List Loc) (ls : Array Slot), lp_X7_reach_64 k_94_120 o a1 a2 w_52_3 w_112_4 n_64 w_119_5 M_119 = some zr → En D cA ad s A M_119 H locs → lv_has ls 7 [(0, .ref (ad o)), (1, .int a1), (2, .int a2), (3, .int w_52_3), (4, .int w_112_4), (5, .int w_119_5)] → W p l e rm_X7_reach s m args below meth c H locs 0 0 Q (F0 m 64 ls []) := by
                        intro n_64
                        induction n_64 with
                        | zero =>
                          intro w_119_5 M_119 H locs ls hf
                          cases (show (none : Option (Int32 × Mm)) = some zr from hf)
                        | succ n_64 ih_64 =>
                          intro w_119_5 M_119 H locs ls hf hE hl
                          have hf := lp_X7_reach_64_s _ _ _ _ _ _ hf
                          refine lv_iload hx hb dX7_reach_64 (lv_at hl 5 rfl) ?_
                          refine lv_aload_n hx hb dX7_reach_66 rfl (lv_at hl 0 rfl) ?_
                          obtain ⟨x_127, g_127, hf⟩ := b_some hf
                          refine xx_gI hZ hE k_X7 2 (by decide) rfl tw_363 g_127 dX7_reach_67 ?_
                          refine lv_icmp_ge (tgt := 94) hx hb dX7_reach_70 (by decide) (fun h_128 => ?_) (fun h_128 => ?_)
                          · have hf := it_y h_128 hf
                            exact o_94_120 _ _ _ _ hf hE (lv_sub hl [0, 1, 2, 3, 4] rfl)
                          · have hf := it_n h_128 hf
                            refine lv_aload_n hx hb dX7_reach_73 rfl (lv_at hl 0 rfl) ?_
                            obtain ⟨x_129, g_129, hf⟩ := b_some hf
                            refine xx_gR hZ hE k_X7 15 (by decide) rfl tw_486 g_129 dX7_reach_74 ?_
                            refine lv_aload_n hx hb dX7_reach_77 rfl (lv_at hl 0 rfl) ?_
                            refine lv_iload_n hx hb dX7_reach_78 rfl (lv_at hl 3 rfl) ?_
                            refine lv_iload hx hb dX7_reach_79 (lv_at hl 4 rfl) ?_
                            refine lv_iload hx hb dX7_reach_81 (lv_at hl 5 rfl) ?_
                            obtain ⟨_, i_130, hf⟩ := b_some hf
                            obtain ⟨z_130, c_130, hf⟩ := b_some hf
                            refine xx_cVi hZ hE (As := [.int w_52_3, .int w_112_4, .int w_119_5]) (rest := [.ref (ad x_129)]) k_X7 (is_m i_130) tw_462 tw_463 (c_X7_at l D cA ad o w_52_3 w_112_4 w_119_5 M_119 _ c_130) cw_X7_at tw_461 ⟨rfl, rfl⟩ ⟨Nat.le_of_ble_eq_true rfl, Nat.le_of_ble_eq_true rfl⟩ rfl hl.1 rfl (Nat.le_of_ble_eq_true rfl) ⟨Nat.le_of_ble_eq_true rfl, Nat.le_of_ble_eq_true rfl⟩ dX7_reach_83 (fun H locs hE => ?_)
                            refine lv_iconst (v := 0) hx hb dX7_reach_86 (by decide) ?_
                            obtain ⟨M_131, g_131, hf⟩ := b_some hf
                            refine xx_sZ hZ hE g_131 dX7_reach_87 (fun H locs hE => ?_)
                            refine lv_iinc (v := (w_119_5 + 1)) (lv' := [(5, .int (w_119_5 + 1)), (0, .ref (ad o)), (1, .int a1), (2, .int a2), (3, .int w_52_3), (4, .int w_112_4)]) hx hb dX7_reach_88 hl (k := 5) rfl rfl (by decide) rfl (fun ls hl => ?_)
                            refine lv_goto (tgt := 64) hx hb dX7_reach_91 (by decide) ?_
                            exact ih_64 _ _ _ _ _ hf hE (lv_sub hl [1, 2, 3, 4, 5, 0] rfl)
                      exact L_119 _ _ _ _ _ _ hf hE (lv_sub hl [1, 2, 3, 4, 5, 0] rfl)
              exact L_112 _ _ _ _ _ _ hf hE (lv_sub hl [1, 2, 3, 4, 0] rfl)
        exact L_52 _ _ _ _ _ _ hf hE (lv_sub hl [1, 2, 3, 0] rfl)
      · have hf := it_y h_6 hf
        refine lv_iconst (v := -1) hx hb dX7_reach_26 (by decide) ?_
        exact hret _ _ _ _ _ _ (pr_1 hf) (pr_2 hf) rfl dX7_reach_27 hE
  · have hf := it_y h_2 hf
    refine lv_bipush (v := -2) hx hb dX7_reach_7 (by decide) ?_
    exact hret _ _ _ _ _ _ (pr_1 hf) (pr_2 hf) rfl dX7_reach_9 hE
def rm_X7_draw : Room := { frames := 0, cells := 0, slots := 0, locals := 0 }
def f_X7_draw (o : Nat) (a1 : Int64) (M : Mm) : Option (Int64 × Mm) :=
    (op_gL M 7 o 20).bind fun x_1 =>
    (op_pL M 7 o 20 (((x_1 * (25214903917 : Int64)) + (11 : Int64)) &&& (281474976710655 : Int64))).bind fun M_2 =>
    (op_gL M_2 7 o 20).bind fun x_3 =>
    if a1 = 0 then none else
    some (((x_3 >>> ((17 : Int32).toInt64 &&& 63)) - (x_3 >>> ((17 : Int32).toInt64 &&& 63)) / a1 * a1), M_2)
set_option maxHeartbeats 4000000 in
set_option maxRecDepth 100000 in
theorem c_X7_draw (l : Launch) (D : va_G) (cA : Nat → ClassId) (ad : Nat → Nat) (o : Nat) (a1 : Int64) (M : Mm) (zr : Int64 × Mm) (hf : f_X7_draw o a1 M = some zr) : KL l yX7_draw cX7_draw 3 (some .long) rm_X7_draw D cA ad [.ref (ad o), .long a1] M zr.1 zr.2 := by
  refine KL_of (by decide) (Nat.le_of_ble_eq_true rfl) ?_
  intro p e s m args below meth c ls Q A H locs hZ hE hl hret
  have hx := hZ.1
  have hb := hZ.2.1
  have hown := hZ.2.2.2.1
  have hts := hZ.2.2.2.2.1
  have hl : lv_has ls 3 [(0, .ref (ad o)), (1, .long a1)] := hl
  unfold f_X7_draw at hf
  refine lv_aload_n hx hb dX7_draw_0 rfl (lv_at hl 0 rfl) ?_
  refine lv_aload_n hx hb dX7_draw_1 rfl (lv_at hl 0 rfl) ?_
  obtain ⟨x_1, g_1, hf⟩ := b_some hf
  refine xx_gL hZ hE k_X7 20 (by decide) rfl tw_502 g_1 dX7_draw_2 ?_
  refine lv_ldc2 (v := 25214903917) hx hb hown (hts _ tw_503) dX7_draw_5 ?_
  refine lv_lmul hx hb dX7_draw_8 ?_
  refine lv_ldc2 (v := 11) hx hb hown (hts _ tw_504) dX7_draw_9 ?_
  refine lv_ladd hx hb dX7_draw_12 ?_
  refine lv_ldc2 (v := 281474976710655) hx hb hown (hts _ tw_505) dX7_draw_13 ?_
  refine lv_land hx hb dX7_draw_16 ?_
  obtain ⟨M_2, g_2, hf⟩ := b_some hf
  refine xx_pL hZ hE k_X7 20 (by decide) rfl rfl rfl tw_502 g_2 dX7_draw_17 (fun H locs hE => ?_)
  refine lv_aload_n hx hb dX7_draw_20 rfl (lv_at hl 0 rfl) ?_
  obtain ⟨x_3, g_3, hf⟩ := b_some hf
  refine xx_gL hZ hE k_X7 20 (by decide) rfl tw_502 g_3 dX7_draw_21 ?_
  refine lv_bipush (v := 17) hx hb dX7_draw_24 (by decide) ?_
  refine lv_lshr hx hb dX7_draw_26 rfl ?_
  refine lv_lload_n hx hb dX7_draw_27 rfl (lv_at hl 1 rfl) ?_
  obtain ⟨h_4, hf⟩ := e_some hf
  refine lv_lrem hx hb dX7_draw_28 h_4 ?_
  exact hret _ _ _ _ _ _ (pr_1 hf) (pr_2 hf) dX7_draw_29 hE
def rm_X7_accepted : Room := { frames := 1, cells := 0, slots := 0, locals := 22 }
def f_X7_accepted (o : Nat) (a1 : Int32) (a2 : Int32) (M : Mm) : Option (Int32 × Mm) :=
    (op_gR M 7 o 3).bind fun x_1 =>
    (op_aI M x_1 a2).bind fun x_2 =>
    (op_gR M 7 o 3).bind fun x_3 =>
    (op_aI M x_3 a1).bind fun x_4 =>
    if x_4 ≤ x_2 then
    some (a2, M)
    else
    (op_gR M 7 o 3).bind fun x_6 =>
    (op_aI M x_6 a1).bind fun x_7 =>
    (op_is M o 7).bind fun _ =>
    (f_X7_draw o x_7.toInt64 M).bind fun z_8 =>
    (op_gR z_8.2 7 o 3).bind fun x_9 =>
    (op_aI z_8.2 x_9 a2).bind fun x_10 =>
    if x_10.toInt64 ≤ z_8.1 then
    (op_gI z_8.2 7 o 19).bind fun x_12 =>
    (op_pI z_8.2 7 o 19 (x_12 + (1 : Int32))).bind fun M_13 =>
    some (a1, M_13)
    else
    some (a2, z_8.2)
set_option maxHeartbeats 4000000 in
set_option maxRecDepth 100000 in
theorem c_X7_accepted (l : Launch) (D : va_G) (cA : Nat → ClassId) (ad : Nat → Nat) (o : Nat) (a1 : Int32) (a2 : Int32) (M : Mm) (zr : Int32 × Mm) (hf : f_X7_accepted o a1 a2 M = some zr) : KI l yX7_accepted cX7_accepted 3 (some .int) rm_X7_accepted D cA ad [.ref (ad o), .int a1, .int a2] M zr.1 zr.2 := by
  refine KI_of (by decide) (Nat.le_of_ble_eq_true rfl) ?_
  intro p e s m args below meth c ls Q A H locs hZ hE hl hret
  have hx := hZ.1
  have hb := hZ.2.1
  have hown := hZ.2.2.2.1
  have hts := hZ.2.2.2.2.1
  have hl : lv_has ls 3 [(0, .ref (ad o)), (1, .int a1), (2, .int a2)] := hl
  unfold f_X7_accepted at hf
  refine lv_aload_n hx hb dX7_accepted_0 rfl (lv_at hl 0 rfl) ?_
  obtain ⟨x_1, g_1, hf⟩ := b_some hf
  refine xx_gR hZ hE k_X7 3 (by decide) rfl tw_371 g_1 dX7_accepted_1 ?_
  refine lv_iload_n hx hb dX7_accepted_4 rfl (lv_at hl 2 rfl) ?_
  obtain ⟨x_2, g_2, hf⟩ := b_some hf
  refine xx_aI hZ hE g_2 dX7_accepted_5 ?_
  refine lv_aload_n hx hb dX7_accepted_6 rfl (lv_at hl 0 rfl) ?_
  obtain ⟨x_3, g_3, hf⟩ := b_some hf
  refine xx_gR hZ hE k_X7 3 (by decide) rfl tw_371 g_3 dX7_accepted_7 ?_
  refine lv_iload_n hx hb dX7_accepted_10 rfl (lv_at hl 1 rfl) ?_
  obtain ⟨x_4, g_4, hf⟩ := b_some hf
  refine xx_aI hZ hE g_4 dX7_accepted_11 ?_
  refine lv_icmp_ge (tgt := 37) hx hb dX7_accepted_12 (by decide) (fun h_5 => ?_) (fun h_5 => ?_)
  · have hf := it_y h_5 hf
    refine lv_iload_n hx hb dX7_accepted_37 rfl (lv_at hl 2 rfl) ?_
    exact hret _ _ _ _ _ _ (pr_1 hf) (pr_2 hf) rfl dX7_accepted_38 hE
  · have hf := it_n h_5 hf
    refine lv_aload_n hx hb dX7_accepted_15 rfl (lv_at hl 0 rfl) ?_
    refine lv_aload_n hx hb dX7_accepted_16 rfl (lv_at hl 0 rfl) ?_
    obtain ⟨x_6, g_6, hf⟩ := b_some hf
    refine xx_gR hZ hE k_X7 3 (by decide) rfl tw_371 g_6 dX7_accepted_17 ?_
    refine lv_iload_n hx hb dX7_accepted_20 rfl (lv_at hl 1 rfl) ?_
    obtain ⟨x_7, g_7, hf⟩ := b_some hf
    refine xx_aI hZ hE g_7 dX7_accepted_21 ?_
    refine lv_i2l hx hb dX7_accepted_22 rfl ?_
    obtain ⟨_, i_8, hf⟩ := b_some hf
    obtain ⟨z_8, c_8, hf⟩ := b_some hf
    refine xx_cVl hZ hE (As := [.long x_7.toInt64]) (rest := []) k_X7 (is_m i_8) tw_507 tw_508 (c_X7_draw l D cA ad o x_7.toInt64 M _ c_8) cw_X7_draw tw_506 ⟨rfl, rfl⟩ ⟨Nat.le_of_ble_eq_true rfl, Nat.le_of_ble_eq_true rfl⟩ rfl hl.1 rfl (Nat.le_of_ble_eq_true rfl) ⟨Nat.le_of_ble_eq_true rfl, Nat.le_of_ble_eq_true rfl⟩ dX7_accepted_23 (fun H locs hE => ?_)
    refine lv_aload_n hx hb dX7_accepted_26 rfl (lv_at hl 0 rfl) ?_
    obtain ⟨x_9, g_9, hf⟩ := b_some hf
    refine xx_gR hZ hE k_X7 3 (by decide) rfl tw_371 g_9 dX7_accepted_27 ?_
    refine lv_iload_n hx hb dX7_accepted_30 rfl (lv_at hl 2 rfl) ?_
    obtain ⟨x_10, g_10, hf⟩ := b_some hf
    refine xx_aI hZ hE g_10 dX7_accepted_31 ?_
    refine lv_i2l hx hb dX7_accepted_32 rfl ?_
    refine xx_lge (tgt := 39) hx hb dX7_accepted_33 dX7_accepted_34 (by decide) (fun h_11 => ?_) (fun h_11 => ?_)
    · have hf := it_y h_11 hf
      refine lv_aload_n hx hb dX7_accepted_39 rfl (lv_at hl 0 rfl) ?_
      refine lv_dup hx hb dX7_accepted_40 rfl ?_
      obtain ⟨x_12, g_12, hf⟩ := b_some hf
      refine xx_gI hZ hE k_X7 19 (by decide) rfl tw_373 g_12 dX7_accepted_41 ?_
      refine lv_iconst (v := 1) hx hb dX7_accepted_44 (by decide) ?_
      refine lv_iadd hx hb dX7_accepted_45 ?_
      obtain ⟨M_13, g_13, hf⟩ := b_some hf
      refine xx_pI hZ hE k_X7 19 (by decide) rfl rfl rfl tw_373 g_13 dX7_accepted_46 (fun H locs hE => ?_)
      refine lv_iload_n hx hb dX7_accepted_49 rfl (lv_at hl 1 rfl) ?_
      exact hret _ _ _ _ _ _ (pr_1 hf) (pr_2 hf) rfl dX7_accepted_50 hE
    · have hf := it_n h_11 hf
      refine lv_iload_n hx hb dX7_accepted_37 rfl (lv_at hl 2 rfl) ?_
      exact hret _ _ _ _ _ _ (pr_1 hf) (pr_2 hf) rfl dX7_accepted_38 hE
def lp_X7_toldRun_39 (k_72 : Int32 → Option (Int32 × Mm)) (i_0 : Nat) (i_1 : Int32) (i_2 : Int32) (i_4 : Int64) (M : Mm) : Nat → Int32 → Int64 → Option (Int32 × Mm)
  | 0, _, _ => none
  | n_39 + 1, v_6, v_7 =>
    if i_4 < v_7 then
    k_72 v_6
    else
    (op_gR M 7 i_0 11).bind fun x_8 =>
    (op_is M i_0 7).bind fun _ =>
    (f_X7_at i_0 i_1 i_2 (v_6 + 1)).bind fun z_9 =>
    (op_aI M x_8 z_9).bind fun x_10 =>
    lp_X7_toldRun_39 k_72 i_0 i_1 i_2 i_4 M n_39 (v_6 + 1) (v_7 + x_10.toInt64)
theorem lp_X7_toldRun_39_s (k_72 : Int32 → Option (Int32 × Mm)) (i_0 : Nat) (i_1 : Int32) (i_2 : Int32) (i_4 : Int64) (M : Mm) {n_39 : Nat} {v_6 : Int32} {v_7 : Int64} {zr : Int32 × Mm} (hf : lp_X7_toldRun_39 k_72 i_0 i_1 i_2 i_4 M (n_39 + 1) v_6 v_7 = some zr) : (
    if i_4 < v_7 then
    k_72 v_6
    else
    (op_gR M 7 i_0 11).bind fun x_8 =>
    (op_is M i_0 7).bind fun _ =>
    (f_X7_at i_0 i_1 i_2 (v_6 + 1)).bind fun z_9 =>
    (op_aI M x_8 z_9).bind fun x_10 =>
    lp_X7_toldRun_39 k_72 i_0 i_1 i_2 i_4 M n_39 (v_6 + 1) (v_7 + x_10.toInt64)) = some zr := hf
theorem lp_X7_toldRun_39_k {k_72 : Int32 → Option (Int32 × Mm)} {i_0 : Nat} {i_1 : Int32} {i_2 : Int32} {i_4 : Int64} {M : Mm} {n : Nat} {v_6 : Int32} {v_7 : Int64} {zr : Int32 × Mm} (hf : lp_X7_toldRun_39 k_72 i_0 i_1 i_2 i_4 M n v_6 v_7 = some zr) : ∃ (m_72 : Int32 → Option (Int32 × Mm)), m_72 = k_72 ∧ lp_X7_toldRun_39 m_72 i_0 i_1 i_2 i_4 M n v_6 v_7 = some zr := ⟨k_72, rfl, hf⟩
def rm_X7_toldRun : Room := { frames := 2, cells := 0, slots := 0, locals := 47 }
def f_X7_toldRun (o : Nat) (a1 : Int32) (a2 : Int32) (M : Mm) : Option (Int32 × Mm) :=
    (op_is M o 7).bind fun _ =>
    (f_X7_sumOfTold o a1 a2 M).bind fun z_1 =>
    if z_1 = 0 then
    some (a2, M)
    else
    (op_is M o 7).bind fun _ =>
    (f_X7_draw o z_1.toInt64 M).bind fun z_3 =>
    (op_gR z_3.2 7 o 11).bind fun x_4 =>
    (op_is z_3.2 o 7).bind fun _ =>
    (f_X7_at o a1 a2 (0 : Int32)).bind fun z_5 =>
    (op_aI z_3.2 x_4 z_5).bind fun x_6 =>
    lp_X7_toldRun_39 (fun (l_12_6 : Int32) =>
    (op_gR z_3.2 7 o 3).bind fun x_13 =>
    (op_aI z_3.2 x_13 a2).bind fun x_14 =>
    if x_14 = 0 then
    some (l_12_6, z_3.2)
    else
    (op_is z_3.2 o 7).bind fun _ =>
    (f_X7_above o a1 a2 l_12_6 z_3.2).bind fun z_16 =>
    (op_is z_3.2 o 7).bind fun _ =>
    (f_X7_below o a1 a2 l_12_6 z_3.2).bind fun z_17 =>
    if z_16 ≤ (0 : Int64) then
    (op_gI z_3.2 7 o 19).bind fun x_19 =>
    (op_pI z_3.2 7 o 19 (x_19 + (1 : Int32))).bind fun M_20 =>
    some (a2, M_20)
    else
    if z_17 ≤ z_16 then
    some (l_12_6, z_3.2)
    else
    (op_is z_3.2 o 7).bind fun _ =>
    (f_X7_draw o z_17 z_3.2).bind fun z_22 =>
    if z_16 ≤ z_22.1 then
    (op_gI z_22.2 7 o 19).bind fun x_24 =>
    (op_pI z_22.2 7 o 19 (x_24 + (1 : Int32))).bind fun M_25 =>
    some (a2, M_25)
    else
    some (l_12_6, z_22.2)) o a1 a2 z_3.1 z_3.2 FU (0 : Int32) x_6.toInt64
set_option maxHeartbeats 4000000 in
set_option maxRecDepth 100000 in
theorem c_X7_toldRun (l : Launch) (D : va_G) (cA : Nat → ClassId) (ad : Nat → Nat) (o : Nat) (a1 : Int32) (a2 : Int32) (M : Mm) (zr : Int32 × Mm) (hf : f_X7_toldRun o a1 a2 M = some zr) : KI l yX7_toldRun cX7_toldRun 13 (some .int) rm_X7_toldRun D cA ad [.ref (ad o), .int a1, .int a2] M zr.1 zr.2 := by
  refine KI_of (by decide) (Nat.le_of_ble_eq_true rfl) ?_
  intro p e s m args below meth c ls Q A H locs hZ hE hl hret
  have hx := hZ.1
  have hb := hZ.2.1
  have hown := hZ.2.2.2.1
  have hts := hZ.2.2.2.2.1
  have hl : lv_has ls 13 [(0, .ref (ad o)), (1, .int a1), (2, .int a2)] := hl
  unfold f_X7_toldRun at hf
  refine lv_aload_n hx hb dX7_toldRun_0 rfl (lv_at hl 0 rfl) ?_
  refine lv_iload_n hx hb dX7_toldRun_1 rfl (lv_at hl 1 rfl) ?_
  refine lv_iload_n hx hb dX7_toldRun_2 rfl (lv_at hl 2 rfl) ?_
  obtain ⟨_, i_1, hf⟩ := b_some hf
  obtain ⟨z_1, c_1, hf⟩ := b_some hf
  refine xx_cVi hZ hE (As := [.int a1, .int a2]) (rest := []) k_X7 (is_m i_1) tw_413 tw_414 (c_X7_sumOfTold l D cA ad o a1 a2 M _ c_1) cw_X7_sumOfTold tw_412 ⟨rfl, rfl⟩ ⟨Nat.le_of_ble_eq_true rfl, Nat.le_of_ble_eq_true rfl⟩ rfl hl.1 rfl (Nat.le_of_ble_eq_true rfl) ⟨Nat.le_of_ble_eq_true rfl, Nat.le_of_ble_eq_true rfl⟩ dX7_toldRun_3 (fun H locs hE => ?_)
  refine lv_istore_n (lv' := [(3, .int z_1), (0, .ref (ad o)), (1, .int a1), (2, .int a2)]) hx hb dX7_toldRun_6 rfl hl (by decide) rfl (fun ls hl => ?_)
  refine lv_iload_n hx hb dX7_toldRun_7 rfl (lv_at hl 0 rfl) ?_
  refine lv_if_ne (tgt := 13) hx hb dX7_toldRun_8 (by decide) (fun h_2 => ?_) (fun h_2 => ?_)
  · have hf := it_n h_2 hf
    refine lv_aload_n hx hb dX7_toldRun_13 rfl (lv_at hl 1 rfl) ?_
    refine lv_iload_n hx hb dX7_toldRun_14 rfl (lv_at hl 0 rfl) ?_
    refine lv_i2l hx hb dX7_toldRun_15 rfl ?_
    obtain ⟨_, i_3, hf⟩ := b_some hf
    obtain ⟨z_3, c_3, hf⟩ := b_some hf
    refine xx_cVl hZ hE (As := [.long z_1.toInt64]) (rest := []) k_X7 (is_m i_3) tw_507 tw_508 (c_X7_draw l D cA ad o z_1.toInt64 M _ c_3) cw_X7_draw tw_506 ⟨rfl, rfl⟩ ⟨Nat.le_of_ble_eq_true rfl, Nat.le_of_ble_eq_true rfl⟩ rfl hl.1 rfl (Nat.le_of_ble_eq_true rfl) ⟨Nat.le_of_ble_eq_true rfl, Nat.le_of_ble_eq_true rfl⟩ dX7_toldRun_16 (fun H locs hE => ?_)
    refine lv_lstore (lv' := [(4, .long z_3.1), (3, .int z_1), (0, .ref (ad o)), (1, .int a1), (2, .int a2)]) hx hb dX7_toldRun_19 hl (by decide) rfl (fun ls hl => ?_)
    refine lv_iconst (v := 0) hx hb dX7_toldRun_21 (by decide) ?_
    refine lv_istore (lv' := [(6, .int (0 : Int32)), (4, .long z_3.1), (3, .int z_1), (0, .ref (ad o)), (1, .int a1), (2, .int a2)]) hx hb dX7_toldRun_22 hl (by decide) rfl (fun ls hl => ?_)
    refine lv_aload_n hx hb dX7_toldRun_24 rfl (lv_at hl 3 rfl) ?_
    obtain ⟨x_4, g_4, hf⟩ := b_some hf
    refine xx_gR hZ hE k_X7 11 (by decide) rfl tw_398 g_4 dX7_toldRun_25 ?_
    refine lv_aload_n hx hb dX7_toldRun_28 rfl (lv_at hl 3 rfl) ?_
    refine lv_iload_n hx hb dX7_toldRun_29 rfl (lv_at hl 4 rfl) ?_
    refine lv_iload_n hx hb dX7_toldRun_30 rfl (lv_at hl 5 rfl) ?_
    refine lv_iconst (v := 0) hx hb dX7_toldRun_31 (by decide) ?_
    obtain ⟨_, i_5, hf⟩ := b_some hf
    obtain ⟨z_5, c_5, hf⟩ := b_some hf
    refine xx_cVi hZ hE (As := [.int a1, .int a2, .int (0 : Int32)]) (rest := [.ref (ad x_4)]) k_X7 (is_m i_5) tw_462 tw_463 (c_X7_at l D cA ad o a1 a2 (0 : Int32) z_3.2 _ c_5) cw_X7_at tw_461 ⟨rfl, rfl⟩ ⟨Nat.le_of_ble_eq_true rfl, Nat.le_of_ble_eq_true rfl⟩ rfl hl.1 rfl (Nat.le_of_ble_eq_true rfl) ⟨Nat.le_of_ble_eq_true rfl, Nat.le_of_ble_eq_true rfl⟩ dX7_toldRun_32 (fun H locs hE => ?_)
    obtain ⟨x_6, g_6, hf⟩ := b_some hf
    refine xx_aI hZ hE g_6 dX7_toldRun_35 ?_
    refine lv_i2l hx hb dX7_toldRun_36 rfl ?_
    refine lv_lstore (lv' := [(7, .long x_6.toInt64), (6, .int (0 : Int32)), (4, .long z_3.1), (3, .int z_1), (0, .ref (ad o)), (1, .int a1), (2, .int a2)]) hx hb dX7_toldRun_37 hl (by decide) rfl (fun ls hl => ?_)
    obtain ⟨k_72_12, ek_72_12, hf⟩ := lp_X7_toldRun_39_k hf
    have o_72_12 : ∀ (l_12_6 : Int32) (H : Heap) (locs : List Loc) (ls : Array Slot), k_72_12 l_12_6 = some zr → En D cA ad s A z_3.2 H locs → lv_has ls 13 [(0, .ref (ad o)), (1, .int a1), (2, .int a2), (6, .int l_12_6)] → W p l e rm_X7_toldRun s m args below meth c H locs 0 0 Q (F0 m 72 ls []) := by
      intro l_12_6 H locs ls hf hE hl
      rw [ek_72_12] at hf
      refine lv_aload_n hx hb dX7_toldRun_72 rfl (lv_at hl 0 rfl) ?_
      obtain ⟨x_13, g_13, hf⟩ := b_some hf
      refine xx_gR hZ hE k_X7 3 (by decide) rfl tw_371 g_13 dX7_toldRun_73 ?_
      refine lv_iload_n hx hb dX7_toldRun_76 rfl (lv_at hl 2 rfl) ?_
      obtain ⟨x_14, g_14, hf⟩ := b_some hf
      refine xx_aI hZ hE g_14 dX7_toldRun_77 ?_
      refine lv_if_ne (tgt := 84) hx hb dX7_toldRun_78 (by decide) (fun h_15 => ?_) (fun h_15 => ?_)
      · have hf := it_n h_15 hf
        refine lv_aload_n hx hb dX7_toldRun_84 rfl (lv_at hl 0 rfl) ?_
        refine lv_iload_n hx hb dX7_toldRun_85 rfl (lv_at hl 1 rfl) ?_
        refine lv_iload_n hx hb dX7_toldRun_86 rfl (lv_at hl 2 rfl) ?_
        refine lv_iload hx hb dX7_toldRun_87 (lv_at hl 3 rfl) ?_
        obtain ⟨_, i_16, hf⟩ := b_some hf
        obtain ⟨z_16, c_16, hf⟩ := b_some hf
        refine xx_cVl hZ hE (As := [.int a1, .int a2, .int l_12_6]) (rest := []) k_X7 (is_m i_16) tw_416 tw_417 (c_X7_above l D cA ad o a1 a2 l_12_6 z_3.2 _ c_16) cw_X7_above tw_415 ⟨rfl, rfl⟩ ⟨Nat.le_of_ble_eq_true rfl, Nat.le_of_ble_eq_true rfl⟩ rfl hl.1 rfl (Nat.le_of_ble_eq_true rfl) ⟨Nat.le_of_ble_eq_true rfl, Nat.le_of_ble_eq_true rfl⟩ dX7_toldRun_89 (fun H locs hE => ?_)
        refine lv_lstore (lv' := [(9, .long z_16), (0, .ref (ad o)), (1, .int a1), (2, .int a2), (6, .int l_12_6)]) hx hb dX7_toldRun_92 hl (by decide) rfl (fun ls hl => ?_)
        refine lv_aload_n hx hb dX7_toldRun_94 rfl (lv_at hl 1 rfl) ?_
        refine lv_iload_n hx hb dX7_toldRun_95 rfl (lv_at hl 2 rfl) ?_
        refine lv_iload_n hx hb dX7_toldRun_96 rfl (lv_at hl 3 rfl) ?_
        refine lv_iload hx hb dX7_toldRun_97 (lv_at hl 4 rfl) ?_
        obtain ⟨_, i_17, hf⟩ := b_some hf
        obtain ⟨z_17, c_17, hf⟩ := b_some hf
        refine xx_cVl hZ hE (As := [.int a1, .int a2, .int l_12_6]) (rest := []) k_X7 (is_m i_17) tw_419 tw_420 (c_X7_below l D cA ad o a1 a2 l_12_6 z_3.2 _ c_17) cw_X7_below tw_418 ⟨rfl, rfl⟩ ⟨Nat.le_of_ble_eq_true rfl, Nat.le_of_ble_eq_true rfl⟩ rfl hl.1 rfl (Nat.le_of_ble_eq_true rfl) ⟨Nat.le_of_ble_eq_true rfl, Nat.le_of_ble_eq_true rfl⟩ dX7_toldRun_99 (fun H locs hE => ?_)
        refine lv_lstore (lv' := [(11, .long z_17), (9, .long z_16), (0, .ref (ad o)), (1, .int a1), (2, .int a2), (6, .int l_12_6)]) hx hb dX7_toldRun_102 hl (by decide) rfl (fun ls hl => ?_)
        refine lv_lload hx hb dX7_toldRun_104 (lv_at hl 1 rfl) ?_
        refine lv_lconst (v := 0) hx hb dX7_toldRun_106 (by decide) ?_
        refine xx_lle (tgt := 134) hx hb dX7_toldRun_107 dX7_toldRun_108 (by decide) (fun h_18 => ?_) (fun h_18 => ?_)
        · have hf := it_y h_18 hf
          refine lv_aload_n hx hb dX7_toldRun_134 rfl (lv_at hl 2 rfl) ?_
          refine lv_dup hx hb dX7_toldRun_135 rfl ?_
          obtain ⟨x_19, g_19, hf⟩ := b_some hf
          refine xx_gI hZ hE k_X7 19 (by decide) rfl tw_373 g_19 dX7_toldRun_136 ?_
          refine lv_iconst (v := 1) hx hb dX7_toldRun_139 (by decide) ?_
          refine lv_iadd hx hb dX7_toldRun_140 ?_
          obtain ⟨M_20, g_20, hf⟩ := b_some hf
          refine xx_pI hZ hE k_X7 19 (by decide) rfl rfl rfl tw_373 g_20 dX7_toldRun_141 (fun H locs hE => ?_)
          refine lv_iload_n hx hb dX7_toldRun_144 rfl (lv_at hl 4 rfl) ?_
          exact hret _ _ _ _ _ _ (pr_1 hf) (pr_2 hf) rfl dX7_toldRun_145 hE
        · have hf := it_n h_18 hf
          refine lv_lload hx hb dX7_toldRun_111 (lv_at hl 1 rfl) ?_
          refine lv_lload hx hb dX7_toldRun_113 (lv_at hl 0 rfl) ?_
          refine xx_lge (tgt := 131) hx hb dX7_toldRun_115 dX7_toldRun_116 (by decide) (fun h_21 => ?_) (fun h_21 => ?_)
          · have hf := it_y h_21 hf
            refine lv_iload hx hb dX7_toldRun_131 (lv_at hl 5 rfl) ?_
            exact hret _ _ _ _ _ _ (pr_1 hf) (pr_2 hf) rfl dX7_toldRun_133 hE
          · have hf := it_n h_21 hf
            refine lv_aload_n hx hb dX7_toldRun_119 rfl (lv_at hl 2 rfl) ?_
            refine lv_lload hx hb dX7_toldRun_120 (lv_at hl 0 rfl) ?_
            obtain ⟨_, i_22, hf⟩ := b_some hf
            obtain ⟨z_22, c_22, hf⟩ := b_some hf
            refine xx_cVl hZ hE (As := [.long z_17]) (rest := []) k_X7 (is_m i_22) tw_507 tw_508 (c_X7_draw l D cA ad o z_17 z_3.2 _ c_22) cw_X7_draw tw_506 ⟨rfl, rfl⟩ ⟨Nat.le_of_ble_eq_true rfl, Nat.le_of_ble_eq_true rfl⟩ rfl hl.1 rfl (Nat.le_of_ble_eq_true rfl) ⟨Nat.le_of_ble_eq_true rfl, Nat.le_of_ble_eq_true rfl⟩ dX7_toldRun_122 (fun H locs hE => ?_)
            refine lv_lload hx hb dX7_toldRun_125 (lv_at hl 1 rfl) ?_
            refine xx_lge (tgt := 134) hx hb dX7_toldRun_127 dX7_toldRun_128 (by decide) (fun h_23 => ?_) (fun h_23 => ?_)
            · have hf := it_y h_23 hf
              refine lv_aload_n hx hb dX7_toldRun_134 rfl (lv_at hl 2 rfl) ?_
              refine lv_dup hx hb dX7_toldRun_135 rfl ?_
              obtain ⟨x_24, g_24, hf⟩ := b_some hf
              refine xx_gI hZ hE k_X7 19 (by decide) rfl tw_373 g_24 dX7_toldRun_136 ?_
              refine lv_iconst (v := 1) hx hb dX7_toldRun_139 (by decide) ?_
              refine lv_iadd hx hb dX7_toldRun_140 ?_
              obtain ⟨M_25, g_25, hf⟩ := b_some hf
              refine xx_pI hZ hE k_X7 19 (by decide) rfl rfl rfl tw_373 g_25 dX7_toldRun_141 (fun H locs hE => ?_)
              refine lv_iload_n hx hb dX7_toldRun_144 rfl (lv_at hl 4 rfl) ?_
              exact hret _ _ _ _ _ _ (pr_1 hf) (pr_2 hf) rfl dX7_toldRun_145 hE
            · have hf := it_n h_23 hf
              refine lv_iload hx hb dX7_toldRun_131 (lv_at hl 5 rfl) ?_
              exact hret _ _ _ _ _ _ (pr_1 hf) (pr_2 hf) rfl dX7_toldRun_133 hE
      · have hf := it_y h_15 hf
        refine lv_iload hx hb dX7_toldRun_81 (lv_at hl 3 rfl) ?_
        exact hret _ _ _ _ _ _ (pr_1 hf) (pr_2 hf) rfl dX7_toldRun_83 hE
    have L_11 : ∀ (n_39 : Nat) (w_11_6 : Int32) (w_11_7 : Int64) (H : Heap) (locs : List Loc) (ls : Array Slot), lp_X7_toldRun_39 k_72_12 o a1 a2 z_3.1 z_3.2 n_39 w_11_6 w_11_7 = some zr → En D cA ad s A z_3.2 H locs → lv_has ls 13 [(0, .ref (ad o)), (1, .int a1), (2, .int a2), (4, .long z_3.1), (6, .int w_11_6), (7, .long w_11_7)] → W p l e rm_X7_toldRun s m args below meth c H locs 0 0 Q (F0 m 39 ls []) := by
      intro n_39
      induction n_39 with
      | zero =>
        intro w_11_6 w_11_7 H locs ls hf
        cases (show (none : Option (Int32 × Mm)) = some zr from hf)
      | succ n_39 ih_39 =>
        intro w_11_6 w_11_7 H locs ls hf hE hl
        have hf := lp_X7_toldRun_39_s _ _ _ _ _ _ hf
        refine lv_lload hx hb dX7_toldRun_39 (lv_at hl 5 rfl) ?_
        refine lv_lload hx hb dX7_toldRun_41 (lv_at hl 3 rfl) ?_
        refine xx_lgt (tgt := 72) hx hb dX7_toldRun_43 dX7_toldRun_44 (by decide) (fun h_26 => ?_) (fun h_26 => ?_)
        · have hf := it_y h_26 hf
          exact o_72_12 _ _ _ _ hf hE (lv_sub hl [0, 1, 2, 4] rfl)
        · have hf := it_n h_26 hf
          refine lv_iinc (v := (w_11_6 + 1)) (lv' := [(6, .int (w_11_6 + 1)), (0, .ref (ad o)), (1, .int a1), (2, .int a2), (4, .long z_3.1), (7, .long w_11_7)]) hx hb dX7_toldRun_47 hl (k := 4) rfl rfl (by decide) rfl (fun ls hl => ?_)
          refine lv_lload hx hb dX7_toldRun_50 (lv_at hl 5 rfl) ?_
          refine lv_aload_n hx hb dX7_toldRun_52 rfl (lv_at hl 1 rfl) ?_
          obtain ⟨x_27, g_27, hf⟩ := b_some hf
          refine xx_gR hZ hE k_X7 11 (by decide) rfl tw_398 g_27 dX7_toldRun_53 ?_
          refine lv_aload_n hx hb dX7_toldRun_56 rfl (lv_at hl 1 rfl) ?_
          refine lv_iload_n hx hb dX7_toldRun_57 rfl (lv_at hl 2 rfl) ?_
          refine lv_iload_n hx hb dX7_toldRun_58 rfl (lv_at hl 3 rfl) ?_
          refine lv_iload hx hb dX7_toldRun_59 (lv_at hl 0 rfl) ?_
          obtain ⟨_, i_28, hf⟩ := b_some hf
          obtain ⟨z_28, c_28, hf⟩ := b_some hf
          refine xx_cVi hZ hE (As := [.int a1, .int a2, .int (w_11_6 + 1)]) (rest := [.ref (ad x_27), .long w_11_7]) k_X7 (is_m i_28) tw_462 tw_463 (c_X7_at l D cA ad o a1 a2 (w_11_6 + 1) z_3.2 _ c_28) cw_X7_at tw_461 ⟨rfl, rfl⟩ ⟨Nat.le_of_ble_eq_true rfl, Nat.le_of_ble_eq_true rfl⟩ rfl hl.1 rfl (Nat.le_of_ble_eq_true rfl) ⟨Nat.le_of_ble_eq_true rfl, Nat.le_of_ble_eq_true rfl⟩ dX7_toldRun_61 (fun H locs hE => ?_)
          obtain ⟨x_29, g_29, hf⟩ := b_some hf
          refine xx_aI hZ hE g_29 dX7_toldRun_64 ?_
          refine lv_i2l hx hb dX7_toldRun_65 rfl ?_
          refine lv_ladd hx hb dX7_toldRun_66 ?_
          refine lv_lstore (lv' := [(7, .long (w_11_7 + x_29.toInt64)), (6, .int (w_11_6 + 1)), (0, .ref (ad o)), (1, .int a1), (2, .int a2), (4, .long z_3.1)]) hx hb dX7_toldRun_67 hl (by decide) rfl (fun ls hl => ?_)
          refine lv_goto (tgt := 39) hx hb dX7_toldRun_69 (by decide) ?_
          exact ih_39 _ _ _ _ _ hf hE (lv_sub hl [2, 3, 4, 5, 1, 0] rfl)
    exact L_11 _ _ _ _ _ _ hf hE (lv_sub hl [4, 5, 6, 2, 1, 0] rfl)
  · have hf := it_y h_2 hf
    refine lv_iload_n hx hb dX7_toldRun_11 rfl (lv_at hl 3 rfl) ?_
    exact hret _ _ _ _ _ _ (pr_1 hf) (pr_2 hf) rfl dX7_toldRun_12 hE
def lp_X7_redraw_39 (k_72 : Int32 → Option (Int32 × Mm)) (i_0 : Nat) (i_1 : Int32) (i_2 : Int32) (i_4 : Int64) (M : Mm) : Nat → Int32 → Int64 → Option (Int32 × Mm)
  | 0, _, _ => none
  | n_39 + 1, v_6, v_7 =>
    if i_4 < v_7 then
    k_72 v_6
    else
    (op_gR M 7 i_0 3).bind fun x_8 =>
    (op_is M i_0 7).bind fun _ =>
    (f_X7_with i_0 i_1 i_2 (v_6 + 1) M).bind fun z_9 =>
    (op_aI M x_8 z_9).bind fun x_10 =>
    lp_X7_redraw_39 k_72 i_0 i_1 i_2 i_4 M n_39 (v_6 + 1) (v_7 + x_10.toInt64)
theorem lp_X7_redraw_39_s (k_72 : Int32 → Option (Int32 × Mm)) (i_0 : Nat) (i_1 : Int32) (i_2 : Int32) (i_4 : Int64) (M : Mm) {n_39 : Nat} {v_6 : Int32} {v_7 : Int64} {zr : Int32 × Mm} (hf : lp_X7_redraw_39 k_72 i_0 i_1 i_2 i_4 M (n_39 + 1) v_6 v_7 = some zr) : (
    if i_4 < v_7 then
    k_72 v_6
    else
    (op_gR M 7 i_0 3).bind fun x_8 =>
    (op_is M i_0 7).bind fun _ =>
    (f_X7_with i_0 i_1 i_2 (v_6 + 1) M).bind fun z_9 =>
    (op_aI M x_8 z_9).bind fun x_10 =>
    lp_X7_redraw_39 k_72 i_0 i_1 i_2 i_4 M n_39 (v_6 + 1) (v_7 + x_10.toInt64)) = some zr := hf
theorem lp_X7_redraw_39_k {k_72 : Int32 → Option (Int32 × Mm)} {i_0 : Nat} {i_1 : Int32} {i_2 : Int32} {i_4 : Int64} {M : Mm} {n : Nat} {v_6 : Int32} {v_7 : Int64} {zr : Int32 × Mm} (hf : lp_X7_redraw_39 k_72 i_0 i_1 i_2 i_4 M n v_6 v_7 = some zr) : ∃ (m_72 : Int32 → Option (Int32 × Mm)), m_72 = k_72 ∧ lp_X7_redraw_39 m_72 i_0 i_1 i_2 i_4 M n v_6 v_7 = some zr := ⟨k_72, rfl, hf⟩
def rm_X7_redraw : Room := { frames := 4, cells := 0, slots := 0, locals := 92 }
def f_X7_redraw (o : Nat) (a1 : Int32) (a2 : Int32) (M : Mm) : Option (Int32 × Mm) :=
    (op_is M o 7).bind fun _ =>
    (f_X7_sumOfLine o a1 a2 M).bind fun z_1 =>
    if z_1 = 0 then
    some (a1, M)
    else
    (op_is M o 7).bind fun _ =>
    (f_X7_draw o z_1.toInt64 M).bind fun z_3 =>
    (op_gR z_3.2 7 o 3).bind fun x_4 =>
    (op_is z_3.2 o 7).bind fun _ =>
    (f_X7_with o a1 a2 (0 : Int32) z_3.2).bind fun z_5 =>
    (op_aI z_3.2 x_4 z_5).bind fun x_6 =>
    lp_X7_redraw_39 (fun (l_12_6 : Int32) =>
    (op_is z_3.2 o 7).bind fun _ =>
    (f_X7_with o a1 a2 l_12_6 z_3.2).bind fun z_13 =>
    some (z_13, z_3.2)) o a1 a2 z_3.1 z_3.2 FU (0 : Int32) x_6.toInt64
set_option maxHeartbeats 4000000 in
set_option maxRecDepth 100000 in
theorem c_X7_redraw (l : Launch) (D : va_G) (cA : Nat → ClassId) (ad : Nat → Nat) (o : Nat) (a1 : Int32) (a2 : Int32) (M : Mm) (zr : Int32 × Mm) (hf : f_X7_redraw o a1 a2 M = some zr) : KI l yX7_redraw cX7_redraw 9 (some .int) rm_X7_redraw D cA ad [.ref (ad o), .int a1, .int a2] M zr.1 zr.2 := by
  refine KI_of (by decide) (Nat.le_of_ble_eq_true rfl) ?_
  intro p e s m args below meth c ls Q A H locs hZ hE hl hret
  have hx := hZ.1
  have hb := hZ.2.1
  have hown := hZ.2.2.2.1
  have hts := hZ.2.2.2.2.1
  have hl : lv_has ls 9 [(0, .ref (ad o)), (1, .int a1), (2, .int a2)] := hl
  unfold f_X7_redraw at hf
  refine lv_aload_n hx hb dX7_redraw_0 rfl (lv_at hl 0 rfl) ?_
  refine lv_iload_n hx hb dX7_redraw_1 rfl (lv_at hl 1 rfl) ?_
  refine lv_iload_n hx hb dX7_redraw_2 rfl (lv_at hl 2 rfl) ?_
  obtain ⟨_, i_1, hf⟩ := b_some hf
  obtain ⟨z_1, c_1, hf⟩ := b_some hf
  refine xx_cVi hZ hE (As := [.int a1, .int a2]) (rest := []) k_X7 (is_m i_1) tw_435 tw_436 (c_X7_sumOfLine l D cA ad o a1 a2 M _ c_1) cw_X7_sumOfLine tw_434 ⟨rfl, rfl⟩ ⟨Nat.le_of_ble_eq_true rfl, Nat.le_of_ble_eq_true rfl⟩ rfl hl.1 rfl (Nat.le_of_ble_eq_true rfl) ⟨Nat.le_of_ble_eq_true rfl, Nat.le_of_ble_eq_true rfl⟩ dX7_redraw_3 (fun H locs hE => ?_)
  refine lv_istore_n (lv' := [(3, .int z_1), (0, .ref (ad o)), (1, .int a1), (2, .int a2)]) hx hb dX7_redraw_6 rfl hl (by decide) rfl (fun ls hl => ?_)
  refine lv_iload_n hx hb dX7_redraw_7 rfl (lv_at hl 0 rfl) ?_
  refine lv_if_ne (tgt := 13) hx hb dX7_redraw_8 (by decide) (fun h_2 => ?_) (fun h_2 => ?_)
  · have hf := it_n h_2 hf
    refine lv_aload_n hx hb dX7_redraw_13 rfl (lv_at hl 1 rfl) ?_
    refine lv_iload_n hx hb dX7_redraw_14 rfl (lv_at hl 0 rfl) ?_
    refine lv_i2l hx hb dX7_redraw_15 rfl ?_
    obtain ⟨_, i_3, hf⟩ := b_some hf
    obtain ⟨z_3, c_3, hf⟩ := b_some hf
    refine xx_cVl hZ hE (As := [.long z_1.toInt64]) (rest := []) k_X7 (is_m i_3) tw_507 tw_508 (c_X7_draw l D cA ad o z_1.toInt64 M _ c_3) cw_X7_draw tw_506 ⟨rfl, rfl⟩ ⟨Nat.le_of_ble_eq_true rfl, Nat.le_of_ble_eq_true rfl⟩ rfl hl.1 rfl (Nat.le_of_ble_eq_true rfl) ⟨Nat.le_of_ble_eq_true rfl, Nat.le_of_ble_eq_true rfl⟩ dX7_redraw_16 (fun H locs hE => ?_)
    refine lv_lstore (lv' := [(4, .long z_3.1), (3, .int z_1), (0, .ref (ad o)), (1, .int a1), (2, .int a2)]) hx hb dX7_redraw_19 hl (by decide) rfl (fun ls hl => ?_)
    refine lv_iconst (v := 0) hx hb dX7_redraw_21 (by decide) ?_
    refine lv_istore (lv' := [(6, .int (0 : Int32)), (4, .long z_3.1), (3, .int z_1), (0, .ref (ad o)), (1, .int a1), (2, .int a2)]) hx hb dX7_redraw_22 hl (by decide) rfl (fun ls hl => ?_)
    refine lv_aload_n hx hb dX7_redraw_24 rfl (lv_at hl 3 rfl) ?_
    obtain ⟨x_4, g_4, hf⟩ := b_some hf
    refine xx_gR hZ hE k_X7 3 (by decide) rfl tw_371 g_4 dX7_redraw_25 ?_
    refine lv_aload_n hx hb dX7_redraw_28 rfl (lv_at hl 3 rfl) ?_
    refine lv_iload_n hx hb dX7_redraw_29 rfl (lv_at hl 4 rfl) ?_
    refine lv_iload_n hx hb dX7_redraw_30 rfl (lv_at hl 5 rfl) ?_
    refine lv_iconst (v := 0) hx hb dX7_redraw_31 (by decide) ?_
    obtain ⟨_, i_5, hf⟩ := b_some hf
    obtain ⟨z_5, c_5, hf⟩ := b_some hf
    refine xx_cVi hZ hE (As := [.int a1, .int a2, .int (0 : Int32)]) (rest := [.ref (ad x_4)]) k_X7 (is_m i_5) tw_410 tw_411 (c_X7_with l D cA ad o a1 a2 (0 : Int32) z_3.2 _ c_5) cw_X7_with tw_409 ⟨rfl, rfl⟩ ⟨Nat.le_of_ble_eq_true rfl, Nat.le_of_ble_eq_true rfl⟩ rfl hl.1 rfl (Nat.le_of_ble_eq_true rfl) ⟨Nat.le_of_ble_eq_true rfl, Nat.le_of_ble_eq_true rfl⟩ dX7_redraw_32 (fun H locs hE => ?_)
    obtain ⟨x_6, g_6, hf⟩ := b_some hf
    refine xx_aI hZ hE g_6 dX7_redraw_35 ?_
    refine lv_i2l hx hb dX7_redraw_36 rfl ?_
    refine lv_lstore (lv' := [(7, .long x_6.toInt64), (6, .int (0 : Int32)), (4, .long z_3.1), (3, .int z_1), (0, .ref (ad o)), (1, .int a1), (2, .int a2)]) hx hb dX7_redraw_37 hl (by decide) rfl (fun ls hl => ?_)
    obtain ⟨k_72_12, ek_72_12, hf⟩ := lp_X7_redraw_39_k hf
    have o_72_12 : ∀ (l_12_6 : Int32) (H : Heap) (locs : List Loc) (ls : Array Slot), k_72_12 l_12_6 = some zr → En D cA ad s A z_3.2 H locs → lv_has ls 9 [(0, .ref (ad o)), (1, .int a1), (2, .int a2), (6, .int l_12_6)] → W p l e rm_X7_redraw s m args below meth c H locs 0 0 Q (F0 m 72 ls []) := by
      intro l_12_6 H locs ls hf hE hl
      rw [ek_72_12] at hf
      refine lv_aload_n hx hb dX7_redraw_72 rfl (lv_at hl 0 rfl) ?_
      refine lv_iload_n hx hb dX7_redraw_73 rfl (lv_at hl 1 rfl) ?_
      refine lv_iload_n hx hb dX7_redraw_74 rfl (lv_at hl 2 rfl) ?_
      refine lv_iload hx hb dX7_redraw_75 (lv_at hl 3 rfl) ?_
      obtain ⟨_, i_13, hf⟩ := b_some hf
      obtain ⟨z_13, c_13, hf⟩ := b_some hf
      refine xx_cVi hZ hE (As := [.int a1, .int a2, .int l_12_6]) (rest := []) k_X7 (is_m i_13) tw_410 tw_411 (c_X7_with l D cA ad o a1 a2 l_12_6 z_3.2 _ c_13) cw_X7_with tw_409 ⟨rfl, rfl⟩ ⟨Nat.le_of_ble_eq_true rfl, Nat.le_of_ble_eq_true rfl⟩ rfl hl.1 rfl (Nat.le_of_ble_eq_true rfl) ⟨Nat.le_of_ble_eq_true rfl, Nat.le_of_ble_eq_true rfl⟩ dX7_redraw_77 (fun H locs hE => ?_)
      exact hret _ _ _ _ _ _ (pr_1 hf) (pr_2 hf) rfl dX7_redraw_80 hE
    have L_11 : ∀ (n_39 : Nat) (w_11_6 : Int32) (w_11_7 : Int64) (H : Heap) (locs : List Loc) (ls : Array Slot), lp_X7_redraw_39 k_72_12 o a1 a2 z_3.1 z_3.2 n_39 w_11_6 w_11_7 = some zr → En D cA ad s A z_3.2 H locs → lv_has ls 9 [(0, .ref (ad o)), (1, .int a1), (2, .int a2), (4, .long z_3.1), (6, .int w_11_6), (7, .long w_11_7)] → W p l e rm_X7_redraw s m args below meth c H locs 0 0 Q (F0 m 39 ls []) := by
      intro n_39
      induction n_39 with
      | zero =>
        intro w_11_6 w_11_7 H locs ls hf
        cases (show (none : Option (Int32 × Mm)) = some zr from hf)
      | succ n_39 ih_39 =>
        intro w_11_6 w_11_7 H locs ls hf hE hl
        have hf := lp_X7_redraw_39_s _ _ _ _ _ _ hf
        refine lv_lload hx hb dX7_redraw_39 (lv_at hl 5 rfl) ?_
        refine lv_lload hx hb dX7_redraw_41 (lv_at hl 3 rfl) ?_
        refine xx_lgt (tgt := 72) hx hb dX7_redraw_43 dX7_redraw_44 (by decide) (fun h_14 => ?_) (fun h_14 => ?_)
        · have hf := it_y h_14 hf
          exact o_72_12 _ _ _ _ hf hE (lv_sub hl [0, 1, 2, 4] rfl)
        · have hf := it_n h_14 hf
          refine lv_iinc (v := (w_11_6 + 1)) (lv' := [(6, .int (w_11_6 + 1)), (0, .ref (ad o)), (1, .int a1), (2, .int a2), (4, .long z_3.1), (7, .long w_11_7)]) hx hb dX7_redraw_47 hl (k := 4) rfl rfl (by decide) rfl (fun ls hl => ?_)
          refine lv_lload hx hb dX7_redraw_50 (lv_at hl 5 rfl) ?_
          refine lv_aload_n hx hb dX7_redraw_52 rfl (lv_at hl 1 rfl) ?_
          obtain ⟨x_15, g_15, hf⟩ := b_some hf
          refine xx_gR hZ hE k_X7 3 (by decide) rfl tw_371 g_15 dX7_redraw_53 ?_
          refine lv_aload_n hx hb dX7_redraw_56 rfl (lv_at hl 1 rfl) ?_
          refine lv_iload_n hx hb dX7_redraw_57 rfl (lv_at hl 2 rfl) ?_
          refine lv_iload_n hx hb dX7_redraw_58 rfl (lv_at hl 3 rfl) ?_
          refine lv_iload hx hb dX7_redraw_59 (lv_at hl 0 rfl) ?_
          obtain ⟨_, i_16, hf⟩ := b_some hf
          obtain ⟨z_16, c_16, hf⟩ := b_some hf
          refine xx_cVi hZ hE (As := [.int a1, .int a2, .int (w_11_6 + 1)]) (rest := [.ref (ad x_15), .long w_11_7]) k_X7 (is_m i_16) tw_410 tw_411 (c_X7_with l D cA ad o a1 a2 (w_11_6 + 1) z_3.2 _ c_16) cw_X7_with tw_409 ⟨rfl, rfl⟩ ⟨Nat.le_of_ble_eq_true rfl, Nat.le_of_ble_eq_true rfl⟩ rfl hl.1 rfl (Nat.le_of_ble_eq_true rfl) ⟨Nat.le_of_ble_eq_true rfl, Nat.le_of_ble_eq_true rfl⟩ dX7_redraw_61 (fun H locs hE => ?_)
          obtain ⟨x_17, g_17, hf⟩ := b_some hf
          refine xx_aI hZ hE g_17 dX7_redraw_64 ?_
          refine lv_i2l hx hb dX7_redraw_65 rfl ?_
          refine lv_ladd hx hb dX7_redraw_66 ?_
          refine lv_lstore (lv' := [(7, .long (w_11_7 + x_17.toInt64)), (6, .int (w_11_6 + 1)), (0, .ref (ad o)), (1, .int a1), (2, .int a2), (4, .long z_3.1)]) hx hb dX7_redraw_67 hl (by decide) rfl (fun ls hl => ?_)
          refine lv_goto (tgt := 39) hx hb dX7_redraw_69 (by decide) ?_
          exact ih_39 _ _ _ _ _ hf hE (lv_sub hl [2, 3, 4, 5, 1, 0] rfl)
    exact L_11 _ _ _ _ _ _ hf hE (lv_sub hl [4, 5, 6, 2, 1, 0] rfl)
  · have hf := it_y h_2 hf
    refine lv_iload_n hx hb dX7_redraw_11 rfl (lv_at hl 2 rfl) ?_
    exact hret _ _ _ _ _ _ (pr_1 hf) (pr_2 hf) rfl dX7_redraw_12 hE
def lp_X7_slice_43 (k_100 : Int32 → Option (Int32 × Mm)) (i_0 : Nat) (i_1 : Int32) (i_2 : Int32) (i_3 : Int32) (M : Mm) : Nat → Int64 → Int32 → Option (Int32 × Mm)
  | 0, _, _ => none
  | n_43 + 1, v_4, v_6 =>
    (op_gR M 7 i_0 3).bind fun x_9 =>
    (op_is M i_0 7).bind fun _ =>
    (f_X7_with i_0 i_1 i_2 v_6 M).bind fun z_10 =>
    (op_aI M x_9 z_10).bind fun x_11 =>
    op_jn (fun (l_12_4 : Int64) (l_12_6 : Int32) =>
    if l_12_4 ≤ (0 : Int64) then
    k_100 l_12_6
    else
    (op_gR M 7 i_0 3).bind fun x_20 =>
    (op_is M i_0 7).bind fun _ =>
    (f_X7_with i_0 i_1 i_2 l_12_6 M).bind fun z_21 =>
    (op_aI M x_20 z_21).bind fun x_22 =>
    lp_X7_slice_43 k_100 i_0 i_1 i_2 i_3 M n_43 (l_12_4 - (if x_22 < i_3 then (0 : Int64) else (1 : Int64))) (l_12_6 + 1))
    fun j_12 =>
    if x_11 < i_3 then
    (op_gR M 7 i_0 3).bind fun x_14 =>
    (op_is M i_0 7).bind fun _ =>
    (f_X7_with i_0 i_1 i_2 v_6 M).bind fun z_15 =>
    (op_aI M x_14 z_15).bind fun x_16 =>
    lp_X7_slice_43 k_100 i_0 i_1 i_2 i_3 M n_43 (v_4 - (if x_16 < i_3 then (0 : Int64) else (1 : Int64))) (v_6 + 1)
    else
    j_12 v_4 v_6
theorem lp_X7_slice_43_s (k_100 : Int32 → Option (Int32 × Mm)) (i_0 : Nat) (i_1 : Int32) (i_2 : Int32) (i_3 : Int32) (M : Mm) {n_43 : Nat} {v_4 : Int64} {v_6 : Int32} {zr : Int32 × Mm} (hf : lp_X7_slice_43 k_100 i_0 i_1 i_2 i_3 M (n_43 + 1) v_4 v_6 = some zr) : (
    (op_gR M 7 i_0 3).bind fun x_9 =>
    (op_is M i_0 7).bind fun _ =>
    (f_X7_with i_0 i_1 i_2 v_6 M).bind fun z_10 =>
    (op_aI M x_9 z_10).bind fun x_11 =>
    op_jn (fun (l_12_4 : Int64) (l_12_6 : Int32) =>
    if l_12_4 ≤ (0 : Int64) then
    k_100 l_12_6
    else
    (op_gR M 7 i_0 3).bind fun x_20 =>
    (op_is M i_0 7).bind fun _ =>
    (f_X7_with i_0 i_1 i_2 l_12_6 M).bind fun z_21 =>
    (op_aI M x_20 z_21).bind fun x_22 =>
    lp_X7_slice_43 k_100 i_0 i_1 i_2 i_3 M n_43 (l_12_4 - (if x_22 < i_3 then (0 : Int64) else (1 : Int64))) (l_12_6 + 1))
    fun j_12 =>
    if x_11 < i_3 then
    (op_gR M 7 i_0 3).bind fun x_14 =>
    (op_is M i_0 7).bind fun _ =>
    (f_X7_with i_0 i_1 i_2 v_6 M).bind fun z_15 =>
    (op_aI M x_14 z_15).bind fun x_16 =>
    lp_X7_slice_43 k_100 i_0 i_1 i_2 i_3 M n_43 (v_4 - (if x_16 < i_3 then (0 : Int64) else (1 : Int64))) (v_6 + 1)
    else
    j_12 v_4 v_6) = some zr := hf
theorem lp_X7_slice_43_k {k_100 : Int32 → Option (Int32 × Mm)} {i_0 : Nat} {i_1 : Int32} {i_2 : Int32} {i_3 : Int32} {M : Mm} {n : Nat} {v_4 : Int64} {v_6 : Int32} {zr : Int32 × Mm} (hf : lp_X7_slice_43 k_100 i_0 i_1 i_2 i_3 M n v_4 v_6 = some zr) : ∃ (m_100 : Int32 → Option (Int32 × Mm)), m_100 = k_100 ∧ lp_X7_slice_43 m_100 i_0 i_1 i_2 i_3 M n v_4 v_6 = some zr := ⟨k_100, rfl, hf⟩
def rm_X7_slice : Room := { frames := 4, cells := 0, slots := 0, locals := 93 }
def f_X7_slice (o : Nat) (a1 : Int32) (a2 : Int32) (M : Mm) : Option (Int32 × Mm) :=
    (op_gR M 7 o 3).bind fun x_1 =>
    (op_aI M x_1 a1).bind fun x_2 =>
    if x_2 = 0 then
    some (a1, M)
    else
    (op_gR M 7 o 3).bind fun x_4 =>
    (op_aI M x_4 a1).bind fun x_5 =>
    (op_is M o 7).bind fun _ =>
    (f_X7_draw o x_5.toInt64 M).bind fun z_6 =>
    (op_is z_6.2 o 7).bind fun _ =>
    (f_X7_manyFrom o a1 a2 ((1 : Int32) + z_6.1.toInt32) z_6.2).bind fun z_7 =>
    (op_is z_6.2 o 7).bind fun _ =>
    (f_X7_draw o z_7.toInt64 z_6.2).bind fun z_8 =>
    lp_X7_slice_43 (fun (l_26_6 : Int32) =>
    (op_is z_8.2 o 7).bind fun _ =>
    (f_X7_with o a1 a2 l_26_6 z_8.2).bind fun z_27 =>
    some (z_27, z_8.2)) o a1 a2 ((1 : Int32) + z_6.1.toInt32) z_8.2 FU z_8.1 (0 : Int32)
set_option maxHeartbeats 4000000 in
set_option maxRecDepth 100000 in
theorem c_X7_slice (l : Launch) (D : va_G) (cA : Nat → ClassId) (ad : Nat → Nat) (o : Nat) (a1 : Int32) (a2 : Int32) (M : Mm) (zr : Int32 × Mm) (hf : f_X7_slice o a1 a2 M = some zr) : KI l yX7_slice cX7_slice 7 (some .int) rm_X7_slice D cA ad [.ref (ad o), .int a1, .int a2] M zr.1 zr.2 := by
  refine KI_of (by decide) (Nat.le_of_ble_eq_true rfl) ?_
  intro p e s m args below meth c ls Q A H locs hZ hE hl hret
  have hx := hZ.1
  have hb := hZ.2.1
  have hown := hZ.2.2.2.1
  have hts := hZ.2.2.2.2.1
  have hl : lv_has ls 7 [(0, .ref (ad o)), (1, .int a1), (2, .int a2)] := hl
  unfold f_X7_slice at hf
  refine lv_aload_n hx hb dX7_slice_0 rfl (lv_at hl 0 rfl) ?_
  obtain ⟨x_1, g_1, hf⟩ := b_some hf
  refine xx_gR hZ hE k_X7 3 (by decide) rfl tw_371 g_1 dX7_slice_1 ?_
  refine lv_iload_n hx hb dX7_slice_4 rfl (lv_at hl 1 rfl) ?_
  obtain ⟨x_2, g_2, hf⟩ := b_some hf
  refine xx_aI hZ hE g_2 dX7_slice_5 ?_
  refine lv_if_ne (tgt := 11) hx hb dX7_slice_6 (by decide) (fun h_3 => ?_) (fun h_3 => ?_)
  · have hf := it_n h_3 hf
    refine lv_iconst (v := 1) hx hb dX7_slice_11 (by decide) ?_
    refine lv_aload_n hx hb dX7_slice_12 rfl (lv_at hl 0 rfl) ?_
    refine lv_aload_n hx hb dX7_slice_13 rfl (lv_at hl 0 rfl) ?_
    obtain ⟨x_4, g_4, hf⟩ := b_some hf
    refine xx_gR hZ hE k_X7 3 (by decide) rfl tw_371 g_4 dX7_slice_14 ?_
    refine lv_iload_n hx hb dX7_slice_17 rfl (lv_at hl 1 rfl) ?_
    obtain ⟨x_5, g_5, hf⟩ := b_some hf
    refine xx_aI hZ hE g_5 dX7_slice_18 ?_
    refine lv_i2l hx hb dX7_slice_19 rfl ?_
    obtain ⟨_, i_6, hf⟩ := b_some hf
    obtain ⟨z_6, c_6, hf⟩ := b_some hf
    refine xx_cVl hZ hE (As := [.long x_5.toInt64]) (rest := [.int (1 : Int32)]) k_X7 (is_m i_6) tw_507 tw_508 (c_X7_draw l D cA ad o x_5.toInt64 M _ c_6) cw_X7_draw tw_506 ⟨rfl, rfl⟩ ⟨Nat.le_of_ble_eq_true rfl, Nat.le_of_ble_eq_true rfl⟩ rfl hl.1 rfl (Nat.le_of_ble_eq_true rfl) ⟨Nat.le_of_ble_eq_true rfl, Nat.le_of_ble_eq_true rfl⟩ dX7_slice_20 (fun H locs hE => ?_)
    refine lv_l2i hx hb dX7_slice_23 rfl ?_
    refine lv_iadd hx hb dX7_slice_24 ?_
    refine lv_istore_n (lv' := [(3, .int ((1 : Int32) + z_6.1.toInt32)), (0, .ref (ad o)), (1, .int a1), (2, .int a2)]) hx hb dX7_slice_25 rfl hl (by decide) rfl (fun ls hl => ?_)
    refine lv_aload_n hx hb dX7_slice_26 rfl (lv_at hl 1 rfl) ?_
    refine lv_aload_n hx hb dX7_slice_27 rfl (lv_at hl 1 rfl) ?_
    refine lv_iload_n hx hb dX7_slice_28 rfl (lv_at hl 2 rfl) ?_
    refine lv_iload_n hx hb dX7_slice_29 rfl (lv_at hl 3 rfl) ?_
    refine lv_iload_n hx hb dX7_slice_30 rfl (lv_at hl 0 rfl) ?_
    obtain ⟨_, i_7, hf⟩ := b_some hf
    obtain ⟨z_7, c_7, hf⟩ := b_some hf
    refine xx_cVi hZ hE (As := [.int a1, .int a2, .int ((1 : Int32) + z_6.1.toInt32)]) (rest := [.ref (ad o)]) k_X7 (is_m i_7) tw_431 tw_432 (c_X7_manyFrom l D cA ad o a1 a2 ((1 : Int32) + z_6.1.toInt32) z_6.2 _ c_7) cw_X7_manyFrom tw_430 ⟨rfl, rfl⟩ ⟨Nat.le_of_ble_eq_true rfl, Nat.le_of_ble_eq_true rfl⟩ rfl hl.1 rfl (Nat.le_of_ble_eq_true rfl) ⟨Nat.le_of_ble_eq_true rfl, Nat.le_of_ble_eq_true rfl⟩ dX7_slice_31 (fun H locs hE => ?_)
    refine lv_i2l hx hb dX7_slice_34 rfl ?_
    obtain ⟨_, i_8, hf⟩ := b_some hf
    obtain ⟨z_8, c_8, hf⟩ := b_some hf
    refine xx_cVl hZ hE (As := [.long z_7.toInt64]) (rest := []) k_X7 (is_m i_8) tw_507 tw_508 (c_X7_draw l D cA ad o z_7.toInt64 z_6.2 _ c_8) cw_X7_draw tw_506 ⟨rfl, rfl⟩ ⟨Nat.le_of_ble_eq_true rfl, Nat.le_of_ble_eq_true rfl⟩ rfl hl.1 rfl (Nat.le_of_ble_eq_true rfl) ⟨Nat.le_of_ble_eq_true rfl, Nat.le_of_ble_eq_true rfl⟩ dX7_slice_35 (fun H locs hE => ?_)
    refine lv_lstore (lv' := [(4, .long z_8.1), (3, .int ((1 : Int32) + z_6.1.toInt32)), (0, .ref (ad o)), (1, .int a1), (2, .int a2)]) hx hb dX7_slice_38 hl (by decide) rfl (fun ls hl => ?_)
    refine lv_iconst (v := 0) hx hb dX7_slice_40 (by decide) ?_
    refine lv_istore (lv' := [(6, .int (0 : Int32)), (4, .long z_8.1), (3, .int ((1 : Int32) + z_6.1.toInt32)), (0, .ref (ad o)), (1, .int a1), (2, .int a2)]) hx hb dX7_slice_41 hl (by decide) rfl (fun ls hl => ?_)
    obtain ⟨k_100_26, ek_100_26, hf⟩ := lp_X7_slice_43_k hf
    have o_100_26 : ∀ (l_26_6 : Int32) (H : Heap) (locs : List Loc) (ls : Array Slot), k_100_26 l_26_6 = some zr → En D cA ad s A z_8.2 H locs → lv_has ls 7 [(0, .ref (ad o)), (1, .int a1), (2, .int a2), (6, .int l_26_6)] → W p l e rm_X7_slice s m args below meth c H locs 0 0 Q (F0 m 100 ls []) := by
      intro l_26_6 H locs ls hf hE hl
      rw [ek_100_26] at hf
      refine lv_aload_n hx hb dX7_slice_100 rfl (lv_at hl 0 rfl) ?_
      refine lv_iload_n hx hb dX7_slice_101 rfl (lv_at hl 1 rfl) ?_
      refine lv_iload_n hx hb dX7_slice_102 rfl (lv_at hl 2 rfl) ?_
      refine lv_iload hx hb dX7_slice_103 (lv_at hl 3 rfl) ?_
      obtain ⟨_, i_27, hf⟩ := b_some hf
      obtain ⟨z_27, c_27, hf⟩ := b_some hf
      refine xx_cVi hZ hE (As := [.int a1, .int a2, .int l_26_6]) (rest := []) k_X7 (is_m i_27) tw_410 tw_411 (c_X7_with l D cA ad o a1 a2 l_26_6 z_8.2 _ c_27) cw_X7_with tw_409 ⟨rfl, rfl⟩ ⟨Nat.le_of_ble_eq_true rfl, Nat.le_of_ble_eq_true rfl⟩ rfl hl.1 rfl (Nat.le_of_ble_eq_true rfl) ⟨Nat.le_of_ble_eq_true rfl, Nat.le_of_ble_eq_true rfl⟩ dX7_slice_105 (fun H locs hE => ?_)
      exact hret _ _ _ _ _ _ (pr_1 hf) (pr_2 hf) rfl dX7_slice_108 hE
    have L_25 : ∀ (n_43 : Nat) (w_25_4 : Int64) (w_25_6 : Int32) (H : Heap) (locs : List Loc) (ls : Array Slot), lp_X7_slice_43 k_100_26 o a1 a2 ((1 : Int32) + z_6.1.toInt32) z_8.2 n_43 w_25_4 w_25_6 = some zr → En D cA ad s A z_8.2 H locs → lv_has ls 7 [(0, .ref (ad o)), (1, .int a1), (2, .int a2), (3, .int ((1 : Int32) + z_6.1.toInt32)), (4, .long w_25_4), (6, .int w_25_6)] → W p l e rm_X7_slice s m args below meth c H locs 0 0 Q (F0 m 43 ls []) := by
      intro n_43
      induction n_43 with
      | zero =>
        intro w_25_4 w_25_6 H locs ls hf
        cases (show (none : Option (Int32 × Mm)) = some zr from hf)
      | succ n_43 ih_43 =>
        intro w_25_4 w_25_6 H locs ls hf hE hl
        have hf := lp_X7_slice_43_s _ _ _ _ _ _ hf
        refine lv_aload_n hx hb dX7_slice_43 rfl (lv_at hl 0 rfl) ?_
        obtain ⟨x_28, g_28, hf⟩ := b_some hf
        refine xx_gR hZ hE k_X7 3 (by decide) rfl tw_371 g_28 dX7_slice_44 ?_
        refine lv_aload_n hx hb dX7_slice_47 rfl (lv_at hl 0 rfl) ?_
        refine lv_iload_n hx hb dX7_slice_48 rfl (lv_at hl 1 rfl) ?_
        refine lv_iload_n hx hb dX7_slice_49 rfl (lv_at hl 2 rfl) ?_
        refine lv_iload hx hb dX7_slice_50 (lv_at hl 5 rfl) ?_
        obtain ⟨_, i_29, hf⟩ := b_some hf
        obtain ⟨z_29, c_29, hf⟩ := b_some hf
        refine xx_cVi hZ hE (As := [.int a1, .int a2, .int w_25_6]) (rest := [.ref (ad x_28)]) k_X7 (is_m i_29) tw_410 tw_411 (c_X7_with l D cA ad o a1 a2 w_25_6 z_8.2 _ c_29) cw_X7_with tw_409 ⟨rfl, rfl⟩ ⟨Nat.le_of_ble_eq_true rfl, Nat.le_of_ble_eq_true rfl⟩ rfl hl.1 rfl (Nat.le_of_ble_eq_true rfl) ⟨Nat.le_of_ble_eq_true rfl, Nat.le_of_ble_eq_true rfl⟩ dX7_slice_52 (fun H locs hE => ?_)
        obtain ⟨x_30, g_30, hf⟩ := b_some hf
        refine xx_aI hZ hE g_30 dX7_slice_55 ?_
        refine lv_iload_n hx hb dX7_slice_56 rfl (lv_at hl 3 rfl) ?_
        obtain ⟨j_31, ej_31, hf⟩ := jn_e hf
        have q_31 : ∀ (l_31_4 : Int64) (l_31_6 : Int32) (H : Heap) (locs : List Loc) (ls : Array Slot), j_31 l_31_4 l_31_6 = some zr → En D cA ad s A z_8.2 H locs → lv_has ls 7 [(0, .ref (ad o)), (1, .int a1), (2, .int a2), (3, .int ((1 : Int32) + z_6.1.toInt32)), (4, .long l_31_4), (6, .int l_31_6)] → W p l e rm_X7_slice s m args below meth c H locs 0 0 Q (F0 m 60 ls []) := by
          intro l_31_4 l_31_6 H locs ls hf hE hl
          rw [ej_31] at hf
          refine lv_lload hx hb dX7_slice_60 (lv_at hl 4 rfl) ?_
          refine lv_lconst (v := 0) hx hb dX7_slice_62 (by decide) ?_
          refine xx_lle (tgt := 100) hx hb dX7_slice_63 dX7_slice_64 (by decide) (fun h_38 => ?_) (fun h_38 => ?_)
          · have hf := it_y h_38 hf
            exact o_100_26 _ _ _ _ hf hE (lv_sub hl [0, 1, 2, 5] rfl)
          · have hf := it_n h_38 hf
            refine lv_lload hx hb dX7_slice_67 (lv_at hl 4 rfl) ?_
            refine lv_aload_n hx hb dX7_slice_69 rfl (lv_at hl 0 rfl) ?_
            obtain ⟨x_39, g_39, hf⟩ := b_some hf
            refine xx_gR hZ hE k_X7 3 (by decide) rfl tw_371 g_39 dX7_slice_70 ?_
            refine lv_aload_n hx hb dX7_slice_73 rfl (lv_at hl 0 rfl) ?_
            refine lv_iload_n hx hb dX7_slice_74 rfl (lv_at hl 1 rfl) ?_
            refine lv_iload_n hx hb dX7_slice_75 rfl (lv_at hl 2 rfl) ?_
            refine lv_iload hx hb dX7_slice_76 (lv_at hl 5 rfl) ?_
            obtain ⟨_, i_40, hf⟩ := b_some hf
            obtain ⟨z_40, c_40, hf⟩ := b_some hf
            refine xx_cVi hZ hE (As := [.int a1, .int a2, .int l_31_6]) (rest := [.ref (ad x_39), .long l_31_4]) k_X7 (is_m i_40) tw_410 tw_411 (c_X7_with l D cA ad o a1 a2 l_31_6 z_8.2 _ c_40) cw_X7_with tw_409 ⟨rfl, rfl⟩ ⟨Nat.le_of_ble_eq_true rfl, Nat.le_of_ble_eq_true rfl⟩ rfl hl.1 rfl (Nat.le_of_ble_eq_true rfl) ⟨Nat.le_of_ble_eq_true rfl, Nat.le_of_ble_eq_true rfl⟩ dX7_slice_78 (fun H locs hE => ?_)
            obtain ⟨x_41, g_41, hf⟩ := b_some hf
            refine xx_aI hZ hE g_41 dX7_slice_81 ?_
            refine lv_iload_n hx hb dX7_slice_82 rfl (lv_at hl 3 rfl) ?_
            have q_42 : ∀ x_42 : Int64, x_42 = (if x_41 < ((1 : Int32) + z_6.1.toInt32) then (0 : Int64) else (1 : Int64)) → W p l e rm_X7_slice s m args below meth c H locs 0 0 Q (F0 m 91 ls [.long x_42, .long l_31_4]) := by
              intro x_42 e_42
              subst e_42
              refine lv_lsub hx hb dX7_slice_91 ?_
              refine lv_lstore (lv' := [(4, .long (l_31_4 - (if x_41 < ((1 : Int32) + z_6.1.toInt32) then (0 : Int64) else (1 : Int64)))), (0, .ref (ad o)), (1, .int a1), (2, .int a2), (3, .int ((1 : Int32) + z_6.1.toInt32)), (6, .int l_31_6)]) hx hb dX7_slice_92 hl (by decide) rfl (fun ls hl => ?_)
              refine lv_iinc (v := (l_31_6 + 1)) (lv' := [(6, .int (l_31_6 + 1)), (4, .long (l_31_4 - (if x_41 < ((1 : Int32) + z_6.1.toInt32) then (0 : Int64) else (1 : Int64)))), (0, .ref (ad o)), (1, .int a1), (2, .int a2), (3, .int ((1 : Int32) + z_6.1.toInt32))]) hx hb dX7_slice_94 hl (k := 5) rfl rfl (by decide) rfl (fun ls hl => ?_)
              refine lv_goto (tgt := 43) hx hb dX7_slice_97 (by decide) ?_
              exact ih_43 _ _ _ _ _ hf hE (lv_sub hl [2, 3, 4, 5, 1, 0] rfl)
            refine lv_icmp_lt (tgt := 90) hx hb dX7_slice_83 (by decide) (fun h_43 => ?_) (fun h_43 => ?_)
            · refine lv_lconst (v := 0) hx hb dX7_slice_90 (by decide) ?_
              exact q_42 _ (by rw [if_pos h_43])
            · refine lv_lconst (v := 1) hx hb dX7_slice_86 (by decide) ?_
              refine lv_goto (tgt := 91) hx hb dX7_slice_87 (by decide) ?_
              exact q_42 _ (by rw [if_neg h_43])
        refine lv_icmp_lt (tgt := 67) hx hb dX7_slice_57 (by decide) (fun h_32 => ?_) (fun h_32 => ?_)
        · have hf := it_y h_32 hf
          refine lv_lload hx hb dX7_slice_67 (lv_at hl 4 rfl) ?_
          refine lv_aload_n hx hb dX7_slice_69 rfl (lv_at hl 0 rfl) ?_
          obtain ⟨x_33, g_33, hf⟩ := b_some hf
          refine xx_gR hZ hE k_X7 3 (by decide) rfl tw_371 g_33 dX7_slice_70 ?_
          refine lv_aload_n hx hb dX7_slice_73 rfl (lv_at hl 0 rfl) ?_
          refine lv_iload_n hx hb dX7_slice_74 rfl (lv_at hl 1 rfl) ?_
          refine lv_iload_n hx hb dX7_slice_75 rfl (lv_at hl 2 rfl) ?_
          refine lv_iload hx hb dX7_slice_76 (lv_at hl 5 rfl) ?_
          obtain ⟨_, i_34, hf⟩ := b_some hf
          obtain ⟨z_34, c_34, hf⟩ := b_some hf
          refine xx_cVi hZ hE (As := [.int a1, .int a2, .int w_25_6]) (rest := [.ref (ad x_33), .long w_25_4]) k_X7 (is_m i_34) tw_410 tw_411 (c_X7_with l D cA ad o a1 a2 w_25_6 z_8.2 _ c_34) cw_X7_with tw_409 ⟨rfl, rfl⟩ ⟨Nat.le_of_ble_eq_true rfl, Nat.le_of_ble_eq_true rfl⟩ rfl hl.1 rfl (Nat.le_of_ble_eq_true rfl) ⟨Nat.le_of_ble_eq_true rfl, Nat.le_of_ble_eq_true rfl⟩ dX7_slice_78 (fun H locs hE => ?_)
          obtain ⟨x_35, g_35, hf⟩ := b_some hf
          refine xx_aI hZ hE g_35 dX7_slice_81 ?_
          refine lv_iload_n hx hb dX7_slice_82 rfl (lv_at hl 3 rfl) ?_
          have q_36 : ∀ x_36 : Int64, x_36 = (if x_35 < ((1 : Int32) + z_6.1.toInt32) then (0 : Int64) else (1 : Int64)) → W p l e rm_X7_slice s m args below meth c H locs 0 0 Q (F0 m 91 ls [.long x_36, .long w_25_4]) := by
            intro x_36 e_36
            subst e_36
            refine lv_lsub hx hb dX7_slice_91 ?_
            refine lv_lstore (lv' := [(4, .long (w_25_4 - (if x_35 < ((1 : Int32) + z_6.1.toInt32) then (0 : Int64) else (1 : Int64)))), (0, .ref (ad o)), (1, .int a1), (2, .int a2), (3, .int ((1 : Int32) + z_6.1.toInt32)), (6, .int w_25_6)]) hx hb dX7_slice_92 hl (by decide) rfl (fun ls hl => ?_)
            refine lv_iinc (v := (w_25_6 + 1)) (lv' := [(6, .int (w_25_6 + 1)), (4, .long (w_25_4 - (if x_35 < ((1 : Int32) + z_6.1.toInt32) then (0 : Int64) else (1 : Int64)))), (0, .ref (ad o)), (1, .int a1), (2, .int a2), (3, .int ((1 : Int32) + z_6.1.toInt32))]) hx hb dX7_slice_94 hl (k := 5) rfl rfl (by decide) rfl (fun ls hl => ?_)
            refine lv_goto (tgt := 43) hx hb dX7_slice_97 (by decide) ?_
            exact ih_43 _ _ _ _ _ hf hE (lv_sub hl [2, 3, 4, 5, 1, 0] rfl)
          refine lv_icmp_lt (tgt := 90) hx hb dX7_slice_83 (by decide) (fun h_37 => ?_) (fun h_37 => ?_)
          · refine lv_lconst (v := 0) hx hb dX7_slice_90 (by decide) ?_
            exact q_36 _ (by rw [if_pos h_37])
          · refine lv_lconst (v := 1) hx hb dX7_slice_86 (by decide) ?_
            refine lv_goto (tgt := 91) hx hb dX7_slice_87 (by decide) ?_
            exact q_36 _ (by rw [if_neg h_37])
        · have hf := it_n h_32 hf
          exact q_31 _ _ _ _ _ hf hE (lv_sub hl [0, 1, 2, 3, 4, 5] rfl)
    exact L_25 _ _ _ _ _ _ hf hE (lv_sub hl [3, 4, 5, 2, 1, 0] rfl)
  · have hf := it_y h_3 hf
    refine lv_iload_n hx hb dX7_slice_9 rfl (lv_at hl 1 rfl) ?_
    exact hret _ _ _ _ _ _ (pr_1 hf) (pr_2 hf) rfl dX7_slice_10 hE
def lp_X7_done_12 (i_0 : Nat) : Nat → Int32 → Int32 → Mm → Option (Int32 × Mm)
  | 0, _, _, _ => none
  | n_12 + 1, v_3, v_4, M =>
    if v_4 ≤ 0 then
    some (v_3, M)
    else
    (op_gR M 7 i_0 23).bind fun x_4 =>
    (op_aI M x_4 (v_4 + (-1))).bind fun x_5 =>
    (op_gR M 7 i_0 6).bind fun x_6 =>
    (op_aI M x_6 x_5).bind fun x_7 =>
    (op_gR M 7 i_0 5).bind fun x_8 =>
    (op_aI M x_8 x_5).bind fun x_9 =>
    op_jn (fun (l_10_3 : Int32) (l_10_4 : Int32) (M_10 : Mm) =>
    lp_X7_done_12 i_0 n_12 l_10_3 l_10_4 M_10)
    fun j_10 =>
    if x_9 = 0 then
    (op_is M i_0 7).bind fun _ =>
    (f_X7_redraw i_0 v_3 x_7 M).bind fun z_12 =>
    j_10 z_12.1 (v_4 + (-1)) z_12.2
    else
    if x_9 = 1 then
    (op_is M i_0 7).bind fun _ =>
    (f_X7_draw i_0 (2 : Int64) M).bind fun z_14 =>
    (op_is z_14.2 i_0 7).bind fun _ =>
    (f_X7_neighbour i_0 v_3 x_7 (if z_14.1 = (0 : Int64) then (1 : Int32) else (0 : Int32)) z_14.2).bind fun z_16 =>
    (op_is z_14.2 i_0 7).bind fun _ =>
    (f_X7_accepted i_0 v_3 z_16 z_14.2).bind fun z_17 =>
    j_10 z_17.1 (v_4 + (-1)) z_17.2
    else
    if x_9 = 2 then
    (op_gR M 7 i_0 7).bind fun x_20 =>
    (op_aI M x_20 x_5).bind fun x_21 =>
    (op_is M i_0 7).bind fun _ =>
    (f_X7_swapped i_0 v_3 x_7 x_21 M).bind fun z_22 =>
    (op_is M i_0 7).bind fun _ =>
    (f_X7_accepted i_0 v_3 z_22 M).bind fun z_23 =>
    j_10 z_23.1 (v_4 + (-1)) z_23.2
    else
    if x_9 = 3 then
    (op_is M i_0 7).bind fun _ =>
    (f_X7_toldRun i_0 x_5 v_3 M).bind fun z_25 =>
    j_10 z_25.1 (v_4 + (-1)) z_25.2
    else
    if x_9 = 4 then
    (op_is M i_0 7).bind fun _ =>
    (f_X7_slice i_0 v_3 x_7 M).bind fun z_27 =>
    j_10 z_27.1 (v_4 + (-1)) z_27.2
    else
    if x_9 = 5 then
    (op_gR M 7 i_0 23).bind fun x_29 =>
    (op_gR M 7 i_0 9).bind fun x_30 =>
    (op_aI M x_30 x_5).bind fun x_31 =>
    (op_gR M 7 i_0 10).bind fun x_32 =>
    (op_aI M x_32 x_5).bind fun x_33 =>
    (op_is M i_0 7).bind fun _ =>
    (f_X7_draw i_0 ((x_31 + x_33).toInt64) M).bind fun z_34 =>
    (op_gR z_34.2 7 i_0 9).bind fun x_35 =>
    (op_aI z_34.2 x_35 x_5).bind fun x_36 =>
    op_jn (fun (x_37_0 : Int32) =>
    (op_sI z_34.2 x_29 (v_4 + (-1)) x_37_0).bind fun M_41 =>
    j_10 v_3 ((v_4 + (-1)) + 1) M_41)
    fun j_37 =>
    if x_36.toInt64 ≤ z_34.1 then
    (op_gR z_34.2 7 i_0 7).bind fun x_39 =>
    (op_aI z_34.2 x_39 x_5).bind fun x_40 =>
    j_37 x_40
    else
    j_37 x_7
    else
    (op_gR M 7 i_0 23).bind fun x_42 =>
    (op_gR M 7 i_0 7).bind fun x_43 =>
    (op_aI M x_43 x_5).bind fun x_44 =>
    (op_sI M x_42 (v_4 + (-1)) x_44).bind fun M_45 =>
    (op_gR M_45 7 i_0 23).bind fun x_46 =>
    (op_sI M_45 x_46 ((v_4 + (-1)) + (1 : Int32)) x_7).bind fun M_47 =>
    j_10 v_3 ((v_4 + (-1)) + 2) M_47
theorem lp_X7_done_12_s (i_0 : Nat) {n_12 : Nat} {v_3 : Int32} {v_4 : Int32} {M : Mm} {zr : Int32 × Mm} (hf : lp_X7_done_12 i_0 (n_12 + 1) v_3 v_4 M = some zr) : (
    if v_4 ≤ 0 then
    some (v_3, M)
    else
    (op_gR M 7 i_0 23).bind fun x_4 =>
    (op_aI M x_4 (v_4 + (-1))).bind fun x_5 =>
    (op_gR M 7 i_0 6).bind fun x_6 =>
    (op_aI M x_6 x_5).bind fun x_7 =>
    (op_gR M 7 i_0 5).bind fun x_8 =>
    (op_aI M x_8 x_5).bind fun x_9 =>
    op_jn (fun (l_10_3 : Int32) (l_10_4 : Int32) (M_10 : Mm) =>
    lp_X7_done_12 i_0 n_12 l_10_3 l_10_4 M_10)
    fun j_10 =>
    if x_9 = 0 then
    (op_is M i_0 7).bind fun _ =>
    (f_X7_redraw i_0 v_3 x_7 M).bind fun z_12 =>
    j_10 z_12.1 (v_4 + (-1)) z_12.2
    else
    if x_9 = 1 then
    (op_is M i_0 7).bind fun _ =>
    (f_X7_draw i_0 (2 : Int64) M).bind fun z_14 =>
    (op_is z_14.2 i_0 7).bind fun _ =>
    (f_X7_neighbour i_0 v_3 x_7 (if z_14.1 = (0 : Int64) then (1 : Int32) else (0 : Int32)) z_14.2).bind fun z_16 =>
    (op_is z_14.2 i_0 7).bind fun _ =>
    (f_X7_accepted i_0 v_3 z_16 z_14.2).bind fun z_17 =>
    j_10 z_17.1 (v_4 + (-1)) z_17.2
    else
    if x_9 = 2 then
    (op_gR M 7 i_0 7).bind fun x_20 =>
    (op_aI M x_20 x_5).bind fun x_21 =>
    (op_is M i_0 7).bind fun _ =>
    (f_X7_swapped i_0 v_3 x_7 x_21 M).bind fun z_22 =>
    (op_is M i_0 7).bind fun _ =>
    (f_X7_accepted i_0 v_3 z_22 M).bind fun z_23 =>
    j_10 z_23.1 (v_4 + (-1)) z_23.2
    else
    if x_9 = 3 then
    (op_is M i_0 7).bind fun _ =>
    (f_X7_toldRun i_0 x_5 v_3 M).bind fun z_25 =>
    j_10 z_25.1 (v_4 + (-1)) z_25.2
    else
    if x_9 = 4 then
    (op_is M i_0 7).bind fun _ =>
    (f_X7_slice i_0 v_3 x_7 M).bind fun z_27 =>
    j_10 z_27.1 (v_4 + (-1)) z_27.2
    else
    if x_9 = 5 then
    (op_gR M 7 i_0 23).bind fun x_29 =>
    (op_gR M 7 i_0 9).bind fun x_30 =>
    (op_aI M x_30 x_5).bind fun x_31 =>
    (op_gR M 7 i_0 10).bind fun x_32 =>
    (op_aI M x_32 x_5).bind fun x_33 =>
    (op_is M i_0 7).bind fun _ =>
    (f_X7_draw i_0 ((x_31 + x_33).toInt64) M).bind fun z_34 =>
    (op_gR z_34.2 7 i_0 9).bind fun x_35 =>
    (op_aI z_34.2 x_35 x_5).bind fun x_36 =>
    op_jn (fun (x_37_0 : Int32) =>
    (op_sI z_34.2 x_29 (v_4 + (-1)) x_37_0).bind fun M_41 =>
    j_10 v_3 ((v_4 + (-1)) + 1) M_41)
    fun j_37 =>
    if x_36.toInt64 ≤ z_34.1 then
    (op_gR z_34.2 7 i_0 7).bind fun x_39 =>
    (op_aI z_34.2 x_39 x_5).bind fun x_40 =>
    j_37 x_40
    else
    j_37 x_7
    else
    (op_gR M 7 i_0 23).bind fun x_42 =>
    (op_gR M 7 i_0 7).bind fun x_43 =>
    (op_aI M x_43 x_5).bind fun x_44 =>
    (op_sI M x_42 (v_4 + (-1)) x_44).bind fun M_45 =>
    (op_gR M_45 7 i_0 23).bind fun x_46 =>
    (op_sI M_45 x_46 ((v_4 + (-1)) + (1 : Int32)) x_7).bind fun M_47 =>
    j_10 v_3 ((v_4 + (-1)) + 2) M_47) = some zr := hf
def rm_X7_done : Room := { frames := 5, cells := 0, slots := 0, locals := 120 }
def f_X7_done (o : Nat) (a1 : Int32) (a2 : Int32) (M : Mm) : Option (Int32 × Mm) :=
    (op_gR M 7 o 23).bind fun x_1 =>
    (op_sI M x_1 (0 : Int32) a1).bind fun M_2 =>
    lp_X7_done_12  o FU a2 (1 : Int32) M_2
set_option maxHeartbeats 4000000 in
set_option maxRecDepth 100000 in
theorem c_X7_done (l : Launch) (D : va_G) (cA : Nat → ClassId) (ad : Nat → Nat) (o : Nat) (a1 : Int32) (a2 : Int32) (M : Mm) (zr : Int32 × Mm) (hf : f_X7_done o a1 a2 M = some zr) : KI l yX7_done cX7_done 7 (some .int) rm_X7_done D cA ad [.ref (ad o), .int a1, .int a2] M zr.1 zr.2 := by
  refine KI_of (by decide) (Nat.le_of_ble_eq_true rfl) ?_
  intro p e s m args below meth c ls Q A H locs hZ hE hl hret
  have hx := hZ.1
  have hb := hZ.2.1
  have hown := hZ.2.2.2.1
  have hts := hZ.2.2.2.2.1
  have hl : lv_has ls 7 [(0, .ref (ad o)), (1, .int a1), (2, .int a2)] := hl
  unfold f_X7_done at hf
  refine lv_iload_n hx hb dX7_done_0 rfl (lv_at hl 2 rfl) ?_
  refine lv_istore_n (lv' := [(3, .int a2), (0, .ref (ad o)), (1, .int a1), (2, .int a2)]) hx hb dX7_done_1 rfl hl (by decide) rfl (fun ls hl => ?_)
  refine lv_iconst (v := 1) hx hb dX7_done_2 (by decide) ?_
  refine lv_istore (lv' := [(4, .int (1 : Int32)), (3, .int a2), (0, .ref (ad o)), (1, .int a1), (2, .int a2)]) hx hb dX7_done_3 hl (by decide) rfl (fun ls hl => ?_)
  refine lv_aload_n hx hb dX7_done_5 rfl (lv_at hl 2 rfl) ?_
  obtain ⟨x_1, g_1, hf⟩ := b_some hf
  refine xx_gR hZ hE k_X7 23 (by decide) rfl tw_509 g_1 dX7_done_6 ?_
  refine lv_iconst (v := 0) hx hb dX7_done_9 (by decide) ?_
  refine lv_iload_n hx hb dX7_done_10 rfl (lv_at hl 3 rfl) ?_
  obtain ⟨M_2, g_2, hf⟩ := b_some hf
  refine xx_sI hZ hE g_2 dX7_done_11 (fun H locs hE => ?_)
  have L_48 : ∀ (n_12 : Nat) (w_48_3 : Int32) (w_48_4 : Int32) (M_48 : Mm) (H : Heap) (locs : List Loc) (ls : Array Slot), lp_X7_done_12 o n_12 w_48_3 w_48_4 M_48 = some zr → En D cA ad s A M_48 H locs → lv_has ls 7 [(0, .ref (ad o)), (3, .int w_48_3), (4, .int w_48_4)] → W p l e rm_X7_done s m args below meth c H locs 0 0 Q (F0 m 12 ls []) := by
    intro n_12
    induction n_12 with
    | zero =>
      intro w_48_3 w_48_4 M_48 H locs ls hf
      cases (show (none : Option (Int32 × Mm)) = some zr from hf)
    | succ n_12 ih_12 =>
      intro w_48_3 w_48_4 M_48 H locs ls hf hE hl
      have hf := lp_X7_done_12_s _ hf
      refine lv_iload hx hb dX7_done_12 (lv_at hl 2 rfl) ?_
      refine lv_if_le (tgt := 261) hx hb dX7_done_14 (by decide) (fun h_49 => ?_) (fun h_49 => ?_)
      · have hf := it_y h_49 hf
        refine lv_iload_n hx hb dX7_done_261 rfl (lv_at hl 1 rfl) ?_
        exact hret _ _ _ _ _ _ (pr_1 hf) (pr_2 hf) rfl dX7_done_262 hE
      · have hf := it_n h_49 hf
        refine lv_iinc (v := (w_48_4 + (-1))) (lv' := [(4, .int (w_48_4 + (-1))), (0, .ref (ad o)), (3, .int w_48_3)]) hx hb dX7_done_17 hl (k := 2) rfl rfl (by decide) rfl (fun ls hl => ?_)
        refine lv_aload_n hx hb dX7_done_20 rfl (lv_at hl 1 rfl) ?_
        obtain ⟨x_50, g_50, hf⟩ := b_some hf
        refine xx_gR hZ hE k_X7 23 (by decide) rfl tw_509 g_50 dX7_done_21 ?_
        refine lv_iload hx hb dX7_done_24 (lv_at hl 0 rfl) ?_
        obtain ⟨x_51, g_51, hf⟩ := b_some hf
        refine xx_aI hZ hE g_51 dX7_done_26 ?_
        refine lv_istore (lv' := [(5, .int x_51), (4, .int (w_48_4 + (-1))), (0, .ref (ad o)), (3, .int w_48_3)]) hx hb dX7_done_27 hl (by decide) rfl (fun ls hl => ?_)
        refine lv_aload_n hx hb dX7_done_29 rfl (lv_at hl 2 rfl) ?_
        obtain ⟨x_52, g_52, hf⟩ := b_some hf
        refine xx_gR hZ hE k_X7 6 (by decide) rfl tw_394 g_52 dX7_done_30 ?_
        refine lv_iload hx hb dX7_done_33 (lv_at hl 0 rfl) ?_
        obtain ⟨x_53, g_53, hf⟩ := b_some hf
        refine xx_aI hZ hE g_53 dX7_done_35 ?_
        refine lv_istore (lv' := [(6, .int x_53), (5, .int x_51), (4, .int (w_48_4 + (-1))), (0, .ref (ad o)), (3, .int w_48_3)]) hx hb dX7_done_36 hl (by decide) rfl (fun ls hl => ?_)
        refine lv_aload_n hx hb dX7_done_38 rfl (lv_at hl 3 rfl) ?_
        obtain ⟨x_54, g_54, hf⟩ := b_some hf
        refine xx_gR hZ hE k_X7 5 (by decide) rfl tw_393 g_54 dX7_done_39 ?_
        refine lv_iload hx hb dX7_done_42 (lv_at hl 1 rfl) ?_
        obtain ⟨x_55, g_55, hf⟩ := b_some hf
        refine xx_aI hZ hE g_55 dX7_done_44 ?_
        obtain ⟨j_56, ej_56, hf⟩ := jn_e hf
        have q_56 : ∀ (l_56_3 : Int32) (l_56_4 : Int32) (M_56 : Mm) (H : Heap) (locs : List Loc) (ls : Array Slot), j_56 l_56_3 l_56_4 M_56 = some zr → En D cA ad s A M_56 H locs → lv_has ls 7 [(0, .ref (ad o)), (3, .int l_56_3), (4, .int l_56_4)] → W p l e rm_X7_done s m args below meth c H locs 0 0 Q (F0 m 258 ls []) := by
          intro l_56_3 l_56_4 M_56 H locs ls hf hE hl
          rw [ej_56] at hf
          refine lv_goto (tgt := 12) hx hb dX7_done_258 (by decide) ?_
          exact ih_12 _ _ _ _ _ _ hf hE (lv_sub hl [0, 1, 2] rfl)
        by_cases h_57 : x_55 = 0
        · have hf := it_y h_57 hf
          refine xx_tsw (off := 39) (tgt := 84) hx hb dX7_done_45 0 h_57 (by decide) (by decide) ?_
          refine lv_aload_n hx hb dX7_done_84 rfl (lv_at hl 3 rfl) ?_
          refine lv_iload_n hx hb dX7_done_85 rfl (lv_at hl 4 rfl) ?_
          refine lv_iload hx hb dX7_done_86 (lv_at hl 0 rfl) ?_
          obtain ⟨_, i_58, hf⟩ := b_some hf
          obtain ⟨z_58, c_58, hf⟩ := b_some hf
          refine xx_cVi hZ hE (As := [.int w_48_3, .int x_53]) (rest := []) k_X7 (is_m i_58) tw_511 tw_512 (c_X7_redraw l D cA ad o w_48_3 x_53 M_48 _ c_58) cw_X7_redraw tw_510 ⟨rfl, rfl⟩ ⟨Nat.le_of_ble_eq_true rfl, Nat.le_of_ble_eq_true rfl⟩ rfl hl.1 rfl (Nat.le_of_ble_eq_true rfl) ⟨Nat.le_of_ble_eq_true rfl, Nat.le_of_ble_eq_true rfl⟩ dX7_done_88 (fun H locs hE => ?_)
          refine lv_istore_n (lv' := [(3, .int z_58.1), (6, .int x_53), (5, .int x_51), (4, .int (w_48_4 + (-1))), (0, .ref (ad o))]) hx hb dX7_done_91 rfl hl (by decide) rfl (fun ls hl => ?_)
          refine lv_goto (tgt := 258) hx hb dX7_done_92 (by decide) ?_
          exact q_56 _ _ _ _ _ _ hf hE (lv_sub hl [4, 0, 3] rfl)
        · have hf := it_n h_57 hf
          by_cases h_59 : x_55 = 1
          · have hf := it_y h_59 hf
            refine xx_tsw (off := 50) (tgt := 95) hx hb dX7_done_45 1 h_59 (by decide) (by decide) ?_
            refine lv_aload_n hx hb dX7_done_95 rfl (lv_at hl 3 rfl) ?_
            refine lv_iload_n hx hb dX7_done_96 rfl (lv_at hl 4 rfl) ?_
            refine lv_aload_n hx hb dX7_done_97 rfl (lv_at hl 3 rfl) ?_
            refine lv_iload_n hx hb dX7_done_98 rfl (lv_at hl 4 rfl) ?_
            refine lv_iload hx hb dX7_done_99 (lv_at hl 0 rfl) ?_
            refine lv_aload_n hx hb dX7_done_101 rfl (lv_at hl 3 rfl) ?_
            refine lv_ldc2 (v := 2) hx hb hown (hts _ tw_443) dX7_done_102 ?_
            obtain ⟨_, i_60, hf⟩ := b_some hf
            obtain ⟨z_60, c_60, hf⟩ := b_some hf
            refine xx_cVl hZ hE (As := [.long (2 : Int64)]) (rest := [.int x_53, .int w_48_3, .ref (ad o), .int w_48_3, .ref (ad o)]) k_X7 (is_m i_60) tw_507 tw_508 (c_X7_draw l D cA ad o (2 : Int64) M_48 _ c_60) cw_X7_draw tw_506 ⟨rfl, rfl⟩ ⟨Nat.le_of_ble_eq_true rfl, Nat.le_of_ble_eq_true rfl⟩ rfl hl.1 rfl (Nat.le_of_ble_eq_true rfl) ⟨Nat.le_of_ble_eq_true rfl, Nat.le_of_ble_eq_true rfl⟩ dX7_done_105 (fun H locs hE => ?_)
            refine lv_lconst (v := 0) hx hb dX7_done_108 (by decide) ?_
            have q_61 : ∀ x_61 : Int32, x_61 = (if z_60.1 = (0 : Int64) then (1 : Int32) else (0 : Int32)) → W p l e rm_X7_done s m args below meth c H locs 0 0 Q (F0 m 118 ls [.int x_61, .int x_53, .int w_48_3, .ref (ad o), .int w_48_3, .ref (ad o)]) := by
              intro x_61 e_61
              subst e_61
              obtain ⟨_, i_62, hf⟩ := b_some hf
              obtain ⟨z_62, c_62, hf⟩ := b_some hf
              refine xx_cVi hZ hE (As := [.int w_48_3, .int x_53, .int (if z_60.1 = (0 : Int64) then (1 : Int32) else (0 : Int32))]) (rest := [.int w_48_3, .ref (ad o)]) k_X7 (is_m i_62) tw_441 tw_442 (c_X7_neighbour l D cA ad o w_48_3 x_53 (if z_60.1 = (0 : Int64) then (1 : Int32) else (0 : Int32)) z_60.2 _ c_62) cw_X7_neighbour tw_440 ⟨rfl, rfl⟩ ⟨Nat.le_of_ble_eq_true rfl, Nat.le_of_ble_eq_true rfl⟩ rfl hl.1 rfl (Nat.le_of_ble_eq_true rfl) ⟨Nat.le_of_ble_eq_true rfl, Nat.le_of_ble_eq_true rfl⟩ dX7_done_118 (fun H locs hE => ?_)
              obtain ⟨_, i_63, hf⟩ := b_some hf
              obtain ⟨z_63, c_63, hf⟩ := b_some hf
              refine xx_cVi hZ hE (As := [.int w_48_3, .int z_62]) (rest := []) k_X7 (is_m i_63) tw_514 tw_515 (c_X7_accepted l D cA ad o w_48_3 z_62 z_60.2 _ c_63) cw_X7_accepted tw_513 ⟨rfl, rfl⟩ ⟨Nat.le_of_ble_eq_true rfl, Nat.le_of_ble_eq_true rfl⟩ rfl hl.1 rfl (Nat.le_of_ble_eq_true rfl) ⟨Nat.le_of_ble_eq_true rfl, Nat.le_of_ble_eq_true rfl⟩ dX7_done_121 (fun H locs hE => ?_)
              refine lv_istore_n (lv' := [(3, .int z_63.1), (6, .int x_53), (5, .int x_51), (4, .int (w_48_4 + (-1))), (0, .ref (ad o))]) hx hb dX7_done_124 rfl hl (by decide) rfl (fun ls hl => ?_)
              refine lv_goto (tgt := 258) hx hb dX7_done_125 (by decide) ?_
              exact q_56 _ _ _ _ _ _ hf hE (lv_sub hl [4, 0, 3] rfl)
            refine xx_lne (tgt := 117) hx hb dX7_done_109 dX7_done_110 (by decide) (fun h_64 => ?_) (fun h_64 => ?_)
            · refine lv_iconst (v := 0) hx hb dX7_done_117 (by decide) ?_
              exact q_61 _ (by rw [if_neg h_64])
            · refine lv_iconst (v := 1) hx hb dX7_done_113 (by decide) ?_
              refine lv_goto (tgt := 118) hx hb dX7_done_114 (by decide) ?_
              exact q_61 _ (by rw [if_pos h_64])
          · have hf := it_n h_59 hf
            by_cases h_65 : x_55 = 2
            · have hf := it_y h_65 hf
              refine xx_tsw (off := 83) (tgt := 128) hx hb dX7_done_45 2 h_65 (by decide) (by decide) ?_
              refine lv_aload_n hx hb dX7_done_128 rfl (lv_at hl 3 rfl) ?_
              refine lv_iload_n hx hb dX7_done_129 rfl (lv_at hl 4 rfl) ?_
              refine lv_aload_n hx hb dX7_done_130 rfl (lv_at hl 3 rfl) ?_
              refine lv_iload_n hx hb dX7_done_131 rfl (lv_at hl 4 rfl) ?_
              refine lv_iload hx hb dX7_done_132 (lv_at hl 0 rfl) ?_
              refine lv_aload_n hx hb dX7_done_134 rfl (lv_at hl 3 rfl) ?_
              obtain ⟨x_66, g_66, hf⟩ := b_some hf
              refine xx_gR hZ hE k_X7 7 (by decide) rfl tw_395 g_66 dX7_done_135 ?_
              refine lv_iload hx hb dX7_done_138 (lv_at hl 1 rfl) ?_
              obtain ⟨x_67, g_67, hf⟩ := b_some hf
              refine xx_aI hZ hE g_67 dX7_done_140 ?_
              obtain ⟨_, i_68, hf⟩ := b_some hf
              obtain ⟨z_68, c_68, hf⟩ := b_some hf
              refine xx_cVi hZ hE (As := [.int w_48_3, .int x_53, .int x_67]) (rest := [.int w_48_3, .ref (ad o)]) k_X7 (is_m i_68) tw_451 tw_452 (c_X7_swapped l D cA ad o w_48_3 x_53 x_67 M_48 _ c_68) cw_X7_swapped tw_450 ⟨rfl, rfl⟩ ⟨Nat.le_of_ble_eq_true rfl, Nat.le_of_ble_eq_true rfl⟩ rfl hl.1 rfl (Nat.le_of_ble_eq_true rfl) ⟨Nat.le_of_ble_eq_true rfl, Nat.le_of_ble_eq_true rfl⟩ dX7_done_141 (fun H locs hE => ?_)
              obtain ⟨_, i_69, hf⟩ := b_some hf
              obtain ⟨z_69, c_69, hf⟩ := b_some hf
              refine xx_cVi hZ hE (As := [.int w_48_3, .int z_68]) (rest := []) k_X7 (is_m i_69) tw_514 tw_515 (c_X7_accepted l D cA ad o w_48_3 z_68 M_48 _ c_69) cw_X7_accepted tw_513 ⟨rfl, rfl⟩ ⟨Nat.le_of_ble_eq_true rfl, Nat.le_of_ble_eq_true rfl⟩ rfl hl.1 rfl (Nat.le_of_ble_eq_true rfl) ⟨Nat.le_of_ble_eq_true rfl, Nat.le_of_ble_eq_true rfl⟩ dX7_done_144 (fun H locs hE => ?_)
              refine lv_istore_n (lv' := [(3, .int z_69.1), (6, .int x_53), (5, .int x_51), (4, .int (w_48_4 + (-1))), (0, .ref (ad o))]) hx hb dX7_done_147 rfl hl (by decide) rfl (fun ls hl => ?_)
              refine lv_goto (tgt := 258) hx hb dX7_done_148 (by decide) ?_
              exact q_56 _ _ _ _ _ _ hf hE (lv_sub hl [4, 0, 3] rfl)
            · have hf := it_n h_65 hf
              by_cases h_70 : x_55 = 3
              · have hf := it_y h_70 hf
                refine xx_tsw (off := 106) (tgt := 151) hx hb dX7_done_45 3 h_70 (by decide) (by decide) ?_
                refine lv_aload_n hx hb dX7_done_151 rfl (lv_at hl 3 rfl) ?_
                refine lv_iload hx hb dX7_done_152 (lv_at hl 1 rfl) ?_
                refine lv_iload_n hx hb dX7_done_154 rfl (lv_at hl 4 rfl) ?_
                obtain ⟨_, i_71, hf⟩ := b_some hf
                obtain ⟨z_71, c_71, hf⟩ := b_some hf
                refine xx_cVi hZ hE (As := [.int x_51, .int w_48_3]) (rest := []) k_X7 (is_m i_71) tw_517 tw_518 (c_X7_toldRun l D cA ad o x_51 w_48_3 M_48 _ c_71) cw_X7_toldRun tw_516 ⟨rfl, rfl⟩ ⟨Nat.le_of_ble_eq_true rfl, Nat.le_of_ble_eq_true rfl⟩ rfl hl.1 rfl (Nat.le_of_ble_eq_true rfl) ⟨Nat.le_of_ble_eq_true rfl, Nat.le_of_ble_eq_true rfl⟩ dX7_done_155 (fun H locs hE => ?_)
                refine lv_istore_n (lv' := [(3, .int z_71.1), (6, .int x_53), (5, .int x_51), (4, .int (w_48_4 + (-1))), (0, .ref (ad o))]) hx hb dX7_done_158 rfl hl (by decide) rfl (fun ls hl => ?_)
                refine lv_goto (tgt := 258) hx hb dX7_done_159 (by decide) ?_
                exact q_56 _ _ _ _ _ _ hf hE (lv_sub hl [4, 0, 3] rfl)
              · have hf := it_n h_70 hf
                by_cases h_72 : x_55 = 4
                · have hf := it_y h_72 hf
                  refine xx_tsw (off := 117) (tgt := 162) hx hb dX7_done_45 4 h_72 (by decide) (by decide) ?_
                  refine lv_aload_n hx hb dX7_done_162 rfl (lv_at hl 3 rfl) ?_
                  refine lv_iload_n hx hb dX7_done_163 rfl (lv_at hl 4 rfl) ?_
                  refine lv_iload hx hb dX7_done_164 (lv_at hl 0 rfl) ?_
                  obtain ⟨_, i_73, hf⟩ := b_some hf
                  obtain ⟨z_73, c_73, hf⟩ := b_some hf
                  refine xx_cVi hZ hE (As := [.int w_48_3, .int x_53]) (rest := []) k_X7 (is_m i_73) tw_520 tw_521 (c_X7_slice l D cA ad o w_48_3 x_53 M_48 _ c_73) cw_X7_slice tw_519 ⟨rfl, rfl⟩ ⟨Nat.le_of_ble_eq_true rfl, Nat.le_of_ble_eq_true rfl⟩ rfl hl.1 rfl (Nat.le_of_ble_eq_true rfl) ⟨Nat.le_of_ble_eq_true rfl, Nat.le_of_ble_eq_true rfl⟩ dX7_done_166 (fun H locs hE => ?_)
                  refine lv_istore_n (lv' := [(3, .int z_73.1), (6, .int x_53), (5, .int x_51), (4, .int (w_48_4 + (-1))), (0, .ref (ad o))]) hx hb dX7_done_169 rfl hl (by decide) rfl (fun ls hl => ?_)
                  refine lv_goto (tgt := 258) hx hb dX7_done_170 (by decide) ?_
                  exact q_56 _ _ _ _ _ _ hf hE (lv_sub hl [4, 0, 3] rfl)
                · have hf := it_n h_72 hf
                  by_cases h_74 : x_55 = 5
                  · have hf := it_y h_74 hf
                    refine xx_tsw (off := 128) (tgt := 173) hx hb dX7_done_45 5 h_74 (by decide) (by decide) ?_
                    refine lv_aload_n hx hb dX7_done_173 rfl (lv_at hl 3 rfl) ?_
                    obtain ⟨x_75, g_75, hf⟩ := b_some hf
                    refine xx_gR hZ hE k_X7 23 (by decide) rfl tw_509 g_75 dX7_done_174 ?_
                    refine lv_iload hx hb dX7_done_177 (lv_at hl 2 rfl) ?_
                    refine lv_aload_n hx hb dX7_done_179 rfl (lv_at hl 3 rfl) ?_
                    refine lv_aload_n hx hb dX7_done_180 rfl (lv_at hl 3 rfl) ?_
                    obtain ⟨x_76, g_76, hf⟩ := b_some hf
                    refine xx_gR hZ hE k_X7 9 (by decide) rfl tw_396 g_76 dX7_done_181 ?_
                    refine lv_iload hx hb dX7_done_184 (lv_at hl 1 rfl) ?_
                    obtain ⟨x_77, g_77, hf⟩ := b_some hf
                    refine xx_aI hZ hE g_77 dX7_done_186 ?_
                    refine lv_aload_n hx hb dX7_done_187 rfl (lv_at hl 3 rfl) ?_
                    obtain ⟨x_78, g_78, hf⟩ := b_some hf
                    refine xx_gR hZ hE k_X7 10 (by decide) rfl tw_397 g_78 dX7_done_188 ?_
                    refine lv_iload hx hb dX7_done_191 (lv_at hl 1 rfl) ?_
                    obtain ⟨x_79, g_79, hf⟩ := b_some hf
                    refine xx_aI hZ hE g_79 dX7_done_193 ?_
                    refine lv_iadd hx hb dX7_done_194 ?_
                    refine lv_i2l hx hb dX7_done_195 rfl ?_
                    obtain ⟨_, i_80, hf⟩ := b_some hf
                    obtain ⟨z_80, c_80, hf⟩ := b_some hf
                    refine xx_cVl hZ hE (As := [.long ((x_77 + x_79).toInt64)]) (rest := [.int (w_48_4 + (-1)), .ref (ad x_75)]) k_X7 (is_m i_80) tw_507 tw_508 (c_X7_draw l D cA ad o ((x_77 + x_79).toInt64) M_48 _ c_80) cw_X7_draw tw_506 ⟨rfl, rfl⟩ ⟨Nat.le_of_ble_eq_true rfl, Nat.le_of_ble_eq_true rfl⟩ rfl hl.1 rfl (Nat.le_of_ble_eq_true rfl) ⟨Nat.le_of_ble_eq_true rfl, Nat.le_of_ble_eq_true rfl⟩ dX7_done_196 (fun H locs hE => ?_)
                    refine lv_aload_n hx hb dX7_done_199 rfl (lv_at hl 3 rfl) ?_
                    obtain ⟨x_81, g_81, hf⟩ := b_some hf
                    refine xx_gR hZ hE k_X7 9 (by decide) rfl tw_396 g_81 dX7_done_200 ?_
                    refine lv_iload hx hb dX7_done_203 (lv_at hl 1 rfl) ?_
                    obtain ⟨x_82, g_82, hf⟩ := b_some hf
                    refine xx_aI hZ hE g_82 dX7_done_205 ?_
                    refine lv_i2l hx hb dX7_done_206 rfl ?_
                    obtain ⟨j_83, ej_83, hf⟩ := jn_e hf
                    have q_83 : ∀ (x_83_0 : Int32) (H : Heap) (locs : List Loc) (ls : Array Slot), j_83 x_83_0 = some zr → En D cA ad s A z_80.2 H locs → lv_has ls 7 [(0, .ref (ad o)), (3, .int w_48_3), (4, .int (w_48_4 + (-1)))] → W p l e rm_X7_done s m args below meth c H locs 0 0 Q (F0 m 223 ls [.int x_83_0, .int (w_48_4 + (-1)), .ref (ad x_75)]) := by
                      intro x_83_0 H locs ls hf hE hl
                      rw [ej_83] at hf
                      obtain ⟨M_87, g_87, hf⟩ := b_some hf
                      refine xx_sI hZ hE g_87 dX7_done_223 (fun H locs hE => ?_)
                      refine lv_iinc (v := ((w_48_4 + (-1)) + 1)) (lv' := [(4, .int ((w_48_4 + (-1)) + 1)), (0, .ref (ad o)), (3, .int w_48_3)]) hx hb dX7_done_224 hl (k := 2) rfl rfl (by decide) rfl (fun ls hl => ?_)
                      refine lv_goto (tgt := 258) hx hb dX7_done_227 (by decide) ?_
                      exact q_56 _ _ _ _ _ _ hf hE (lv_sub hl [1, 2, 0] rfl)
                    refine xx_lge (tgt := 216) hx hb dX7_done_207 dX7_done_208 (by decide) (fun h_84 => ?_) (fun h_84 => ?_)
                    · have hf := it_y h_84 hf
                      refine lv_aload_n hx hb dX7_done_216 rfl (lv_at hl 3 rfl) ?_
                      obtain ⟨x_85, g_85, hf⟩ := b_some hf
                      refine xx_gR hZ hE k_X7 7 (by decide) rfl tw_395 g_85 dX7_done_217 ?_
                      refine lv_iload hx hb dX7_done_220 (lv_at hl 1 rfl) ?_
                      obtain ⟨x_86, g_86, hf⟩ := b_some hf
                      refine xx_aI hZ hE g_86 dX7_done_222 ?_
                      exact q_83 _ _ _ _ hf hE (lv_sub hl [3, 4, 2] rfl)
                    · have hf := it_n h_84 hf
                      refine lv_iload hx hb dX7_done_211 (lv_at hl 0 rfl) ?_
                      refine lv_goto (tgt := 223) hx hb dX7_done_213 (by decide) ?_
                      exact q_83 _ _ _ _ hf hE (lv_sub hl [3, 4, 2] rfl)
                  · have hf := it_n h_74 hf
                    have sw := (⟨i32m h_57 (n := 0) (by decide), i32m h_59 (n := 1) (by decide), i32m h_65 (n := 2) (by decide), i32m h_70 (n := 3) (by decide), i32m h_72 (n := 4) (by decide), i32m h_74 (n := 5) (by decide), trivial⟩ : x_55.toInt ≠ 0 ∧ x_55.toInt ≠ 1 ∧ x_55.toInt ≠ 2 ∧ x_55.toInt ≠ 3 ∧ x_55.toInt ≠ 4 ∧ x_55.toInt ≠ 5 ∧ True)
                    refine lv_tableOut (tgt := 230) hx hb dX7_done_45 (by omega) (by decide) ?_
                    refine lv_aload_n hx hb dX7_done_230 rfl (lv_at hl 3 rfl) ?_
                    obtain ⟨x_88, g_88, hf⟩ := b_some hf
                    refine xx_gR hZ hE k_X7 23 (by decide) rfl tw_509 g_88 dX7_done_231 ?_
                    refine lv_iload hx hb dX7_done_234 (lv_at hl 2 rfl) ?_
                    refine lv_aload_n hx hb dX7_done_236 rfl (lv_at hl 3 rfl) ?_
                    obtain ⟨x_89, g_89, hf⟩ := b_some hf
                    refine xx_gR hZ hE k_X7 7 (by decide) rfl tw_395 g_89 dX7_done_237 ?_
                    refine lv_iload hx hb dX7_done_240 (lv_at hl 1 rfl) ?_
                    obtain ⟨x_90, g_90, hf⟩ := b_some hf
                    refine xx_aI hZ hE g_90 dX7_done_242 ?_
                    obtain ⟨M_91, g_91, hf⟩ := b_some hf
                    refine xx_sI hZ hE g_91 dX7_done_243 (fun H locs hE => ?_)
                    refine lv_aload_n hx hb dX7_done_244 rfl (lv_at hl 3 rfl) ?_
                    obtain ⟨x_92, g_92, hf⟩ := b_some hf
                    refine xx_gR hZ hE k_X7 23 (by decide) rfl tw_509 g_92 dX7_done_245 ?_
                    refine lv_iload hx hb dX7_done_248 (lv_at hl 2 rfl) ?_
                    refine lv_iconst (v := 1) hx hb dX7_done_250 (by decide) ?_
                    refine lv_iadd hx hb dX7_done_251 ?_
                    refine lv_iload hx hb dX7_done_252 (lv_at hl 0 rfl) ?_
                    obtain ⟨M_93, g_93, hf⟩ := b_some hf
                    refine xx_sI hZ hE g_93 dX7_done_254 (fun H locs hE => ?_)
                    refine lv_iinc (v := ((w_48_4 + (-1)) + 2)) (lv' := [(4, .int ((w_48_4 + (-1)) + 2)), (6, .int x_53), (5, .int x_51), (0, .ref (ad o)), (3, .int w_48_3)]) hx hb dX7_done_255 hl (k := 2) rfl rfl (by decide) rfl (fun ls hl => ?_)
                    exact q_56 _ _ _ _ _ _ hf hE (lv_sub hl [3, 4, 0] rfl)
  exact L_48 _ _ _ _ _ _ _ hf hE (lv_sub hl [2, 1, 0] rfl)
