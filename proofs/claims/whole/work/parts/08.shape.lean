def sh_KL : List Nat := [6, 3, 100, 100, 100, 100, 103, 2, 100, 100, 101, 101, 2, 100, 100, 101, 101, 2, 100, 100, 101, 101, 2, 100, 100, 101, 101, 2, 100, 100, 101, 101, 2, 100, 100, 101, 101, 2, 100, 100, 101, 101, 2, 100, 100, 101, 101, 2, 100, 100, 101, 101, 2, 100, 100, 101, 101, 0, 1, 1, 1, 1, 1, 4, 5, 100, 7, 100, 100, 100, 100, 100, 100, 100, 100, 100, 101, 101, 102, 102, 102, 100, 100]
def sh_SL : List Nat := [0, 0, 4, 4, 64, 16, 10, 0, 256, 16, 256, 256, 0, 256, 16, 256, 256, 0, 256, 16, 256, 256, 0, 256, 16, 256, 256, 0, 256, 16, 256, 256, 0, 256, 16, 256, 256, 0, 256, 16, 256, 256, 0, 256, 16, 256, 256, 0, 256, 16, 256, 256, 0, 256, 16, 256, 256, 0, 0, 0, 0, 0, 0, 0, 0, 201, 0, 4, 16, 10, 10, 10, 10, 10, 10, 2560, 2560, 2560, 10, 2560, 10, 201, 8]
def sh_RL : List (Nat × Nat × Nat) := [(1, 2, 2), (1, 3, 3), (1, 4, 4), (1, 5, 5), (6, 0, 7), (7, 6, 8), (7, 7, 9), (7, 8, 10), (7, 9, 11), (6, 1, 12), (12, 6, 13), (12, 7, 14), (12, 8, 15), (12, 9, 16), (6, 2, 17), (17, 6, 18), (17, 7, 19), (17, 8, 20), (17, 9, 21), (6, 3, 22), (22, 6, 23), (22, 7, 24), (22, 8, 25), (22, 9, 26), (6, 4, 27), (27, 6, 28), (27, 7, 29), (27, 8, 30), (27, 9, 31), (6, 5, 32), (32, 6, 33), (32, 7, 34), (32, 8, 35), (32, 9, 36), (6, 6, 37), (37, 6, 38), (37, 7, 39), (37, 8, 40), (37, 9, 41), (6, 7, 42), (42, 6, 43), (42, 7, 44), (42, 8, 45), (42, 9, 46), (6, 8, 47), (47, 6, 48), (47, 7, 49), (47, 8, 50), (47, 9, 51), (6, 9, 52), (52, 6, 53), (52, 7, 54), (52, 8, 55), (52, 9, 56), (57, 0, 1), (57, 1, 6), (57, 2, 58), (57, 3, 59), (57, 4, 60), (57, 5, 61), (57, 6, 62), (63, 0, 1), (63, 1, 6), (64, 0, 1), (64, 1, 6), (64, 2, 65), (0, 0, 1), (0, 1, 6), (0, 2, 57), (0, 3, 63), (0, 4, 64), (66, 1, 67), (66, 3, 68), (66, 5, 69), (66, 6, 70), (66, 7, 71), (66, 8, 72), (66, 9, 73), (66, 10, 74), (66, 11, 75), (66, 12, 76), (66, 13, 77), (66, 14, 78), (66, 15, 79), (66, 16, 80), (66, 18, 81), (66, 23, 82)]
def KK (q : Nat) : Nat := sh_KL.getD q 0
def SS (q : Nat) : Nat := sh_SL.getD q 0
def Shp (M : Mm) : Prop := mm_N M = 83 ∧ (∀ q, q < 83 → mm_K M q = KK q ∧ mm_S M q = SS q) ∧ ∀ x ∈ sh_RL, mm_R M x.1 x.2.1 = some x.2.2
section
variable {M : Mm} {q k c : Nat}
theorem sh_is (h : Shp M) (hq : q < 83) (hc : KK q = c) : mm_is M q c := ⟨by rw [h.1]; exact hq, by rw [(h.2.1 q hq).1, hc]⟩
theorem sh_wI (h : Shp M) {x : Int32} : Shp (mm_wI M q k x) := h
theorem sh_wL (h : Shp M) {x : Int64} : Shp (mm_wL M q k x) := h
theorem sh_op (h : Shp M) (hq : q < 83) (hc : KK q = c) : op_is M q c = some () := if_pos (sh_is h hq hc)
theorem sh_gI (h : Shp M) (hq : q < 83) (hc : KK q = c) : op_gI M c q k = some (mm_I M q k) := if_pos (sh_is h hq hc)
theorem sh_gL (h : Shp M) (hq : q < 83) (hc : KK q = c) : op_gL M c q k = some (mm_L M q k) := if_pos (sh_is h hq hc)
theorem sh_gR (h : Shp M) (hq : q < 83) (hc : KK q = c) {r : Nat} (hr : (q, k, r) ∈ sh_RL) : op_gR M c q k = some r := by
  unfold op_gR
  rw [if_pos (sh_is h hq hc)]
  exact h.2.2 (q, k, r) hr
theorem sh_pI (h : Shp M) (hq : q < 83) (hc : KK q = c) {x : Int32} : op_pI M c q k x = some (mm_wI M q k x) := if_pos (sh_is h hq hc)
theorem sh_pL (h : Shp M) (hq : q < 83) (hc : KK q = c) {x : Int64} : op_pL M c q k x = some (mm_wL M q k x) := if_pos (sh_is h hq hc)
theorem sh_pZ (h : Shp M) (hq : q < 83) (hc : KK q = c) {x : Int32} (hx : x = 0 ∨ x = 1) : op_pZ M c q k x = some (mm_wI M q k x) := if_pos ⟨sh_is h hq hc, hx⟩
theorem sh_in {i n : Nat} (h : i < n) (hn : n < 2 ^ 31) : mm_in (nI i) n := vp_in_nI h hn
theorem sh_cl {i n : Nat} (h : i < n) (hn : n < 2 ^ 31) : (nI i).toNatClampNeg = i := nI_clamp (Nat.lt_trans h hn)
theorem SS_lt : ∀ q, q < 83 → SS q < 2 ^ 31 := by decide
theorem sh_aI (h : Shp M) (hq : q < 83) (hc : KK q = 100) {i : Nat} (hi : i < SS q) : op_aI M q (nI i) = some (mm_I M q i) := by
  unfold op_aI
  rw [if_pos ⟨sh_is h hq hc, by rw [(h.2.1 q hq).2]; exact sh_in hi (SS_lt q hq)⟩, sh_cl hi (SS_lt q hq)]
theorem sh_aL (h : Shp M) (hq : q < 83) (hc : KK q = 101) {i : Nat} (hi : i < SS q) : op_aL M q (nI i) = some (mm_L M q i) := by
  unfold op_aL
  rw [if_pos ⟨sh_is h hq hc, by rw [(h.2.1 q hq).2]; exact sh_in hi (SS_lt q hq)⟩, sh_cl hi (SS_lt q hq)]
theorem sh_aZ (h : Shp M) (hq : q < 83) (hc : KK q = 102) {i : Nat} (hi : i < SS q) : op_aZ M q (nI i) = some (mm_I M q i) := by
  unfold op_aZ
  rw [if_pos ⟨sh_is h hq hc, by rw [(h.2.1 q hq).2]; exact sh_in hi (SS_lt q hq)⟩, sh_cl hi (SS_lt q hq)]
theorem sh_aR (h : Shp M) (hq : q < 83) (hc : KK q = 103) {i r : Nat} (hi : i < SS q) (hr : (q, i, r) ∈ sh_RL) : op_aR M q (nI i) = some r := by
  unfold op_aR
  rw [if_pos ⟨sh_is h hq hc, by rw [(h.2.1 q hq).2]; exact sh_in hi (SS_lt q hq)⟩, sh_cl hi (SS_lt q hq)]
  exact h.2.2 (q, i, r) hr
theorem sh_sI (h : Shp M) (hq : q < 83) (hc : KK q = 100) {i : Nat} (hi : i < SS q) {x : Int32} : op_sI M q (nI i) x = some (mm_wI M q i x) := by
  unfold op_sI
  rw [if_pos ⟨sh_is h hq hc, by rw [(h.2.1 q hq).2]; exact sh_in hi (SS_lt q hq)⟩, sh_cl hi (SS_lt q hq)]
theorem sh_sL (h : Shp M) (hq : q < 83) (hc : KK q = 101) {i : Nat} (hi : i < SS q) {x : Int64} : op_sL M q (nI i) x = some (mm_wL M q i x) := by
  unfold op_sL
  rw [if_pos ⟨sh_is h hq hc, by rw [(h.2.1 q hq).2]; exact sh_in hi (SS_lt q hq)⟩, sh_cl hi (SS_lt q hq)]
theorem sh_sZ (h : Shp M) (hq : q < 83) (hc : KK q = 102) {i : Nat} (hi : i < SS q) {x : Int32} (hx : x = 0 ∨ x = 1) : op_sZ M q (nI i) x = some (mm_wI M q i x) := by
  unfold op_sZ
  rw [if_pos ⟨⟨sh_is h hq hc, by rw [(h.2.1 q hq).2]; exact sh_in hi (SS_lt q hq)⟩, hx⟩, sh_cl hi (SS_lt q hq)]
theorem sh_n (h : Shp M) (hq : q < 83) (hc : KK q = c) (h1 : 100 ≤ c) (h2 : c < 104) : op_n M c q = some (nI (SS q)) := by
  unfold op_n
  rw [if_pos ⟨sh_is h hq hc, h1, h2⟩, (h.2.1 q hq).2]
theorem mI_wI {a b : Nat} {x : Int32} : mm_I (mm_wI M q k x) a b = if a = q ∧ b = k then x else mm_I M a b := rfl
theorem mL_wI {x : Int32} : mm_L (mm_wI M q k x) = mm_L M := rfl
theorem mI_wL {x : Int64} : mm_I (mm_wL M q k x) = mm_I M := rfl
theorem mL_wL {a b : Nat} {x : Int64} : mm_L (mm_wL M q k x) a b = if a = q ∧ b = k then x else mm_L M a b := rfl
theorem mv_K : ∀ m, m < 10 → KK (7 + 5 * m) = 2 ∧ KK (8 + 5 * m) = 100 ∧ KK (9 + 5 * m) = 100 ∧ KK (10 + 5 * m) = 101 ∧ KK (11 + 5 * m) = 101 ∧ SS (8 + 5 * m) = 256 ∧ SS (9 + 5 * m) = 16 ∧ SS (10 + 5 * m) = 256 ∧ SS (11 + 5 * m) = 256 := by decide
theorem mv_R0 : ∀ m, m < 10 → (6, m, 7 + 5 * m) ∈ sh_RL := by decide
theorem mv_R1 : ∀ m, m < 10 → (7 + 5 * m, 6, 8 + 5 * m) ∈ sh_RL := by decide
theorem mv_R2 : ∀ m, m < 10 → (7 + 5 * m, 7, 9 + 5 * m) ∈ sh_RL := by decide
theorem mv_R3 : ∀ m, m < 10 → (7 + 5 * m, 8, 10 + 5 * m) ∈ sh_RL := by decide
theorem mv_R4 : ∀ m, m < 10 → (7 + 5 * m, 9, 11 + 5 * m) ∈ sh_RL := by decide
theorem mv_R : ∀ m, m < 10 → (6, m, 7 + 5 * m) ∈ sh_RL ∧ (7 + 5 * m, 6, 8 + 5 * m) ∈ sh_RL ∧ (7 + 5 * m, 7, 9 + 5 * m) ∈ sh_RL ∧ (7 + 5 * m, 8, 10 + 5 * m) ∈ sh_RL ∧ (7 + 5 * m, 9, 11 + 5 * m) ∈ sh_RL := fun m h => ⟨mv_R0 m h, mv_R1 m h, mv_R2 m h, mv_R3 m h, mv_R4 m h⟩
theorem I_0 (h : Shp M) : op_is M 0 6 = some () := sh_op h (by decide) (by decide)
theorem G_0_0 (h : Shp M) : op_gR M 6 0 0 = some 1 := sh_gR h (by decide) (by decide) (by decide)
theorem G_0_1 (h : Shp M) : op_gR M 6 0 1 = some 6 := sh_gR h (by decide) (by decide) (by decide)
theorem G_0_2 (h : Shp M) : op_gR M 6 0 2 = some 57 := sh_gR h (by decide) (by decide) (by decide)
theorem G_0_3 (h : Shp M) : op_gR M 6 0 3 = some 63 := sh_gR h (by decide) (by decide) (by decide)
theorem G_0_4 (h : Shp M) : op_gR M 6 0 4 = some 64 := sh_gR h (by decide) (by decide) (by decide)
theorem G_0_5 (h : Shp M) : op_gI M 6 0 5 = some (mm_I M 0 5) := sh_gI h (by decide) (by decide)
theorem P_0_5 (h : Shp M) {x : Int32} : op_pI M 6 0 5 x = some (mm_wI M 0 5 x) := sh_pI h (by decide) (by decide)
theorem I_1 (h : Shp M) : op_is M 1 3 = some () := sh_op h (by decide) (by decide)
theorem G_1_0 (h : Shp M) : op_gI M 3 1 0 = some (mm_I M 1 0) := sh_gI h (by decide) (by decide)
theorem P_1_0 (h : Shp M) {x : Int32} : op_pI M 3 1 0 x = some (mm_wI M 1 0 x) := sh_pI h (by decide) (by decide)
theorem G_1_1 (h : Shp M) : op_gI M 3 1 1 = some (mm_I M 1 1) := sh_gI h (by decide) (by decide)
theorem P_1_1 (h : Shp M) {x : Int32} : op_pI M 3 1 1 x = some (mm_wI M 1 1 x) := sh_pI h (by decide) (by decide)
theorem G_1_2 (h : Shp M) : op_gR M 3 1 2 = some 2 := sh_gR h (by decide) (by decide) (by decide)
theorem G_1_3 (h : Shp M) : op_gR M 3 1 3 = some 3 := sh_gR h (by decide) (by decide) (by decide)
theorem G_1_4 (h : Shp M) : op_gR M 3 1 4 = some 4 := sh_gR h (by decide) (by decide) (by decide)
theorem G_1_5 (h : Shp M) : op_gR M 3 1 5 = some 5 := sh_gR h (by decide) (by decide) (by decide)
theorem I_57 (h : Shp M) : op_is M 57 0 = some () := sh_op h (by decide) (by decide)
theorem G_57_0 (h : Shp M) : op_gR M 0 57 0 = some 1 := sh_gR h (by decide) (by decide) (by decide)
theorem G_57_1 (h : Shp M) : op_gR M 0 57 1 = some 6 := sh_gR h (by decide) (by decide) (by decide)
theorem G_57_2 (h : Shp M) : op_gR M 0 57 2 = some 58 := sh_gR h (by decide) (by decide) (by decide)
theorem G_57_3 (h : Shp M) : op_gR M 0 57 3 = some 59 := sh_gR h (by decide) (by decide) (by decide)
theorem G_57_4 (h : Shp M) : op_gR M 0 57 4 = some 60 := sh_gR h (by decide) (by decide) (by decide)
theorem G_57_5 (h : Shp M) : op_gR M 0 57 5 = some 61 := sh_gR h (by decide) (by decide) (by decide)
theorem G_57_6 (h : Shp M) : op_gR M 0 57 6 = some 62 := sh_gR h (by decide) (by decide) (by decide)
theorem G_57_7 (h : Shp M) : op_gI M 0 57 7 = some (mm_I M 57 7) := sh_gI h (by decide) (by decide)
theorem P_57_7 (h : Shp M) {x : Int32} : op_pI M 0 57 7 x = some (mm_wI M 57 7 x) := sh_pI h (by decide) (by decide)
theorem I_63 (h : Shp M) : op_is M 63 4 = some () := sh_op h (by decide) (by decide)
theorem G_63_0 (h : Shp M) : op_gR M 4 63 0 = some 1 := sh_gR h (by decide) (by decide) (by decide)
theorem G_63_1 (h : Shp M) : op_gR M 4 63 1 = some 6 := sh_gR h (by decide) (by decide) (by decide)
theorem I_64 (h : Shp M) : op_is M 64 5 = some () := sh_op h (by decide) (by decide)
theorem G_64_0 (h : Shp M) : op_gR M 5 64 0 = some 1 := sh_gR h (by decide) (by decide) (by decide)
theorem G_64_1 (h : Shp M) : op_gR M 5 64 1 = some 6 := sh_gR h (by decide) (by decide) (by decide)
theorem G_64_2 (h : Shp M) : op_gR M 5 64 2 = some 65 := sh_gR h (by decide) (by decide) (by decide)
theorem G_64_3 (h : Shp M) : op_gI M 5 64 3 = some (mm_I M 64 3) := sh_gI h (by decide) (by decide)
theorem P_64_3 (h : Shp M) {x : Int32} : op_pI M 5 64 3 x = some (mm_wI M 64 3 x) := sh_pI h (by decide) (by decide)
theorem G_64_4 (h : Shp M) : op_gI M 5 64 4 = some (mm_I M 64 4) := sh_gI h (by decide) (by decide)
theorem P_64_4 (h : Shp M) {x : Int32} : op_pI M 5 64 4 x = some (mm_wI M 64 4 x) := sh_pI h (by decide) (by decide)
theorem G_64_5 (h : Shp M) : op_gL M 5 64 5 = some (mm_L M 64 5) := sh_gL h (by decide) (by decide)
theorem P_64_5 (h : Shp M) {x : Int64} : op_pL M 5 64 5 x = some (mm_wL M 64 5 x) := sh_pL h (by decide) (by decide)
theorem I_66 (h : Shp M) : op_is M 66 7 = some () := sh_op h (by decide) (by decide)
theorem G_66_0 (h : Shp M) : op_gI M 7 66 0 = some (mm_I M 66 0) := sh_gI h (by decide) (by decide)
theorem P_66_0 (h : Shp M) {x : Int32} : op_pI M 7 66 0 x = some (mm_wI M 66 0 x) := sh_pI h (by decide) (by decide)
theorem G_66_1 (h : Shp M) : op_gR M 7 66 1 = some 67 := sh_gR h (by decide) (by decide) (by decide)
theorem G_66_2 (h : Shp M) : op_gI M 7 66 2 = some (mm_I M 66 2) := sh_gI h (by decide) (by decide)
theorem P_66_2 (h : Shp M) {x : Int32} : op_pI M 7 66 2 x = some (mm_wI M 66 2 x) := sh_pI h (by decide) (by decide)
theorem G_66_3 (h : Shp M) : op_gR M 7 66 3 = some 68 := sh_gR h (by decide) (by decide) (by decide)
theorem G_66_4 (h : Shp M) : op_gI M 7 66 4 = some (mm_I M 66 4) := sh_gI h (by decide) (by decide)
theorem P_66_4 (h : Shp M) {x : Int32} : op_pI M 7 66 4 x = some (mm_wI M 66 4 x) := sh_pI h (by decide) (by decide)
theorem G_66_5 (h : Shp M) : op_gR M 7 66 5 = some 69 := sh_gR h (by decide) (by decide) (by decide)
theorem G_66_6 (h : Shp M) : op_gR M 7 66 6 = some 70 := sh_gR h (by decide) (by decide) (by decide)
theorem G_66_7 (h : Shp M) : op_gR M 7 66 7 = some 71 := sh_gR h (by decide) (by decide) (by decide)
theorem G_66_8 (h : Shp M) : op_gR M 7 66 8 = some 72 := sh_gR h (by decide) (by decide) (by decide)
theorem G_66_9 (h : Shp M) : op_gR M 7 66 9 = some 73 := sh_gR h (by decide) (by decide) (by decide)
theorem G_66_10 (h : Shp M) : op_gR M 7 66 10 = some 74 := sh_gR h (by decide) (by decide) (by decide)
theorem G_66_11 (h : Shp M) : op_gR M 7 66 11 = some 75 := sh_gR h (by decide) (by decide) (by decide)
theorem G_66_12 (h : Shp M) : op_gR M 7 66 12 = some 76 := sh_gR h (by decide) (by decide) (by decide)
theorem G_66_13 (h : Shp M) : op_gR M 7 66 13 = some 77 := sh_gR h (by decide) (by decide) (by decide)
theorem G_66_14 (h : Shp M) : op_gR M 7 66 14 = some 78 := sh_gR h (by decide) (by decide) (by decide)
theorem G_66_15 (h : Shp M) : op_gR M 7 66 15 = some 79 := sh_gR h (by decide) (by decide) (by decide)
theorem G_66_16 (h : Shp M) : op_gR M 7 66 16 = some 80 := sh_gR h (by decide) (by decide) (by decide)
theorem G_66_17 (h : Shp M) : op_gI M 7 66 17 = some (mm_I M 66 17) := sh_gI h (by decide) (by decide)
theorem P_66_17 (h : Shp M) {x : Int32} : op_pI M 7 66 17 x = some (mm_wI M 66 17 x) := sh_pI h (by decide) (by decide)
theorem G_66_18 (h : Shp M) : op_gR M 7 66 18 = some 81 := sh_gR h (by decide) (by decide) (by decide)
theorem G_66_19 (h : Shp M) : op_gI M 7 66 19 = some (mm_I M 66 19) := sh_gI h (by decide) (by decide)
theorem P_66_19 (h : Shp M) {x : Int32} : op_pI M 7 66 19 x = some (mm_wI M 66 19 x) := sh_pI h (by decide) (by decide)
theorem G_66_20 (h : Shp M) : op_gL M 7 66 20 = some (mm_L M 66 20) := sh_gL h (by decide) (by decide)
theorem P_66_20 (h : Shp M) {x : Int64} : op_pL M 7 66 20 x = some (mm_wL M 66 20 x) := sh_pL h (by decide) (by decide)
theorem G_66_21 (h : Shp M) : op_gL M 7 66 21 = some (mm_L M 66 21) := sh_gL h (by decide) (by decide)
theorem P_66_21 (h : Shp M) {x : Int64} : op_pL M 7 66 21 x = some (mm_wL M 66 21 x) := sh_pL h (by decide) (by decide)
theorem G_66_22 (h : Shp M) : op_gL M 7 66 22 = some (mm_L M 66 22) := sh_gL h (by decide) (by decide)
theorem P_66_22 (h : Shp M) {x : Int64} : op_pL M 7 66 22 x = some (mm_wL M 66 22 x) := sh_pL h (by decide) (by decide)
theorem G_66_23 (h : Shp M) : op_gR M 7 66 23 = some 82 := sh_gR h (by decide) (by decide) (by decide)
theorem I_58 (h : Shp M) : op_is M 58 1 = some () := sh_op h (by decide) (by decide)
theorem G_58_0 (h : Shp M) : op_gL M 1 58 0 = some (mm_L M 58 0) := sh_gL h (by decide) (by decide)
theorem P_58_0 (h : Shp M) {x : Int64} : op_pL M 1 58 0 x = some (mm_wL M 58 0 x) := sh_pL h (by decide) (by decide)
theorem G_58_1 (h : Shp M) : op_gL M 1 58 1 = some (mm_L M 58 1) := sh_gL h (by decide) (by decide)
theorem P_58_1 (h : Shp M) {x : Int64} : op_pL M 1 58 1 x = some (mm_wL M 58 1 x) := sh_pL h (by decide) (by decide)
theorem G_58_2 (h : Shp M) : op_gI M 1 58 2 = some (mm_I M 58 2) := sh_gI h (by decide) (by decide)
theorem P_58_2 (h : Shp M) {x : Int32} (hx : x = 0 ∨ x = 1) : op_pZ M 1 58 2 x = some (mm_wI M 58 2 x) := sh_pZ h (by decide) (by decide) hx
theorem I_59 (h : Shp M) : op_is M 59 1 = some () := sh_op h (by decide) (by decide)
theorem G_59_0 (h : Shp M) : op_gL M 1 59 0 = some (mm_L M 59 0) := sh_gL h (by decide) (by decide)
theorem P_59_0 (h : Shp M) {x : Int64} : op_pL M 1 59 0 x = some (mm_wL M 59 0 x) := sh_pL h (by decide) (by decide)
theorem G_59_1 (h : Shp M) : op_gL M 1 59 1 = some (mm_L M 59 1) := sh_gL h (by decide) (by decide)
theorem P_59_1 (h : Shp M) {x : Int64} : op_pL M 1 59 1 x = some (mm_wL M 59 1 x) := sh_pL h (by decide) (by decide)
theorem G_59_2 (h : Shp M) : op_gI M 1 59 2 = some (mm_I M 59 2) := sh_gI h (by decide) (by decide)
theorem P_59_2 (h : Shp M) {x : Int32} (hx : x = 0 ∨ x = 1) : op_pZ M 1 59 2 x = some (mm_wI M 59 2 x) := sh_pZ h (by decide) (by decide) hx
theorem I_60 (h : Shp M) : op_is M 60 1 = some () := sh_op h (by decide) (by decide)
theorem G_60_0 (h : Shp M) : op_gL M 1 60 0 = some (mm_L M 60 0) := sh_gL h (by decide) (by decide)
theorem P_60_0 (h : Shp M) {x : Int64} : op_pL M 1 60 0 x = some (mm_wL M 60 0 x) := sh_pL h (by decide) (by decide)
theorem G_60_1 (h : Shp M) : op_gL M 1 60 1 = some (mm_L M 60 1) := sh_gL h (by decide) (by decide)
theorem P_60_1 (h : Shp M) {x : Int64} : op_pL M 1 60 1 x = some (mm_wL M 60 1 x) := sh_pL h (by decide) (by decide)
theorem G_60_2 (h : Shp M) : op_gI M 1 60 2 = some (mm_I M 60 2) := sh_gI h (by decide) (by decide)
theorem P_60_2 (h : Shp M) {x : Int32} (hx : x = 0 ∨ x = 1) : op_pZ M 1 60 2 x = some (mm_wI M 60 2 x) := sh_pZ h (by decide) (by decide) hx
theorem I_61 (h : Shp M) : op_is M 61 1 = some () := sh_op h (by decide) (by decide)
theorem G_61_0 (h : Shp M) : op_gL M 1 61 0 = some (mm_L M 61 0) := sh_gL h (by decide) (by decide)
theorem P_61_0 (h : Shp M) {x : Int64} : op_pL M 1 61 0 x = some (mm_wL M 61 0 x) := sh_pL h (by decide) (by decide)
theorem G_61_1 (h : Shp M) : op_gL M 1 61 1 = some (mm_L M 61 1) := sh_gL h (by decide) (by decide)
theorem P_61_1 (h : Shp M) {x : Int64} : op_pL M 1 61 1 x = some (mm_wL M 61 1 x) := sh_pL h (by decide) (by decide)
theorem G_61_2 (h : Shp M) : op_gI M 1 61 2 = some (mm_I M 61 2) := sh_gI h (by decide) (by decide)
theorem P_61_2 (h : Shp M) {x : Int32} (hx : x = 0 ∨ x = 1) : op_pZ M 1 61 2 x = some (mm_wI M 61 2 x) := sh_pZ h (by decide) (by decide) hx
theorem I_62 (h : Shp M) : op_is M 62 1 = some () := sh_op h (by decide) (by decide)
theorem G_62_0 (h : Shp M) : op_gL M 1 62 0 = some (mm_L M 62 0) := sh_gL h (by decide) (by decide)
theorem P_62_0 (h : Shp M) {x : Int64} : op_pL M 1 62 0 x = some (mm_wL M 62 0 x) := sh_pL h (by decide) (by decide)
theorem G_62_1 (h : Shp M) : op_gL M 1 62 1 = some (mm_L M 62 1) := sh_gL h (by decide) (by decide)
theorem P_62_1 (h : Shp M) {x : Int64} : op_pL M 1 62 1 x = some (mm_wL M 62 1 x) := sh_pL h (by decide) (by decide)
theorem G_62_2 (h : Shp M) : op_gI M 1 62 2 = some (mm_I M 62 2) := sh_gI h (by decide) (by decide)
theorem P_62_2 (h : Shp M) {x : Int32} (hx : x = 0 ∨ x = 1) : op_pZ M 1 62 2 x = some (mm_wI M 62 2 x) := sh_pZ h (by decide) (by decide) hx
theorem A_2 (h : Shp M) {i : Nat} (hi : i < 4) : op_aI M 2 (nI i) = some (mm_I M 2 i) := sh_aI h (by decide) (by decide) hi
theorem S_2 (h : Shp M) {i : Nat} (hi : i < 4) {x : Int32} : op_sI M 2 (nI i) x = some (mm_wI M 2 i x) := sh_sI h (by decide) (by decide) hi
theorem A_3 (h : Shp M) {i : Nat} (hi : i < 4) : op_aI M 3 (nI i) = some (mm_I M 3 i) := sh_aI h (by decide) (by decide) hi
theorem S_3 (h : Shp M) {i : Nat} (hi : i < 4) {x : Int32} : op_sI M 3 (nI i) x = some (mm_wI M 3 i x) := sh_sI h (by decide) (by decide) hi
theorem A_4 (h : Shp M) {i : Nat} (hi : i < 64) : op_aI M 4 (nI i) = some (mm_I M 4 i) := sh_aI h (by decide) (by decide) hi
theorem S_4 (h : Shp M) {i : Nat} (hi : i < 64) {x : Int32} : op_sI M 4 (nI i) x = some (mm_wI M 4 i x) := sh_sI h (by decide) (by decide) hi
theorem A_5 (h : Shp M) {i : Nat} (hi : i < 16) : op_aI M 5 (nI i) = some (mm_I M 5 i) := sh_aI h (by decide) (by decide) hi
theorem S_5 (h : Shp M) {i : Nat} (hi : i < 16) {x : Int32} : op_sI M 5 (nI i) x = some (mm_wI M 5 i x) := sh_sI h (by decide) (by decide) hi
theorem A_65 (h : Shp M) {i : Nat} (hi : i < 201) : op_aI M 65 (nI i) = some (mm_I M 65 i) := sh_aI h (by decide) (by decide) hi
theorem S_65 (h : Shp M) {i : Nat} (hi : i < 201) {x : Int32} : op_sI M 65 (nI i) x = some (mm_wI M 65 i x) := sh_sI h (by decide) (by decide) hi
theorem A_67 (h : Shp M) {i : Nat} (hi : i < 4) : op_aI M 67 (nI i) = some (mm_I M 67 i) := sh_aI h (by decide) (by decide) hi
theorem S_67 (h : Shp M) {i : Nat} (hi : i < 4) {x : Int32} : op_sI M 67 (nI i) x = some (mm_wI M 67 i x) := sh_sI h (by decide) (by decide) hi
theorem A_68 (h : Shp M) {i : Nat} (hi : i < 16) : op_aI M 68 (nI i) = some (mm_I M 68 i) := sh_aI h (by decide) (by decide) hi
theorem S_68 (h : Shp M) {i : Nat} (hi : i < 16) {x : Int32} : op_sI M 68 (nI i) x = some (mm_wI M 68 i x) := sh_sI h (by decide) (by decide) hi
theorem A_69 (h : Shp M) {i : Nat} (hi : i < 10) : op_aI M 69 (nI i) = some (mm_I M 69 i) := sh_aI h (by decide) (by decide) hi
theorem S_69 (h : Shp M) {i : Nat} (hi : i < 10) {x : Int32} : op_sI M 69 (nI i) x = some (mm_wI M 69 i x) := sh_sI h (by decide) (by decide) hi
theorem A_70 (h : Shp M) {i : Nat} (hi : i < 10) : op_aI M 70 (nI i) = some (mm_I M 70 i) := sh_aI h (by decide) (by decide) hi
theorem S_70 (h : Shp M) {i : Nat} (hi : i < 10) {x : Int32} : op_sI M 70 (nI i) x = some (mm_wI M 70 i x) := sh_sI h (by decide) (by decide) hi
theorem A_71 (h : Shp M) {i : Nat} (hi : i < 10) : op_aI M 71 (nI i) = some (mm_I M 71 i) := sh_aI h (by decide) (by decide) hi
theorem S_71 (h : Shp M) {i : Nat} (hi : i < 10) {x : Int32} : op_sI M 71 (nI i) x = some (mm_wI M 71 i x) := sh_sI h (by decide) (by decide) hi
theorem A_72 (h : Shp M) {i : Nat} (hi : i < 10) : op_aI M 72 (nI i) = some (mm_I M 72 i) := sh_aI h (by decide) (by decide) hi
theorem S_72 (h : Shp M) {i : Nat} (hi : i < 10) {x : Int32} : op_sI M 72 (nI i) x = some (mm_wI M 72 i x) := sh_sI h (by decide) (by decide) hi
theorem A_73 (h : Shp M) {i : Nat} (hi : i < 10) : op_aI M 73 (nI i) = some (mm_I M 73 i) := sh_aI h (by decide) (by decide) hi
theorem S_73 (h : Shp M) {i : Nat} (hi : i < 10) {x : Int32} : op_sI M 73 (nI i) x = some (mm_wI M 73 i x) := sh_sI h (by decide) (by decide) hi
theorem A_74 (h : Shp M) {i : Nat} (hi : i < 10) : op_aI M 74 (nI i) = some (mm_I M 74 i) := sh_aI h (by decide) (by decide) hi
theorem S_74 (h : Shp M) {i : Nat} (hi : i < 10) {x : Int32} : op_sI M 74 (nI i) x = some (mm_wI M 74 i x) := sh_sI h (by decide) (by decide) hi
theorem A_75 (h : Shp M) {i : Nat} (hi : i < 2560) : op_aI M 75 (nI i) = some (mm_I M 75 i) := sh_aI h (by decide) (by decide) hi
theorem S_75 (h : Shp M) {i : Nat} (hi : i < 2560) {x : Int32} : op_sI M 75 (nI i) x = some (mm_wI M 75 i x) := sh_sI h (by decide) (by decide) hi
theorem A_76 (h : Shp M) {i : Nat} (hi : i < 2560) : op_aL M 76 (nI i) = some (mm_L M 76 i) := sh_aL h (by decide) (by decide) hi
theorem S_76 (h : Shp M) {i : Nat} (hi : i < 2560) {x : Int64} : op_sL M 76 (nI i) x = some (mm_wL M 76 i x) := sh_sL h (by decide) (by decide) hi
theorem A_77 (h : Shp M) {i : Nat} (hi : i < 2560) : op_aL M 77 (nI i) = some (mm_L M 77 i) := sh_aL h (by decide) (by decide) hi
theorem S_77 (h : Shp M) {i : Nat} (hi : i < 2560) {x : Int64} : op_sL M 77 (nI i) x = some (mm_wL M 77 i x) := sh_sL h (by decide) (by decide) hi
theorem A_78 (h : Shp M) {i : Nat} (hi : i < 10) : op_aZ M 78 (nI i) = some (mm_I M 78 i) := sh_aZ h (by decide) (by decide) hi
theorem S_78 (h : Shp M) {i : Nat} (hi : i < 10) {x : Int32} (hx : x = 0 ∨ x = 1) : op_sZ M 78 (nI i) x = some (mm_wI M 78 i x) := sh_sZ h (by decide) (by decide) hi hx
theorem A_79 (h : Shp M) {i : Nat} (hi : i < 2560) : op_aZ M 79 (nI i) = some (mm_I M 79 i) := sh_aZ h (by decide) (by decide) hi
theorem S_79 (h : Shp M) {i : Nat} (hi : i < 2560) {x : Int32} (hx : x = 0 ∨ x = 1) : op_sZ M 79 (nI i) x = some (mm_wI M 79 i x) := sh_sZ h (by decide) (by decide) hi hx
theorem A_80 (h : Shp M) {i : Nat} (hi : i < 10) : op_aZ M 80 (nI i) = some (mm_I M 80 i) := sh_aZ h (by decide) (by decide) hi
theorem S_80 (h : Shp M) {i : Nat} (hi : i < 10) {x : Int32} (hx : x = 0 ∨ x = 1) : op_sZ M 80 (nI i) x = some (mm_wI M 80 i x) := sh_sZ h (by decide) (by decide) hi hx
theorem A_81 (h : Shp M) {i : Nat} (hi : i < 201) : op_aI M 81 (nI i) = some (mm_I M 81 i) := sh_aI h (by decide) (by decide) hi
theorem S_81 (h : Shp M) {i : Nat} (hi : i < 201) {x : Int32} : op_sI M 81 (nI i) x = some (mm_wI M 81 i x) := sh_sI h (by decide) (by decide) hi
theorem A_82 (h : Shp M) {i : Nat} (hi : i < 8) : op_aI M 82 (nI i) = some (mm_I M 82 i) := sh_aI h (by decide) (by decide) hi
theorem S_82 (h : Shp M) {i : Nat} (hi : i < 8) {x : Int32} : op_sI M 82 (nI i) x = some (mm_wI M 82 i x) := sh_sI h (by decide) (by decide) hi
theorem A_6 (h : Shp M) {i : Nat} (hi : i < 10) : op_aR M 6 (nI i) = some (7 + 5 * i) := sh_aR h (by decide) (by decide) hi (mv_R i hi).1
theorem I_m (h : Shp M) {m : Nat} (hm : m < 10) : op_is M (7 + 5 * m) 2 = some () := sh_op h (by omega) (mv_K m hm).1
theorem G_m_0 (h : Shp M) {m : Nat} (hm : m < 10) : op_gI M 2 (7 + 5 * m) 0 = some (mm_I M (7 + 5 * m) 0) := sh_gI h (by omega) (mv_K m hm).1
theorem P_m_0 (h : Shp M) {m : Nat} (hm : m < 10) {x : Int32} : op_pI M 2 (7 + 5 * m) 0 x = some (mm_wI M (7 + 5 * m) 0 x) := sh_pI h (by omega) (mv_K m hm).1
theorem G_m_1 (h : Shp M) {m : Nat} (hm : m < 10) : op_gI M 2 (7 + 5 * m) 1 = some (mm_I M (7 + 5 * m) 1) := sh_gI h (by omega) (mv_K m hm).1
theorem P_m_1 (h : Shp M) {m : Nat} (hm : m < 10) {x : Int32} : op_pI M 2 (7 + 5 * m) 1 x = some (mm_wI M (7 + 5 * m) 1 x) := sh_pI h (by omega) (mv_K m hm).1
theorem G_m_2 (h : Shp M) {m : Nat} (hm : m < 10) : op_gI M 2 (7 + 5 * m) 2 = some (mm_I M (7 + 5 * m) 2) := sh_gI h (by omega) (mv_K m hm).1
theorem P_m_2 (h : Shp M) {m : Nat} (hm : m < 10) {x : Int32} : op_pI M 2 (7 + 5 * m) 2 x = some (mm_wI M (7 + 5 * m) 2 x) := sh_pI h (by omega) (mv_K m hm).1
theorem G_m_3 (h : Shp M) {m : Nat} (hm : m < 10) : op_gI M 2 (7 + 5 * m) 3 = some (mm_I M (7 + 5 * m) 3) := sh_gI h (by omega) (mv_K m hm).1
theorem P_m_3 (h : Shp M) {m : Nat} (hm : m < 10) {x : Int32} : op_pI M 2 (7 + 5 * m) 3 x = some (mm_wI M (7 + 5 * m) 3 x) := sh_pI h (by omega) (mv_K m hm).1
theorem G_m_4 (h : Shp M) {m : Nat} (hm : m < 10) : op_gI M 2 (7 + 5 * m) 4 = some (mm_I M (7 + 5 * m) 4) := sh_gI h (by omega) (mv_K m hm).1
theorem P_m_4 (h : Shp M) {m : Nat} (hm : m < 10) {x : Int32} : op_pI M 2 (7 + 5 * m) 4 x = some (mm_wI M (7 + 5 * m) 4 x) := sh_pI h (by omega) (mv_K m hm).1
theorem G_m_5 (h : Shp M) {m : Nat} (hm : m < 10) : op_gI M 2 (7 + 5 * m) 5 = some (mm_I M (7 + 5 * m) 5) := sh_gI h (by omega) (mv_K m hm).1
theorem P_m_5 (h : Shp M) {m : Nat} (hm : m < 10) {x : Int32} : op_pI M 2 (7 + 5 * m) 5 x = some (mm_wI M (7 + 5 * m) 5 x) := sh_pI h (by omega) (mv_K m hm).1
theorem G_m_6 (h : Shp M) {m : Nat} (hm : m < 10) : op_gR M 2 (7 + 5 * m) 6 = some (8 + 5 * m) := sh_gR h (by omega) (mv_K m hm).1 (mv_R m hm).2.1
theorem G_m_7 (h : Shp M) {m : Nat} (hm : m < 10) : op_gR M 2 (7 + 5 * m) 7 = some (9 + 5 * m) := sh_gR h (by omega) (mv_K m hm).1 (mv_R m hm).2.2.1
theorem G_m_8 (h : Shp M) {m : Nat} (hm : m < 10) : op_gR M 2 (7 + 5 * m) 8 = some (10 + 5 * m) := sh_gR h (by omega) (mv_K m hm).1 (mv_R m hm).2.2.2.1
theorem G_m_9 (h : Shp M) {m : Nat} (hm : m < 10) : op_gR M 2 (7 + 5 * m) 9 = some (11 + 5 * m) := sh_gR h (by omega) (mv_K m hm).1 (mv_R m hm).2.2.2.2
theorem G_m_10 (h : Shp M) {m : Nat} (hm : m < 10) : op_gI M 2 (7 + 5 * m) 10 = some (mm_I M (7 + 5 * m) 10) := sh_gI h (by omega) (mv_K m hm).1
theorem P_m_10 (h : Shp M) {m : Nat} (hm : m < 10) {x : Int32} : op_pI M 2 (7 + 5 * m) 10 x = some (mm_wI M (7 + 5 * m) 10 x) := sh_pI h (by omega) (mv_K m hm).1
theorem A_m_0 (h : Shp M) {m i : Nat} (hm : m < 10) (hi : i < 256) : op_aI M (8 + 5 * m) (nI i) = some (mm_I M (8 + 5 * m) i) := sh_aI h (by omega) (mv_K m hm).2.1 (by rw [(mv_K m hm).2.2.2.2.2.1]; exact hi)
theorem S_m_0 (h : Shp M) {m i : Nat} (hm : m < 10) (hi : i < 256) {x : Int32} : op_sI M (8 + 5 * m) (nI i) x = some (mm_wI M (8 + 5 * m) i x) := sh_sI h (by omega) (mv_K m hm).2.1 (by rw [(mv_K m hm).2.2.2.2.2.1]; exact hi)
theorem A_m_1 (h : Shp M) {m i : Nat} (hm : m < 10) (hi : i < 16) : op_aI M (9 + 5 * m) (nI i) = some (mm_I M (9 + 5 * m) i) := sh_aI h (by omega) (mv_K m hm).2.2.1 (by rw [(mv_K m hm).2.2.2.2.2.2.1]; exact hi)
theorem S_m_1 (h : Shp M) {m i : Nat} (hm : m < 10) (hi : i < 16) {x : Int32} : op_sI M (9 + 5 * m) (nI i) x = some (mm_wI M (9 + 5 * m) i x) := sh_sI h (by omega) (mv_K m hm).2.2.1 (by rw [(mv_K m hm).2.2.2.2.2.2.1]; exact hi)
theorem A_m_2 (h : Shp M) {m i : Nat} (hm : m < 10) (hi : i < 256) : op_aL M (10 + 5 * m) (nI i) = some (mm_L M (10 + 5 * m) i) := sh_aL h (by omega) (mv_K m hm).2.2.2.1 (by rw [(mv_K m hm).2.2.2.2.2.2.2.1]; exact hi)
theorem S_m_2 (h : Shp M) {m i : Nat} (hm : m < 10) (hi : i < 256) {x : Int64} : op_sL M (10 + 5 * m) (nI i) x = some (mm_wL M (10 + 5 * m) i x) := sh_sL h (by omega) (mv_K m hm).2.2.2.1 (by rw [(mv_K m hm).2.2.2.2.2.2.2.1]; exact hi)
theorem A_m_3 (h : Shp M) {m i : Nat} (hm : m < 10) (hi : i < 256) : op_aL M (11 + 5 * m) (nI i) = some (mm_L M (11 + 5 * m) i) := sh_aL h (by omega) (mv_K m hm).2.2.2.2.1 (by rw [(mv_K m hm).2.2.2.2.2.2.2.2]; exact hi)
theorem S_m_3 (h : Shp M) {m i : Nat} (hm : m < 10) (hi : i < 256) {x : Int64} : op_sL M (11 + 5 * m) (nI i) x = some (mm_wL M (11 + 5 * m) i x) := sh_sL h (by omega) (mv_K m hm).2.2.2.2.1 (by rw [(mv_K m hm).2.2.2.2.2.2.2.2]; exact hi)
end
