section
variable {p : Program} {l : Launch} {e : Env} {s : State} {m : MethodId} {below : List Frame} {meth : Method} {c : Code} {H : Heap} {locs : List Loc} {cells slots : Nat} {Q : State → Prop} {ls : Array Slot} {D : va_G} {cA : Nat → ClassId} {ad : Nat → Nat} {M : Mm} {b L i cg : Nat} {xs : Nat → Int32}
theorem lw_in {k : Nat} {v : Int32} (hv : v = nI k) (hi : i + k < L) (hL : L ≤ 3072) : vp_in (nI i + v) L := by
  rw [hv, nI_add]
  exact vp_in_nI hi (by omega)
set_option maxHeartbeats 4000000 in
set_option maxRecDepth 100000 in
theorem lw_k0 (hZ : Zs p c code s m #[Value.ref b] R_law 4 D cA (fun q => s.heap.size ≤ q)) (hX : va_X b L xs s s.heap) (hbl : b < s.heap.size) (hE : En D cA ad s (fun q => s.heap.size ≤ q) M H locs) (I : Inv cg M) (hcg : cg + 1 < 2 ^ 30) (hi : i + 5 < L) (hL : L ≤ 3072) (hcl : cells ≤ room_1.cells) (hsl : slots ≤ room_1.slots) (hl : lv_has ls 4 [(3, .int (nI i)), (2, .ref (ad 66)), (1, .ref (ad 0)), (0, .ref b)]) (kk : ∀ (cg1 : Nat) (M1 : Mm) (H1 : Heap) (locs1 : List Loc), cg1 ≤ cg + 1 → Inv cg1 M1 → En D cA ad s (fun q => s.heap.size ≤ q) M1 H1 locs1 → W p l e room_1 s m #[Value.ref b] below meth c H1 locs1 cells slots Q (F0 m 759 ls [])) : W p l e room_1 s m #[Value.ref b] below meth c H locs cells slots Q (F0 m 116 ls []) := by
  obtain ⟨hx, hb, hml, hown, hts, hnw, hK, hA⟩ := id hZ
  have hbA : ¬ (fun q : Nat => s.heap.size ≤ q) b := Nat.not_le.mpr hbl
  have hSh := I.1
  obtain ⟨A, M1, M2, cg1, g1, hS1, g2, g3, g4, g5, g6⟩ := s_model (a := xs ((nI i + (1 : Int32))).toNatClampNeg) (b := xs ((nI i + (2 : Int32))).toNatClampNeg) (c := xs ((nI i + (3 : Int32))).toNatClampNeg) (d := xs ((nI i + (4 : Int32))).toNatClampNeg) I hcg
  refine lv_aload_n hx hb dL_law_116 rfl (lv_at hl 2 rfl) ?_
  refine lv_aload_n hx hb dL_law_117 rfl (lv_at hl 3 rfl) ?_
  refine lv_iload_n hx hb dL_law_118 rfl (lv_at hl 0 rfl) ?_
  refine lv_iconst (v := 1) hx hb dL_law_119 (by decide) ?_
  refine lv_iadd hx hb dL_law_120 ?_
  refine va_sld hx hb hX hbl hbA hE.2.2 (lw_in (k := 1) (v := 1) rfl (by omega) hL) dL_law_121 ?_
  refine lv_aload_n hx hb dL_law_122 rfl (lv_at hl 3 rfl) ?_
  refine lv_iload_n hx hb dL_law_123 rfl (lv_at hl 0 rfl) ?_
  refine lv_iconst (v := 2) hx hb dL_law_124 (by decide) ?_
  refine lv_iadd hx hb dL_law_125 ?_
  refine va_sld hx hb hX hbl hbA hE.2.2 (lw_in (k := 2) (v := 2) rfl (by omega) hL) dL_law_126 ?_
  refine lv_aload_n hx hb dL_law_127 rfl (lv_at hl 3 rfl) ?_
  refine lv_iload_n hx hb dL_law_128 rfl (lv_at hl 0 rfl) ?_
  refine lv_iconst (v := 3) hx hb dL_law_129 (by decide) ?_
  refine lv_iadd hx hb dL_law_130 ?_
  refine va_sld hx hb hX hbl hbA hE.2.2 (lw_in (k := 3) (v := 3) rfl (by omega) hL) dL_law_131 ?_
  refine lv_aload_n hx hb dL_law_132 rfl (lv_at hl 3 rfl) ?_
  refine lv_iload_n hx hb dL_law_133 rfl (lv_at hl 0 rfl) ?_
  refine lv_iconst (v := 4) hx hb dL_law_134 (by decide) ?_
  refine lv_iadd hx hb dL_law_135 ?_
  refine va_sld hx hb hX hbl hbA hE.2.2 (lw_in (k := 4) (v := 4) rfl (by omega) hL) dL_law_136 ?_
  refine xx_cVi (n := 4) hZ hE (As := [.int (xs ((nI i + (1 : Int32))).toNatClampNeg), .int (xs ((nI i + (2 : Int32))).toNatClampNeg), .int (xs ((nI i + (3 : Int32))).toNatClampNeg), .int (xs ((nI i + (4 : Int32))).toNatClampNeg)]) (rest := []) k_X6 (sh_is hSh (by decide) (by decide)) tl_0 tl_1 (c_X6_model l D cA ad 0 (xs ((nI i + (1 : Int32))).toNatClampNeg) (xs ((nI i + (2 : Int32))).toNatClampNeg) (xs ((nI i + (3 : Int32))).toNatClampNeg) (xs ((nI i + (4 : Int32))).toNatClampNeg) M (A, M1) g1) ⟨tl_2, tl_3, by decide +kernel, by decide +kernel, by decide +kernel⟩ tl_4 ⟨rfl, rfl⟩ ⟨(Nat.le_of_ble_eq_true rfl), (Nat.le_of_ble_eq_true rfl)⟩ rfl hl.1 rfl (Nat.le_of_ble_eq_true rfl) ⟨Nat.le_trans (Nat.le_of_eq (Nat.add_zero _)) hcl, Nat.le_trans (Nat.le_of_eq (Nat.add_zero _)) hsl⟩ dL_law_137 (fun H locs hE => ?_)
  refine lv_aload_n hx hb dL_law_140 rfl (lv_at hl 1 rfl) ?_
  refine lv_aload_n hx hb dL_law_141 rfl (lv_at hl 3 rfl) ?_
  refine lv_iload_n hx hb dL_law_142 rfl (lv_at hl 0 rfl) ?_
  refine lv_iconst (v := 1) hx hb dL_law_143 (by decide) ?_
  refine lv_iadd hx hb dL_law_144 ?_
  refine va_sld hx hb hX hbl hbA hE.2.2 (lw_in (k := 1) (v := 1) rfl (by omega) hL) dL_law_145 ?_
  refine lv_aload_n hx hb dL_law_146 rfl (lv_at hl 3 rfl) ?_
  refine lv_iload_n hx hb dL_law_147 rfl (lv_at hl 0 rfl) ?_
  refine lv_iconst (v := 2) hx hb dL_law_148 (by decide) ?_
  refine lv_iadd hx hb dL_law_149 ?_
  refine va_sld hx hb hX hbl hbA hE.2.2 (lw_in (k := 2) (v := 2) rfl (by omega) hL) dL_law_150 ?_
  refine lv_aload_n hx hb dL_law_151 rfl (lv_at hl 3 rfl) ?_
  refine lv_iload_n hx hb dL_law_152 rfl (lv_at hl 0 rfl) ?_
  refine lv_iconst (v := 3) hx hb dL_law_153 (by decide) ?_
  refine lv_iadd hx hb dL_law_154 ?_
  refine va_sld hx hb hX hbl hbA hE.2.2 (lw_in (k := 3) (v := 3) rfl (by omega) hL) dL_law_155 ?_
  refine lv_aload_n hx hb dL_law_156 rfl (lv_at hl 3 rfl) ?_
  refine lv_iload_n hx hb dL_law_157 rfl (lv_at hl 0 rfl) ?_
  refine lv_iconst (v := 4) hx hb dL_law_158 (by decide) ?_
  refine lv_iadd hx hb dL_law_159 ?_
  refine va_sld hx hb hX hbl hbA hE.2.2 (lw_in (k := 4) (v := 4) rfl (by omega) hL) dL_law_160 ?_
  refine xx_cVi (n := 4) hZ hE (As := [.int (xs ((nI i + (1 : Int32))).toNatClampNeg), .int (xs ((nI i + (2 : Int32))).toNatClampNeg), .int (xs ((nI i + (3 : Int32))).toNatClampNeg), .int (xs ((nI i + (4 : Int32))).toNatClampNeg)]) (rest := [.int (A)]) k_X7 (sh_is hS1 (by decide) (by decide)) tl_5 tl_6 (c_X7_model l D cA ad 66 (xs ((nI i + (1 : Int32))).toNatClampNeg) (xs ((nI i + (2 : Int32))).toNatClampNeg) (xs ((nI i + (3 : Int32))).toNatClampNeg) (xs ((nI i + (4 : Int32))).toNatClampNeg) M1 (A, M2) g2) ⟨tl_7, tl_8, by decide +kernel, by decide +kernel, by decide +kernel⟩ tl_9 ⟨rfl, rfl⟩ ⟨(Nat.le_of_ble_eq_true rfl), (Nat.le_of_ble_eq_true rfl)⟩ rfl hl.1 rfl (Nat.le_of_ble_eq_true rfl) ⟨Nat.le_trans (Nat.le_of_eq (Nat.add_zero _)) hcl, Nat.le_trans (Nat.le_of_eq (Nat.add_zero _)) hsl⟩ dL_law_161 (fun H locs hE => ?_)
  refine lv_icmp_eq (tgt := 759) hx hb dL_law_164 (by decide) (fun hc => ?_) (fun hc => absurd rfl hc)
  exact kk cg1 M2 H locs g5 ⟨g3, g6⟩ hE
set_option maxHeartbeats 4000000 in
set_option maxRecDepth 100000 in
theorem lw_k1 (hZ : Zs p c code s m #[Value.ref b] R_law 4 D cA (fun q => s.heap.size ≤ q)) (hX : va_X b L xs s s.heap) (hbl : b < s.heap.size) (hE : En D cA ad s (fun q => s.heap.size ≤ q) M H locs) (I : Inv cg M) (hcg : cg + 1 < 2 ^ 30) (hi : i + 5 < L) (hL : L ≤ 3072) (hcl : cells ≤ room_1.cells) (hsl : slots ≤ room_1.slots) (hl : lv_has ls 4 [(3, .int (nI i)), (2, .ref (ad 66)), (1, .ref (ad 0)), (0, .ref b)]) (kk : ∀ (cg1 : Nat) (M1 : Mm) (H1 : Heap) (locs1 : List Loc), cg1 ≤ cg + 1 → Inv cg1 M1 → En D cA ad s (fun q => s.heap.size ≤ q) M1 H1 locs1 → W p l e room_1 s m #[Value.ref b] below meth c H1 locs1 cells slots Q (F0 m 759 ls [])) : W p l e room_1 s m #[Value.ref b] below meth c H locs cells slots Q (F0 m 169 ls []) := by
  obtain ⟨hx, hb, hml, hown, hts, hnw, hK, hA⟩ := id hZ
  have hbA : ¬ (fun q : Nat => s.heap.size ≤ q) b := Nat.not_le.mpr hbl
  have hSh := I.1
  obtain ⟨A, M1, M2, cg1, g1, hS1, g2, g3, g4, g5, g6⟩ := s_weight (a := xs ((nI i + (1 : Int32))).toNatClampNeg) (b := xs ((nI i + (2 : Int32))).toNatClampNeg) I hcg
  refine lv_aload_n hx hb dL_law_169 rfl (lv_at hl 2 rfl) ?_
  refine lv_aload_n hx hb dL_law_170 rfl (lv_at hl 3 rfl) ?_
  refine lv_iload_n hx hb dL_law_171 rfl (lv_at hl 0 rfl) ?_
  refine lv_iconst (v := 1) hx hb dL_law_172 (by decide) ?_
  refine lv_iadd hx hb dL_law_173 ?_
  refine va_sld hx hb hX hbl hbA hE.2.2 (lw_in (k := 1) (v := 1) rfl (by omega) hL) dL_law_174 ?_
  refine lv_aload_n hx hb dL_law_175 rfl (lv_at hl 3 rfl) ?_
  refine lv_iload_n hx hb dL_law_176 rfl (lv_at hl 0 rfl) ?_
  refine lv_iconst (v := 2) hx hb dL_law_177 (by decide) ?_
  refine lv_iadd hx hb dL_law_178 ?_
  refine va_sld hx hb hX hbl hbA hE.2.2 (lw_in (k := 2) (v := 2) rfl (by omega) hL) dL_law_179 ?_
  refine xx_cVi (n := 2) hZ hE (As := [.int (xs ((nI i + (1 : Int32))).toNatClampNeg), .int (xs ((nI i + (2 : Int32))).toNatClampNeg)]) (rest := []) k_X6 (sh_is hSh (by decide) (by decide)) tl_10 tl_11 (c_X6_weight l D cA ad 0 (xs ((nI i + (1 : Int32))).toNatClampNeg) (xs ((nI i + (2 : Int32))).toNatClampNeg) M (A, M1) g1) ⟨tl_12, tl_3, by decide +kernel, by decide +kernel, by decide +kernel⟩ tl_13 ⟨rfl, rfl⟩ ⟨(Nat.le_of_ble_eq_true rfl), (Nat.le_of_ble_eq_true rfl)⟩ rfl hl.1 rfl (Nat.le_of_ble_eq_true rfl) ⟨Nat.le_trans (Nat.le_of_eq (Nat.add_zero _)) hcl, Nat.le_trans (Nat.le_of_eq (Nat.add_zero _)) hsl⟩ dL_law_180 (fun H locs hE => ?_)
  refine lv_aload_n hx hb dL_law_183 rfl (lv_at hl 1 rfl) ?_
  refine lv_aload_n hx hb dL_law_184 rfl (lv_at hl 3 rfl) ?_
  refine lv_iload_n hx hb dL_law_185 rfl (lv_at hl 0 rfl) ?_
  refine lv_iconst (v := 1) hx hb dL_law_186 (by decide) ?_
  refine lv_iadd hx hb dL_law_187 ?_
  refine va_sld hx hb hX hbl hbA hE.2.2 (lw_in (k := 1) (v := 1) rfl (by omega) hL) dL_law_188 ?_
  refine lv_aload_n hx hb dL_law_189 rfl (lv_at hl 3 rfl) ?_
  refine lv_iload_n hx hb dL_law_190 rfl (lv_at hl 0 rfl) ?_
  refine lv_iconst (v := 2) hx hb dL_law_191 (by decide) ?_
  refine lv_iadd hx hb dL_law_192 ?_
  refine va_sld hx hb hX hbl hbA hE.2.2 (lw_in (k := 2) (v := 2) rfl (by omega) hL) dL_law_193 ?_
  refine xx_cVi (n := 2) hZ hE (As := [.int (xs ((nI i + (1 : Int32))).toNatClampNeg), .int (xs ((nI i + (2 : Int32))).toNatClampNeg)]) (rest := [.int (A)]) k_X7 (sh_is hS1 (by decide) (by decide)) tl_14 tl_15 (c_X7_weight l D cA ad 66 (xs ((nI i + (1 : Int32))).toNatClampNeg) (xs ((nI i + (2 : Int32))).toNatClampNeg) M1 (A, M2) g2) ⟨tl_16, tl_8, by decide +kernel, by decide +kernel, by decide +kernel⟩ tl_17 ⟨rfl, rfl⟩ ⟨(Nat.le_of_ble_eq_true rfl), (Nat.le_of_ble_eq_true rfl)⟩ rfl hl.1 rfl (Nat.le_of_ble_eq_true rfl) ⟨Nat.le_trans (Nat.le_of_eq (Nat.add_zero _)) hcl, Nat.le_trans (Nat.le_of_eq (Nat.add_zero _)) hsl⟩ dL_law_194 (fun H locs hE => ?_)
  refine lv_icmp_eq (tgt := 759) hx hb dL_law_197 (by decide) (fun hc => ?_) (fun hc => absurd rfl hc)
  exact kk cg1 M2 H locs g5 ⟨g3, g6⟩ hE
set_option maxHeartbeats 4000000 in
set_option maxRecDepth 100000 in
theorem lw_k2 (hZ : Zs p c code s m #[Value.ref b] R_law 4 D cA (fun q => s.heap.size ≤ q)) (hX : va_X b L xs s s.heap) (hbl : b < s.heap.size) (hE : En D cA ad s (fun q => s.heap.size ≤ q) M H locs) (I : Inv cg M) (hcg : cg + 1 < 2 ^ 30) (hi : i + 5 < L) (hL : L ≤ 3072) (hcl : cells ≤ room_1.cells) (hsl : slots ≤ room_1.slots) (hl : lv_has ls 4 [(3, .int (nI i)), (2, .ref (ad 66)), (1, .ref (ad 0)), (0, .ref b)]) (kk : ∀ (cg1 : Nat) (M1 : Mm) (H1 : Heap) (locs1 : List Loc), cg1 ≤ cg + 1 → Inv cg1 M1 → En D cA ad s (fun q => s.heap.size ≤ q) M1 H1 locs1 → W p l e room_1 s m #[Value.ref b] below meth c H1 locs1 cells slots Q (F0 m 759 ls [])) : W p l e room_1 s m #[Value.ref b] below meth c H locs cells slots Q (F0 m 202 ls []) := by
  obtain ⟨hx, hb, hml, hown, hts, hnw, hK, hA⟩ := id hZ
  have hbA : ¬ (fun q : Nat => s.heap.size ≤ q) b := Nat.not_le.mpr hbl
  have hSh := I.1
  obtain ⟨A, g1, g2⟩ := s_state (a := xs ((nI i + (1 : Int32))).toNatClampNeg) (b := xs ((nI i + (2 : Int32))).toNatClampNeg) (c := xs ((nI i + (3 : Int32))).toNatClampNeg) (d := xs ((nI i + (4 : Int32))).toNatClampNeg) I
  refine lv_aload_n hx hb dL_law_202 rfl (lv_at hl 2 rfl) ?_
  refine lv_aload_n hx hb dL_law_203 rfl (lv_at hl 3 rfl) ?_
  refine lv_iload_n hx hb dL_law_204 rfl (lv_at hl 0 rfl) ?_
  refine lv_iconst (v := 1) hx hb dL_law_205 (by decide) ?_
  refine lv_iadd hx hb dL_law_206 ?_
  refine va_sld hx hb hX hbl hbA hE.2.2 (lw_in (k := 1) (v := 1) rfl (by omega) hL) dL_law_207 ?_
  refine lv_aload_n hx hb dL_law_208 rfl (lv_at hl 3 rfl) ?_
  refine lv_iload_n hx hb dL_law_209 rfl (lv_at hl 0 rfl) ?_
  refine lv_iconst (v := 2) hx hb dL_law_210 (by decide) ?_
  refine lv_iadd hx hb dL_law_211 ?_
  refine va_sld hx hb hX hbl hbA hE.2.2 (lw_in (k := 2) (v := 2) rfl (by omega) hL) dL_law_212 ?_
  refine lv_aload_n hx hb dL_law_213 rfl (lv_at hl 3 rfl) ?_
  refine lv_iload_n hx hb dL_law_214 rfl (lv_at hl 0 rfl) ?_
  refine lv_iconst (v := 3) hx hb dL_law_215 (by decide) ?_
  refine lv_iadd hx hb dL_law_216 ?_
  refine va_sld hx hb hX hbl hbA hE.2.2 (lw_in (k := 3) (v := 3) rfl (by omega) hL) dL_law_217 ?_
  refine lv_aload_n hx hb dL_law_218 rfl (lv_at hl 3 rfl) ?_
  refine lv_iload_n hx hb dL_law_219 rfl (lv_at hl 0 rfl) ?_
  refine lv_iconst (v := 4) hx hb dL_law_220 (by decide) ?_
  refine lv_iadd hx hb dL_law_221 ?_
  refine va_sld hx hb hX hbl hbA hE.2.2 (lw_in (k := 4) (v := 4) rfl (by omega) hL) dL_law_222 ?_
  refine xx_cVi (n := 4) hZ hE (As := [.int (xs ((nI i + (1 : Int32))).toNatClampNeg), .int (xs ((nI i + (2 : Int32))).toNatClampNeg), .int (xs ((nI i + (3 : Int32))).toNatClampNeg), .int (xs ((nI i + (4 : Int32))).toNatClampNeg)]) (rest := []) k_X6 (sh_is hSh (by decide) (by decide)) tl_18 tl_19 (c_X6_state l D cA ad 0 (xs ((nI i + (1 : Int32))).toNatClampNeg) (xs ((nI i + (2 : Int32))).toNatClampNeg) (xs ((nI i + (3 : Int32))).toNatClampNeg) (xs ((nI i + (4 : Int32))).toNatClampNeg) M A g1) ⟨tl_20, tl_3, by decide +kernel, by decide +kernel, by decide +kernel⟩ tl_21 ⟨rfl, rfl⟩ ⟨(Nat.le_of_ble_eq_true rfl), (Nat.le_of_ble_eq_true rfl)⟩ rfl hl.1 rfl (Nat.le_of_ble_eq_true rfl) ⟨Nat.le_trans (Nat.le_of_eq (Nat.add_zero _)) hcl, Nat.le_trans (Nat.le_of_eq (Nat.add_zero _)) hsl⟩ dL_law_223 (fun H locs hE => ?_)
  refine lv_aload_n hx hb dL_law_226 rfl (lv_at hl 1 rfl) ?_
  refine lv_aload_n hx hb dL_law_227 rfl (lv_at hl 3 rfl) ?_
  refine lv_iload_n hx hb dL_law_228 rfl (lv_at hl 0 rfl) ?_
  refine lv_iconst (v := 1) hx hb dL_law_229 (by decide) ?_
  refine lv_iadd hx hb dL_law_230 ?_
  refine va_sld hx hb hX hbl hbA hE.2.2 (lw_in (k := 1) (v := 1) rfl (by omega) hL) dL_law_231 ?_
  refine lv_aload_n hx hb dL_law_232 rfl (lv_at hl 3 rfl) ?_
  refine lv_iload_n hx hb dL_law_233 rfl (lv_at hl 0 rfl) ?_
  refine lv_iconst (v := 2) hx hb dL_law_234 (by decide) ?_
  refine lv_iadd hx hb dL_law_235 ?_
  refine va_sld hx hb hX hbl hbA hE.2.2 (lw_in (k := 2) (v := 2) rfl (by omega) hL) dL_law_236 ?_
  refine lv_aload_n hx hb dL_law_237 rfl (lv_at hl 3 rfl) ?_
  refine lv_iload_n hx hb dL_law_238 rfl (lv_at hl 0 rfl) ?_
  refine lv_iconst (v := 3) hx hb dL_law_239 (by decide) ?_
  refine lv_iadd hx hb dL_law_240 ?_
  refine va_sld hx hb hX hbl hbA hE.2.2 (lw_in (k := 3) (v := 3) rfl (by omega) hL) dL_law_241 ?_
  refine lv_aload_n hx hb dL_law_242 rfl (lv_at hl 3 rfl) ?_
  refine lv_iload_n hx hb dL_law_243 rfl (lv_at hl 0 rfl) ?_
  refine lv_iconst (v := 4) hx hb dL_law_244 (by decide) ?_
  refine lv_iadd hx hb dL_law_245 ?_
  refine va_sld hx hb hX hbl hbA hE.2.2 (lw_in (k := 4) (v := 4) rfl (by omega) hL) dL_law_246 ?_
  refine xx_cVi (n := 4) hZ hE (As := [.int (xs ((nI i + (1 : Int32))).toNatClampNeg), .int (xs ((nI i + (2 : Int32))).toNatClampNeg), .int (xs ((nI i + (3 : Int32))).toNatClampNeg), .int (xs ((nI i + (4 : Int32))).toNatClampNeg)]) (rest := [.int (A)]) k_X7 (sh_is hSh (by decide) (by decide)) tl_22 tl_23 (c_X7_state l D cA ad 66 (xs ((nI i + (1 : Int32))).toNatClampNeg) (xs ((nI i + (2 : Int32))).toNatClampNeg) (xs ((nI i + (3 : Int32))).toNatClampNeg) (xs ((nI i + (4 : Int32))).toNatClampNeg) M A g2) ⟨tl_24, tl_8, by decide +kernel, by decide +kernel, by decide +kernel⟩ tl_25 ⟨rfl, rfl⟩ ⟨(Nat.le_of_ble_eq_true rfl), (Nat.le_of_ble_eq_true rfl)⟩ rfl hl.1 rfl (Nat.le_of_ble_eq_true rfl) ⟨Nat.le_trans (Nat.le_of_eq (Nat.add_zero _)) hcl, Nat.le_trans (Nat.le_of_eq (Nat.add_zero _)) hsl⟩ dL_law_247 (fun H locs hE => ?_)
  refine lv_icmp_eq (tgt := 759) hx hb dL_law_250 (by decide) (fun hc => ?_) (fun hc => absurd rfl hc)
  exact kk cg M H locs (by omega) I hE
set_option maxHeartbeats 4000000 in
set_option maxRecDepth 100000 in
theorem lw_k3 (hZ : Zs p c code s m #[Value.ref b] R_law 4 D cA (fun q => s.heap.size ≤ q)) (hX : va_X b L xs s s.heap) (hbl : b < s.heap.size) (hE : En D cA ad s (fun q => s.heap.size ≤ q) M H locs) (I : Inv cg M) (hcg : cg + 1 < 2 ^ 30) (hi : i + 5 < L) (hL : L ≤ 3072) (hcl : cells ≤ room_1.cells) (hsl : slots ≤ room_1.slots) (hl : lv_has ls 4 [(3, .int (nI i)), (2, .ref (ad 66)), (1, .ref (ad 0)), (0, .ref b)]) (kk : ∀ (cg1 : Nat) (M1 : Mm) (H1 : Heap) (locs1 : List Loc), cg1 ≤ cg + 1 → Inv cg1 M1 → En D cA ad s (fun q => s.heap.size ≤ q) M1 H1 locs1 → W p l e room_1 s m #[Value.ref b] below meth c H1 locs1 cells slots Q (F0 m 759 ls [])) : W p l e room_1 s m #[Value.ref b] below meth c H locs cells slots Q (F0 m 255 ls []) := by
  obtain ⟨hx, hb, hml, hown, hts, hnw, hK, hA⟩ := id hZ
  have hbA : ¬ (fun q : Nat => s.heap.size ≤ q) b := Nat.not_le.mpr hbl
  have hSh := I.1
  obtain ⟨A, g1, g2⟩ := s_value (a := xs ((nI i + (1 : Int32))).toNatClampNeg) (b := xs ((nI i + (2 : Int32))).toNatClampNeg) I
  refine lv_aload_n hx hb dL_law_255 rfl (lv_at hl 2 rfl) ?_
  refine lv_aload_n hx hb dL_law_256 rfl (lv_at hl 3 rfl) ?_
  refine lv_iload_n hx hb dL_law_257 rfl (lv_at hl 0 rfl) ?_
  refine lv_iconst (v := 1) hx hb dL_law_258 (by decide) ?_
  refine lv_iadd hx hb dL_law_259 ?_
  refine va_sld hx hb hX hbl hbA hE.2.2 (lw_in (k := 1) (v := 1) rfl (by omega) hL) dL_law_260 ?_
  refine lv_aload_n hx hb dL_law_261 rfl (lv_at hl 3 rfl) ?_
  refine lv_iload_n hx hb dL_law_262 rfl (lv_at hl 0 rfl) ?_
  refine lv_iconst (v := 2) hx hb dL_law_263 (by decide) ?_
  refine lv_iadd hx hb dL_law_264 ?_
  refine va_sld hx hb hX hbl hbA hE.2.2 (lw_in (k := 2) (v := 2) rfl (by omega) hL) dL_law_265 ?_
  refine xx_cVi (n := 2) hZ hE (As := [.int (xs ((nI i + (1 : Int32))).toNatClampNeg), .int (xs ((nI i + (2 : Int32))).toNatClampNeg)]) (rest := []) k_X6 (sh_is hSh (by decide) (by decide)) tl_26 tl_27 (c_X6_value l D cA ad 0 (xs ((nI i + (1 : Int32))).toNatClampNeg) (xs ((nI i + (2 : Int32))).toNatClampNeg) M A g1) ⟨tl_28, tl_3, by decide +kernel, by decide +kernel, by decide +kernel⟩ tl_29 ⟨rfl, rfl⟩ ⟨(Nat.le_of_ble_eq_true rfl), (Nat.le_of_ble_eq_true rfl)⟩ rfl hl.1 rfl (Nat.le_of_ble_eq_true rfl) ⟨Nat.le_trans (Nat.le_of_eq (Nat.add_zero _)) hcl, Nat.le_trans (Nat.le_of_eq (Nat.add_zero _)) hsl⟩ dL_law_266 (fun H locs hE => ?_)
  refine lv_aload_n hx hb dL_law_269 rfl (lv_at hl 1 rfl) ?_
  refine lv_aload_n hx hb dL_law_270 rfl (lv_at hl 3 rfl) ?_
  refine lv_iload_n hx hb dL_law_271 rfl (lv_at hl 0 rfl) ?_
  refine lv_iconst (v := 1) hx hb dL_law_272 (by decide) ?_
  refine lv_iadd hx hb dL_law_273 ?_
  refine va_sld hx hb hX hbl hbA hE.2.2 (lw_in (k := 1) (v := 1) rfl (by omega) hL) dL_law_274 ?_
  refine lv_aload_n hx hb dL_law_275 rfl (lv_at hl 3 rfl) ?_
  refine lv_iload_n hx hb dL_law_276 rfl (lv_at hl 0 rfl) ?_
  refine lv_iconst (v := 2) hx hb dL_law_277 (by decide) ?_
  refine lv_iadd hx hb dL_law_278 ?_
  refine va_sld hx hb hX hbl hbA hE.2.2 (lw_in (k := 2) (v := 2) rfl (by omega) hL) dL_law_279 ?_
  refine xx_cVi (n := 2) hZ hE (As := [.int (xs ((nI i + (1 : Int32))).toNatClampNeg), .int (xs ((nI i + (2 : Int32))).toNatClampNeg)]) (rest := [.int (A)]) k_X7 (sh_is hSh (by decide) (by decide)) tl_30 tl_31 (c_X7_value l D cA ad 66 (xs ((nI i + (1 : Int32))).toNatClampNeg) (xs ((nI i + (2 : Int32))).toNatClampNeg) M A g2) ⟨tl_32, tl_8, by decide +kernel, by decide +kernel, by decide +kernel⟩ tl_33 ⟨rfl, rfl⟩ ⟨(Nat.le_of_ble_eq_true rfl), (Nat.le_of_ble_eq_true rfl)⟩ rfl hl.1 rfl (Nat.le_of_ble_eq_true rfl) ⟨Nat.le_trans (Nat.le_of_eq (Nat.add_zero _)) hcl, Nat.le_trans (Nat.le_of_eq (Nat.add_zero _)) hsl⟩ dL_law_280 (fun H locs hE => ?_)
  refine lv_icmp_eq (tgt := 759) hx hb dL_law_283 (by decide) (fun hc => ?_) (fun hc => absurd rfl hc)
  exact kk cg M H locs (by omega) I hE
set_option maxHeartbeats 4000000 in
set_option maxRecDepth 100000 in
theorem lw_k4 (hZ : Zs p c code s m #[Value.ref b] R_law 4 D cA (fun q => s.heap.size ≤ q)) (hX : va_X b L xs s s.heap) (hbl : b < s.heap.size) (hE : En D cA ad s (fun q => s.heap.size ≤ q) M H locs) (I : Inv cg M) (hcg : cg + 1 < 2 ^ 30) (hi : i + 5 < L) (hL : L ≤ 3072) (hcl : cells ≤ room_1.cells) (hsl : slots ≤ room_1.slots) (hl : lv_has ls 4 [(3, .int (nI i)), (2, .ref (ad 66)), (1, .ref (ad 0)), (0, .ref b)]) (kk : ∀ (cg1 : Nat) (M1 : Mm) (H1 : Heap) (locs1 : List Loc), cg1 ≤ cg + 1 → Inv cg1 M1 → En D cA ad s (fun q => s.heap.size ≤ q) M1 H1 locs1 → W p l e room_1 s m #[Value.ref b] below meth c H1 locs1 cells slots Q (F0 m 759 ls [])) : W p l e room_1 s m #[Value.ref b] below meth c H locs cells slots Q (F0 m 288 ls []) := by
  obtain ⟨hx, hb, hml, hown, hts, hnw, hK, hA⟩ := id hZ
  have hbA : ¬ (fun q : Nat => s.heap.size ≤ q) b := Nat.not_le.mpr hbl
  have hSh := I.1
  obtain ⟨A, M1, M2, cg1, g1, hS1, g2, g3, g4, g5, g6⟩ := s_move (c := xs ((nI i + (1 : Int32))).toNatClampNeg) (a := xs ((nI i + (2 : Int32))).toNatClampNeg) (b := xs ((nI i + (3 : Int32))).toNatClampNeg) I
  refine lv_aload_n hx hb dL_law_288 rfl (lv_at hl 2 rfl) ?_
  refine lv_aload_n hx hb dL_law_289 rfl (lv_at hl 3 rfl) ?_
  refine lv_iload_n hx hb dL_law_290 rfl (lv_at hl 0 rfl) ?_
  refine lv_iconst (v := 1) hx hb dL_law_291 (by decide) ?_
  refine lv_iadd hx hb dL_law_292 ?_
  refine va_sld hx hb hX hbl hbA hE.2.2 (lw_in (k := 1) (v := 1) rfl (by omega) hL) dL_law_293 ?_
  refine lv_aload_n hx hb dL_law_294 rfl (lv_at hl 3 rfl) ?_
  refine lv_iload_n hx hb dL_law_295 rfl (lv_at hl 0 rfl) ?_
  refine lv_iconst (v := 2) hx hb dL_law_296 (by decide) ?_
  refine lv_iadd hx hb dL_law_297 ?_
  refine va_sld hx hb hX hbl hbA hE.2.2 (lw_in (k := 2) (v := 2) rfl (by omega) hL) dL_law_298 ?_
  refine lv_aload_n hx hb dL_law_299 rfl (lv_at hl 3 rfl) ?_
  refine lv_iload_n hx hb dL_law_300 rfl (lv_at hl 0 rfl) ?_
  refine lv_iconst (v := 3) hx hb dL_law_301 (by decide) ?_
  refine lv_iadd hx hb dL_law_302 ?_
  refine va_sld hx hb hX hbl hbA hE.2.2 (lw_in (k := 3) (v := 3) rfl (by omega) hL) dL_law_303 ?_
  refine xx_cVi (n := 3) hZ hE (As := [.int (xs ((nI i + (1 : Int32))).toNatClampNeg), .int (xs ((nI i + (2 : Int32))).toNatClampNeg), .int (xs ((nI i + (3 : Int32))).toNatClampNeg)]) (rest := []) k_X6 (sh_is hSh (by decide) (by decide)) tl_34 tl_35 (c_X6_move l D cA ad 0 (xs ((nI i + (1 : Int32))).toNatClampNeg) (xs ((nI i + (2 : Int32))).toNatClampNeg) (xs ((nI i + (3 : Int32))).toNatClampNeg) M (A, M1) g1) ⟨tl_36, tl_3, by decide +kernel, by decide +kernel, by decide +kernel⟩ tl_37 ⟨rfl, rfl⟩ ⟨(Nat.le_of_ble_eq_true rfl), (Nat.le_of_ble_eq_true rfl)⟩ rfl hl.1 rfl (Nat.le_of_ble_eq_true rfl) ⟨Nat.le_trans (Nat.le_of_eq (Nat.add_zero _)) hcl, Nat.le_trans (Nat.le_of_eq (Nat.add_zero _)) hsl⟩ dL_law_304 (fun H locs hE => ?_)
  refine lv_aload_n hx hb dL_law_307 rfl (lv_at hl 1 rfl) ?_
  refine lv_aload_n hx hb dL_law_308 rfl (lv_at hl 3 rfl) ?_
  refine lv_iload_n hx hb dL_law_309 rfl (lv_at hl 0 rfl) ?_
  refine lv_iconst (v := 1) hx hb dL_law_310 (by decide) ?_
  refine lv_iadd hx hb dL_law_311 ?_
  refine va_sld hx hb hX hbl hbA hE.2.2 (lw_in (k := 1) (v := 1) rfl (by omega) hL) dL_law_312 ?_
  refine lv_aload_n hx hb dL_law_313 rfl (lv_at hl 3 rfl) ?_
  refine lv_iload_n hx hb dL_law_314 rfl (lv_at hl 0 rfl) ?_
  refine lv_iconst (v := 2) hx hb dL_law_315 (by decide) ?_
  refine lv_iadd hx hb dL_law_316 ?_
  refine va_sld hx hb hX hbl hbA hE.2.2 (lw_in (k := 2) (v := 2) rfl (by omega) hL) dL_law_317 ?_
  refine lv_aload_n hx hb dL_law_318 rfl (lv_at hl 3 rfl) ?_
  refine lv_iload_n hx hb dL_law_319 rfl (lv_at hl 0 rfl) ?_
  refine lv_iconst (v := 3) hx hb dL_law_320 (by decide) ?_
  refine lv_iadd hx hb dL_law_321 ?_
  refine va_sld hx hb hX hbl hbA hE.2.2 (lw_in (k := 3) (v := 3) rfl (by omega) hL) dL_law_322 ?_
  refine xx_cVi (n := 3) hZ hE (As := [.int (xs ((nI i + (1 : Int32))).toNatClampNeg), .int (xs ((nI i + (2 : Int32))).toNatClampNeg), .int (xs ((nI i + (3 : Int32))).toNatClampNeg)]) (rest := [.int (A)]) k_X7 (sh_is hS1 (by decide) (by decide)) tl_38 tl_39 (c_X7_move l D cA ad 66 (xs ((nI i + (1 : Int32))).toNatClampNeg) (xs ((nI i + (2 : Int32))).toNatClampNeg) (xs ((nI i + (3 : Int32))).toNatClampNeg) M1 (A, M2) g2) ⟨tl_40, tl_8, by decide +kernel, by decide +kernel, by decide +kernel⟩ tl_41 ⟨rfl, rfl⟩ ⟨(Nat.le_of_ble_eq_true rfl), (Nat.le_of_ble_eq_true rfl)⟩ rfl hl.1 rfl (Nat.le_of_ble_eq_true rfl) ⟨Nat.le_trans (Nat.le_of_eq (Nat.add_zero _)) hcl, Nat.le_trans (Nat.le_of_eq (Nat.add_zero _)) hsl⟩ dL_law_323 (fun H locs hE => ?_)
  refine lv_icmp_eq (tgt := 759) hx hb dL_law_326 (by decide) (fun hc => ?_) (fun hc => absurd rfl hc)
  exact kk cg1 M2 H locs g5 ⟨g3, g6⟩ hE
set_option maxHeartbeats 4000000 in
set_option maxRecDepth 100000 in
theorem lw_k5 (hZ : Zs p c code s m #[Value.ref b] R_law 4 D cA (fun q => s.heap.size ≤ q)) (hX : va_X b L xs s s.heap) (hbl : b < s.heap.size) (hE : En D cA ad s (fun q => s.heap.size ≤ q) M H locs) (I : Inv cg M) (hcg : cg + 1 < 2 ^ 30) (hi : i + 5 < L) (hL : L ≤ 3072) (hcl : cells ≤ room_1.cells) (hsl : slots ≤ room_1.slots) (hl : lv_has ls 4 [(3, .int (nI i)), (2, .ref (ad 66)), (1, .ref (ad 0)), (0, .ref b)]) (kk : ∀ (cg1 : Nat) (M1 : Mm) (H1 : Heap) (locs1 : List Loc), cg1 ≤ cg + 1 → Inv cg1 M1 → En D cA ad s (fun q => s.heap.size ≤ q) M1 H1 locs1 → W p l e room_1 s m #[Value.ref b] below meth c H1 locs1 cells slots Q (F0 m 759 ls [])) : W p l e room_1 s m #[Value.ref b] below meth c H locs cells slots Q (F0 m 331 ls []) := by
  obtain ⟨hx, hb, hml, hown, hts, hnw, hK, hA⟩ := id hZ
  have hbA : ¬ (fun q : Nat => s.heap.size ≤ q) b := Nat.not_le.mpr hbl
  have hSh := I.1
  obtain ⟨A, M1, M2, cg1, g1, hS1, g2, g3, g4, g5, g6⟩ := s_odds (a := xs ((nI i + (1 : Int32))).toNatClampNeg) (b := xs ((nI i + (2 : Int32))).toNatClampNeg) (c := xs ((nI i + (3 : Int32))).toNatClampNeg) I hcg
  refine lv_aload_n hx hb dL_law_331 rfl (lv_at hl 2 rfl) ?_
  refine lv_aload_n hx hb dL_law_332 rfl (lv_at hl 3 rfl) ?_
  refine lv_iload_n hx hb dL_law_333 rfl (lv_at hl 0 rfl) ?_
  refine lv_iconst (v := 1) hx hb dL_law_334 (by decide) ?_
  refine lv_iadd hx hb dL_law_335 ?_
  refine va_sld hx hb hX hbl hbA hE.2.2 (lw_in (k := 1) (v := 1) rfl (by omega) hL) dL_law_336 ?_
  refine lv_aload_n hx hb dL_law_337 rfl (lv_at hl 3 rfl) ?_
  refine lv_iload_n hx hb dL_law_338 rfl (lv_at hl 0 rfl) ?_
  refine lv_iconst (v := 2) hx hb dL_law_339 (by decide) ?_
  refine lv_iadd hx hb dL_law_340 ?_
  refine va_sld hx hb hX hbl hbA hE.2.2 (lw_in (k := 2) (v := 2) rfl (by omega) hL) dL_law_341 ?_
  refine lv_aload_n hx hb dL_law_342 rfl (lv_at hl 3 rfl) ?_
  refine lv_iload_n hx hb dL_law_343 rfl (lv_at hl 0 rfl) ?_
  refine lv_iconst (v := 3) hx hb dL_law_344 (by decide) ?_
  refine lv_iadd hx hb dL_law_345 ?_
  refine va_sld hx hb hX hbl hbA hE.2.2 (lw_in (k := 3) (v := 3) rfl (by omega) hL) dL_law_346 ?_
  refine xx_cVi (n := 3) hZ hE (As := [.int (xs ((nI i + (1 : Int32))).toNatClampNeg), .int (xs ((nI i + (2 : Int32))).toNatClampNeg), .int (xs ((nI i + (3 : Int32))).toNatClampNeg)]) (rest := []) k_X6 (sh_is hSh (by decide) (by decide)) tl_42 tl_43 (c_X6_odds l D cA ad 0 (xs ((nI i + (1 : Int32))).toNatClampNeg) (xs ((nI i + (2 : Int32))).toNatClampNeg) (xs ((nI i + (3 : Int32))).toNatClampNeg) M (A, M1) g1) ⟨tl_44, tl_3, by decide +kernel, by decide +kernel, by decide +kernel⟩ tl_45 ⟨rfl, rfl⟩ ⟨(Nat.le_of_ble_eq_true rfl), (Nat.le_of_ble_eq_true rfl)⟩ rfl hl.1 rfl (Nat.le_of_ble_eq_true rfl) ⟨Nat.le_trans (Nat.le_of_eq (Nat.add_zero _)) hcl, Nat.le_trans (Nat.le_of_eq (Nat.add_zero _)) hsl⟩ dL_law_347 (fun H locs hE => ?_)
  refine lv_aload_n hx hb dL_law_350 rfl (lv_at hl 1 rfl) ?_
  refine lv_aload_n hx hb dL_law_351 rfl (lv_at hl 3 rfl) ?_
  refine lv_iload_n hx hb dL_law_352 rfl (lv_at hl 0 rfl) ?_
  refine lv_iconst (v := 1) hx hb dL_law_353 (by decide) ?_
  refine lv_iadd hx hb dL_law_354 ?_
  refine va_sld hx hb hX hbl hbA hE.2.2 (lw_in (k := 1) (v := 1) rfl (by omega) hL) dL_law_355 ?_
  refine lv_aload_n hx hb dL_law_356 rfl (lv_at hl 3 rfl) ?_
  refine lv_iload_n hx hb dL_law_357 rfl (lv_at hl 0 rfl) ?_
  refine lv_iconst (v := 2) hx hb dL_law_358 (by decide) ?_
  refine lv_iadd hx hb dL_law_359 ?_
  refine va_sld hx hb hX hbl hbA hE.2.2 (lw_in (k := 2) (v := 2) rfl (by omega) hL) dL_law_360 ?_
  refine lv_aload_n hx hb dL_law_361 rfl (lv_at hl 3 rfl) ?_
  refine lv_iload_n hx hb dL_law_362 rfl (lv_at hl 0 rfl) ?_
  refine lv_iconst (v := 3) hx hb dL_law_363 (by decide) ?_
  refine lv_iadd hx hb dL_law_364 ?_
  refine va_sld hx hb hX hbl hbA hE.2.2 (lw_in (k := 3) (v := 3) rfl (by omega) hL) dL_law_365 ?_
  refine xx_cVi (n := 3) hZ hE (As := [.int (xs ((nI i + (1 : Int32))).toNatClampNeg), .int (xs ((nI i + (2 : Int32))).toNatClampNeg), .int (xs ((nI i + (3 : Int32))).toNatClampNeg)]) (rest := [.int (A)]) k_X7 (sh_is hS1 (by decide) (by decide)) tl_46 tl_47 (c_X7_odds l D cA ad 66 (xs ((nI i + (1 : Int32))).toNatClampNeg) (xs ((nI i + (2 : Int32))).toNatClampNeg) (xs ((nI i + (3 : Int32))).toNatClampNeg) M1 (A, M2) g2) ⟨tl_48, tl_8, by decide +kernel, by decide +kernel, by decide +kernel⟩ tl_49 ⟨rfl, rfl⟩ ⟨(Nat.le_of_ble_eq_true rfl), (Nat.le_of_ble_eq_true rfl)⟩ rfl hl.1 rfl (Nat.le_of_ble_eq_true rfl) ⟨Nat.le_trans (Nat.le_of_eq (Nat.add_zero _)) hcl, Nat.le_trans (Nat.le_of_eq (Nat.add_zero _)) hsl⟩ dL_law_366 (fun H locs hE => ?_)
  refine lv_icmp_eq (tgt := 759) hx hb dL_law_369 (by decide) (fun hc => ?_) (fun hc => absurd rfl hc)
  exact kk cg1 M2 H locs g5 ⟨g3, g6⟩ hE
set_option maxHeartbeats 4000000 in
set_option maxRecDepth 100000 in
theorem lw_k6 (hZ : Zs p c code s m #[Value.ref b] R_law 4 D cA (fun q => s.heap.size ≤ q)) (hX : va_X b L xs s s.heap) (hbl : b < s.heap.size) (hE : En D cA ad s (fun q => s.heap.size ≤ q) M H locs) (I : Inv cg M) (hcg : cg + 1 < 2 ^ 30) (hi : i + 5 < L) (hL : L ≤ 3072) (hcl : cells ≤ room_1.cells) (hsl : slots ≤ room_1.slots) (hl : lv_has ls 4 [(3, .int (nI i)), (2, .ref (ad 66)), (1, .ref (ad 0)), (0, .ref b)]) (kk : ∀ (cg1 : Nat) (M1 : Mm) (H1 : Heap) (locs1 : List Loc), cg1 ≤ cg + 1 → Inv cg1 M1 → En D cA ad s (fun q => s.heap.size ≤ q) M1 H1 locs1 → W p l e room_1 s m #[Value.ref b] below meth c H1 locs1 cells slots Q (F0 m 759 ls [])) : W p l e room_1 s m #[Value.ref b] below meth c H locs cells slots Q (F0 m 374 ls []) := by
  obtain ⟨hx, hb, hml, hown, hts, hnw, hK, hA⟩ := id hZ
  have hbA : ¬ (fun q : Nat => s.heap.size ≤ q) b := Nat.not_le.mpr hbl
  have hSh := I.1
  obtain ⟨A, M1, M2, cg1, g1, hS1, g2, g3, g4, g5, g6⟩ := s_chance (a := xs ((nI i + (1 : Int32))).toNatClampNeg) (b := xs ((nI i + (2 : Int32))).toNatClampNeg) (c := xs ((nI i + (3 : Int32))).toNatClampNeg) (d := xs ((nI i + (4 : Int32))).toNatClampNeg) I hcg
  refine lv_aload_n hx hb dL_law_374 rfl (lv_at hl 2 rfl) ?_
  refine lv_aload_n hx hb dL_law_375 rfl (lv_at hl 3 rfl) ?_
  refine lv_iload_n hx hb dL_law_376 rfl (lv_at hl 0 rfl) ?_
  refine lv_iconst (v := 1) hx hb dL_law_377 (by decide) ?_
  refine lv_iadd hx hb dL_law_378 ?_
  refine va_sld hx hb hX hbl hbA hE.2.2 (lw_in (k := 1) (v := 1) rfl (by omega) hL) dL_law_379 ?_
  refine lv_aload_n hx hb dL_law_380 rfl (lv_at hl 3 rfl) ?_
  refine lv_iload_n hx hb dL_law_381 rfl (lv_at hl 0 rfl) ?_
  refine lv_iconst (v := 2) hx hb dL_law_382 (by decide) ?_
  refine lv_iadd hx hb dL_law_383 ?_
  refine va_sld hx hb hX hbl hbA hE.2.2 (lw_in (k := 2) (v := 2) rfl (by omega) hL) dL_law_384 ?_
  refine lv_aload_n hx hb dL_law_385 rfl (lv_at hl 3 rfl) ?_
  refine lv_iload_n hx hb dL_law_386 rfl (lv_at hl 0 rfl) ?_
  refine lv_iconst (v := 3) hx hb dL_law_387 (by decide) ?_
  refine lv_iadd hx hb dL_law_388 ?_
  refine va_sld hx hb hX hbl hbA hE.2.2 (lw_in (k := 3) (v := 3) rfl (by omega) hL) dL_law_389 ?_
  refine lv_aload_n hx hb dL_law_390 rfl (lv_at hl 3 rfl) ?_
  refine lv_iload_n hx hb dL_law_391 rfl (lv_at hl 0 rfl) ?_
  refine lv_iconst (v := 4) hx hb dL_law_392 (by decide) ?_
  refine lv_iadd hx hb dL_law_393 ?_
  refine va_sld hx hb hX hbl hbA hE.2.2 (lw_in (k := 4) (v := 4) rfl (by omega) hL) dL_law_394 ?_
  refine xx_cVi (n := 4) hZ hE (As := [.int (xs ((nI i + (1 : Int32))).toNatClampNeg), .int (xs ((nI i + (2 : Int32))).toNatClampNeg), .int (xs ((nI i + (3 : Int32))).toNatClampNeg), .int (xs ((nI i + (4 : Int32))).toNatClampNeg)]) (rest := []) k_X6 (sh_is hSh (by decide) (by decide)) tl_50 tl_51 (c_X6_chance l D cA ad 0 (xs ((nI i + (1 : Int32))).toNatClampNeg) (xs ((nI i + (2 : Int32))).toNatClampNeg) (xs ((nI i + (3 : Int32))).toNatClampNeg) (xs ((nI i + (4 : Int32))).toNatClampNeg) M (A, M1) g1) ⟨tl_52, tl_3, by decide +kernel, by decide +kernel, by decide +kernel⟩ tl_53 ⟨rfl, rfl⟩ ⟨(Nat.le_of_ble_eq_true rfl), (Nat.le_of_ble_eq_true rfl)⟩ rfl hl.1 rfl (Nat.le_of_ble_eq_true rfl) ⟨Nat.le_trans (Nat.le_of_eq (Nat.add_zero _)) hcl, Nat.le_trans (Nat.le_of_eq (Nat.add_zero _)) hsl⟩ dL_law_395 (fun H locs hE => ?_)
  refine lv_aload_n hx hb dL_law_398 rfl (lv_at hl 1 rfl) ?_
  refine lv_aload_n hx hb dL_law_399 rfl (lv_at hl 3 rfl) ?_
  refine lv_iload_n hx hb dL_law_400 rfl (lv_at hl 0 rfl) ?_
  refine lv_iconst (v := 1) hx hb dL_law_401 (by decide) ?_
  refine lv_iadd hx hb dL_law_402 ?_
  refine va_sld hx hb hX hbl hbA hE.2.2 (lw_in (k := 1) (v := 1) rfl (by omega) hL) dL_law_403 ?_
  refine lv_aload_n hx hb dL_law_404 rfl (lv_at hl 3 rfl) ?_
  refine lv_iload_n hx hb dL_law_405 rfl (lv_at hl 0 rfl) ?_
  refine lv_iconst (v := 2) hx hb dL_law_406 (by decide) ?_
  refine lv_iadd hx hb dL_law_407 ?_
  refine va_sld hx hb hX hbl hbA hE.2.2 (lw_in (k := 2) (v := 2) rfl (by omega) hL) dL_law_408 ?_
  refine lv_aload_n hx hb dL_law_409 rfl (lv_at hl 3 rfl) ?_
  refine lv_iload_n hx hb dL_law_410 rfl (lv_at hl 0 rfl) ?_
  refine lv_iconst (v := 3) hx hb dL_law_411 (by decide) ?_
  refine lv_iadd hx hb dL_law_412 ?_
  refine va_sld hx hb hX hbl hbA hE.2.2 (lw_in (k := 3) (v := 3) rfl (by omega) hL) dL_law_413 ?_
  refine lv_aload_n hx hb dL_law_414 rfl (lv_at hl 3 rfl) ?_
  refine lv_iload_n hx hb dL_law_415 rfl (lv_at hl 0 rfl) ?_
  refine lv_iconst (v := 4) hx hb dL_law_416 (by decide) ?_
  refine lv_iadd hx hb dL_law_417 ?_
  refine va_sld hx hb hX hbl hbA hE.2.2 (lw_in (k := 4) (v := 4) rfl (by omega) hL) dL_law_418 ?_
  refine xx_cVi (n := 4) hZ hE (As := [.int (xs ((nI i + (1 : Int32))).toNatClampNeg), .int (xs ((nI i + (2 : Int32))).toNatClampNeg), .int (xs ((nI i + (3 : Int32))).toNatClampNeg), .int (xs ((nI i + (4 : Int32))).toNatClampNeg)]) (rest := [.int (A)]) k_X7 (sh_is hS1 (by decide) (by decide)) tl_54 tl_55 (c_X7_chance l D cA ad 66 (xs ((nI i + (1 : Int32))).toNatClampNeg) (xs ((nI i + (2 : Int32))).toNatClampNeg) (xs ((nI i + (3 : Int32))).toNatClampNeg) (xs ((nI i + (4 : Int32))).toNatClampNeg) M1 (A, M2) g2) ⟨tl_56, tl_8, by decide +kernel, by decide +kernel, by decide +kernel⟩ tl_57 ⟨rfl, rfl⟩ ⟨(Nat.le_of_ble_eq_true rfl), (Nat.le_of_ble_eq_true rfl)⟩ rfl hl.1 rfl (Nat.le_of_ble_eq_true rfl) ⟨Nat.le_trans (Nat.le_of_eq (Nat.add_zero _)) hcl, Nat.le_trans (Nat.le_of_eq (Nat.add_zero _)) hsl⟩ dL_law_419 (fun H locs hE => ?_)
  refine lv_icmp_eq (tgt := 759) hx hb dL_law_422 (by decide) (fun hc => ?_) (fun hc => absurd rfl hc)
  exact kk cg1 M2 H locs g5 ⟨g3, g6⟩ hE
set_option maxHeartbeats 4000000 in
set_option maxRecDepth 100000 in
theorem lw_k7 (hZ : Zs p c code s m #[Value.ref b] R_law 4 D cA (fun q => s.heap.size ≤ q)) (hX : va_X b L xs s s.heap) (hbl : b < s.heap.size) (hE : En D cA ad s (fun q => s.heap.size ≤ q) M H locs) (I : Inv cg M) (hcg : cg + 1 < 2 ^ 30) (hi : i + 5 < L) (hL : L ≤ 3072) (hcl : cells ≤ room_1.cells) (hsl : slots ≤ room_1.slots) (hl : lv_has ls 4 [(3, .int (nI i)), (2, .ref (ad 66)), (1, .ref (ad 0)), (0, .ref b)]) (kk : ∀ (cg1 : Nat) (M1 : Mm) (H1 : Heap) (locs1 : List Loc), cg1 ≤ cg + 1 → Inv cg1 M1 → En D cA ad s (fun q => s.heap.size ≤ q) M1 H1 locs1 → W p l e room_1 s m #[Value.ref b] below meth c H1 locs1 cells slots Q (F0 m 759 ls [])) : W p l e room_1 s m #[Value.ref b] below meth c H locs cells slots Q (F0 m 427 ls []) := by
  obtain ⟨hx, hb, hml, hown, hts, hnw, hK, hA⟩ := id hZ
  have hbA : ¬ (fun q : Nat => s.heap.size ≤ q) b := Nat.not_le.mpr hbl
  have hSh := I.1
  obtain ⟨A, M1, M2, cg1, g1, hS1, g2, g3, g4, g5, g6⟩ := s_row (a := xs ((nI i + (1 : Int32))).toNatClampNeg) (b := xs ((nI i + (2 : Int32))).toNatClampNeg) (c := xs ((nI i + (3 : Int32))).toNatClampNeg) (d := xs ((nI i + (4 : Int32))).toNatClampNeg) I
  refine lv_aload_n hx hb dL_law_427 rfl (lv_at hl 2 rfl) ?_
  refine lv_aload_n hx hb dL_law_428 rfl (lv_at hl 3 rfl) ?_
  refine lv_iload_n hx hb dL_law_429 rfl (lv_at hl 0 rfl) ?_
  refine lv_iconst (v := 1) hx hb dL_law_430 (by decide) ?_
  refine lv_iadd hx hb dL_law_431 ?_
  refine va_sld hx hb hX hbl hbA hE.2.2 (lw_in (k := 1) (v := 1) rfl (by omega) hL) dL_law_432 ?_
  refine lv_aload_n hx hb dL_law_433 rfl (lv_at hl 3 rfl) ?_
  refine lv_iload_n hx hb dL_law_434 rfl (lv_at hl 0 rfl) ?_
  refine lv_iconst (v := 2) hx hb dL_law_435 (by decide) ?_
  refine lv_iadd hx hb dL_law_436 ?_
  refine va_sld hx hb hX hbl hbA hE.2.2 (lw_in (k := 2) (v := 2) rfl (by omega) hL) dL_law_437 ?_
  refine lv_aload_n hx hb dL_law_438 rfl (lv_at hl 3 rfl) ?_
  refine lv_iload_n hx hb dL_law_439 rfl (lv_at hl 0 rfl) ?_
  refine lv_iconst (v := 3) hx hb dL_law_440 (by decide) ?_
  refine lv_iadd hx hb dL_law_441 ?_
  refine va_sld hx hb hX hbl hbA hE.2.2 (lw_in (k := 3) (v := 3) rfl (by omega) hL) dL_law_442 ?_
  refine lv_aload_n hx hb dL_law_443 rfl (lv_at hl 3 rfl) ?_
  refine lv_iload_n hx hb dL_law_444 rfl (lv_at hl 0 rfl) ?_
  refine lv_iconst (v := 4) hx hb dL_law_445 (by decide) ?_
  refine lv_iadd hx hb dL_law_446 ?_
  refine va_sld hx hb hX hbl hbA hE.2.2 (lw_in (k := 4) (v := 4) rfl (by omega) hL) dL_law_447 ?_
  refine xx_cVl (n := 4) hZ hE (As := [.int (xs ((nI i + (1 : Int32))).toNatClampNeg), .int (xs ((nI i + (2 : Int32))).toNatClampNeg), .int (xs ((nI i + (3 : Int32))).toNatClampNeg), .int (xs ((nI i + (4 : Int32))).toNatClampNeg)]) (rest := []) k_X6 (sh_is hSh (by decide) (by decide)) tl_58 tl_59 (c_X6_row l D cA ad 0 (xs ((nI i + (1 : Int32))).toNatClampNeg) (xs ((nI i + (2 : Int32))).toNatClampNeg) (xs ((nI i + (3 : Int32))).toNatClampNeg) (xs ((nI i + (4 : Int32))).toNatClampNeg) M (A, M1) g1) ⟨tl_60, tl_3, by decide +kernel, by decide +kernel, by decide +kernel⟩ tl_61 ⟨rfl, rfl⟩ ⟨(Nat.le_of_ble_eq_true rfl), (Nat.le_of_ble_eq_true rfl)⟩ rfl hl.1 rfl (Nat.le_of_ble_eq_true rfl) ⟨Nat.le_trans (Nat.le_of_eq (Nat.add_zero _)) hcl, Nat.le_trans (Nat.le_of_eq (Nat.add_zero _)) hsl⟩ dL_law_448 (fun H locs hE => ?_)
  refine lv_aload_n hx hb dL_law_451 rfl (lv_at hl 1 rfl) ?_
  refine lv_aload_n hx hb dL_law_452 rfl (lv_at hl 3 rfl) ?_
  refine lv_iload_n hx hb dL_law_453 rfl (lv_at hl 0 rfl) ?_
  refine lv_iconst (v := 1) hx hb dL_law_454 (by decide) ?_
  refine lv_iadd hx hb dL_law_455 ?_
  refine va_sld hx hb hX hbl hbA hE.2.2 (lw_in (k := 1) (v := 1) rfl (by omega) hL) dL_law_456 ?_
  refine lv_aload_n hx hb dL_law_457 rfl (lv_at hl 3 rfl) ?_
  refine lv_iload_n hx hb dL_law_458 rfl (lv_at hl 0 rfl) ?_
  refine lv_iconst (v := 2) hx hb dL_law_459 (by decide) ?_
  refine lv_iadd hx hb dL_law_460 ?_
  refine va_sld hx hb hX hbl hbA hE.2.2 (lw_in (k := 2) (v := 2) rfl (by omega) hL) dL_law_461 ?_
  refine lv_aload_n hx hb dL_law_462 rfl (lv_at hl 3 rfl) ?_
  refine lv_iload_n hx hb dL_law_463 rfl (lv_at hl 0 rfl) ?_
  refine lv_iconst (v := 3) hx hb dL_law_464 (by decide) ?_
  refine lv_iadd hx hb dL_law_465 ?_
  refine va_sld hx hb hX hbl hbA hE.2.2 (lw_in (k := 3) (v := 3) rfl (by omega) hL) dL_law_466 ?_
  refine lv_aload_n hx hb dL_law_467 rfl (lv_at hl 3 rfl) ?_
  refine lv_iload_n hx hb dL_law_468 rfl (lv_at hl 0 rfl) ?_
  refine lv_iconst (v := 4) hx hb dL_law_469 (by decide) ?_
  refine lv_iadd hx hb dL_law_470 ?_
  refine va_sld hx hb hX hbl hbA hE.2.2 (lw_in (k := 4) (v := 4) rfl (by omega) hL) dL_law_471 ?_
  refine xx_cVl (n := 4) hZ hE (As := [.int (xs ((nI i + (1 : Int32))).toNatClampNeg), .int (xs ((nI i + (2 : Int32))).toNatClampNeg), .int (xs ((nI i + (3 : Int32))).toNatClampNeg), .int (xs ((nI i + (4 : Int32))).toNatClampNeg)]) (rest := [.long (A)]) k_X7 (sh_is hS1 (by decide) (by decide)) tl_62 tl_63 (c_X7_row l D cA ad 66 (xs ((nI i + (1 : Int32))).toNatClampNeg) (xs ((nI i + (2 : Int32))).toNatClampNeg) (xs ((nI i + (3 : Int32))).toNatClampNeg) (xs ((nI i + (4 : Int32))).toNatClampNeg) M1 (A, M2) g2) ⟨tl_64, tl_8, by decide +kernel, by decide +kernel, by decide +kernel⟩ tl_65 ⟨rfl, rfl⟩ ⟨(Nat.le_of_ble_eq_true rfl), (Nat.le_of_ble_eq_true rfl)⟩ rfl hl.1 rfl (Nat.le_of_ble_eq_true rfl) ⟨Nat.le_trans (Nat.le_of_eq (Nat.add_zero _)) hcl, Nat.le_trans (Nat.le_of_eq (Nat.add_zero _)) hsl⟩ dL_law_472 (fun H locs hE => ?_)
  refine xx_leq (tgt := 759) hx hb dL_law_475 dL_law_476 (by decide) (fun hc => ?_) (fun hc => absurd rfl hc)
  exact kk cg1 M2 H locs g5 ⟨g3, g6⟩ hE
set_option maxHeartbeats 4000000 in
set_option maxRecDepth 100000 in
theorem lw_k8 (hZ : Zs p c code s m #[Value.ref b] R_law 4 D cA (fun q => s.heap.size ≤ q)) (hX : va_X b L xs s s.heap) (hbl : b < s.heap.size) (hE : En D cA ad s (fun q => s.heap.size ≤ q) M H locs) (I : Inv cg M) (hcg : cg + 1 < 2 ^ 30) (hi : i + 5 < L) (hL : L ≤ 3072) (hcl : cells ≤ room_1.cells) (hsl : slots ≤ room_1.slots) (hl : lv_has ls 4 [(3, .int (nI i)), (2, .ref (ad 66)), (1, .ref (ad 0)), (0, .ref b)]) (kk : ∀ (cg1 : Nat) (M1 : Mm) (H1 : Heap) (locs1 : List Loc), cg1 ≤ cg + 1 → Inv cg1 M1 → En D cA ad s (fun q => s.heap.size ≤ q) M1 H1 locs1 → W p l e room_1 s m #[Value.ref b] below meth c H1 locs1 cells slots Q (F0 m 759 ls [])) : W p l e room_1 s m #[Value.ref b] below meth c H locs cells slots Q (F0 m 481 ls []) := by
  obtain ⟨hx, hb, hml, hown, hts, hnw, hK, hA⟩ := id hZ
  have hbA : ¬ (fun q : Nat => s.heap.size ≤ q) b := Nat.not_le.mpr hbl
  have hSh := I.1
  obtain ⟨A, M1, M2, cg1, g1, hS1, g2, g3, g4, g5, g6⟩ := s_keeps (a := xs ((nI i + (1 : Int32))).toNatClampNeg) I
  refine lv_aload_n hx hb dL_law_481 rfl (lv_at hl 2 rfl) ?_
  refine lv_aload_n hx hb dL_law_482 rfl (lv_at hl 3 rfl) ?_
  refine lv_iload_n hx hb dL_law_483 rfl (lv_at hl 0 rfl) ?_
  refine lv_iconst (v := 1) hx hb dL_law_484 (by decide) ?_
  refine lv_iadd hx hb dL_law_485 ?_
  refine va_sld hx hb hX hbl hbA hE.2.2 (lw_in (k := 1) (v := 1) rfl (by omega) hL) dL_law_486 ?_
  refine xx_cVi (n := 1) hZ hE (As := [.int (xs ((nI i + (1 : Int32))).toNatClampNeg)]) (rest := []) k_X6 (sh_is hSh (by decide) (by decide)) tl_66 tl_67 (c_X6_keeps l D cA ad 0 (xs ((nI i + (1 : Int32))).toNatClampNeg) M (A, M1) g1) ⟨tl_68, tl_3, by decide +kernel, by decide +kernel, by decide +kernel⟩ tl_69 ⟨rfl, rfl⟩ ⟨(Nat.le_of_ble_eq_true rfl), (Nat.le_of_ble_eq_true rfl)⟩ rfl hl.1 rfl (Nat.le_of_ble_eq_true rfl) ⟨Nat.le_trans (Nat.le_of_eq (Nat.add_zero _)) hcl, Nat.le_trans (Nat.le_of_eq (Nat.add_zero _)) hsl⟩ dL_law_487 (fun H locs hE => ?_)
  refine lv_aload_n hx hb dL_law_490 rfl (lv_at hl 1 rfl) ?_
  refine lv_aload_n hx hb dL_law_491 rfl (lv_at hl 3 rfl) ?_
  refine lv_iload_n hx hb dL_law_492 rfl (lv_at hl 0 rfl) ?_
  refine lv_iconst (v := 1) hx hb dL_law_493 (by decide) ?_
  refine lv_iadd hx hb dL_law_494 ?_
  refine va_sld hx hb hX hbl hbA hE.2.2 (lw_in (k := 1) (v := 1) rfl (by omega) hL) dL_law_495 ?_
  refine xx_cVi (n := 1) hZ hE (As := [.int (xs ((nI i + (1 : Int32))).toNatClampNeg)]) (rest := [.int (A)]) k_X7 (sh_is hS1 (by decide) (by decide)) tl_70 tl_71 (c_X7_keeps l D cA ad 66 (xs ((nI i + (1 : Int32))).toNatClampNeg) M1 (A, M2) g2) ⟨tl_72, tl_8, by decide +kernel, by decide +kernel, by decide +kernel⟩ tl_73 ⟨rfl, rfl⟩ ⟨(Nat.le_of_ble_eq_true rfl), (Nat.le_of_ble_eq_true rfl)⟩ rfl hl.1 rfl (Nat.le_of_ble_eq_true rfl) ⟨Nat.le_trans (Nat.le_of_eq (Nat.add_zero _)) hcl, Nat.le_trans (Nat.le_of_eq (Nat.add_zero _)) hsl⟩ dL_law_496 (fun H locs hE => ?_)
  refine lv_icmp_eq (tgt := 759) hx hb dL_law_499 (by decide) (fun hc => ?_) (fun hc => absurd rfl hc)
  exact kk cg1 M2 H locs g5 ⟨g3, g6⟩ hE
set_option maxHeartbeats 4000000 in
set_option maxRecDepth 100000 in
theorem lw_k9 (hZ : Zs p c code s m #[Value.ref b] R_law 4 D cA (fun q => s.heap.size ≤ q)) (hX : va_X b L xs s s.heap) (hbl : b < s.heap.size) (hE : En D cA ad s (fun q => s.heap.size ≤ q) M H locs) (I : Inv cg M) (hcg : cg + 1 < 2 ^ 30) (hi : i + 5 < L) (hL : L ≤ 3072) (hcl : cells ≤ room_1.cells) (hsl : slots ≤ room_1.slots) (hl : lv_has ls 4 [(3, .int (nI i)), (2, .ref (ad 66)), (1, .ref (ad 0)), (0, .ref b)]) (kk : ∀ (cg1 : Nat) (M1 : Mm) (H1 : Heap) (locs1 : List Loc), cg1 ≤ cg + 1 → Inv cg1 M1 → En D cA ad s (fun q => s.heap.size ≤ q) M1 H1 locs1 → W p l e room_1 s m #[Value.ref b] below meth c H1 locs1 cells slots Q (F0 m 759 ls [])) : W p l e room_1 s m #[Value.ref b] below meth c H locs cells slots Q (F0 m 504 ls []) := by
  obtain ⟨hx, hb, hml, hown, hts, hnw, hK, hA⟩ := id hZ
  have hbA : ¬ (fun q : Nat => s.heap.size ≤ q) b := Nat.not_le.mpr hbl
  have hSh := I.1
  obtain ⟨A, M1, M2, cg1, g1, hS1, g2, g3, g4, g5, g6⟩ := s_goesBack (a := xs ((nI i + (1 : Int32))).toNatClampNeg) I
  refine lv_aload_n hx hb dL_law_504 rfl (lv_at hl 2 rfl) ?_
  refine lv_aload_n hx hb dL_law_505 rfl (lv_at hl 3 rfl) ?_
  refine lv_iload_n hx hb dL_law_506 rfl (lv_at hl 0 rfl) ?_
  refine lv_iconst (v := 1) hx hb dL_law_507 (by decide) ?_
  refine lv_iadd hx hb dL_law_508 ?_
  refine va_sld hx hb hX hbl hbA hE.2.2 (lw_in (k := 1) (v := 1) rfl (by omega) hL) dL_law_509 ?_
  refine xx_cVi (n := 1) hZ hE (As := [.int (xs ((nI i + (1 : Int32))).toNatClampNeg)]) (rest := []) k_X6 (sh_is hSh (by decide) (by decide)) tl_74 tl_75 (c_X6_goesBack l D cA ad 0 (xs ((nI i + (1 : Int32))).toNatClampNeg) M (A, M1) g1) ⟨tl_76, tl_3, by decide +kernel, by decide +kernel, by decide +kernel⟩ tl_77 ⟨rfl, rfl⟩ ⟨(Nat.le_of_ble_eq_true rfl), (Nat.le_of_ble_eq_true rfl)⟩ rfl hl.1 rfl (Nat.le_of_ble_eq_true rfl) ⟨Nat.le_trans (Nat.le_of_eq (Nat.add_zero _)) hcl, Nat.le_trans (Nat.le_of_eq (Nat.add_zero _)) hsl⟩ dL_law_510 (fun H locs hE => ?_)
  refine lv_aload_n hx hb dL_law_513 rfl (lv_at hl 1 rfl) ?_
  refine lv_aload_n hx hb dL_law_514 rfl (lv_at hl 3 rfl) ?_
  refine lv_iload_n hx hb dL_law_515 rfl (lv_at hl 0 rfl) ?_
  refine lv_iconst (v := 1) hx hb dL_law_516 (by decide) ?_
  refine lv_iadd hx hb dL_law_517 ?_
  refine va_sld hx hb hX hbl hbA hE.2.2 (lw_in (k := 1) (v := 1) rfl (by omega) hL) dL_law_518 ?_
  refine xx_cVi (n := 1) hZ hE (As := [.int (xs ((nI i + (1 : Int32))).toNatClampNeg)]) (rest := [.int (A)]) k_X7 (sh_is hS1 (by decide) (by decide)) tl_78 tl_79 (c_X7_goesBack l D cA ad 66 (xs ((nI i + (1 : Int32))).toNatClampNeg) M1 (A, M2) g2) ⟨tl_80, tl_8, by decide +kernel, by decide +kernel, by decide +kernel⟩ tl_81 ⟨rfl, rfl⟩ ⟨(Nat.le_of_ble_eq_true rfl), (Nat.le_of_ble_eq_true rfl)⟩ rfl hl.1 rfl (Nat.le_of_ble_eq_true rfl) ⟨Nat.le_trans (Nat.le_of_eq (Nat.add_zero _)) hcl, Nat.le_trans (Nat.le_of_eq (Nat.add_zero _)) hsl⟩ dL_law_519 (fun H locs hE => ?_)
  refine lv_icmp_eq (tgt := 759) hx hb dL_law_522 (by decide) (fun hc => ?_) (fun hc => absurd rfl hc)
  exact kk cg1 M2 H locs g5 ⟨g3, g6⟩ hE
set_option maxHeartbeats 4000000 in
set_option maxRecDepth 100000 in
theorem lw_k10 (hZ : Zs p c code s m #[Value.ref b] R_law 4 D cA (fun q => s.heap.size ≤ q)) (hX : va_X b L xs s s.heap) (hbl : b < s.heap.size) (hE : En D cA ad s (fun q => s.heap.size ≤ q) M H locs) (I : Inv cg M) (hcg : cg + 1 < 2 ^ 30) (hi : i + 5 < L) (hL : L ≤ 3072) (hcl : cells ≤ room_1.cells) (hsl : slots ≤ room_1.slots) (hl : lv_has ls 4 [(3, .int (nI i)), (2, .ref (ad 66)), (1, .ref (ad 0)), (0, .ref b)]) (kk : ∀ (cg1 : Nat) (M1 : Mm) (H1 : Heap) (locs1 : List Loc), cg1 ≤ cg + 1 → Inv cg1 M1 → En D cA ad s (fun q => s.heap.size ≤ q) M1 H1 locs1 → W p l e room_1 s m #[Value.ref b] below meth c H1 locs1 cells slots Q (F0 m 759 ls [])) : W p l e room_1 s m #[Value.ref b] below meth c H locs cells slots Q (F0 m 527 ls []) := by
  obtain ⟨hx, hb, hml, hown, hts, hnw, hK, hA⟩ := id hZ
  have hbA : ¬ (fun q : Nat => s.heap.size ≤ q) b := Nat.not_le.mpr hbl
  have hSh := I.1
  obtain ⟨A, M2, g1, g2, g3⟩ := s_reach (a := xs ((nI i + (1 : Int32))).toNatClampNeg) (b := xs ((nI i + (2 : Int32))).toNatClampNeg) I
  refine lv_aload_n hx hb dL_law_527 rfl (lv_at hl 2 rfl) ?_
  refine lv_aload_n hx hb dL_law_528 rfl (lv_at hl 3 rfl) ?_
  refine lv_iload_n hx hb dL_law_529 rfl (lv_at hl 0 rfl) ?_
  refine lv_iconst (v := 1) hx hb dL_law_530 (by decide) ?_
  refine lv_iadd hx hb dL_law_531 ?_
  refine va_sld hx hb hX hbl hbA hE.2.2 (lw_in (k := 1) (v := 1) rfl (by omega) hL) dL_law_532 ?_
  refine lv_aload_n hx hb dL_law_533 rfl (lv_at hl 3 rfl) ?_
  refine lv_iload_n hx hb dL_law_534 rfl (lv_at hl 0 rfl) ?_
  refine lv_iconst (v := 2) hx hb dL_law_535 (by decide) ?_
  refine lv_iadd hx hb dL_law_536 ?_
  refine va_sld hx hb hX hbl hbA hE.2.2 (lw_in (k := 2) (v := 2) rfl (by omega) hL) dL_law_537 ?_
  refine xx_cVi (n := 2) hZ hE (As := [.int (xs ((nI i + (1 : Int32))).toNatClampNeg), .int (xs ((nI i + (2 : Int32))).toNatClampNeg)]) (rest := []) k_X6 (sh_is hSh (by decide) (by decide)) tl_82 tl_83 (c_X6_reach l D cA ad 0 (xs ((nI i + (1 : Int32))).toNatClampNeg) (xs ((nI i + (2 : Int32))).toNatClampNeg) M A g1) ⟨tl_84, tl_3, by decide +kernel, by decide +kernel, by decide +kernel⟩ tl_85 ⟨rfl, rfl⟩ ⟨(Nat.le_of_ble_eq_true rfl), (Nat.le_of_ble_eq_true rfl)⟩ rfl hl.1 rfl (Nat.le_of_ble_eq_true rfl) ⟨Nat.le_trans (Nat.le_of_eq (Nat.add_zero _)) hcl, Nat.le_trans (Nat.le_of_eq (Nat.add_zero _)) hsl⟩ dL_law_538 (fun H locs hE => ?_)
  refine lv_aload_n hx hb dL_law_541 rfl (lv_at hl 1 rfl) ?_
  refine lv_aload_n hx hb dL_law_542 rfl (lv_at hl 3 rfl) ?_
  refine lv_iload_n hx hb dL_law_543 rfl (lv_at hl 0 rfl) ?_
  refine lv_iconst (v := 1) hx hb dL_law_544 (by decide) ?_
  refine lv_iadd hx hb dL_law_545 ?_
  refine va_sld hx hb hX hbl hbA hE.2.2 (lw_in (k := 1) (v := 1) rfl (by omega) hL) dL_law_546 ?_
  refine lv_aload_n hx hb dL_law_547 rfl (lv_at hl 3 rfl) ?_
  refine lv_iload_n hx hb dL_law_548 rfl (lv_at hl 0 rfl) ?_
  refine lv_iconst (v := 2) hx hb dL_law_549 (by decide) ?_
  refine lv_iadd hx hb dL_law_550 ?_
  refine va_sld hx hb hX hbl hbA hE.2.2 (lw_in (k := 2) (v := 2) rfl (by omega) hL) dL_law_551 ?_
  refine xx_cVi (n := 2) hZ hE (As := [.int (xs ((nI i + (1 : Int32))).toNatClampNeg), .int (xs ((nI i + (2 : Int32))).toNatClampNeg)]) (rest := [.int (A)]) k_X7 (sh_is hSh (by decide) (by decide)) tl_86 tl_87 (c_X7_reach l D cA ad 66 (xs ((nI i + (1 : Int32))).toNatClampNeg) (xs ((nI i + (2 : Int32))).toNatClampNeg) M (A, M2) g2) ⟨tl_88, tl_8, by decide +kernel, by decide +kernel, by decide +kernel⟩ tl_89 ⟨rfl, rfl⟩ ⟨(Nat.le_of_ble_eq_true rfl), (Nat.le_of_ble_eq_true rfl)⟩ rfl hl.1 rfl (Nat.le_of_ble_eq_true rfl) ⟨Nat.le_trans (Nat.le_of_eq (Nat.add_zero _)) hcl, Nat.le_trans (Nat.le_of_eq (Nat.add_zero _)) hsl⟩ dL_law_552 (fun H locs hE => ?_)
  refine lv_icmp_eq (tgt := 759) hx hb dL_law_555 (by decide) (fun hc => ?_) (fun hc => absurd rfl hc)
  exact kk cg M2 H locs (by omega) g3 hE
set_option maxHeartbeats 4000000 in
set_option maxRecDepth 100000 in
theorem lw_k11 (hZ : Zs p c code s m #[Value.ref b] R_law 4 D cA (fun q => s.heap.size ≤ q)) (hX : va_X b L xs s s.heap) (hbl : b < s.heap.size) (hE : En D cA ad s (fun q => s.heap.size ≤ q) M H locs) (I : Inv cg M) (hcg : cg + 1 < 2 ^ 30) (hi : i + 5 < L) (hL : L ≤ 3072) (hcl : cells ≤ room_1.cells) (hsl : slots ≤ room_1.slots) (hl : lv_has ls 4 [(3, .int (nI i)), (2, .ref (ad 66)), (1, .ref (ad 0)), (0, .ref b)]) (kk : ∀ (cg1 : Nat) (M1 : Mm) (H1 : Heap) (locs1 : List Loc), cg1 ≤ cg + 1 → Inv cg1 M1 → En D cA ad s (fun q => s.heap.size ≤ q) M1 H1 locs1 → W p l e room_1 s m #[Value.ref b] below meth c H1 locs1 cells slots Q (F0 m 759 ls [])) : W p l e room_1 s m #[Value.ref b] below meth c H locs cells slots Q (F0 m 560 ls []) := by
  obtain ⟨hx, hb, hml, hown, hts, hnw, hK, hA⟩ := id hZ
  have hbA : ¬ (fun q : Nat => s.heap.size ≤ q) b := Nat.not_le.mpr hbl
  have hSh := I.1
  obtain ⟨A, M1, M2, cg1, g1, hS1, g2, g3, g4, g5, g6⟩ := s_run (a := xs ((nI i + (1 : Int32))).toNatClampNeg) (b := xs ((nI i + (2 : Int32))).toNatClampNeg) (c := xs ((nI i + (3 : Int32))).toNatClampNeg) (e := (((xs ((nI i + (4 : Int32))).toNatClampNeg).toInt64 <<< ((32 : Int32).toInt64 &&& 63)) ||| ((xs ((nI i + (5 : Int32))).toNatClampNeg).toInt64 &&& (4294967295 : Int64)))) I
  refine lv_aload_n hx hb dL_law_560 rfl (lv_at hl 2 rfl) ?_
  refine lv_aload_n hx hb dL_law_561 rfl (lv_at hl 3 rfl) ?_
  refine lv_iload_n hx hb dL_law_562 rfl (lv_at hl 0 rfl) ?_
  refine lv_iconst (v := 1) hx hb dL_law_563 (by decide) ?_
  refine lv_iadd hx hb dL_law_564 ?_
  refine va_sld hx hb hX hbl hbA hE.2.2 (lw_in (k := 1) (v := 1) rfl (by omega) hL) dL_law_565 ?_
  refine lv_aload_n hx hb dL_law_566 rfl (lv_at hl 3 rfl) ?_
  refine lv_iload_n hx hb dL_law_567 rfl (lv_at hl 0 rfl) ?_
  refine lv_iconst (v := 2) hx hb dL_law_568 (by decide) ?_
  refine lv_iadd hx hb dL_law_569 ?_
  refine va_sld hx hb hX hbl hbA hE.2.2 (lw_in (k := 2) (v := 2) rfl (by omega) hL) dL_law_570 ?_
  refine lv_aload_n hx hb dL_law_571 rfl (lv_at hl 3 rfl) ?_
  refine lv_iload_n hx hb dL_law_572 rfl (lv_at hl 0 rfl) ?_
  refine lv_iconst (v := 3) hx hb dL_law_573 (by decide) ?_
  refine lv_iadd hx hb dL_law_574 ?_
  refine va_sld hx hb hX hbl hbA hE.2.2 (lw_in (k := 3) (v := 3) rfl (by omega) hL) dL_law_575 ?_
  refine lv_aload_n hx hb dL_law_576 rfl (lv_at hl 3 rfl) ?_
  refine lv_iload_n hx hb dL_law_577 rfl (lv_at hl 0 rfl) ?_
  refine lv_iconst (v := 4) hx hb dL_law_578 (by decide) ?_
  refine lv_iadd hx hb dL_law_579 ?_
  refine va_sld hx hb hX hbl hbA hE.2.2 (lw_in (k := 4) (v := 4) rfl (by omega) hL) dL_law_580 ?_
  refine lv_i2l hx hb dL_law_581 rfl ?_
  refine lv_bipush (v := 32) hx hb dL_law_582 (by decide) ?_
  refine lv_lshl hx hb dL_law_584 rfl ?_
  refine lv_aload_n hx hb dL_law_585 rfl (lv_at hl 3 rfl) ?_
  refine lv_iload_n hx hb dL_law_586 rfl (lv_at hl 0 rfl) ?_
  refine lv_iconst (v := 5) hx hb dL_law_587 (by decide) ?_
  refine lv_iadd hx hb dL_law_588 ?_
  refine va_sld hx hb hX hbl hbA hE.2.2 (lw_in (k := 5) (v := 5) rfl (by omega) hL) dL_law_589 ?_
  refine lv_i2l hx hb dL_law_590 rfl ?_
  refine lv_ldc2 (v := 4294967295) hx hb hown (hts _ tl_90) dL_law_591 ?_
  refine lv_land hx hb dL_law_594 ?_
  refine lv_lor hx hb dL_law_595 ?_
  refine xx_cVi (n := 4) hZ hE (As := [.int (xs ((nI i + (1 : Int32))).toNatClampNeg), .int (xs ((nI i + (2 : Int32))).toNatClampNeg), .int (xs ((nI i + (3 : Int32))).toNatClampNeg), .long ((((xs ((nI i + (4 : Int32))).toNatClampNeg).toInt64 <<< ((32 : Int32).toInt64 &&& 63)) ||| ((xs ((nI i + (5 : Int32))).toNatClampNeg).toInt64 &&& (4294967295 : Int64))))]) (rest := []) k_X6 (sh_is hSh (by decide) (by decide)) tl_91 tl_92 (c_X6_run l D cA ad 0 (xs ((nI i + (1 : Int32))).toNatClampNeg) (xs ((nI i + (2 : Int32))).toNatClampNeg) (xs ((nI i + (3 : Int32))).toNatClampNeg) ((((xs ((nI i + (4 : Int32))).toNatClampNeg).toInt64 <<< ((32 : Int32).toInt64 &&& 63)) ||| ((xs ((nI i + (5 : Int32))).toNatClampNeg).toInt64 &&& (4294967295 : Int64)))) M (A, M1) g1) ⟨tl_93, tl_3, by decide +kernel, by decide +kernel, by decide +kernel⟩ tl_94 ⟨rfl, rfl⟩ ⟨(Nat.le_of_ble_eq_true rfl), (Nat.le_of_ble_eq_true rfl)⟩ rfl hl.1 rfl (Nat.le_of_ble_eq_true rfl) ⟨Nat.le_trans (Nat.le_of_eq (Nat.add_zero _)) hcl, Nat.le_trans (Nat.le_of_eq (Nat.add_zero _)) hsl⟩ dL_law_596 (fun H locs hE => ?_)
  refine lv_aload_n hx hb dL_law_599 rfl (lv_at hl 1 rfl) ?_
  refine lv_aload_n hx hb dL_law_600 rfl (lv_at hl 3 rfl) ?_
  refine lv_iload_n hx hb dL_law_601 rfl (lv_at hl 0 rfl) ?_
  refine lv_iconst (v := 1) hx hb dL_law_602 (by decide) ?_
  refine lv_iadd hx hb dL_law_603 ?_
  refine va_sld hx hb hX hbl hbA hE.2.2 (lw_in (k := 1) (v := 1) rfl (by omega) hL) dL_law_604 ?_
  refine lv_aload_n hx hb dL_law_605 rfl (lv_at hl 3 rfl) ?_
  refine lv_iload_n hx hb dL_law_606 rfl (lv_at hl 0 rfl) ?_
  refine lv_iconst (v := 2) hx hb dL_law_607 (by decide) ?_
  refine lv_iadd hx hb dL_law_608 ?_
  refine va_sld hx hb hX hbl hbA hE.2.2 (lw_in (k := 2) (v := 2) rfl (by omega) hL) dL_law_609 ?_
  refine lv_aload_n hx hb dL_law_610 rfl (lv_at hl 3 rfl) ?_
  refine lv_iload_n hx hb dL_law_611 rfl (lv_at hl 0 rfl) ?_
  refine lv_iconst (v := 3) hx hb dL_law_612 (by decide) ?_
  refine lv_iadd hx hb dL_law_613 ?_
  refine va_sld hx hb hX hbl hbA hE.2.2 (lw_in (k := 3) (v := 3) rfl (by omega) hL) dL_law_614 ?_
  refine lv_aload_n hx hb dL_law_615 rfl (lv_at hl 3 rfl) ?_
  refine lv_iload_n hx hb dL_law_616 rfl (lv_at hl 0 rfl) ?_
  refine lv_iconst (v := 4) hx hb dL_law_617 (by decide) ?_
  refine lv_iadd hx hb dL_law_618 ?_
  refine va_sld hx hb hX hbl hbA hE.2.2 (lw_in (k := 4) (v := 4) rfl (by omega) hL) dL_law_619 ?_
  refine lv_i2l hx hb dL_law_620 rfl ?_
  refine lv_bipush (v := 32) hx hb dL_law_621 (by decide) ?_
  refine lv_lshl hx hb dL_law_623 rfl ?_
  refine lv_aload_n hx hb dL_law_624 rfl (lv_at hl 3 rfl) ?_
  refine lv_iload_n hx hb dL_law_625 rfl (lv_at hl 0 rfl) ?_
  refine lv_iconst (v := 5) hx hb dL_law_626 (by decide) ?_
  refine lv_iadd hx hb dL_law_627 ?_
  refine va_sld hx hb hX hbl hbA hE.2.2 (lw_in (k := 5) (v := 5) rfl (by omega) hL) dL_law_628 ?_
  refine lv_i2l hx hb dL_law_629 rfl ?_
  refine lv_ldc2 (v := 4294967295) hx hb hown (hts _ tl_90) dL_law_630 ?_
  refine lv_land hx hb dL_law_633 ?_
  refine lv_lor hx hb dL_law_634 ?_
  refine xx_cVi (n := 4) hZ hE (As := [.int (xs ((nI i + (1 : Int32))).toNatClampNeg), .int (xs ((nI i + (2 : Int32))).toNatClampNeg), .int (xs ((nI i + (3 : Int32))).toNatClampNeg), .long ((((xs ((nI i + (4 : Int32))).toNatClampNeg).toInt64 <<< ((32 : Int32).toInt64 &&& 63)) ||| ((xs ((nI i + (5 : Int32))).toNatClampNeg).toInt64 &&& (4294967295 : Int64))))]) (rest := [.int (A)]) k_X7 (sh_is hS1 (by decide) (by decide)) tl_95 tl_96 (c_X7_run l D cA ad 66 (xs ((nI i + (1 : Int32))).toNatClampNeg) (xs ((nI i + (2 : Int32))).toNatClampNeg) (xs ((nI i + (3 : Int32))).toNatClampNeg) ((((xs ((nI i + (4 : Int32))).toNatClampNeg).toInt64 <<< ((32 : Int32).toInt64 &&& 63)) ||| ((xs ((nI i + (5 : Int32))).toNatClampNeg).toInt64 &&& (4294967295 : Int64)))) M1 (A, M2) g2) ⟨tl_97, tl_8, by decide +kernel, by decide +kernel, by decide +kernel⟩ tl_98 ⟨rfl, rfl⟩ ⟨(Nat.le_of_ble_eq_true rfl), (Nat.le_of_ble_eq_true rfl)⟩ rfl hl.1 rfl (Nat.le_of_ble_eq_true rfl) ⟨Nat.le_trans (Nat.le_of_eq (Nat.add_zero _)) hcl, Nat.le_trans (Nat.le_of_eq (Nat.add_zero _)) hsl⟩ dL_law_635 (fun H locs hE => ?_)
  refine lv_icmp_eq (tgt := 759) hx hb dL_law_638 (by decide) (fun hc => ?_) (fun hc => absurd rfl hc)
  exact kk cg1 M2 H locs g5 ⟨g3, g6⟩ hE
set_option maxHeartbeats 4000000 in
set_option maxRecDepth 100000 in
theorem lw_k12 (hZ : Zs p c code s m #[Value.ref b] R_law 4 D cA (fun q => s.heap.size ≤ q)) (hX : va_X b L xs s s.heap) (hbl : b < s.heap.size) (hE : En D cA ad s (fun q => s.heap.size ≤ q) M H locs) (I : Inv cg M) (hcg : cg + 1 < 2 ^ 30) (hi : i + 5 < L) (hL : L ≤ 3072) (hcl : cells ≤ room_1.cells) (hsl : slots ≤ room_1.slots) (hl : lv_has ls 4 [(3, .int (nI i)), (2, .ref (ad 66)), (1, .ref (ad 0)), (0, .ref b)]) (kk : ∀ (cg1 : Nat) (M1 : Mm) (H1 : Heap) (locs1 : List Loc), cg1 ≤ cg + 1 → Inv cg1 M1 → En D cA ad s (fun q => s.heap.size ≤ q) M1 H1 locs1 → W p l e room_1 s m #[Value.ref b] below meth c H1 locs1 cells slots Q (F0 m 759 ls [])) : W p l e room_1 s m #[Value.ref b] below meth c H locs cells slots Q (F0 m 643 ls []) := by
  obtain ⟨hx, hb, hml, hown, hts, hnw, hK, hA⟩ := id hZ
  have hbA : ¬ (fun q : Nat => s.heap.size ≤ q) b := Nat.not_le.mpr hbl
  have hSh := I.1
  obtain ⟨A, g1, g2⟩ := s_trace (a := xs ((nI i + (1 : Int32))).toNatClampNeg) I
  refine lv_aload_n hx hb dL_law_643 rfl (lv_at hl 2 rfl) ?_
  refine lv_aload_n hx hb dL_law_644 rfl (lv_at hl 3 rfl) ?_
  refine lv_iload_n hx hb dL_law_645 rfl (lv_at hl 0 rfl) ?_
  refine lv_iconst (v := 1) hx hb dL_law_646 (by decide) ?_
  refine lv_iadd hx hb dL_law_647 ?_
  refine va_sld hx hb hX hbl hbA hE.2.2 (lw_in (k := 1) (v := 1) rfl (by omega) hL) dL_law_648 ?_
  refine xx_cVi (n := 1) hZ hE (As := [.int (xs ((nI i + (1 : Int32))).toNatClampNeg)]) (rest := []) k_X6 (sh_is hSh (by decide) (by decide)) tl_99 tl_100 (c_X6_trace l D cA ad 0 (xs ((nI i + (1 : Int32))).toNatClampNeg) M A g1) ⟨tl_101, tl_3, by decide +kernel, by decide +kernel, by decide +kernel⟩ tl_102 ⟨rfl, rfl⟩ ⟨(Nat.le_of_ble_eq_true rfl), (Nat.le_of_ble_eq_true rfl)⟩ rfl hl.1 rfl (Nat.le_of_ble_eq_true rfl) ⟨Nat.le_trans (Nat.le_of_eq (Nat.add_zero _)) hcl, Nat.le_trans (Nat.le_of_eq (Nat.add_zero _)) hsl⟩ dL_law_649 (fun H locs hE => ?_)
  refine lv_aload_n hx hb dL_law_652 rfl (lv_at hl 1 rfl) ?_
  refine lv_aload_n hx hb dL_law_653 rfl (lv_at hl 3 rfl) ?_
  refine lv_iload_n hx hb dL_law_654 rfl (lv_at hl 0 rfl) ?_
  refine lv_iconst (v := 1) hx hb dL_law_655 (by decide) ?_
  refine lv_iadd hx hb dL_law_656 ?_
  refine va_sld hx hb hX hbl hbA hE.2.2 (lw_in (k := 1) (v := 1) rfl (by omega) hL) dL_law_657 ?_
  refine xx_cVi (n := 1) hZ hE (As := [.int (xs ((nI i + (1 : Int32))).toNatClampNeg)]) (rest := [.int (A)]) k_X7 (sh_is hSh (by decide) (by decide)) tl_103 tl_104 (c_X7_trace l D cA ad 66 (xs ((nI i + (1 : Int32))).toNatClampNeg) M A g2) ⟨tl_105, tl_8, by decide +kernel, by decide +kernel, by decide +kernel⟩ tl_106 ⟨rfl, rfl⟩ ⟨(Nat.le_of_ble_eq_true rfl), (Nat.le_of_ble_eq_true rfl)⟩ rfl hl.1 rfl (Nat.le_of_ble_eq_true rfl) ⟨Nat.le_trans (Nat.le_of_eq (Nat.add_zero _)) hcl, Nat.le_trans (Nat.le_of_eq (Nat.add_zero _)) hsl⟩ dL_law_658 (fun H locs hE => ?_)
  refine lv_icmp_eq (tgt := 759) hx hb dL_law_661 (by decide) (fun hc => ?_) (fun hc => absurd rfl hc)
  exact kk cg M H locs (by omega) I hE
set_option maxHeartbeats 4000000 in
set_option maxRecDepth 100000 in
theorem lw_k13 (hZ : Zs p c code s m #[Value.ref b] R_law 4 D cA (fun q => s.heap.size ≤ q)) (hX : va_X b L xs s s.heap) (hbl : b < s.heap.size) (hE : En D cA ad s (fun q => s.heap.size ≤ q) M H locs) (I : Inv cg M) (hcg : cg + 1 < 2 ^ 30) (hi : i + 5 < L) (hL : L ≤ 3072) (hcl : cells ≤ room_1.cells) (hsl : slots ≤ room_1.slots) (hl : lv_has ls 4 [(3, .int (nI i)), (2, .ref (ad 66)), (1, .ref (ad 0)), (0, .ref b)]) (kk : ∀ (cg1 : Nat) (M1 : Mm) (H1 : Heap) (locs1 : List Loc), cg1 ≤ cg + 1 → Inv cg1 M1 → En D cA ad s (fun q => s.heap.size ≤ q) M1 H1 locs1 → W p l e room_1 s m #[Value.ref b] below meth c H1 locs1 cells slots Q (F0 m 759 ls [])) : W p l e room_1 s m #[Value.ref b] below meth c H locs cells slots Q (F0 m 666 ls []) := by
  obtain ⟨hx, hb, hml, hown, hts, hnw, hK, hA⟩ := id hZ
  have hbA : ¬ (fun q : Nat => s.heap.size ≤ q) b := Nat.not_le.mpr hbl
  have hSh := I.1
  obtain ⟨A, g1, g2⟩ := s_visits (a := xs ((nI i + (1 : Int32))).toNatClampNeg) I
  refine lv_aload_n hx hb dL_law_666 rfl (lv_at hl 2 rfl) ?_
  refine lv_aload_n hx hb dL_law_667 rfl (lv_at hl 3 rfl) ?_
  refine lv_iload_n hx hb dL_law_668 rfl (lv_at hl 0 rfl) ?_
  refine lv_iconst (v := 1) hx hb dL_law_669 (by decide) ?_
  refine lv_iadd hx hb dL_law_670 ?_
  refine va_sld hx hb hX hbl hbA hE.2.2 (lw_in (k := 1) (v := 1) rfl (by omega) hL) dL_law_671 ?_
  refine xx_cVi (n := 1) hZ hE (As := [.int (xs ((nI i + (1 : Int32))).toNatClampNeg)]) (rest := []) k_X6 (sh_is hSh (by decide) (by decide)) tl_107 tl_108 (c_X6_visits l D cA ad 0 (xs ((nI i + (1 : Int32))).toNatClampNeg) M A g1) ⟨tl_109, tl_3, by decide +kernel, by decide +kernel, by decide +kernel⟩ tl_110 ⟨rfl, rfl⟩ ⟨(Nat.le_of_ble_eq_true rfl), (Nat.le_of_ble_eq_true rfl)⟩ rfl hl.1 rfl (Nat.le_of_ble_eq_true rfl) ⟨Nat.le_trans (Nat.le_of_eq (Nat.add_zero _)) hcl, Nat.le_trans (Nat.le_of_eq (Nat.add_zero _)) hsl⟩ dL_law_672 (fun H locs hE => ?_)
  refine lv_aload_n hx hb dL_law_675 rfl (lv_at hl 1 rfl) ?_
  refine lv_aload_n hx hb dL_law_676 rfl (lv_at hl 3 rfl) ?_
  refine lv_iload_n hx hb dL_law_677 rfl (lv_at hl 0 rfl) ?_
  refine lv_iconst (v := 1) hx hb dL_law_678 (by decide) ?_
  refine lv_iadd hx hb dL_law_679 ?_
  refine va_sld hx hb hX hbl hbA hE.2.2 (lw_in (k := 1) (v := 1) rfl (by omega) hL) dL_law_680 ?_
  refine xx_cVi (n := 1) hZ hE (As := [.int (xs ((nI i + (1 : Int32))).toNatClampNeg)]) (rest := [.int (A)]) k_X7 (sh_is hSh (by decide) (by decide)) tl_111 tl_112 (c_X7_visits l D cA ad 66 (xs ((nI i + (1 : Int32))).toNatClampNeg) M A g2) ⟨tl_113, tl_8, by decide +kernel, by decide +kernel, by decide +kernel⟩ tl_114 ⟨rfl, rfl⟩ ⟨(Nat.le_of_ble_eq_true rfl), (Nat.le_of_ble_eq_true rfl)⟩ rfl hl.1 rfl (Nat.le_of_ble_eq_true rfl) ⟨Nat.le_trans (Nat.le_of_eq (Nat.add_zero _)) hcl, Nat.le_trans (Nat.le_of_eq (Nat.add_zero _)) hsl⟩ dL_law_681 (fun H locs hE => ?_)
  refine lv_icmp_eq (tgt := 759) hx hb dL_law_684 (by decide) (fun hc => ?_) (fun hc => absurd rfl hc)
  exact kk cg M H locs (by omega) I hE
set_option maxHeartbeats 4000000 in
set_option maxRecDepth 100000 in
theorem lw_k14 (hZ : Zs p c code s m #[Value.ref b] R_law 4 D cA (fun q => s.heap.size ≤ q)) (hX : va_X b L xs s s.heap) (hbl : b < s.heap.size) (hE : En D cA ad s (fun q => s.heap.size ≤ q) M H locs) (I : Inv cg M) (hcg : cg + 1 < 2 ^ 30) (hi : i + 5 < L) (hL : L ≤ 3072) (hcl : cells ≤ room_1.cells) (hsl : slots ≤ room_1.slots) (hl : lv_has ls 4 [(3, .int (nI i)), (2, .ref (ad 66)), (1, .ref (ad 0)), (0, .ref b)]) (kk : ∀ (cg1 : Nat) (M1 : Mm) (H1 : Heap) (locs1 : List Loc), cg1 ≤ cg + 1 → Inv cg1 M1 → En D cA ad s (fun q => s.heap.size ≤ q) M1 H1 locs1 → W p l e room_1 s m #[Value.ref b] below meth c H1 locs1 cells slots Q (F0 m 759 ls [])) : W p l e room_1 s m #[Value.ref b] below meth c H locs cells slots Q (F0 m 689 ls []) := by
  obtain ⟨hx, hb, hml, hown, hts, hnw, hK, hA⟩ := id hZ
  have hbA : ¬ (fun q : Nat => s.heap.size ≤ q) b := Nat.not_le.mpr hbl
  have hSh := I.1
  obtain ⟨A, g1, g2⟩ := s_refused  I
  refine lv_aload_n hx hb dL_law_689 rfl (lv_at hl 2 rfl) ?_
  refine xx_cVi (n := 0) hZ hE (As := []) (rest := []) k_X6 (sh_is hSh (by decide) (by decide)) tl_115 tl_116 (c_X6_refused l D cA ad 0  M A g1) ⟨tl_117, tl_3, by decide +kernel, by decide +kernel, by decide +kernel⟩ tl_118 ⟨rfl, rfl⟩ ⟨(Nat.le_of_ble_eq_true rfl), (Nat.le_of_ble_eq_true rfl)⟩ rfl hl.1 rfl (Nat.le_of_ble_eq_true rfl) ⟨Nat.le_trans (Nat.le_of_eq (Nat.add_zero _)) hcl, Nat.le_trans (Nat.le_of_eq (Nat.add_zero _)) hsl⟩ dL_law_690 (fun H locs hE => ?_)
  refine lv_aload_n hx hb dL_law_693 rfl (lv_at hl 1 rfl) ?_
  refine xx_cVi (n := 0) hZ hE (As := []) (rest := [.int (A)]) k_X7 (sh_is hSh (by decide) (by decide)) tl_119 tl_120 (c_X7_refused l D cA ad 66  M A g2) ⟨tl_121, tl_8, by decide +kernel, by decide +kernel, by decide +kernel⟩ tl_122 ⟨rfl, rfl⟩ ⟨(Nat.le_of_ble_eq_true rfl), (Nat.le_of_ble_eq_true rfl)⟩ rfl hl.1 rfl (Nat.le_of_ble_eq_true rfl) ⟨Nat.le_trans (Nat.le_of_eq (Nat.add_zero _)) hcl, Nat.le_trans (Nat.le_of_eq (Nat.add_zero _)) hsl⟩ dL_law_694 (fun H locs hE => ?_)
  refine lv_icmp_eq (tgt := 759) hx hb dL_law_697 (by decide) (fun hc => ?_) (fun hc => absurd rfl hc)
  exact kk cg M H locs (by omega) I hE
set_option maxHeartbeats 4000000 in
set_option maxRecDepth 100000 in
theorem lw_k15 (hZ : Zs p c code s m #[Value.ref b] R_law 4 D cA (fun q => s.heap.size ≤ q)) (hX : va_X b L xs s s.heap) (hbl : b < s.heap.size) (hE : En D cA ad s (fun q => s.heap.size ≤ q) M H locs) (I : Inv cg M) (hcg : cg + 1 < 2 ^ 30) (hi : i + 5 < L) (hL : L ≤ 3072) (hcl : cells ≤ room_1.cells) (hsl : slots ≤ room_1.slots) (hl : lv_has ls 4 [(3, .int (nI i)), (2, .ref (ad 66)), (1, .ref (ad 0)), (0, .ref b)]) (kk : ∀ (cg1 : Nat) (M1 : Mm) (H1 : Heap) (locs1 : List Loc), cg1 ≤ cg + 1 → Inv cg1 M1 → En D cA ad s (fun q => s.heap.size ≤ q) M1 H1 locs1 → W p l e room_1 s m #[Value.ref b] below meth c H1 locs1 cells slots Q (F0 m 759 ls [])) : W p l e room_1 s m #[Value.ref b] below meth c H locs cells slots Q (F0 m 702 ls []) := by
  obtain ⟨hx, hb, hml, hown, hts, hnw, hK, hA⟩ := id hZ
  have hbA : ¬ (fun q : Nat => s.heap.size ≤ q) b := Nat.not_le.mpr hbl
  have hSh := I.1
  obtain ⟨A, g1, g2⟩ := s_together (a := xs ((nI i + (1 : Int32))).toNatClampNeg) (b := xs ((nI i + (2 : Int32))).toNatClampNeg) I
  refine lv_aload_n hx hb dL_law_702 rfl (lv_at hl 2 rfl) ?_
  refine lv_aload_n hx hb dL_law_703 rfl (lv_at hl 3 rfl) ?_
  refine lv_iload_n hx hb dL_law_704 rfl (lv_at hl 0 rfl) ?_
  refine lv_iconst (v := 1) hx hb dL_law_705 (by decide) ?_
  refine lv_iadd hx hb dL_law_706 ?_
  refine va_sld hx hb hX hbl hbA hE.2.2 (lw_in (k := 1) (v := 1) rfl (by omega) hL) dL_law_707 ?_
  refine lv_aload_n hx hb dL_law_708 rfl (lv_at hl 3 rfl) ?_
  refine lv_iload_n hx hb dL_law_709 rfl (lv_at hl 0 rfl) ?_
  refine lv_iconst (v := 2) hx hb dL_law_710 (by decide) ?_
  refine lv_iadd hx hb dL_law_711 ?_
  refine va_sld hx hb hX hbl hbA hE.2.2 (lw_in (k := 2) (v := 2) rfl (by omega) hL) dL_law_712 ?_
  refine xx_cVl (n := 2) hZ hE (As := [.int (xs ((nI i + (1 : Int32))).toNatClampNeg), .int (xs ((nI i + (2 : Int32))).toNatClampNeg)]) (rest := []) k_X6 (sh_is hSh (by decide) (by decide)) tl_123 tl_124 (c_X6_together l D cA ad 0 (xs ((nI i + (1 : Int32))).toNatClampNeg) (xs ((nI i + (2 : Int32))).toNatClampNeg) M A g1) ⟨tl_125, tl_3, by decide +kernel, by decide +kernel, by decide +kernel⟩ tl_126 ⟨rfl, rfl⟩ ⟨(Nat.le_of_ble_eq_true rfl), (Nat.le_of_ble_eq_true rfl)⟩ rfl hl.1 rfl (Nat.le_of_ble_eq_true rfl) ⟨Nat.le_trans (Nat.le_of_eq (Nat.add_zero _)) hcl, Nat.le_trans (Nat.le_of_eq (Nat.add_zero _)) hsl⟩ dL_law_713 (fun H locs hE => ?_)
  refine lv_aload_n hx hb dL_law_716 rfl (lv_at hl 1 rfl) ?_
  refine lv_aload_n hx hb dL_law_717 rfl (lv_at hl 3 rfl) ?_
  refine lv_iload_n hx hb dL_law_718 rfl (lv_at hl 0 rfl) ?_
  refine lv_iconst (v := 1) hx hb dL_law_719 (by decide) ?_
  refine lv_iadd hx hb dL_law_720 ?_
  refine va_sld hx hb hX hbl hbA hE.2.2 (lw_in (k := 1) (v := 1) rfl (by omega) hL) dL_law_721 ?_
  refine lv_aload_n hx hb dL_law_722 rfl (lv_at hl 3 rfl) ?_
  refine lv_iload_n hx hb dL_law_723 rfl (lv_at hl 0 rfl) ?_
  refine lv_iconst (v := 2) hx hb dL_law_724 (by decide) ?_
  refine lv_iadd hx hb dL_law_725 ?_
  refine va_sld hx hb hX hbl hbA hE.2.2 (lw_in (k := 2) (v := 2) rfl (by omega) hL) dL_law_726 ?_
  refine xx_cVl (n := 2) hZ hE (As := [.int (xs ((nI i + (1 : Int32))).toNatClampNeg), .int (xs ((nI i + (2 : Int32))).toNatClampNeg)]) (rest := [.long (A)]) k_X7 (sh_is hSh (by decide) (by decide)) tl_127 tl_128 (c_X7_together l D cA ad 66 (xs ((nI i + (1 : Int32))).toNatClampNeg) (xs ((nI i + (2 : Int32))).toNatClampNeg) M A g2) ⟨tl_129, tl_8, by decide +kernel, by decide +kernel, by decide +kernel⟩ tl_130 ⟨rfl, rfl⟩ ⟨(Nat.le_of_ble_eq_true rfl), (Nat.le_of_ble_eq_true rfl)⟩ rfl hl.1 rfl (Nat.le_of_ble_eq_true rfl) ⟨Nat.le_trans (Nat.le_of_eq (Nat.add_zero _)) hcl, Nat.le_trans (Nat.le_of_eq (Nat.add_zero _)) hsl⟩ dL_law_727 (fun H locs hE => ?_)
  refine xx_leq (tgt := 759) hx hb dL_law_730 dL_law_731 (by decide) (fun hc => ?_) (fun hc => absurd rfl hc)
  exact kk cg M H locs (by omega) I hE
set_option maxHeartbeats 4000000 in
set_option maxRecDepth 100000 in
theorem lw_k16 (hZ : Zs p c code s m #[Value.ref b] R_law 4 D cA (fun q => s.heap.size ≤ q)) (hX : va_X b L xs s s.heap) (hbl : b < s.heap.size) (hE : En D cA ad s (fun q => s.heap.size ≤ q) M H locs) (I : Inv cg M) (hcg : cg + 1 < 2 ^ 30) (hi : i + 5 < L) (hL : L ≤ 3072) (hcl : cells ≤ room_1.cells) (hsl : slots ≤ room_1.slots) (hl : lv_has ls 4 [(3, .int (nI i)), (2, .ref (ad 66)), (1, .ref (ad 0)), (0, .ref b)]) (kk : ∀ (cg1 : Nat) (M1 : Mm) (H1 : Heap) (locs1 : List Loc), cg1 ≤ cg + 1 → Inv cg1 M1 → En D cA ad s (fun q => s.heap.size ≤ q) M1 H1 locs1 → W p l e room_1 s m #[Value.ref b] below meth c H1 locs1 cells slots Q (F0 m 759 ls [])) : W p l e room_1 s m #[Value.ref b] below meth c H locs cells slots Q (F0 m 736 ls []) := by
  obtain ⟨hx, hb, hml, hown, hts, hnw, hK, hA⟩ := id hZ
  have hbA : ¬ (fun q : Nat => s.heap.size ≤ q) b := Nat.not_le.mpr hbl
  have hSh := I.1
  obtain ⟨A, g1, g2⟩ := s_count (a := xs ((nI i + (1 : Int32))).toNatClampNeg) I
  refine lv_aload_n hx hb dL_law_736 rfl (lv_at hl 2 rfl) ?_
  refine lv_aload_n hx hb dL_law_737 rfl (lv_at hl 3 rfl) ?_
  refine lv_iload_n hx hb dL_law_738 rfl (lv_at hl 0 rfl) ?_
  refine lv_iconst (v := 1) hx hb dL_law_739 (by decide) ?_
  refine lv_iadd hx hb dL_law_740 ?_
  refine va_sld hx hb hX hbl hbA hE.2.2 (lw_in (k := 1) (v := 1) rfl (by omega) hL) dL_law_741 ?_
  refine xx_cVi (n := 1) hZ hE (As := [.int (xs ((nI i + (1 : Int32))).toNatClampNeg)]) (rest := []) k_X6 (sh_is hSh (by decide) (by decide)) tl_131 tl_132 (c_X6_count l D cA ad 0 (xs ((nI i + (1 : Int32))).toNatClampNeg) M A g1) ⟨tl_133, tl_3, by decide +kernel, by decide +kernel, by decide +kernel⟩ tl_134 ⟨rfl, rfl⟩ ⟨(Nat.le_of_ble_eq_true rfl), (Nat.le_of_ble_eq_true rfl)⟩ rfl hl.1 rfl (Nat.le_of_ble_eq_true rfl) ⟨Nat.le_trans (Nat.le_of_eq (Nat.add_zero _)) hcl, Nat.le_trans (Nat.le_of_eq (Nat.add_zero _)) hsl⟩ dL_law_742 (fun H locs hE => ?_)
  refine lv_aload_n hx hb dL_law_745 rfl (lv_at hl 1 rfl) ?_
  refine lv_aload_n hx hb dL_law_746 rfl (lv_at hl 3 rfl) ?_
  refine lv_iload_n hx hb dL_law_747 rfl (lv_at hl 0 rfl) ?_
  refine lv_iconst (v := 1) hx hb dL_law_748 (by decide) ?_
  refine lv_iadd hx hb dL_law_749 ?_
  refine va_sld hx hb hX hbl hbA hE.2.2 (lw_in (k := 1) (v := 1) rfl (by omega) hL) dL_law_750 ?_
  refine xx_cVi (n := 1) hZ hE (As := [.int (xs ((nI i + (1 : Int32))).toNatClampNeg)]) (rest := [.int (A)]) k_X7 (sh_is hSh (by decide) (by decide)) tl_135 tl_136 (c_X7_count l D cA ad 66 (xs ((nI i + (1 : Int32))).toNatClampNeg) M A g2) ⟨tl_137, tl_8, by decide +kernel, by decide +kernel, by decide +kernel⟩ tl_138 ⟨rfl, rfl⟩ ⟨(Nat.le_of_ble_eq_true rfl), (Nat.le_of_ble_eq_true rfl)⟩ rfl hl.1 rfl (Nat.le_of_ble_eq_true rfl) ⟨Nat.le_trans (Nat.le_of_eq (Nat.add_zero _)) hcl, Nat.le_trans (Nat.le_of_eq (Nat.add_zero _)) hsl⟩ dL_law_751 (fun H locs hE => ?_)
  refine lv_icmp_eq (tgt := 759) hx hb dL_law_754 (by decide) (fun hc => ?_) (fun hc => absurd rfl hc)
  exact kk cg M H locs (by omega) I hE
end
