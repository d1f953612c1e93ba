def mA0 : Mm := (0, (fun _ => 0), (fun _ => 0), (fun _ _ => none), (fun _ _ => 0), (fun _ _ => 0))
theorem wf_A0 : Wf mA0 := fun i k r hi _ => absurd (show i < 0 from hi) (by omega)
def mA1 : Mm := i_X7 (i_X6 mA0)
theorem a1_N : mm_N mA1 = 83 := by decide +kernel
theorem a1_K : ∀ q, q < 83 → mm_K mA1 q = KK q ∧ mm_S mA1 q = SS q := by decide +kernel
theorem a1_R : ∀ x ∈ sh_RL, mm_R mA1 x.1 x.2.1 = some x.2.2 := by decide +kernel
theorem a1_M : ∀ m, m < 10 → mm_I mA1 (7 + 5 * m) 10 = 0 := by decide +kernel
theorem a1_I : mm_I mA1 57 7 = nI 1 ∧ mm_I mA1 1 0 = 0 ∧ mm_I mA1 1 1 = 0 ∧ mm_I mA1 0 5 = 0 ∧ mm_I mA1 64 3 = -1 ∧ mm_I mA1 66 0 = 0 ∧ mm_I mA1 66 2 = 0 ∧ mm_I mA1 66 4 = 0 ∧ mm_I mA1 66 17 = -1 := by decide +kernel
theorem inv_A1 : Inv 1 mA1 := ⟨⟨a1_N, a1_K, a1_R⟩, Or.inl ⟨⟨a1_I.1, by omega, fun m hm => ⟨0, by omega, a1_M m hm⟩⟩, a1_I.2⟩⟩
theorem lw_end {L i : Nat} (hL : L ≤ 3072) (hi : i ≤ L) (hc : ¬ (Int32.ofNat L - (6 : Int32) < nI i)) : i + 5 < L := by
  rw [Int32.lt_iff_toInt_lt, Int32.toInt_sub, show (Int32.ofNat L).toInt = (L : Int) from nI_toInt (by omega), nI_toInt (by omega), show (6 : Int32).toInt = 6 from rfl, Int.bmod_def] at hc
  split at hc <;> omega
set_option maxHeartbeats 4000000 in
set_option maxRecDepth 100000 in
theorem law_loop {p : Program} {l : Launch} {e : Env} {s : State} {m : MethodId} {below : List Frame} {meth : Method} {c : Code} {D : va_G} {cA : Nat → ClassId} {ad : Nat → Nat} {b L : Nat} {xs : Nat → Int32} (hL : L ≤ 3072) (C0 : lw_At p s m meth c b L xs) (hZ : Zs p c code s m #[Value.ref b] R_law 4 D cA (fun q => s.heap.size ≤ q)) :
    ∀ (n i cg : Nat) (M : Mm) (H : Heap) (locs : List Loc) (ls : Array Slot), i ≤ L → L + 7 ≤ i + n → cg ≤ 1 + i → Inv cg M → En D cA ad s (fun q => s.heap.size ≤ q) M H locs → lv_has ls 4 [(3, .int (nI i)), (2, .ref (ad 66)), (1, .ref (ad 0)), (0, .ref b)] → W p l e room_1 s m #[Value.ref b] below meth c H locs 83 18865 (lw_Z below #[Value.ref b] s) (F0 m 18 ls []) := by
  obtain ⟨hx, hb, hr, hml, hown, hts0, hX, hbl, hlocks, hgv⟩ := id C0
  have hbA : ¬ (fun q : Nat => s.heap.size ≤ q) b := Nat.not_le.mpr hbl
  intro n
  induction n with
  | zero =>
    intro i cg M H locs ls h1 h2
    exact absurd h2 (by omega)
  | succ n ih =>
    intro i cg M H locs ls h1 h2 h3 I hE hl
    refine lv_iload_n hx hb dL_law_18 rfl (lv_at hl 0 rfl) ?_
    refine lv_aload_n hx hb dL_law_19 rfl (lv_at hl 3 rfl) ?_
    refine va_slen hx hb hX hbl hbA hE.2.2 dL_law_20 ?_
    refine lv_bipush (v := 6) hx hb dL_law_21 (by decide) ?_
    refine lv_isub hx hb dL_law_23 ?_
    refine lv_icmp_gt (tgt := 765) hx hb dL_law_24 (by decide) (fun hc => ?_) (fun hc => ?_)
    · refine lv_iconst (v := 1) hx hb dL_law_765 (by decide) ?_
      refine va_forget (fun q hq => hE.2.2.2.2 q hq) ?_
      refine W.widen (k := 600000) (n := 7302250) (Nat.le_of_ble_eq_true rfl) (Nat.le_of_ble_eq_true rfl) ?_
      exact lw_ret hx hb hr hlocks dL_law_766
    · have hi := lw_end hL h1 hc
      have nxt : ∀ (cg1 : Nat) (M1 : Mm) (H1 : Heap) (locs1 : List Loc), cg1 ≤ cg + 1 → Inv cg1 M1 → En D cA ad s (fun q => s.heap.size ≤ q) M1 H1 locs1 → W p l e room_1 s m #[Value.ref b] below meth c H1 locs1 83 18865 (lw_Z below #[Value.ref b] s) (F0 m 759 ls []) := by
        intro cg1 M1 H1 locs1 k1 k2 k3
        refine lv_iinc (v := (nI i + 6)) (lv' := [(3, .int (nI i + 6)), (2, .ref (ad 66)), (1, .ref (ad 0)), (0, .ref b)]) hx hb dL_law_759 hl (k := 0) rfl rfl (by decide) rfl (fun ls hl => ?_)
        refine lv_goto (tgt := 18) hx hb dL_law_762 (by decide) ?_
        rw [show nI i + 6 = nI (i + 6) from nI_add i 6] at hl
        exact ih (i + 6) cg1 M1 H1 locs1 ls (by omega) (by omega) (by omega) k2 k3 hl
      have hcg : cg + 1 < 2 ^ 30 := by omega
      have hcl : (83 : Nat) ≤ room_1.cells := Nat.le_of_ble_eq_true rfl
      have hsl : (18865 : Nat) ≤ room_1.slots := Nat.le_of_ble_eq_true rfl
      refine lv_aload_n hx hb dL_law_27 rfl (lv_at hl 3 rfl) ?_
      refine lv_iload_n hx hb dL_law_28 rfl (lv_at hl 0 rfl) ?_
      refine va_sld hx hb hX hbl hbA hE.2.2 (vp_in_nI (by omega) (by omega)) dL_law_29 ?_
      refine lv_bipush (v := 31) hx hb dL_law_30 (by decide) ?_
      refine lv_iand hx hb dL_law_32 ?_
      generalize xs (nI i).toNatClampNeg &&& (31 : Int32) = x
      by_cases q : ok 17 x
      · obtain ⟨k, hk, ek⟩ := q
        have kc : k = 0 ∨ k = 1 ∨ k = 2 ∨ k = 3 ∨ k = 4 ∨ k = 5 ∨ k = 6 ∨ k = 7 ∨ k = 8 ∨ k = 9 ∨ k = 10 ∨ k = 11 ∨ k = 12 ∨ k = 13 ∨ k = 14 ∨ k = 15 ∨ k = 16 := by omega
        rcases kc with rfl | rfl | rfl | rfl | rfl | rfl | rfl | rfl | rfl | rfl | rfl | rfl | rfl | rfl | rfl | rfl | rfl
        · refine xx_tsw (off := 83) (tgt := 116) hx hb dL_law_33 0 ek (by decide) (by decide) ?_
          exact lw_k0 hZ hX hbl hE I hcg hi hL hcl hsl hl nxt
        · refine xx_tsw (off := 136) (tgt := 169) hx hb dL_law_33 1 ek (by decide) (by decide) ?_
          exact lw_k1 hZ hX hbl hE I hcg hi hL hcl hsl hl nxt
        · refine xx_tsw (off := 169) (tgt := 202) hx hb dL_law_33 2 ek (by decide) (by decide) ?_
          exact lw_k2 hZ hX hbl hE I hcg hi hL hcl hsl hl nxt
        · refine xx_tsw (off := 222) (tgt := 255) hx hb dL_law_33 3 ek (by decide) (by decide) ?_
          exact lw_k3 hZ hX hbl hE I hcg hi hL hcl hsl hl nxt
        · refine xx_tsw (off := 255) (tgt := 288) hx hb dL_law_33 4 ek (by decide) (by decide) ?_
          exact lw_k4 hZ hX hbl hE I hcg hi hL hcl hsl hl nxt
        · refine xx_tsw (off := 298) (tgt := 331) hx hb dL_law_33 5 ek (by decide) (by decide) ?_
          exact lw_k5 hZ hX hbl hE I hcg hi hL hcl hsl hl nxt
        · refine xx_tsw (off := 341) (tgt := 374) hx hb dL_law_33 6 ek (by decide) (by decide) ?_
          exact lw_k6 hZ hX hbl hE I hcg hi hL hcl hsl hl nxt
        · refine xx_tsw (off := 394) (tgt := 427) hx hb dL_law_33 7 ek (by decide) (by decide) ?_
          exact lw_k7 hZ hX hbl hE I hcg hi hL hcl hsl hl nxt
        · refine xx_tsw (off := 448) (tgt := 481) hx hb dL_law_33 8 ek (by decide) (by decide) ?_
          exact lw_k8 hZ hX hbl hE I hcg hi hL hcl hsl hl nxt
        · refine xx_tsw (off := 471) (tgt := 504) hx hb dL_law_33 9 ek (by decide) (by decide) ?_
          exact lw_k9 hZ hX hbl hE I hcg hi hL hcl hsl hl nxt
        · refine xx_tsw (off := 494) (tgt := 527) hx hb dL_law_33 10 ek (by decide) (by decide) ?_
          exact lw_k10 hZ hX hbl hE I hcg hi hL hcl hsl hl nxt
        · refine xx_tsw (off := 527) (tgt := 560) hx hb dL_law_33 11 ek (by decide) (by decide) ?_
          exact lw_k11 hZ hX hbl hE I hcg hi hL hcl hsl hl nxt
        · refine xx_tsw (off := 610) (tgt := 643) hx hb dL_law_33 12 ek (by decide) (by decide) ?_
          exact lw_k12 hZ hX hbl hE I hcg hi hL hcl hsl hl nxt
        · refine xx_tsw (off := 633) (tgt := 666) hx hb dL_law_33 13 ek (by decide) (by decide) ?_
          exact lw_k13 hZ hX hbl hE I hcg hi hL hcl hsl hl nxt
        · refine xx_tsw (off := 656) (tgt := 689) hx hb dL_law_33 14 ek (by decide) (by decide) ?_
          exact lw_k14 hZ hX hbl hE I hcg hi hL hcl hsl hl nxt
        · refine xx_tsw (off := 669) (tgt := 702) hx hb dL_law_33 15 ek (by decide) (by decide) ?_
          exact lw_k15 hZ hX hbl hE I hcg hi hL hcl hsl hl nxt
        · refine xx_tsw (off := 703) (tgt := 736) hx hb dL_law_33 16 ek (by decide) (by decide) ?_
          exact lw_k16 hZ hX hbl hE I hcg hi hL hcl hsl hl nxt
      · have ho : x.toInt < 0 ∨ 16 < x.toInt := by
          rcases nok (by omega) q with h0 | h0
          · left
            rw [Int32.lt_iff_toInt_lt] at h0
            exact h0
          · right
            rw [Int32.le_iff_toInt_le, show (nI 17).toInt = 17 from rfl] at h0
            omega
        refine lv_tableOut (tgt := 759) hx hb dL_law_33 ho (by decide) ?_
        exact nxt cg M H locs (by omega) I hE
set_option maxHeartbeats 4000000 in
set_option maxRecDepth 100000 in
theorem whole_start {p : Program} {e : Env} {s : State} {m : MethodId} {below : List Frame} {meth : Method} {c : Code} (l : Launch) {b L : Nat} {xs : Nat → Int32} (hL : L ≤ 3072) (C0 : lw_At p s m meth c b L xs) : W p l e room_1 s m #[Value.ref b] below meth c s.heap [] 0 0 (lw_Z below #[Value.ref b] s) (entryFrame m ([Value.ref b] : List Value).toArray 4) := by
  obtain ⟨hx, hb, hr, hml, hown, hts0, hX, hbl, hlocks, hgv⟩ := id C0
  have hts : ∀ w ∈ WT, w.before #[Value.ref b] s = true := fun w h => hts0 w (List.mem_filter.mp h).1
  have hA : ∀ q : Nat, s.heap.size ≤ q → (fun q : Nat => s.heap.size ≤ q) q := fun _ h => h
  obtain ⟨c0, iS0, hKn0⟩ := u_known (C := RX0) (T := TX0) (N := 8) (n := 8) hts in_X0 (hts _ tz_in0)
  obtain ⟨c1, iS1, hKn1⟩ := u_known (C := RX1) (T := TX1) (N := 3) (n := 3) hts in_X1 (hts _ tz_in1)
  obtain ⟨c2, iS2, hKn2⟩ := u_known (C := RX2) (T := TX2) (N := 11) (n := 11) hts in_X2 (hts _ tz_in2)
  obtain ⟨c3, iS3, hKn3⟩ := u_known (C := RX3) (T := TX3) (N := 6) (n := 6) hts in_X3 (hts _ tz_in3)
  obtain ⟨c4, iS4, hKn4⟩ := u_known (C := RX4) (T := TX4) (N := 2) (n := 2) hts in_X4 (hts _ tz_in4)
  obtain ⟨c5, iS5, hKn5⟩ := u_known (C := RX5) (T := TX5) (N := 6) (n := 6) hts in_X5 (hts _ tz_in5)
  obtain ⟨c6, iS6, hKn6⟩ := u_known (C := RX6) (T := TX6) (N := 6) (n := 6) hts in_X6 (hts _ tz_in6)
  obtain ⟨c7, iS7, hKn7⟩ := u_known (C := RX7) (T := TX7) (N := 24) (n := 24) hts in_X7 (hts _ tz_in7)
  obtain ⟨dC, dI, hKc⟩ : ∃ (dC : Nat → ClassId) (dI : Nat → Nat → Nat), ∀ (k : Nat) (q : vw_C), vwCl[k]? = some q → u_Kn s q.1 q.2.1 q.2.2 (dC k) (dI k) := by
    refine ⟨fun k => if k = 0 then c0 else if k = 1 then c1 else if k = 2 then c2 else if k = 3 then c3 else if k = 4 then c4 else if k = 5 then c5 else if k = 6 then c6 else c7, fun k => if k = 0 then iS0 else if k = 1 then iS1 else if k = 2 then iS2 else if k = 3 then iS3 else if k = 4 then iS4 else if k = 5 then iS5 else if k = 6 then iS6 else iS7, ?_⟩
    intro k q hq
    match k, hq with
    | 0, hq => cases hq; exact hKn0
    | 1, hq => cases hq; exact hKn1
    | 2, hq => cases hq; exact hKn2
    | 3, hq => cases hq; exact hKn3
    | 4, hq => cases hq; exact hKn4
    | 5, hq => cases hq; exact hKn5
    | 6, hq => cases hq; exact hKn6
    | 7, hq => cases hq; exact hKn7
    | k + 8, hq => simp [vwCl] at hq
  obtain ⟨cI, kI, oI, fI1, fI2, fI3⟩ := Cond.arrayClass_spec (hts _ tz_aI)
  obtain ⟨cL, kL, oL, fL1, fL2, fL3⟩ := Cond.arrayClass_spec (hts _ tz_aL)
  obtain ⟨cZ, kZ, oZ, fZ1, fZ2, fZ3⟩ := Cond.arrayClass_spec (hts _ tz_aZ)
  obtain ⟨oM, cM, kM, fM1, fM2, fM3, fM4, fM5⟩ := Cond.arrayOver_spec (hts0 _ tz_ao)
  have hO : va_AO "ChainMoves$Move" s := va_AO.of (hts0 _ tz_ao)
  obtain ⟨cA, hKt⟩ : ∃ cA : Nat → ClassId, ∀ (k : Nat) (q : ClassId × FieldType), (mm_tys cA)[k]? = some q → ArrOfT s q.1 q.2 ∧ va_RA s q.1 q.2 := by
    refine ⟨fun t => if t = 0 then cI else if t = 1 then cL else if t = 2 then cZ else cM, ?_⟩
    intro k q hq
    match k, hq with
    | 0, hq => cases hq; exact ⟨fun n z => ⟨fun k h => (by cases h), kI, fI2, oI, fI3⟩, fI1⟩
    | 1, hq => cases hq; exact ⟨fun n z => ⟨fun k h => (by cases h), kL, fL2, oL, fL3⟩, fL1⟩
    | 2, hq => cases hq; exact ⟨fun n z => ⟨fun k h => (by cases h), kZ, fZ2, oZ, fZ3⟩, fZ1⟩
    | 3, hq => cases hq; exact ⟨fun n z => ⟨fun k h => (by cases h), kM, fM3, oM, fM4⟩, kM, oM, fM3, fM4, fM1, fM5⟩
    | k + 4, hq => simp [mm_tys] at hq
  have hK : va_K (dC, dI) vwCl (mm_tys cA) s := ⟨hKc, hKt⟩
  have hZ : Zs p c code s m #[Value.ref b] R_law 4 (dC, dI) cA (fun q => s.heap.size ≤ q) := ⟨hx, hb, hml, hown, hts, fun w h => va_Nw.of (nw_on (List.mem_filter.mp h).2) (hts0 w (List.mem_filter.mp h).1), hK, hA⟩
  have h0 : mm_w cA (fun _ => 0) mA0 = [] := rfl
  have hE : En (dC, dI) cA (fun _ => 0) s (fun q => s.heap.size ≤ q) mA0 s.heap [] := by
    refine ⟨?_, ?_, va_S.rf⟩
    · rw [h0]
      exact fun k q h => by simp at h
    · rw [h0]
      exact ⟨fun i j p q h => by simp at h, fun k q h => by simp at h⟩
  have hl := lv_entry ([.ref b]) (n := 4) (Nat.le_of_ble_eq_true rfl)
  rw [lg_entry_eq]
  generalize (lg_sl ([.ref b]) ++ List.replicate (4 - (lg_sl ([.ref b])).length) Slot.unset).toArray = ls at hl ⊢
  have hl : lv_has ls 4 [(0, .ref b)] := hl
  refine xn_O (rest := []) hZ hE wf_A0 k_X6 df_X6 tz_cl6 tz_in6 tz_ini6 (Nat.le_of_ble_eq_true rfl) (Nat.le_of_ble_eq_true rfl) dL_law_0 (fun ad1 x0 H e0 hq1 hE => ?_)
  refine lv_dup hx hb dL_law_3 rfl ?_
  refine xn_cI (As := []) (As' := []) (rest := [.ref x0]) hZ hO hE tz_im6 (c_X6_init l (dC, dI) cA _ _ wf_A0) e0 rfl ⟨tz_cd6, tz_ini6, by decide +kernel, by decide +kernel, by decide +kernel⟩ tz_ml6 rfl ⟨rfl, rfl⟩ ⟨(Nat.le_of_ble_eq_true rfl), (Nat.le_of_ble_eq_true rfl)⟩ rfl hl.1 rfl (Nat.le_of_ble_eq_true rfl) ⟨(Nat.le_of_ble_eq_true rfl), (Nat.le_of_ble_eq_true rfl)⟩ dL_law_4 (fun ad2 H locs hq2 hE => ?_)
  have e0 := (hq2 0 (show 0 < 1 by omega)).trans e0
  refine lv_astore_n (lv' := [(1, .ref x0), (0, .ref b)]) hx hb dL_law_7 rfl hl (by decide) rfl (fun ls hl => ?_)
  refine xn_O (rest := []) hZ hE (wf_X6 wf_A0) k_X7 df_X7 tz_cl7 tz_in7 tz_ini7 (Nat.le_of_ble_eq_true rfl) (Nat.le_of_ble_eq_true rfl) dL_law_8 (fun ad3 x66 H e66 hq3 hE => ?_)
  have e0 := (hq3 0 (show 0 < 66 by omega)).trans e0
  refine lv_dup hx hb dL_law_11 rfl ?_
  refine xn_cI (As := []) (As' := []) (rest := [.ref x66]) hZ hO hE tz_im7 (c_X7_init l (dC, dI) cA _ _ (wf_X6 wf_A0)) e66 rfl ⟨tz_cd7, tz_ini7, by decide +kernel, by decide +kernel, by decide +kernel⟩ tz_ml7 rfl ⟨rfl, rfl⟩ ⟨(Nat.le_of_ble_eq_true rfl), (Nat.le_of_ble_eq_true rfl)⟩ rfl hl.1 rfl (Nat.le_of_ble_eq_true rfl) ⟨(Nat.le_of_ble_eq_true rfl), (Nat.le_of_ble_eq_true rfl)⟩ dL_law_12 (fun ad4 H locs hq4 hE => ?_)
  have e0 : ad4 0 = x0 := (hq4 0 (show 0 < 67 by omega)).trans e0
  have e66 : ad4 66 = x66 := (hq4 66 (show 66 < 67 by omega)).trans e66
  refine lv_astore_n (lv' := [(2, .ref x66), (1, .ref x0), (0, .ref b)]) hx hb dL_law_15 rfl hl (by decide) rfl (fun ls hl => ?_)
  refine lv_iconst (v := 0) hx hb dL_law_16 (by decide) ?_
  refine lv_istore_n (lv' := [(3, .int 0), (2, .ref x66), (1, .ref x0), (0, .ref b)]) hx hb dL_law_17 rfl hl (by decide) rfl (fun ls hl => ?_)
  rw [← e0, ← e66] at hl
  exact law_loop hL C0 hZ (L + 7) 0 1 mA1 H locs ls (Nat.zero_le L) (by omega) (by omega) inv_A1 hE hl
