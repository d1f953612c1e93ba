def i_X0 (M0 : Mm) (sp mv : Nat) : Mm := mm_wR (mm_wR (mm_wI (mm_wR (i_X1 (mm_wR (i_X1 (mm_wR (i_X1 (mm_wR (i_X1 (mm_wR (i_X1 (mm_push M0 0 0)) (mm_N M0) 2 (some (mm_N M0 + 1)))) (mm_N M0) 3 (some (mm_N M0 + 2)))) (mm_N M0) 4 (some (mm_N M0 + 3)))) (mm_N M0) 5 (some (mm_N M0 + 4)))) (mm_N M0) 6 (some (mm_N M0 + 5))) (mm_N M0) 7 (1 : Int32)) (mm_N M0) 0 (some (sp))) (mm_N M0) 1 (some (mv))
set_option maxRecDepth 100000 in
theorem wf_X0 {M0 : Mm} {sp : Nat} {mv : Nat} (hw : Wf M0) (hsp : sp < mm_N M0) (hmv : mv < mm_N M0) : Wf (i_X0 M0 sp mv) := wf_wR (q := mm_N M0) (k := 1) (x := mv) (wf_wR (q := mm_N M0) (k := 0) (x := sp) (wf_wI (q := mm_N M0) (k := 7) (x := (1 : Int32)) (wf_wR (q := mm_N M0) (k := 6) (x := mm_N M0 + 5) (wf_X1 (wf_wR (q := mm_N M0) (k := 5) (x := mm_N M0 + 4) (wf_X1 (wf_wR (q := mm_N M0) (k := 4) (x := mm_N M0 + 3) (wf_X1 (wf_wR (q := mm_N M0) (k := 3) (x := mm_N M0 + 2) (wf_X1 (wf_wR (q := mm_N M0) (k := 2) (x := mm_N M0 + 1) (wf_X1 (wf_push (c := 0) (n := 0) hw)) (show mm_N M0 + 1 < mm_N M0 + 2 by omega))) (show mm_N M0 + 2 < mm_N M0 + 3 by omega))) (show mm_N M0 + 3 < mm_N M0 + 4 by omega))) (show mm_N M0 + 4 < mm_N M0 + 5 by omega))) (show mm_N M0 + 5 < mm_N M0 + 6 by omega))) (show sp < mm_N M0 + 6 by omega)) (show mv < mm_N M0 + 6 by omega)
set_option maxRecDepth 100000 in
theorem is_X0 {M0 : Mm} {sp : Nat} {mv : Nat} {q c : Nat} (h : mm_is M0 q c) : mm_is (i_X0 M0 sp mv) q c := is_wR (a := mm_N M0) (k := 1) (x := some (mv)) (is_wR (a := mm_N M0) (k := 0) (x := some (sp)) (is_wI (a := mm_N M0) (k := 7) (x := (1 : Int32)) (is_wR (a := mm_N M0) (k := 6) (x := some (mm_N M0 + 5)) (is_X1 (is_wR (a := mm_N M0) (k := 5) (x := some (mm_N M0 + 4)) (is_X1 (is_wR (a := mm_N M0) (k := 4) (x := some (mm_N M0 + 3)) (is_X1 (is_wR (a := mm_N M0) (k := 3) (x := some (mm_N M0 + 2)) (is_X1 (is_wR (a := mm_N M0) (k := 2) (x := some (mm_N M0 + 1)) (is_X1 (is_push (c := 0) (n := 0) h)))))))))))))
set_option maxRecDepth 100000 in
theorem is_X0_new {M0 : Mm} {sp : Nat} {mv : Nat} : mm_is (i_X0 M0 sp mv) (mm_N M0) 0 := is_wR (a := mm_N M0) (k := 1) (x := some (mv)) (is_wR (a := mm_N M0) (k := 0) (x := some (sp)) (is_wI (a := mm_N M0) (k := 7) (x := (1 : Int32)) (is_wR (a := mm_N M0) (k := 6) (x := some (mm_N M0 + 5)) (is_X1 (is_wR (a := mm_N M0) (k := 5) (x := some (mm_N M0 + 4)) (is_X1 (is_wR (a := mm_N M0) (k := 4) (x := some (mm_N M0 + 3)) (is_X1 (is_wR (a := mm_N M0) (k := 3) (x := some (mm_N M0 + 2)) (is_X1 (is_wR (a := mm_N M0) (k := 2) (x := some (mm_N M0 + 1)) (is_X1 (is_new (c := 0) (n := 0))))))))))))))
set_option maxRecDepth 100000 in
theorem sz_X0 {M0 : Mm} {sp : Nat} {mv : Nat} {q : Nat} (h : q < mm_N M0) : mm_S (i_X0 M0 sp mv) q = mm_S M0 q := ((sz_wR (a := mm_N M0) (k := 1) (x := some (mv))).trans ((sz_wR (a := mm_N M0) (k := 0) (x := some (sp))).trans ((sz_wI (a := mm_N M0) (k := 7) (x := (1 : Int32))).trans ((sz_wR (a := mm_N M0) (k := 6) (x := some (mm_N M0 + 5))).trans ((sz_X1 (show q < mm_N M0 + 5 by omega)).trans ((sz_wR (a := mm_N M0) (k := 5) (x := some (mm_N M0 + 4))).trans ((sz_X1 (show q < mm_N M0 + 4 by omega)).trans ((sz_wR (a := mm_N M0) (k := 4) (x := some (mm_N M0 + 3))).trans ((sz_X1 (show q < mm_N M0 + 3 by omega)).trans ((sz_wR (a := mm_N M0) (k := 3) (x := some (mm_N M0 + 2))).trans ((sz_X1 (show q < mm_N M0 + 2 by omega)).trans ((sz_wR (a := mm_N M0) (k := 2) (x := some (mm_N M0 + 1))).trans ((sz_X1 (show q < mm_N M0 + 1 by omega)).trans (sz_push (c := 0) (n := 0) h))))))))))))))
theorem szp_X0 {M0 : Mm} {sp : Nat} {mv : Nat} {q v : Nat} (hs : mm_S M0 q = v) (h : q < mm_N M0) : mm_S (i_X0 M0 sp mv) q = v := (sz_X0 h).trans hs
def rm_X0_init : Room := { frames := 2, cells := 5, slots := 15, locals := 32 }
set_option maxHeartbeats 4000000 in
set_option maxRecDepth 100000 in
theorem c_X0_init (l : Launch) (D : va_G) (cA : Nat → ClassId) (ad : Nat → Nat) (M0 : Mm) (hw : Wf M0) (sp : Nat) (hsp : sp < mm_N M0) (mv : Nat) (hmv : mv < mm_N M0) : KC l yX0_init cX0_init 3 rm_X0_init D cA ad [.ref (ad (mm_N M0)), .ref (ad sp), .ref (ad mv)] (mm_push M0 0 0) (i_X0 M0 sp mv) 5 15 := by
  refine KC_of (by decide) (Nat.le_of_ble_eq_true rfl) rfl ?_
  intro p e s m args below meth c ls Q A H locs hZ hO hin hE hl hret
  obtain ⟨hx, hb, hml, hown, hts, hnw, hK, hA⟩ := id hZ
  have hw := wf_push (c := 0) (n := 0) hw
  have hi : mm_is (mm_push M0 0 0) (mm_N M0) 0 := is_new
  obtain ⟨x0, e0⟩ : ∃ x, ad (mm_N M0) = x := ⟨_, rfl⟩
  obtain ⟨x1, e1⟩ : ∃ x, ad (sp) = x := ⟨_, rfl⟩
  obtain ⟨x2, e2⟩ : ∃ x, ad (mv) = x := ⟨_, rfl⟩
  have hl : lv_has ls 3 [(0, .ref (ad (mm_N M0))), (1, .ref (ad (sp))), (2, .ref (ad (mv)))] := hl
  rw [e0, e1, e2] at hl
  have had : ∀ i, i < mm_N M0 + 1 → ad i = ad i := fun _ _ => rfl
  refine lv_aload_n hx hb dX0_init_0 rfl (lv_at hl 0 rfl) ?_
  refine W.objInit hx hb hown (hts _ tn_17) (hts _ tn_1) (hts _ tn_2) rfl (by rw [hml]; exact hl.1) rfl dX0_init_1 (Nat.le_of_ble_eq_true rfl) (Nat.le_of_ble_eq_true rfl) ?_
  change W p l e rm_X0_init s m args below meth c H locs 0 0 Q (F0 m 4 ls [])
  refine lv_aload_n hx hb dX0_init_4 rfl (lv_at hl 0 rfl) ?_
  have hw3 := hw
  have hi3 := hi
  refine xn_O (rest := [.ref x0]) hZ hE hw k_X1 df_X1 tn_18 tn_19 tn_20 (Nat.le_of_ble_eq_true rfl) (Nat.le_of_ble_eq_true rfl) dX0_init_5 (fun ad1 x3 H e3 hq hE => ?_)
  have e3 : ad1 (mm_N M0 + 1) = x3 := e3
  have e0 := (hq (mm_N M0) (show mm_N M0 < mm_N M0 + 1 by omega)).trans e0
  have e1 := (hq (sp) (show sp < mm_N M0 + 1 by omega)).trans e1
  have e2 := (hq (mv) (show mv < mm_N M0 + 1 by omega)).trans e2
  have had : ∀ i, i < mm_N M0 + 1 → ad1 i = ad i := fun i h0 => (hq i (show i < mm_N M0 + 1 by omega)).trans (had i h0)
  have hw := wf_push (c := 1) (n := 0) hw
  have hi := is_push (c := 1) (n := 0) hi
  refine lv_dup hx hb dX0_init_8 rfl ?_
  refine xn_cN (n := 0) (As := []) (As' := []) (rest := [.ref x3, .ref x0]) hZ hO hE tn_21 (c_X1_init l D cA _ _ hw3) e3 rfl ⟨tn_22, tn_20, by decide +kernel, by decide +kernel, by decide +kernel⟩ tn_23 rfl ⟨rfl, rfl⟩ ⟨(Nat.le_of_ble_eq_true rfl), (Nat.le_of_ble_eq_true rfl)⟩ rfl hl.1 rfl (Nat.le_of_ble_eq_true rfl) ⟨(Nat.le_of_ble_eq_true rfl), (Nat.le_of_ble_eq_true rfl)⟩ dX0_init_9 (fun ad2 H locs hq hE => ?_)
  have e0 := (hq (mm_N M0) (show mm_N M0 < mm_N M0 + 2 by omega)).trans e0
  have e1 := (hq (sp) (show sp < mm_N M0 + 2 by omega)).trans e1
  have e2 := (hq (mv) (show mv < mm_N M0 + 2 by omega)).trans e2
  have e3 := (hq (mm_N M0 + 1) (show mm_N M0 + 1 < mm_N M0 + 2 by omega)).trans e3
  have had : ∀ i, i < mm_N M0 + 1 → ad2 i = ad i := fun i h0 => (hq i (show i < mm_N M0 + 2 by omega)).trans (had i h0)
  have hw := wf_X1 hw3
  have hi := is_X1 hi3
  refine xn_p (q := mm_N M0) (r := mm_N M0 + 1) (rest := []) hZ hE k_X0 2 (by decide) rfl rfl hin rfl rfl (fun _ => rfl) (fun _ => rfl) tn_24 hi e0 e3 dX0_init_12 (fun H locs hE => ?_)
  have hw := wf_wR (q := mm_N M0) (k := 2) (x := mm_N M0 + 1) hw (show mm_N M0 + 1 < mm_N M0 + 2 by omega)
  have hi := is_wR (a := mm_N M0) (k := 2) (x := some (mm_N M0 + 1)) hi
  refine lv_aload_n hx hb dX0_init_15 rfl (lv_at hl 0 rfl) ?_
  have hw4 := hw
  have hi4 := hi
  refine xn_O (rest := [.ref x0]) hZ hE hw k_X1 df_X1 tn_18 tn_19 tn_20 (Nat.le_of_ble_eq_true rfl) (Nat.le_of_ble_eq_true rfl) dX0_init_16 (fun ad3 x4 H e4 hq hE => ?_)
  have e4 : ad3 (mm_N M0 + 2) = x4 := e4
  have e0 := (hq (mm_N M0) (show mm_N M0 < mm_N M0 + 2 by omega)).trans e0
  have e1 := (hq (sp) (show sp < mm_N M0 + 2 by omega)).trans e1
  have e2 := (hq (mv) (show mv < mm_N M0 + 2 by omega)).trans e2
  have e3 := (hq (mm_N M0 + 1) (show mm_N M0 + 1 < mm_N M0 + 2 by omega)).trans e3
  have had : ∀ i, i < mm_N M0 + 1 → ad3 i = ad i := fun i h0 => (hq i (show i < mm_N M0 + 2 by omega)).trans (had i h0)
  have hw := wf_push (c := 1) (n := 0) hw
  have hi := is_push (c := 1) (n := 0) hi
  refine lv_dup hx hb dX0_init_19 rfl ?_
  refine xn_cN (n := 0) (As := []) (As' := []) (rest := [.ref x4, .ref x0]) hZ hO hE tn_21 (c_X1_init l D cA _ _ hw4) e4 rfl ⟨tn_22, tn_20, by decide +kernel, by decide +kernel, by decide +kernel⟩ tn_23 rfl ⟨rfl, rfl⟩ ⟨(Nat.le_of_ble_eq_true rfl), (Nat.le_of_ble_eq_true rfl)⟩ rfl hl.1 rfl (Nat.le_of_ble_eq_true rfl) ⟨(Nat.le_of_ble_eq_true rfl), (Nat.le_of_ble_eq_true rfl)⟩ dX0_init_20 (fun ad4 H locs hq hE => ?_)
  have e0 := (hq (mm_N M0) (show mm_N M0 < mm_N M0 + 3 by omega)).trans e0
  have e1 := (hq (sp) (show sp < mm_N M0 + 3 by omega)).trans e1
  have e2 := (hq (mv) (show mv < mm_N M0 + 3 by omega)).trans e2
  have e3 := (hq (mm_N M0 + 1) (show mm_N M0 + 1 < mm_N M0 + 3 by omega)).trans e3
  have e4 := (hq (mm_N M0 + 2) (show mm_N M0 + 2 < mm_N M0 + 3 by omega)).trans e4
  have had : ∀ i, i < mm_N M0 + 1 → ad4 i = ad i := fun i h0 => (hq i (show i < mm_N M0 + 3 by omega)).trans (had i h0)
  have hw := wf_X1 hw4
  have hi := is_X1 hi4
  refine xn_p (q := mm_N M0) (r := mm_N M0 + 2) (rest := []) hZ hE k_X0 3 (by decide) rfl rfl hin rfl rfl (fun _ => rfl) (fun _ => rfl) tn_25 hi e0 e4 dX0_init_23 (fun H locs hE => ?_)
  have hw := wf_wR (q := mm_N M0) (k := 3) (x := mm_N M0 + 2) hw (show mm_N M0 + 2 < mm_N M0 + 3 by omega)
  have hi := is_wR (a := mm_N M0) (k := 3) (x := some (mm_N M0 + 2)) hi
  refine lv_aload_n hx hb dX0_init_26 rfl (lv_at hl 0 rfl) ?_
  have hw5 := hw
  have hi5 := hi
  refine xn_O (rest := [.ref x0]) hZ hE hw k_X1 df_X1 tn_18 tn_19 tn_20 (Nat.le_of_ble_eq_true rfl) (Nat.le_of_ble_eq_true rfl) dX0_init_27 (fun ad5 x5 H e5 hq hE => ?_)
  have e5 : ad5 (mm_N M0 + 3) = x5 := e5
  have e0 := (hq (mm_N M0) (show mm_N M0 < mm_N M0 + 3 by omega)).trans e0
  have e1 := (hq (sp) (show sp < mm_N M0 + 3 by omega)).trans e1
  have e2 := (hq (mv) (show mv < mm_N M0 + 3 by omega)).trans e2
  have e3 := (hq (mm_N M0 + 1) (show mm_N M0 + 1 < mm_N M0 + 3 by omega)).trans e3
  have e4 := (hq (mm_N M0 + 2) (show mm_N M0 + 2 < mm_N M0 + 3 by omega)).trans e4
  have had : ∀ i, i < mm_N M0 + 1 → ad5 i = ad i := fun i h0 => (hq i (show i < mm_N M0 + 3 by omega)).trans (had i h0)
  have hw := wf_push (c := 1) (n := 0) hw
  have hi := is_push (c := 1) (n := 0) hi
  refine lv_dup hx hb dX0_init_30 rfl ?_
  refine xn_cN (n := 0) (As := []) (As' := []) (rest := [.ref x5, .ref x0]) hZ hO hE tn_21 (c_X1_init l D cA _ _ hw5) e5 rfl ⟨tn_22, tn_20, by decide +kernel, by decide +kernel, by decide +kernel⟩ tn_23 rfl ⟨rfl, rfl⟩ ⟨(Nat.le_of_ble_eq_true rfl), (Nat.le_of_ble_eq_true rfl)⟩ rfl hl.1 rfl (Nat.le_of_ble_eq_true rfl) ⟨(Nat.le_of_ble_eq_true rfl), (Nat.le_of_ble_eq_true rfl)⟩ dX0_init_31 (fun ad6 H locs hq hE => ?_)
  have e0 := (hq (mm_N M0) (show mm_N M0 < mm_N M0 + 4 by omega)).trans e0
  have e1 := (hq (sp) (show sp < mm_N M0 + 4 by omega)).trans e1
  have e2 := (hq (mv) (show mv < mm_N M0 + 4 by omega)).trans e2
  have e3 := (hq (mm_N M0 + 1) (show mm_N M0 + 1 < mm_N M0 + 4 by omega)).trans e3
  have e4 := (hq (mm_N M0 + 2) (show mm_N M0 + 2 < mm_N M0 + 4 by omega)).trans e4
  have e5 := (hq (mm_N M0 + 3) (show mm_N M0 + 3 < mm_N M0 + 4 by omega)).trans e5
  have had : ∀ i, i < mm_N M0 + 1 → ad6 i = ad i := fun i h0 => (hq i (show i < mm_N M0 + 4 by omega)).trans (had i h0)
  have hw := wf_X1 hw5
  have hi := is_X1 hi5
  refine xn_p (q := mm_N M0) (r := mm_N M0 + 3) (rest := []) hZ hE k_X0 4 (by decide) rfl rfl hin rfl rfl (fun _ => rfl) (fun _ => rfl) tn_26 hi e0 e5 dX0_init_34 (fun H locs hE => ?_)
  have hw := wf_wR (q := mm_N M0) (k := 4) (x := mm_N M0 + 3) hw (show mm_N M0 + 3 < mm_N M0 + 4 by omega)
  have hi := is_wR (a := mm_N M0) (k := 4) (x := some (mm_N M0 + 3)) hi
  refine lv_aload_n hx hb dX0_init_37 rfl (lv_at hl 0 rfl) ?_
  have hw6 := hw
  have hi6 := hi
  refine xn_O (rest := [.ref x0]) hZ hE hw k_X1 df_X1 tn_18 tn_19 tn_20 (Nat.le_of_ble_eq_true rfl) (Nat.le_of_ble_eq_true rfl) dX0_init_38 (fun ad7 x6 H e6 hq hE => ?_)
  have e6 : ad7 (mm_N M0 + 4) = x6 := e6
  have e0 := (hq (mm_N M0) (show mm_N M0 < mm_N M0 + 4 by omega)).trans e0
  have e1 := (hq (sp) (show sp < mm_N M0 + 4 by omega)).trans e1
  have e2 := (hq (mv) (show mv < mm_N M0 + 4 by omega)).trans e2
  have e3 := (hq (mm_N M0 + 1) (show mm_N M0 + 1 < mm_N M0 + 4 by omega)).trans e3
  have e4 := (hq (mm_N M0 + 2) (show mm_N M0 + 2 < mm_N M0 + 4 by omega)).trans e4
  have e5 := (hq (mm_N M0 + 3) (show mm_N M0 + 3 < mm_N M0 + 4 by omega)).trans e5
  have had : ∀ i, i < mm_N M0 + 1 → ad7 i = ad i := fun i h0 => (hq i (show i < mm_N M0 + 4 by omega)).trans (had i h0)
  have hw := wf_push (c := 1) (n := 0) hw
  have hi := is_push (c := 1) (n := 0) hi
  refine lv_dup hx hb dX0_init_41 rfl ?_
  refine xn_cN (n := 0) (As := []) (As' := []) (rest := [.ref x6, .ref x0]) hZ hO hE tn_21 (c_X1_init l D cA _ _ hw6) e6 rfl ⟨tn_22, tn_20, by decide +kernel, by decide +kernel, by decide +kernel⟩ tn_23 rfl ⟨rfl, rfl⟩ ⟨(Nat.le_of_ble_eq_true rfl), (Nat.le_of_ble_eq_true rfl)⟩ rfl hl.1 rfl (Nat.le_of_ble_eq_true rfl) ⟨(Nat.le_of_ble_eq_true rfl), (Nat.le_of_ble_eq_true rfl)⟩ dX0_init_42 (fun ad8 H locs hq hE => ?_)
  have e0 := (hq (mm_N M0) (show mm_N M0 < mm_N M0 + 5 by omega)).trans e0
  have e1 := (hq (sp) (show sp < mm_N M0 + 5 by omega)).trans e1
  have e2 := (hq (mv) (show mv < mm_N M0 + 5 by omega)).trans e2
  have e3 := (hq (mm_N M0 + 1) (show mm_N M0 + 1 < mm_N M0 + 5 by omega)).trans e3
  have e4 := (hq (mm_N M0 + 2) (show mm_N M0 + 2 < mm_N M0 + 5 by omega)).trans e4
  have e5 := (hq (mm_N M0 + 3) (show mm_N M0 + 3 < mm_N M0 + 5 by omega)).trans e5
  have e6 := (hq (mm_N M0 + 4) (show mm_N M0 + 4 < mm_N M0 + 5 by omega)).trans e6
  have had : ∀ i, i < mm_N M0 + 1 → ad8 i = ad i := fun i h0 => (hq i (show i < mm_N M0 + 5 by omega)).trans (had i h0)
  have hw := wf_X1 hw6
  have hi := is_X1 hi6
  refine xn_p (q := mm_N M0) (r := mm_N M0 + 4) (rest := []) hZ hE k_X0 5 (by decide) rfl rfl hin rfl rfl (fun _ => rfl) (fun _ => rfl) tn_27 hi e0 e6 dX0_init_45 (fun H locs hE => ?_)
  have hw := wf_wR (q := mm_N M0) (k := 5) (x := mm_N M0 + 4) hw (show mm_N M0 + 4 < mm_N M0 + 5 by omega)
  have hi := is_wR (a := mm_N M0) (k := 5) (x := some (mm_N M0 + 4)) hi
  refine lv_aload_n hx hb dX0_init_48 rfl (lv_at hl 0 rfl) ?_
  have hw7 := hw
  have hi7 := hi
  refine xn_O (rest := [.ref x0]) hZ hE hw k_X1 df_X1 tn_18 tn_19 tn_20 (Nat.le_of_ble_eq_true rfl) (Nat.le_of_ble_eq_true rfl) dX0_init_49 (fun ad9 x7 H e7 hq hE => ?_)
  have e7 : ad9 (mm_N M0 + 5) = x7 := e7
  have e0 := (hq (mm_N M0) (show mm_N M0 < mm_N M0 + 5 by omega)).trans e0
  have e1 := (hq (sp) (show sp < mm_N M0 + 5 by omega)).trans e1
  have e2 := (hq (mv) (show mv < mm_N M0 + 5 by omega)).trans e2
  have e3 := (hq (mm_N M0 + 1) (show mm_N M0 + 1 < mm_N M0 + 5 by omega)).trans e3
  have e4 := (hq (mm_N M0 + 2) (show mm_N M0 + 2 < mm_N M0 + 5 by omega)).trans e4
  have e5 := (hq (mm_N M0 + 3) (show mm_N M0 + 3 < mm_N M0 + 5 by omega)).trans e5
  have e6 := (hq (mm_N M0 + 4) (show mm_N M0 + 4 < mm_N M0 + 5 by omega)).trans e6
  have had : ∀ i, i < mm_N M0 + 1 → ad9 i = ad i := fun i h0 => (hq i (show i < mm_N M0 + 5 by omega)).trans (had i h0)
  have hw := wf_push (c := 1) (n := 0) hw
  have hi := is_push (c := 1) (n := 0) hi
  refine lv_dup hx hb dX0_init_52 rfl ?_
  refine xn_cN (n := 0) (As := []) (As' := []) (rest := [.ref x7, .ref x0]) hZ hO hE tn_21 (c_X1_init l D cA _ _ hw7) e7 rfl ⟨tn_22, tn_20, by decide +kernel, by decide +kernel, by decide +kernel⟩ tn_23 rfl ⟨rfl, rfl⟩ ⟨(Nat.le_of_ble_eq_true rfl), (Nat.le_of_ble_eq_true rfl)⟩ rfl hl.1 rfl (Nat.le_of_ble_eq_true rfl) ⟨(Nat.le_of_ble_eq_true rfl), (Nat.le_of_ble_eq_true rfl)⟩ dX0_init_53 (fun ad10 H locs hq hE => ?_)
  have e0 := (hq (mm_N M0) (show mm_N M0 < mm_N M0 + 6 by omega)).trans e0
  have e1 := (hq (sp) (show sp < mm_N M0 + 6 by omega)).trans e1
  have e2 := (hq (mv) (show mv < mm_N M0 + 6 by omega)).trans e2
  have e3 := (hq (mm_N M0 + 1) (show mm_N M0 + 1 < mm_N M0 + 6 by omega)).trans e3
  have e4 := (hq (mm_N M0 + 2) (show mm_N M0 + 2 < mm_N M0 + 6 by omega)).trans e4
  have e5 := (hq (mm_N M0 + 3) (show mm_N M0 + 3 < mm_N M0 + 6 by omega)).trans e5
  have e6 := (hq (mm_N M0 + 4) (show mm_N M0 + 4 < mm_N M0 + 6 by omega)).trans e6
  have e7 := (hq (mm_N M0 + 5) (show mm_N M0 + 5 < mm_N M0 + 6 by omega)).trans e7
  have had : ∀ i, i < mm_N M0 + 1 → ad10 i = ad i := fun i h0 => (hq i (show i < mm_N M0 + 6 by omega)).trans (had i h0)
  have hw := wf_X1 hw7
  have hi := is_X1 hi7
  refine xn_p (q := mm_N M0) (r := mm_N M0 + 5) (rest := []) hZ hE k_X0 6 (by decide) rfl rfl hin rfl rfl (fun _ => rfl) (fun _ => rfl) tn_28 hi e0 e7 dX0_init_56 (fun H locs hE => ?_)
  have hw := wf_wR (q := mm_N M0) (k := 6) (x := mm_N M0 + 5) hw (show mm_N M0 + 5 < mm_N M0 + 6 by omega)
  have hi := is_wR (a := mm_N M0) (k := 6) (x := some (mm_N M0 + 5)) hi
  refine lv_aload_n hx hb dX0_init_59 rfl (lv_at hl 0 rfl) ?_
  refine lv_iconst (v := 1) hx hb dX0_init_60 (by decide) ?_
  refine xn_pI (q := mm_N M0) (rest := []) hZ hE k_X0 7 (by decide) rfl rfl rfl tn_29 hi e0 dX0_init_61 (fun H locs hE => ?_)
  have hw := wf_wI (q := mm_N M0) (k := 7) (x := (1 : Int32)) hw
  have hi := is_wI (a := mm_N M0) (k := 7) (x := (1 : Int32)) hi
  refine lv_aload_n hx hb dX0_init_64 rfl (lv_at hl 0 rfl) ?_
  refine lv_aload_n hx hb dX0_init_65 rfl (lv_at hl 1 rfl) ?_
  refine xn_p (q := mm_N M0) (r := sp) (rest := []) hZ hE k_X0 0 (by decide) rfl rfl hin rfl rfl (fun _ => rfl) (fun _ => rfl) tn_30 hi e0 e1 dX0_init_66 (fun H locs hE => ?_)
  have hw := wf_wR (q := mm_N M0) (k := 0) (x := sp) hw (show sp < mm_N M0 + 6 by omega)
  have hi := is_wR (a := mm_N M0) (k := 0) (x := some (sp)) hi
  refine lv_aload_n hx hb dX0_init_69 rfl (lv_at hl 0 rfl) ?_
  refine lv_aload_n hx hb dX0_init_70 rfl (lv_at hl 2 rfl) ?_
  refine xn_p (q := mm_N M0) (r := mv) (rest := []) hZ hE k_X0 1 (by decide) rfl rfl hin rfl rfl (fun _ => rfl) (fun _ => rfl) tn_31 hi e0 e2 dX0_init_71 (fun H locs hE => ?_)
  have hw := wf_wR (q := mm_N M0) (k := 1) (x := mv) hw (show mv < mm_N M0 + 6 by omega)
  have hi := is_wR (a := mm_N M0) (k := 1) (x := some (mv)) hi
  exact hret _ _ _ _ _ _ had rfl dX0_init_74 hE
