def i_X2 (M0 : Mm) : Mm := mm_wR (mm_push (mm_wR (mm_push (mm_wR (mm_push (mm_wR (mm_push (mm_push M0 2 0) 100 256) (mm_N M0) 6 (some (mm_N M0 + 1))) 100 16) (mm_N M0) 7 (some (mm_N M0 + 2))) 101 256) (mm_N M0) 8 (some (mm_N M0 + 3))) 101 256) (mm_N M0) 9 (some (mm_N M0 + 4))
set_option maxRecDepth 100000 in
theorem wf_X2 {M0 : Mm} (hw : Wf M0) : Wf (i_X2 M0) := wf_wR (q := mm_N M0) (k := 9) (x := mm_N M0 + 4) (wf_push (c := 101) (n := 256) (wf_wR (q := mm_N M0) (k := 8) (x := mm_N M0 + 3) (wf_push (c := 101) (n := 256) (wf_wR (q := mm_N M0) (k := 7) (x := mm_N M0 + 2) (wf_push (c := 100) (n := 16) (wf_wR (q := mm_N M0) (k := 6) (x := mm_N M0 + 1) (wf_push (c := 100) (n := 256) (wf_push (c := 2) (n := 0) hw)) (show mm_N M0 + 1 < mm_N M0 + 2 by omega))) (show mm_N M0 + 2 < mm_N M0 + 3 by omega))) (show mm_N M0 + 3 < mm_N M0 + 4 by omega))) (show mm_N M0 + 4 < mm_N M0 + 5 by omega)
set_option maxRecDepth 100000 in
theorem is_X2 {M0 : Mm} {q c : Nat} (h : mm_is M0 q c) : mm_is (i_X2 M0) q c := is_wR (a := mm_N M0) (k := 9) (x := some (mm_N M0 + 4)) (is_push (c := 101) (n := 256) (is_wR (a := mm_N M0) (k := 8) (x := some (mm_N M0 + 3)) (is_push (c := 101) (n := 256) (is_wR (a := mm_N M0) (k := 7) (x := some (mm_N M0 + 2)) (is_push (c := 100) (n := 16) (is_wR (a := mm_N M0) (k := 6) (x := some (mm_N M0 + 1)) (is_push (c := 100) (n := 256) (is_push (c := 2) (n := 0) h))))))))
set_option maxRecDepth 100000 in
theorem is_X2_new {M0 : Mm} : mm_is (i_X2 M0) (mm_N M0) 2 := is_wR (a := mm_N M0) (k := 9) (x := some (mm_N M0 + 4)) (is_push (c := 101) (n := 256) (is_wR (a := mm_N M0) (k := 8) (x := some (mm_N M0 + 3)) (is_push (c := 101) (n := 256) (is_wR (a := mm_N M0) (k := 7) (x := some (mm_N M0 + 2)) (is_push (c := 100) (n := 16) (is_wR (a := mm_N M0) (k := 6) (x := some (mm_N M0 + 1)) (is_push (c := 100) (n := 256) (is_new (c := 2) (n := 0)))))))))
set_option maxRecDepth 100000 in
theorem sz_X2 {M0 : Mm} {q : Nat} (h : q < mm_N M0) : mm_S (i_X2 M0) q = mm_S M0 q := ((sz_wR (a := mm_N M0) (k := 9) (x := some (mm_N M0 + 4))).trans ((sz_push (c := 101) (n := 256) (show q < mm_N M0 + 4 by omega)).trans ((sz_wR (a := mm_N M0) (k := 8) (x := some (mm_N M0 + 3))).trans ((sz_push (c := 101) (n := 256) (show q < mm_N M0 + 3 by omega)).trans ((sz_wR (a := mm_N M0) (k := 7) (x := some (mm_N M0 + 2))).trans ((sz_push (c := 100) (n := 16) (show q < mm_N M0 + 2 by omega)).trans ((sz_wR (a := mm_N M0) (k := 6) (x := some (mm_N M0 + 1))).trans ((sz_push (c := 100) (n := 256) (show q < mm_N M0 + 1 by omega)).trans (sz_push (c := 2) (n := 0) h)))))))))
theorem szp_X2 {M0 : Mm} {q v : Nat} (hs : mm_S M0 q = v) (h : q < mm_N M0) : mm_S (i_X2 M0) q = v := (sz_X2 h).trans hs
def rm_X2_init : Room := { frames := 1, cells := 4, slots := 784, locals := 12 }
set_option maxHeartbeats 4000000 in
set_option maxRecDepth 100000 in
theorem c_X2_init (l : Launch) (D : va_G) (cA : Nat → ClassId) (ad : Nat → Nat) (M0 : Mm) (hw : Wf M0) : KC l yX2_init cX2_init 1 rm_X2_init D cA ad [.ref (ad (mm_N M0))] (mm_push M0 2 0) (i_X2 M0) 4 784 := by
  refine KC_of (by decide) (Nat.le_of_ble_eq_true rfl) rfl ?_
  intro p e s m args below meth c ls Q A H locs hZ hO hin hE hl hret
  obtain ⟨hx, hb, hml, hown, hts, hnw, hK, hA⟩ := id hZ
  have hw := wf_push (c := 2) (n := 0) hw
  have hi : mm_is (mm_push M0 2 0) (mm_N M0) 2 := is_new
  obtain ⟨x0, e0⟩ : ∃ x, ad (mm_N M0) = x := ⟨_, rfl⟩
  have hl : lv_has ls 1 [(0, .ref (ad (mm_N M0)))] := hl
  rw [e0] at hl
  have had : ∀ i, i < mm_N M0 + 1 → ad i = ad i := fun _ _ => rfl
  refine lv_aload_n hx hb dX2_init_0 rfl (lv_at hl 0 rfl) ?_
  refine W.objInit hx hb hown (hts _ tn_5) (hts _ tn_1) (hts _ tn_2) rfl (by rw [hml]; exact hl.1) rfl dX2_init_1 (Nat.le_of_ble_eq_true rfl) (Nat.le_of_ble_eq_true rfl) ?_
  change W p l e rm_X2_init s m args below meth c H locs 0 0 Q (F0 m 4 ls [])
  refine lv_aload_n hx hb dX2_init_4 rfl (lv_at hl 0 rfl) ?_
  refine lv_sipush (v := 256) hx hb dX2_init_5 (by decide) ?_
  refine xn_A (atype := .int) (t := 0) (n := 256) (cn := 100) (rest := [.ref x0]) hZ hE hw rfl (ty := .int) rfl rfl (fun _ h => h) tn_6 (fun _ => cell_I) (fun _ => rfl) (by decide) (by decide) (by decide) (Nat.le_of_ble_eq_true rfl) (Nat.le_of_ble_eq_true rfl) dX2_init_8 (fun ad1 x1 H e1 hq hE => ?_)
  have e1 : ad1 (mm_N M0 + 1) = x1 := e1
  have e0 := (hq (mm_N M0) (show mm_N M0 < mm_N M0 + 1 by omega)).trans e0
  have had : ∀ i, i < mm_N M0 + 1 → ad1 i = ad i := fun i h0 => (hq i (show i < mm_N M0 + 1 by omega)).trans (had i h0)
  have hw := wf_push (c := 100) (n := 256) hw
  have hi := is_push (c := 100) (n := 256) hi
  refine xn_p (q := mm_N M0) (r := mm_N M0 + 1) (rest := []) hZ hE k_X2 6 (by decide) rfl rfl hin rfl rfl (fun _ => rfl) (fun _ => rfl) tn_7 hi e0 e1 dX2_init_10 (fun H locs hE => ?_)
  have hw := wf_wR (q := mm_N M0) (k := 6) (x := mm_N M0 + 1) hw (show mm_N M0 + 1 < mm_N M0 + 2 by omega)
  have hi := is_wR (a := mm_N M0) (k := 6) (x := some (mm_N M0 + 1)) hi
  refine lv_aload_n hx hb dX2_init_13 rfl (lv_at hl 0 rfl) ?_
  refine lv_bipush (v := 16) hx hb dX2_init_14 (by decide) ?_
  refine xn_A (atype := .int) (t := 0) (n := 16) (cn := 100) (rest := [.ref x0]) hZ hE hw rfl (ty := .int) rfl rfl (fun _ h => h) tn_6 (fun _ => cell_I) (fun _ => rfl) (by decide) (by decide) (by decide) (Nat.le_of_ble_eq_true rfl) (Nat.le_of_ble_eq_true rfl) dX2_init_16 (fun ad2 x2 H e2 hq hE => ?_)
  have e2 : ad2 (mm_N M0 + 2) = x2 := e2
  have e0 := (hq (mm_N M0) (show mm_N M0 < mm_N M0 + 2 by omega)).trans e0
  have e1 := (hq (mm_N M0 + 1) (show mm_N M0 + 1 < mm_N M0 + 2 by omega)).trans e1
  have had : ∀ i, i < mm_N M0 + 1 → ad2 i = ad i := fun i h0 => (hq i (show i < mm_N M0 + 2 by omega)).trans (had i h0)
  have hw := wf_push (c := 100) (n := 16) hw
  have hi := is_push (c := 100) (n := 16) hi
  refine xn_p (q := mm_N M0) (r := mm_N M0 + 2) (rest := []) hZ hE k_X2 7 (by decide) rfl rfl hin rfl rfl (fun _ => rfl) (fun _ => rfl) tn_8 hi e0 e2 dX2_init_18 (fun H locs hE => ?_)
  have hw := wf_wR (q := mm_N M0) (k := 7) (x := mm_N M0 + 2) hw (show mm_N M0 + 2 < mm_N M0 + 3 by omega)
  have hi := is_wR (a := mm_N M0) (k := 7) (x := some (mm_N M0 + 2)) hi
  refine lv_aload_n hx hb dX2_init_21 rfl (lv_at hl 0 rfl) ?_
  refine lv_sipush (v := 256) hx hb dX2_init_22 (by decide) ?_
  refine xn_A (atype := .long) (t := 1) (n := 256) (cn := 101) (rest := [.ref x0]) hZ hE hw rfl (ty := .long) rfl rfl (fun _ h => h) tn_9 (fun _ => cell_L) (fun _ => rfl) (by decide) (by decide) (by decide) (Nat.le_of_ble_eq_true rfl) (Nat.le_of_ble_eq_true rfl) dX2_init_25 (fun ad3 x3 H e3 hq hE => ?_)
  have e3 : ad3 (mm_N M0 + 3) = x3 := e3
  have e0 := (hq (mm_N M0) (show mm_N M0 < mm_N M0 + 3 by omega)).trans e0
  have e1 := (hq (mm_N M0 + 1) (show mm_N M0 + 1 < mm_N M0 + 3 by omega)).trans e1
  have e2 := (hq (mm_N M0 + 2) (show mm_N M0 + 2 < mm_N M0 + 3 by omega)).trans e2
  have had : ∀ i, i < mm_N M0 + 1 → ad3 i = ad i := fun i h0 => (hq i (show i < mm_N M0 + 3 by omega)).trans (had i h0)
  have hw := wf_push (c := 101) (n := 256) hw
  have hi := is_push (c := 101) (n := 256) hi
  refine xn_p (q := mm_N M0) (r := mm_N M0 + 3) (rest := []) hZ hE k_X2 8 (by decide) rfl rfl hin rfl rfl (fun _ => rfl) (fun _ => rfl) tn_10 hi e0 e3 dX2_init_27 (fun H locs hE => ?_)
  have hw := wf_wR (q := mm_N M0) (k := 8) (x := mm_N M0 + 3) hw (show mm_N M0 + 3 < mm_N M0 + 4 by omega)
  have hi := is_wR (a := mm_N M0) (k := 8) (x := some (mm_N M0 + 3)) hi
  refine lv_aload_n hx hb dX2_init_30 rfl (lv_at hl 0 rfl) ?_
  refine lv_sipush (v := 256) hx hb dX2_init_31 (by decide) ?_
  refine xn_A (atype := .long) (t := 1) (n := 256) (cn := 101) (rest := [.ref x0]) hZ hE hw rfl (ty := .long) rfl rfl (fun _ h => h) tn_9 (fun _ => cell_L) (fun _ => rfl) (by decide) (by decide) (by decide) (Nat.le_of_ble_eq_true rfl) (Nat.le_of_ble_eq_true rfl) dX2_init_34 (fun ad4 x4 H e4 hq hE => ?_)
  have e4 : ad4 (mm_N M0 + 4) = x4 := e4
  have e0 := (hq (mm_N M0) (show mm_N M0 < mm_N M0 + 4 by omega)).trans e0
  have e1 := (hq (mm_N M0 + 1) (show mm_N M0 + 1 < mm_N M0 + 4 by omega)).trans e1
  have e2 := (hq (mm_N M0 + 2) (show mm_N M0 + 2 < mm_N M0 + 4 by omega)).trans e2
  have e3 := (hq (mm_N M0 + 3) (show mm_N M0 + 3 < mm_N M0 + 4 by omega)).trans e3
  have had : ∀ i, i < mm_N M0 + 1 → ad4 i = ad i := fun i h0 => (hq i (show i < mm_N M0 + 4 by omega)).trans (had i h0)
  have hw := wf_push (c := 101) (n := 256) hw
  have hi := is_push (c := 101) (n := 256) hi
  refine xn_p (q := mm_N M0) (r := mm_N M0 + 4) (rest := []) hZ hE k_X2 9 (by decide) rfl rfl hin rfl rfl (fun _ => rfl) (fun _ => rfl) tn_11 hi e0 e4 dX2_init_36 (fun H locs hE => ?_)
  have hw := wf_wR (q := mm_N M0) (k := 9) (x := mm_N M0 + 4) hw (show mm_N M0 + 4 < mm_N M0 + 5 by omega)
  have hi := is_wR (a := mm_N M0) (k := 9) (x := some (mm_N M0 + 4)) hi
  exact hret _ _ _ _ _ _ had rfl dX2_init_39 hE
