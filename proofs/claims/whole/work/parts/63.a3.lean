def i_X3 (M0 : Mm) : Mm := mm_wR (mm_push (mm_wR (mm_push (mm_wR (mm_push (mm_wR (mm_push (mm_push M0 3 0) 100 4) (mm_N M0) 2 (some (mm_N M0 + 1))) 100 4) (mm_N M0) 3 (some (mm_N M0 + 2))) 100 64) (mm_N M0) 4 (some (mm_N M0 + 3))) 100 16) (mm_N M0) 5 (some (mm_N M0 + 4))
set_option maxRecDepth 100000 in
theorem wf_X3 {M0 : Mm} (hw : Wf M0) : Wf (i_X3 M0) := wf_wR (q := mm_N M0) (k := 5) (x := mm_N M0 + 4) (wf_push (c := 100) (n := 16) (wf_wR (q := mm_N M0) (k := 4) (x := mm_N M0 + 3) (wf_push (c := 100) (n := 64) (wf_wR (q := mm_N M0) (k := 3) (x := mm_N M0 + 2) (wf_push (c := 100) (n := 4) (wf_wR (q := mm_N M0) (k := 2) (x := mm_N M0 + 1) (wf_push (c := 100) (n := 4) (wf_push (c := 3) (n := 0) hw)) (show mm_N M0 + 1 < mm_N M0 + 2 by omega))) (show mm_N M0 + 2 < mm_N M0 + 3 by omega))) (show mm_N M0 + 3 < mm_N M0 + 4 by omega))) (show mm_N M0 + 4 < mm_N M0 + 5 by omega)
set_option maxRecDepth 100000 in
theorem is_X3 {M0 : Mm} {q c : Nat} (h : mm_is M0 q c) : mm_is (i_X3 M0) q c := is_wR (a := mm_N M0) (k := 5) (x := some (mm_N M0 + 4)) (is_push (c := 100) (n := 16) (is_wR (a := mm_N M0) (k := 4) (x := some (mm_N M0 + 3)) (is_push (c := 100) (n := 64) (is_wR (a := mm_N M0) (k := 3) (x := some (mm_N M0 + 2)) (is_push (c := 100) (n := 4) (is_wR (a := mm_N M0) (k := 2) (x := some (mm_N M0 + 1)) (is_push (c := 100) (n := 4) (is_push (c := 3) (n := 0) h))))))))
set_option maxRecDepth 100000 in
theorem is_X3_new {M0 : Mm} : mm_is (i_X3 M0) (mm_N M0) 3 := is_wR (a := mm_N M0) (k := 5) (x := some (mm_N M0 + 4)) (is_push (c := 100) (n := 16) (is_wR (a := mm_N M0) (k := 4) (x := some (mm_N M0 + 3)) (is_push (c := 100) (n := 64) (is_wR (a := mm_N M0) (k := 3) (x := some (mm_N M0 + 2)) (is_push (c := 100) (n := 4) (is_wR (a := mm_N M0) (k := 2) (x := some (mm_N M0 + 1)) (is_push (c := 100) (n := 4) (is_new (c := 3) (n := 0)))))))))
set_option maxRecDepth 100000 in
theorem sz_X3 {M0 : Mm} {q : Nat} (h : q < mm_N M0) : mm_S (i_X3 M0) q = mm_S M0 q := ((sz_wR (a := mm_N M0) (k := 5) (x := some (mm_N M0 + 4))).trans ((sz_push (c := 100) (n := 16) (show q < mm_N M0 + 4 by omega)).trans ((sz_wR (a := mm_N M0) (k := 4) (x := some (mm_N M0 + 3))).trans ((sz_push (c := 100) (n := 64) (show q < mm_N M0 + 3 by omega)).trans ((sz_wR (a := mm_N M0) (k := 3) (x := some (mm_N M0 + 2))).trans ((sz_push (c := 100) (n := 4) (show q < mm_N M0 + 2 by omega)).trans ((sz_wR (a := mm_N M0) (k := 2) (x := some (mm_N M0 + 1))).trans ((sz_push (c := 100) (n := 4) (show q < mm_N M0 + 1 by omega)).trans (sz_push (c := 3) (n := 0) h)))))))))
theorem szp_X3 {M0 : Mm} {q v : Nat} (hs : mm_S M0 q = v) (h : q < mm_N M0) : mm_S (i_X3 M0) q = v := (sz_X3 h).trans hs
def rm_X3_init : Room := { frames := 1, cells := 4, slots := 88, locals := 12 }
set_option maxHeartbeats 4000000 in
set_option maxRecDepth 100000 in
theorem c_X3_init (l : Launch) (D : va_G) (cA : Nat → ClassId) (ad : Nat → Nat) (M0 : Mm) (hw : Wf M0) : KC l yX3_init cX3_init 1 rm_X3_init D cA ad [.ref (ad (mm_N M0))] (mm_push M0 3 0) (i_X3 M0) 4 88 := by
  refine KC_of (by decide) (Nat.le_of_ble_eq_true rfl) rfl ?_
  intro p e s m args below meth c ls Q A H locs hZ hO hin hE hl hret
  obtain ⟨hx, hb, hml, hown, hts, hnw, hK, hA⟩ := id hZ
  have hw := wf_push (c := 3) (n := 0) hw
  have hi : mm_is (mm_push M0 3 0) (mm_N M0) 3 := is_new
  obtain ⟨x0, e0⟩ : ∃ x, ad (mm_N M0) = x := ⟨_, rfl⟩
  have hl : lv_has ls 1 [(0, .ref (ad (mm_N M0)))] := hl
  rw [e0] at hl
  have had : ∀ i, i < mm_N M0 + 1 → ad i = ad i := fun _ _ => rfl
  refine lv_aload_n hx hb dX3_init_0 rfl (lv_at hl 0 rfl) ?_
  refine W.objInit hx hb hown (hts _ tn_12) (hts _ tn_1) (hts _ tn_2) rfl (by rw [hml]; exact hl.1) rfl dX3_init_1 (Nat.le_of_ble_eq_true rfl) (Nat.le_of_ble_eq_true rfl) ?_
  change W p l e rm_X3_init s m args below meth c H locs 0 0 Q (F0 m 4 ls [])
  refine lv_aload_n hx hb dX3_init_4 rfl (lv_at hl 0 rfl) ?_
  refine lv_iconst (v := 4) hx hb dX3_init_5 (by decide) ?_
  refine xn_A (atype := .int) (t := 0) (n := 4) (cn := 100) (rest := [.ref x0]) hZ hE hw rfl (ty := .int) rfl rfl (fun _ h => h) tn_6 (fun _ => cell_I) (fun _ => rfl) (by decide) (by decide) (by decide) (Nat.le_of_ble_eq_true rfl) (Nat.le_of_ble_eq_true rfl) dX3_init_6 (fun ad1 x1 H e1 hq hE => ?_)
  have e1 : ad1 (mm_N M0 + 1) = x1 := e1
  have e0 := (hq (mm_N M0) (show mm_N M0 < mm_N M0 + 1 by omega)).trans e0
  have had : ∀ i, i < mm_N M0 + 1 → ad1 i = ad i := fun i h0 => (hq i (show i < mm_N M0 + 1 by omega)).trans (had i h0)
  have hw := wf_push (c := 100) (n := 4) hw
  have hi := is_push (c := 100) (n := 4) hi
  refine xn_p (q := mm_N M0) (r := mm_N M0 + 1) (rest := []) hZ hE k_X3 2 (by decide) rfl rfl hin rfl rfl (fun _ => rfl) (fun _ => rfl) tn_13 hi e0 e1 dX3_init_8 (fun H locs hE => ?_)
  have hw := wf_wR (q := mm_N M0) (k := 2) (x := mm_N M0 + 1) hw (show mm_N M0 + 1 < mm_N M0 + 2 by omega)
  have hi := is_wR (a := mm_N M0) (k := 2) (x := some (mm_N M0 + 1)) hi
  refine lv_aload_n hx hb dX3_init_11 rfl (lv_at hl 0 rfl) ?_
  refine lv_iconst (v := 4) hx hb dX3_init_12 (by decide) ?_
  refine xn_A (atype := .int) (t := 0) (n := 4) (cn := 100) (rest := [.ref x0]) hZ hE hw rfl (ty := .int) rfl rfl (fun _ h => h) tn_6 (fun _ => cell_I) (fun _ => rfl) (by decide) (by decide) (by decide) (Nat.le_of_ble_eq_true rfl) (Nat.le_of_ble_eq_true rfl) dX3_init_13 (fun ad2 x2 H e2 hq hE => ?_)
  have e2 : ad2 (mm_N M0 + 2) = x2 := e2
  have e0 := (hq (mm_N M0) (show mm_N M0 < mm_N M0 + 2 by omega)).trans e0
  have e1 := (hq (mm_N M0 + 1) (show mm_N M0 + 1 < mm_N M0 + 2 by omega)).trans e1
  have had : ∀ i, i < mm_N M0 + 1 → ad2 i = ad i := fun i h0 => (hq i (show i < mm_N M0 + 2 by omega)).trans (had i h0)
  have hw := wf_push (c := 100) (n := 4) hw
  have hi := is_push (c := 100) (n := 4) hi
  refine xn_p (q := mm_N M0) (r := mm_N M0 + 2) (rest := []) hZ hE k_X3 3 (by decide) rfl rfl hin rfl rfl (fun _ => rfl) (fun _ => rfl) tn_14 hi e0 e2 dX3_init_15 (fun H locs hE => ?_)
  have hw := wf_wR (q := mm_N M0) (k := 3) (x := mm_N M0 + 2) hw (show mm_N M0 + 2 < mm_N M0 + 3 by omega)
  have hi := is_wR (a := mm_N M0) (k := 3) (x := some (mm_N M0 + 2)) hi
  refine lv_aload_n hx hb dX3_init_18 rfl (lv_at hl 0 rfl) ?_
  refine lv_bipush (v := 64) hx hb dX3_init_19 (by decide) ?_
  refine xn_A (atype := .int) (t := 0) (n := 64) (cn := 100) (rest := [.ref x0]) hZ hE hw rfl (ty := .int) rfl rfl (fun _ h => h) tn_6 (fun _ => cell_I) (fun _ => rfl) (by decide) (by decide) (by decide) (Nat.le_of_ble_eq_true rfl) (Nat.le_of_ble_eq_true rfl) dX3_init_21 (fun ad3 x3 H e3 hq hE => ?_)
  have e3 : ad3 (mm_N M0 + 3) = x3 := e3
  have e0 := (hq (mm_N M0) (show mm_N M0 < mm_N M0 + 3 by omega)).trans e0
  have e1 := (hq (mm_N M0 + 1) (show mm_N M0 + 1 < mm_N M0 + 3 by omega)).trans e1
  have e2 := (hq (mm_N M0 + 2) (show mm_N M0 + 2 < mm_N M0 + 3 by omega)).trans e2
  have had : ∀ i, i < mm_N M0 + 1 → ad3 i = ad i := fun i h0 => (hq i (show i < mm_N M0 + 3 by omega)).trans (had i h0)
  have hw := wf_push (c := 100) (n := 64) hw
  have hi := is_push (c := 100) (n := 64) hi
  refine xn_p (q := mm_N M0) (r := mm_N M0 + 3) (rest := []) hZ hE k_X3 4 (by decide) rfl rfl hin rfl rfl (fun _ => rfl) (fun _ => rfl) tn_15 hi e0 e3 dX3_init_23 (fun H locs hE => ?_)
  have hw := wf_wR (q := mm_N M0) (k := 4) (x := mm_N M0 + 3) hw (show mm_N M0 + 3 < mm_N M0 + 4 by omega)
  have hi := is_wR (a := mm_N M0) (k := 4) (x := some (mm_N M0 + 3)) hi
  refine lv_aload_n hx hb dX3_init_26 rfl (lv_at hl 0 rfl) ?_
  refine lv_bipush (v := 16) hx hb dX3_init_27 (by decide) ?_
  refine xn_A (atype := .int) (t := 0) (n := 16) (cn := 100) (rest := [.ref x0]) hZ hE hw rfl (ty := .int) rfl rfl (fun _ h => h) tn_6 (fun _ => cell_I) (fun _ => rfl) (by decide) (by decide) (by decide) (Nat.le_of_ble_eq_true rfl) (Nat.le_of_ble_eq_true rfl) dX3_init_29 (fun ad4 x4 H e4 hq hE => ?_)
  have e4 : ad4 (mm_N M0 + 4) = x4 := e4
  have e0 := (hq (mm_N M0) (show mm_N M0 < mm_N M0 + 4 by omega)).trans e0
  have e1 := (hq (mm_N M0 + 1) (show mm_N M0 + 1 < mm_N M0 + 4 by omega)).trans e1
  have e2 := (hq (mm_N M0 + 2) (show mm_N M0 + 2 < mm_N M0 + 4 by omega)).trans e2
  have e3 := (hq (mm_N M0 + 3) (show mm_N M0 + 3 < mm_N M0 + 4 by omega)).trans e3
  have had : ∀ i, i < mm_N M0 + 1 → ad4 i = ad i := fun i h0 => (hq i (show i < mm_N M0 + 4 by omega)).trans (had i h0)
  have hw := wf_push (c := 100) (n := 16) hw
  have hi := is_push (c := 100) (n := 16) hi
  refine xn_p (q := mm_N M0) (r := mm_N M0 + 4) (rest := []) hZ hE k_X3 5 (by decide) rfl rfl hin rfl rfl (fun _ => rfl) (fun _ => rfl) tn_16 hi e0 e4 dX3_init_31 (fun H locs hE => ?_)
  have hw := wf_wR (q := mm_N M0) (k := 5) (x := mm_N M0 + 4) hw (show mm_N M0 + 4 < mm_N M0 + 5 by omega)
  have hi := is_wR (a := mm_N M0) (k := 5) (x := some (mm_N M0 + 4)) hi
  exact hret _ _ _ _ _ _ had rfl dX3_init_34 hE
