def i_X5 (M0 : Mm) (sp mv : Nat) : Mm := mm_wR (mm_wR (mm_wI (mm_wR (mm_push (mm_push M0 5 0) 100 201) (mm_N M0) 2 (some (mm_N M0 + 1))) (mm_N M0) 3 (-1 : Int32)) (mm_N M0) 0 (some (sp))) (mm_N M0) 1 (some (mv))
set_option maxRecDepth 100000 in
theorem wf_X5 {M0 : Mm} {sp : Nat} {mv : Nat} (hw : Wf M0) (hsp : sp < mm_N M0) (hmv : mv < mm_N M0) : Wf (i_X5 M0 sp mv) := wf_wR (q := mm_N M0) (k := 1) (x := mv) (wf_wR (q := mm_N M0) (k := 0) (x := sp) (wf_wI (q := mm_N M0) (k := 3) (x := (-1 : Int32)) (wf_wR (q := mm_N M0) (k := 2) (x := mm_N M0 + 1) (wf_push (c := 100) (n := 201) (wf_push (c := 5) (n := 0) hw)) (show mm_N M0 + 1 < mm_N M0 + 2 by omega))) (show sp < mm_N M0 + 2 by omega)) (show mv < mm_N M0 + 2 by omega)
set_option maxRecDepth 100000 in
theorem is_X5 {M0 : Mm} {sp : Nat} {mv : Nat} {q c : Nat} (h : mm_is M0 q c) : mm_is (i_X5 M0 sp mv) q c := is_wR (a := mm_N M0) (k := 1) (x := some (mv)) (is_wR (a := mm_N M0) (k := 0) (x := some (sp)) (is_wI (a := mm_N M0) (k := 3) (x := (-1 : Int32)) (is_wR (a := mm_N M0) (k := 2) (x := some (mm_N M0 + 1)) (is_push (c := 100) (n := 201) (is_push (c := 5) (n := 0) h)))))
set_option maxRecDepth 100000 in
theorem is_X5_new {M0 : Mm} {sp : Nat} {mv : Nat} : mm_is (i_X5 M0 sp mv) (mm_N M0) 5 := is_wR (a := mm_N M0) (k := 1) (x := some (mv)) (is_wR (a := mm_N M0) (k := 0) (x := some (sp)) (is_wI (a := mm_N M0) (k := 3) (x := (-1 : Int32)) (is_wR (a := mm_N M0) (k := 2) (x := some (mm_N M0 + 1)) (is_push (c := 100) (n := 201) (is_new (c := 5) (n := 0))))))
set_option maxRecDepth 100000 in
theorem sz_X5 {M0 : Mm} {sp : Nat} {mv : Nat} {q : Nat} (h : q < mm_N M0) : mm_S (i_X5 M0 sp mv) q = mm_S M0 q := ((sz_wR (a := mm_N M0) (k := 1) (x := some (mv))).trans ((sz_wR (a := mm_N M0) (k := 0) (x := some (sp))).trans ((sz_wI (a := mm_N M0) (k := 3) (x := (-1 : Int32))).trans ((sz_wR (a := mm_N M0) (k := 2) (x := some (mm_N M0 + 1))).trans ((sz_push (c := 100) (n := 201) (show q < mm_N M0 + 1 by omega)).trans (sz_push (c := 5) (n := 0) h))))))
theorem szp_X5 {M0 : Mm} {sp : Nat} {mv : Nat} {q v : Nat} (hs : mm_S M0 q = v) (h : q < mm_N M0) : mm_S (i_X5 M0 sp mv) q = v := (sz_X5 h).trans hs
def rm_X5_init : Room := { frames := 1, cells := 1, slots := 201, locals := 12 }
set_option maxHeartbeats 4000000 in
set_option maxRecDepth 100000 in
theorem c_X5_init (l : Launch) (D : va_G) (cA : Nat → ClassId) (ad : Nat → Nat) (M0 : Mm) (hw : Wf M0) (sp : Nat) (hsp : sp < mm_N M0) (mv : Nat) (hmv : mv < mm_N M0) : KC l yX5_init cX5_init 3 rm_X5_init D cA ad [.ref (ad (mm_N M0)), .ref (ad sp), .ref (ad mv)] (mm_push M0 5 0) (i_X5 M0 sp mv) 1 201 := by
  refine KC_of (by decide) (Nat.le_of_ble_eq_true rfl) rfl ?_
  intro p e s m args below meth c ls Q A H locs hZ hO hin hE hl hret
  obtain ⟨hx, hb, hml, hown, hts, hnw, hK, hA⟩ := id hZ
  have hw := wf_push (c := 5) (n := 0) hw
  have hi : mm_is (mm_push M0 5 0) (mm_N M0) 5 := is_new
  obtain ⟨x0, e0⟩ : ∃ x, ad (mm_N M0) = x := ⟨_, rfl⟩
  obtain ⟨x1, e1⟩ : ∃ x, ad (sp) = x := ⟨_, rfl⟩
  obtain ⟨x2, e2⟩ : ∃ x, ad (mv) = x := ⟨_, rfl⟩
  have hl : lv_has ls 3 [(0, .ref (ad (mm_N M0))), (1, .ref (ad (sp))), (2, .ref (ad (mv)))] := hl
  rw [e0, e1, e2] at hl
  have had : ∀ i, i < mm_N M0 + 1 → ad i = ad i := fun _ _ => rfl
  refine lv_aload_n hx hb dX5_init_0 rfl (lv_at hl 0 rfl) ?_
  refine W.objInit hx hb hown (hts _ tn_35) (hts _ tn_1) (hts _ tn_2) rfl (by rw [hml]; exact hl.1) rfl dX5_init_1 (Nat.le_of_ble_eq_true rfl) (Nat.le_of_ble_eq_true rfl) ?_
  change W p l e rm_X5_init s m args below meth c H locs 0 0 Q (F0 m 4 ls [])
  refine lv_aload_n hx hb dX5_init_4 rfl (lv_at hl 0 rfl) ?_
  refine lv_sipush (v := 201) hx hb dX5_init_5 (by decide) ?_
  refine xn_A (atype := .int) (t := 0) (n := 201) (cn := 100) (rest := [.ref x0]) hZ hE hw rfl (ty := .int) rfl rfl (fun _ h => h) tn_6 (fun _ => cell_I) (fun _ => rfl) (by decide) (by decide) (by decide) (Nat.le_of_ble_eq_true rfl) (Nat.le_of_ble_eq_true rfl) dX5_init_8 (fun ad1 x3 H e3 hq hE => ?_)
  have e3 : ad1 (mm_N M0 + 1) = x3 := e3
  have e0 := (hq (mm_N M0) (show mm_N M0 < mm_N M0 + 1 by omega)).trans e0
  have e1 := (hq (sp) (show sp < mm_N M0 + 1 by omega)).trans e1
  have e2 := (hq (mv) (show mv < mm_N M0 + 1 by omega)).trans e2
  have had : ∀ i, i < mm_N M0 + 1 → ad1 i = ad i := fun i h0 => (hq i (show i < mm_N M0 + 1 by omega)).trans (had i h0)
  have hw := wf_push (c := 100) (n := 201) hw
  have hi := is_push (c := 100) (n := 201) hi
  refine xn_p (q := mm_N M0) (r := mm_N M0 + 1) (rest := []) hZ hE k_X5 2 (by decide) rfl rfl hin rfl rfl (fun _ => rfl) (fun _ => rfl) tn_36 hi e0 e3 dX5_init_10 (fun H locs hE => ?_)
  have hw := wf_wR (q := mm_N M0) (k := 2) (x := mm_N M0 + 1) hw (show mm_N M0 + 1 < mm_N M0 + 2 by omega)
  have hi := is_wR (a := mm_N M0) (k := 2) (x := some (mm_N M0 + 1)) hi
  refine lv_aload_n hx hb dX5_init_13 rfl (lv_at hl 0 rfl) ?_
  refine lv_iconst (v := -1) hx hb dX5_init_14 (by decide) ?_
  refine xn_pI (q := mm_N M0) (rest := []) hZ hE k_X5 3 (by decide) rfl rfl rfl tn_37 hi e0 dX5_init_15 (fun H locs hE => ?_)
  have hw := wf_wI (q := mm_N M0) (k := 3) (x := (-1 : Int32)) hw
  have hi := is_wI (a := mm_N M0) (k := 3) (x := (-1 : Int32)) hi
  refine lv_aload_n hx hb dX5_init_18 rfl (lv_at hl 0 rfl) ?_
  refine lv_aload_n hx hb dX5_init_19 rfl (lv_at hl 1 rfl) ?_
  refine xn_p (q := mm_N M0) (r := sp) (rest := []) hZ hE k_X5 0 (by decide) rfl rfl hin rfl rfl (fun _ => rfl) (fun _ => rfl) tn_38 hi e0 e1 dX5_init_20 (fun H locs hE => ?_)
  have hw := wf_wR (q := mm_N M0) (k := 0) (x := sp) hw (show sp < mm_N M0 + 2 by omega)
  have hi := is_wR (a := mm_N M0) (k := 0) (x := some (sp)) hi
  refine lv_aload_n hx hb dX5_init_23 rfl (lv_at hl 0 rfl) ?_
  refine lv_aload_n hx hb dX5_init_24 rfl (lv_at hl 2 rfl) ?_
  refine xn_p (q := mm_N M0) (r := mv) (rest := []) hZ hE k_X5 1 (by decide) rfl rfl hin rfl rfl (fun _ => rfl) (fun _ => rfl) tn_39 hi e0 e2 dX5_init_25 (fun H locs hE => ?_)
  have hw := wf_wR (q := mm_N M0) (k := 1) (x := mv) hw (show mv < mm_N M0 + 2 by omega)
  have hi := is_wR (a := mm_N M0) (k := 1) (x := some (mv)) hi
  exact hret _ _ _ _ _ _ had rfl dX5_init_28 hE
