def i_X4 (M0 : Mm) (sp mv : Nat) : Mm := mm_wR (mm_wR (mm_push M0 4 0) (mm_N M0) 0 (some (sp))) (mm_N M0) 1 (some (mv))
set_option maxRecDepth 100000 in
theorem wf_X4 {M0 : Mm} {sp : Nat} {mv : Nat} (hw : Wf M0) (hsp : sp < mm_N M0) (hmv : mv < mm_N M0) : Wf (i_X4 M0 sp mv) := wf_wR (q := mm_N M0) (k := 1) (x := mv) (wf_wR (q := mm_N M0) (k := 0) (x := sp) (wf_push (c := 4) (n := 0) hw) (show sp < mm_N M0 + 1 by omega)) (show mv < mm_N M0 + 1 by omega)
set_option maxRecDepth 100000 in
theorem is_X4 {M0 : Mm} {sp : Nat} {mv : Nat} {q c : Nat} (h : mm_is M0 q c) : mm_is (i_X4 M0 sp mv) q c := is_wR (a := mm_N M0) (k := 1) (x := some (mv)) (is_wR (a := mm_N M0) (k := 0) (x := some (sp)) (is_push (c := 4) (n := 0) h))
set_option maxRecDepth 100000 in
theorem is_X4_new {M0 : Mm} {sp : Nat} {mv : Nat} : mm_is (i_X4 M0 sp mv) (mm_N M0) 4 := is_wR (a := mm_N M0) (k := 1) (x := some (mv)) (is_wR (a := mm_N M0) (k := 0) (x := some (sp)) (is_new (c := 4) (n := 0)))
set_option maxRecDepth 100000 in
theorem sz_X4 {M0 : Mm} {sp : Nat} {mv : Nat} {q : Nat} (h : q < mm_N M0) : mm_S (i_X4 M0 sp mv) q = mm_S M0 q := ((sz_wR (a := mm_N M0) (k := 1) (x := some (mv))).trans ((sz_wR (a := mm_N M0) (k := 0) (x := some (sp))).trans (sz_push (c := 4) (n := 0) h)))
theorem szp_X4 {M0 : Mm} {sp : Nat} {mv : Nat} {q v : Nat} (hs : mm_S M0 q = v) (h : q < mm_N M0) : mm_S (i_X4 M0 sp mv) q = v := (sz_X4 h).trans hs
def rm_X4_init : Room := { frames := 1, cells := 0, slots := 0, locals := 12 }
set_option maxHeartbeats 4000000 in
set_option maxRecDepth 100000 in
theorem c_X4_init (l : Launch) (D : va_G) (cA : Nat → ClassId) (ad : Nat → Nat) (M0 : Mm) (hw : Wf M0) (sp : Nat) (hsp : sp < mm_N M0) (mv : Nat) (hmv : mv < mm_N M0) : KC l yX4_init cX4_init 3 rm_X4_init D cA ad [.ref (ad (mm_N M0)), .ref (ad sp), .ref (ad mv)] (mm_push M0 4 0) (i_X4 M0 sp mv) 0 0 := by
  refine KC_of (by decide) (Nat.le_of_ble_eq_true rfl) rfl ?_
  intro p e s m args below meth c ls Q A H locs hZ hO hin hE hl hret
  obtain ⟨hx, hb, hml, hown, hts, hnw, hK, hA⟩ := id hZ
  have hw := wf_push (c := 4) (n := 0) hw
  have hi : mm_is (mm_push M0 4 0) (mm_N M0) 4 := is_new
  obtain ⟨x0, e0⟩ : ∃ x, ad (mm_N M0) = x := ⟨_, rfl⟩
  obtain ⟨x1, e1⟩ : ∃ x, ad (sp) = x := ⟨_, rfl⟩
  obtain ⟨x2, e2⟩ : ∃ x, ad (mv) = x := ⟨_, rfl⟩
  have hl : lv_has ls 3 [(0, .ref (ad (mm_N M0))), (1, .ref (ad (sp))), (2, .ref (ad (mv)))] := hl
  rw [e0, e1, e2] at hl
  have had : ∀ i, i < mm_N M0 + 1 → ad i = ad i := fun _ _ => rfl
  refine lv_aload_n hx hb dX4_init_0 rfl (lv_at hl 0 rfl) ?_
  refine W.objInit hx hb hown (hts _ tn_32) (hts _ tn_1) (hts _ tn_2) rfl (by rw [hml]; exact hl.1) rfl dX4_init_1 (Nat.le_of_ble_eq_true rfl) (Nat.le_of_ble_eq_true rfl) ?_
  change W p l e rm_X4_init s m args below meth c H locs 0 0 Q (F0 m 4 ls [])
  refine lv_aload_n hx hb dX4_init_4 rfl (lv_at hl 0 rfl) ?_
  refine lv_aload_n hx hb dX4_init_5 rfl (lv_at hl 1 rfl) ?_
  refine xn_p (q := mm_N M0) (r := sp) (rest := []) hZ hE k_X4 0 (by decide) rfl rfl hin rfl rfl (fun _ => rfl) (fun _ => rfl) tn_33 hi e0 e1 dX4_init_6 (fun H locs hE => ?_)
  have hw := wf_wR (q := mm_N M0) (k := 0) (x := sp) hw (show sp < mm_N M0 + 1 by omega)
  have hi := is_wR (a := mm_N M0) (k := 0) (x := some (sp)) hi
  refine lv_aload_n hx hb dX4_init_9 rfl (lv_at hl 0 rfl) ?_
  refine lv_aload_n hx hb dX4_init_10 rfl (lv_at hl 2 rfl) ?_
  refine xn_p (q := mm_N M0) (r := mv) (rest := []) hZ hE k_X4 1 (by decide) rfl rfl hin rfl rfl (fun _ => rfl) (fun _ => rfl) tn_34 hi e0 e2 dX4_init_11 (fun H locs hE => ?_)
  have hw := wf_wR (q := mm_N M0) (k := 1) (x := mv) hw (show mv < mm_N M0 + 1 by omega)
  have hi := is_wR (a := mm_N M0) (k := 1) (x := some (mv)) hi
  exact hret _ _ _ _ _ _ had rfl dX4_init_14 hE
