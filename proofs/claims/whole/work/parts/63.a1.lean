def i_X1 (M0 : Mm) : Mm := mm_wI (mm_wL (mm_push M0 1 0) (mm_N M0) 1 (1 : Int64)) (mm_N M0) 2 (1 : Int32)
set_option maxRecDepth 100000 in
theorem wf_X1 {M0 : Mm} (hw : Wf M0) : Wf (i_X1 M0) := wf_wI (q := mm_N M0) (k := 2) (x := (1 : Int32)) (wf_wL (q := mm_N M0) (k := 1) (x := (1 : Int64)) (wf_push (c := 1) (n := 0) hw))
set_option maxRecDepth 100000 in
theorem is_X1 {M0 : Mm} {q c : Nat} (h : mm_is M0 q c) : mm_is (i_X1 M0) q c := is_wI (a := mm_N M0) (k := 2) (x := (1 : Int32)) (is_wL (a := mm_N M0) (k := 1) (x := (1 : Int64)) (is_push (c := 1) (n := 0) h))
set_option maxRecDepth 100000 in
theorem is_X1_new {M0 : Mm} : mm_is (i_X1 M0) (mm_N M0) 1 := is_wI (a := mm_N M0) (k := 2) (x := (1 : Int32)) (is_wL (a := mm_N M0) (k := 1) (x := (1 : Int64)) (is_new (c := 1) (n := 0)))
set_option maxRecDepth 100000 in
theorem sz_X1 {M0 : Mm} {q : Nat} (h : q < mm_N M0) : mm_S (i_X1 M0) q = mm_S M0 q := ((sz_wI (a := mm_N M0) (k := 2) (x := (1 : Int32))).trans ((sz_wL (a := mm_N M0) (k := 1) (x := (1 : Int64))).trans (sz_push (c := 1) (n := 0) h)))
theorem szp_X1 {M0 : Mm} {q v : Nat} (hs : mm_S M0 q = v) (h : q < mm_N M0) : mm_S (i_X1 M0) q = v := (sz_X1 h).trans hs
def rm_X1_init : Room := { frames := 1, cells := 0, slots := 0, locals := 12 }
set_option maxHeartbeats 4000000 in
set_option maxRecDepth 100000 in
theorem c_X1_init (l : Launch) (D : va_G) (cA : Nat → ClassId) (ad : Nat → Nat) (M0 : Mm) (hw : Wf M0) : KC l yX1_init cX1_init 1 rm_X1_init D cA ad [.ref (ad (mm_N M0))] (mm_push M0 1 0) (i_X1 M0) 0 0 := by
  refine KC_of (by decide) (Nat.le_of_ble_eq_true rfl) rfl ?_
  intro p e s m args below meth c ls Q A H locs hZ hO hin hE hl hret
  obtain ⟨hx, hb, hml, hown, hts, hnw, hK, hA⟩ := id hZ
  have hw := wf_push (c := 1) (n := 0) hw
  have hi : mm_is (mm_push M0 1 0) (mm_N M0) 1 := is_new
  obtain ⟨x0, e0⟩ : ∃ x, ad (mm_N M0) = x := ⟨_, rfl⟩
  have hl : lv_has ls 1 [(0, .ref (ad (mm_N M0)))] := hl
  rw [e0] at hl
  have had : ∀ i, i < mm_N M0 + 1 → ad i = ad i := fun _ _ => rfl
  refine lv_aload_n hx hb dX1_init_0 rfl (lv_at hl 0 rfl) ?_
  refine W.objInit hx hb hown (hts _ tn_0) (hts _ tn_1) (hts _ tn_2) rfl (by rw [hml]; exact hl.1) rfl dX1_init_1 (Nat.le_of_ble_eq_true rfl) (Nat.le_of_ble_eq_true rfl) ?_
  change W p l e rm_X1_init s m args below meth c H locs 0 0 Q (F0 m 4 ls [])
  refine lv_aload_n hx hb dX1_init_4 rfl (lv_at hl 0 rfl) ?_
  refine lv_lconst (v := 1) hx hb dX1_init_5 (by decide) ?_
  refine xn_pL (q := mm_N M0) (rest := []) hZ hE k_X1 1 (by decide) rfl rfl rfl tn_3 hi e0 dX1_init_6 (fun H locs hE => ?_)
  have hw := wf_wL (q := mm_N M0) (k := 1) (x := (1 : Int64)) hw
  have hi := is_wL (a := mm_N M0) (k := 1) (x := (1 : Int64)) hi
  refine lv_aload_n hx hb dX1_init_9 rfl (lv_at hl 0 rfl) ?_
  refine lv_iconst (v := 1) hx hb dX1_init_10 (by decide) ?_
  refine xn_pZ (q := mm_N M0) (rest := []) hZ hE k_X1 2 (by decide) rfl rfl rfl tn_4 hi (Or.inr rfl) e0 dX1_init_11 (fun H locs hE => ?_)
  have hw := wf_wI (q := mm_N M0) (k := 2) (x := (1 : Int32)) hw
  have hi := is_wI (a := mm_N M0) (k := 2) (x := (1 : Int32)) hi
  exact hret _ _ _ _ _ _ had rfl dX1_init_14 hE
