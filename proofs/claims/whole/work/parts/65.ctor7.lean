def i_X7 (M0 : Mm) : Mm := mm_wI (mm_wR (mm_push (mm_wR (mm_push (mm_wR (mm_push (mm_wR (mm_push (mm_wR (mm_push (mm_wR (mm_push (mm_wR (mm_push (mm_wR (mm_push (mm_wR (mm_push (mm_wR (mm_push (mm_wR (mm_push (mm_wR (mm_push (mm_wR (mm_push (mm_wR (mm_push (mm_wR (mm_push (mm_wR (mm_push (mm_push M0 7 0) 100 4) (mm_N M0) 1 (some (mm_N M0 + 1))) 100 16) (mm_N M0) 3 (some (mm_N M0 + 2))) 100 10) (mm_N M0) 5 (some (mm_N M0 + 3))) 100 10) (mm_N M0) 6 (some (mm_N M0 + 4))) 100 10) (mm_N M0) 7 (some (mm_N M0 + 5))) 100 10) (mm_N M0) 8 (some (mm_N M0 + 6))) 100 10) (mm_N M0) 9 (some (mm_N M0 + 7))) 100 10) (mm_N M0) 10 (some (mm_N M0 + 8))) 100 2560) (mm_N M0) 11 (some (mm_N M0 + 9))) 101 2560) (mm_N M0) 12 (some (mm_N M0 + 10))) 101 2560) (mm_N M0) 13 (some (mm_N M0 + 11))) 102 10) (mm_N M0) 14 (some (mm_N M0 + 12))) 102 2560) (mm_N M0) 15 (some (mm_N M0 + 13))) 102 10) (mm_N M0) 16 (some (mm_N M0 + 14))) 100 201) (mm_N M0) 18 (some (mm_N M0 + 15))) 100 8) (mm_N M0) 23 (some (mm_N M0 + 16))) (mm_N M0) 17 (-1 : Int32)
set_option maxRecDepth 100000 in
theorem wf_X7 {M0 : Mm} (hw : Wf M0) : Wf (i_X7 M0) := wf_wI (q := mm_N M0) (k := 17) (x := (-1 : Int32)) (wf_wR (q := mm_N M0) (k := 23) (x := mm_N M0 + 16) (wf_push (c := 100) (n := 8) (wf_wR (q := mm_N M0) (k := 18) (x := mm_N M0 + 15) (wf_push (c := 100) (n := 201) (wf_wR (q := mm_N M0) (k := 16) (x := mm_N M0 + 14) (wf_push (c := 102) (n := 10) (wf_wR (q := mm_N M0) (k := 15) (x := mm_N M0 + 13) (wf_push (c := 102) (n := 2560) (wf_wR (q := mm_N M0) (k := 14) (x := mm_N M0 + 12) (wf_push (c := 102) (n := 10) (wf_wR (q := mm_N M0) (k := 13) (x := mm_N M0 + 11) (wf_push (c := 101) (n := 2560) (wf_wR (q := mm_N M0) (k := 12) (x := mm_N M0 + 10) (wf_push (c := 101) (n := 2560) (wf_wR (q := mm_N M0) (k := 11) (x := mm_N M0 + 9) (wf_push (c := 100) (n := 2560) (wf_wR (q := mm_N M0) (k := 10) (x := mm_N M0 + 8) (wf_push (c := 100) (n := 10) (wf_wR (q := mm_N M0) (k := 9) (x := mm_N M0 + 7) (wf_push (c := 100) (n := 10) (wf_wR (q := mm_N M0) (k := 8) (x := mm_N M0 + 6) (wf_push (c := 100) (n := 10) (wf_wR (q := mm_N M0) (k := 7) (x := mm_N M0 + 5) (wf_push (c := 100) (n := 10) (wf_wR (q := mm_N M0) (k := 6) (x := mm_N M0 + 4) (wf_push (c := 100) (n := 10) (wf_wR (q := mm_N M0) (k := 5) (x := mm_N M0 + 3) (wf_push (c := 100) (n := 10) (wf_wR (q := mm_N M0) (k := 3) (x := mm_N M0 + 2) (wf_push (c := 100) (n := 16) (wf_wR (q := mm_N M0) (k := 1) (x := mm_N M0 + 1) (wf_push (c := 100) (n := 4) (wf_push (c := 7) (n := 0) hw)) (show mm_N M0 + 1 < mm_N M0 + 2 by omega))) (show mm_N M0 + 2 < mm_N M0 + 3 by omega))) (show mm_N M0 + 3 < mm_N M0 + 4 by omega))) (show mm_N M0 + 4 < mm_N M0 + 5 by omega))) (show mm_N M0 + 5 < mm_N M0 + 6 by omega))) (show mm_N M0 + 6 < mm_N M0 + 7 by omega))) (show mm_N M0 + 7 < mm_N M0 + 8 by omega))) (show mm_N M0 + 8 < mm_N M0 + 9 by omega))) (show mm_N M0 + 9 < mm_N M0 + 10 by omega))) (show mm_N M0 + 10 < mm_N M0 + 11 by omega))) (show mm_N M0 + 11 < mm_N M0 + 12 by omega))) (show mm_N M0 + 12 < mm_N M0 + 13 by omega))) (show mm_N M0 + 13 < mm_N M0 + 14 by omega))) (show mm_N M0 + 14 < mm_N M0 + 15 by omega))) (show mm_N M0 + 15 < mm_N M0 + 16 by omega))) (show mm_N M0 + 16 < mm_N M0 + 17 by omega))
set_option maxRecDepth 100000 in
theorem is_X7 {M0 : Mm} {q c : Nat} (h : mm_is M0 q c) : mm_is (i_X7 M0) q c := is_wI (a := mm_N M0) (k := 17) (x := (-1 : Int32)) (is_wR (a := mm_N M0) (k := 23) (x := some (mm_N M0 + 16)) (is_push (c := 100) (n := 8) (is_wR (a := mm_N M0) (k := 18) (x := some (mm_N M0 + 15)) (is_push (c := 100) (n := 201) (is_wR (a := mm_N M0) (k := 16) (x := some (mm_N M0 + 14)) (is_push (c := 102) (n := 10) (is_wR (a := mm_N M0) (k := 15) (x := some (mm_N M0 + 13)) (is_push (c := 102) (n := 2560) (is_wR (a := mm_N M0) (k := 14) (x := some (mm_N M0 + 12)) (is_push (c := 102) (n := 10) (is_wR (a := mm_N M0) (k := 13) (x := some (mm_N M0 + 11)) (is_push (c := 101) (n := 2560) (is_wR (a := mm_N M0) (k := 12) (x := some (mm_N M0 + 10)) (is_push (c := 101) (n := 2560) (is_wR (a := mm_N M0) (k := 11) (x := some (mm_N M0 + 9)) (is_push (c := 100) (n := 2560) (is_wR (a := mm_N M0) (k := 10) (x := some (mm_N M0 + 8)) (is_push (c := 100) (n := 10) (is_wR (a := mm_N M0) (k := 9) (x := some (mm_N M0 + 7)) (is_push (c := 100) (n := 10) (is_wR (a := mm_N M0) (k := 8) (x := some (mm_N M0 + 6)) (is_push (c := 100) (n := 10) (is_wR (a := mm_N M0) (k := 7) (x := some (mm_N M0 + 5)) (is_push (c := 100) (n := 10) (is_wR (a := mm_N M0) (k := 6) (x := some (mm_N M0 + 4)) (is_push (c := 100) (n := 10) (is_wR (a := mm_N M0) (k := 5) (x := some (mm_N M0 + 3)) (is_push (c := 100) (n := 10) (is_wR (a := mm_N M0) (k := 3) (x := some (mm_N M0 + 2)) (is_push (c := 100) (n := 16) (is_wR (a := mm_N M0) (k := 1) (x := some (mm_N M0 + 1)) (is_push (c := 100) (n := 4) (is_push (c := 7) (n := 0) h)))))))))))))))))))))))))))))))))
set_option maxRecDepth 100000 in
theorem is_X7_new {M0 : Mm} : mm_is (i_X7 M0) (mm_N M0) 7 := is_wI (a := mm_N M0) (k := 17) (x := (-1 : Int32)) (is_wR (a := mm_N M0) (k := 23) (x := some (mm_N M0 + 16)) (is_push (c := 100) (n := 8) (is_wR (a := mm_N M0) (k := 18) (x := some (mm_N M0 + 15)) (is_push (c := 100) (n := 201) (is_wR (a := mm_N M0) (k := 16) (x := some (mm_N M0 + 14)) (is_push (c := 102) (n := 10) (is_wR (a := mm_N M0) (k := 15) (x := some (mm_N M0 + 13)) (is_push (c := 102) (n := 2560) (is_wR (a := mm_N M0) (k := 14) (x := some (mm_N M0 + 12)) (is_push (c := 102) (n := 10) (is_wR (a := mm_N M0) (k := 13) (x := some (mm_N M0 + 11)) (is_push (c := 101) (n := 2560) (is_wR (a := mm_N M0) (k := 12) (x := some (mm_N M0 + 10)) (is_push (c := 101) (n := 2560) (is_wR (a := mm_N M0) (k := 11) (x := some (mm_N M0 + 9)) (is_push (c := 100) (n := 2560) (is_wR (a := mm_N M0) (k := 10) (x := some (mm_N M0 + 8)) (is_push (c := 100) (n := 10) (is_wR (a := mm_N M0) (k := 9) (x := some (mm_N M0 + 7)) (is_push (c := 100) (n := 10) (is_wR (a := mm_N M0) (k := 8) (x := some (mm_N M0 + 6)) (is_push (c := 100) (n := 10) (is_wR (a := mm_N M0) (k := 7) (x := some (mm_N M0 + 5)) (is_push (c := 100) (n := 10) (is_wR (a := mm_N M0) (k := 6) (x := some (mm_N M0 + 4)) (is_push (c := 100) (n := 10) (is_wR (a := mm_N M0) (k := 5) (x := some (mm_N M0 + 3)) (is_push (c := 100) (n := 10) (is_wR (a := mm_N M0) (k := 3) (x := some (mm_N M0 + 2)) (is_push (c := 100) (n := 16) (is_wR (a := mm_N M0) (k := 1) (x := some (mm_N M0 + 1)) (is_push (c := 100) (n := 4) (is_new (c := 7) (n := 0))))))))))))))))))))))))))))))))))
set_option maxRecDepth 100000 in
theorem sz_X7 {M0 : Mm} {q : Nat} (h : q < mm_N M0) : mm_S (i_X7 M0) q = mm_S M0 q := ((sz_wI (a := mm_N M0) (k := 17) (x := (-1 : Int32))).trans ((sz_wR (a := mm_N M0) (k := 23) (x := some (mm_N M0 + 16))).trans ((sz_push (c := 100) (n := 8) (show q < mm_N M0 + 16 by omega)).trans ((sz_wR (a := mm_N M0) (k := 18) (x := some (mm_N M0 + 15))).trans ((sz_push (c := 100) (n := 201) (show q < mm_N M0 + 15 by omega)).trans ((sz_wR (a := mm_N M0) (k := 16) (x := some (mm_N M0 + 14))).trans ((sz_push (c := 102) (n := 10) (show q < mm_N M0 + 14 by omega)).trans ((sz_wR (a := mm_N M0) (k := 15) (x := some (mm_N M0 + 13))).trans ((sz_push (c := 102) (n := 2560) (show q < mm_N M0 + 13 by omega)).trans ((sz_wR (a := mm_N M0) (k := 14) (x := some (mm_N M0 + 12))).trans ((sz_push (c := 102) (n := 10) (show q < mm_N M0 + 12 by omega)).trans ((sz_wR (a := mm_N M0) (k := 13) (x := some (mm_N M0 + 11))).trans ((sz_push (c := 101) (n := 2560) (show q < mm_N M0 + 11 by omega)).trans ((sz_wR (a := mm_N M0) (k := 12) (x := some (mm_N M0 + 10))).trans ((sz_push (c := 101) (n := 2560) (show q < mm_N M0 + 10 by omega)).trans ((sz_wR (a := mm_N M0) (k := 11) (x := some (mm_N M0 + 9))).trans ((sz_push (c := 100) (n := 2560) (show q < mm_N M0 + 9 by omega)).trans ((sz_wR (a := mm_N M0) (k := 10) (x := some (mm_N M0 + 8))).trans ((sz_push (c := 100) (n := 10) (show q < mm_N M0 + 8 by omega)).trans ((sz_wR (a := mm_N M0) (k := 9) (x := some (mm_N M0 + 7))).trans ((sz_push (c := 100) (n := 10) (show q < mm_N M0 + 7 by omega)).trans ((sz_wR (a := mm_N M0) (k := 8) (x := some (mm_N M0 + 6))).trans ((sz_push (c := 100) (n := 10) (show q < mm_N M0 + 6 by omega)).trans ((sz_wR (a := mm_N M0) (k := 7) (x := some (mm_N M0 + 5))).trans ((sz_push (c := 100) (n := 10) (show q < mm_N M0 + 5 by omega)).trans ((sz_wR (a := mm_N M0) (k := 6) (x := some (mm_N M0 + 4))).trans ((sz_push (c := 100) (n := 10) (show q < mm_N M0 + 4 by omega)).trans ((sz_wR (a := mm_N M0) (k := 5) (x := some (mm_N M0 + 3))).trans ((sz_push (c := 100) (n := 10) (show q < mm_N M0 + 3 by omega)).trans ((sz_wR (a := mm_N M0) (k := 3) (x := some (mm_N M0 + 2))).trans ((sz_push (c := 100) (n := 16) (show q < mm_N M0 + 2 by omega)).trans ((sz_wR (a := mm_N M0) (k := 1) (x := some (mm_N M0 + 1))).trans ((sz_push (c := 100) (n := 4) (show q < mm_N M0 + 1 by omega)).trans (sz_push (c := 7) (n := 0) h))))))))))))))))))))))))))))))))))
theorem szp_X7 {M0 : Mm} {q v : Nat} (hs : mm_S M0 q = v) (h : q < mm_N M0) : mm_S (i_X7 M0) q = v := (sz_X7 h).trans hs
def rm_X7_init : Room := { frames := 1, cells := 16, slots := 10549, locals := 12 }
set_option maxHeartbeats 4000000 in
set_option maxRecDepth 100000 in
theorem c_X7_init (l : Launch) (D : va_G) (cA : Nat → ClassId) (ad : Nat → Nat) (M0 : Mm) (hw : Wf M0) : KC l yX7_init cX7_init 1 rm_X7_init D cA ad [.ref (ad (mm_N M0))] (mm_push M0 7 0) (i_X7 M0) 16 10549 := by
  refine KC_of (by decide) (Nat.le_of_ble_eq_true rfl) rfl ?_
  intro p e s m args below meth c ls Q A H locs hZ hO hin hE hl hret
  obtain ⟨hx, hb, hml, hown, hts, hnw, hK, hA⟩ := id hZ
  have hw := wf_push (c := 7) (n := 0) hw
  have hi : mm_is (mm_push M0 7 0) (mm_N M0) 7 := is_new
  obtain ⟨x0, e0⟩ : ∃ x, ad (mm_N M0) = x := ⟨_, rfl⟩
  have hl : lv_has ls 1 [(0, .ref (ad (mm_N M0)))] := hl
  rw [e0] at hl
  have had : ∀ i, i < mm_N M0 + 1 → ad i = ad i := fun _ _ => rfl
  refine lv_aload_n hx hb dX7_init_0 rfl (lv_at hl 0 rfl) ?_
  refine W.objInit hx hb hown (hts _ tn_76) (hts _ tn_1) (hts _ tn_2) rfl (by rw [hml]; exact hl.1) rfl dX7_init_1 (Nat.le_of_ble_eq_true rfl) (Nat.le_of_ble_eq_true rfl) ?_
  change W p l e rm_X7_init s m args below meth c H locs 0 0 Q (F0 m 4 ls [])
  refine lv_aload_n hx hb dX7_init_4 rfl (lv_at hl 0 rfl) ?_
  refine lv_iconst (v := 4) hx hb dX7_init_5 (by decide) ?_
  refine xn_A (atype := .int) (t := 0) (n := 4) (cn := 100) (rest := [.ref x0]) hZ hE hw rfl (ty := .int) rfl rfl (fun _ h => h) tn_6 (fun _ => cell_I) (fun _ => rfl) (by decide) (by decide) (by decide) (Nat.le_of_ble_eq_true rfl) (Nat.le_of_ble_eq_true rfl) dX7_init_6 (fun ad1 x1 H e1 hq hE => ?_)
  have e1 : ad1 (mm_N M0 + 1) = x1 := e1
  have e0 := (hq (mm_N M0) (show mm_N M0 < mm_N M0 + 1 by omega)).trans e0
  have had : ∀ i, i < mm_N M0 + 1 → ad1 i = ad i := fun i h0 => (hq i (show i < mm_N M0 + 1 by omega)).trans (had i h0)
  have hw := wf_push (c := 100) (n := 4) hw
  have hi := is_push (c := 100) (n := 4) hi
  refine xn_p (q := mm_N M0) (r := mm_N M0 + 1) (rest := []) hZ hE k_X7 1 (by decide) rfl rfl hin rfl rfl (fun _ => rfl) (fun _ => rfl) tn_77 hi e0 e1 dX7_init_8 (fun H locs hE => ?_)
  have hw := wf_wR (q := mm_N M0) (k := 1) (x := mm_N M0 + 1) hw (show mm_N M0 + 1 < mm_N M0 + 2 by omega)
  have hi := is_wR (a := mm_N M0) (k := 1) (x := some (mm_N M0 + 1)) hi
  refine lv_aload_n hx hb dX7_init_11 rfl (lv_at hl 0 rfl) ?_
  refine lv_bipush (v := 16) hx hb dX7_init_12 (by decide) ?_
  refine xn_A (atype := .int) (t := 0) (n := 16) (cn := 100) (rest := [.ref x0]) hZ hE hw rfl (ty := .int) rfl rfl (fun _ h => h) tn_6 (fun _ => cell_I) (fun _ => rfl) (by decide) (by decide) (by decide) (Nat.le_of_ble_eq_true rfl) (Nat.le_of_ble_eq_true rfl) dX7_init_14 (fun ad2 x2 H e2 hq hE => ?_)
  have e2 : ad2 (mm_N M0 + 2) = x2 := e2
  have e0 := (hq (mm_N M0) (show mm_N M0 < mm_N M0 + 2 by omega)).trans e0
  have e1 := (hq (mm_N M0 + 1) (show mm_N M0 + 1 < mm_N M0 + 2 by omega)).trans e1
  have had : ∀ i, i < mm_N M0 + 1 → ad2 i = ad i := fun i h0 => (hq i (show i < mm_N M0 + 2 by omega)).trans (had i h0)
  have hw := wf_push (c := 100) (n := 16) hw
  have hi := is_push (c := 100) (n := 16) hi
  refine xn_p (q := mm_N M0) (r := mm_N M0 + 2) (rest := []) hZ hE k_X7 3 (by decide) rfl rfl hin rfl rfl (fun _ => rfl) (fun _ => rfl) tn_78 hi e0 e2 dX7_init_16 (fun H locs hE => ?_)
  have hw := wf_wR (q := mm_N M0) (k := 3) (x := mm_N M0 + 2) hw (show mm_N M0 + 2 < mm_N M0 + 3 by omega)
  have hi := is_wR (a := mm_N M0) (k := 3) (x := some (mm_N M0 + 2)) hi
  refine lv_aload_n hx hb dX7_init_19 rfl (lv_at hl 0 rfl) ?_
  refine lv_bipush (v := 10) hx hb dX7_init_20 (by decide) ?_
  refine xn_A (atype := .int) (t := 0) (n := 10) (cn := 100) (rest := [.ref x0]) hZ hE hw rfl (ty := .int) rfl rfl (fun _ h => h) tn_6 (fun _ => cell_I) (fun _ => rfl) (by decide) (by decide) (by decide) (Nat.le_of_ble_eq_true rfl) (Nat.le_of_ble_eq_true rfl) dX7_init_22 (fun ad3 x3 H e3 hq hE => ?_)
  have e3 : ad3 (mm_N M0 + 3) = x3 := e3
  have e0 := (hq (mm_N M0) (show mm_N M0 < mm_N M0 + 3 by omega)).trans e0
  have e1 := (hq (mm_N M0 + 1) (show mm_N M0 + 1 < mm_N M0 + 3 by omega)).trans e1
  have e2 := (hq (mm_N M0 + 2) (show mm_N M0 + 2 < mm_N M0 + 3 by omega)).trans e2
  have had : ∀ i, i < mm_N M0 + 1 → ad3 i = ad i := fun i h0 => (hq i (show i < mm_N M0 + 3 by omega)).trans (had i h0)
  have hw := wf_push (c := 100) (n := 10) hw
  have hi := is_push (c := 100) (n := 10) hi
  refine xn_p (q := mm_N M0) (r := mm_N M0 + 3) (rest := []) hZ hE k_X7 5 (by decide) rfl rfl hin rfl rfl (fun _ => rfl) (fun _ => rfl) tn_79 hi e0 e3 dX7_init_24 (fun H locs hE => ?_)
  have hw := wf_wR (q := mm_N M0) (k := 5) (x := mm_N M0 + 3) hw (show mm_N M0 + 3 < mm_N M0 + 4 by omega)
  have hi := is_wR (a := mm_N M0) (k := 5) (x := some (mm_N M0 + 3)) hi
  refine lv_aload_n hx hb dX7_init_27 rfl (lv_at hl 0 rfl) ?_
  refine lv_bipush (v := 10) hx hb dX7_init_28 (by decide) ?_
  refine xn_A (atype := .int) (t := 0) (n := 10) (cn := 100) (rest := [.ref x0]) hZ hE hw rfl (ty := .int) rfl rfl (fun _ h => h) tn_6 (fun _ => cell_I) (fun _ => rfl) (by decide) (by decide) (by decide) (Nat.le_of_ble_eq_true rfl) (Nat.le_of_ble_eq_true rfl) dX7_init_30 (fun ad4 x4 H e4 hq hE => ?_)
  have e4 : ad4 (mm_N M0 + 4) = x4 := e4
  have e0 := (hq (mm_N M0) (show mm_N M0 < mm_N M0 + 4 by omega)).trans e0
  have e1 := (hq (mm_N M0 + 1) (show mm_N M0 + 1 < mm_N M0 + 4 by omega)).trans e1
  have e2 := (hq (mm_N M0 + 2) (show mm_N M0 + 2 < mm_N M0 + 4 by omega)).trans e2
  have e3 := (hq (mm_N M0 + 3) (show mm_N M0 + 3 < mm_N M0 + 4 by omega)).trans e3
  have had : ∀ i, i < mm_N M0 + 1 → ad4 i = ad i := fun i h0 => (hq i (show i < mm_N M0 + 4 by omega)).trans (had i h0)
  have hw := wf_push (c := 100) (n := 10) hw
  have hi := is_push (c := 100) (n := 10) hi
  refine xn_p (q := mm_N M0) (r := mm_N M0 + 4) (rest := []) hZ hE k_X7 6 (by decide) rfl rfl hin rfl rfl (fun _ => rfl) (fun _ => rfl) tn_80 hi e0 e4 dX7_init_32 (fun H locs hE => ?_)
  have hw := wf_wR (q := mm_N M0) (k := 6) (x := mm_N M0 + 4) hw (show mm_N M0 + 4 < mm_N M0 + 5 by omega)
  have hi := is_wR (a := mm_N M0) (k := 6) (x := some (mm_N M0 + 4)) hi
  refine lv_aload_n hx hb dX7_init_35 rfl (lv_at hl 0 rfl) ?_
  refine lv_bipush (v := 10) hx hb dX7_init_36 (by decide) ?_
  refine xn_A (atype := .int) (t := 0) (n := 10) (cn := 100) (rest := [.ref x0]) hZ hE hw rfl (ty := .int) rfl rfl (fun _ h => h) tn_6 (fun _ => cell_I) (fun _ => rfl) (by decide) (by decide) (by decide) (Nat.le_of_ble_eq_true rfl) (Nat.le_of_ble_eq_true rfl) dX7_init_38 (fun ad5 x5 H e5 hq hE => ?_)
  have e5 : ad5 (mm_N M0 + 5) = x5 := e5
  have e0 := (hq (mm_N M0) (show mm_N M0 < mm_N M0 + 5 by omega)).trans e0
  have e1 := (hq (mm_N M0 + 1) (show mm_N M0 + 1 < mm_N M0 + 5 by omega)).trans e1
  have e2 := (hq (mm_N M0 + 2) (show mm_N M0 + 2 < mm_N M0 + 5 by omega)).trans e2
  have e3 := (hq (mm_N M0 + 3) (show mm_N M0 + 3 < mm_N M0 + 5 by omega)).trans e3
  have e4 := (hq (mm_N M0 + 4) (show mm_N M0 + 4 < mm_N M0 + 5 by omega)).trans e4
  have had : ∀ i, i < mm_N M0 + 1 → ad5 i = ad i := fun i h0 => (hq i (show i < mm_N M0 + 5 by omega)).trans (had i h0)
  have hw := wf_push (c := 100) (n := 10) hw
  have hi := is_push (c := 100) (n := 10) hi
  refine xn_p (q := mm_N M0) (r := mm_N M0 + 5) (rest := []) hZ hE k_X7 7 (by decide) rfl rfl hin rfl rfl (fun _ => rfl) (fun _ => rfl) tn_81 hi e0 e5 dX7_init_40 (fun H locs hE => ?_)
  have hw := wf_wR (q := mm_N M0) (k := 7) (x := mm_N M0 + 5) hw (show mm_N M0 + 5 < mm_N M0 + 6 by omega)
  have hi := is_wR (a := mm_N M0) (k := 7) (x := some (mm_N M0 + 5)) hi
  refine lv_aload_n hx hb dX7_init_43 rfl (lv_at hl 0 rfl) ?_
  refine lv_bipush (v := 10) hx hb dX7_init_44 (by decide) ?_
  refine xn_A (atype := .int) (t := 0) (n := 10) (cn := 100) (rest := [.ref x0]) hZ hE hw rfl (ty := .int) rfl rfl (fun _ h => h) tn_6 (fun _ => cell_I) (fun _ => rfl) (by decide) (by decide) (by decide) (Nat.le_of_ble_eq_true rfl) (Nat.le_of_ble_eq_true rfl) dX7_init_46 (fun ad6 x6 H e6 hq hE => ?_)
  have e6 : ad6 (mm_N M0 + 6) = x6 := e6
  have e0 := (hq (mm_N M0) (show mm_N M0 < mm_N M0 + 6 by omega)).trans e0
  have e1 := (hq (mm_N M0 + 1) (show mm_N M0 + 1 < mm_N M0 + 6 by omega)).trans e1
  have e2 := (hq (mm_N M0 + 2) (show mm_N M0 + 2 < mm_N M0 + 6 by omega)).trans e2
  have e3 := (hq (mm_N M0 + 3) (show mm_N M0 + 3 < mm_N M0 + 6 by omega)).trans e3
  have e4 := (hq (mm_N M0 + 4) (show mm_N M0 + 4 < mm_N M0 + 6 by omega)).trans e4
  have e5 := (hq (mm_N M0 + 5) (show mm_N M0 + 5 < mm_N M0 + 6 by omega)).trans e5
  have had : ∀ i, i < mm_N M0 + 1 → ad6 i = ad i := fun i h0 => (hq i (show i < mm_N M0 + 6 by omega)).trans (had i h0)
  have hw := wf_push (c := 100) (n := 10) hw
  have hi := is_push (c := 100) (n := 10) hi
  refine xn_p (q := mm_N M0) (r := mm_N M0 + 6) (rest := []) hZ hE k_X7 8 (by decide) rfl rfl hin rfl rfl (fun _ => rfl) (fun _ => rfl) tn_82 hi e0 e6 dX7_init_48 (fun H locs hE => ?_)
  have hw := wf_wR (q := mm_N M0) (k := 8) (x := mm_N M0 + 6) hw (show mm_N M0 + 6 < mm_N M0 + 7 by omega)
  have hi := is_wR (a := mm_N M0) (k := 8) (x := some (mm_N M0 + 6)) hi
  refine lv_aload_n hx hb dX7_init_51 rfl (lv_at hl 0 rfl) ?_
  refine lv_bipush (v := 10) hx hb dX7_init_52 (by decide) ?_
  refine xn_A (atype := .int) (t := 0) (n := 10) (cn := 100) (rest := [.ref x0]) hZ hE hw rfl (ty := .int) rfl rfl (fun _ h => h) tn_6 (fun _ => cell_I) (fun _ => rfl) (by decide) (by decide) (by decide) (Nat.le_of_ble_eq_true rfl) (Nat.le_of_ble_eq_true rfl) dX7_init_54 (fun ad7 x7 H e7 hq hE => ?_)
  have e7 : ad7 (mm_N M0 + 7) = x7 := e7
  have e0 := (hq (mm_N M0) (show mm_N M0 < mm_N M0 + 7 by omega)).trans e0
  have e1 := (hq (mm_N M0 + 1) (show mm_N M0 + 1 < mm_N M0 + 7 by omega)).trans e1
  have e2 := (hq (mm_N M0 + 2) (show mm_N M0 + 2 < mm_N M0 + 7 by omega)).trans e2
  have e3 := (hq (mm_N M0 + 3) (show mm_N M0 + 3 < mm_N M0 + 7 by omega)).trans e3
  have e4 := (hq (mm_N M0 + 4) (show mm_N M0 + 4 < mm_N M0 + 7 by omega)).trans e4
  have e5 := (hq (mm_N M0 + 5) (show mm_N M0 + 5 < mm_N M0 + 7 by omega)).trans e5
  have e6 := (hq (mm_N M0 + 6) (show mm_N M0 + 6 < mm_N M0 + 7 by omega)).trans e6
  have had : ∀ i, i < mm_N M0 + 1 → ad7 i = ad i := fun i h0 => (hq i (show i < mm_N M0 + 7 by omega)).trans (had i h0)
  have hw := wf_push (c := 100) (n := 10) hw
  have hi := is_push (c := 100) (n := 10) hi
  refine xn_p (q := mm_N M0) (r := mm_N M0 + 7) (rest := []) hZ hE k_X7 9 (by decide) rfl rfl hin rfl rfl (fun _ => rfl) (fun _ => rfl) tn_83 hi e0 e7 dX7_init_56 (fun H locs hE => ?_)
  have hw := wf_wR (q := mm_N M0) (k := 9) (x := mm_N M0 + 7) hw (show mm_N M0 + 7 < mm_N M0 + 8 by omega)
  have hi := is_wR (a := mm_N M0) (k := 9) (x := some (mm_N M0 + 7)) hi
  refine lv_aload_n hx hb dX7_init_59 rfl (lv_at hl 0 rfl) ?_
  refine lv_bipush (v := 10) hx hb dX7_init_60 (by decide) ?_
  refine xn_A (atype := .int) (t := 0) (n := 10) (cn := 100) (rest := [.ref x0]) hZ hE hw rfl (ty := .int) rfl rfl (fun _ h => h) tn_6 (fun _ => cell_I) (fun _ => rfl) (by decide) (by decide) (by decide) (Nat.le_of_ble_eq_true rfl) (Nat.le_of_ble_eq_true rfl) dX7_init_62 (fun ad8 x8 H e8 hq hE => ?_)
  have e8 : ad8 (mm_N M0 + 8) = x8 := e8
  have e0 := (hq (mm_N M0) (show mm_N M0 < mm_N M0 + 8 by omega)).trans e0
  have e1 := (hq (mm_N M0 + 1) (show mm_N M0 + 1 < mm_N M0 + 8 by omega)).trans e1
  have e2 := (hq (mm_N M0 + 2) (show mm_N M0 + 2 < mm_N M0 + 8 by omega)).trans e2
  have e3 := (hq (mm_N M0 + 3) (show mm_N M0 + 3 < mm_N M0 + 8 by omega)).trans e3
  have e4 := (hq (mm_N M0 + 4) (show mm_N M0 + 4 < mm_N M0 + 8 by omega)).trans e4
  have e5 := (hq (mm_N M0 + 5) (show mm_N M0 + 5 < mm_N M0 + 8 by omega)).trans e5
  have e6 := (hq (mm_N M0 + 6) (show mm_N M0 + 6 < mm_N M0 + 8 by omega)).trans e6
  have e7 := (hq (mm_N M0 + 7) (show mm_N M0 + 7 < mm_N M0 + 8 by omega)).trans e7
  have had : ∀ i, i < mm_N M0 + 1 → ad8 i = ad i := fun i h0 => (hq i (show i < mm_N M0 + 8 by omega)).trans (had i h0)
  have hw := wf_push (c := 100) (n := 10) hw
  have hi := is_push (c := 100) (n := 10) hi
  refine xn_p (q := mm_N M0) (r := mm_N M0 + 8) (rest := []) hZ hE k_X7 10 (by decide) rfl rfl hin rfl rfl (fun _ => rfl) (fun _ => rfl) tn_84 hi e0 e8 dX7_init_64 (fun H locs hE => ?_)
  have hw := wf_wR (q := mm_N M0) (k := 10) (x := mm_N M0 + 8) hw (show mm_N M0 + 8 < mm_N M0 + 9 by omega)
  have hi := is_wR (a := mm_N M0) (k := 10) (x := some (mm_N M0 + 8)) hi
  refine lv_aload_n hx hb dX7_init_67 rfl (lv_at hl 0 rfl) ?_
  refine lv_sipush (v := 2560) hx hb dX7_init_68 (by decide) ?_
  refine xn_A (atype := .int) (t := 0) (n := 2560) (cn := 100) (rest := [.ref x0]) hZ hE hw rfl (ty := .int) rfl rfl (fun _ h => h) tn_6 (fun _ => cell_I) (fun _ => rfl) (by decide) (by decide) (by decide) (Nat.le_of_ble_eq_true rfl) (Nat.le_of_ble_eq_true rfl) dX7_init_71 (fun ad9 x9 H e9 hq hE => ?_)
  have e9 : ad9 (mm_N M0 + 9) = x9 := e9
  have e0 := (hq (mm_N M0) (show mm_N M0 < mm_N M0 + 9 by omega)).trans e0
  have e1 := (hq (mm_N M0 + 1) (show mm_N M0 + 1 < mm_N M0 + 9 by omega)).trans e1
  have e2 := (hq (mm_N M0 + 2) (show mm_N M0 + 2 < mm_N M0 + 9 by omega)).trans e2
  have e3 := (hq (mm_N M0 + 3) (show mm_N M0 + 3 < mm_N M0 + 9 by omega)).trans e3
  have e4 := (hq (mm_N M0 + 4) (show mm_N M0 + 4 < mm_N M0 + 9 by omega)).trans e4
  have e5 := (hq (mm_N M0 + 5) (show mm_N M0 + 5 < mm_N M0 + 9 by omega)).trans e5
  have e6 := (hq (mm_N M0 + 6) (show mm_N M0 + 6 < mm_N M0 + 9 by omega)).trans e6
  have e7 := (hq (mm_N M0 + 7) (show mm_N M0 + 7 < mm_N M0 + 9 by omega)).trans e7
  have e8 := (hq (mm_N M0 + 8) (show mm_N M0 + 8 < mm_N M0 + 9 by omega)).trans e8
  have had : ∀ i, i < mm_N M0 + 1 → ad9 i = ad i := fun i h0 => (hq i (show i < mm_N M0 + 9 by omega)).trans (had i h0)
  have hw := wf_push (c := 100) (n := 2560) hw
  have hi := is_push (c := 100) (n := 2560) hi
  refine xn_p (q := mm_N M0) (r := mm_N M0 + 9) (rest := []) hZ hE k_X7 11 (by decide) rfl rfl hin rfl rfl (fun _ => rfl) (fun _ => rfl) tn_85 hi e0 e9 dX7_init_73 (fun H locs hE => ?_)
  have hw := wf_wR (q := mm_N M0) (k := 11) (x := mm_N M0 + 9) hw (show mm_N M0 + 9 < mm_N M0 + 10 by omega)
  have hi := is_wR (a := mm_N M0) (k := 11) (x := some (mm_N M0 + 9)) hi
  refine lv_aload_n hx hb dX7_init_76 rfl (lv_at hl 0 rfl) ?_
  refine lv_sipush (v := 2560) hx hb dX7_init_77 (by decide) ?_
  refine xn_A (atype := .long) (t := 1) (n := 2560) (cn := 101) (rest := [.ref x0]) hZ hE hw rfl (ty := .long) rfl rfl (fun _ h => h) tn_9 (fun _ => cell_L) (fun _ => rfl) (by decide) (by decide) (by decide) (Nat.le_of_ble_eq_true rfl) (Nat.le_of_ble_eq_true rfl) dX7_init_80 (fun ad10 x10 H e10 hq hE => ?_)
  have e10 : ad10 (mm_N M0 + 10) = x10 := e10
  have e0 := (hq (mm_N M0) (show mm_N M0 < mm_N M0 + 10 by omega)).trans e0
  have e1 := (hq (mm_N M0 + 1) (show mm_N M0 + 1 < mm_N M0 + 10 by omega)).trans e1
  have e2 := (hq (mm_N M0 + 2) (show mm_N M0 + 2 < mm_N M0 + 10 by omega)).trans e2
  have e3 := (hq (mm_N M0 + 3) (show mm_N M0 + 3 < mm_N M0 + 10 by omega)).trans e3
  have e4 := (hq (mm_N M0 + 4) (show mm_N M0 + 4 < mm_N M0 + 10 by omega)).trans e4
  have e5 := (hq (mm_N M0 + 5) (show mm_N M0 + 5 < mm_N M0 + 10 by omega)).trans e5
  have e6 := (hq (mm_N M0 + 6) (show mm_N M0 + 6 < mm_N M0 + 10 by omega)).trans e6
  have e7 := (hq (mm_N M0 + 7) (show mm_N M0 + 7 < mm_N M0 + 10 by omega)).trans e7
  have e8 := (hq (mm_N M0 + 8) (show mm_N M0 + 8 < mm_N M0 + 10 by omega)).trans e8
  have e9 := (hq (mm_N M0 + 9) (show mm_N M0 + 9 < mm_N M0 + 10 by omega)).trans e9
  have had : ∀ i, i < mm_N M0 + 1 → ad10 i = ad i := fun i h0 => (hq i (show i < mm_N M0 + 10 by omega)).trans (had i h0)
  have hw := wf_push (c := 101) (n := 2560) hw
  have hi := is_push (c := 101) (n := 2560) hi
  refine xn_p (q := mm_N M0) (r := mm_N M0 + 10) (rest := []) hZ hE k_X7 12 (by decide) rfl rfl hin rfl rfl (fun _ => rfl) (fun _ => rfl) tn_86 hi e0 e10 dX7_init_82 (fun H locs hE => ?_)
  have hw := wf_wR (q := mm_N M0) (k := 12) (x := mm_N M0 + 10) hw (show mm_N M0 + 10 < mm_N M0 + 11 by omega)
  have hi := is_wR (a := mm_N M0) (k := 12) (x := some (mm_N M0 + 10)) hi
  refine lv_aload_n hx hb dX7_init_85 rfl (lv_at hl 0 rfl) ?_
  refine lv_sipush (v := 2560) hx hb dX7_init_86 (by decide) ?_
  refine xn_A (atype := .long) (t := 1) (n := 2560) (cn := 101) (rest := [.ref x0]) hZ hE hw rfl (ty := .long) rfl rfl (fun _ h => h) tn_9 (fun _ => cell_L) (fun _ => rfl) (by decide) (by decide) (by decide) (Nat.le_of_ble_eq_true rfl) (Nat.le_of_ble_eq_true rfl) dX7_init_89 (fun ad11 x11 H e11 hq hE => ?_)
  have e11 : ad11 (mm_N M0 + 11) = x11 := e11
  have e0 := (hq (mm_N M0) (show mm_N M0 < mm_N M0 + 11 by omega)).trans e0
  have e1 := (hq (mm_N M0 + 1) (show mm_N M0 + 1 < mm_N M0 + 11 by omega)).trans e1
  have e2 := (hq (mm_N M0 + 2) (show mm_N M0 + 2 < mm_N M0 + 11 by omega)).trans e2
  have e3 := (hq (mm_N M0 + 3) (show mm_N M0 + 3 < mm_N M0 + 11 by omega)).trans e3
  have e4 := (hq (mm_N M0 + 4) (show mm_N M0 + 4 < mm_N M0 + 11 by omega)).trans e4
  have e5 := (hq (mm_N M0 + 5) (show mm_N M0 + 5 < mm_N M0 + 11 by omega)).trans e5
  have e6 := (hq (mm_N M0 + 6) (show mm_N M0 + 6 < mm_N M0 + 11 by omega)).trans e6
  have e7 := (hq (mm_N M0 + 7) (show mm_N M0 + 7 < mm_N M0 + 11 by omega)).trans e7
  have e8 := (hq (mm_N M0 + 8) (show mm_N M0 + 8 < mm_N M0 + 11 by omega)).trans e8
  have e9 := (hq (mm_N M0 + 9) (show mm_N M0 + 9 < mm_N M0 + 11 by omega)).trans e9
  have e10 := (hq (mm_N M0 + 10) (show mm_N M0 + 10 < mm_N M0 + 11 by omega)).trans e10
  have had : ∀ i, i < mm_N M0 + 1 → ad11 i = ad i := fun i h0 => (hq i (show i < mm_N M0 + 11 by omega)).trans (had i h0)
  have hw := wf_push (c := 101) (n := 2560) hw
  have hi := is_push (c := 101) (n := 2560) hi
  refine xn_p (q := mm_N M0) (r := mm_N M0 + 11) (rest := []) hZ hE k_X7 13 (by decide) rfl rfl hin rfl rfl (fun _ => rfl) (fun _ => rfl) tn_87 hi e0 e11 dX7_init_91 (fun H locs hE => ?_)
  have hw := wf_wR (q := mm_N M0) (k := 13) (x := mm_N M0 + 11) hw (show mm_N M0 + 11 < mm_N M0 + 12 by omega)
  have hi := is_wR (a := mm_N M0) (k := 13) (x := some (mm_N M0 + 11)) hi
  refine lv_aload_n hx hb dX7_init_94 rfl (lv_at hl 0 rfl) ?_
  refine lv_bipush (v := 10) hx hb dX7_init_95 (by decide) ?_
  refine xn_A (atype := .boolean) (t := 2) (n := 10) (cn := 102) (rest := [.ref x0]) hZ hE hw rfl (ty := .boolean) rfl rfl (fun _ h => h) tn_88 (fun _ => cell_Z) (fun _ => rfl) (by decide) (by decide) (by decide) (Nat.le_of_ble_eq_true rfl) (Nat.le_of_ble_eq_true rfl) dX7_init_97 (fun ad12 x12 H e12 hq hE => ?_)
  have e12 : ad12 (mm_N M0 + 12) = x12 := e12
  have e0 := (hq (mm_N M0) (show mm_N M0 < mm_N M0 + 12 by omega)).trans e0
  have e1 := (hq (mm_N M0 + 1) (show mm_N M0 + 1 < mm_N M0 + 12 by omega)).trans e1
  have e2 := (hq (mm_N M0 + 2) (show mm_N M0 + 2 < mm_N M0 + 12 by omega)).trans e2
  have e3 := (hq (mm_N M0 + 3) (show mm_N M0 + 3 < mm_N M0 + 12 by omega)).trans e3
  have e4 := (hq (mm_N M0 + 4) (show mm_N M0 + 4 < mm_N M0 + 12 by omega)).trans e4
  have e5 := (hq (mm_N M0 + 5) (show mm_N M0 + 5 < mm_N M0 + 12 by omega)).trans e5
  have e6 := (hq (mm_N M0 + 6) (show mm_N M0 + 6 < mm_N M0 + 12 by omega)).trans e6
  have e7 := (hq (mm_N M0 + 7) (show mm_N M0 + 7 < mm_N M0 + 12 by omega)).trans e7
  have e8 := (hq (mm_N M0 + 8) (show mm_N M0 + 8 < mm_N M0 + 12 by omega)).trans e8
  have e9 := (hq (mm_N M0 + 9) (show mm_N M0 + 9 < mm_N M0 + 12 by omega)).trans e9
  have e10 := (hq (mm_N M0 + 10) (show mm_N M0 + 10 < mm_N M0 + 12 by omega)).trans e10
  have e11 := (hq (mm_N M0 + 11) (show mm_N M0 + 11 < mm_N M0 + 12 by omega)).trans e11
  have had : ∀ i, i < mm_N M0 + 1 → ad12 i = ad i := fun i h0 => (hq i (show i < mm_N M0 + 12 by omega)).trans (had i h0)
  have hw := wf_push (c := 102) (n := 10) hw
  have hi := is_push (c := 102) (n := 10) hi
  refine xn_p (q := mm_N M0) (r := mm_N M0 + 12) (rest := []) hZ hE k_X7 14 (by decide) rfl rfl hin rfl rfl (fun _ => rfl) (fun _ => rfl) tn_89 hi e0 e12 dX7_init_99 (fun H locs hE => ?_)
  have hw := wf_wR (q := mm_N M0) (k := 14) (x := mm_N M0 + 12) hw (show mm_N M0 + 12 < mm_N M0 + 13 by omega)
  have hi := is_wR (a := mm_N M0) (k := 14) (x := some (mm_N M0 + 12)) hi
  refine lv_aload_n hx hb dX7_init_102 rfl (lv_at hl 0 rfl) ?_
  refine lv_sipush (v := 2560) hx hb dX7_init_103 (by decide) ?_
  refine xn_A (atype := .boolean) (t := 2) (n := 2560) (cn := 102) (rest := [.ref x0]) hZ hE hw rfl (ty := .boolean) rfl rfl (fun _ h => h) tn_88 (fun _ => cell_Z) (fun _ => rfl) (by decide) (by decide) (by decide) (Nat.le_of_ble_eq_true rfl) (Nat.le_of_ble_eq_true rfl) dX7_init_106 (fun ad13 x13 H e13 hq hE => ?_)
  have e13 : ad13 (mm_N M0 + 13) = x13 := e13
  have e0 := (hq (mm_N M0) (show mm_N M0 < mm_N M0 + 13 by omega)).trans e0
  have e1 := (hq (mm_N M0 + 1) (show mm_N M0 + 1 < mm_N M0 + 13 by omega)).trans e1
  have e2 := (hq (mm_N M0 + 2) (show mm_N M0 + 2 < mm_N M0 + 13 by omega)).trans e2
  have e3 := (hq (mm_N M0 + 3) (show mm_N M0 + 3 < mm_N M0 + 13 by omega)).trans e3
  have e4 := (hq (mm_N M0 + 4) (show mm_N M0 + 4 < mm_N M0 + 13 by omega)).trans e4
  have e5 := (hq (mm_N M0 + 5) (show mm_N M0 + 5 < mm_N M0 + 13 by omega)).trans e5
  have e6 := (hq (mm_N M0 + 6) (show mm_N M0 + 6 < mm_N M0 + 13 by omega)).trans e6
  have e7 := (hq (mm_N M0 + 7) (show mm_N M0 + 7 < mm_N M0 + 13 by omega)).trans e7
  have e8 := (hq (mm_N M0 + 8) (show mm_N M0 + 8 < mm_N M0 + 13 by omega)).trans e8
  have e9 := (hq (mm_N M0 + 9) (show mm_N M0 + 9 < mm_N M0 + 13 by omega)).trans e9
  have e10 := (hq (mm_N M0 + 10) (show mm_N M0 + 10 < mm_N M0 + 13 by omega)).trans e10
  have e11 := (hq (mm_N M0 + 11) (show mm_N M0 + 11 < mm_N M0 + 13 by omega)).trans e11
  have e12 := (hq (mm_N M0 + 12) (show mm_N M0 + 12 < mm_N M0 + 13 by omega)).trans e12
  have had : ∀ i, i < mm_N M0 + 1 → ad13 i = ad i := fun i h0 => (hq i (show i < mm_N M0 + 13 by omega)).trans (had i h0)
  have hw := wf_push (c := 102) (n := 2560) hw
  have hi := is_push (c := 102) (n := 2560) hi
  refine xn_p (q := mm_N M0) (r := mm_N M0 + 13) (rest := []) hZ hE k_X7 15 (by decide) rfl rfl hin rfl rfl (fun _ => rfl) (fun _ => rfl) tn_90 hi e0 e13 dX7_init_108 (fun H locs hE => ?_)
  have hw := wf_wR (q := mm_N M0) (k := 15) (x := mm_N M0 + 13) hw (show mm_N M0 + 13 < mm_N M0 + 14 by omega)
  have hi := is_wR (a := mm_N M0) (k := 15) (x := some (mm_N M0 + 13)) hi
  refine lv_aload_n hx hb dX7_init_111 rfl (lv_at hl 0 rfl) ?_
  refine lv_bipush (v := 10) hx hb dX7_init_112 (by decide) ?_
  refine xn_A (atype := .boolean) (t := 2) (n := 10) (cn := 102) (rest := [.ref x0]) hZ hE hw rfl (ty := .boolean) rfl rfl (fun _ h => h) tn_88 (fun _ => cell_Z) (fun _ => rfl) (by decide) (by decide) (by decide) (Nat.le_of_ble_eq_true rfl) (Nat.le_of_ble_eq_true rfl) dX7_init_114 (fun ad14 x14 H e14 hq hE => ?_)
  have e14 : ad14 (mm_N M0 + 14) = x14 := e14
  have e0 := (hq (mm_N M0) (show mm_N M0 < mm_N M0 + 14 by omega)).trans e0
  have e1 := (hq (mm_N M0 + 1) (show mm_N M0 + 1 < mm_N M0 + 14 by omega)).trans e1
  have e2 := (hq (mm_N M0 + 2) (show mm_N M0 + 2 < mm_N M0 + 14 by omega)).trans e2
  have e3 := (hq (mm_N M0 + 3) (show mm_N M0 + 3 < mm_N M0 + 14 by omega)).trans e3
  have e4 := (hq (mm_N M0 + 4) (show mm_N M0 + 4 < mm_N M0 + 14 by omega)).trans e4
  have e5 := (hq (mm_N M0 + 5) (show mm_N M0 + 5 < mm_N M0 + 14 by omega)).trans e5
  have e6 := (hq (mm_N M0 + 6) (show mm_N M0 + 6 < mm_N M0 + 14 by omega)).trans e6
  have e7 := (hq (mm_N M0 + 7) (show mm_N M0 + 7 < mm_N M0 + 14 by omega)).trans e7
  have e8 := (hq (mm_N M0 + 8) (show mm_N M0 + 8 < mm_N M0 + 14 by omega)).trans e8
  have e9 := (hq (mm_N M0 + 9) (show mm_N M0 + 9 < mm_N M0 + 14 by omega)).trans e9
  have e10 := (hq (mm_N M0 + 10) (show mm_N M0 + 10 < mm_N M0 + 14 by omega)).trans e10
  have e11 := (hq (mm_N M0 + 11) (show mm_N M0 + 11 < mm_N M0 + 14 by omega)).trans e11
  have e12 := (hq (mm_N M0 + 12) (show mm_N M0 + 12 < mm_N M0 + 14 by omega)).trans e12
  have e13 := (hq (mm_N M0 + 13) (show mm_N M0 + 13 < mm_N M0 + 14 by omega)).trans e13
  have had : ∀ i, i < mm_N M0 + 1 → ad14 i = ad i := fun i h0 => (hq i (show i < mm_N M0 + 14 by omega)).trans (had i h0)
  have hw := wf_push (c := 102) (n := 10) hw
  have hi := is_push (c := 102) (n := 10) hi
  refine xn_p (q := mm_N M0) (r := mm_N M0 + 14) (rest := []) hZ hE k_X7 16 (by decide) rfl rfl hin rfl rfl (fun _ => rfl) (fun _ => rfl) tn_91 hi e0 e14 dX7_init_116 (fun H locs hE => ?_)
  have hw := wf_wR (q := mm_N M0) (k := 16) (x := mm_N M0 + 14) hw (show mm_N M0 + 14 < mm_N M0 + 15 by omega)
  have hi := is_wR (a := mm_N M0) (k := 16) (x := some (mm_N M0 + 14)) hi
  refine lv_aload_n hx hb dX7_init_119 rfl (lv_at hl 0 rfl) ?_
  refine lv_sipush (v := 201) hx hb dX7_init_120 (by decide) ?_
  refine xn_A (atype := .int) (t := 0) (n := 201) (cn := 100) (rest := [.ref x0]) hZ hE hw rfl (ty := .int) rfl rfl (fun _ h => h) tn_6 (fun _ => cell_I) (fun _ => rfl) (by decide) (by decide) (by decide) (Nat.le_of_ble_eq_true rfl) (Nat.le_of_ble_eq_true rfl) dX7_init_123 (fun ad15 x15 H e15 hq hE => ?_)
  have e15 : ad15 (mm_N M0 + 15) = x15 := e15
  have e0 := (hq (mm_N M0) (show mm_N M0 < mm_N M0 + 15 by omega)).trans e0
  have e1 := (hq (mm_N M0 + 1) (show mm_N M0 + 1 < mm_N M0 + 15 by omega)).trans e1
  have e2 := (hq (mm_N M0 + 2) (show mm_N M0 + 2 < mm_N M0 + 15 by omega)).trans e2
  have e3 := (hq (mm_N M0 + 3) (show mm_N M0 + 3 < mm_N M0 + 15 by omega)).trans e3
  have e4 := (hq (mm_N M0 + 4) (show mm_N M0 + 4 < mm_N M0 + 15 by omega)).trans e4
  have e5 := (hq (mm_N M0 + 5) (show mm_N M0 + 5 < mm_N M0 + 15 by omega)).trans e5
  have e6 := (hq (mm_N M0 + 6) (show mm_N M0 + 6 < mm_N M0 + 15 by omega)).trans e6
  have e7 := (hq (mm_N M0 + 7) (show mm_N M0 + 7 < mm_N M0 + 15 by omega)).trans e7
  have e8 := (hq (mm_N M0 + 8) (show mm_N M0 + 8 < mm_N M0 + 15 by omega)).trans e8
  have e9 := (hq (mm_N M0 + 9) (show mm_N M0 + 9 < mm_N M0 + 15 by omega)).trans e9
  have e10 := (hq (mm_N M0 + 10) (show mm_N M0 + 10 < mm_N M0 + 15 by omega)).trans e10
  have e11 := (hq (mm_N M0 + 11) (show mm_N M0 + 11 < mm_N M0 + 15 by omega)).trans e11
  have e12 := (hq (mm_N M0 + 12) (show mm_N M0 + 12 < mm_N M0 + 15 by omega)).trans e12
  have e13 := (hq (mm_N M0 + 13) (show mm_N M0 + 13 < mm_N M0 + 15 by omega)).trans e13
  have e14 := (hq (mm_N M0 + 14) (show mm_N M0 + 14 < mm_N M0 + 15 by omega)).trans e14
  have had : ∀ i, i < mm_N M0 + 1 → ad15 i = ad i := fun i h0 => (hq i (show i < mm_N M0 + 15 by omega)).trans (had i h0)
  have hw := wf_push (c := 100) (n := 201) hw
  have hi := is_push (c := 100) (n := 201) hi
  refine xn_p (q := mm_N M0) (r := mm_N M0 + 15) (rest := []) hZ hE k_X7 18 (by decide) rfl rfl hin rfl rfl (fun _ => rfl) (fun _ => rfl) tn_92 hi e0 e15 dX7_init_125 (fun H locs hE => ?_)
  have hw := wf_wR (q := mm_N M0) (k := 18) (x := mm_N M0 + 15) hw (show mm_N M0 + 15 < mm_N M0 + 16 by omega)
  have hi := is_wR (a := mm_N M0) (k := 18) (x := some (mm_N M0 + 15)) hi
  refine lv_aload_n hx hb dX7_init_128 rfl (lv_at hl 0 rfl) ?_
  refine lv_bipush (v := 8) hx hb dX7_init_129 (by decide) ?_
  refine xn_A (atype := .int) (t := 0) (n := 8) (cn := 100) (rest := [.ref x0]) hZ hE hw rfl (ty := .int) rfl rfl (fun _ h => h) tn_6 (fun _ => cell_I) (fun _ => rfl) (by decide) (by decide) (by decide) (Nat.le_of_ble_eq_true rfl) (Nat.le_of_ble_eq_true rfl) dX7_init_131 (fun ad16 x16 H e16 hq hE => ?_)
  have e16 : ad16 (mm_N M0 + 16) = x16 := e16
  have e0 := (hq (mm_N M0) (show mm_N M0 < mm_N M0 + 16 by omega)).trans e0
  have e1 := (hq (mm_N M0 + 1) (show mm_N M0 + 1 < mm_N M0 + 16 by omega)).trans e1
  have e2 := (hq (mm_N M0 + 2) (show mm_N M0 + 2 < mm_N M0 + 16 by omega)).trans e2
  have e3 := (hq (mm_N M0 + 3) (show mm_N M0 + 3 < mm_N M0 + 16 by omega)).trans e3
  have e4 := (hq (mm_N M0 + 4) (show mm_N M0 + 4 < mm_N M0 + 16 by omega)).trans e4
  have e5 := (hq (mm_N M0 + 5) (show mm_N M0 + 5 < mm_N M0 + 16 by omega)).trans e5
  have e6 := (hq (mm_N M0 + 6) (show mm_N M0 + 6 < mm_N M0 + 16 by omega)).trans e6
  have e7 := (hq (mm_N M0 + 7) (show mm_N M0 + 7 < mm_N M0 + 16 by omega)).trans e7
  have e8 := (hq (mm_N M0 + 8) (show mm_N M0 + 8 < mm_N M0 + 16 by omega)).trans e8
  have e9 := (hq (mm_N M0 + 9) (show mm_N M0 + 9 < mm_N M0 + 16 by omega)).trans e9
  have e10 := (hq (mm_N M0 + 10) (show mm_N M0 + 10 < mm_N M0 + 16 by omega)).trans e10
  have e11 := (hq (mm_N M0 + 11) (show mm_N M0 + 11 < mm_N M0 + 16 by omega)).trans e11
  have e12 := (hq (mm_N M0 + 12) (show mm_N M0 + 12 < mm_N M0 + 16 by omega)).trans e12
  have e13 := (hq (mm_N M0 + 13) (show mm_N M0 + 13 < mm_N M0 + 16 by omega)).trans e13
  have e14 := (hq (mm_N M0 + 14) (show mm_N M0 + 14 < mm_N M0 + 16 by omega)).trans e14
  have e15 := (hq (mm_N M0 + 15) (show mm_N M0 + 15 < mm_N M0 + 16 by omega)).trans e15
  have had : ∀ i, i < mm_N M0 + 1 → ad16 i = ad i := fun i h0 => (hq i (show i < mm_N M0 + 16 by omega)).trans (had i h0)
  have hw := wf_push (c := 100) (n := 8) hw
  have hi := is_push (c := 100) (n := 8) hi
  refine xn_p (q := mm_N M0) (r := mm_N M0 + 16) (rest := []) hZ hE k_X7 23 (by decide) rfl rfl hin rfl rfl (fun _ => rfl) (fun _ => rfl) tn_93 hi e0 e16 dX7_init_133 (fun H locs hE => ?_)
  have hw := wf_wR (q := mm_N M0) (k := 23) (x := mm_N M0 + 16) hw (show mm_N M0 + 16 < mm_N M0 + 17 by omega)
  have hi := is_wR (a := mm_N M0) (k := 23) (x := some (mm_N M0 + 16)) hi
  refine lv_aload_n hx hb dX7_init_136 rfl (lv_at hl 0 rfl) ?_
  refine lv_iconst (v := -1) hx hb dX7_init_137 (by decide) ?_
  refine xn_pI (q := mm_N M0) (rest := []) hZ hE k_X7 17 (by decide) rfl rfl rfl tn_94 hi e0 dX7_init_138 (fun H locs hE => ?_)
  have hw := wf_wI (q := mm_N M0) (k := 17) (x := (-1 : Int32)) hw
  have hi := is_wI (a := mm_N M0) (k := 17) (x := (-1 : Int32)) hi
  exact hret _ _ _ _ _ _ had rfl dX7_init_141 hE
