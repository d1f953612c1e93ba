def i_X6 (M0 : Mm) : Mm := mm_wR (i_X5 (mm_wR (i_X4 (mm_wR (i_X0 (mm_wR (mm_wR (mm_wR (i_X2 (mm_wR (i_X2 (mm_wR (i_X2 (mm_wR (i_X2 (mm_wR (i_X2 (mm_wR (i_X2 (mm_wR (i_X2 (mm_wR (i_X2 (mm_wR (i_X2 (mm_wR (i_X2 (mm_push (i_X3 (mm_push M0 6 0)) 103 10)) (mm_N M0 + 6) (0 : Int32).toNatClampNeg (some (mm_N M0 + 7)))) (mm_N M0 + 6) ((0 : Int32) + 1).toNatClampNeg (some (mm_N M0 + 12)))) (mm_N M0 + 6) (((0 : Int32) + 1) + 1).toNatClampNeg (some (mm_N M0 + 17)))) (mm_N M0 + 6) ((((0 : Int32) + 1) + 1) + 1).toNatClampNeg (some (mm_N M0 + 22)))) (mm_N M0 + 6) (((((0 : Int32) + 1) + 1) + 1) + 1).toNatClampNeg (some (mm_N M0 + 27)))) (mm_N M0 + 6) ((((((0 : Int32) + 1) + 1) + 1) + 1) + 1).toNatClampNeg (some (mm_N M0 + 32)))) (mm_N M0 + 6) (((((((0 : Int32) + 1) + 1) + 1) + 1) + 1) + 1).toNatClampNeg (some (mm_N M0 + 37)))) (mm_N M0 + 6) ((((((((0 : Int32) + 1) + 1) + 1) + 1) + 1) + 1) + 1).toNatClampNeg (some (mm_N M0 + 42)))) (mm_N M0 + 6) (((((((((0 : Int32) + 1) + 1) + 1) + 1) + 1) + 1) + 1) + 1).toNatClampNeg (some (mm_N M0 + 47)))) (mm_N M0 + 6) ((((((((((0 : Int32) + 1) + 1) + 1) + 1) + 1) + 1) + 1) + 1) + 1).toNatClampNeg (some (mm_N M0 + 52))) (mm_N M0) 0 (some (mm_N M0 + 1))) (mm_N M0) 1 (some (mm_N M0 + 6))) (mm_N M0 + 1) (mm_N M0 + 6)) (mm_N M0) 2 (some (mm_N M0 + 57))) (mm_N M0 + 1) (mm_N M0 + 6)) (mm_N M0) 3 (some (mm_N M0 + 63))) (mm_N M0 + 1) (mm_N M0 + 6)) (mm_N M0) 4 (some (mm_N M0 + 64))
set_option maxRecDepth 100000 in
theorem wf_X6 {M0 : Mm} (hw : Wf M0) : Wf (i_X6 M0) := wf_wR (q := mm_N M0) (k := 4) (x := mm_N M0 + 64) (wf_X5 (sp := mm_N M0 + 1) (mv := mm_N M0 + 6) (wf_wR (q := mm_N M0) (k := 3) (x := mm_N M0 + 63) (wf_X4 (sp := mm_N M0 + 1) (mv := mm_N M0 + 6) (wf_wR (q := mm_N M0) (k := 2) (x := mm_N M0 + 57) (wf_X0 (sp := mm_N M0 + 1) (mv := mm_N M0 + 6) (wf_wR (q := mm_N M0) (k := 1) (x := mm_N M0 + 6) (wf_wR (q := mm_N M0) (k := 0) (x := mm_N M0 + 1) (wf_wR (q := mm_N M0 + 6) (k := ((((((((((0 : Int32) + 1) + 1) + 1) + 1) + 1) + 1) + 1) + 1) + 1).toNatClampNeg) (x := mm_N M0 + 52) (wf_X2 (wf_wR (q := mm_N M0 + 6) (k := (((((((((0 : Int32) + 1) + 1) + 1) + 1) + 1) + 1) + 1) + 1).toNatClampNeg) (x := mm_N M0 + 47) (wf_X2 (wf_wR (q := mm_N M0 + 6) (k := ((((((((0 : Int32) + 1) + 1) + 1) + 1) + 1) + 1) + 1).toNatClampNeg) (x := mm_N M0 + 42) (wf_X2 (wf_wR (q := mm_N M0 + 6) (k := (((((((0 : Int32) + 1) + 1) + 1) + 1) + 1) + 1).toNatClampNeg) (x := mm_N M0 + 37) (wf_X2 (wf_wR (q := mm_N M0 + 6) (k := ((((((0 : Int32) + 1) + 1) + 1) + 1) + 1).toNatClampNeg) (x := mm_N M0 + 32) (wf_X2 (wf_wR (q := mm_N M0 + 6) (k := (((((0 : Int32) + 1) + 1) + 1) + 1).toNatClampNeg) (x := mm_N M0 + 27) (wf_X2 (wf_wR (q := mm_N M0 + 6) (k := ((((0 : Int32) + 1) + 1) + 1).toNatClampNeg) (x := mm_N M0 + 22) (wf_X2 (wf_wR (q := mm_N M0 + 6) (k := (((0 : Int32) + 1) + 1).toNatClampNeg) (x := mm_N M0 + 17) (wf_X2 (wf_wR (q := mm_N M0 + 6) (k := ((0 : Int32) + 1).toNatClampNeg) (x := mm_N M0 + 12) (wf_X2 (wf_wR (q := mm_N M0 + 6) (k := (0 : Int32).toNatClampNeg) (x := mm_N M0 + 7) (wf_X2 (wf_push (c := 103) (n := 10) (wf_X3 (wf_push (c := 6) (n := 0) hw)))) (show mm_N M0 + 7 < mm_N M0 + 12 by omega))) (show mm_N M0 + 12 < mm_N M0 + 17 by omega))) (show mm_N M0 + 17 < mm_N M0 + 22 by omega))) (show mm_N M0 + 22 < mm_N M0 + 27 by omega))) (show mm_N M0 + 27 < mm_N M0 + 32 by omega))) (show mm_N M0 + 32 < mm_N M0 + 37 by omega))) (show mm_N M0 + 37 < mm_N M0 + 42 by omega))) (show mm_N M0 + 42 < mm_N M0 + 47 by omega))) (show mm_N M0 + 47 < mm_N M0 + 52 by omega))) (show mm_N M0 + 52 < mm_N M0 + 57 by omega)) (show mm_N M0 + 1 < mm_N M0 + 57 by omega)) (show mm_N M0 + 6 < mm_N M0 + 57 by omega)) (show mm_N M0 + 1 < mm_N M0 + 57 by omega) (show mm_N M0 + 6 < mm_N M0 + 57 by omega)) (show mm_N M0 + 57 < mm_N M0 + 63 by omega)) (show mm_N M0 + 1 < mm_N M0 + 63 by omega) (show mm_N M0 + 6 < mm_N M0 + 63 by omega)) (show mm_N M0 + 63 < mm_N M0 + 64 by omega)) (show mm_N M0 + 1 < mm_N M0 + 64 by omega) (show mm_N M0 + 6 < mm_N M0 + 64 by omega)) (show mm_N M0 + 64 < mm_N M0 + 66 by omega)
set_option maxRecDepth 100000 in
theorem is_X6 {M0 : Mm} {q c : Nat} (h : mm_is M0 q c) : mm_is (i_X6 M0) q c := is_wR (a := mm_N M0) (k := 4) (x := some (mm_N M0 + 64)) (is_X5 (sp := mm_N M0 + 1) (mv := mm_N M0 + 6) (is_wR (a := mm_N M0) (k := 3) (x := some (mm_N M0 + 63)) (is_X4 (sp := mm_N M0 + 1) (mv := mm_N M0 + 6) (is_wR (a := mm_N M0) (k := 2) (x := some (mm_N M0 + 57)) (is_X0 (sp := mm_N M0 + 1) (mv := mm_N M0 + 6) (is_wR (a := mm_N M0) (k := 1) (x := some (mm_N M0 + 6)) (is_wR (a := mm_N M0) (k := 0) (x := some (mm_N M0 + 1)) (is_wR (a := mm_N M0 + 6) (k := ((((((((((0 : Int32) + 1) + 1) + 1) + 1) + 1) + 1) + 1) + 1) + 1).toNatClampNeg) (x := some (mm_N M0 + 52)) (is_X2 (is_wR (a := mm_N M0 + 6) (k := (((((((((0 : Int32) + 1) + 1) + 1) + 1) + 1) + 1) + 1) + 1).toNatClampNeg) (x := some (mm_N M0 + 47)) (is_X2 (is_wR (a := mm_N M0 + 6) (k := ((((((((0 : Int32) + 1) + 1) + 1) + 1) + 1) + 1) + 1).toNatClampNeg) (x := some (mm_N M0 + 42)) (is_X2 (is_wR (a := mm_N M0 + 6) (k := (((((((0 : Int32) + 1) + 1) + 1) + 1) + 1) + 1).toNatClampNeg) (x := some (mm_N M0 + 37)) (is_X2 (is_wR (a := mm_N M0 + 6) (k := ((((((0 : Int32) + 1) + 1) + 1) + 1) + 1).toNatClampNeg) (x := some (mm_N M0 + 32)) (is_X2 (is_wR (a := mm_N M0 + 6) (k := (((((0 : Int32) + 1) + 1) + 1) + 1).toNatClampNeg) (x := some (mm_N M0 + 27)) (is_X2 (is_wR (a := mm_N M0 + 6) (k := ((((0 : Int32) + 1) + 1) + 1).toNatClampNeg) (x := some (mm_N M0 + 22)) (is_X2 (is_wR (a := mm_N M0 + 6) (k := (((0 : Int32) + 1) + 1).toNatClampNeg) (x := some (mm_N M0 + 17)) (is_X2 (is_wR (a := mm_N M0 + 6) (k := ((0 : Int32) + 1).toNatClampNeg) (x := some (mm_N M0 + 12)) (is_X2 (is_wR (a := mm_N M0 + 6) (k := (0 : Int32).toNatClampNeg) (x := some (mm_N M0 + 7)) (is_X2 (is_push (c := 103) (n := 10) (is_X3 (is_push (c := 6) (n := 0) h))))))))))))))))))))))))))))))
set_option maxRecDepth 100000 in
theorem is_X6_new {M0 : Mm} : mm_is (i_X6 M0) (mm_N M0) 6 := is_wR (a := mm_N M0) (k := 4) (x := some (mm_N M0 + 64)) (is_X5 (sp := mm_N M0 + 1) (mv := mm_N M0 + 6) (is_wR (a := mm_N M0) (k := 3) (x := some (mm_N M0 + 63)) (is_X4 (sp := mm_N M0 + 1) (mv := mm_N M0 + 6) (is_wR (a := mm_N M0) (k := 2) (x := some (mm_N M0 + 57)) (is_X0 (sp := mm_N M0 + 1) (mv := mm_N M0 + 6) (is_wR (a := mm_N M0) (k := 1) (x := some (mm_N M0 + 6)) (is_wR (a := mm_N M0) (k := 0) (x := some (mm_N M0 + 1)) (is_wR (a := mm_N M0 + 6) (k := ((((((((((0 : Int32) + 1) + 1) + 1) + 1) + 1) + 1) + 1) + 1) + 1).toNatClampNeg) (x := some (mm_N M0 + 52)) (is_X2 (is_wR (a := mm_N M0 + 6) (k := (((((((((0 : Int32) + 1) + 1) + 1) + 1) + 1) + 1) + 1) + 1).toNatClampNeg) (x := some (mm_N M0 + 47)) (is_X2 (is_wR (a := mm_N M0 + 6) (k := ((((((((0 : Int32) + 1) + 1) + 1) + 1) + 1) + 1) + 1).toNatClampNeg) (x := some (mm_N M0 + 42)) (is_X2 (is_wR (a := mm_N M0 + 6) (k := (((((((0 : Int32) + 1) + 1) + 1) + 1) + 1) + 1).toNatClampNeg) (x := some (mm_N M0 + 37)) (is_X2 (is_wR (a := mm_N M0 + 6) (k := ((((((0 : Int32) + 1) + 1) + 1) + 1) + 1).toNatClampNeg) (x := some (mm_N M0 + 32)) (is_X2 (is_wR (a := mm_N M0 + 6) (k := (((((0 : Int32) + 1) + 1) + 1) + 1).toNatClampNeg) (x := some (mm_N M0 + 27)) (is_X2 (is_wR (a := mm_N M0 + 6) (k := ((((0 : Int32) + 1) + 1) + 1).toNatClampNeg) (x := some (mm_N M0 + 22)) (is_X2 (is_wR (a := mm_N M0 + 6) (k := (((0 : Int32) + 1) + 1).toNatClampNeg) (x := some (mm_N M0 + 17)) (is_X2 (is_wR (a := mm_N M0 + 6) (k := ((0 : Int32) + 1).toNatClampNeg) (x := some (mm_N M0 + 12)) (is_X2 (is_wR (a := mm_N M0 + 6) (k := (0 : Int32).toNatClampNeg) (x := some (mm_N M0 + 7)) (is_X2 (is_push (c := 103) (n := 10) (is_X3 (is_new (c := 6) (n := 0)))))))))))))))))))))))))))))))
set_option maxRecDepth 100000 in
theorem sz_X6 {M0 : Mm} {q : Nat} (h : q < mm_N M0) : mm_S (i_X6 M0) q = mm_S M0 q := ((sz_wR (a := mm_N M0) (k := 4) (x := some (mm_N M0 + 64))).trans ((sz_X5 (sp := mm_N M0 + 1) (mv := mm_N M0 + 6) (show q < mm_N M0 + 64 by omega)).trans ((sz_wR (a := mm_N M0) (k := 3) (x := some (mm_N M0 + 63))).trans ((sz_X4 (sp := mm_N M0 + 1) (mv := mm_N M0 + 6) (show q < mm_N M0 + 63 by omega)).trans ((sz_wR (a := mm_N M0) (k := 2) (x := some (mm_N M0 + 57))).trans ((sz_X0 (sp := mm_N M0 + 1) (mv := mm_N M0 + 6) (show q < mm_N M0 + 57 by omega)).trans ((sz_wR (a := mm_N M0) (k := 1) (x := some (mm_N M0 + 6))).trans ((sz_wR (a := mm_N M0) (k := 0) (x := some (mm_N M0 + 1))).trans ((sz_wR (a := mm_N M0 + 6) (k := ((((((((((0 : Int32) + 1) + 1) + 1) + 1) + 1) + 1) + 1) + 1) + 1).toNatClampNeg) (x := some (mm_N M0 + 52))).trans ((sz_X2 (show q < mm_N M0 + 52 by omega)).trans ((sz_wR (a := mm_N M0 + 6) (k := (((((((((0 : Int32) + 1) + 1) + 1) + 1) + 1) + 1) + 1) + 1).toNatClampNeg) (x := some (mm_N M0 + 47))).trans ((sz_X2 (show q < mm_N M0 + 47 by omega)).trans ((sz_wR (a := mm_N M0 + 6) (k := ((((((((0 : Int32) + 1) + 1) + 1) + 1) + 1) + 1) + 1).toNatClampNeg) (x := some (mm_N M0 + 42))).trans ((sz_X2 (show q < mm_N M0 + 42 by omega)).trans ((sz_wR (a := mm_N M0 + 6) (k := (((((((0 : Int32) + 1) + 1) + 1) + 1) + 1) + 1).toNatClampNeg) (x := some (mm_N M0 + 37))).trans ((sz_X2 (show q < mm_N M0 + 37 by omega)).trans ((sz_wR (a := mm_N M0 + 6) (k := ((((((0 : Int32) + 1) + 1) + 1) + 1) + 1).toNatClampNeg) (x := some (mm_N M0 + 32))).trans ((sz_X2 (show q < mm_N M0 + 32 by omega)).trans ((sz_wR (a := mm_N M0 + 6) (k := (((((0 : Int32) + 1) + 1) + 1) + 1).toNatClampNeg) (x := some (mm_N M0 + 27))).trans ((sz_X2 (show q < mm_N M0 + 27 by omega)).trans ((sz_wR (a := mm_N M0 + 6) (k := ((((0 : Int32) + 1) + 1) + 1).toNatClampNeg) (x := some (mm_N M0 + 22))).trans ((sz_X2 (show q < mm_N M0 + 22 by omega)).trans ((sz_wR (a := mm_N M0 + 6) (k := (((0 : Int32) + 1) + 1).toNatClampNeg) (x := some (mm_N M0 + 17))).trans ((sz_X2 (show q < mm_N M0 + 17 by omega)).trans ((sz_wR (a := mm_N M0 + 6) (k := ((0 : Int32) + 1).toNatClampNeg) (x := some (mm_N M0 + 12))).trans ((sz_X2 (show q < mm_N M0 + 12 by omega)).trans ((sz_wR (a := mm_N M0 + 6) (k := (0 : Int32).toNatClampNeg) (x := some (mm_N M0 + 7))).trans ((sz_X2 (show q < mm_N M0 + 7 by omega)).trans ((sz_push (c := 103) (n := 10) (show q < mm_N M0 + 6 by omega)).trans ((sz_X3 (show q < mm_N M0 + 1 by omega)).trans (sz_push (c := 6) (n := 0) h)))))))))))))))))))))))))))))))
theorem szp_X6 {M0 : Mm} {q v : Nat} (hs : mm_S M0 q = v) (h : q < mm_N M0) : mm_S (i_X6 M0) q = v := (sz_X6 h).trans hs
def rm_X6_init : Room := { frames := 3, cells := 65, slots := 8286, locals := 54 }
set_option maxHeartbeats 4000000 in
set_option maxRecDepth 100000 in
theorem c_X6_init (l : Launch) (D : va_G) (cA : Nat → ClassId) (ad : Nat → Nat) (M0 : Mm) (hw : Wf M0) : KC l yX6_init cX6_init 4 rm_X6_init D cA ad [.ref (ad (mm_N M0))] (mm_push M0 6 0) (i_X6 M0) 65 8286 := by
  refine KC_of (by decide) (Nat.le_of_ble_eq_true rfl) rfl ?_
  intro p e s m args below meth c ls Q A H locs hZ hO hin hE hl hret
  obtain ⟨hx, hb, hml, hown, hts, hnw, hK, hA⟩ := id hZ
  have hw := wf_push (c := 6) (n := 0) hw
  have hi : mm_is (mm_push M0 6 0) (mm_N M0) 6 := is_new
  obtain ⟨x0, e0⟩ : ∃ x, ad (mm_N M0) = x := ⟨_, rfl⟩
  have hl : lv_has ls 4 [(0, .ref (ad (mm_N M0)))] := hl
  rw [e0] at hl
  have had : ∀ i, i < mm_N M0 + 1 → ad i = ad i := fun _ _ => rfl
  refine lv_aload_n hx hb dX6_init_0 rfl (lv_at hl 0 rfl) ?_
  refine W.objInit hx hb hown (hts _ tn_40) (hts _ tn_1) (hts _ tn_2) rfl (by rw [hml]; exact hl.1) rfl dX6_init_1 (Nat.le_of_ble_eq_true rfl) (Nat.le_of_ble_eq_true rfl) ?_
  change W p l e rm_X6_init s m args below meth c H locs 0 0 Q (F0 m 4 ls [])
  have hw1 := hw
  have hi1 := hi
  refine xn_O (rest := []) hZ hE hw k_X3 df_X3 tn_41 tn_42 tn_43 (Nat.le_of_ble_eq_true rfl) (Nat.le_of_ble_eq_true rfl) dX6_init_4 (fun ad1 x1 H e1 hq hE => ?_)
  have e1 : ad1 (mm_N M0 + 1) = x1 := e1
  have e0 := (hq (mm_N M0) (show mm_N M0 < mm_N M0 + 1 by omega)).trans e0
  have had : ∀ i, i < mm_N M0 + 1 → ad1 i = ad i := fun i h0 => (hq i (show i < mm_N M0 + 1 by omega)).trans (had i h0)
  have hw := wf_push (c := 3) (n := 0) hw
  have hi := is_push (c := 3) (n := 0) hi
  refine lv_dup hx hb dX6_init_7 rfl ?_
  refine xn_cN (n := 0) (As := []) (As' := []) (rest := [.ref x1]) hZ hO hE tn_44 (c_X3_init l D cA _ _ hw1) e1 rfl ⟨tn_45, tn_43, by decide +kernel, by decide +kernel, by decide +kernel⟩ tn_46 rfl ⟨rfl, rfl⟩ ⟨(Nat.le_of_ble_eq_true rfl), (Nat.le_of_ble_eq_true rfl)⟩ rfl hl.1 rfl (Nat.le_of_ble_eq_true rfl) ⟨(Nat.le_of_ble_eq_true rfl), (Nat.le_of_ble_eq_true rfl)⟩ dX6_init_8 (fun ad2 H locs hq hE => ?_)
  have e0 := (hq (mm_N M0) (show mm_N M0 < mm_N M0 + 2 by omega)).trans e0
  have e1 := (hq (mm_N M0 + 1) (show mm_N M0 + 1 < mm_N M0 + 2 by omega)).trans e1
  have had : ∀ i, i < mm_N M0 + 1 → ad2 i = ad i := fun i h0 => (hq i (show i < mm_N M0 + 2 by omega)).trans (had i h0)
  have hw := wf_X3 hw1
  have hi := is_X3 hi1
  refine lv_astore_n (lv' := [(1, .ref x1), (0, .ref x0)]) hx hb dX6_init_11 rfl hl (by decide) rfl (fun ls hl => ?_)
  refine lv_bipush (v := 10) hx hb dX6_init_12 (by decide) ?_
  refine xn_Q (n := 10) (rest := []) hZ hE hw (C := RX2) rfl tn_47 hO (by decide) (by decide) (by decide) (Nat.le_of_ble_eq_true rfl) (Nat.le_of_ble_eq_true rfl) dX6_init_14 (fun ad3 x2 H e2 hq hE => ?_)
  have hv : mm_is (mm_push (i_X3 (mm_push M0 6 0)) 103 10) (mm_N M0 + 6) 103 := is_new
  have hs : mm_S (mm_push (i_X3 (mm_push M0 6 0)) 103 10) (mm_N M0 + 6) = 10 := if_pos rfl
  have e2 : ad3 (mm_N M0 + 6) = x2 := e2
  have e0 := (hq (mm_N M0) (show mm_N M0 < mm_N M0 + 6 by omega)).trans e0
  have e1 := (hq (mm_N M0 + 1) (show mm_N M0 + 1 < mm_N M0 + 6 by omega)).trans e1
  have had : ∀ i, i < mm_N M0 + 1 → ad3 i = ad i := fun i h0 => (hq i (show i < mm_N M0 + 6 by omega)).trans (had i h0)
  have hw := wf_push (c := 103) (n := 10) hw
  have hi := is_push (c := 103) (n := 10) hi
  refine lv_astore_n (lv' := [(2, .ref x2), (1, .ref x1), (0, .ref x0)]) hx hb dX6_init_17 rfl hl (by decide) rfl (fun ls hl => ?_)
  refine lv_iconst (v := 0) hx hb dX6_init_18 (by decide) ?_
  refine lv_istore_n (lv' := [(3, .int (0 : Int32)), (2, .ref x2), (1, .ref x1), (0, .ref x0)]) hx hb dX6_init_19 rfl hl (by decide) rfl (fun ls hl => ?_)
  refine lv_iload_n hx hb dX6_init_20 rfl (lv_at hl 0 rfl) ?_
  refine lv_bipush (v := 10) hx hb dX6_init_21 (by decide) ?_
  refine lv_icmp_ge (tgt := 42) hx hb dX6_init_23 (by decide) (fun hc => ?_) (fun hc => ?_)
  · exact absurd hc (by decide)
  refine lv_aload_n hx hb dX6_init_26 rfl (lv_at hl 1 rfl) ?_
  refine lv_iload_n hx hb dX6_init_27 rfl (lv_at hl 0 rfl) ?_
  have hw3 := hw
  have hi3 := hi
  have hv3 := hv
  have hs3 := hs
  refine xn_O (rest := [.int (0 : Int32), .ref x2]) hZ hE hw k_X2 df_X2 tn_47 tn_48 tn_49 (Nat.le_of_ble_eq_true rfl) (Nat.le_of_ble_eq_true rfl) dX6_init_28 (fun ad4 x3 H e3 hq hE => ?_)
  have e3 : ad4 (mm_N M0 + 7) = x3 := e3
  have e0 := (hq (mm_N M0) (show mm_N M0 < mm_N M0 + 7 by omega)).trans e0
  have e1 := (hq (mm_N M0 + 1) (show mm_N M0 + 1 < mm_N M0 + 7 by omega)).trans e1
  have e2 := (hq (mm_N M0 + 6) (show mm_N M0 + 6 < mm_N M0 + 7 by omega)).trans e2
  have had : ∀ i, i < mm_N M0 + 1 → ad4 i = ad i := fun i h0 => (hq i (show i < mm_N M0 + 7 by omega)).trans (had i h0)
  have hw := wf_push (c := 2) (n := 0) hw
  have hi := is_push (c := 2) (n := 0) hi
  have hv := is_push (c := 2) (n := 0) hv
  have hs := szp_push (c := 2) (n := 0) hs (show mm_N M0 + 6 < mm_N M0 + 7 by omega)
  refine lv_dup hx hb dX6_init_31 rfl ?_
  refine xn_cN (n := 0) (As := []) (As' := []) (rest := [.ref x3, .int (0 : Int32), .ref x2]) hZ hO hE tn_50 (c_X2_init l D cA _ _ hw3) e3 rfl ⟨tn_51, tn_49, by decide +kernel, by decide +kernel, by decide +kernel⟩ tn_52 rfl ⟨rfl, rfl⟩ ⟨(Nat.le_of_ble_eq_true rfl), (Nat.le_of_ble_eq_true rfl)⟩ rfl hl.1 rfl (Nat.le_of_ble_eq_true rfl) ⟨(Nat.le_of_ble_eq_true rfl), (Nat.le_of_ble_eq_true rfl)⟩ dX6_init_32 (fun ad5 H locs hq hE => ?_)
  have e0 := (hq (mm_N M0) (show mm_N M0 < mm_N M0 + 8 by omega)).trans e0
  have e1 := (hq (mm_N M0 + 1) (show mm_N M0 + 1 < mm_N M0 + 8 by omega)).trans e1
  have e2 := (hq (mm_N M0 + 6) (show mm_N M0 + 6 < mm_N M0 + 8 by omega)).trans e2
  have e3 := (hq (mm_N M0 + 7) (show mm_N M0 + 7 < mm_N M0 + 8 by omega)).trans e3
  have had : ∀ i, i < mm_N M0 + 1 → ad5 i = ad i := fun i h0 => (hq i (show i < mm_N M0 + 8 by omega)).trans (had i h0)
  have hw := wf_X2 hw3
  have hi := is_X2 hi3
  have hv := is_X2 hv3
  have hs := szp_X2 hs3 (show mm_N M0 + 6 < mm_N M0 + 7 by omega)
  have hr : mm_is (i_X2 (mm_push (i_X3 (mm_push M0 6 0)) 103 10)) (mm_N M0 + 7) 2 := is_X2_new
  refine xn_s (ci := 2) (q := mm_N M0 + 6) (r := mm_N M0 + 7) (rest := []) hZ hE rfl (by decide) rfl hv hr (by rw [hs]; decide) e2 e3 dX6_init_35 (fun H locs hE => ?_)
  have hw := wf_wR (q := mm_N M0 + 6) (k := (0 : Int32).toNatClampNeg) (x := mm_N M0 + 7) hw (show mm_N M0 + 7 < mm_N M0 + 12 by omega)
  have hi := is_wR (a := mm_N M0 + 6) (k := (0 : Int32).toNatClampNeg) (x := some (mm_N M0 + 7)) hi
  have hv := is_wR (a := mm_N M0 + 6) (k := (0 : Int32).toNatClampNeg) (x := some (mm_N M0 + 7)) hv
  have hs := (sz_wR (a := mm_N M0 + 6) (k := (0 : Int32).toNatClampNeg) (x := some (mm_N M0 + 7))).trans hs
  refine lv_iinc (v := ((0 : Int32) + 1)) (lv' := [(3, .int ((0 : Int32) + 1)), (2, .ref x2), (1, .ref x1), (0, .ref x0)]) hx hb dX6_init_36 hl (k := 0) rfl rfl (by decide) rfl (fun ls hl => ?_)
  refine lv_goto (tgt := 20) hx hb dX6_init_39 (by decide) ?_
  refine lv_iload_n hx hb dX6_init_20 rfl (lv_at hl 0 rfl) ?_
  refine lv_bipush (v := 10) hx hb dX6_init_21 (by decide) ?_
  refine lv_icmp_ge (tgt := 42) hx hb dX6_init_23 (by decide) (fun hc => ?_) (fun hc => ?_)
  · exact absurd hc (by decide)
  refine lv_aload_n hx hb dX6_init_26 rfl (lv_at hl 1 rfl) ?_
  refine lv_iload_n hx hb dX6_init_27 rfl (lv_at hl 0 rfl) ?_
  have hw4 := hw
  have hi4 := hi
  have hv4 := hv
  have hs4 := hs
  refine xn_O (rest := [.int ((0 : Int32) + 1), .ref x2]) hZ hE hw k_X2 df_X2 tn_47 tn_48 tn_49 (Nat.le_of_ble_eq_true rfl) (Nat.le_of_ble_eq_true rfl) dX6_init_28 (fun ad6 x4 H e4 hq hE => ?_)
  have e4 : ad6 (mm_N M0 + 12) = x4 := e4
  have e0 := (hq (mm_N M0) (show mm_N M0 < mm_N M0 + 12 by omega)).trans e0
  have e1 := (hq (mm_N M0 + 1) (show mm_N M0 + 1 < mm_N M0 + 12 by omega)).trans e1
  have e2 := (hq (mm_N M0 + 6) (show mm_N M0 + 6 < mm_N M0 + 12 by omega)).trans e2
  have had : ∀ i, i < mm_N M0 + 1 → ad6 i = ad i := fun i h0 => (hq i (show i < mm_N M0 + 12 by omega)).trans (had i h0)
  have hw := wf_push (c := 2) (n := 0) hw
  have hi := is_push (c := 2) (n := 0) hi
  have hv := is_push (c := 2) (n := 0) hv
  have hs := szp_push (c := 2) (n := 0) hs (show mm_N M0 + 6 < mm_N M0 + 12 by omega)
  refine lv_dup hx hb dX6_init_31 rfl ?_
  refine xn_cN (n := 0) (As := []) (As' := []) (rest := [.ref x4, .int ((0 : Int32) + 1), .ref x2]) hZ hO hE tn_50 (c_X2_init l D cA _ _ hw4) e4 rfl ⟨tn_51, tn_49, by decide +kernel, by decide +kernel, by decide +kernel⟩ tn_52 rfl ⟨rfl, rfl⟩ ⟨(Nat.le_of_ble_eq_true rfl), (Nat.le_of_ble_eq_true rfl)⟩ rfl hl.1 rfl (Nat.le_of_ble_eq_true rfl) ⟨(Nat.le_of_ble_eq_true rfl), (Nat.le_of_ble_eq_true rfl)⟩ dX6_init_32 (fun ad7 H locs hq hE => ?_)
  have e0 := (hq (mm_N M0) (show mm_N M0 < mm_N M0 + 13 by omega)).trans e0
  have e1 := (hq (mm_N M0 + 1) (show mm_N M0 + 1 < mm_N M0 + 13 by omega)).trans e1
  have e2 := (hq (mm_N M0 + 6) (show mm_N M0 + 6 < mm_N M0 + 13 by omega)).trans e2
  have e4 := (hq (mm_N M0 + 12) (show mm_N M0 + 12 < mm_N M0 + 13 by omega)).trans e4
  have had : ∀ i, i < mm_N M0 + 1 → ad7 i = ad i := fun i h0 => (hq i (show i < mm_N M0 + 13 by omega)).trans (had i h0)
  have hw := wf_X2 hw4
  have hi := is_X2 hi4
  have hv := is_X2 hv4
  have hs := szp_X2 hs4 (show mm_N M0 + 6 < mm_N M0 + 12 by omega)
  have hr : mm_is (i_X2 (mm_wR (i_X2 (mm_push (i_X3 (mm_push M0 6 0)) 103 10)) (mm_N M0 + 6) (0 : Int32).toNatClampNeg (some (mm_N M0 + 7)))) (mm_N M0 + 12) 2 := is_X2_new
  refine xn_s (ci := 2) (q := mm_N M0 + 6) (r := mm_N M0 + 12) (rest := []) hZ hE rfl (by decide) rfl hv hr (by rw [hs]; decide) e2 e4 dX6_init_35 (fun H locs hE => ?_)
  have hw := wf_wR (q := mm_N M0 + 6) (k := ((0 : Int32) + 1).toNatClampNeg) (x := mm_N M0 + 12) hw (show mm_N M0 + 12 < mm_N M0 + 17 by omega)
  have hi := is_wR (a := mm_N M0 + 6) (k := ((0 : Int32) + 1).toNatClampNeg) (x := some (mm_N M0 + 12)) hi
  have hv := is_wR (a := mm_N M0 + 6) (k := ((0 : Int32) + 1).toNatClampNeg) (x := some (mm_N M0 + 12)) hv
  have hs := (sz_wR (a := mm_N M0 + 6) (k := ((0 : Int32) + 1).toNatClampNeg) (x := some (mm_N M0 + 12))).trans hs
  refine lv_iinc (v := (((0 : Int32) + 1) + 1)) (lv' := [(3, .int (((0 : Int32) + 1) + 1)), (2, .ref x2), (1, .ref x1), (0, .ref x0)]) hx hb dX6_init_36 hl (k := 0) rfl rfl (by decide) rfl (fun ls hl => ?_)
  refine lv_goto (tgt := 20) hx hb dX6_init_39 (by decide) ?_
  refine lv_iload_n hx hb dX6_init_20 rfl (lv_at hl 0 rfl) ?_
  refine lv_bipush (v := 10) hx hb dX6_init_21 (by decide) ?_
  refine lv_icmp_ge (tgt := 42) hx hb dX6_init_23 (by decide) (fun hc => ?_) (fun hc => ?_)
  · exact absurd hc (by decide)
  refine lv_aload_n hx hb dX6_init_26 rfl (lv_at hl 1 rfl) ?_
  refine lv_iload_n hx hb dX6_init_27 rfl (lv_at hl 0 rfl) ?_
  have hw5 := hw
  have hi5 := hi
  have hv5 := hv
  have hs5 := hs
  refine xn_O (rest := [.int (((0 : Int32) + 1) + 1), .ref x2]) hZ hE hw k_X2 df_X2 tn_47 tn_48 tn_49 (Nat.le_of_ble_eq_true rfl) (Nat.le_of_ble_eq_true rfl) dX6_init_28 (fun ad8 x5 H e5 hq hE => ?_)
  have e5 : ad8 (mm_N M0 + 17) = x5 := e5
  have e0 := (hq (mm_N M0) (show mm_N M0 < mm_N M0 + 17 by omega)).trans e0
  have e1 := (hq (mm_N M0 + 1) (show mm_N M0 + 1 < mm_N M0 + 17 by omega)).trans e1
  have e2 := (hq (mm_N M0 + 6) (show mm_N M0 + 6 < mm_N M0 + 17 by omega)).trans e2
  have had : ∀ i, i < mm_N M0 + 1 → ad8 i = ad i := fun i h0 => (hq i (show i < mm_N M0 + 17 by omega)).trans (had i h0)
  have hw := wf_push (c := 2) (n := 0) hw
  have hi := is_push (c := 2) (n := 0) hi
  have hv := is_push (c := 2) (n := 0) hv
  have hs := szp_push (c := 2) (n := 0) hs (show mm_N M0 + 6 < mm_N M0 + 17 by omega)
  refine lv_dup hx hb dX6_init_31 rfl ?_
  refine xn_cN (n := 0) (As := []) (As' := []) (rest := [.ref x5, .int (((0 : Int32) + 1) + 1), .ref x2]) hZ hO hE tn_50 (c_X2_init l D cA _ _ hw5) e5 rfl ⟨tn_51, tn_49, by decide +kernel, by decide +kernel, by decide +kernel⟩ tn_52 rfl ⟨rfl, rfl⟩ ⟨(Nat.le_of_ble_eq_true rfl), (Nat.le_of_ble_eq_true rfl)⟩ rfl hl.1 rfl (Nat.le_of_ble_eq_true rfl) ⟨(Nat.le_of_ble_eq_true rfl), (Nat.le_of_ble_eq_true rfl)⟩ dX6_init_32 (fun ad9 H locs hq hE => ?_)
  have e0 := (hq (mm_N M0) (show mm_N M0 < mm_N M0 + 18 by omega)).trans e0
  have e1 := (hq (mm_N M0 + 1) (show mm_N M0 + 1 < mm_N M0 + 18 by omega)).trans e1
  have e2 := (hq (mm_N M0 + 6) (show mm_N M0 + 6 < mm_N M0 + 18 by omega)).trans e2
  have e5 := (hq (mm_N M0 + 17) (show mm_N M0 + 17 < mm_N M0 + 18 by omega)).trans e5
  have had : ∀ i, i < mm_N M0 + 1 → ad9 i = ad i := fun i h0 => (hq i (show i < mm_N M0 + 18 by omega)).trans (had i h0)
  have hw := wf_X2 hw5
  have hi := is_X2 hi5
  have hv := is_X2 hv5
  have hs := szp_X2 hs5 (show mm_N M0 + 6 < mm_N M0 + 17 by omega)
  have hr : mm_is (i_X2 (mm_wR (i_X2 (mm_wR (i_X2 (mm_push (i_X3 (mm_push M0 6 0)) 103 10)) (mm_N M0 + 6) (0 : Int32).toNatClampNeg (some (mm_N M0 + 7)))) (mm_N M0 + 6) ((0 : Int32) + 1).toNatClampNeg (some (mm_N M0 + 12)))) (mm_N M0 + 17) 2 := is_X2_new
  refine xn_s (ci := 2) (q := mm_N M0 + 6) (r := mm_N M0 + 17) (rest := []) hZ hE rfl (by decide) rfl hv hr (by rw [hs]; decide) e2 e5 dX6_init_35 (fun H locs hE => ?_)
  have hw := wf_wR (q := mm_N M0 + 6) (k := (((0 : Int32) + 1) + 1).toNatClampNeg) (x := mm_N M0 + 17) hw (show mm_N M0 + 17 < mm_N M0 + 22 by omega)
  have hi := is_wR (a := mm_N M0 + 6) (k := (((0 : Int32) + 1) + 1).toNatClampNeg) (x := some (mm_N M0 + 17)) hi
  have hv := is_wR (a := mm_N M0 + 6) (k := (((0 : Int32) + 1) + 1).toNatClampNeg) (x := some (mm_N M0 + 17)) hv
  have hs := (sz_wR (a := mm_N M0 + 6) (k := (((0 : Int32) + 1) + 1).toNatClampNeg) (x := some (mm_N M0 + 17))).trans hs
  refine lv_iinc (v := ((((0 : Int32) + 1) + 1) + 1)) (lv' := [(3, .int ((((0 : Int32) + 1) + 1) + 1)), (2, .ref x2), (1, .ref x1), (0, .ref x0)]) hx hb dX6_init_36 hl (k := 0) rfl rfl (by decide) rfl (fun ls hl => ?_)
  refine lv_goto (tgt := 20) hx hb dX6_init_39 (by decide) ?_
  refine lv_iload_n hx hb dX6_init_20 rfl (lv_at hl 0 rfl) ?_
  refine lv_bipush (v := 10) hx hb dX6_init_21 (by decide) ?_
  refine lv_icmp_ge (tgt := 42) hx hb dX6_init_23 (by decide) (fun hc => ?_) (fun hc => ?_)
  · exact absurd hc (by decide)
  refine lv_aload_n hx hb dX6_init_26 rfl (lv_at hl 1 rfl) ?_
  refine lv_iload_n hx hb dX6_init_27 rfl (lv_at hl 0 rfl) ?_
  have hw6 := hw
  have hi6 := hi
  have hv6 := hv
  have hs6 := hs
  refine xn_O (rest := [.int ((((0 : Int32) + 1) + 1) + 1), .ref x2]) hZ hE hw k_X2 df_X2 tn_47 tn_48 tn_49 (Nat.le_of_ble_eq_true rfl) (Nat.le_of_ble_eq_true rfl) dX6_init_28 (fun ad10 x6 H e6 hq hE => ?_)
  have e6 : ad10 (mm_N M0 + 22) = x6 := e6
  have e0 := (hq (mm_N M0) (show mm_N M0 < mm_N M0 + 22 by omega)).trans e0
  have e1 := (hq (mm_N M0 + 1) (show mm_N M0 + 1 < mm_N M0 + 22 by omega)).trans e1
  have e2 := (hq (mm_N M0 + 6) (show mm_N M0 + 6 < mm_N M0 + 22 by omega)).trans e2
  have had : ∀ i, i < mm_N M0 + 1 → ad10 i = ad i := fun i h0 => (hq i (show i < mm_N M0 + 22 by omega)).trans (had i h0)
  have hw := wf_push (c := 2) (n := 0) hw
  have hi := is_push (c := 2) (n := 0) hi
  have hv := is_push (c := 2) (n := 0) hv
  have hs := szp_push (c := 2) (n := 0) hs (show mm_N M0 + 6 < mm_N M0 + 22 by omega)
  refine lv_dup hx hb dX6_init_31 rfl ?_
  refine xn_cN (n := 0) (As := []) (As' := []) (rest := [.ref x6, .int ((((0 : Int32) + 1) + 1) + 1), .ref x2]) hZ hO hE tn_50 (c_X2_init l D cA _ _ hw6) e6 rfl ⟨tn_51, tn_49, by decide +kernel, by decide +kernel, by decide +kernel⟩ tn_52 rfl ⟨rfl, rfl⟩ ⟨(Nat.le_of_ble_eq_true rfl), (Nat.le_of_ble_eq_true rfl)⟩ rfl hl.1 rfl (Nat.le_of_ble_eq_true rfl) ⟨(Nat.le_of_ble_eq_true rfl), (Nat.le_of_ble_eq_true rfl)⟩ dX6_init_32 (fun ad11 H locs hq hE => ?_)
  have e0 := (hq (mm_N M0) (show mm_N M0 < mm_N M0 + 23 by omega)).trans e0
  have e1 := (hq (mm_N M0 + 1) (show mm_N M0 + 1 < mm_N M0 + 23 by omega)).trans e1
  have e2 := (hq (mm_N M0 + 6) (show mm_N M0 + 6 < mm_N M0 + 23 by omega)).trans e2
  have e6 := (hq (mm_N M0 + 22) (show mm_N M0 + 22 < mm_N M0 + 23 by omega)).trans e6
  have had : ∀ i, i < mm_N M0 + 1 → ad11 i = ad i := fun i h0 => (hq i (show i < mm_N M0 + 23 by omega)).trans (had i h0)
  have hw := wf_X2 hw6
  have hi := is_X2 hi6
  have hv := is_X2 hv6
  have hs := szp_X2 hs6 (show mm_N M0 + 6 < mm_N M0 + 22 by omega)
  have hr : mm_is (i_X2 (mm_wR (i_X2 (mm_wR (i_X2 (mm_wR (i_X2 (mm_push (i_X3 (mm_push M0 6 0)) 103 10)) (mm_N M0 + 6) (0 : Int32).toNatClampNeg (some (mm_N M0 + 7)))) (mm_N M0 + 6) ((0 : Int32) + 1).toNatClampNeg (some (mm_N M0 + 12)))) (mm_N M0 + 6) (((0 : Int32) + 1) + 1).toNatClampNeg (some (mm_N M0 + 17)))) (mm_N M0 + 22) 2 := is_X2_new
  refine xn_s (ci := 2) (q := mm_N M0 + 6) (r := mm_N M0 + 22) (rest := []) hZ hE rfl (by decide) rfl hv hr (by rw [hs]; decide) e2 e6 dX6_init_35 (fun H locs hE => ?_)
  have hw := wf_wR (q := mm_N M0 + 6) (k := ((((0 : Int32) + 1) + 1) + 1).toNatClampNeg) (x := mm_N M0 + 22) hw (show mm_N M0 + 22 < mm_N M0 + 27 by omega)
  have hi := is_wR (a := mm_N M0 + 6) (k := ((((0 : Int32) + 1) + 1) + 1).toNatClampNeg) (x := some (mm_N M0 + 22)) hi
  have hv := is_wR (a := mm_N M0 + 6) (k := ((((0 : Int32) + 1) + 1) + 1).toNatClampNeg) (x := some (mm_N M0 + 22)) hv
  have hs := (sz_wR (a := mm_N M0 + 6) (k := ((((0 : Int32) + 1) + 1) + 1).toNatClampNeg) (x := some (mm_N M0 + 22))).trans hs
  refine lv_iinc (v := (((((0 : Int32) + 1) + 1) + 1) + 1)) (lv' := [(3, .int (((((0 : Int32) + 1) + 1) + 1) + 1)), (2, .ref x2), (1, .ref x1), (0, .ref x0)]) hx hb dX6_init_36 hl (k := 0) rfl rfl (by decide) rfl (fun ls hl => ?_)
  refine lv_goto (tgt := 20) hx hb dX6_init_39 (by decide) ?_
  refine lv_iload_n hx hb dX6_init_20 rfl (lv_at hl 0 rfl) ?_
  refine lv_bipush (v := 10) hx hb dX6_init_21 (by decide) ?_
  refine lv_icmp_ge (tgt := 42) hx hb dX6_init_23 (by decide) (fun hc => ?_) (fun hc => ?_)
  · exact absurd hc (by decide)
  refine lv_aload_n hx hb dX6_init_26 rfl (lv_at hl 1 rfl) ?_
  refine lv_iload_n hx hb dX6_init_27 rfl (lv_at hl 0 rfl) ?_
  have hw7 := hw
  have hi7 := hi
  have hv7 := hv
  have hs7 := hs
  refine xn_O (rest := [.int (((((0 : Int32) + 1) + 1) + 1) + 1), .ref x2]) hZ hE hw k_X2 df_X2 tn_47 tn_48 tn_49 (Nat.le_of_ble_eq_true rfl) (Nat.le_of_ble_eq_true rfl) dX6_init_28 (fun ad12 x7 H e7 hq hE => ?_)
  have e7 : ad12 (mm_N M0 + 27) = x7 := e7
  have e0 := (hq (mm_N M0) (show mm_N M0 < mm_N M0 + 27 by omega)).trans e0
  have e1 := (hq (mm_N M0 + 1) (show mm_N M0 + 1 < mm_N M0 + 27 by omega)).trans e1
  have e2 := (hq (mm_N M0 + 6) (show mm_N M0 + 6 < mm_N M0 + 27 by omega)).trans e2
  have had : ∀ i, i < mm_N M0 + 1 → ad12 i = ad i := fun i h0 => (hq i (show i < mm_N M0 + 27 by omega)).trans (had i h0)
  have hw := wf_push (c := 2) (n := 0) hw
  have hi := is_push (c := 2) (n := 0) hi
  have hv := is_push (c := 2) (n := 0) hv
  have hs := szp_push (c := 2) (n := 0) hs (show mm_N M0 + 6 < mm_N M0 + 27 by omega)
  refine lv_dup hx hb dX6_init_31 rfl ?_
  refine xn_cN (n := 0) (As := []) (As' := []) (rest := [.ref x7, .int (((((0 : Int32) + 1) + 1) + 1) + 1), .ref x2]) hZ hO hE tn_50 (c_X2_init l D cA _ _ hw7) e7 rfl ⟨tn_51, tn_49, by decide +kernel, by decide +kernel, by decide +kernel⟩ tn_52 rfl ⟨rfl, rfl⟩ ⟨(Nat.le_of_ble_eq_true rfl), (Nat.le_of_ble_eq_true rfl)⟩ rfl hl.1 rfl (Nat.le_of_ble_eq_true rfl) ⟨(Nat.le_of_ble_eq_true rfl), (Nat.le_of_ble_eq_true rfl)⟩ dX6_init_32 (fun ad13 H locs hq hE => ?_)
  have e0 := (hq (mm_N M0) (show mm_N M0 < mm_N M0 + 28 by omega)).trans e0
  have e1 := (hq (mm_N M0 + 1) (show mm_N M0 + 1 < mm_N M0 + 28 by omega)).trans e1
  have e2 := (hq (mm_N M0 + 6) (show mm_N M0 + 6 < mm_N M0 + 28 by omega)).trans e2
  have e7 := (hq (mm_N M0 + 27) (show mm_N M0 + 27 < mm_N M0 + 28 by omega)).trans e7
  have had : ∀ i, i < mm_N M0 + 1 → ad13 i = ad i := fun i h0 => (hq i (show i < mm_N M0 + 28 by omega)).trans (had i h0)
  have hw := wf_X2 hw7
  have hi := is_X2 hi7
  have hv := is_X2 hv7
  have hs := szp_X2 hs7 (show mm_N M0 + 6 < mm_N M0 + 27 by omega)
  have hr : mm_is (i_X2 (mm_wR (i_X2 (mm_wR (i_X2 (mm_wR (i_X2 (mm_wR (i_X2 (mm_push (i_X3 (mm_push M0 6 0)) 103 10)) (mm_N M0 + 6) (0 : Int32).toNatClampNeg (some (mm_N M0 + 7)))) (mm_N M0 + 6) ((0 : Int32) + 1).toNatClampNeg (some (mm_N M0 + 12)))) (mm_N M0 + 6) (((0 : Int32) + 1) + 1).toNatClampNeg (some (mm_N M0 + 17)))) (mm_N M0 + 6) ((((0 : Int32) + 1) + 1) + 1).toNatClampNeg (some (mm_N M0 + 22)))) (mm_N M0 + 27) 2 := is_X2_new
  refine xn_s (ci := 2) (q := mm_N M0 + 6) (r := mm_N M0 + 27) (rest := []) hZ hE rfl (by decide) rfl hv hr (by rw [hs]; decide) e2 e7 dX6_init_35 (fun H locs hE => ?_)
  have hw := wf_wR (q := mm_N M0 + 6) (k := (((((0 : Int32) + 1) + 1) + 1) + 1).toNatClampNeg) (x := mm_N M0 + 27) hw (show mm_N M0 + 27 < mm_N M0 + 32 by omega)
  have hi := is_wR (a := mm_N M0 + 6) (k := (((((0 : Int32) + 1) + 1) + 1) + 1).toNatClampNeg) (x := some (mm_N M0 + 27)) hi
  have hv := is_wR (a := mm_N M0 + 6) (k := (((((0 : Int32) + 1) + 1) + 1) + 1).toNatClampNeg) (x := some (mm_N M0 + 27)) hv
  have hs := (sz_wR (a := mm_N M0 + 6) (k := (((((0 : Int32) + 1) + 1) + 1) + 1).toNatClampNeg) (x := some (mm_N M0 + 27))).trans hs
  refine lv_iinc (v := ((((((0 : Int32) + 1) + 1) + 1) + 1) + 1)) (lv' := [(3, .int ((((((0 : Int32) + 1) + 1) + 1) + 1) + 1)), (2, .ref x2), (1, .ref x1), (0, .ref x0)]) hx hb dX6_init_36 hl (k := 0) rfl rfl (by decide) rfl (fun ls hl => ?_)
  refine lv_goto (tgt := 20) hx hb dX6_init_39 (by decide) ?_
  refine lv_iload_n hx hb dX6_init_20 rfl (lv_at hl 0 rfl) ?_
  refine lv_bipush (v := 10) hx hb dX6_init_21 (by decide) ?_
  refine lv_icmp_ge (tgt := 42) hx hb dX6_init_23 (by decide) (fun hc => ?_) (fun hc => ?_)
  · exact absurd hc (by decide)
  refine lv_aload_n hx hb dX6_init_26 rfl (lv_at hl 1 rfl) ?_
  refine lv_iload_n hx hb dX6_init_27 rfl (lv_at hl 0 rfl) ?_
  have hw8 := hw
  have hi8 := hi
  have hv8 := hv
  have hs8 := hs
  refine xn_O (rest := [.int ((((((0 : Int32) + 1) + 1) + 1) + 1) + 1), .ref x2]) hZ hE hw k_X2 df_X2 tn_47 tn_48 tn_49 (Nat.le_of_ble_eq_true rfl) (Nat.le_of_ble_eq_true rfl) dX6_init_28 (fun ad14 x8 H e8 hq hE => ?_)
  have e8 : ad14 (mm_N M0 + 32) = x8 := e8
  have e0 := (hq (mm_N M0) (show mm_N M0 < mm_N M0 + 32 by omega)).trans e0
  have e1 := (hq (mm_N M0 + 1) (show mm_N M0 + 1 < mm_N M0 + 32 by omega)).trans e1
  have e2 := (hq (mm_N M0 + 6) (show mm_N M0 + 6 < mm_N M0 + 32 by omega)).trans e2
  have had : ∀ i, i < mm_N M0 + 1 → ad14 i = ad i := fun i h0 => (hq i (show i < mm_N M0 + 32 by omega)).trans (had i h0)
  have hw := wf_push (c := 2) (n := 0) hw
  have hi := is_push (c := 2) (n := 0) hi
  have hv := is_push (c := 2) (n := 0) hv
  have hs := szp_push (c := 2) (n := 0) hs (show mm_N M0 + 6 < mm_N M0 + 32 by omega)
  refine lv_dup hx hb dX6_init_31 rfl ?_
  refine xn_cN (n := 0) (As := []) (As' := []) (rest := [.ref x8, .int ((((((0 : Int32) + 1) + 1) + 1) + 1) + 1), .ref x2]) hZ hO hE tn_50 (c_X2_init l D cA _ _ hw8) e8 rfl ⟨tn_51, tn_49, by decide +kernel, by decide +kernel, by decide +kernel⟩ tn_52 rfl ⟨rfl, rfl⟩ ⟨(Nat.le_of_ble_eq_true rfl), (Nat.le_of_ble_eq_true rfl)⟩ rfl hl.1 rfl (Nat.le_of_ble_eq_true rfl) ⟨(Nat.le_of_ble_eq_true rfl), (Nat.le_of_ble_eq_true rfl)⟩ dX6_init_32 (fun ad15 H locs hq hE => ?_)
  have e0 := (hq (mm_N M0) (show mm_N M0 < mm_N M0 + 33 by omega)).trans e0
  have e1 := (hq (mm_N M0 + 1) (show mm_N M0 + 1 < mm_N M0 + 33 by omega)).trans e1
  have e2 := (hq (mm_N M0 + 6) (show mm_N M0 + 6 < mm_N M0 + 33 by omega)).trans e2
  have e8 := (hq (mm_N M0 + 32) (show mm_N M0 + 32 < mm_N M0 + 33 by omega)).trans e8
  have had : ∀ i, i < mm_N M0 + 1 → ad15 i = ad i := fun i h0 => (hq i (show i < mm_N M0 + 33 by omega)).trans (had i h0)
  have hw := wf_X2 hw8
  have hi := is_X2 hi8
  have hv := is_X2 hv8
  have hs := szp_X2 hs8 (show mm_N M0 + 6 < mm_N M0 + 32 by omega)
  have hr : mm_is (i_X2 (mm_wR (i_X2 (mm_wR (i_X2 (mm_wR (i_X2 (mm_wR (i_X2 (mm_wR (i_X2 (mm_push (i_X3 (mm_push M0 6 0)) 103 10)) (mm_N M0 + 6) (0 : Int32).toNatClampNeg (some (mm_N M0 + 7)))) (mm_N M0 + 6) ((0 : Int32) + 1).toNatClampNeg (some (mm_N M0 + 12)))) (mm_N M0 + 6) (((0 : Int32) + 1) + 1).toNatClampNeg (some (mm_N M0 + 17)))) (mm_N M0 + 6) ((((0 : Int32) + 1) + 1) + 1).toNatClampNeg (some (mm_N M0 + 22)))) (mm_N M0 + 6) (((((0 : Int32) + 1) + 1) + 1) + 1).toNatClampNeg (some (mm_N M0 + 27)))) (mm_N M0 + 32) 2 := is_X2_new
  refine xn_s (ci := 2) (q := mm_N M0 + 6) (r := mm_N M0 + 32) (rest := []) hZ hE rfl (by decide) rfl hv hr (by rw [hs]; decide) e2 e8 dX6_init_35 (fun H locs hE => ?_)
  have hw := wf_wR (q := mm_N M0 + 6) (k := ((((((0 : Int32) + 1) + 1) + 1) + 1) + 1).toNatClampNeg) (x := mm_N M0 + 32) hw (show mm_N M0 + 32 < mm_N M0 + 37 by omega)
  have hi := is_wR (a := mm_N M0 + 6) (k := ((((((0 : Int32) + 1) + 1) + 1) + 1) + 1).toNatClampNeg) (x := some (mm_N M0 + 32)) hi
  have hv := is_wR (a := mm_N M0 + 6) (k := ((((((0 : Int32) + 1) + 1) + 1) + 1) + 1).toNatClampNeg) (x := some (mm_N M0 + 32)) hv
  have hs := (sz_wR (a := mm_N M0 + 6) (k := ((((((0 : Int32) + 1) + 1) + 1) + 1) + 1).toNatClampNeg) (x := some (mm_N M0 + 32))).trans hs
  refine lv_iinc (v := (((((((0 : Int32) + 1) + 1) + 1) + 1) + 1) + 1)) (lv' := [(3, .int (((((((0 : Int32) + 1) + 1) + 1) + 1) + 1) + 1)), (2, .ref x2), (1, .ref x1), (0, .ref x0)]) hx hb dX6_init_36 hl (k := 0) rfl rfl (by decide) rfl (fun ls hl => ?_)
  refine lv_goto (tgt := 20) hx hb dX6_init_39 (by decide) ?_
  refine lv_iload_n hx hb dX6_init_20 rfl (lv_at hl 0 rfl) ?_
  refine lv_bipush (v := 10) hx hb dX6_init_21 (by decide) ?_
  refine lv_icmp_ge (tgt := 42) hx hb dX6_init_23 (by decide) (fun hc => ?_) (fun hc => ?_)
  · exact absurd hc (by decide)
  refine lv_aload_n hx hb dX6_init_26 rfl (lv_at hl 1 rfl) ?_
  refine lv_iload_n hx hb dX6_init_27 rfl (lv_at hl 0 rfl) ?_
  have hw9 := hw
  have hi9 := hi
  have hv9 := hv
  have hs9 := hs
  refine xn_O (rest := [.int (((((((0 : Int32) + 1) + 1) + 1) + 1) + 1) + 1), .ref x2]) hZ hE hw k_X2 df_X2 tn_47 tn_48 tn_49 (Nat.le_of_ble_eq_true rfl) (Nat.le_of_ble_eq_true rfl) dX6_init_28 (fun ad16 x9 H e9 hq hE => ?_)
  have e9 : ad16 (mm_N M0 + 37) = x9 := e9
  have e0 := (hq (mm_N M0) (show mm_N M0 < mm_N M0 + 37 by omega)).trans e0
  have e1 := (hq (mm_N M0 + 1) (show mm_N M0 + 1 < mm_N M0 + 37 by omega)).trans e1
  have e2 := (hq (mm_N M0 + 6) (show mm_N M0 + 6 < mm_N M0 + 37 by omega)).trans e2
  have had : ∀ i, i < mm_N M0 + 1 → ad16 i = ad i := fun i h0 => (hq i (show i < mm_N M0 + 37 by omega)).trans (had i h0)
  have hw := wf_push (c := 2) (n := 0) hw
  have hi := is_push (c := 2) (n := 0) hi
  have hv := is_push (c := 2) (n := 0) hv
  have hs := szp_push (c := 2) (n := 0) hs (show mm_N M0 + 6 < mm_N M0 + 37 by omega)
  refine lv_dup hx hb dX6_init_31 rfl ?_
  refine xn_cN (n := 0) (As := []) (As' := []) (rest := [.ref x9, .int (((((((0 : Int32) + 1) + 1) + 1) + 1) + 1) + 1), .ref x2]) hZ hO hE tn_50 (c_X2_init l D cA _ _ hw9) e9 rfl ⟨tn_51, tn_49, by decide +kernel, by decide +kernel, by decide +kernel⟩ tn_52 rfl ⟨rfl, rfl⟩ ⟨(Nat.le_of_ble_eq_true rfl), (Nat.le_of_ble_eq_true rfl)⟩ rfl hl.1 rfl (Nat.le_of_ble_eq_true rfl) ⟨(Nat.le_of_ble_eq_true rfl), (Nat.le_of_ble_eq_true rfl)⟩ dX6_init_32 (fun ad17 H locs hq hE => ?_)
  have e0 := (hq (mm_N M0) (show mm_N M0 < mm_N M0 + 38 by omega)).trans e0
  have e1 := (hq (mm_N M0 + 1) (show mm_N M0 + 1 < mm_N M0 + 38 by omega)).trans e1
  have e2 := (hq (mm_N M0 + 6) (show mm_N M0 + 6 < mm_N M0 + 38 by omega)).trans e2
  have e9 := (hq (mm_N M0 + 37) (show mm_N M0 + 37 < mm_N M0 + 38 by omega)).trans e9
  have had : ∀ i, i < mm_N M0 + 1 → ad17 i = ad i := fun i h0 => (hq i (show i < mm_N M0 + 38 by omega)).trans (had i h0)
  have hw := wf_X2 hw9
  have hi := is_X2 hi9
  have hv := is_X2 hv9
  have hs := szp_X2 hs9 (show mm_N M0 + 6 < mm_N M0 + 37 by omega)
  have hr : mm_is (i_X2 (mm_wR (i_X2 (mm_wR (i_X2 (mm_wR (i_X2 (mm_wR (i_X2 (mm_wR (i_X2 (mm_wR (i_X2 (mm_push (i_X3 (mm_push M0 6 0)) 103 10)) (mm_N M0 + 6) (0 : Int32).toNatClampNeg (some (mm_N M0 + 7)))) (mm_N M0 + 6) ((0 : Int32) + 1).toNatClampNeg (some (mm_N M0 + 12)))) (mm_N M0 + 6) (((0 : Int32) + 1) + 1).toNatClampNeg (some (mm_N M0 + 17)))) (mm_N M0 + 6) ((((0 : Int32) + 1) + 1) + 1).toNatClampNeg (some (mm_N M0 + 22)))) (mm_N M0 + 6) (((((0 : Int32) + 1) + 1) + 1) + 1).toNatClampNeg (some (mm_N M0 + 27)))) (mm_N M0 + 6) ((((((0 : Int32) + 1) + 1) + 1) + 1) + 1).toNatClampNeg (some (mm_N M0 + 32)))) (mm_N M0 + 37) 2 := is_X2_new
  refine xn_s (ci := 2) (q := mm_N M0 + 6) (r := mm_N M0 + 37) (rest := []) hZ hE rfl (by decide) rfl hv hr (by rw [hs]; decide) e2 e9 dX6_init_35 (fun H locs hE => ?_)
  have hw := wf_wR (q := mm_N M0 + 6) (k := (((((((0 : Int32) + 1) + 1) + 1) + 1) + 1) + 1).toNatClampNeg) (x := mm_N M0 + 37) hw (show mm_N M0 + 37 < mm_N M0 + 42 by omega)
  have hi := is_wR (a := mm_N M0 + 6) (k := (((((((0 : Int32) + 1) + 1) + 1) + 1) + 1) + 1).toNatClampNeg) (x := some (mm_N M0 + 37)) hi
  have hv := is_wR (a := mm_N M0 + 6) (k := (((((((0 : Int32) + 1) + 1) + 1) + 1) + 1) + 1).toNatClampNeg) (x := some (mm_N M0 + 37)) hv
  have hs := (sz_wR (a := mm_N M0 + 6) (k := (((((((0 : Int32) + 1) + 1) + 1) + 1) + 1) + 1).toNatClampNeg) (x := some (mm_N M0 + 37))).trans hs
  refine lv_iinc (v := ((((((((0 : Int32) + 1) + 1) + 1) + 1) + 1) + 1) + 1)) (lv' := [(3, .int ((((((((0 : Int32) + 1) + 1) + 1) + 1) + 1) + 1) + 1)), (2, .ref x2), (1, .ref x1), (0, .ref x0)]) hx hb dX6_init_36 hl (k := 0) rfl rfl (by decide) rfl (fun ls hl => ?_)
  refine lv_goto (tgt := 20) hx hb dX6_init_39 (by decide) ?_
  refine lv_iload_n hx hb dX6_init_20 rfl (lv_at hl 0 rfl) ?_
  refine lv_bipush (v := 10) hx hb dX6_init_21 (by decide) ?_
  refine lv_icmp_ge (tgt := 42) hx hb dX6_init_23 (by decide) (fun hc => ?_) (fun hc => ?_)
  · exact absurd hc (by decide)
  refine lv_aload_n hx hb dX6_init_26 rfl (lv_at hl 1 rfl) ?_
  refine lv_iload_n hx hb dX6_init_27 rfl (lv_at hl 0 rfl) ?_
  have hw10 := hw
  have hi10 := hi
  have hv10 := hv
  have hs10 := hs
  refine xn_O (rest := [.int ((((((((0 : Int32) + 1) + 1) + 1) + 1) + 1) + 1) + 1), .ref x2]) hZ hE hw k_X2 df_X2 tn_47 tn_48 tn_49 (Nat.le_of_ble_eq_true rfl) (Nat.le_of_ble_eq_true rfl) dX6_init_28 (fun ad18 x10 H e10 hq hE => ?_)
  have e10 : ad18 (mm_N M0 + 42) = x10 := e10
  have e0 := (hq (mm_N M0) (show mm_N M0 < mm_N M0 + 42 by omega)).trans e0
  have e1 := (hq (mm_N M0 + 1) (show mm_N M0 + 1 < mm_N M0 + 42 by omega)).trans e1
  have e2 := (hq (mm_N M0 + 6) (show mm_N M0 + 6 < mm_N M0 + 42 by omega)).trans e2
  have had : ∀ i, i < mm_N M0 + 1 → ad18 i = ad i := fun i h0 => (hq i (show i < mm_N M0 + 42 by omega)).trans (had i h0)
  have hw := wf_push (c := 2) (n := 0) hw
  have hi := is_push (c := 2) (n := 0) hi
  have hv := is_push (c := 2) (n := 0) hv
  have hs := szp_push (c := 2) (n := 0) hs (show mm_N M0 + 6 < mm_N M0 + 42 by omega)
  refine lv_dup hx hb dX6_init_31 rfl ?_
  refine xn_cN (n := 0) (As := []) (As' := []) (rest := [.ref x10, .int ((((((((0 : Int32) + 1) + 1) + 1) + 1) + 1) + 1) + 1), .ref x2]) hZ hO hE tn_50 (c_X2_init l D cA _ _ hw10) e10 rfl ⟨tn_51, tn_49, by decide +kernel, by decide +kernel, by decide +kernel⟩ tn_52 rfl ⟨rfl, rfl⟩ ⟨(Nat.le_of_ble_eq_true rfl), (Nat.le_of_ble_eq_true rfl)⟩ rfl hl.1 rfl (Nat.le_of_ble_eq_true rfl) ⟨(Nat.le_of_ble_eq_true rfl), (Nat.le_of_ble_eq_true rfl)⟩ dX6_init_32 (fun ad19 H locs hq hE => ?_)
  have e0 := (hq (mm_N M0) (show mm_N M0 < mm_N M0 + 43 by omega)).trans e0
  have e1 := (hq (mm_N M0 + 1) (show mm_N M0 + 1 < mm_N M0 + 43 by omega)).trans e1
  have e2 := (hq (mm_N M0 + 6) (show mm_N M0 + 6 < mm_N M0 + 43 by omega)).trans e2
  have e10 := (hq (mm_N M0 + 42) (show mm_N M0 + 42 < mm_N M0 + 43 by omega)).trans e10
  have had : ∀ i, i < mm_N M0 + 1 → ad19 i = ad i := fun i h0 => (hq i (show i < mm_N M0 + 43 by omega)).trans (had i h0)
  have hw := wf_X2 hw10
  have hi := is_X2 hi10
  have hv := is_X2 hv10
  have hs := szp_X2 hs10 (show mm_N M0 + 6 < mm_N M0 + 42 by omega)
  have hr : mm_is (i_X2 (mm_wR (i_X2 (mm_wR (i_X2 (mm_wR (i_X2 (mm_wR (i_X2 (mm_wR (i_X2 (mm_wR (i_X2 (mm_wR (i_X2 (mm_push (i_X3 (mm_push M0 6 0)) 103 10)) (mm_N M0 + 6) (0 : Int32).toNatClampNeg (some (mm_N M0 + 7)))) (mm_N M0 + 6) ((0 : Int32) + 1).toNatClampNeg (some (mm_N M0 + 12)))) (mm_N M0 + 6) (((0 : Int32) + 1) + 1).toNatClampNeg (some (mm_N M0 + 17)))) (mm_N M0 + 6) ((((0 : Int32) + 1) + 1) + 1).toNatClampNeg (some (mm_N M0 + 22)))) (mm_N M0 + 6) (((((0 : Int32) + 1) + 1) + 1) + 1).toNatClampNeg (some (mm_N M0 + 27)))) (mm_N M0 + 6) ((((((0 : Int32) + 1) + 1) + 1) + 1) + 1).toNatClampNeg (some (mm_N M0 + 32)))) (mm_N M0 + 6) (((((((0 : Int32) + 1) + 1) + 1) + 1) + 1) + 1).toNatClampNeg (some (mm_N M0 + 37)))) (mm_N M0 + 42) 2 := is_X2_new
  refine xn_s (ci := 2) (q := mm_N M0 + 6) (r := mm_N M0 + 42) (rest := []) hZ hE rfl (by decide) rfl hv hr (by rw [hs]; decide) e2 e10 dX6_init_35 (fun H locs hE => ?_)
  have hw := wf_wR (q := mm_N M0 + 6) (k := ((((((((0 : Int32) + 1) + 1) + 1) + 1) + 1) + 1) + 1).toNatClampNeg) (x := mm_N M0 + 42) hw (show mm_N M0 + 42 < mm_N M0 + 47 by omega)
  have hi := is_wR (a := mm_N M0 + 6) (k := ((((((((0 : Int32) + 1) + 1) + 1) + 1) + 1) + 1) + 1).toNatClampNeg) (x := some (mm_N M0 + 42)) hi
  have hv := is_wR (a := mm_N M0 + 6) (k := ((((((((0 : Int32) + 1) + 1) + 1) + 1) + 1) + 1) + 1).toNatClampNeg) (x := some (mm_N M0 + 42)) hv
  have hs := (sz_wR (a := mm_N M0 + 6) (k := ((((((((0 : Int32) + 1) + 1) + 1) + 1) + 1) + 1) + 1).toNatClampNeg) (x := some (mm_N M0 + 42))).trans hs
  refine lv_iinc (v := (((((((((0 : Int32) + 1) + 1) + 1) + 1) + 1) + 1) + 1) + 1)) (lv' := [(3, .int (((((((((0 : Int32) + 1) + 1) + 1) + 1) + 1) + 1) + 1) + 1)), (2, .ref x2), (1, .ref x1), (0, .ref x0)]) hx hb dX6_init_36 hl (k := 0) rfl rfl (by decide) rfl (fun ls hl => ?_)
  refine lv_goto (tgt := 20) hx hb dX6_init_39 (by decide) ?_
  refine lv_iload_n hx hb dX6_init_20 rfl (lv_at hl 0 rfl) ?_
  refine lv_bipush (v := 10) hx hb dX6_init_21 (by decide) ?_
  refine lv_icmp_ge (tgt := 42) hx hb dX6_init_23 (by decide) (fun hc => ?_) (fun hc => ?_)
  · exact absurd hc (by decide)
  refine lv_aload_n hx hb dX6_init_26 rfl (lv_at hl 1 rfl) ?_
  refine lv_iload_n hx hb dX6_init_27 rfl (lv_at hl 0 rfl) ?_
  have hw11 := hw
  have hi11 := hi
  have hv11 := hv
  have hs11 := hs
  refine xn_O (rest := [.int (((((((((0 : Int32) + 1) + 1) + 1) + 1) + 1) + 1) + 1) + 1), .ref x2]) hZ hE hw k_X2 df_X2 tn_47 tn_48 tn_49 (Nat.le_of_ble_eq_true rfl) (Nat.le_of_ble_eq_true rfl) dX6_init_28 (fun ad20 x11 H e11 hq hE => ?_)
  have e11 : ad20 (mm_N M0 + 47) = x11 := e11
  have e0 := (hq (mm_N M0) (show mm_N M0 < mm_N M0 + 47 by omega)).trans e0
  have e1 := (hq (mm_N M0 + 1) (show mm_N M0 + 1 < mm_N M0 + 47 by omega)).trans e1
  have e2 := (hq (mm_N M0 + 6) (show mm_N M0 + 6 < mm_N M0 + 47 by omega)).trans e2
  have had : ∀ i, i < mm_N M0 + 1 → ad20 i = ad i := fun i h0 => (hq i (show i < mm_N M0 + 47 by omega)).trans (had i h0)
  have hw := wf_push (c := 2) (n := 0) hw
  have hi := is_push (c := 2) (n := 0) hi
  have hv := is_push (c := 2) (n := 0) hv
  have hs := szp_push (c := 2) (n := 0) hs (show mm_N M0 + 6 < mm_N M0 + 47 by omega)
  refine lv_dup hx hb dX6_init_31 rfl ?_
  refine xn_cN (n := 0) (As := []) (As' := []) (rest := [.ref x11, .int (((((((((0 : Int32) + 1) + 1) + 1) + 1) + 1) + 1) + 1) + 1), .ref x2]) hZ hO hE tn_50 (c_X2_init l D cA _ _ hw11) e11 rfl ⟨tn_51, tn_49, by decide +kernel, by decide +kernel, by decide +kernel⟩ tn_52 rfl ⟨rfl, rfl⟩ ⟨(Nat.le_of_ble_eq_true rfl), (Nat.le_of_ble_eq_true rfl)⟩ rfl hl.1 rfl (Nat.le_of_ble_eq_true rfl) ⟨(Nat.le_of_ble_eq_true rfl), (Nat.le_of_ble_eq_true rfl)⟩ dX6_init_32 (fun ad21 H locs hq hE => ?_)
  have e0 := (hq (mm_N M0) (show mm_N M0 < mm_N M0 + 48 by omega)).trans e0
  have e1 := (hq (mm_N M0 + 1) (show mm_N M0 + 1 < mm_N M0 + 48 by omega)).trans e1
  have e2 := (hq (mm_N M0 + 6) (show mm_N M0 + 6 < mm_N M0 + 48 by omega)).trans e2
  have e11 := (hq (mm_N M0 + 47) (show mm_N M0 + 47 < mm_N M0 + 48 by omega)).trans e11
  have had : ∀ i, i < mm_N M0 + 1 → ad21 i = ad i := fun i h0 => (hq i (show i < mm_N M0 + 48 by omega)).trans (had i h0)
  have hw := wf_X2 hw11
  have hi := is_X2 hi11
  have hv := is_X2 hv11
  have hs := szp_X2 hs11 (show mm_N M0 + 6 < mm_N M0 + 47 by omega)
  have hr : mm_is (i_X2 (mm_wR (i_X2 (mm_wR (i_X2 (mm_wR (i_X2 (mm_wR (i_X2 (mm_wR (i_X2 (mm_wR (i_X2 (mm_wR (i_X2 (mm_wR (i_X2 (mm_push (i_X3 (mm_push M0 6 0)) 103 10)) (mm_N M0 + 6) (0 : Int32).toNatClampNeg (some (mm_N M0 + 7)))) (mm_N M0 + 6) ((0 : Int32) + 1).toNatClampNeg (some (mm_N M0 + 12)))) (mm_N M0 + 6) (((0 : Int32) + 1) + 1).toNatClampNeg (some (mm_N M0 + 17)))) (mm_N M0 + 6) ((((0 : Int32) + 1) + 1) + 1).toNatClampNeg (some (mm_N M0 + 22)))) (mm_N M0 + 6) (((((0 : Int32) + 1) + 1) + 1) + 1).toNatClampNeg (some (mm_N M0 + 27)))) (mm_N M0 + 6) ((((((0 : Int32) + 1) + 1) + 1) + 1) + 1).toNatClampNeg (some (mm_N M0 + 32)))) (mm_N M0 + 6) (((((((0 : Int32) + 1) + 1) + 1) + 1) + 1) + 1).toNatClampNeg (some (mm_N M0 + 37)))) (mm_N M0 + 6) ((((((((0 : Int32) + 1) + 1) + 1) + 1) + 1) + 1) + 1).toNatClampNeg (some (mm_N M0 + 42)))) (mm_N M0 + 47) 2 := is_X2_new
  refine xn_s (ci := 2) (q := mm_N M0 + 6) (r := mm_N M0 + 47) (rest := []) hZ hE rfl (by decide) rfl hv hr (by rw [hs]; decide) e2 e11 dX6_init_35 (fun H locs hE => ?_)
  have hw := wf_wR (q := mm_N M0 + 6) (k := (((((((((0 : Int32) + 1) + 1) + 1) + 1) + 1) + 1) + 1) + 1).toNatClampNeg) (x := mm_N M0 + 47) hw (show mm_N M0 + 47 < mm_N M0 + 52 by omega)
  have hi := is_wR (a := mm_N M0 + 6) (k := (((((((((0 : Int32) + 1) + 1) + 1) + 1) + 1) + 1) + 1) + 1).toNatClampNeg) (x := some (mm_N M0 + 47)) hi
  have hv := is_wR (a := mm_N M0 + 6) (k := (((((((((0 : Int32) + 1) + 1) + 1) + 1) + 1) + 1) + 1) + 1).toNatClampNeg) (x := some (mm_N M0 + 47)) hv
  have hs := (sz_wR (a := mm_N M0 + 6) (k := (((((((((0 : Int32) + 1) + 1) + 1) + 1) + 1) + 1) + 1) + 1).toNatClampNeg) (x := some (mm_N M0 + 47))).trans hs
  refine lv_iinc (v := ((((((((((0 : Int32) + 1) + 1) + 1) + 1) + 1) + 1) + 1) + 1) + 1)) (lv' := [(3, .int ((((((((((0 : Int32) + 1) + 1) + 1) + 1) + 1) + 1) + 1) + 1) + 1)), (2, .ref x2), (1, .ref x1), (0, .ref x0)]) hx hb dX6_init_36 hl (k := 0) rfl rfl (by decide) rfl (fun ls hl => ?_)
  refine lv_goto (tgt := 20) hx hb dX6_init_39 (by decide) ?_
  refine lv_iload_n hx hb dX6_init_20 rfl (lv_at hl 0 rfl) ?_
  refine lv_bipush (v := 10) hx hb dX6_init_21 (by decide) ?_
  refine lv_icmp_ge (tgt := 42) hx hb dX6_init_23 (by decide) (fun hc => ?_) (fun hc => ?_)
  · exact absurd hc (by decide)
  refine lv_aload_n hx hb dX6_init_26 rfl (lv_at hl 1 rfl) ?_
  refine lv_iload_n hx hb dX6_init_27 rfl (lv_at hl 0 rfl) ?_
  have hw12 := hw
  have hi12 := hi
  have hv12 := hv
  have hs12 := hs
  refine xn_O (rest := [.int ((((((((((0 : Int32) + 1) + 1) + 1) + 1) + 1) + 1) + 1) + 1) + 1), .ref x2]) hZ hE hw k_X2 df_X2 tn_47 tn_48 tn_49 (Nat.le_of_ble_eq_true rfl) (Nat.le_of_ble_eq_true rfl) dX6_init_28 (fun ad22 x12 H e12 hq hE => ?_)
  have e12 : ad22 (mm_N M0 + 52) = x12 := e12
  have e0 := (hq (mm_N M0) (show mm_N M0 < mm_N M0 + 52 by omega)).trans e0
  have e1 := (hq (mm_N M0 + 1) (show mm_N M0 + 1 < mm_N M0 + 52 by omega)).trans e1
  have e2 := (hq (mm_N M0 + 6) (show mm_N M0 + 6 < mm_N M0 + 52 by omega)).trans e2
  have had : ∀ i, i < mm_N M0 + 1 → ad22 i = ad i := fun i h0 => (hq i (show i < mm_N M0 + 52 by omega)).trans (had i h0)
  have hw := wf_push (c := 2) (n := 0) hw
  have hi := is_push (c := 2) (n := 0) hi
  have hv := is_push (c := 2) (n := 0) hv
  have hs := szp_push (c := 2) (n := 0) hs (show mm_N M0 + 6 < mm_N M0 + 52 by omega)
  refine lv_dup hx hb dX6_init_31 rfl ?_
  refine xn_cN (n := 0) (As := []) (As' := []) (rest := [.ref x12, .int ((((((((((0 : Int32) + 1) + 1) + 1) + 1) + 1) + 1) + 1) + 1) + 1), .ref x2]) hZ hO hE tn_50 (c_X2_init l D cA _ _ hw12) e12 rfl ⟨tn_51, tn_49, by decide +kernel, by decide +kernel, by decide +kernel⟩ tn_52 rfl ⟨rfl, rfl⟩ ⟨(Nat.le_of_ble_eq_true rfl), (Nat.le_of_ble_eq_true rfl)⟩ rfl hl.1 rfl (Nat.le_of_ble_eq_true rfl) ⟨(Nat.le_of_ble_eq_true rfl), (Nat.le_of_ble_eq_true rfl)⟩ dX6_init_32 (fun ad23 H locs hq hE => ?_)
  have e0 := (hq (mm_N M0) (show mm_N M0 < mm_N M0 + 53 by omega)).trans e0
  have e1 := (hq (mm_N M0 + 1) (show mm_N M0 + 1 < mm_N M0 + 53 by omega)).trans e1
  have e2 := (hq (mm_N M0 + 6) (show mm_N M0 + 6 < mm_N M0 + 53 by omega)).trans e2
  have e12 := (hq (mm_N M0 + 52) (show mm_N M0 + 52 < mm_N M0 + 53 by omega)).trans e12
  have had : ∀ i, i < mm_N M0 + 1 → ad23 i = ad i := fun i h0 => (hq i (show i < mm_N M0 + 53 by omega)).trans (had i h0)
  have hw := wf_X2 hw12
  have hi := is_X2 hi12
  have hv := is_X2 hv12
  have hs := szp_X2 hs12 (show mm_N M0 + 6 < mm_N M0 + 52 by omega)
  have hr : mm_is (i_X2 (mm_wR (i_X2 (mm_wR (i_X2 (mm_wR (i_X2 (mm_wR (i_X2 (mm_wR (i_X2 (mm_wR (i_X2 (mm_wR (i_X2 (mm_wR (i_X2 (mm_wR (i_X2 (mm_push (i_X3 (mm_push M0 6 0)) 103 10)) (mm_N M0 + 6) (0 : Int32).toNatClampNeg (some (mm_N M0 + 7)))) (mm_N M0 + 6) ((0 : Int32) + 1).toNatClampNeg (some (mm_N M0 + 12)))) (mm_N M0 + 6) (((0 : Int32) + 1) + 1).toNatClampNeg (some (mm_N M0 + 17)))) (mm_N M0 + 6) ((((0 : Int32) + 1) + 1) + 1).toNatClampNeg (some (mm_N M0 + 22)))) (mm_N M0 + 6) (((((0 : Int32) + 1) + 1) + 1) + 1).toNatClampNeg (some (mm_N M0 + 27)))) (mm_N M0 + 6) ((((((0 : Int32) + 1) + 1) + 1) + 1) + 1).toNatClampNeg (some (mm_N M0 + 32)))) (mm_N M0 + 6) (((((((0 : Int32) + 1) + 1) + 1) + 1) + 1) + 1).toNatClampNeg (some (mm_N M0 + 37)))) (mm_N M0 + 6) ((((((((0 : Int32) + 1) + 1) + 1) + 1) + 1) + 1) + 1).toNatClampNeg (some (mm_N M0 + 42)))) (mm_N M0 + 6) (((((((((0 : Int32) + 1) + 1) + 1) + 1) + 1) + 1) + 1) + 1).toNatClampNeg (some (mm_N M0 + 47)))) (mm_N M0 + 52) 2 := is_X2_new
  refine xn_s (ci := 2) (q := mm_N M0 + 6) (r := mm_N M0 + 52) (rest := []) hZ hE rfl (by decide) rfl hv hr (by rw [hs]; decide) e2 e12 dX6_init_35 (fun H locs hE => ?_)
  have hw := wf_wR (q := mm_N M0 + 6) (k := ((((((((((0 : Int32) + 1) + 1) + 1) + 1) + 1) + 1) + 1) + 1) + 1).toNatClampNeg) (x := mm_N M0 + 52) hw (show mm_N M0 + 52 < mm_N M0 + 57 by omega)
  have hi := is_wR (a := mm_N M0 + 6) (k := ((((((((((0 : Int32) + 1) + 1) + 1) + 1) + 1) + 1) + 1) + 1) + 1).toNatClampNeg) (x := some (mm_N M0 + 52)) hi
  have hv := is_wR (a := mm_N M0 + 6) (k := ((((((((((0 : Int32) + 1) + 1) + 1) + 1) + 1) + 1) + 1) + 1) + 1).toNatClampNeg) (x := some (mm_N M0 + 52)) hv
  have hs := (sz_wR (a := mm_N M0 + 6) (k := ((((((((((0 : Int32) + 1) + 1) + 1) + 1) + 1) + 1) + 1) + 1) + 1).toNatClampNeg) (x := some (mm_N M0 + 52))).trans hs
  refine lv_iinc (v := (((((((((((0 : Int32) + 1) + 1) + 1) + 1) + 1) + 1) + 1) + 1) + 1) + 1)) (lv' := [(3, .int (((((((((((0 : Int32) + 1) + 1) + 1) + 1) + 1) + 1) + 1) + 1) + 1) + 1)), (2, .ref x2), (1, .ref x1), (0, .ref x0)]) hx hb dX6_init_36 hl (k := 0) rfl rfl (by decide) rfl (fun ls hl => ?_)
  refine lv_goto (tgt := 20) hx hb dX6_init_39 (by decide) ?_
  refine lv_iload_n hx hb dX6_init_20 rfl (lv_at hl 0 rfl) ?_
  refine lv_bipush (v := 10) hx hb dX6_init_21 (by decide) ?_
  refine lv_icmp_ge (tgt := 42) hx hb dX6_init_23 (by decide) (fun hc => ?_) (fun hc => ?_)
  rotate_left
  · exact absurd (show (10 : Int32) ≤ (((((((((((0 : Int32) + 1) + 1) + 1) + 1) + 1) + 1) + 1) + 1) + 1) + 1) by decide) hc
  refine lv_aload_n hx hb dX6_init_42 rfl (lv_at hl 3 rfl) ?_
  refine lv_aload_n hx hb dX6_init_43 rfl (lv_at hl 2 rfl) ?_
  refine xn_p (q := mm_N M0) (r := mm_N M0 + 1) (rest := []) hZ hE k_X6 0 (by decide) rfl rfl hin rfl rfl (fun _ => rfl) (fun _ => rfl) tn_53 hi e0 e1 dX6_init_44 (fun H locs hE => ?_)
  have hw := wf_wR (q := mm_N M0) (k := 0) (x := mm_N M0 + 1) hw (show mm_N M0 + 1 < mm_N M0 + 57 by omega)
  have hi := is_wR (a := mm_N M0) (k := 0) (x := some (mm_N M0 + 1)) hi
  have hv := is_wR (a := mm_N M0) (k := 0) (x := some (mm_N M0 + 1)) hv
  have hs := (sz_wR (a := mm_N M0) (k := 0) (x := some (mm_N M0 + 1))).trans hs
  refine lv_aload_n hx hb dX6_init_47 rfl (lv_at hl 3 rfl) ?_
  refine lv_aload_n hx hb dX6_init_48 rfl (lv_at hl 1 rfl) ?_
  refine xn_p (q := mm_N M0) (r := mm_N M0 + 6) (rest := []) hZ hE k_X6 1 (by decide) rfl rfl hin rfl rfl (fun _ => rfl) (fun _ => rfl) tn_54 hi e0 e2 dX6_init_49 (fun H locs hE => ?_)
  have hw := wf_wR (q := mm_N M0) (k := 1) (x := mm_N M0 + 6) hw (show mm_N M0 + 6 < mm_N M0 + 57 by omega)
  have hi := is_wR (a := mm_N M0) (k := 1) (x := some (mm_N M0 + 6)) hi
  have hv := is_wR (a := mm_N M0) (k := 1) (x := some (mm_N M0 + 6)) hv
  have hs := (sz_wR (a := mm_N M0) (k := 1) (x := some (mm_N M0 + 6))).trans hs
  refine lv_aload_n hx hb dX6_init_52 rfl (lv_at hl 3 rfl) ?_
  have hw13 := hw
  have hi13 := hi
  have hv13 := hv
  have hs13 := hs
  refine xn_O (rest := [.ref x0]) hZ hE hw k_X0 df_X0 tn_55 tn_56 tn_57 (Nat.le_of_ble_eq_true rfl) (Nat.le_of_ble_eq_true rfl) dX6_init_53 (fun ad24 x13 H e13 hq hE => ?_)
  have e13 : ad24 (mm_N M0 + 57) = x13 := e13
  have e0 := (hq (mm_N M0) (show mm_N M0 < mm_N M0 + 57 by omega)).trans e0
  have e1 := (hq (mm_N M0 + 1) (show mm_N M0 + 1 < mm_N M0 + 57 by omega)).trans e1
  have e2 := (hq (mm_N M0 + 6) (show mm_N M0 + 6 < mm_N M0 + 57 by omega)).trans e2
  have had : ∀ i, i < mm_N M0 + 1 → ad24 i = ad i := fun i h0 => (hq i (show i < mm_N M0 + 57 by omega)).trans (had i h0)
  have hw := wf_push (c := 0) (n := 0) hw
  have hi := is_push (c := 0) (n := 0) hi
  have hv := is_push (c := 0) (n := 0) hv
  have hs := szp_push (c := 0) (n := 0) hs (show mm_N M0 + 6 < mm_N M0 + 57 by omega)
  refine lv_dup hx hb dX6_init_56 rfl ?_
  refine lv_aload_n hx hb dX6_init_57 rfl (lv_at hl 2 rfl) ?_
  refine lv_aload_n hx hb dX6_init_58 rfl (lv_at hl 1 rfl) ?_
  refine xn_cN (n := 2) (As := [.ref (ad24 (mm_N M0 + 1)), .ref (ad24 (mm_N M0 + 6))]) (As' := [.ref x1, .ref x2]) (rest := [.ref x13, .ref x0]) hZ hO hE tn_58 (c_X0_init l D cA _ _ hw13 (mm_N M0 + 1) (show mm_N M0 + 1 < mm_N M0 + 57 by omega) (mm_N M0 + 6) (show mm_N M0 + 6 < mm_N M0 + 57 by omega)) e13 (by rw [e1, e2]) ⟨tn_59, tn_57, by decide +kernel, by decide +kernel, by decide +kernel⟩ tn_60 rfl ⟨rfl, rfl⟩ ⟨(Nat.le_of_ble_eq_true rfl), (Nat.le_of_ble_eq_true rfl)⟩ rfl hl.1 rfl (Nat.le_of_ble_eq_true rfl) ⟨(Nat.le_of_ble_eq_true rfl), (Nat.le_of_ble_eq_true rfl)⟩ dX6_init_59 (fun ad25 H locs hq hE => ?_)
  have e0 := (hq (mm_N M0) (show mm_N M0 < mm_N M0 + 58 by omega)).trans e0
  have e1 := (hq (mm_N M0 + 1) (show mm_N M0 + 1 < mm_N M0 + 58 by omega)).trans e1
  have e2 := (hq (mm_N M0 + 6) (show mm_N M0 + 6 < mm_N M0 + 58 by omega)).trans e2
  have e13 := (hq (mm_N M0 + 57) (show mm_N M0 + 57 < mm_N M0 + 58 by omega)).trans e13
  have had : ∀ i, i < mm_N M0 + 1 → ad25 i = ad i := fun i h0 => (hq i (show i < mm_N M0 + 58 by omega)).trans (had i h0)
  have hw := wf_X0 (sp := mm_N M0 + 1) (mv := mm_N M0 + 6) hw13 (show mm_N M0 + 1 < mm_N M0 + 57 by omega) (show mm_N M0 + 6 < mm_N M0 + 57 by omega)
  have hi := is_X0 (sp := mm_N M0 + 1) (mv := mm_N M0 + 6) hi13
  have hv := is_X0 (sp := mm_N M0 + 1) (mv := mm_N M0 + 6) hv13
  have hs := szp_X0 (sp := mm_N M0 + 1) (mv := mm_N M0 + 6) hs13 (show mm_N M0 + 6 < mm_N M0 + 57 by omega)
  refine xn_p (q := mm_N M0) (r := mm_N M0 + 57) (rest := []) hZ hE k_X6 2 (by decide) rfl rfl hin rfl rfl (fun _ => rfl) (fun _ => rfl) tn_61 hi e0 e13 dX6_init_62 (fun H locs hE => ?_)
  have hw := wf_wR (q := mm_N M0) (k := 2) (x := mm_N M0 + 57) hw (show mm_N M0 + 57 < mm_N M0 + 63 by omega)
  have hi := is_wR (a := mm_N M0) (k := 2) (x := some (mm_N M0 + 57)) hi
  have hv := is_wR (a := mm_N M0) (k := 2) (x := some (mm_N M0 + 57)) hv
  have hs := (sz_wR (a := mm_N M0) (k := 2) (x := some (mm_N M0 + 57))).trans hs
  refine lv_aload_n hx hb dX6_init_65 rfl (lv_at hl 3 rfl) ?_
  have hw14 := hw
  have hi14 := hi
  have hv14 := hv
  have hs14 := hs
  refine xn_O (rest := [.ref x0]) hZ hE hw k_X4 df_X4 tn_62 tn_63 tn_64 (Nat.le_of_ble_eq_true rfl) (Nat.le_of_ble_eq_true rfl) dX6_init_66 (fun ad26 x14 H e14 hq hE => ?_)
  have e14 : ad26 (mm_N M0 + 63) = x14 := e14
  have e0 := (hq (mm_N M0) (show mm_N M0 < mm_N M0 + 63 by omega)).trans e0
  have e1 := (hq (mm_N M0 + 1) (show mm_N M0 + 1 < mm_N M0 + 63 by omega)).trans e1
  have e2 := (hq (mm_N M0 + 6) (show mm_N M0 + 6 < mm_N M0 + 63 by omega)).trans e2
  have e13 := (hq (mm_N M0 + 57) (show mm_N M0 + 57 < mm_N M0 + 63 by omega)).trans e13
  have had : ∀ i, i < mm_N M0 + 1 → ad26 i = ad i := fun i h0 => (hq i (show i < mm_N M0 + 63 by omega)).trans (had i h0)
  have hw := wf_push (c := 4) (n := 0) hw
  have hi := is_push (c := 4) (n := 0) hi
  have hv := is_push (c := 4) (n := 0) hv
  have hs := szp_push (c := 4) (n := 0) hs (show mm_N M0 + 6 < mm_N M0 + 63 by omega)
  refine lv_dup hx hb dX6_init_69 rfl ?_
  refine lv_aload_n hx hb dX6_init_70 rfl (lv_at hl 2 rfl) ?_
  refine lv_aload_n hx hb dX6_init_71 rfl (lv_at hl 1 rfl) ?_
  refine xn_cN (n := 2) (As := [.ref (ad26 (mm_N M0 + 1)), .ref (ad26 (mm_N M0 + 6))]) (As' := [.ref x1, .ref x2]) (rest := [.ref x14, .ref x0]) hZ hO hE tn_65 (c_X4_init l D cA _ _ hw14 (mm_N M0 + 1) (show mm_N M0 + 1 < mm_N M0 + 63 by omega) (mm_N M0 + 6) (show mm_N M0 + 6 < mm_N M0 + 63 by omega)) e14 (by rw [e1, e2]) ⟨tn_66, tn_64, by decide +kernel, by decide +kernel, by decide +kernel⟩ tn_67 rfl ⟨rfl, rfl⟩ ⟨(Nat.le_of_ble_eq_true rfl), (Nat.le_of_ble_eq_true rfl)⟩ rfl hl.1 rfl (Nat.le_of_ble_eq_true rfl) ⟨(Nat.le_of_ble_eq_true rfl), (Nat.le_of_ble_eq_true rfl)⟩ dX6_init_72 (fun ad27 H locs hq hE => ?_)
  have e0 := (hq (mm_N M0) (show mm_N M0 < mm_N M0 + 64 by omega)).trans e0
  have e1 := (hq (mm_N M0 + 1) (show mm_N M0 + 1 < mm_N M0 + 64 by omega)).trans e1
  have e2 := (hq (mm_N M0 + 6) (show mm_N M0 + 6 < mm_N M0 + 64 by omega)).trans e2
  have e13 := (hq (mm_N M0 + 57) (show mm_N M0 + 57 < mm_N M0 + 64 by omega)).trans e13
  have e14 := (hq (mm_N M0 + 63) (show mm_N M0 + 63 < mm_N M0 + 64 by omega)).trans e14
  have had : ∀ i, i < mm_N M0 + 1 → ad27 i = ad i := fun i h0 => (hq i (show i < mm_N M0 + 64 by omega)).trans (had i h0)
  have hw := wf_X4 (sp := mm_N M0 + 1) (mv := mm_N M0 + 6) hw14 (show mm_N M0 + 1 < mm_N M0 + 63 by omega) (show mm_N M0 + 6 < mm_N M0 + 63 by omega)
  have hi := is_X4 (sp := mm_N M0 + 1) (mv := mm_N M0 + 6) hi14
  have hv := is_X4 (sp := mm_N M0 + 1) (mv := mm_N M0 + 6) hv14
  have hs := szp_X4 (sp := mm_N M0 + 1) (mv := mm_N M0 + 6) hs14 (show mm_N M0 + 6 < mm_N M0 + 63 by omega)
  refine xn_p (q := mm_N M0) (r := mm_N M0 + 63) (rest := []) hZ hE k_X6 3 (by decide) rfl rfl hin rfl rfl (fun _ => rfl) (fun _ => rfl) tn_68 hi e0 e14 dX6_init_75 (fun H locs hE => ?_)
  have hw := wf_wR (q := mm_N M0) (k := 3) (x := mm_N M0 + 63) hw (show mm_N M0 + 63 < mm_N M0 + 64 by omega)
  have hi := is_wR (a := mm_N M0) (k := 3) (x := some (mm_N M0 + 63)) hi
  have hv := is_wR (a := mm_N M0) (k := 3) (x := some (mm_N M0 + 63)) hv
  have hs := (sz_wR (a := mm_N M0) (k := 3) (x := some (mm_N M0 + 63))).trans hs
  refine lv_aload_n hx hb dX6_init_78 rfl (lv_at hl 3 rfl) ?_
  have hw15 := hw
  have hi15 := hi
  have hv15 := hv
  have hs15 := hs
  refine xn_O (rest := [.ref x0]) hZ hE hw k_X5 df_X5 tn_69 tn_70 tn_71 (Nat.le_of_ble_eq_true rfl) (Nat.le_of_ble_eq_true rfl) dX6_init_79 (fun ad28 x15 H e15 hq hE => ?_)
  have e15 : ad28 (mm_N M0 + 64) = x15 := e15
  have e0 := (hq (mm_N M0) (show mm_N M0 < mm_N M0 + 64 by omega)).trans e0
  have e1 := (hq (mm_N M0 + 1) (show mm_N M0 + 1 < mm_N M0 + 64 by omega)).trans e1
  have e2 := (hq (mm_N M0 + 6) (show mm_N M0 + 6 < mm_N M0 + 64 by omega)).trans e2
  have e13 := (hq (mm_N M0 + 57) (show mm_N M0 + 57 < mm_N M0 + 64 by omega)).trans e13
  have e14 := (hq (mm_N M0 + 63) (show mm_N M0 + 63 < mm_N M0 + 64 by omega)).trans e14
  have had : ∀ i, i < mm_N M0 + 1 → ad28 i = ad i := fun i h0 => (hq i (show i < mm_N M0 + 64 by omega)).trans (had i h0)
  have hw := wf_push (c := 5) (n := 0) hw
  have hi := is_push (c := 5) (n := 0) hi
  have hv := is_push (c := 5) (n := 0) hv
  have hs := szp_push (c := 5) (n := 0) hs (show mm_N M0 + 6 < mm_N M0 + 64 by omega)
  refine lv_dup hx hb dX6_init_82 rfl ?_
  refine lv_aload_n hx hb dX6_init_83 rfl (lv_at hl 2 rfl) ?_
  refine lv_aload_n hx hb dX6_init_84 rfl (lv_at hl 1 rfl) ?_
  refine xn_cN (n := 2) (As := [.ref (ad28 (mm_N M0 + 1)), .ref (ad28 (mm_N M0 + 6))]) (As' := [.ref x1, .ref x2]) (rest := [.ref x15, .ref x0]) hZ hO hE tn_72 (c_X5_init l D cA _ _ hw15 (mm_N M0 + 1) (show mm_N M0 + 1 < mm_N M0 + 64 by omega) (mm_N M0 + 6) (show mm_N M0 + 6 < mm_N M0 + 64 by omega)) e15 (by rw [e1, e2]) ⟨tn_73, tn_71, by decide +kernel, by decide +kernel, by decide +kernel⟩ tn_74 rfl ⟨rfl, rfl⟩ ⟨(Nat.le_of_ble_eq_true rfl), (Nat.le_of_ble_eq_true rfl)⟩ rfl hl.1 rfl (Nat.le_of_ble_eq_true rfl) ⟨(Nat.le_of_ble_eq_true rfl), (Nat.le_of_ble_eq_true rfl)⟩ dX6_init_85 (fun ad29 H locs hq hE => ?_)
  have e0 := (hq (mm_N M0) (show mm_N M0 < mm_N M0 + 65 by omega)).trans e0
  have e1 := (hq (mm_N M0 + 1) (show mm_N M0 + 1 < mm_N M0 + 65 by omega)).trans e1
  have e2 := (hq (mm_N M0 + 6) (show mm_N M0 + 6 < mm_N M0 + 65 by omega)).trans e2
  have e13 := (hq (mm_N M0 + 57) (show mm_N M0 + 57 < mm_N M0 + 65 by omega)).trans e13
  have e14 := (hq (mm_N M0 + 63) (show mm_N M0 + 63 < mm_N M0 + 65 by omega)).trans e14
  have e15 := (hq (mm_N M0 + 64) (show mm_N M0 + 64 < mm_N M0 + 65 by omega)).trans e15
  have had : ∀ i, i < mm_N M0 + 1 → ad29 i = ad i := fun i h0 => (hq i (show i < mm_N M0 + 65 by omega)).trans (had i h0)
  have hw := wf_X5 (sp := mm_N M0 + 1) (mv := mm_N M0 + 6) hw15 (show mm_N M0 + 1 < mm_N M0 + 64 by omega) (show mm_N M0 + 6 < mm_N M0 + 64 by omega)
  have hi := is_X5 (sp := mm_N M0 + 1) (mv := mm_N M0 + 6) hi15
  have hv := is_X5 (sp := mm_N M0 + 1) (mv := mm_N M0 + 6) hv15
  have hs := szp_X5 (sp := mm_N M0 + 1) (mv := mm_N M0 + 6) hs15 (show mm_N M0 + 6 < mm_N M0 + 64 by omega)
  refine xn_p (q := mm_N M0) (r := mm_N M0 + 64) (rest := []) hZ hE k_X6 4 (by decide) rfl rfl hin rfl rfl (fun _ => rfl) (fun _ => rfl) tn_75 hi e0 e15 dX6_init_88 (fun H locs hE => ?_)
  have hw := wf_wR (q := mm_N M0) (k := 4) (x := mm_N M0 + 64) hw (show mm_N M0 + 64 < mm_N M0 + 66 by omega)
  have hi := is_wR (a := mm_N M0) (k := 4) (x := some (mm_N M0 + 64)) hi
  have hv := is_wR (a := mm_N M0) (k := 4) (x := some (mm_N M0 + 64)) hv
  have hs := (sz_wR (a := mm_N M0) (k := 4) (x := some (mm_N M0 + 64))).trans hs
  exact hret _ _ _ _ _ _ had rfl dX6_init_91 hE
