theorem df_X0 {ad : Nat → Nat} {M : Mm} : ∀ j, j < 8 → defaultValue (tyX0 j) = vp_V (mm_fl ad (mm_push M 0 0) 0 (mm_N M)) j := by
  intro j hj
  unfold vp_V
  rw [List.getD_eq_getElem?_getD, mm_flk (show j < mm_nF 0 from hj)]
  unfold mm_fv
  rw [show mm_R (mm_push M 0 0) (mm_N M) j = none from if_pos rfl, show mm_I (mm_push M 0 0) (mm_N M) j = 0 from if_pos rfl, show mm_L (mm_push M 0 0) (mm_N M) j = 0 from if_pos rfl]
  rcases (show j = 0 ∨ j = 1 ∨ j = 2 ∨ j = 3 ∨ j = 4 ∨ j = 5 ∨ j = 6 ∨ j = 7 by omega) with rfl | rfl | rfl | rfl | rfl | rfl | rfl | rfl <;> rfl
theorem df_X1 {ad : Nat → Nat} {M : Mm} : ∀ j, j < 3 → defaultValue (tyX1 j) = vp_V (mm_fl ad (mm_push M 1 0) 1 (mm_N M)) j := by
  intro j hj
  unfold vp_V
  rw [List.getD_eq_getElem?_getD, mm_flk (show j < mm_nF 1 from hj)]
  unfold mm_fv
  rw [show mm_R (mm_push M 1 0) (mm_N M) j = none from if_pos rfl, show mm_I (mm_push M 1 0) (mm_N M) j = 0 from if_pos rfl, show mm_L (mm_push M 1 0) (mm_N M) j = 0 from if_pos rfl]
  rcases (show j = 0 ∨ j = 1 ∨ j = 2 by omega) with rfl | rfl | rfl <;> rfl
theorem df_X2 {ad : Nat → Nat} {M : Mm} : ∀ j, j < 11 → defaultValue (tyX2 j) = vp_V (mm_fl ad (mm_push M 2 0) 2 (mm_N M)) j := by
  intro j hj
  unfold vp_V
  rw [List.getD_eq_getElem?_getD, mm_flk (show j < mm_nF 2 from hj)]
  unfold mm_fv
  rw [show mm_R (mm_push M 2 0) (mm_N M) j = none from if_pos rfl, show mm_I (mm_push M 2 0) (mm_N M) j = 0 from if_pos rfl, show mm_L (mm_push M 2 0) (mm_N M) j = 0 from if_pos rfl]
  rcases (show j = 0 ∨ j = 1 ∨ j = 2 ∨ j = 3 ∨ j = 4 ∨ j = 5 ∨ j = 6 ∨ j = 7 ∨ j = 8 ∨ j = 9 ∨ j = 10 by omega) with rfl | rfl | rfl | rfl | rfl | rfl | rfl | rfl | rfl | rfl | rfl <;> rfl
theorem df_X3 {ad : Nat → Nat} {M : Mm} : ∀ j, j < 6 → defaultValue (tyX3 j) = vp_V (mm_fl ad (mm_push M 3 0) 3 (mm_N M)) j := by
  intro j hj
  unfold vp_V
  rw [List.getD_eq_getElem?_getD, mm_flk (show j < mm_nF 3 from hj)]
  unfold mm_fv
  rw [show mm_R (mm_push M 3 0) (mm_N M) j = none from if_pos rfl, show mm_I (mm_push M 3 0) (mm_N M) j = 0 from if_pos rfl, show mm_L (mm_push M 3 0) (mm_N M) j = 0 from if_pos rfl]
  rcases (show j = 0 ∨ j = 1 ∨ j = 2 ∨ j = 3 ∨ j = 4 ∨ j = 5 by omega) with rfl | rfl | rfl | rfl | rfl | rfl <;> rfl
theorem df_X4 {ad : Nat → Nat} {M : Mm} : ∀ j, j < 2 → defaultValue (tyX4 j) = vp_V (mm_fl ad (mm_push M 4 0) 4 (mm_N M)) j := by
  intro j hj
  unfold vp_V
  rw [List.getD_eq_getElem?_getD, mm_flk (show j < mm_nF 4 from hj)]
  unfold mm_fv
  rw [show mm_R (mm_push M 4 0) (mm_N M) j = none from if_pos rfl, show mm_I (mm_push M 4 0) (mm_N M) j = 0 from if_pos rfl, show mm_L (mm_push M 4 0) (mm_N M) j = 0 from if_pos rfl]
  rcases (show j = 0 ∨ j = 1 by omega) with rfl | rfl <;> rfl
theorem df_X5 {ad : Nat → Nat} {M : Mm} : ∀ j, j < 6 → defaultValue (tyX5 j) = vp_V (mm_fl ad (mm_push M 5 0) 5 (mm_N M)) j := by
  intro j hj
  unfold vp_V
  rw [List.getD_eq_getElem?_getD, mm_flk (show j < mm_nF 5 from hj)]
  unfold mm_fv
  rw [show mm_R (mm_push M 5 0) (mm_N M) j = none from if_pos rfl, show mm_I (mm_push M 5 0) (mm_N M) j = 0 from if_pos rfl, show mm_L (mm_push M 5 0) (mm_N M) j = 0 from if_pos rfl]
  rcases (show j = 0 ∨ j = 1 ∨ j = 2 ∨ j = 3 ∨ j = 4 ∨ j = 5 by omega) with rfl | rfl | rfl | rfl | rfl | rfl <;> rfl
theorem df_X6 {ad : Nat → Nat} {M : Mm} : ∀ j, j < 6 → defaultValue (tyX6 j) = vp_V (mm_fl ad (mm_push M 6 0) 6 (mm_N M)) j := by
  intro j hj
  unfold vp_V
  rw [List.getD_eq_getElem?_getD, mm_flk (show j < mm_nF 6 from hj)]
  unfold mm_fv
  rw [show mm_R (mm_push M 6 0) (mm_N M) j = none from if_pos rfl, show mm_I (mm_push M 6 0) (mm_N M) j = 0 from if_pos rfl, show mm_L (mm_push M 6 0) (mm_N M) j = 0 from if_pos rfl]
  rcases (show j = 0 ∨ j = 1 ∨ j = 2 ∨ j = 3 ∨ j = 4 ∨ j = 5 by omega) with rfl | rfl | rfl | rfl | rfl | rfl <;> rfl
theorem df_X7 {ad : Nat → Nat} {M : Mm} : ∀ j, j < 24 → defaultValue (tyX7 j) = vp_V (mm_fl ad (mm_push M 7 0) 7 (mm_N M)) j := by
  intro j hj
  unfold vp_V
  rw [List.getD_eq_getElem?_getD, mm_flk (show j < mm_nF 7 from hj)]
  unfold mm_fv
  rw [show mm_R (mm_push M 7 0) (mm_N M) j = none from if_pos rfl, show mm_I (mm_push M 7 0) (mm_N M) j = 0 from if_pos rfl, show mm_L (mm_push M 7 0) (mm_N M) j = 0 from if_pos rfl]
  rcases (show j = 0 ∨ j = 1 ∨ j = 2 ∨ j = 3 ∨ j = 4 ∨ j = 5 ∨ j = 6 ∨ j = 7 ∨ j = 8 ∨ j = 9 ∨ j = 10 ∨ j = 11 ∨ j = 12 ∨ j = 13 ∨ j = 14 ∨ j = 15 ∨ j = 16 ∨ j = 17 ∨ j = 18 ∨ j = 19 ∨ j = 20 ∨ j = 21 ∨ j = 22 ∨ j = 23 by omega) with rfl | rfl | rfl | rfl | rfl | rfl | rfl | rfl | rfl | rfl | rfl | rfl | rfl | rfl | rfl | rfl | rfl | rfl | rfl | rfl | rfl | rfl | rfl | rfl <;> rfl
