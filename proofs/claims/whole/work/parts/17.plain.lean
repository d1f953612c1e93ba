def cRed (x : Zt) (w : Nat → Nat) (p s t : Nat) : Fq := if lsum x w s p = 0 then some (low (if s = t then 1 else 0) 1) else some (low (if il x s p (vl x t p) = t then w t else 0) (lsum x w s p))
def cPro (w : Nat → Nat) (f g s t : Nat) : Fq := some (low ((if t = f then tk w s f else 0) + (if t = g then tk w s g else 0) + (if t = s then 2 * al w s - tk w s f - tk w s g else 0)) (2 * al w s))
theorem gz_12 : ∀ x ∈ OKZ, ∀ s, s < ns x → ∀ p, p < np x → nx x s p ≠ s ∧ bf x s p ≠ s := by decide +kernel
theorem gz_13 : ∀ x ∈ OKZ, ∀ s, s < ns x → ∀ p, p < np x → ∀ t, t < ns x → il x s p (vl x t p) = t → ∃ v, v < zs x p ∧ il x s p v = t := by decide +kernel
section
variable {M : Mm} {x : Zt} {w : Nat → Nat} {s p v t f g : Nat}
theorem tk_le : tk w s t ≤ al w s := by
  unfold tk al
  by_cases h : w s = 0
  · rw [if_pos h, if_pos h]; exact Nat.le_refl 1
  · rw [if_neg h, if_neg h]
    by_cases h2 : w t < w s
    · rw [if_pos h2]; omega
    · rw [if_neg h2]; exact Nat.le_refl _
theorem al_in (hw : ∀ s, w s ≤ 1000) : 1 ≤ al w s ∧ al w s ≤ 1000 := by
  have := hw s
  unfold al
  by_cases h : w s = 0
  · rw [if_pos h]; omega
  · rw [if_neg h]; omega
theorem tk_self : tk w s s = al w s := by
  unfold tk al
  by_cases h : w s = 0
  · rw [if_pos h, if_pos h]
  · rw [if_neg h, if_neg h, if_neg (by omega)]
theorem lsum_le (hw : ∀ s, w s ≤ 1000) (hx : x ∈ OKZ) (hp : p < np x) : lsum x w s p ≤ 6000 := by
  have h1 := sm_le (f := fun v => w (il x s p v)) (b := 1000) (fun i => hw _) (zs x p)
  have h2 := (gz_2 x hx p hp).2.1
  have h3 : zs x p * 1000 ≤ 6 * 1000 := Nat.mul_le_mul_right 1000 h2
  show sm (fun v => w (il x s p v)) (zs x p) ≤ 6000
  omega
theorem i_e {a b : Nat} (ha : a < 2 ^ 31) (hb : b < 2 ^ 31) {α : Type} {c d : α} : (if nI a = nI b then c else d) = if a = b then c else d := by
  by_cases h : a = b
  · rw [if_pos h, if_pos (by rw [h])]
  · rw [if_neg h, if_neg (fun e => h ((nI_eq ha hb).mp e))]
theorem lN_if {c : Prop} [Decidable c] {a b : Nat} : (if c then lN a else lN b) = lN (if c then a else b) := by
  by_cases h : c
  · rw [if_pos h, if_pos h]
  · rw [if_neg h, if_neg h]
theorem nI_if {c : Prop} [Decidable c] {a b : Nat} : (if c then nI a else nI b) = nI (if c then a else b) := by
  by_cases h : c
  · rw [if_pos h, if_pos h]
  · rw [if_neg h, if_neg h]
theorem l1 : (1 : Int64) = lN 1 := rfl
theorem fq58 : FQ 58 := ⟨by omega, by omega⟩
theorem fq59 : FQ 59 := ⟨by omega, by omega⟩
theorem fq60 : FQ 60 := ⟨by omega, by omega⟩
theorem fq61 : FQ 61 := ⟨by omega, by omega⟩
theorem fq62 : FQ 62 := ⟨by omega, by omega⟩
theorem p_redraw (h : Shp M) (hg : GeoC x M) (hw : WtC w M) (hs : s < ns x) (ht : t < ns x) (hp : p < np x) : ∃ M', f_X0_redraw 57 (nI p) (nI s) (nI t) M = some M' ∧ FrC 58 (cRed x w p s t) M' ∧ Ch (· = 58) M M' := by
  have hs16 := gz_n hg.1 hs
  have ht16 := gz_n hg.1 ht
  have hl := lsum_le (s := s) hw.1 hg.1 hp
  have hwt := hw.1 t
  simp only [f_X0_redraw, op_jn, G_57_0 h, I_1 h, Option.bind_some, p_lineSum h hg hw hs hp, G_57_2 h, I_58 h, p_sharesLine h hg hs ht hp, G_1_5 h, A_5 h ht16, hw.2 t ht16]
  unfold cRed
  by_cases h0 : lsum x w s p = 0
  · rw [h0, if_pos (show nI 0 = (0 : Int32) from rfl), if_pos rfl, i_e (by omega) (by omega), l1, l0, lN_if, p_set h fq58 (by by_cases hst : s = t <;> simp [hst]) (by decide) (by omega), Option.bind_some]
    exact ⟨_, rfl, stF_r, stF_c rfl⟩
  · rw [if_neg (nI_ne0 (by omega) (by omega)), if_neg h0, nI_l (by omega), nI_l (by omega)]
    by_cases hc : il x s p (vl x t p) = t
    · rw [if_pos hc, if_neg (by decide), if_pos hc, p_set h fq58 (by omega) (by omega) (by omega), Option.bind_some]
      exact ⟨_, rfl, stF_r, stF_c rfl⟩
    · rw [if_neg hc, if_pos rfl, if_neg hc, l0, p_set h fq58 (by omega) (by omega) (by omega), Option.bind_some]
      exact ⟨_, rfl, stF_r, stF_c rfl⟩
theorem p_propose (h : Shp M) (hg : GeoC x M) (hw : WtC w M) (hs : s < ns x) (ht : t < ns x) (hf : f < ns x) (hgg : g < ns x) : ∃ M', f_X0_propose 57 (nI f) (nI g) (nI s) (nI t) M = some M' ∧ FrC 58 (cPro w f g s t) M' ∧ Ch (· = 58) M M' := by
  have hs16 := gz_n hg.1 hs
  have ht16 := gz_n hg.1 ht
  have hf16 := gz_n hg.1 hf
  have hg16 := gz_n hg.1 hgg
  have ha := al_in (s := s) hw.1
  have k1 := tk_le (w := w) (s := s) (t := f)
  have k2 := tk_le (w := w) (s := s) (t := g)
  have e : ((((if nI t = nI f then nI (tk w s f) else (0 : Int32)) + (if nI t = nI g then nI (tk w s g) else (0 : Int32))) + (if nI t = nI s then ((((2 : Int32) * nI (al w s)) - nI (tk w s f)) - nI (tk w s g)) else (0 : Int32)))) = nI ((if t = f then tk w s f else 0) + (if t = g then tk w s g else 0) + (if t = s then 2 * al w s - tk w s f - tk w s g else 0)) := by
    rw [i_e (by omega) (by omega), i_e (by omega) (by omega), i_e (by omega) (by omega), show (2 : Int32) = nI 2 from rfl, pk_mul, pk_sub (by omega), pk_sub (by omega), show (0 : Int32) = nI 0 from rfl, nI_if, nI_if, nI_if, nI_add, nI_add]
  have b1 : (if t = f then tk w s f else 0) ≤ 1000 := by by_cases q : t = f <;> simp [q] <;> omega
  have b2 : (if t = g then tk w s g else 0) ≤ 1000 := by by_cases q : t = g <;> simp [q] <;> omega
  have b3 : (if t = s then 2 * al w s - tk w s f - tk w s g else 0) ≤ 2000 := by by_cases q : t = s <;> simp [q] <;> omega
  simp only [f_X0_propose, op_jn, G_57_0 h, I_1 h, Option.bind_some, p_all h hw hs16, p_taken h hw hs16 hf16, p_taken h hw hs16 hg16, G_57_2 h, I_58 h]
  rw [e, nI_l (by omega), nI_l (by omega), show (2 : Int64) = lN 2 from rfl, lN_mul, p_set h fq58 (by omega) (by omega) (by omega), Option.bind_some]
  exact ⟨_, rfl, stF_r, stF_c rfl⟩
end
