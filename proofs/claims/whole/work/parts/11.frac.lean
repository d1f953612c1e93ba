def Ch (S : Nat → Prop) (M M' : Mm) : Prop := (Shp M → Shp M') ∧ ∀ a, ¬ S a → mm_I M' a = mm_I M a ∧ mm_L M' a = mm_L M a
section
variable {M M' M'' : Mm} {S S' : Nat → Prop} {q k : Nat}
theorem Ch.rf : Ch S M M := ⟨id, fun _ _ => ⟨rfl, rfl⟩⟩
theorem Ch.tr (h : Ch S M M') (h' : Ch S M' M'') : Ch S M M'' := ⟨fun x => h'.1 (h.1 x), fun a ha => ⟨((h'.2 a ha).1).trans (h.2 a ha).1, ((h'.2 a ha).2).trans (h.2 a ha).2⟩⟩
theorem Ch.mo (h : Ch S M M') (hs : ∀ a, S a → S' a) : Ch S' M M' := ⟨h.1, fun a ha => h.2 a (fun x => ha (hs a x))⟩
theorem Ch.wI {x : Int32} (hq : S q) : Ch S M (mm_wI M q k x) := ⟨fun h => h, fun a ha => ⟨mm_uo (fun e => ha (e ▸ hq)), rfl⟩⟩
theorem Ch.wL {x : Int64} (hq : S q) : Ch S M (mm_wL M q k x) := ⟨fun h => h, fun a ha => ⟨rfl, mm_uo (fun e => ha (e ▸ hq))⟩⟩
theorem Ch.I (h : Ch S M M') (hq : ¬ S q) : mm_I M' q k = mm_I M q k := by rw [(h.2 q hq).1]
theorem Ch.L (h : Ch S M M') (hq : ¬ S q) : mm_L M' q k = mm_L M q k := by rw [(h.2 q hq).2]
end
def fb : Nat → Nat
  | 0 => 0
  | 1 => 1
  | n + 2 => fb (n + 1) + fb n
def ez : Nat → Nat → Nat → Prop
  | 0, _, b => b = 0
  | n + 1, a, b => b = 0 ∨ ez n b (a % b)
theorem ez_fb : ∀ n a b, ¬ ez n a b → fb (n + 1) ≤ b ∧ (b ≤ a → fb (n + 2) ≤ a)
  | 0, a, b, h => by
    have hb : b ≠ 0 := h
    refine ⟨by show 1 ≤ b; omega, fun hab => by show 1 + 0 ≤ a; omega⟩
  | n + 1, a, b, h => by
    have hb : b ≠ 0 := fun e => h (Or.inl e)
    have h2 : ¬ ez n b (a % b) := fun e => h (Or.inr e)
    have hm : a % b < b := Nat.mod_lt a (by omega)
    obtain ⟨i1, i2⟩ := ez_fb n b (a % b) h2
    have i2 := i2 (by omega)
    refine ⟨i2, fun hab => ?_⟩
    show fb (n + 2) + fb (n + 1) ≤ a
    have h3 : b + a % b ≤ a := by
      have h4 := Nat.div_add_mod a b
      have h5 : 1 ≤ a / b := Nat.div_pos hab (by omega)
      have h6 : b * 1 ≤ b * (a / b) := Nat.mul_le_mul_left b h5
      omega
    omega
theorem fb_93 : fb 93 = 12200160415121876738 := by decide +kernel
theorem ez_92 {a b : Nat} (hb : b < 2 ^ 63) : ez 92 a b := by
  by_cases h : ez 92 a b
  · exact h
  · have := (ez_fb 92 a b h).1
    rw [fb_93] at this
    omega
theorem l0 : (0 : Int64) = lN 0 := rfl
theorem ln_eq0 {b : Nat} (hb : b < 2 ^ 63) : (lN b = 0) ↔ b = 0 := by rw [l0]; exact pk_lEQ hb (by decide)
theorem p_div_l (K : Int64 → Option Int64) : ∀ (k n a b i : Nat), ez k a b → i + k < 100 → k < n → a < 2 ^ 63 → b < 2 ^ 63 → lp_X1_divisor_9 K n (lN a) (lN b) (nI i) = K (lN (Nat.gcd a b))
  | _, 0, _, _, _, _, _, h, _, _ => absurd h (by omega)
  | 0, n + 1, a, b, i, hz, hi, hn, ha, hb => by
    have hz : b = 0 := hz
    subst hz
    rw [lp_X1_divisor_9, if_neg (show ¬ (100 : Int32) ≤ nI i from nI_ge (b := 100) (by omega) (by omega)), if_pos (show lN 0 = (0 : Int64) from rfl), Nat.gcd_zero_right]
  | k + 1, n + 1, a, b, i, hz, hi, hn, ha, hb => by
    rw [lp_X1_divisor_9, if_neg (show ¬ (100 : Int32) ≤ nI i from nI_ge (b := 100) (by omega) (by omega))]
    by_cases h0 : b = 0
    · subst h0
      rw [if_pos (show lN 0 = (0 : Int64) from rfl), Nat.gcd_zero_right]
    · have h1 : ¬ lN b = 0 := fun e => h0 ((ln_eq0 hb).mp e)
      rw [if_neg h1, if_neg h1, pk_lRem ha (by omega) hb, nI_1]
      have hm : a % b < b := Nat.mod_lt a (by omega)
      rw [p_div_l K k n b (a % b) (i + 1) (hz.resolve_left h0) (by omega) (by omega) hb (by omega)]
      rw [Nat.gcd_comm a b, Nat.gcd_rec b a, Nat.gcd_comm b (a % b)]
theorem p_divisor {a b : Nat} (ha : a < 2 ^ 63) (hb : b < 2 ^ 63) (hp : 0 < Nat.gcd a b) : f_X1_divisor (lN a) (lN b) = some (lN (Nat.gcd a b)) := by
  unfold f_X1_divisor
  have hg : Nat.gcd a b < 2 ^ 63 := by
    rcases Nat.eq_zero_or_pos b with h | h
    · subst h; rw [Nat.gcd_zero_right]; exact ha
    · exact Nat.lt_of_le_of_lt (Nat.gcd_le_right a h) hb
  rw [show (0 : Int32) = nI 0 from rfl, p_div_l _ 92 FU a b 0 (ez_92 hb) (by omega) (by unfold FU; omega) ha hb, if_neg (show ¬ lN (Nat.gcd a b) ≤ (0 : Int64) by rw [l0, pk_lLE hg (by decide)]; omega)]
theorem p_fitProduct {a b : Nat} (ha : a < 2 ^ 63) (hb : b < 2 ^ 63) : f_X1_fitProduct (lN a) (lN b) = some (if a * b < 2 ^ 63 then 1 else 0) := by
  unfold f_X1_fitProduct
  by_cases h0 : a = 0
  · subst h0
    rw [if_pos (show lN 0 = (0 : Int64) from rfl), if_pos (by omega)]
  · have h1 : ¬ lN a = 0 := fun e => h0 ((ln_eq0 ha).mp e)
    have hd : 9223372036854775807 / a < 2 ^ 63 := Nat.lt_of_le_of_lt (Nat.div_le_self _ _) (by decide)
    have hk : (9223372036854775807 / a < b) ↔ ¬ a * b < 2 ^ 63 := by
      rw [Nat.div_lt_iff_lt_mul (by omega), Nat.mul_comm b a]
      omega
    rw [if_neg h1, if_neg h1, show (9223372036854775807 : Int64) = lN 9223372036854775807 from rfl, pk_lDiv (by decide) (by omega) ha]
    by_cases hf : a * b < 2 ^ 63
    · rw [if_neg (by rw [pk_lLT hd hb]; exact fun e => hk.mp e hf), if_pos hf]
    · rw [if_pos (by rw [pk_lLT hd hb]; exact hk.mpr hf), if_neg hf]
