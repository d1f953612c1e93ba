def Cu (M M' : Mm) : Prop := (Shp M → Shp M') ∧ mm_I M' = mm_I M ∧ ∀ a k, (a = 66 → k ≠ 21 ∧ k ≠ 22) → mm_L M' a k = mm_L M a k
def FrM (y : Fq) (M : Mm) : Prop := match y with
  | some z => mm_L M 66 21 = lN z.1 ∧ mm_L M 66 22 = lN z.2
  | none => mm_L M 66 22 = 0
def Ar (z : Fq) (A B : Int64) : Prop := match z with
  | some w => A = lN w.1 ∧ B = lN w.2
  | none => B = 0
def stM (M : Mm) (z : Nat × Nat) : Mm := mm_wL (mm_wL M 66 21 (lN z.1)) 66 22 (lN z.2)
section
variable {M M' M'' : Mm} {a b : Nat} {y z : Fq} {A B : Int64}
theorem Cu.rf : Cu M M := ⟨id, rfl, fun _ _ _ => rfl⟩
theorem Cu.tr (h : Cu M M') (h' : Cu M' M'') : Cu M M'' := ⟨fun x => h'.1 (h.1 x), h'.2.1.trans h.2.1, fun a k hk => (h'.2.2 a k hk).trans (h.2.2 a k hk)⟩
theorem Cu.w1 {x : Int64} : Cu M (mm_wL M 66 21 x) := ⟨fun h => h, rfl, fun a k hk => by rw [mL_wL, if_neg (fun e => (hk e.1).1 e.2)]⟩
theorem Cu.w2 {x : Int64} : Cu M (mm_wL M 66 22 x) := ⟨fun h => h, rfl, fun a k hk => by rw [mL_wL, if_neg (fun e => (hk e.1).2 e.2)]⟩
theorem stM_r {w : Nat × Nat} : FrM (some w) (stM M w) := ⟨by unfold stM; rw [mL_wL, if_neg (by decide), mL_wL, if_pos ⟨rfl, rfl⟩], by unfold stM; rw [mL_wL, if_pos ⟨rfl, rfl⟩]⟩
theorem no_r : FrM none (mm_wL M 66 22 0) := by show mm_L (mm_wL M 66 22 0) 66 22 = 0; rw [mL_wL, if_pos ⟨rfl, rfl⟩]
theorem stM_c {w : Nat × Nat} : Cu M (stM M w) := Cu.w1.tr Cu.w2
theorem m_div_l : ∀ (k n a b : Nat), ez k a b → k < n → a < 2 ^ 63 → b < 2 ^ 63 → lp_X7_divisorOf_6 n (lN a) (lN b) = some (lN (Nat.gcd a b))
  | _, 0, _, _, _, h, _, _ => absurd h (by omega)
  | 0, n + 1, a, b, hz, hn, ha, hb => by
    have hz : b = 0 := hz
    subst hz
    rw [lp_X7_divisorOf_6, if_pos (show lN 0 = (0 : Int64) from rfl), Nat.gcd_zero_right]
  | k + 1, n + 1, a, b, hz, hn, ha, hb => by
    rw [lp_X7_divisorOf_6]
    by_cases h0 : b = 0
    · subst h0
      rw [if_pos (show lN 0 = (0 : Int64) from rfl), Nat.gcd_zero_right]
    · have h1 : ¬ lN b = 0 := fun e => h0 ((ln_eq0 hb).mp e)
      rw [if_neg h1, if_neg h1, pk_lRem ha (by omega) hb]
      have hm : a % b < b := Nat.mod_lt a (by omega)
      rw [m_div_l k n b (a % b) (hz.resolve_left h0) (by omega) hb (by omega)]
      rw [Nat.gcd_comm a b, Nat.gcd_rec b a, Nat.gcd_comm b (a % b)]
theorem m_divisorOf (ha : a < 2 ^ 63) (hb : b < 2 ^ 63) : f_X7_divisorOf (lN a) (lN b) = some (lN (Nat.gcd a b)) := m_div_l 92 FU a b (ez_92 hb) (by unfold FU; omega) ha hb
theorem m_isProduct (ha : a < 2 ^ 63) (hb : b < 2 ^ 63) : f_X7_isProduct (lN a) (lN b) = some (if a * b < 2 ^ 63 then 1 else 0) := by
  unfold f_X7_isProduct
  by_cases h0 : b = 0
  · subst h0
    rw [if_pos (show lN 0 = (0 : Int64) from rfl), if_pos (by omega)]
  · have h1 : ¬ lN b = 0 := fun e => h0 ((ln_eq0 hb).mp e)
    have hd : 9223372036854775807 / b < 2 ^ 63 := Nat.lt_of_le_of_lt (Nat.div_le_self _ _) (by decide)
    have hk : (9223372036854775807 / b < a) ↔ ¬ a * b < 2 ^ 63 := by
      rw [Nat.div_lt_iff_lt_mul (by omega)]
      omega
    rw [if_neg h1, if_neg h1, show (9223372036854775807 : Int64) = lN 9223372036854775807 from rfl, pk_lDiv (by decide) (by omega) hb]
    by_cases hf : a * b < 2 ^ 63
    · rw [if_neg (by rw [pk_lLT hd ha]; exact fun e => hk.mp e hf), if_pos hf]
    · rw [if_pos (by rw [pk_lLT hd ha]; exact hk.mpr hf), if_neg hf]
theorem m_lay (h : Shp M) (ha : a < 2 ^ 63) (hb : b < 2 ^ 63) (h0 : 0 < b) : f_X7_lay 66 (lN a) (lN b) M = some (stM M (low a b)) := by
  have hg : 0 < Nat.gcd a b := Nat.gcd_pos_of_pos_right a h0
  have hg2 : Nat.gcd a b < 2 ^ 63 := Nat.lt_of_le_of_lt (Nat.gcd_le_right a h0) hb
  have hn : ¬ lN (Nat.gcd a b) = 0 := fun e => by have := (ln_eq0 hg2).mp e; omega
  unfold f_X7_lay
  rw [m_divisorOf ha hb, Option.bind_some, if_neg hn, pk_lDiv ha hg hg2, P_66_21 h, Option.bind_some, if_neg hn, pk_lDiv hb hg hg2, P_66_22 (sh_wL h), Option.bind_some]
  rfl
theorem m_times (h : Shp M) (h1 : FrM y M) (h2 : Ar z A B) (o1 : frok y) (o2 : frok z) : ∃ M', f_X7_times 66 A B M = some M' ∧ FrM (fmul y z) M' ∧ Cu M M' := by
  have no : ∃ M', (op_pL M 7 66 22 (0 : Int64)).bind (fun M_3 => some M_3) = some M' ∧ FrM none M' ∧ Cu M M' := by
    rw [P_66_22 h, Option.bind_some]
    exact ⟨_, rfl, no_r, Cu.w2⟩
  unfold f_X7_times
  rw [G_66_22 h, Option.bind_some]
  cases y with
  | none =>
    rw [show mm_L M 66 22 = 0 from h1, if_pos rfl]
    exact no
  | some y =>
    obtain ⟨a, b⟩ := y
    obtain ⟨a1, b1, b0, ab⟩ := o1 a b rfl
    have ea : mm_L M 66 21 = lN a := h1.1
    have eb : mm_L M 66 22 = lN b := h1.2
    rw [eb, if_neg (fun e => by have := (ln_eq0 b1).mp e; omega)]
    cases z with
    | none =>
      rw [if_pos (show B = 0 from h2)]
      exact no
    | some z =>
      obtain ⟨c, d⟩ := z
      obtain ⟨c1, d1, d0, cd⟩ := o2 c d rfl
      have ec : A = lN c := h2.1
      have ed : B = lN d := h2.2
      subst ec
      subst ed
      rw [if_neg (fun e => by have := (ln_eq0 d1).mp e; omega), G_66_21 h, Option.bind_some, ea, m_isProduct a1 c1, Option.bind_some]
      show ∃ M', _ = some M' ∧ FrM (if a * c < 2 ^ 63 ∧ b * d < 2 ^ 63 then some (low (a * c) (b * d)) else none) M' ∧ _
      by_cases hac : a * c < 2 ^ 63
      · rw [if_pos hac, if_neg (by decide), Option.bind_some, m_isProduct b1 d1, Option.bind_some]
        by_cases hbd : b * d < 2 ^ 63
        · rw [if_pos hbd, if_neg (by decide), if_pos ⟨hac, hbd⟩, Option.bind_some, Option.bind_some, I_66 h, Option.bind_some, lN_mul, lN_mul, m_lay h hac hbd (Nat.mul_pos b0 d0), Option.bind_some]
          exact ⟨_, rfl, stM_r, stM_c⟩
        · rw [if_neg hbd, if_pos rfl, if_neg (fun e => hbd e.2)]
          exact no
      · rw [if_neg hac, if_pos rfl, if_neg (fun e => hac e.1)]
        exact no
theorem m_and (h : Shp M) (h1 : FrM y M) (h2 : Ar z A B) (o1 : frok y) (o2 : frok z) {sg : Int32} {R : Fq}
    (hs : (sg = 0 ∧ R = fadd y z) ∨ (sg = 1 ∧ R = fsub y z ∧ ∀ a b c d, y = some (a, b) → z = some (c, d) → c * (b / Nat.gcd b d) ≤ a * (d / Nat.gcd b d))) : ∃ M', f_X7_and 66 A B sg M = some M' ∧ FrM R M' ∧ Cu M M' := by
  have no : ∃ M', (op_pL M 7 66 22 (0 : Int64)).bind (fun M_3 => some M_3) = some M' ∧ FrM none M' ∧ Cu M M' := by
    rw [P_66_22 h, Option.bind_some]
    exact ⟨_, rfl, no_r, Cu.w2⟩
  simp only [f_X7_and, op_jn]
  rw [G_66_22 h, Option.bind_some]
  cases y with
  | none =>
    have hR : R = none := by rcases hs with ⟨_, e⟩ | ⟨_, e, _⟩ <;> exact e
    subst hR
    rw [show mm_L M 66 22 = 0 from h1, if_pos rfl]
    exact no
  | some y =>
    obtain ⟨a, b⟩ := y
    obtain ⟨a1, b1, b0, ab⟩ := o1 a b rfl
    have ea : mm_L M 66 21 = lN a := h1.1
    have eb : mm_L M 66 22 = lN b := h1.2
    rw [eb, if_neg (fun e => by have := (ln_eq0 b1).mp e; omega)]
    cases z with
    | none =>
      have hR : R = none := by rcases hs with ⟨_, e⟩ | ⟨_, e, _⟩ <;> exact e
      subst hR
      rw [if_pos (show B = 0 from h2)]
      exact no
    | some z =>
      obtain ⟨c, d⟩ := z
      obtain ⟨c1, d1, d0, cd⟩ := o2 c d rfl
      have ec : A = lN c := h2.1
      have ed : B = lN d := h2.2
      subst ec
      subst ed
      have hg : 0 < Nat.gcd b d := Nat.gcd_pos_of_pos_right b d0
      have hg2 : Nat.gcd b d < 2 ^ 63 := Nat.lt_of_le_of_lt (Nat.gcd_le_right b d0) d1
      have hn : ¬ lN (Nat.gcd b d) = 0 := fun e => by have := (ln_eq0 hg2).mp e; omega
      have hm : d / Nat.gcd b d < 2 ^ 63 := Nat.lt_of_le_of_lt (Nat.div_le_self _ _) d1
      have hi : b / Nat.gcd b d < 2 ^ 63 := Nat.lt_of_le_of_lt (Nat.div_le_self _ _) b1
      have hmp : 0 < d / Nat.gcd b d := fd_pos b0 d0
      rw [if_neg (fun e => by have := (ln_eq0 d1).mp e; omega), Option.bind_some, m_divisorOf b1 d1, Option.bind_some, if_neg hn, Option.bind_some, if_neg hn, G_66_21 h, Option.bind_some, ea, pk_lDiv d1 hg hg2, pk_lDiv b1 hg hg2, m_isProduct a1 hm, Option.bind_some, m_isProduct c1 hi, Option.bind_some, Option.bind_some, m_isProduct b1 hm, Option.bind_some]
      by_cases f1 : a * (d / Nat.gcd b d) < 2 ^ 63
      · by_cases f2 : c * (b / Nat.gcd b d) < 2 ^ 63
        · by_cases f3 : b * (d / Nat.gcd b d) < 2 ^ 63
          · rw [if_pos f1, if_neg (by decide), if_pos f2, if_neg (by decide), if_pos f3, if_neg (by decide)]
            rcases hs with ⟨rfl, e⟩ | ⟨rfl, e, hle⟩
            · have e : R = if (a * (d / Nat.gcd b d) < 2 ^ 63 ∧ c * (b / Nat.gcd b d) < 2 ^ 63 ∧ b * (d / Nat.gcd b d) < 2 ^ 63) ∧ a * (d / Nat.gcd b d) + c * (b / Nat.gcd b d) < 2 ^ 63 then some (low (a * (d / Nat.gcd b d) + c * (b / Nat.gcd b d)) (b * (d / Nat.gcd b d))) else none := e
              rw [if_pos rfl, Option.bind_some, lN_mul, lN_mul, show (9223372036854775807 : Int64) = lN 9223372036854775807 from rfl, lN_sub (by omega)]
              by_cases f4 : a * (d / Nat.gcd b d) + c * (b / Nat.gcd b d) < 2 ^ 63
              · rw [if_pos ⟨⟨f1, f2, f3⟩, f4⟩] at e
                subst e
                rw [if_pos (show lN (a * (d / Nat.gcd b d)) ≤ lN (9223372036854775807 - c * (b / Nat.gcd b d)) by rw [pk_lLE (by omega) (by omega)]; omega), if_pos rfl, Option.bind_some, Option.bind_some, I_66 h, Option.bind_some, lN_mul, lN_mul, lN_add, m_lay h f4 f3 (Nat.mul_pos b0 hmp), Option.bind_some]
                exact ⟨_, rfl, stM_r, stM_c⟩
              · rw [if_neg (fun x => f4 x.2)] at e
                subst e
                rw [if_neg (show ¬ lN (a * (d / Nat.gcd b d)) ≤ lN (9223372036854775807 - c * (b / Nat.gcd b d)) by rw [pk_lLE (by omega) (by omega)]; omega)]
                exact no
            · have e : R = if a * (d / Nat.gcd b d) < 2 ^ 63 ∧ c * (b / Nat.gcd b d) < 2 ^ 63 ∧ b * (d / Nat.gcd b d) < 2 ^ 63 then some (low (a * (d / Nat.gcd b d) - c * (b / Nat.gcd b d)) (b * (d / Nat.gcd b d))) else none := e
              rw [if_pos ⟨f1, f2, f3⟩] at e
              subst e
              have hle := hle a b c d rfl rfl
              rw [if_neg (by decide), if_neg (by decide), Option.bind_some, Option.bind_some, I_66 h, Option.bind_some, lN_mul, lN_mul, lN_mul, lN_sub hle, m_lay h (by omega) f3 (Nat.mul_pos b0 hmp), Option.bind_some]
              exact ⟨_, rfl, stM_r, stM_c⟩
          · have hR : R = none := by
              rcases hs with ⟨_, e⟩ | ⟨_, e, _⟩
              · exact e.trans (if_neg (fun x => f3 x.1.2.2))
              · exact e.trans (if_neg (fun x => f3 x.2.2))
            subst hR
            rw [if_pos f1, if_neg (by decide), if_pos f2, if_neg (by decide), if_neg f3, if_pos rfl]
            exact no
        · have hR : R = none := by
            rcases hs with ⟨_, e⟩ | ⟨_, e, _⟩
            · exact e.trans (if_neg (fun x => f2 x.1.2.1))
            · exact e.trans (if_neg (fun x => f2 x.2.1))
          subst hR
          rw [if_pos f1, if_neg (by decide), if_neg f2, if_pos rfl]
          exact no
      · have hR : R = none := by
          rcases hs with ⟨_, e⟩ | ⟨_, e, _⟩
          · exact e.trans (if_neg (fun x => f1 x.1.1))
          · exact e.trans (if_neg (fun x => f1 x.1))
        subst hR
        rw [if_neg f1, if_pos rfl]
        exact no
end
