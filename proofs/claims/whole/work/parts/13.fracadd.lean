section
variable {M M' : Mm} {q r a b : Nat} {y z : Fq}
theorem p_add (h : Shp M) (hq : FQ q) (hr : FQ r) (hne : r ≠ q) (h1 : FrC q y M) (h2 : FrC r z M) (o1 : frok y) (o2 : frok z) {sg : Int32} {R : Fq}
    (hs : (sg = 1 ∧ R = fadd y z) ∨ (sg = -1 ∧ R = fsub y z ∧ ∀ a b c d, y = some (a, b) → z = some (c, d) → c * (b / Nat.gcd b d) ≤ a * (d / Nat.gcd b d))) : ∃ M', f_X1_add q sg r M = some M' ∧ FrC q R M' ∧ Ch (· = q) M M' := by
  have j0 : ∀ {N : Mm}, Shp N → (op_pZ N 1 q 2 (0 : Int32)) = some (mm_wI N q 2 0) := fun h => sh_pZ h hq.l hq.k (Or.inl rfl)
  have j1 : ∀ {N : Mm}, Shp N → (op_pZ N 1 q 2 (1 : Int32)) = some (mm_wI N q 2 1) := fun h => sh_pZ h hq.l hq.k (Or.inr rfl)
  have g0 : ∀ {N : Mm}, Shp N → op_gI (mm_wI N q 2 0) 1 q 2 = some 0 := fun h => by rw [sh_gI (sh_wI h) hq.l hq.k, mI_wI, if_pos ⟨rfl, rfl⟩]
  have g1 : ∀ {N : Mm}, Shp N → op_gI (mm_wI N q 2 1) 1 q 2 = some 1 := fun h => by rw [sh_gI (sh_wI h) hq.l hq.k, mI_wI, if_pos ⟨rfl, rfl⟩]
  simp only [f_X1_add, op_jn]
  rw [sh_gI h hq.l hq.k, Option.bind_some]
  cases y with
  | none =>
    have hR : R = none := by rcases hs with ⟨_, e⟩ | ⟨_, e, _⟩ <;> exact e
    subst hR
    rw [show mm_I M q 2 = 0 from h1, if_pos rfl, j0 h, Option.bind_some, g0 h, Option.bind_some, if_pos rfl]
    exact ⟨_, rfl, mm_uq, Ch.wI rfl⟩
  | some y =>
    obtain ⟨a, b⟩ := y
    rw [h1.2.2, if_neg (by decide), sh_gI h hr.l hr.k, Option.bind_some]
    cases z with
    | none =>
      have hR : R = none := by rcases hs with ⟨_, e⟩ | ⟨_, e, _⟩ <;> exact e
      subst hR
      rw [show mm_I M r 2 = 0 from h2, if_pos rfl, j0 h, Option.bind_some, g0 h, Option.bind_some, if_pos rfl]
      exact ⟨_, rfl, mm_uq, Ch.wI rfl⟩
    | some z =>
      obtain ⟨c, d⟩ := z
      obtain ⟨a1, b1, b0, ab⟩ := o1 a b rfl
      obtain ⟨c1, d1, d0, cd⟩ := o2 c d rfl
      have ea : mm_L M q 0 = lN a := h1.1
      have eb : mm_L M q 1 = lN b := h1.2.1
      have ec : mm_L M r 0 = lN c := h2.1
      have ed : mm_L M r 1 = lN d := h2.2.1
      have h6 : Shp (mm_wI M q 2 1) := sh_wI h
      rw [h2.2.2, if_neg (by decide), j1 h, Option.bind_some, g1 h, Option.bind_some, if_neg (by decide), sh_gL h6 hr.l hr.k, Option.bind_some, mL_wI, ec]
      by_cases hc0 : c = 0
      · subst hc0
        have hd1 : d = 1 := by rw [Nat.gcd_zero_left] at cd; exact cd
        subst hd1
        have hR : R = some (a, b) := by
          rcases hs with ⟨_, e⟩ | ⟨_, e, _⟩
          · rw [e, fadd_0 o1]
          · rw [e, fsub_0 o1]
        subst hR
        rw [if_pos (show lN 0 = (0 : Int64) from rfl)]
        exact ⟨_, rfl, ⟨h1.1, h1.2.1, mm_uq⟩, Ch.wI rfl⟩
      · have hg : 0 < Nat.gcd b d := Nat.gcd_pos_of_pos_right b d0
        have hg2 : Nat.gcd b d < 2 ^ 63 := Nat.lt_of_le_of_lt (Nat.gcd_le_right b d0) d1
        have hn : ¬ lN (Nat.gcd b d) = 0 := fun e => by have := (ln_eq0 hg2).mp e; omega
        have hm : d / Nat.gcd b d < 2 ^ 63 := Nat.lt_of_le_of_lt (Nat.div_le_self _ _) d1
        have hi : b / Nat.gcd b d < 2 ^ 63 := Nat.lt_of_le_of_lt (Nat.div_le_self _ _) b1
        have hmp : 0 < d / Nat.gcd b d := fd_pos b0 d0
        rw [if_neg (fun e => hc0 ((ln_eq0 c1).mp e)), sh_gL h6 hq.l hq.k, Option.bind_some, sh_gL h6 hr.l hr.k, Option.bind_some, mL_wI, eb, ed, p_divisor b1 d1 hg, Option.bind_some, Option.bind_some, if_neg hn, Option.bind_some, if_neg hn, sh_gL h6 hq.l hq.k, Option.bind_some, mL_wI, ea, pk_lDiv d1 hg hg2, pk_lDiv b1 hg hg2, p_fitProduct a1 hm, Option.bind_some, Option.bind_some, p_fitProduct c1 hi, Option.bind_some, Option.bind_some, p_fitProduct b1 hm, Option.bind_some]
        have h28 : Shp (mm_wI (mm_wI M q 2 1) q 2 1) := sh_wI h6
        have no : ∀ {N : Mm}, Ch (· = q) M N → ∃ M', some (mm_wI N q 2 0) = some M' ∧ FrC q none M' ∧ Ch (· = q) M M' := fun hc => ⟨_, rfl, mm_uq, hc.tr (Ch.wI rfl)⟩
        have c6 : Ch (· = q) M (mm_wI M q 2 1) := Ch.wI rfl
        have c28 : Ch (· = q) M (mm_wI (mm_wI M q 2 1) q 2 1) := c6.tr (Ch.wI rfl)
        by_cases f1 : a * (d / Nat.gcd b d) < 2 ^ 63
        · by_cases f2 : c * (b / Nat.gcd b d) < 2 ^ 63
          · by_cases f3 : b * (d / Nat.gcd b d) < 2 ^ 63
            · rw [if_pos f1, if_neg (by decide), if_pos f2, if_neg (by decide), if_pos f3, if_neg (by decide), j1 h6, Option.bind_some, g1 h6, Option.bind_some, if_neg (by decide), sh_gL h28 hq.l hq.k, Option.bind_some, sh_gL h28 hr.l hr.k, Option.bind_some, mL_wI, mL_wI, ea, ec, lN_mul, lN_mul]
              rcases hs with ⟨rfl, e⟩ | ⟨rfl, e, hle⟩
              · have e : R = if (a * (d / Nat.gcd b d) < 2 ^ 63 ∧ c * (b / Nat.gcd b d) < 2 ^ 63 ∧ b * (d / Nat.gcd b d) < 2 ^ 63) ∧ a * (d / Nat.gcd b d) + c * (b / Nat.gcd b d) < 2 ^ 63 then some (low (a * (d / Nat.gcd b d) + c * (b / Nat.gcd b d)) (b * (d / Nat.gcd b d))) else none := e
                rw [if_neg (show ¬ (1 : Int32) < 0 by decide), show (9223372036854775807 : Int64) = lN 9223372036854775807 from rfl, lN_sub (by omega)]
                by_cases f4 : a * (d / Nat.gcd b d) + c * (b / Nat.gcd b d) < 2 ^ 63
                · rw [if_pos ⟨⟨f1, f2, f3⟩, f4⟩] at e
                  subst e
                  rw [if_neg (show ¬ lN (9223372036854775807 - c * (b / Nat.gcd b d)) < lN (a * (d / Nat.gcd b d)) by rw [pk_lLT (by omega) (by omega)]; omega), j1 h28, Option.bind_some, g1 h28, Option.bind_some, if_neg (by decide), sh_gL (sh_wI h28) hq.l hq.k, Option.bind_some, sh_op (sh_wI h28) hq.l hq.k, Option.bind_some, mL_wI, mL_wI, mL_wI, eb, lN_mul, show (1 : Int32).toInt64 = lN 1 from rfl, lN_mul, Nat.one_mul, lN_add, p_set (sh_wI h28) hq f4 f3 (Nat.mul_pos b0 hmp), Option.bind_some]
                  exact ⟨_, rfl, stF_r, (c28.tr (Ch.wI rfl)).tr (stF_c rfl)⟩
                · rw [if_neg (fun x => f4 x.2)] at e
                  subst e
                  rw [if_pos (show lN (9223372036854775807 - c * (b / Nat.gcd b d)) < lN (a * (d / Nat.gcd b d)) by rw [pk_lLT (by omega) (by omega)]; omega), j0 h28, Option.bind_some, g0 h28, Option.bind_some, if_pos rfl]
                  exact no c28
              · have e : R = if a * (d / Nat.gcd b d) < 2 ^ 63 ∧ c * (b / Nat.gcd b d) < 2 ^ 63 ∧ b * (d / Nat.gcd b d) < 2 ^ 63 then some (low (a * (d / Nat.gcd b d) - c * (b / Nat.gcd b d)) (b * (d / Nat.gcd b d))) else none := e
                rw [if_pos ⟨f1, f2, f3⟩] at e
                subst e
                have hle := hle a b c d rfl rfl
                rw [if_pos (show (-1 : Int32) < 0 by decide), j1 h28, Option.bind_some, g1 h28, Option.bind_some, if_neg (by decide), sh_gL (sh_wI h28) hq.l hq.k, Option.bind_some, sh_op (sh_wI h28) hq.l hq.k, Option.bind_some, mL_wI, mL_wI, mL_wI, eb, lN_mul, show (-1 : Int32).toInt64 = -(1 : Int64) from rfl, Int64.neg_mul, Int64.one_mul, ← Int64.sub_eq_add_neg, lN_sub hle, p_set (sh_wI h28) hq (by omega) f3 (Nat.mul_pos b0 hmp), Option.bind_some]
                exact ⟨_, rfl, stF_r, (c28.tr (Ch.wI rfl)).tr (stF_c rfl)⟩
            · have hR : R = none := by
                rcases hs with ⟨_, e⟩ | ⟨_, e, _⟩
                · exact e.trans (if_neg (fun x => f3 x.1.2.2))
                · exact e.trans (if_neg (fun x => f3 x.2.2))
              subst hR
              rw [if_pos f1, if_neg (by decide), if_pos f2, if_neg (by decide), if_neg f3, if_pos rfl, j0 h6, Option.bind_some, g0 h6, Option.bind_some, if_pos rfl]
              exact no c6
          · have hR : R = none := by
              rcases hs with ⟨_, e⟩ | ⟨_, e, _⟩
              · exact e.trans (if_neg (fun x => f2 x.1.2.1))
              · exact e.trans (if_neg (fun x => f2 x.2.1))
            subst hR
            rw [if_pos f1, if_neg (by decide), if_neg f2, if_pos rfl, j0 h6, Option.bind_some, g0 h6, Option.bind_some, if_pos rfl]
            exact no c6
        · have hR : R = none := by
            rcases hs with ⟨_, e⟩ | ⟨_, e, _⟩
            · exact e.trans (if_neg (fun x => f1 x.1.1))
            · exact e.trans (if_neg (fun x => f1 x.1))
          subst hR
          rw [if_neg f1, if_pos rfl, j0 h6, Option.bind_some, g0 h6, Option.bind_some, if_pos rfl]
          exact no c6
theorem p_isSame (h : Shp M) (hq : FQ q) (hr : FQ r) {a b c d : Nat} (h1 : FrC q (some (a, b)) M) (h2 : FrC r (some (c, d)) M) (a1 : a < 2 ^ 63) (b1 : b < 2 ^ 63) (c1 : c < 2 ^ 63) (d1 : d < 2 ^ 63) : f_X1_isSame q r M = some (if a = c ∧ b = d then 1 else 0) := by
  unfold f_X1_isSame
  rw [sh_gL h hq.l hq.k, Option.bind_some, sh_gL h hr.l hr.k, Option.bind_some, h1.1, h2.1]
  by_cases e1 : a = c
  · rw [if_pos ((pk_lEQ a1 c1).mpr e1), sh_gL h hq.l hq.k, Option.bind_some, sh_gL h hr.l hr.k, Option.bind_some, h1.2.1, h2.2.1]
    by_cases e2 : b = d
    · rw [if_pos ((pk_lEQ b1 d1).mpr e2), if_pos ⟨e1, e2⟩]
    · rw [if_neg (fun x => e2 ((pk_lEQ b1 d1).mp x)), if_neg (fun x => e2 x.2)]
  · rw [if_neg (fun x => e1 ((pk_lEQ a1 c1).mp x)), if_neg (fun x => e1 x.1)]
end
