abbrev Fq : Type := Option (Nat × Nat)
def frok (y : Fq) : Prop := ∀ a b, y = some (a, b) → a < 2 ^ 63 ∧ b < 2 ^ 63 ∧ 0 < b ∧ Nat.gcd a b = 1
def low (a b : Nat) : Nat × Nat := (a / Nat.gcd a b, b / Nat.gcd a b)
def fmul (y z : Fq) : Fq := match y, z with
  | some (a, b), some (c, d) => if a * c < 2 ^ 63 ∧ b * d < 2 ^ 63 then some (low (a * c) (b * d)) else none
  | _, _ => none
def fadd (y z : Fq) : Fq := match y, z with
  | some (a, b), some (c, d) => if (a * (d / Nat.gcd b d) < 2 ^ 63 ∧ c * (b / Nat.gcd b d) < 2 ^ 63 ∧ b * (d / Nat.gcd b d) < 2 ^ 63) ∧ a * (d / Nat.gcd b d) + c * (b / Nat.gcd b d) < 2 ^ 63 then some (low (a * (d / Nat.gcd b d) + c * (b / Nat.gcd b d)) (b * (d / Nat.gcd b d))) else none
  | _, _ => none
def fsub (y z : Fq) : Fq := match y, z with
  | some (a, b), some (c, d) => if a * (d / Nat.gcd b d) < 2 ^ 63 ∧ c * (b / Nat.gcd b d) < 2 ^ 63 ∧ b * (d / Nat.gcd b d) < 2 ^ 63 then some (low (a * (d / Nat.gcd b d) - c * (b / Nat.gcd b d)) (b * (d / Nat.gcd b d))) else none
  | _, _ => none
def FQ (q : Nat) : Prop := 58 ≤ q ∧ q ≤ 62
theorem fq_K : ∀ q, q < 63 → 58 ≤ q → KK q = 1 := by decide
theorem FQ.k {q : Nat} (h : FQ q) : KK q = 1 := fq_K q (by have := h.2; omega) h.1
theorem FQ.l {q : Nat} (h : FQ q) : q < 83 := by have := h.2; omega
def FrC (q : Nat) (y : Fq) (M : Mm) : Prop := match y with
  | some z => mm_L M q 0 = lN z.1 ∧ mm_L M q 1 = lN z.2 ∧ mm_I M q 2 = 1
  | none => mm_I M q 2 = 0
def stF (M : Mm) (q : Nat) (z : Nat × Nat) : Mm := mm_wI (mm_wL (mm_wL M q 0 (lN z.1)) q 1 (lN z.2)) q 2 1
section
variable {M M' : Mm} {q r a b : Nat} {y z : Fq}
theorem stF_r {w : Nat × Nat} : FrC q (some w) (stF M q w) := by
  refine ⟨?_, ?_, ?_⟩
  · show mm_u (mm_u (mm_L M) q 0 (lN w.1)) q 1 (lN w.2) q 0 = _
    rw [mm_uk (by decide), mm_uq]
  · exact mm_uq
  · exact mm_uq
theorem stF_c {w : Nat × Nat} {S : Nat → Prop} (hq : S q) : Ch S M (stF M q w) := ((Ch.wL hq).tr (Ch.wL hq)).tr (Ch.wI hq)
theorem FrC.ch {S : Nat → Prop} (h : FrC q y M) (hc : Ch S M M') (hq : ¬ S q) : FrC q y M' := by
  cases y with
  | none => exact (hc.I hq).trans h
  | some w => exact ⟨(hc.L hq).trans h.1, (hc.L hq).trans h.2.1, (hc.I hq).trans h.2.2⟩
theorem low_ok (h0 : 0 < b) (ha : a < 2 ^ 63) (hb : b < 2 ^ 63) : frok (some (low a b)) := by
  intro c d e
  cases e
  have hg : 0 < Nat.gcd a b := Nat.gcd_pos_of_pos_right a h0
  have hd := Nat.gcd_dvd_right a b
  exact ⟨Nat.lt_of_le_of_lt (Nat.div_le_self _ _) ha, Nat.lt_of_le_of_lt (Nat.div_le_self _ _) hb, Nat.div_pos (Nat.le_of_dvd h0 hd) hg, Nat.gcd_div_gcd_div_gcd_of_pos_right h0⟩
theorem p_set (h : Shp M) (hq : FQ q) (ha : a < 2 ^ 63) (hb : b < 2 ^ 63) (h0 : 0 < b) : f_X1_set q (lN a) (lN b) M = some (stF M q (low a b)) := by
  have hg : 0 < Nat.gcd a b := Nat.gcd_pos_of_pos_right a h0
  have hg2 : Nat.gcd a b < 2 ^ 63 := Nat.lt_of_le_of_lt (Nat.gcd_le_right a h0) hb
  have hn : ¬ lN (Nat.gcd a b) = 0 := fun e => by have := (ln_eq0 hg2).mp e; omega
  unfold f_X1_set
  rw [p_divisor ha hb hg, Option.bind_some, if_neg hn, pk_lDiv ha hg hg2, sh_pL h hq.l hq.k, Option.bind_some, if_neg hn, pk_lDiv hb hg hg2, sh_pL (sh_wL h) hq.l hq.k, Option.bind_some, sh_pZ (sh_wL (sh_wL h)) hq.l hq.k (Or.inr rfl), Option.bind_some]
  rfl
theorem p_times (h : Shp M) (hq : FQ q) (hr : FQ r) (hne : r ≠ q) (h1 : FrC q y M) (h2 : FrC r z M) (o1 : frok y) (o2 : frok z) : ∃ M', f_X1_times q r M = some M' ∧ FrC q (fmul y z) M' ∧ Ch (· = q) M M' := by
  have j0 : (op_pZ M 1 q 2 (0 : Int32)) = some (mm_wI M q 2 0) := sh_pZ h hq.l hq.k (Or.inl rfl)
  have j1 : (op_pZ M 1 q 2 (1 : Int32)) = some (mm_wI M q 2 1) := sh_pZ h hq.l hq.k (Or.inr rfl)
  have g0 : op_gI (mm_wI M q 2 0) 1 q 2 = some 0 := by rw [sh_gI (sh_wI h) hq.l hq.k, mI_wI, if_pos ⟨rfl, rfl⟩]
  have g1 : op_gI (mm_wI M q 2 1) 1 q 2 = some 1 := by rw [sh_gI (sh_wI h) hq.l hq.k, mI_wI, if_pos ⟨rfl, rfl⟩]
  have no : ∃ M', some (mm_wI M q 2 0) = some M' ∧ FrC q none M' ∧ Ch (· = q) M M' := ⟨_, rfl, mm_uq, Ch.wI rfl⟩
  simp only [f_X1_times, op_jn]
  rw [sh_gI h hq.l hq.k, Option.bind_some]
  cases y with
  | none =>
    rw [show mm_I M q 2 = 0 from h1, if_pos rfl, j0, Option.bind_some, g0, Option.bind_some, if_pos rfl]
    exact no
  | some y =>
    obtain ⟨a, b⟩ := y
    rw [h1.2.2, if_neg (by decide), sh_gI h hr.l hr.k, Option.bind_some]
    cases z with
    | none =>
      rw [show mm_I M r 2 = 0 from h2, if_pos rfl, j0, Option.bind_some, g0, Option.bind_some, if_pos rfl]
      exact no
    | some z =>
      obtain ⟨c, d⟩ := z
      obtain ⟨a1, b1, b0, ab⟩ := o1 a b rfl
      obtain ⟨c1, d1, d0, cd⟩ := o2 c d rfl
      rw [h2.2.2, if_neg (by decide), sh_gL h hq.l hq.k, Option.bind_some, sh_gL h hr.l hr.k, Option.bind_some, h1.1, h2.1, p_fitProduct a1 c1, Option.bind_some]
      show ∃ M', _ = some M' ∧ FrC q (if a * c < 2 ^ 63 ∧ b * d < 2 ^ 63 then some (low (a * c) (b * d)) else none) M' ∧ _
      by_cases hac : a * c < 2 ^ 63
      · rw [if_pos hac, if_neg (by decide), sh_gL h hq.l hq.k, Option.bind_some, sh_gL h hr.l hr.k, Option.bind_some, h1.2.1, h2.2.1, p_fitProduct b1 d1, Option.bind_some]
        by_cases hbd : b * d < 2 ^ 63
        · rw [if_pos hbd, if_neg (by decide), if_pos ⟨hac, hbd⟩, j1, Option.bind_some, g1, Option.bind_some, if_neg (by decide), sh_gL (sh_wI h) hq.l hq.k, Option.bind_some, sh_gL (sh_wI h) hr.l hr.k, Option.bind_some, sh_gL (sh_wI h) hq.l hq.k, Option.bind_some, sh_gL (sh_wI h) hr.l hr.k, Option.bind_some, sh_op (sh_wI h) hq.l hq.k, Option.bind_some, mL_wI, h1.1, h2.1, h1.2.1, h2.2.1, lN_mul, lN_mul, p_set (sh_wI h) hq hac hbd (Nat.mul_pos b0 d0), Option.bind_some]
          exact ⟨_, rfl, stF_r, (Ch.wI (S := (· = q)) rfl).tr (stF_c rfl)⟩
        · rw [if_neg hbd, if_pos rfl, if_neg (fun e => hbd e.2), j0, Option.bind_some, g0, Option.bind_some, if_pos rfl]
          exact no
      · rw [if_neg hac, if_pos rfl, if_neg (fun e => hac e.1), j0, Option.bind_some, g0, Option.bind_some, if_pos rfl]
        exact no
theorem fmul_ok (o1 : frok y) (o2 : frok z) : frok (fmul y z) := by
  cases y with
  | none => intro a b e; cases e
  | some y =>
    cases z with
    | none => intro a b e; cases e
    | some z =>
      obtain ⟨a, b⟩ := y
      obtain ⟨c, d⟩ := z
      show frok (if a * c < 2 ^ 63 ∧ b * d < 2 ^ 63 then some (low (a * c) (b * d)) else none)
      by_cases hh : a * c < 2 ^ 63 ∧ b * d < 2 ^ 63
      · rw [if_pos hh]
        exact low_ok (Nat.mul_pos (o1 a b rfl).2.2.1 (o2 c d rfl).2.2.1) hh.1 hh.2
      · rw [if_neg hh]
        intro a b e; cases e
theorem fd_pos {b d : Nat} (b0 : 0 < b) (d0 : 0 < d) : 0 < d / Nat.gcd b d := Nat.div_pos (Nat.le_of_dvd d0 (Nat.gcd_dvd_right b d)) (Nat.gcd_pos_of_pos_right b d0)
theorem fadd_ok (o1 : frok y) (o2 : frok z) : frok (fadd y z) := by
  cases y with
  | none => intro a b e; cases e
  | some y =>
    cases z with
    | none => intro a b e; cases e
    | some z =>
      obtain ⟨a, b⟩ := y
      obtain ⟨c, d⟩ := z
      show frok (if (a * (d / Nat.gcd b d) < 2 ^ 63 ∧ c * (b / Nat.gcd b d) < 2 ^ 63 ∧ b * (d / Nat.gcd b d) < 2 ^ 63) ∧ a * (d / Nat.gcd b d) + c * (b / Nat.gcd b d) < 2 ^ 63 then some (low (a * (d / Nat.gcd b d) + c * (b / Nat.gcd b d)) (b * (d / Nat.gcd b d))) else none)
      by_cases hh : (a * (d / Nat.gcd b d) < 2 ^ 63 ∧ c * (b / Nat.gcd b d) < 2 ^ 63 ∧ b * (d / Nat.gcd b d) < 2 ^ 63) ∧ a * (d / Nat.gcd b d) + c * (b / Nat.gcd b d) < 2 ^ 63
      · rw [if_pos hh]
        exact low_ok (Nat.mul_pos (o1 a b rfl).2.2.1 (fd_pos (o1 a b rfl).2.2.1 (o2 c d rfl).2.2.1)) hh.2 hh.1.2.2
      · rw [if_neg hh]
        intro a b e; cases e
theorem fsub_ok (o1 : frok y) (o2 : frok z) : frok (fsub y z) := by
  cases y with
  | none => intro a b e; cases e
  | some y =>
    cases z with
    | none => intro a b e; cases e
    | some z =>
      obtain ⟨a, b⟩ := y
      obtain ⟨c, d⟩ := z
      show frok (if a * (d / Nat.gcd b d) < 2 ^ 63 ∧ c * (b / Nat.gcd b d) < 2 ^ 63 ∧ b * (d / Nat.gcd b d) < 2 ^ 63 then some (low (a * (d / Nat.gcd b d) - c * (b / Nat.gcd b d)) (b * (d / Nat.gcd b d))) else none)
      by_cases hh : a * (d / Nat.gcd b d) < 2 ^ 63 ∧ c * (b / Nat.gcd b d) < 2 ^ 63 ∧ b * (d / Nat.gcd b d) < 2 ^ 63
      · rw [if_pos hh]
        exact low_ok (Nat.mul_pos (o1 a b rfl).2.2.1 (fd_pos (o1 a b rfl).2.2.1 (o2 c d rfl).2.2.1)) (by omega) hh.2.2
      · rw [if_neg hh]
        intro a b e; cases e
theorem fadd_0 {a b : Nat} (o1 : frok (some (a, b))) : fadd (some (a, b)) (some (0, 1)) = some (a, b) := by
  obtain ⟨a1, b1, b0, ab⟩ := o1 a b rfl
  unfold fadd
  simp only [Nat.gcd_one_right, Nat.div_one, Nat.mul_one, Nat.zero_mul, Nat.add_zero]
  rw [if_pos ⟨⟨a1, by omega, b1⟩, a1⟩]
  unfold low
  rw [ab, Nat.div_one, Nat.div_one]
theorem fsub_0 {a b : Nat} (o1 : frok (some (a, b))) : fsub (some (a, b)) (some (0, 1)) = some (a, b) := by
  obtain ⟨a1, b1, b0, ab⟩ := o1 a b rfl
  unfold fsub
  simp only [Nat.gcd_one_right, Nat.div_one, Nat.mul_one, Nat.zero_mul, Nat.sub_zero]
  rw [if_pos ⟨a1, by omega, b1⟩]
  unfold low
  rw [ab, Nat.div_one, Nat.div_one]
end
