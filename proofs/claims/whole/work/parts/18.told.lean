def cX (w : Nat → Nat) (c : Nat → Nat → Nat) (n s t : Nat) : Nat := w t * c t s * sm (c s) n
def cTo (w : Nat → Nat) (c : Nat → Nat → Nat) (n s t : Nat) : Nat × Nat :=
  if c s t = 0 then low 0 1 else if w s = 0 then low (c s t) (sm (c s) n) else if cX w c n s t = 0 then low 0 1 else if cX w c n s t < cX w c n t s then low (c s t * cX w c n s t) (sm (c s) n * cX w c n t s) else low (c s t) (sm (c s) n)
def cTl (w : Nat → Nat) (c : Nat → Nat → Nat) (n s : Nat) : Nat → Fq
  | 0 => some (1, 1)
  | u + 1 => if u = s then cTl w c n s u else fsub (cTl w c n s u) (some (cTo w c n s u))
def cTel (w : Nat → Nat) (c : Nat → Nat → Nat) (n s t : Nat) : Fq := if s = t then cTl w c n s n else some (cTo w c n s t)
theorem sm_mo {f : Nat → Nat} : ∀ {n i : Nat}, i < n → f i ≤ sm f n
  | 0, _, h => absurd h (by omega)
  | n + 1, i, h => by
    show f i ≤ sm f n + f n
    by_cases e : i = n
    · subst e; omega
    · have := sm_mo (f := f) (show i < n by omega)
      omega
section
variable {w : Nat → Nat} {c : Nat → Nat → Nat} {n s t u : Nat}
theorem cS_le (hc : ∀ s t, c s t ≤ 100) (hn : n ≤ 16) : sm (c s) n ≤ 1600 := by
  have := sm_le (f := c s) (b := 100) (fun i => hc s i) n
  have : n * 100 ≤ 16 * 100 := Nat.mul_le_mul_right 100 hn
  omega
theorem cX_le (hw : ∀ s, w s ≤ 1000) (hc : ∀ s t, c s t ≤ 100) (hn : n ≤ 16) : cX w c n s t ≤ 160000000 := by
  have h1 : w t * c t s ≤ 1000 * 100 := Nat.mul_le_mul (hw t) (hc t s)
  have h2 : w t * c t s * sm (c s) n ≤ 1000 * 100 * 1600 := Nat.mul_le_mul h1 (cS_le hc hn)
  exact h2
theorem cp1 (hw : ∀ s, w s ≤ 1000) (hc : ∀ s t, c s t ≤ 100) (hn : n ≤ 16) : c s t * cX w c n s t ≤ 16000000000 := Nat.mul_le_mul (hc s t) (cX_le hw hc hn)
theorem cp2 (hw : ∀ s, w s ≤ 1000) (hc : ∀ s t, c s t ≤ 100) (hn : n ≤ 16) : sm (c s) n * cX w c n t s ≤ 256000000000 := Nat.mul_le_mul (cS_le hc hn) (cX_le hw hc hn)
theorem cS_pos (ht : t < n) (h : c s t ≠ 0) : 0 < sm (c s) n := by
  have := sm_mo (f := c s) ht
  omega
theorem cTo_ok (hw : ∀ s, w s ≤ 1000) (hc : ∀ s t, c s t ≤ 100) (hn : n ≤ 16) (ht : t < n) : frok (some (cTo w c n s t)) := by
  have h1 := hc s t
  have h2 := cS_le (s := s) hc hn
  unfold cTo
  by_cases e1 : c s t = 0
  · rw [if_pos e1]; exact low_ok (by omega) (by omega) (by omega)
  · have h3 := cS_pos ht e1
    rw [if_neg e1]
    by_cases e2 : w s = 0
    · rw [if_pos e2]; exact low_ok h3 (by omega) (by omega)
    · rw [if_neg e2]
      by_cases e3 : cX w c n s t = 0
      · rw [if_pos e3]; exact low_ok (by omega) (by omega) (by omega)
      · rw [if_neg e3]
        by_cases e4 : cX w c n s t < cX w c n t s
        · rw [if_pos e4]
          have k1 := cp1 (s := s) (t := t) hw hc hn
          have k2 := cp2 (s := s) (t := t) hw hc hn
          exact low_ok (Nat.mul_pos h3 (by omega)) (by omega) (by omega)
        · rw [if_neg e4]; exact low_ok h3 (by omega) (by omega)
theorem low_le {a b k l : Nat} (hb : 0 < b) (h : a * k ≤ l * b) : (low a b).1 * k ≤ l * (low a b).2 := by
  have hg : 0 < Nat.gcd a b := Nat.gcd_pos_of_pos_right a hb
  obtain ⟨a', ha⟩ := Nat.gcd_dvd_left a b
  obtain ⟨b', hb'⟩ := Nat.gcd_dvd_right a b
  have e1 : (low a b).1 = a' := by show a / Nat.gcd a b = a'; exact Nat.div_eq_of_eq_mul_right hg ha
  have e2 : (low a b).2 = b' := by show b / Nat.gcd a b = b'; exact Nat.div_eq_of_eq_mul_right hg hb'
  rw [e1, e2]
  refine Nat.le_of_mul_le_mul_left ?_ hg
  calc Nat.gcd a b * (a' * k) = a * k := by rw [← Nat.mul_assoc, ← ha]
    _ ≤ l * b := h
    _ = Nat.gcd a b * (l * b') := by rw [Nat.mul_left_comm, ← hb']
theorem low_ge {a b k l : Nat} (hb : 0 < b) (h : b * l ≤ a * k) : (low a b).2 * l ≤ (low a b).1 * k := by
  have hg : 0 < Nat.gcd a b := Nat.gcd_pos_of_pos_right a hb
  obtain ⟨a', ha⟩ := Nat.gcd_dvd_left a b
  obtain ⟨b', hb'⟩ := Nat.gcd_dvd_right a b
  have e1 : (low a b).1 = a' := by show a / Nat.gcd a b = a'; exact Nat.div_eq_of_eq_mul_right hg ha
  have e2 : (low a b).2 = b' := by show b / Nat.gcd a b = b'; exact Nat.div_eq_of_eq_mul_right hg hb'
  rw [e1, e2]
  refine Nat.le_of_mul_le_mul_left ?_ hg
  calc Nat.gcd a b * (b' * l) = b * l := by rw [← Nat.mul_assoc, ← hb']
    _ ≤ a * k := h
    _ = Nat.gcd a b * (a' * k) := by rw [← Nat.mul_assoc, ← ha]
/-- the chance of t is at most c / C -/
theorem cTo_le (ht : t < n) : (cTo w c n s t).1 * sm (c s) n ≤ c s t * (cTo w c n s t).2 := by
  unfold cTo
  have h0 : (low 0 1).1 * sm (c s) n ≤ c s t * (low 0 1).2 := by
    show 0 / Nat.gcd 0 1 * sm (c s) n ≤ _
    rw [Nat.zero_div, Nat.zero_mul]; exact Nat.zero_le _
  by_cases e1 : c s t = 0
  · rw [if_pos e1]; exact h0
  · have h3 := cS_pos ht e1
    rw [if_neg e1]
    by_cases e2 : w s = 0
    · rw [if_pos e2]; exact low_le h3 (Nat.le_refl _)
    · rw [if_neg e2]
      by_cases e3 : cX w c n s t = 0
      · rw [if_pos e3]; exact h0
      · rw [if_neg e3]
        by_cases e4 : cX w c n s t < cX w c n t s
        · rw [if_pos e4]
          refine low_le (Nat.mul_pos h3 (by omega)) ?_
          have h5 : c s t * cX w c n s t ≤ c s t * cX w c n t s := Nat.mul_le_mul_left _ (by omega)
          calc c s t * cX w c n s t * sm (c s) n ≤ c s t * cX w c n t s * sm (c s) n := Nat.mul_le_mul_right _ h5
            _ = c s t * (sm (c s) n * cX w c n t s) := by rw [Nat.mul_assoc, Nat.mul_comm (cX w c n t s)]
        · rw [if_neg e4]; exact low_le h3 (Nat.le_refl _)
/-- what the others before u have in c -/
def cT (c : Nat → Nat → Nat) (s : Nat) : Nat → Nat
  | 0 => 0
  | u + 1 => if u = s then cT c s u else cT c s u + c s u
theorem cT_le : ∀ u, cT c s u ≤ sm (c s) u
  | 0 => Nat.le_refl 0
  | u + 1 => by
    have := cT_le u
    show (if u = s then cT c s u else cT c s u + c s u) ≤ sm (c s) u + c s u
    by_cases e : u = s
    · rw [if_pos e]; omega
    · rw [if_neg e]; omega
theorem sm_up {f : Nat → Nat} : ∀ {n u : Nat}, u ≤ n → sm f u ≤ sm f n
  | 0, u, h => by rw [show u = 0 by omega]; exact Nat.le_refl _
  | n + 1, u, h => by
    by_cases e : u = n + 1
    · rw [e]; exact Nat.le_refl _
    · have := sm_up (f := f) (show u ≤ n by omega)
      show sm f u ≤ sm f n + f n
      omega
/-- one step of 1 less the others: it stays at or above what the rest has -/
theorem fsub_in {a b p q C T k a' b' : Nat} (hb : 0 < b) (hq : 0 < q) (h1 : b * C ≤ a * C + b * T) (hk : T + k ≤ C) (h2 : p * C ≤ k * q) (hC0 : C = 0 → p = 0) :
    p * (b / Nat.gcd b q) ≤ a * (q / Nat.gcd b q) ∧ (fsub (some (a, b)) (some (p, q)) = some (a', b') → b' * C ≤ a' * C + b' * (T + k)) := by
  have hg : 0 < Nat.gcd b q := Nat.gcd_pos_of_pos_right b hq
  obtain ⟨b1, hb1⟩ := Nat.gcd_dvd_left b q
  obtain ⟨q1, hq1⟩ := Nat.gcd_dvd_right b q
  have e1 : b / Nat.gcd b q = b1 := Nat.div_eq_of_eq_mul_right hg hb1
  have e2 : q / Nat.gcd b q = q1 := Nat.div_eq_of_eq_mul_right hg hq1
  have hb1p : 0 < b1 := by rw [← e1]; exact Nat.div_pos (Nat.le_of_dvd hb (Nat.gcd_dvd_left b q)) hg
  have hq1p : 0 < q1 := by rw [← e2]; exact Nat.div_pos (Nat.le_of_dvd hq (Nat.gcd_dvd_right b q)) hg
  have hx : b * q1 = q * b1 := by rw [hb1, Nat.mul_assoc, Nat.mul_comm b1 q1, ← Nat.mul_assoc, ← hq1]
  -- a C >= b k
  have h3 : b * k ≤ a * C := by
    have : b * (T + k) ≤ b * C := Nat.mul_le_mul_left b hk
    rw [Nat.mul_add] at this
    omega
  have h4 : p * b1 ≤ a * q1 := by
    rcases Nat.eq_zero_or_pos C with hC | hC
    · have hp : p = 0 := hC0 hC
      rw [hp, Nat.zero_mul]; exact Nat.zero_le _
    · refine Nat.le_of_mul_le_mul_left ?_ (Nat.mul_pos hC hq)
      calc C * q * (p * b1) = (p * C) * (q * b1) := by
            simp only [Nat.mul_comm, Nat.mul_left_comm, Nat.mul_assoc]
        _ ≤ (k * q) * (q * b1) := Nat.mul_le_mul_right _ h2
        _ = (b * k) * (q * q1) := by rw [← hx]; simp only [Nat.mul_comm, Nat.mul_left_comm, Nat.mul_assoc]
        _ ≤ (a * C) * (q * q1) := Nat.mul_le_mul_right _ h3
        _ = C * q * (a * q1) := by simp only [Nat.mul_comm, Nat.mul_left_comm, Nat.mul_assoc]
  refine ⟨by rw [e1, e2]; exact h4, fun hf => ?_⟩
  unfold fsub at hf
  simp only [e1, e2] at hf
  by_cases hh : a * q1 < 2 ^ 63 ∧ p * b1 < 2 ^ 63 ∧ b * q1 < 2 ^ 63
  · rw [if_pos hh] at hf
    have hf := Option.some.inj hf
    have hB : 0 < b * q1 := Nat.mul_pos hb hq1p
    -- (b q1) (C - (T + k)) <= (a q1 - p b1) C
    have h5 : b * q1 * C ≤ (a * q1 - p * b1) * C + b * q1 * (T + k) := by
      have i1 : b * q1 * C ≤ a * q1 * C + b * q1 * T := by
        have := Nat.mul_le_mul_left q1 h1
        calc b * q1 * C = q1 * (b * C) := by simp only [Nat.mul_comm, Nat.mul_left_comm]
          _ ≤ q1 * (a * C + b * T) := this
          _ = a * q1 * C + b * q1 * T := by rw [Nat.mul_add]; simp only [Nat.mul_comm, Nat.mul_left_comm]
      have i2 : p * b1 * C ≤ b * q1 * k := by
        calc p * b1 * C = b1 * (p * C) := by simp only [Nat.mul_comm, Nat.mul_left_comm]
          _ ≤ b1 * (k * q) := Nat.mul_le_mul_left b1 h2
          _ = k * (q * b1) := by simp only [Nat.mul_comm, Nat.mul_left_comm]
          _ = b * q1 * k := by rw [← hx]; simp only [Nat.mul_comm, Nat.mul_left_comm]
      have i3 : (a * q1 - p * b1) * C = a * q1 * C - p * b1 * C := Nat.sub_mul _ _ _
      have i4 : p * b1 * C ≤ a * q1 * C := Nat.mul_le_mul_right C h4
      rw [i3, Nat.mul_add]
      omega
    have h6 : b * q1 * (C - (T + k)) ≤ (a * q1 - p * b1) * C := by
      rw [Nat.mul_sub]
      omega
    have h7 := low_ge (a := a * q1 - p * b1) (b := b * q1) hB h6
    rw [hf] at h7
    have h8 : b' * (C - (T + k)) ≤ a' * C := h7
    have h9 : b' * C = b' * (C - (T + k)) + b' * (T + k) := by rw [← Nat.mul_add]; congr 1; omega
    omega
  · rw [if_neg hh] at hf
    cases hf
theorem cTo_0 (ht : t < n) (h : sm (c s) n = 0) : (cTo w c n s t).1 = 0 := by
  have h1 : c s t = 0 := by
    have := sm_mo (f := c s) ht
    omega
  unfold cTo
  rw [if_pos h1]
  show 0 / Nat.gcd 0 1 = 0
  rw [Nat.zero_div]
theorem cTl_in (hw : ∀ s, w s ≤ 1000) (hc : ∀ s t, c s t ≤ 100) (hn : n ≤ 16) : ∀ u, u ≤ n → frok (cTl w c n s u) ∧ ∀ a b, cTl w c n s u = some (a, b) → b * sm (c s) n ≤ a * sm (c s) n + b * cT c s u
  | 0, _ => ⟨fun a b e => by cases e; decide, fun a b e => by cases e; show 1 * sm (c s) n ≤ 1 * sm (c s) n + 1 * 0; omega⟩
  | u + 1, hu => by
    obtain ⟨i1, i2⟩ := cTl_in hw hc hn u (by omega)
    by_cases e : u = s
    · have e1 : cTl w c n s (u + 1) = cTl w c n s u := if_pos e
      have e2 : cT c s (u + 1) = cT c s u := if_pos e
      rw [e1, e2]
      exact ⟨i1, i2⟩
    · have e1 : cTl w c n s (u + 1) = fsub (cTl w c n s u) (some (cTo w c n s u)) := if_neg e
      have e2 : cT c s (u + 1) = cT c s u + c s u := if_neg e
      rw [e1, e2]
      have hok := cTo_ok (s := s) hw hc hn (show u < n by omega)
      refine ⟨fsub_ok i1 hok, fun a b hf => ?_⟩
      cases hy : cTl w c n s u with
      | none => rw [hy] at hf; cases hf
      | some y =>
        obtain ⟨a0, b0⟩ := y
        rw [hy] at hf i1
        have hk : cT c s u + c s u ≤ sm (c s) n := by
          have h1 := cT_le (c := c) (s := s) u
          have h2 : sm (c s) (u + 1) ≤ sm (c s) n := sm_up (by omega)
          have h3 : sm (c s) (u + 1) = sm (c s) u + c s u := rfl
          omega
        exact (fsub_in (i1 a0 b0 rfl).2.2.1 (hok _ _ rfl).2.2.1 (i2 a0 b0 hy) hk (cTo_le (by omega)) (cTo_0 (by omega))).2 hf
theorem cTl_nn (hw : ∀ s, w s ≤ 1000) (hc : ∀ s t, c s t ≤ 100) (hn : n ≤ 16) (hu : u < n) (hus : u ≠ s) : ∀ a b p q, cTl w c n s u = some (a, b) → some (cTo w c n s u) = some (p, q) → p * (b / Nat.gcd b q) ≤ a * (q / Nat.gcd b q) := by
  intro a b p q e1 e2
  obtain ⟨i1, i2⟩ := cTl_in (s := s) hw hc hn u (by omega)
  have hok := cTo_ok (s := s) hw hc hn hu
  have hk : cT c s u + c s u ≤ sm (c s) n := by
    have h1 := cT_le (c := c) (s := s) u
    have h2 : sm (c s) (u + 1) ≤ sm (c s) n := sm_up (by omega)
    have h3 : sm (c s) (u + 1) = sm (c s) u + c s u := rfl
    omega
  have e3 := Option.some.inj e2
  have k1 := cTo_le (w := w) (c := c) (s := s) hu
  have k2 := cTo_0 (w := w) (c := c) (s := s) hu
  rw [e3] at k1 k2
  exact (fsub_in (a' := 0) (b' := 0) (i1 a b e1).2.2.1 (hok p q e2).2.2.1 (i2 a b e1) hk k1 k2).1
end
