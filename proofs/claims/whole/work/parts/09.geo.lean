abbrev Zt : Type := Nat × Nat × Nat × Nat
def OKZ : List Zt := [(2, 0, 0, 0), (2, 2, 0, 0), (2, 2, 2, 0), (2, 2, 2, 2), (2, 2, 3, 0), (2, 2, 4, 0), (2, 3, 0, 0), (2, 3, 2, 0), (2, 4, 0, 0), (2, 4, 2, 0), (2, 5, 0, 0), (2, 6, 0, 0), (3, 0, 0, 0), (3, 2, 0, 0), (3, 2, 2, 0), (3, 3, 0, 0), (3, 4, 0, 0), (3, 5, 0, 0), (4, 0, 0, 0), (4, 2, 0, 0), (4, 2, 2, 0), (4, 3, 0, 0), (4, 4, 0, 0), (5, 0, 0, 0), (5, 2, 0, 0), (5, 3, 0, 0), (6, 0, 0, 0), (6, 2, 0, 0)]
def zs (x : Zt) (p : Nat) : Nat := match p with
  | 0 => x.1
  | 1 => x.2.1
  | 2 => x.2.2.1
  | 3 => x.2.2.2
  | _ => 0
def zm (n : Nat) : Nat := if n = 0 then 1 else n
def np (x : Zt) : Nat := if x.2.1 = 0 then 1 else if x.2.2.1 = 0 then 2 else if x.2.2.2 = 0 then 3 else 4
def sd (x : Zt) (p : Nat) : Nat := match p with
  | 0 => zm x.2.1 * zm x.2.2.1 * zm x.2.2.2
  | 1 => zm x.2.2.1 * zm x.2.2.2
  | 2 => zm x.2.2.2
  | _ => 1
def ns (x : Zt) : Nat := zm x.1 * zm x.2.1 * zm x.2.2.1 * zm x.2.2.2
def vl (x : Zt) (s p : Nat) : Nat := s / sd x p % zm (zs x p)
def il (x : Zt) (s p v : Nat) : Nat := s + v * sd x p - vl x s p * sd x p
theorem gz_1 : ∀ x ∈ OKZ, 2 ≤ ns x ∧ ns x ≤ 16 ∧ 1 ≤ np x ∧ np x ≤ 4 := by decide +kernel
theorem gz_2 : ∀ x ∈ OKZ, ∀ p, p < np x → 2 ≤ zs x p ∧ zs x p ≤ 6 ∧ 1 ≤ sd x p ∧ sd x p ≤ 8 := by decide +kernel
theorem gz_3 : ∀ x ∈ OKZ, ∀ p, p < 4 → np x ≤ p → zs x p = 0 := by decide +kernel
theorem gz_4 : ∀ x ∈ OKZ, ∀ s, s < 16 → ∀ p, p < 4 → vl x s p < zm (zs x p) ∧ vl x s p * sd x p ≤ s := by decide +kernel
theorem gz_5 : ∀ x ∈ OKZ, ∀ s, s < ns x → ∀ p, p < np x → ∀ v, v < zs x p → il x s p v < ns x ∧ vl x (il x s p v) p = v := by decide +kernel
theorem gz_6 : ∀ x ∈ OKZ, ∀ s, s < ns x → ∀ a, a < np x → ∀ b, b < np x → a ≠ b → zs x a = zs x b → vl x (il x s a (vl x s b)) b = vl x s b := by decide +kernel
theorem gz_7 : ∀ x ∈ OKZ, ∀ s, s < ns x → ∀ p, p < np x → il x s p (vl x s p) = s := by decide +kernel
theorem zm_pos {n : Nat} (h : 0 < n) : zm n = n := by unfold zm; rw [if_neg (by omega)]
section
variable {x : Zt} {s p v : Nat}
theorem gz_n (hx : x ∈ OKZ) (hs : s < ns x) : s < 16 := Nat.lt_of_lt_of_le hs (gz_1 x hx).2.1
theorem gz_p (hx : x ∈ OKZ) (hp : p < np x) : p < 4 := Nat.lt_of_lt_of_le hp (gz_1 x hx).2.2.2
theorem gz_v (hx : x ∈ OKZ) (hs : s < 16) (hp : p < np x) : vl x s p < zs x p := by
  have h := (gz_4 x hx s hs p (gz_p hx hp)).1
  rw [zm_pos (by have := (gz_2 x hx p hp).1; omega)] at h
  exact h
end
theorem i_il {s v u d : Nat} (h : u * d ≤ s + v * d) : nI s + (nI v - nI u) * nI d = nI (s + v * d - u * d) := by
  rw [← pk_sub h, ← nI_add, ← pk_mul, ← pk_mul, Int32.sub_mul, Int32.sub_eq_add_neg, Int32.sub_eq_add_neg, Int32.add_assoc]
def sm (f : Nat → Nat) : Nat → Nat
  | 0 => 0
  | n + 1 => sm f n + f n
theorem sm_le {f : Nat → Nat} {b : Nat} (h : ∀ i, f i ≤ b) : ∀ n, sm f n ≤ n * b
  | 0 => by simp [sm]
  | n + 1 => by
    have := sm_le h n
    have := h n
    simp only [sm, Nat.succ_mul]
    omega
