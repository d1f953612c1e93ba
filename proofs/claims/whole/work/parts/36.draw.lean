def dn (x : Nat) : Nat := (x * 25214903917 + 11) % 281474976710656
def dv (x n : Nat) : Nat := dn x / 131072 % n
theorem dn_lt {x : Nat} : dn x < 281474976710656 := Nat.mod_lt _ (by decide)
theorem d_mask (n : Nat) : lN n &&& (281474976710655 : Int64) = lN (n % 281474976710656) := by
  apply Int64.toBitVec_inj.mp
  apply BitVec.eq_of_toNat_eq
  have h1 : (lN n &&& (281474976710655 : Int64)).toBitVec = BitVec.ofNat 64 n &&& BitVec.ofNat 64 281474976710655 := rfl
  have h2 : (lN (n % 281474976710656)).toBitVec = BitVec.ofNat 64 (n % 281474976710656) := rfl
  rw [h1, h2, BitVec.toNat_and, BitVec.toNat_ofNat, BitVec.toNat_ofNat, BitVec.toNat_ofNat]
  rw [show (281474976710655 % 2 ^ 64) = 2 ^ 48 - 1 by decide, Nat.and_two_pow_sub_one_eq_mod]
  have e : (281474976710656 : Nat) = 2 ^ 48 := by decide
  rw [e, Nat.mod_mod_of_dvd n (show 2 ^ 48 ∣ 2 ^ 64 by decide), Nat.mod_eq_of_lt (a := n % 2 ^ 48) (Nat.lt_trans (Nat.mod_lt n (by decide)) (by decide))]
theorem d_seed (z : Int64) : ∃ n, n < 281474976710656 ∧ z &&& (281474976710655 : Int64) = lN n := by
  refine ⟨z.toBitVec.toNat % 281474976710656, Nat.mod_lt _ (by decide), ?_⟩
  have e : z = lN z.toBitVec.toNat := by
    apply Int64.toBitVec_inj.mp
    show z.toBitVec = BitVec.ofNat 64 z.toBitVec.toNat
    rw [BitVec.ofNat_toNat, BitVec.setWidth_eq]
  rw [e, d_mask, ← e]
theorem d_shr {a : Nat} (h : a < 2 ^ 62) : lN a >>> ((17 : Int32).toInt64 &&& 63) = lN (a / 131072) := by
  have hd : a / 131072 ≤ a := Nat.div_le_self _ _
  apply Int64.toInt_inj.mp
  have e : (lN a >>> ((17 : Int32).toInt64 &&& 63)).toInt = (lN a).toInt >>> 17 := BitVec.toInt_sshiftRight ..
  rw [e, Int.shiftRight_eq_div_pow, pk_lT (by omega), pk_lT (by omega)]
  rfl
theorem d_step {x : Nat} : (lN x * (25214903917 : Int64) + (11 : Int64)) &&& (281474976710655 : Int64) = lN (dn x) := by
  rw [show (25214903917 : Int64) = lN 25214903917 from rfl, show (11 : Int64) = lN 11 from rfl, lN_mul, lN_add, d_mask]
  rfl
def Cx (M M' : Mm) : Prop := (Shp M → Shp M') ∧ (∀ a k, ¬ (a = 64 ∧ k = 4) → mm_I M' a k = mm_I M a k) ∧ ∀ a k, ¬ (a = 64 ∧ k = 5) → mm_L M' a k = mm_L M a k
def RuC (x : Nat) (r : Int32) (M : Mm) : Prop := x < 281474976710656 ∧ mm_L M 64 5 = lN x ∧ mm_I M 64 4 = r
def Cy (M M' : Mm) : Prop := (Shp M → Shp M') ∧ (∀ a k, ¬ (a = 66 ∧ k = 19) → mm_I M' a k = mm_I M a k) ∧ ∀ a k, ¬ (a = 66 ∧ k = 20) → mm_L M' a k = mm_L M a k
def RuM (x : Nat) (r : Int32) (M : Mm) : Prop := x < 281474976710656 ∧ mm_L M 66 20 = lN x ∧ mm_I M 66 19 = r
/-- the first place at which the sum up to it is above d -/
def fi (f : Nat → Nat) (d : Nat) : Nat → Nat → Nat
  | 0, i => i
  | n + 1, i => if d < sm f (i + 1) then i else fi f d n (i + 1)
section
variable {M M' M'' : Mm} {x n : Nat} {r : Int32}
theorem Cx.rf : Cx M M := ⟨id, fun _ _ _ => rfl, fun _ _ _ => rfl⟩
theorem Cx.tr (h : Cx M M') (h' : Cx M' M'') : Cx M M'' := ⟨fun z => h'.1 (h.1 z), fun a k q => (h'.2.1 a k q).trans (h.2.1 a k q), fun a k q => (h'.2.2 a k q).trans (h.2.2 a k q)⟩
theorem Cy.rf : Cy M M := ⟨id, fun _ _ _ => rfl, fun _ _ _ => rfl⟩
theorem Cy.tr (h : Cy M M') (h' : Cy M' M'') : Cy M M'' := ⟨fun z => h'.1 (h.1 z), fun a k q => (h'.2.1 a k q).trans (h.2.1 a k q), fun a k q => (h'.2.2 a k q).trans (h.2.2 a k q)⟩
theorem p_draw (h : Shp M) (hu : RuC x r M) (hn : 0 < n) (hn2 : n < 2 ^ 62) : ∃ M', f_X5_draw 64 (lN n) M = some (lN (dv x n), M') ∧ RuC (dn x) r M' ∧ Cx M M' := by
  have hlt := dn_lt (x := x)
  have hq : dn x / 131072 ≤ dn x := Nat.div_le_self _ _
  unfold f_X5_draw
  rw [G_64_5 h, Option.bind_some, hu.2.1, d_step, P_64_5 h, Option.bind_some, if_neg (show ¬ lN n ≤ (0 : Int64) by rw [l0, pk_lLE (by omega) (by decide)]; omega), G_64_5 (sh_wL h), Option.bind_some, if_neg (fun q => by have := (ln_eq0 (by omega)).mp q; omega), mL_wL, if_pos ⟨rfl, rfl⟩, d_shr (by omega), pk_lRem (by omega) hn (by omega)]
  exact ⟨_, rfl, ⟨hlt, by rw [mL_wL, if_pos ⟨rfl, rfl⟩], hu.2.2⟩, ⟨fun z => z, fun _ _ _ => rfl, fun a k q => by rw [mL_wL, if_neg q]⟩⟩
theorem m_draw (h : Shp M) (hu : RuM x r M) (hn : 0 < n) (hn2 : n < 2 ^ 62) : ∃ M', f_X7_draw 66 (lN n) M = some (lN (dv x n), M') ∧ RuM (dn x) r M' ∧ Cy M M' := by
  have hlt := dn_lt (x := x)
  have hq : dn x / 131072 ≤ dn x := Nat.div_le_self _ _
  unfold f_X7_draw
  rw [G_66_20 h, Option.bind_some, hu.2.1, d_step, P_66_20 h, Option.bind_some, G_66_20 (sh_wL h), Option.bind_some, if_neg (fun q => by have := (ln_eq0 (by omega)).mp q; omega), mL_wL, if_pos ⟨rfl, rfl⟩, d_shr (by omega), pk_lRem (by omega) hn (by omega)]
  exact ⟨_, rfl, ⟨hlt, by rw [mL_wL, if_pos ⟨rfl, rfl⟩], hu.2.2⟩, ⟨fun z => z, fun _ _ _ => rfl, fun a k q => by rw [mL_wL, if_neg q]⟩⟩
theorem dv_lt (hn : 0 < n) : dv x n < n := Nat.mod_lt _ hn
theorem fi_lt {f : Nat → Nat} {d N : Nat} (hd : d < sm f N) : ∀ n i, i + n = N → 0 < n → fi f d n i < N
  | 0, i, _, h => absurd h (by omega)
  | n + 1, i, e, _ => by
    show (if d < sm f (i + 1) then i else fi f d n (i + 1)) < N
    by_cases q : d < sm f (i + 1)
    · rw [if_pos q]; omega
    · rw [if_neg q]
      cases n with
      | zero =>
        exfalso
        rw [show i + 1 = N by omega] at q
        exact q hd
      | succ n => exact fi_lt hd (n + 1) (i + 1) (by omega) (by omega)
end
