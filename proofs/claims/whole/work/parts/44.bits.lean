def Bm (A : Int32) (f : Nat → Bool) : Prop := ∀ j, A.toBitVec.getLsbD j = f j
theorem Bm_eq {A B : Int32} {f g : Nat → Bool} (h1 : Bm A f) (h2 : Bm B g) (e : f = g) : A = B := by
  subst e
  apply Int32.toBitVec_inj.mp
  exact BitVec.eq_of_getLsbD_eq (fun i _ => (h1 i).trans (h2 i).symm)
theorem Bm_0 : Bm 0 (fun _ => false) := fun j => by
  show (BitVec.ofNat 32 0).getLsbD j = false
  simp
theorem Bm_or {A B : Int32} {f g : Nat → Bool} (h1 : Bm A f) (h2 : Bm B g) : Bm (A ||| B) (fun j => f j || g j) := fun j => by
  have e : (A ||| B).toBitVec = A.toBitVec ||| B.toBitVec := rfl
  rw [e, BitVec.getLsbD_or, h1 j, h2 j]
theorem sh_1 : ∀ j, j < 16 → ((1 : Int32) <<< (nI j &&& 31)).toBitVec = BitVec.twoPow 32 j := by decide
theorem Bm_1 {j : Nat} (hj : j < 16) : Bm ((1 : Int32) <<< (nI j &&& 31)) (fun t => decide (t = j)) := fun t => by
  rw [sh_1 j hj, BitVec.getLsbD_twoPow]
  have : (decide (j < 32)) = true := decide_eq_true (by omega)
  rw [this, Bool.true_and]
  by_cases e : t = j
  · subst e; simp
  · have e2 : ¬ j = t := fun q => e q.symm
    show decide (j = t) = decide (t = j)
    rw [decide_eq_false e, decide_eq_false e2]
theorem Bm_cg {A : Int32} {f g : Nat → Bool} (h : Bm A f) (e : ∀ j, f j = g j) : Bm A g := fun j => (h j).trans (e j)
theorem sh_s : ∀ j, j < 16 → ((nI j &&& 31).toBitVec.smod 32).toNat = j := by decide
theorem Bm_b {A : Int32} {f : Nat → Bool} (h : Bm A f) {j : Nat} (hj : j < 16) : ((A >>> (nI j &&& 31)) &&& (1 : Int32)) = if f j = true then 1 else 0 := by
  have e : (A >>> (nI j &&& 31)).toBitVec = A.toBitVec.sshiftRight j := by
    show A.toBitVec.sshiftRight' ((nI j &&& 31).toBitVec.smod 32) = _
    rw [BitVec.sshiftRight', sh_s j hj]
  have e2 : ((A >>> (nI j &&& 31)) &&& (1 : Int32)).toBitVec = A.toBitVec.sshiftRight j &&& 1#32 := by rw [← e]; rfl
  have key : A.toBitVec.sshiftRight j &&& 1#32 = if f j = true then 1#32 else 0#32 := by
    apply BitVec.eq_of_getLsbD_eq
    intro i hi
    rw [BitVec.getLsbD_and, BitVec.getLsbD_one]
    by_cases ei : i = 0
    · subst ei
      rw [BitVec.getLsbD_sshiftRight]
      simp only [Nat.add_zero]
      have : j + 0 < 32 := by omega
      have k := h j
      cases hf : f j <;> simp [hf, k] <;> omega
    · have : decide (0 = i) = false := decide_eq_false (fun q => ei q.symm)
      cases hf : f j <;> simp [ei]
  apply Int32.toBitVec_inj.mp
  rw [e2, key]
  cases f j <;> rfl
theorem two_odd : ∀ n : Nat, 0 < n → ∃ t m, n = 2 ^ t * (2 * m + 1) := by
  intro n
  induction n using Nat.strongRecOn with
  | ind n ih =>
    intro h
    by_cases e : n % 2 = 1
    · exact ⟨0, n / 2, by omega⟩
    · obtain ⟨t, m, q⟩ := ih (n / 2) (by omega) (by omega)
      refine ⟨t + 1, m, ?_⟩
      rw [Nat.pow_succ, Nat.mul_comm (2 ^ t) 2, Nat.mul_assoc, ← q]
      omega
theorem tb_lo {t m : Nat} (j : Nat) : (2 ^ t * (2 * m + 1)).testBit j = if j < t then false else (2 * m + 1).testBit (j - t) := by
  have := Nat.testBit_two_pow_mul_add (2 * m + 1) (b := 0) (i := t) (Nat.two_pow_pos t) j
  rw [Nat.add_zero] at this
  rw [this, Nat.zero_testBit]
theorem tb_pr {t m : Nat} (j : Nat) : (2 ^ t * (2 * m + 1) - 1).testBit j = if j < t then true else (2 * m).testBit (j - t) := by
  have e : 2 ^ t * (2 * m + 1) - 1 = 2 ^ t * (2 * m) + (2 ^ t - 1) := by
    have := Nat.two_pow_pos t
    rw [Nat.mul_add, Nat.mul_one]
    omega
  have := Nat.testBit_two_pow_mul_add (2 * m) (b := 2 ^ t - 1) (i := t) (by have := Nat.two_pow_pos t; omega) j
  rw [e, this, Nat.testBit_two_pow_sub_one]
  by_cases q : j < t
  · rw [if_pos q, if_pos q, decide_eq_true q]
  · rw [if_neg q, if_neg q]
theorem ntz_a {a t m : Nat} (e : a = 2 ^ t * (2 * m + 1)) : ((nI a ^^^ (-1 : Int32)) &&& (nI a - (1 : Int32))) = nI (2 ^ t - 1) := by
  have hp := Nat.two_pow_pos t
  have h0 : 0 < a := by
    have : 0 < 2 ^ t * (2 * m + 1) := Nat.mul_pos hp (by omega)
    omega
  have e1 : nI a - (1 : Int32) = nI (a - 1) := by
    have : nI a = nI (a - 1) + 1 := by
      have : nI (a - 1) + nI 1 = nI (a - 1 + 1) := (Int32.ofNat_add (a - 1) 1).symm
      rw [show a - 1 + 1 = a by omega] at this
      exact this.symm
    rw [this]
    exact Int32.add_sub_cancel _ _
  rw [e1]
  apply Int32.toBitVec_inj.mp
  show (BitVec.ofNat 32 a ^^^ BitVec.allOnes 32) &&& BitVec.ofNat 32 (a - 1) = BitVec.ofNat 32 (2 ^ t - 1)
  apply BitVec.eq_of_getLsbD_eq
  intro i hi
  rw [BitVec.getLsbD_and, BitVec.getLsbD_xor, BitVec.getLsbD_allOnes, BitVec.getLsbD_ofNat, BitVec.getLsbD_ofNat, BitVec.getLsbD_ofNat, decide_eq_true hi, Bool.true_and, Bool.true_and, Bool.true_and, Nat.testBit_two_pow_sub_one, e, tb_lo, tb_pr]
  by_cases q : i < t
  · rw [if_pos q, if_pos q, decide_eq_true q]; rfl
  · rw [if_neg q, if_neg q, decide_eq_false q]
    obtain ⟨k, rfl⟩ : ∃ k, i = t + k := ⟨i - t, by omega⟩
    rw [show t + k - t = k by omega]
    cases k with
    | zero => simp
    | succ k =>
      rw [Nat.testBit_succ, Nat.testBit_succ, show (2 * m + 1) / 2 = m by omega, show 2 * m / 2 = m by omega]
      cases m.testBit k <;> rfl
theorem pow_lt {t m : Nat} (h : 2 ^ t * (2 * m + 1) < 65536) : t < 16 := by
  by_cases q : t < 16
  · exact q
  · exfalso
    have h1 : 2 ^ 16 ≤ 2 ^ t := Nat.pow_le_pow_right (by decide) (by omega)
    have h2 : 2 ^ t * 1 ≤ 2 ^ t * (2 * m + 1) := Nat.mul_le_mul_left _ (by omega)
    have h3 : (2 : Nat) ^ 16 = 65536 := by decide
    omega
theorem Bm_n {A : Int32} {f : Nat → Bool} (h : Bm A f) (hf : ∀ j, f j = true → j < 16) : ∃ a, a < 65536 ∧ A = nI a ∧ ∀ j, a.testBit j = f j := by
  have e : ∀ j, A.toBitVec.toNat.testBit j = f j := fun j => h j
  refine ⟨A.toBitVec.toNat, ?_, ?_, e⟩
  · have := Nat.lt_pow_two_of_testBit (n := 16) A.toBitVec.toNat (fun i hi => by
      rw [e i]
      cases q : f i with
      | false => rfl
      | true => have := hf i q; omega)
    exact this
  · apply Int32.toBitVec_inj.mp
    show A.toBitVec = BitVec.ofNat 32 A.toBitVec.toNat
    rw [BitVec.ofNat_toNat, BitVec.setWidth_eq]
theorem Bm_d {A B : Int32} {f g : Nat → Bool} (h1 : Bm A f) (h2 : Bm B g) (hf : ∀ j, f j = true → j < 16) : Bm (A &&& (B ^^^ (-1 : Int32))) (fun j => f j && !g j) := fun j => by
  have e : (A &&& (B ^^^ (-1 : Int32))).toBitVec = A.toBitVec &&& (B.toBitVec ^^^ BitVec.allOnes 32) := rfl
  rw [e, BitVec.getLsbD_and, BitVec.getLsbD_xor, BitVec.getLsbD_allOnes, h1 j, h2 j]
  show _ = (f j && !g j)
  by_cases q : f j = true
  · have := hf j q
    rw [decide_eq_true (show j < 32 by omega)]
    cases g j <;> cases f j <;> rfl
  · cases q2 : f j with
    | false => rfl
    | true => exact absurd q2 q
theorem ntz_t : ∀ t, t < 16 → (f_J6_numberOfTrailingZeros_0f7a4 (nI (2 ^ t))) = some (nI t) := by decide +kernel
theorem p_ntz {A : Int32} {f : Nat → Bool} (h : Bm A f) (hf : ∀ j, f j = true → j < 16) (h0 : A ≠ 0) : ∃ t, t < 16 ∧ f t = true ∧ f_J6_numberOfTrailingZeros_0f7a4 A = some (nI t) := by
  obtain ⟨a, ha, rfl, e⟩ := Bm_n h hf
  have hp : 0 < a := by
    by_cases q : a = 0
    · subst q; exact absurd rfl h0
    · omega
  obtain ⟨t, m, q⟩ := two_odd a hp
  have ht : t < 16 := pow_lt (m := m) (by omega)
  refine ⟨t, ht, ?_, ?_⟩
  · rw [← e t, q, tb_lo, if_neg (by omega), Nat.sub_self]
    simp
  · have k := ntz_t t ht
    unfold f_J6_numberOfTrailingZeros_0f7a4 at k ⊢
    rw [ntz_a (a := 2 ^ t) (t := t) (m := 0) (by omega)] at k
    rw [ntz_a q]
    exact k
def cnt (f : Nat → Bool) : Nat → Nat
  | 0 => 0
  | n + 1 => cnt f n + (if f n = true then 1 else 0)
def bc1 (a : Nat) : Nat := a - ((a >>> 1) &&& 1431655765)
def bc2 (a : Nat) : Nat := (bc1 a &&& 858993459) + ((bc1 a >>> 2) &&& 858993459)
def bc3 (a : Nat) : Nat := (bc2 a + (bc2 a >>> 4)) &&& 252645135
def bc4 (a : Nat) : Nat := bc3 a + (bc3 a >>> 8)
def bc5 (a : Nat) : Nat := (bc4 a + (bc4 a >>> 16)) &&& 63
def bpc (a : Nat) : Nat := a % 2 + a / 2 % 2 + a / 4 % 2 + a / 8 % 2 + a / 16 % 2 + a / 32 % 2 + a / 64 % 2 + a / 128 % 2 + a / 256 % 2 + a / 512 % 2 + a / 1024 % 2 + a / 2048 % 2 + a / 4096 % 2 + a / 8192 % 2 + a / 16384 % 2 + a / 32768 % 2
def bck (h l : Nat) : Bool := Nat.beq (bc5 (256 * h + l)) (bpc (256 * h + l))
def bal (p : Nat → Bool) : Nat → Bool
  | 0 => true
  | n + 1 => p n && bal p n
theorem bal_g {p : Nat → Bool} : ∀ {n i : Nat}, bal p n = true → i < n → p i = true
  | 0, i, _, h => absurd h (by omega)
  | n + 1, i, h, hi => by
    have h' : (p n && bal p n) = true := h
    rw [Bool.and_eq_true] at h'
    by_cases e : i = n
    · subst e; exact h'.1
    · exact bal_g h'.2 (by omega)
theorem bal_h {p : Nat → Bool} (n : Nat) (h : bal p n = true) (i : Nat) (hi : i < n) : p i = true := bal_g h hi
theorem bc_t : bal (fun h => bal (bck h) 256) 256 = true := by decide +kernel
theorem bc_a {a : Nat} (h : a < 65536) : bc5 a = bpc a := by
  have k1 : bal (bck (a / 256)) 256 = true := bal_h (p := fun h => bal (bck h) 256) 256 bc_t (a / 256) (by omega)
  have k2 : bck (a / 256) (a % 256) = true := bal_h 256 k1 (a % 256) (by omega)
  have e : Nat.beq (bc5 (256 * (a / 256) + a % 256)) (bpc (256 * (a / 256) + a % 256)) = true := k2
  rw [Nat.div_add_mod] at e
  exact Nat.eq_of_beq_eq_true e
theorem tb_i (a j : Nat) : (if a.testBit j = true then 1 else 0) = a / 2 ^ j % 2 := by
  rw [Nat.testBit_eq_decide_div_mod_eq]
  by_cases q : a / 2 ^ j % 2 = 1
  · rw [decide_eq_true q, q]; rfl
  · rw [decide_eq_false q]
    have : a / 2 ^ j % 2 < 2 := Nat.mod_lt _ (by decide)
    show 0 = _
    omega
theorem cnt_b (a : Nat) : cnt (fun j => a.testBit j) 16 = bpc a := by
  simp only [cnt, tb_i, Nat.zero_add]
  unfold bpc
  simp only [Nat.reducePow, Nat.div_one]
theorem i_and (a b : Nat) : nI a &&& nI b = nI (a &&& b) := by
  apply Int32.toBitVec_inj.mp
  show BitVec.ofNat 32 a &&& BitVec.ofNat 32 b = BitVec.ofNat 32 (a &&& b)
  apply BitVec.eq_of_getLsbD_eq
  intro i hi
  rw [BitVec.getLsbD_and, BitVec.getLsbD_ofNat, BitVec.getLsbD_ofNat, BitVec.getLsbD_ofNat, decide_eq_true hi, Bool.true_and, Bool.true_and, Bool.true_and, Nat.testBit_and]
theorem u_shr {a : Nat} (ha : a < 2 ^ 31) (k : Nat) (K : UInt32) (hk : (K % 32).toNat = k) : ((nI a).toUInt32 >>> K).toInt32 = nI (a >>> k) := by
  apply Int32.toBitVec_inj.mp
  apply BitVec.eq_of_toNat_eq
  have e1 : (nI a).toUInt32.toNat = a := by
    show (BitVec.ofNat 32 a).toNat = a
    rw [BitVec.toNat_ofNat, Nat.mod_eq_of_lt (by omega)]
  have e2 : (((nI a).toUInt32 >>> K).toInt32).toBitVec.toNat = ((nI a).toUInt32 >>> K).toNat := rfl
  have e3 : (nI (a >>> k)).toBitVec.toNat = (a >>> k) % 2 ^ 32 := BitVec.toNat_ofNat ..
  have h2 : a >>> k ≤ a := by rw [Nat.shiftRight_eq_div_pow]; exact Nat.div_le_self _ _
  rw [e2, e3, UInt32.toNat_shiftRight, e1, Nat.mod_eq_of_lt (show a >>> k < 2 ^ 32 by omega)]
  have : K.toNat % 32 = k := by rw [← hk]; rfl
  rw [this]
theorem p_bc {a : Nat} (h : a < 65536) : f_J6_bitCount_0f7a4 (nI a) = some (nI (cnt (fun j => a.testBit j) 16)) := by
  rw [cnt_b, ← bc_a h]
  have q0 : (a >>> 1) &&& 1431655765 ≤ a := Nat.le_trans Nat.and_le_left (by rw [Nat.shiftRight_eq_div_pow]; exact Nat.div_le_self _ _)
  have l1 : bc1 a < 65536 := by unfold bc1; omega
  have l2 : bc2 a < 131072 := by
    have a1 : bc1 a &&& 858993459 ≤ bc1 a := Nat.and_le_left
    have a2 : (bc1 a >>> 2) &&& 858993459 ≤ bc1 a := Nat.le_trans Nat.and_le_left (by rw [Nat.shiftRight_eq_div_pow]; exact Nat.div_le_self _ _)
    unfold bc2
    omega
  have l3 : bc3 a < 262144 := by
    have a1 : bc2 a + (bc2 a >>> 4) &&& 252645135 ≤ bc2 a + (bc2 a >>> 4) := Nat.and_le_left
    have a2 : bc2 a >>> 4 ≤ bc2 a := by rw [Nat.shiftRight_eq_div_pow]; exact Nat.div_le_self _ _
    unfold bc3
    omega
  have l4 : bc4 a < 524288 := by
    have a2 : bc3 a >>> 8 ≤ bc3 a := by rw [Nat.shiftRight_eq_div_pow]; exact Nat.div_le_self _ _
    unfold bc4
    omega
  have s1 : nI a - (((nI a).toUInt32 >>> ((1 : Int32).toUInt32 &&& Int32.toUInt32 31)).toInt32 &&& (1431655765 : Int32)) = nI (bc1 a) := by
    rw [u_shr (by omega) 1 _ rfl, show (1431655765 : Int32) = nI 1431655765 from rfl, i_and]
    have : nI a = nI (bc1 a) + nI ((a >>> 1) &&& 1431655765) := by
      have e : nI (bc1 a) + nI ((a >>> 1) &&& 1431655765) = nI (bc1 a + ((a >>> 1) &&& 1431655765)) := (Int32.ofNat_add _ _).symm
      rw [e]
      congr 1
      unfold bc1
      omega
    rw [this]
    exact Int32.add_sub_cancel _ _
  have ad : ∀ x y, nI x + nI y = nI (x + y) := fun x y => (Int32.ofNat_add x y).symm
  have s2 : (nI (bc1 a) &&& (858993459 : Int32)) + (((nI (bc1 a)).toUInt32 >>> ((2 : Int32).toUInt32 &&& Int32.toUInt32 31)).toInt32 &&& (858993459 : Int32)) = nI (bc2 a) := by
    rw [u_shr (by omega) 2 _ rfl, show (858993459 : Int32) = nI 858993459 from rfl, i_and, i_and, ad]
    rfl
  have s3 : (nI (bc2 a) + ((nI (bc2 a)).toUInt32 >>> ((4 : Int32).toUInt32 &&& Int32.toUInt32 31)).toInt32) &&& (252645135 : Int32) = nI (bc3 a) := by
    rw [u_shr (by omega) 4 _ rfl, ad, show (252645135 : Int32) = nI 252645135 from rfl, i_and]
    rfl
  have s4 : nI (bc3 a) + ((nI (bc3 a)).toUInt32 >>> ((8 : Int32).toUInt32 &&& Int32.toUInt32 31)).toInt32 = nI (bc4 a) := by
    rw [u_shr (by omega) 8 _ rfl, ad]
    rfl
  have s5 : (nI (bc4 a) + ((nI (bc4 a)).toUInt32 >>> ((16 : Int32).toUInt32 &&& Int32.toUInt32 31)).toInt32) &&& (63 : Int32) = nI (bc5 a) := by
    rw [u_shr (by omega) 16 _ rfl, ad, show (63 : Int32) = nI 63 from rfl, i_and]
    rfl
  unfold f_J6_bitCount_0f7a4
  rw [s1, s2, s3, s4, s5]
