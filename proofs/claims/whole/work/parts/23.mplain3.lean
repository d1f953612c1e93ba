/-- the chance of a plain move: kind k, places a, b, told chances c -/
def chP (x : Zt) (w : Nat → Nat) (k a b : Nat) (c : Nat → Nat → Nat) (s t : Nat) : Fq :=
  if k = 0 then cRed x w a s t else if k = 1 then cPro w (nx x s a) (bf x s a) s t else if k = 2 then cPro w (sw x s a b) (sw x s a b) s t else if k = 3 then cTel w c (ns x) s t else cSli x w a s t
/-- what a plain kind asks of its places -/
def okP (x : Zt) (k : Nat) (A B : Int32) (a b : Nat) : Prop := k < 5 ∧ (k ≠ 3 → a < np x ∧ A = nI a) ∧ (k = 2 → b < np x ∧ B = nI b ∧ a ≠ b ∧ zs x a = zs x b)
theorem low_0 {b : Nat} (h : 0 < b) : low 0 b = (0, 1) := by
  unfold low
  rw [Nat.gcd_zero_left, Nat.zero_div, Nat.div_self h]
theorem low_s {b : Nat} (h : 0 < b) : low b b = (1, 1) := by
  unfold low
  rw [Nat.gcd_self, Nat.div_self h]
section
variable {M M' : Mm} {x : Zt} {w : Nat → Nat} {c : Nat → Nat → Nat} {s p t m n k a b : Nat} {A B : Int32}
theorem m_plain (h : Shp M) (hg : GeoM x M) (hw : WtM w M) (hm : m < 10) (hs : s < ns x) (ht : t < ns x) (hk : mm_I M 69 m = nI k) (hA : mm_I M 70 m = A) (hB : mm_I M 71 m = B) (ho : okP x k A B a b) (htd : k = 3 → TdM m c M) : ∃ M', f_X7_plainChance 66 (nI m) (nI s) (nI t) M = some M' ∧ FrM (chP x w k a b c s t) M' ∧ Cu M M' := by
  have hs16 := gz_n hg.1 hs
  have ht16 := gz_n hg.1 ht
  have k1 := hw.1 s
  have k2 := hw.1 t
  obtain ⟨hk5, o1, o2⟩ := ho
  have c1 : Cu M (stM M (low (if s = t then 1 else 0) 1)) := stM_c
  have r1 : FrM (some (low (if s = t then 1 else 0) 1)) (stM M (low (if s = t then 1 else 0) 1)) := stM_r
  unfold f_X7_plainChance
  rw [G_66_6 h, Option.bind_some, A_70 h hm, Option.bind_some, hA, I_66 h, Option.bind_some, i_e (by omega) (by omega), show (if s = t then (1 : Int64) else 0) = lN (if s = t then 1 else 0) from lN_if (a := 1) (b := 0), show f_X7_lay 66 (lN (if s = t then 1 else 0)) 1 M = some (stM M (low (if s = t then 1 else 0) 1)) from m_lay (b := 1) h (by by_cases e : s = t <;> simp [e]) (by decide) (by omega), Option.bind_some]
  have h1 := c1.1 h
  have g1 := hg.cu c1
  have w1 := hw.cu c1
  have hk1 : mm_I (stM M (low (if s = t then 1 else 0) 1)) 69 m = nI k := hk
  have hB1 : mm_I (stM M (low (if s = t then 1 else 0) 1)) 71 m = B := hB
  have td1 : k = 3 → TdM m c (stM M (low (if s = t then 1 else 0) 1)) := fun e => (htd e).cu c1
  generalize stM M (low (if s = t then 1 else 0) 1) = N at c1 r1 h1 g1 w1 hk1 hB1 td1 ⊢
  rw [G_66_5 h1, Option.bind_some, A_69 h1 hm, Option.bind_some, hk1]
  have key : ∀ {C' : Nat}, k ≠ C' → C' < 10 → ¬ nI k = nI C' := fun hne hc e => hne ((nI_eq (by omega) (by omega)).mp e)
  unfold chP
  by_cases e0 : k = 0
  · subst e0
    obtain ⟨ha, rfl⟩ := o1 (by omega)
    have hl := lsum_le (s := s) hw.1 hg.1 ha
    rw [if_pos (show nI 0 = (0 : Int32) from rfl), if_pos rfl, I_66 h1, Option.bind_some, m_sumOfLine h1 g1 w1 hs ha, Option.bind_some]
    unfold cRed
    by_cases z : lsum x w s a = 0
    · rw [z, if_pos (show nI 0 ≤ (0 : Int32) by decide), if_pos rfl]
      exact ⟨N, rfl, r1, c1⟩
    · rw [if_neg (nI_nle (by omega) (by omega)), if_neg z, Option.bind_some, m_isInLine h1 g1 hs ht ha, Option.bind_some]
      simp only [op_jn]
      by_cases q : il x s a (vl x t a) = t
      · rw [if_pos q, if_pos q, if_neg (by decide), G_66_3 h1, Option.bind_some, A_68 h1 ht16, Option.bind_some, w1.2 t ht16, Option.bind_some, nI_l (by omega), nI_l (by omega), m_lay h1 (by omega) (by omega) (by omega), Option.bind_some]
        exact ⟨_, rfl, stM_r, c1.tr stM_c⟩
      · rw [if_neg q, if_neg q, if_pos rfl, Option.bind_some, nI_l (by omega), show f_X7_lay 66 0 (lN (lsum x w s a)) N = some (stM N (low 0 (lsum x w s a))) from m_lay (a := 0) h1 (by omega) (by omega) (by omega), Option.bind_some]
        exact ⟨_, rfl, stM_r, c1.tr stM_c⟩
  · rw [if_neg (show ¬ nI k = (0 : Int32) from key (C' := 0) e0 (by omega)), if_neg e0]
    by_cases e1 : k = 1
    · subst e1
      obtain ⟨ha, rfl⟩ := o1 (by omega)
      have hx1 := gz_9 x hg.1 s hs a ha
      have hx2 := gz_12 x hg.1 s hs a ha
      have n16 := gz_n hg.1 hx1.1
      have b16 := gz_n hg.1 hx1.2
      have hal := al_in (s := s) hw.1
      have q1 := tk_le (w := w) (s := s) (t := nx x s a)
      have q2 := tk_le (w := w) (s := s) (t := bf x s a)
      rw [if_pos (show nI 1 = (1 : Int32) from rfl), if_pos rfl]
      simp only [op_jn, I_66 h1, Option.bind_some, m_next h1 g1 hs ha, m_before h1 g1 hs ha, m_ofTaken h1 w1 hs16, m_takenOf h1 w1 hs16 n16, m_takenOf h1 w1 hs16 b16]
      have la : (nI (al w s)).toInt64 = lN (al w s) := nI_l (by omega)
      have lt1 : (nI (tk w s (nx x s a))).toInt64 = lN (tk w s (nx x s a)) := nI_l (by omega)
      have lt2 : (nI (tk w s (bf x s a))).toInt64 = lN (tk w s (bf x s a)) := nI_l (by omega)
      have la2 : (2 : Int64) * (nI (al w s)).toInt64 = lN (2 * al w s) := by rw [la, show (2 : Int64) = lN 2 from rfl, lN_mul]
      have fin : ∀ z : Nat, z ≤ 2000 → ∃ M', ((f_X7_lay 66 (lN z) (lN (2 * al w s)) N).bind fun z_30 => some z_30) = some M' ∧ FrM (some (low z (2 * al w s))) M' ∧ Cu M M' := fun z hz => by
        rw [m_lay h1 (by omega) (by omega) (by omega), Option.bind_some]
        exact ⟨_, rfl, stM_r, c1.tr stM_c⟩
      rw [la2]
      unfold cPro
      by_cases est : s = t
      · rw [if_pos (show nI s = nI t by rw [est]), lt1, lt2, lN_sub (by omega), lN_sub (by omega), if_neg (fun e => hx2.1 (e.symm.trans est.symm)), if_neg (fun e => hx2.2 (e.symm.trans est.symm)), if_pos est.symm, Nat.zero_add]
        exact fin _ (by omega)
      · rw [if_neg (fun e => est ((nI_eq (by omega) (by omega)).mp e)), if_neg (fun e : t = s => est e.symm), Nat.add_zero]
        by_cases f1 : t = nx x s a
        · rw [if_pos (show nI t = nI (nx x s a) by rw [← f1]), if_pos f1]
          by_cases f2 : t = bf x s a
          · rw [if_pos (show nI t = nI (bf x s a) by rw [← f2]), if_pos f2, nI_add, nI_l (by omega)]
            exact fin _ (by omega)
          · rw [if_neg (fun e => f2 ((nI_eq (by omega) (by omega)).mp e)), if_neg f2, show (0 : Int32) = nI 0 from rfl, nI_add, nI_l (by omega)]
            exact fin _ (by omega)
        · rw [if_neg (fun e => f1 ((nI_eq (by omega) (by omega)).mp e)), if_neg f1]
          by_cases f2 : t = bf x s a
          · rw [if_pos (show nI t = nI (bf x s a) by rw [← f2]), if_pos f2, show (0 : Int32) = nI 0 from rfl, nI_add, nI_l (by omega)]
            exact fin _ (by omega)
          · rw [if_neg (fun e => f2 ((nI_eq (by omega) (by omega)).mp e)), if_neg f2, show (0 : Int32) = nI 0 from rfl, nI_add, nI_l (by omega)]
            exact fin _ (by omega)
    · rw [if_neg (show ¬ nI k = (1 : Int32) from key (C' := 1) e1 (by omega)), if_neg e1]
      by_cases e2 : k = 2
      · subst e2
        obtain ⟨ha, rfl⟩ := o1 (by omega)
        obtain ⟨hb, rfl, hab, hz⟩ := o2 rfl
        have hx1 := (gz_8 x hg.1 s hs a ha b hb hab hz).2.1
        have s16 := gz_n hg.1 hx1
        have hal := al_in (s := s) hw.1
        have q1 := tk_le (w := w) (s := s) (t := sw x s a b)
        rw [if_pos (show nI 2 = (2 : Int32) from rfl), if_pos rfl]
        simp only [op_jn, I_66 h1, Option.bind_some, G_66_7 h1, A_71 h1 hm, hB1, m_swapped h1 g1 hs ha hb hab hz, m_takenOf h1 w1 hs16 s16, m_ofTaken h1 w1 hs16]
        have la : (nI (al w s)).toInt64 = lN (al w s) := nI_l (by omega)
        have lt1 : (nI (tk w s (sw x s a b))).toInt64 = lN (tk w s (sw x s a b)) := nI_l (by omega)
        unfold cPro
        by_cases es : sw x s a b = s
        · rw [if_pos (show nI (sw x s a b) = nI s by rw [es])]
          refine ⟨N, rfl, ?_, c1⟩
          rw [es, tk_self]
          by_cases est : t = s
          · rw [if_pos est, if_pos est, show al w s + al w s + (2 * al w s - al w s - al w s) = 2 * al w s by omega, low_s (by omega)]
            rw [if_pos est.symm] at r1
            exact r1
          · rw [if_neg est, if_neg est, Nat.add_zero, low_0 (by omega)]
            rw [if_neg (fun e => est e.symm)] at r1
            exact r1
        · rw [if_neg (fun e => es ((nI_eq (by omega) (by omega)).mp e)), la, lt1]
          have fin : ∀ z : Nat, z ≤ 2000 → ∃ M', ((f_X7_lay 66 (lN z) (lN (al w s)) N).bind fun z_30 => some z_30) = some M' ∧ FrM (some (low z (al w s))) M' ∧ Cu M M' := fun z hz => by
            rw [m_lay h1 (by omega) (by omega) (by omega), Option.bind_some]
            exact ⟨_, rfl, stM_r, c1.tr stM_c⟩
          by_cases f1 : t = sw x s a b
          · have f2 : ¬ t = s := fun e => es (f1.symm.trans e)
            rw [if_pos (show nI t = nI (sw x s a b) by rw [← f1]), if_pos f1, if_neg f2, Nat.add_zero, show tk w s (sw x s a b) + tk w s (sw x s a b) = 2 * tk w s (sw x s a b) by omega, low_k (by omega)]
            exact fin _ (by omega)
          · rw [if_neg (fun e => f1 ((nI_eq (by omega) (by omega)).mp e)), if_neg f1, Nat.zero_add]
            by_cases f2 : t = s
            · rw [if_pos (show nI t = nI s by rw [f2]), if_pos f2, pk_sub q1, nI_l (by omega), show 2 * al w s - tk w s (sw x s a b) - tk w s (sw x s a b) = 2 * (al w s - tk w s (sw x s a b)) by omega, low_k (by omega)]
              exact fin _ (by omega)
            · rw [if_neg (fun e => f2 ((nI_eq (by omega) (by omega)).mp e)), if_neg f2, low_0 (by omega), ← low_0 (b := al w s) (by omega)]
              exact fin 0 (by omega)
      · rw [if_neg (show ¬ nI k = (2 : Int32) from key (C' := 2) e2 (by omega)), if_neg e2]
        by_cases e3 : k = 3
        · rw [if_pos (show nI k = (3 : Int32) by rw [e3]; rfl), if_pos e3, I_66 h1, Option.bind_some]
          obtain ⟨M3, a1, a2, a3⟩ := m_toldFrom h1 g1 w1 (td1 e3) hm hs ht
          rw [a1, Option.bind_some]
          exact ⟨M3, rfl, a2, c1.tr a3⟩
        · rw [if_neg (show ¬ nI k = (3 : Int32) from key (C' := 3) e3 (by omega)), if_neg e3, G_66_3 h1, Option.bind_some, A_68 h1 hs16, Option.bind_some, w1.2 s hs16]
          obtain ⟨ha, rfl⟩ := o1 e3
          unfold cSli
          by_cases z : w s = 0
          · rw [z, if_pos (show nI 0 ≤ (0 : Int32) by decide), if_pos rfl]
            exact ⟨N, rfl, r1, c1⟩
          · rw [if_neg (nI_nle (by omega) (by omega)), if_neg z, I_66 h1, Option.bind_some, m_lay0 h1, Option.bind_some]
            have c2 : Cu N (stM N (low 0 1)) := stM_c
            have h2 := c2.1 h1
            rw [I_66 h2, Option.bind_some, m_isInLine h2 (g1.cu c2) hs ht ha, Option.bind_some]
            by_cases q : il x s a (vl x t a) = t
            · rw [if_pos q, if_pos q, if_neg (by decide), Option.bind_some, m_sliceChance h2 (g1.cu c2) (w1.cu c2) hs ht ha q z, Option.bind_some]
              exact ⟨_, rfl, stM_r, (c1.tr c2).tr stM_c⟩
            · rw [if_neg q, if_neg q, if_pos rfl]
              have est : s ≠ t := fun e => q (by rw [← e]; exact gz_7 x hg.1 s hs a ha)
              rw [if_neg est]
              exact ⟨_, rfl, stM_r, c1.tr c2⟩
end
