def GeoM (x : Zt) (M : Mm) : Prop := x ∈ OKZ ∧ mm_I M 66 0 = nI (np x) ∧ mm_I M 66 2 = nI (ns x) ∧ ∀ p, p < 4 → mm_I M 67 p = nI (zs x p)
def WtM (w : Nat → Nat) (M : Mm) : Prop := (∀ s, w s ≤ 1000) ∧ ∀ s, s < 16 → mm_I M 68 s = nI (w s)
def pd (x : Zt) (p : Nat) : Nat → Nat
  | 0 => 1
  | j + 1 => zs x (p + j + 1) * pd x p j
theorem gz_10 : ∀ x ∈ OKZ, ∀ p, p < np x → pd x p (np x - 1 - p) = sd x p := by decide +kernel
theorem gz_11 : ∀ x ∈ OKZ, ∀ s, s < ns x → ∀ p, p < np x → (vl x s p + 1) % zs x p = (if zs x p ≤ vl x s p + 1 then 0 else vl x s p + 1) ∧ (vl x s p + zs x p - 1) % zs x p = (if vl x s p = 0 then zs x p - 1 else vl x s p - 1) := by decide +kernel
section
variable {M : Mm} {x : Zt} {w : Nat → Nat} {s p v t : Nat}
theorem m_isIn {a b c : Nat} (h1 : a ≤ b) (h2 : b ≤ c) (hc : c < 2 ^ 31) : f_X7_isIn (nI b) (nI a) (nI c) = some 1 := by
  unfold f_X7_isIn
  rw [if_neg (nI_nlt h1 (by omega)), if_neg (nI_nlt h2 hc)]
theorem rz_1 : op_rz 1 = some 1 := rfl
theorem rz_0 : op_rz 0 = some 0 := rfl
theorem m_isState (h : Shp M) (hg : GeoM x M) (hs : s < ns x) : f_X7_isState 66 (nI s) M = some 1 := by
  have h16 := (gz_1 x hg.1).2.1
  unfold f_X7_isState
  rw [G_66_2 h, Option.bind_some, hg.2.2.1, show (1 : Int32) = nI 1 from rfl, pk_sub (by omega), show (0 : Int32) = nI 0 from rfl, m_isIn (by omega) (by omega) (by omega)]
  rfl
theorem m_isPlace (h : Shp M) (hg : GeoM x M) (hs : p < np x) : f_X7_isPlace 66 (nI p) M = some 1 := by
  have h16 := (gz_1 x hg.1).2.2.2
  unfold f_X7_isPlace
  rw [G_66_0 h, Option.bind_some, hg.2.1, show (1 : Int32) = nI 1 from rfl, pk_sub (by omega), show (0 : Int32) = nI 0 from rfl, m_isIn (by omega) (by omega) (by omega)]
  rfl
theorem m_stride_l (h : Shp M) (hg : GeoM x M) : ∀ (j n acc : Nat), p + j < 4 → j < n → lp_X7_strideOf_9 66 (nI p) M n (nI acc) (nI (p + j)) = some (nI (acc * pd x p j))
  | _, 0, _, _, h2 => absurd h2 (by omega)
  | 0, n + 1, acc, h1, h2 => by
    rw [lp_X7_strideOf_9, if_pos (nI_le (by omega) (by omega))]
    show some (nI acc) = some (nI (acc * 1))
    rw [Nat.mul_one]
  | j + 1, n + 1, acc, h1, h2 => by
    rw [lp_X7_strideOf_9, if_neg (nI_ge (by omega) (by omega)), G_66_1 h, Option.bind_some, A_67 h (by omega), Option.bind_some, hg.2.2.2 _ (by omega), pk_mul, show p + (j + 1) = (p + j) + 1 from rfl, pk_m1, m_stride_l h hg j n _ (by omega) (by omega), Nat.mul_assoc]
    rfl
theorem m_stride (h : Shp M) (hg : GeoM x M) (hp : p < np x) : f_X7_strideOf 66 (nI p) M = some (nI (sd x p)) := by
  have h4 := gz_1 x hg.1
  unfold f_X7_strideOf
  rw [G_66_0 h, Option.bind_some, hg.2.1, show (1 : Int32) = nI 1 from rfl, pk_sub (by omega), show np x - 1 = p + (np x - 1 - p) by omega, m_stride_l h hg (np x - 1 - p) FU 1 (by omega) (by unfold FU; omega), gz_10 x hg.1 p hp, Nat.one_mul]
theorem m_valueOf (h : Shp M) (hg : GeoM x M) (hs : s < 16) (hp : p < np x) : f_X7_valueOf 66 (nI s) (nI p) M = some (nI (vl x s p)) := by
  have hz := gz_2 x hg.1 p hp
  have hp4 := gz_p hg.1 hp
  have hq : s / sd x p ≤ s := Nat.div_le_self _ _
  unfold f_X7_valueOf
  rw [I_66 h, Option.bind_some, m_stride h hg hp, Option.bind_some, if_neg (nI_ne0 (by omega) (by omega)), G_66_1 h, Option.bind_some, A_67 h hp4, Option.bind_some, hg.2.2.2 p hp4, if_neg (nI_ne0 (by omega) (by omega)), pk_div (by omega) (by omega) (by omega), pk_rem (by omega) (by omega) (by omega)]
  unfold vl
  rw [zm_pos (by omega)]
theorem m_with (h : Shp M) (hg : GeoM x M) (hs : s < 16) (hp : p < np x) : f_X7_with 66 (nI s) (nI p) (nI v) M = some (nI (il x s p v)) := by
  unfold f_X7_with
  rw [I_66 h, Option.bind_some, m_valueOf h hg hs hp, Option.bind_some, Option.bind_some, m_stride h hg hp, Option.bind_some, i_il (by have := (gz_4 x hg.1 s hs p (gz_p hg.1 hp)).2; omega)]
  rfl
theorem m_sum_l (h : Shp M) (hg : GeoM x M) (hw : WtM w M) (hs : s < ns x) (hp : p < np x) : ∀ (n i : Nat), i ≤ zs x p → zs x p - i < n → lp_X7_sumOfLine_5 66 (nI s) (nI p) M n (nI (sm (fun v => w (il x s p v)) i)) (nI i) = some (nI (lsum x w s p))
  | 0, i, _, h2 => absurd h2 (by omega)
  | n + 1, i, h1, h2 => by
    have hz := gz_2 x hg.1 p hp
    have hp4 := gz_p hg.1 hp
    have hs16 := gz_n hg.1 hs
    rw [lp_X7_sumOfLine_5, G_66_1 h, Option.bind_some, A_67 h hp4, Option.bind_some, hg.2.2.2 p hp4]
    by_cases hi : i = zs x p
    · rw [if_pos (nI_le (by omega) (by omega)), hi]; rfl
    · have hlt : i < zs x p := by omega
      have hil16 := gz_n hg.1 (gz_5 x hg.1 s hs p hp i hlt).1
      rw [if_neg (nI_ge hlt (by omega)), G_66_3 h, Option.bind_some, I_66 h, Option.bind_some, m_with h hg hs16 hp, Option.bind_some, A_68 h hil16, Option.bind_some, hw.2 _ hil16, nI_add, nI_1]
      exact m_sum_l h hg hw hs hp n (i + 1) (by omega) (by omega)
theorem m_sumOfLine (h : Shp M) (hg : GeoM x M) (hw : WtM w M) (hs : s < ns x) (hp : p < np x) : f_X7_sumOfLine 66 (nI s) (nI p) M = some (nI (lsum x w s p)) := by
  unfold f_X7_sumOfLine
  exact m_sum_l h hg hw hs hp FU 0 (by omega) (by have := (gz_2 x hg.1 p hp).2.1; unfold FU; omega)
theorem m_many_l (h : Shp M) (hg : GeoM x M) (hw : WtM w M) (hs : s < ns x) (hp : p < np x) {lv : Nat} (hlv : lv < 2 ^ 31) : ∀ (n i : Nat), i ≤ zs x p → zs x p - i < n → lp_X7_manyFrom_6 66 (nI s) (nI p) (nI lv) M n (nI (sm (fun v => if lv ≤ w (il x s p v) then 1 else 0) i)) (nI i) = some (nI (lc x w s p lv))
  | 0, i, _, h2 => absurd h2 (by omega)
  | n + 1, i, h1, h2 => by
    have hz := gz_2 x hg.1 p hp
    have hp4 := gz_p hg.1 hp
    have hs16 := gz_n hg.1 hs
    rw [lp_X7_manyFrom_6, G_66_1 h, Option.bind_some, A_67 h hp4, Option.bind_some, hg.2.2.2 p hp4]
    by_cases hi : i = zs x p
    · rw [if_pos (nI_le (by omega) (by omega)), hi]; rfl
    · have hlt : i < zs x p := by omega
      have hil16 := gz_n hg.1 (gz_5 x hg.1 s hs p hp i hlt).1
      have hw1 := hw.1 (il x s p i)
      have e : (if nI (w (il x s p i)) < nI lv then (0 : Int32) else (1 : Int32)) = nI (if lv ≤ w (il x s p i) then 1 else 0) := by
        by_cases hc : lv ≤ w (il x s p i)
        · rw [if_pos hc, if_neg (nI_nlt hc (by omega))]; rfl
        · rw [if_neg hc, if_pos (nI_lt (by omega) hlv)]; rfl
      rw [if_neg (nI_ge hlt (by omega)), G_66_3 h, Option.bind_some, I_66 h, Option.bind_some, m_with h hg hs16 hp, Option.bind_some, A_68 h hil16, Option.bind_some, hw.2 _ hil16, e, nI_add, nI_1]
      exact m_many_l h hg hw hs hp hlv n (i + 1) (by omega) (by omega)
theorem m_manyFrom (h : Shp M) (hg : GeoM x M) (hw : WtM w M) (hs : s < ns x) (hp : p < np x) {lv : Nat} (hlv : lv < 2 ^ 31) : f_X7_manyFrom 66 (nI s) (nI p) (nI lv) M = some (nI (lc x w s p lv)) := by
  unfold f_X7_manyFrom
  exact m_many_l h hg hw hs hp hlv FU 0 (by omega) (by have := (gz_2 x hg.1 p hp).2.1; unfold FU; omega)
theorem m_isInLine (h : Shp M) (hg : GeoM x M) (hs : s < ns x) (ht : t < ns x) (hp : p < np x) : f_X7_isInLine 66 (nI s) (nI t) (nI p) M = some (if il x s p (vl x t p) = t then 1 else 0) := by
  have hs16 := gz_n hg.1 hs
  have ht16 := gz_n hg.1 ht
  have hil := gz_n hg.1 (gz_5 x hg.1 s hs p hp (vl x t p) (gz_v hg.1 ht16 hp)).1
  unfold f_X7_isInLine
  rw [I_66 h, Option.bind_some, m_valueOf h hg ht16 hp, Option.bind_some, Option.bind_some, m_with h hg hs16 hp, Option.bind_some]
  by_cases hc : il x s p (vl x t p) = t
  · rw [if_pos hc, if_pos (by rw [hc])]
  · rw [if_neg hc, if_neg (fun e => hc ((nI_eq (by omega) (by omega)).mp e))]
theorem m_next (h : Shp M) (hg : GeoM x M) (hs : s < ns x) (hp : p < np x) : f_X7_neighbour 66 (nI s) (nI p) 1 M = some (nI (nx x s p)) := by
  have hp4 := gz_p hg.1 hp
  have hs16 := gz_n hg.1 hs
  have hz := gz_2 x hg.1 p hp
  have hv := gz_v hg.1 hs16 hp
  simp only [f_X7_neighbour, op_jn]
  rw [I_66 h, Option.bind_some, m_valueOf h hg hs16 hp, Option.bind_some, G_66_1 h, Option.bind_some, A_67 h hp4, Option.bind_some, hg.2.2.2 p hp4, if_neg (by decide), if_neg (nI_ne0 (by omega) (by omega)), Option.bind_some, nI_1, pk_rem (by omega) (by omega) (by omega), (gz_11 x hg.1 s hs p hp).1, m_with h hg hs16 hp, Option.bind_some]
  rfl
theorem m_before (h : Shp M) (hg : GeoM x M) (hs : s < ns x) (hp : p < np x) : f_X7_neighbour 66 (nI s) (nI p) 0 M = some (nI (bf x s p)) := by
  have hp4 := gz_p hg.1 hp
  have hs16 := gz_n hg.1 hs
  have hz := gz_2 x hg.1 p hp
  have hv := gz_v hg.1 hs16 hp
  simp only [f_X7_neighbour, op_jn]
  rw [I_66 h, Option.bind_some, m_valueOf h hg hs16 hp, Option.bind_some, G_66_1 h, Option.bind_some, A_67 h hp4, Option.bind_some, hg.2.2.2 p hp4, if_pos trivial, if_neg (nI_ne0 (by omega) (by omega)), Option.bind_some, nI_add, show (1 : Int32) = nI 1 from rfl, pk_sub (by omega), pk_rem (by omega) (by omega) (by omega), (gz_11 x hg.1 s hs p hp).2, m_with h hg hs16 hp, Option.bind_some]
  rfl
theorem m_swapped (h : Shp M) (hg : GeoM x M) (hs : s < ns x) {a b : Nat} (ha : a < np x) (hb : b < np x) (hab : a ≠ b) (hz : zs x a = zs x b) : f_X7_swapped 66 (nI s) (nI a) (nI b) M = some (nI (sw x s a b)) := by
  have hs16 := gz_n hg.1 hs
  have hi := gz_n hg.1 (gz_8 x hg.1 s hs a ha b hb hab hz).2.2
  unfold f_X7_swapped
  rw [I_66 h, Option.bind_some, m_valueOf h hg hs16 hb, Option.bind_some, Option.bind_some, m_with h hg hs16 ha, Option.bind_some, Option.bind_some, m_valueOf h hg hs16 ha, Option.bind_some, Option.bind_some, m_with h hg hi hb, Option.bind_some]
  rfl
theorem m_takenOf (h : Shp M) (hw : WtM w M) (hs : s < 16) (ht : t < 16) : f_X7_takenOf 66 (nI s) (nI t) M = some (nI (tk w s t)) := by
  have h1 := hw.1 s
  have h2 := hw.1 t
  unfold f_X7_takenOf tk
  rw [G_66_3 h, Option.bind_some, A_68 h hs, Option.bind_some, hw.2 s hs]
  by_cases hc : w s = 0
  · rw [hc, if_pos (show nI 0 = (0 : Int32) from rfl), if_pos rfl]; rfl
  · simp only [if_neg (nI_ne0 (n := w s) (by omega) (by omega)), if_neg hc, Option.bind_some, A_68 h ht, A_68 h hs, hw.2 t ht, hw.2 s hs]
    by_cases hd : w t < w s
    · rw [if_pos hd, if_neg (nI_ge hd (by omega))]
    · rw [if_neg hd, if_pos (nI_le (by omega) (by omega))]
theorem m_ofTaken (h : Shp M) (hw : WtM w M) (hs : s < 16) : f_X7_ofTaken 66 (nI s) M = some (nI (al w s)) := by
  have h1 := hw.1 s
  unfold f_X7_ofTaken al
  rw [G_66_3 h, Option.bind_some, A_68 h hs, Option.bind_some, hw.2 s hs]
  by_cases hc : w s = 0
  · rw [hc, if_pos (show nI 0 = (0 : Int32) from rfl), if_pos rfl]; rfl
  · simp only [if_neg (nI_ne0 (n := w s) (by omega) (by omega)), if_neg hc, Option.bind_some, A_68 h hs, hw.2 s hs]
end
