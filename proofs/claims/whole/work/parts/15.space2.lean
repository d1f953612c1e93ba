def nx (x : Zt) (s p : Nat) : Nat := il x s p (if zs x p ≤ vl x s p + 1 then 0 else vl x s p + 1)
def bf (x : Zt) (s p : Nat) : Nat := il x s p (if vl x s p = 0 then zs x p - 1 else vl x s p - 1)
def sw (x : Zt) (s a b : Nat) : Nat := il x (il x s a (vl x s b)) b (vl x s a)
def tk (w : Nat → Nat) (s t : Nat) : Nat := if w s = 0 then 1 else if w t < w s then w t else w s
def al (w : Nat → Nat) (s : Nat) : Nat := if w s = 0 then 1 else w s
def lc (x : Zt) (w : Nat → Nat) (s p lv : Nat) : Nat := sm (fun v => if lv ≤ w (il x s p v) then 1 else 0) (zs x p)
def gz_8b (x : Zt) (s a b : Nat) : Bool := decide (nI s + (nI (vl x s b) - nI (vl x s a)) * nI (sd x a) - (nI (vl x s b) - nI (vl x s a)) * nI (sd x b) = nI (sw x s a b)) && decide (sw x s a b < ns x) && decide (il x s a (vl x s b) < ns x)
theorem gz_8c : ∀ x ∈ OKZ, ∀ s, s < ns x → ∀ a, a < np x → ∀ b, b < np x → a ≠ b → zs x a = zs x b → gz_8b x s a b = true := by decide +kernel
theorem gz_8 (x : Zt) (hx : x ∈ OKZ) (s : Nat) (hs : s < ns x) (a : Nat) (ha : a < np x) (b : Nat) (hb : b < np x) (hab : a ≠ b) (hz : zs x a = zs x b) : nI s + (nI (vl x s b) - nI (vl x s a)) * nI (sd x a) - (nI (vl x s b) - nI (vl x s a)) * nI (sd x b) = nI (sw x s a b) ∧ sw x s a b < ns x ∧ il x s a (vl x s b) < ns x := by
  have h := gz_8c x hx s hs a ha b hb hab hz
  unfold gz_8b at h
  rw [Bool.and_eq_true, Bool.and_eq_true, decide_eq_true_iff, decide_eq_true_iff, decide_eq_true_iff] at h
  exact ⟨h.1.1, h.1.2, h.2⟩
theorem gz_9 : ∀ x ∈ OKZ, ∀ s, s < ns x → ∀ p, p < np x → nx x s p < ns x ∧ bf x s p < ns x := by decide +kernel
section
variable {M : Mm} {x : Zt} {w : Nat → Nat} {s p v t : Nat}
theorem p_next (h : Shp M) (hg : GeoC x M) (hs : s < ns x) (hp : p < np x) : f_X3_next 1 (nI s) (nI p) M = some (nI (nx x s p)) := by
  have hp4 := gz_p hg.1 hp
  have hs16 := gz_n hg.1 hs
  have hz := gz_2 x hg.1 p hp
  have hv := gz_v hg.1 hs16 hp
  have e : (if nI (zs x p) ≤ nI (vl x s p) + (1 : Int32) then (0 : Int32) else nI (vl x s p) + (1 : Int32)) = nI (if zs x p ≤ vl x s p + 1 then 0 else vl x s p + 1) := by
    rw [nI_1]
    by_cases hc : zs x p ≤ vl x s p + 1
    · rw [if_pos hc, if_pos (nI_le hc (by omega))]; rfl
    · rw [if_neg hc, if_neg (nI_ge (by omega) (by omega))]
  unfold f_X3_next
  rw [I_1 h, Option.bind_some, p_valueAt h hg hs16 hp4, Option.bind_some, G_1_2 h, Option.bind_some, A_2 h hp4, Option.bind_some, hg.2.2.2.1 p hp4, Option.bind_some, e, p_inLine h hg hs16 hp4, Option.bind_some]
  rfl
theorem p_before (h : Shp M) (hg : GeoC x M) (hs : s < ns x) (hp : p < np x) : f_X3_before 1 (nI s) (nI p) M = some (nI (bf x s p)) := by
  have hp4 := gz_p hg.1 hp
  have hs16 := gz_n hg.1 hs
  have hz := gz_2 x hg.1 p hp
  have hv := gz_v hg.1 hs16 hp
  simp only [f_X3_before, op_jn]
  rw [I_1 h, Option.bind_some, p_valueAt h hg hs16 hp4, Option.bind_some]
  unfold bf
  by_cases hc : vl x s p = 0
  · rw [hc, if_pos (show nI 0 - (1 : Int32) < 0 by decide), G_1_2 h, Option.bind_some, A_2 h hp4, Option.bind_some, hg.2.2.2.1 p hp4, Option.bind_some, show (1 : Int32) = nI 1 from rfl, pk_sub (by omega), p_inLine h hg hs16 hp4, Option.bind_some, if_pos rfl]
  · rw [show (1 : Int32) = nI 1 from rfl, pk_sub (by omega), if_neg (nI_pos (by omega)), Option.bind_some, p_inLine h hg hs16 hp4, Option.bind_some, if_neg hc]
theorem p_exchanged (h : Shp M) (hg : GeoC x M) (hs : s < ns x) {a b : Nat} (ha : a < np x) (hb : b < np x) (hab : a ≠ b) (hz : zs x a = zs x b) : f_X3_exchanged 1 (nI s) (nI a) (nI b) M = some (nI (sw x s a b)) := by
  have ha4 := gz_p hg.1 ha
  have hb4 := gz_p hg.1 hb
  have hs16 := gz_n hg.1 hs
  unfold f_X3_exchanged
  rw [I_1 h, Option.bind_some, p_valueAt h hg hs16 hb4, Option.bind_some, Option.bind_some, p_valueAt h hg hs16 ha4, Option.bind_some, G_1_3 h, Option.bind_some, A_3 h ha4, Option.bind_some, Option.bind_some, A_3 h hb4, Option.bind_some, hg.2.2.2.2.1 a ha4, hg.2.2.2.2.1 b hb4, (gz_8 x hg.1 s hs a ha b hb hab hz).1]
theorem p_sharesLine (h : Shp M) (hg : GeoC x M) (hs : s < ns x) (ht : t < ns x) (hp : p < np x) : f_X3_sharesLine 1 (nI s) (nI t) (nI p) M = some (if il x s p (vl x t p) = t then 1 else 0) := by
  have hp4 := gz_p hg.1 hp
  have hs16 := gz_n hg.1 hs
  have ht16 := gz_n hg.1 ht
  have hil := gz_n hg.1 (gz_5 x hg.1 s hs p hp (vl x t p) (gz_v hg.1 ht16 hp)).1
  unfold f_X3_sharesLine
  rw [I_1 h, Option.bind_some, p_valueAt h hg ht16 hp4, Option.bind_some, Option.bind_some, p_inLine h hg hs16 hp4, Option.bind_some]
  by_cases hc : il x s p (vl x t p) = t
  · rw [if_pos hc, if_pos (by rw [hc])]
  · rw [if_neg hc, if_neg (fun e => hc ((nI_eq (by omega) (by omega)).mp e))]
theorem p_lineCount_l (h : Shp M) (hg : GeoC x M) (hw : WtC w M) (hs : s < ns x) (hp : p < np x) {lv : Nat} (hlv : lv < 2 ^ 31) : ∀ (n i : Nat), i ≤ zs x p → zs x p - i < n → lp_X3_lineCount_6 1 (nI s) (nI p) (nI lv) M n (nI (sm (fun v => if lv ≤ w (il x s p v) then 1 else 0) i)) (nI i) = some (nI (lc x w s p lv))
  | 0, i, _, h2 => absurd h2 (by omega)
  | n + 1, i, h1, h2 => by
    have hz := gz_2 x hg.1 p hp
    have hp4 := gz_p hg.1 hp
    have hs16 := gz_n hg.1 hs
    rw [lp_X3_lineCount_6, G_1_2 h, Option.bind_some, A_2 h hp4, Option.bind_some, hg.2.2.2.1 p hp4]
    by_cases hi : i = zs x p
    · rw [if_pos (nI_le (by omega) (by omega)), hi]; rfl
    · have hlt : i < zs x p := by omega
      rw [if_neg (nI_ge hlt (by omega)), G_1_5 h, Option.bind_some, I_1 h, Option.bind_some, p_inLine h hg hs16 hp4, Option.bind_some]
      have hil16 := gz_n hg.1 (gz_5 x hg.1 s hs p hp i hlt).1
      have hw1 := hw.1 (il x s p i)
      have e : (if nI (w (il x s p i)) < nI lv then (0 : Int32) else (1 : Int32)) = nI (if lv ≤ w (il x s p i) then 1 else 0) := by
        by_cases hc : lv ≤ w (il x s p i)
        · rw [if_pos hc, if_neg (nI_nlt hc (by omega))]; rfl
        · rw [if_neg hc, if_pos (nI_lt (by omega) hlv)]; rfl
      rw [A_5 h hil16, Option.bind_some, hw.2 _ hil16, e, nI_add, nI_1]
      exact p_lineCount_l h hg hw hs hp hlv n (i + 1) (by omega) (by omega)
theorem p_lineCount (h : Shp M) (hg : GeoC x M) (hw : WtC w M) (hs : s < ns x) (hp : p < np x) {lv : Nat} (hlv : lv < 2 ^ 31) : f_X3_lineCount 1 (nI s) (nI p) (nI lv) M = some (nI (lc x w s p lv)) := by
  unfold f_X3_lineCount
  exact p_lineCount_l h hg hw hs hp hlv FU 0 (by omega) (by have := (gz_2 x hg.1 p hp).2.1; unfold FU; omega)
theorem p_taken (h : Shp M) (hw : WtC w M) (hs : s < 16) (ht : t < 16) : f_X3_taken 1 (nI s) (nI t) M = some (nI (tk w s t)) := by
  have h1 := hw.1 s
  have h2 := hw.1 t
  unfold f_X3_taken tk
  rw [G_1_5 h, Option.bind_some, A_5 h hs, Option.bind_some, hw.2 s hs]
  by_cases hc : w s = 0
  · rw [hc, if_pos (show nI 0 = (0 : Int32) from rfl), if_pos rfl]; rfl
  · rw [if_neg (nI_ne0 (by omega) (by omega)), if_neg hc, Option.bind_some, A_5 h hs, Option.bind_some, Option.bind_some, A_5 h ht, Option.bind_some, hw.2 t ht, hw.2 s hs]
    by_cases hd : w t < w s
    · rw [if_pos hd, if_pos (nI_lt hd (by omega))]
    · rw [if_neg hd, if_neg (nI_nlt (by omega) (by omega))]
theorem p_all (h : Shp M) (hw : WtC w M) (hs : s < 16) : f_X3_all 1 (nI s) M = some (nI (al w s)) := by
  have h1 := hw.1 s
  unfold f_X3_all al
  rw [G_1_5 h, Option.bind_some, A_5 h hs, Option.bind_some, hw.2 s hs]
  by_cases hc : w s = 0
  · rw [hc, if_pos (by decide), if_pos rfl]; rfl
  · rw [if_neg (show ¬ nI (w s) < (1 : Int32) from nI_nlt (b := 1) (by omega) (by omega)), if_neg hc]
end
