def nwf (x : Zt) (w : Nat → Nat) (s p lo hi : Nat) : Nat → Nat
  | 0 => hi
  | i + 1 => if w (il x s p i) ≤ lo then nwf x w s p lo hi i else if nwf x w s p lo hi i ≤ w (il x s p i) then nwf x w s p lo hi i else w (il x s p i)
def slG (x : Zt) (w : Nat → Nat) (s p : Nat) (i : Nat) : Nat := 60 / lc x w s p (i + 1)
def slN (x : Zt) (w : Nat → Nat) (s p n : Nat) : Nat := sm (slG x w s p) n
def cSli (x : Zt) (w : Nat → Nat) (p s t : Nat) : Fq := if w s = 0 then some (low (if s = t then 1 else 0) 1) else if il x s p (vl x t p) = t then some (low (slN x w s p (if w t < w s then w t else w s)) (60 * w s)) else some (low (if s = t then 1 else 0) 1)
section
variable {x : Zt} {w : Nat → Nat} {s p lo hi : Nat}
theorem nwf_in (h : lo < hi) : ∀ i, lo < nwf x w s p lo hi i ∧ nwf x w s p lo hi i ≤ hi ∧ (∀ v, v < i → w (il x s p v) ≤ lo ∨ nwf x w s p lo hi i ≤ w (il x s p v)) ∧ (nwf x w s p lo hi i = hi ∨ ∃ v, v < i ∧ nwf x w s p lo hi i = w (il x s p v))
  | 0 => ⟨h, Nat.le_refl _, fun v hv => absurd hv (by omega), Or.inl rfl⟩
  | i + 1 => by
    obtain ⟨a1, a2, a3, a4⟩ := nwf_in h i
    have e : nwf x w s p lo hi (i + 1) = if w (il x s p i) ≤ lo then nwf x w s p lo hi i else if nwf x w s p lo hi i ≤ w (il x s p i) then nwf x w s p lo hi i else w (il x s p i) := rfl
    by_cases e1 : w (il x s p i) ≤ lo
    · rw [if_pos e1] at e
      rw [e]
      refine ⟨a1, a2, fun v hv => ?_, a4.imp id (fun ⟨v, h1, h2⟩ => ⟨v, by omega, h2⟩)⟩
      by_cases q : v = i
      · subst q; exact Or.inl e1
      · exact a3 v (by omega)
    · rw [if_neg e1] at e
      by_cases e2 : nwf x w s p lo hi i ≤ w (il x s p i)
      · rw [if_pos e2] at e
        rw [e]
        refine ⟨a1, a2, fun v hv => ?_, a4.imp id (fun ⟨v, h1, h2⟩ => ⟨v, by omega, h2⟩)⟩
        by_cases q : v = i
        · subst q; exact Or.inr e2
        · exact a3 v (by omega)
      · rw [if_neg e2] at e
        rw [e]
        refine ⟨by omega, by omega, fun v hv => ?_, Or.inr ⟨i, by omega, rfl⟩⟩
        by_cases q : v = i
        · subst q; exact Or.inr (Nat.le_refl _)
        · rcases a3 v (by omega) with r | r
          · exact Or.inl r
          · exact Or.inr (by omega)
theorem sm_cg {f g : Nat → Nat} : ∀ {n : Nat}, (∀ i, i < n → f i = g i) → sm f n = sm g n
  | 0, _ => rfl
  | n + 1, h => by
    show sm f n + f n = sm g n + g n
    rw [sm_cg (fun i hi => h i (by omega)), h n (by omega)]
theorem sm_lt {f g : Nat → Nat} : ∀ {n : Nat}, (∀ i, i < n → f i ≤ g i) → sm f n ≤ sm g n
  | 0, _ => Nat.le_refl _
  | n + 1, h => by
    have := sm_lt (n := n) (fun i hi => h i (by omega))
    have := h n (by omega)
    show sm f n + f n ≤ sm g n + g n
    omega
theorem sm_st {f g : Nat → Nat} : ∀ {n v : Nat}, (∀ i, i < n → f i ≤ g i) → v < n → f v < g v → sm f n < sm g n
  | 0, v, _, h, _ => absurd h (by omega)
  | n + 1, v, h, hv, hl => by
    show sm f n + f n < sm g n + g n
    by_cases e : v = n
    · subst e
      have := sm_lt (n := v) (f := f) (g := g) (fun i hi => h i (by omega))
      omega
    · have := sm_st (n := n) (fun i hi => h i (by omega)) (show v < n by omega) hl
      have := h n (by omega)
      omega
theorem lc_eq (h : lo < hi) {lv : Nat} (h1 : lo < lv) (h2 : lv ≤ nwf x w s p lo hi (zs x p)) : lc x w s p lv = lc x w s p (lo + 1) := by
  obtain ⟨a1, a2, a3, a4⟩ := nwf_in (x := x) (w := w) (s := s) (p := p) h (zs x p)
  refine sm_cg (fun v hv => ?_)
  show (if lv ≤ w (il x s p v) then 1 else 0) = (if lo + 1 ≤ w (il x s p v) then 1 else 0)
  rcases a3 v hv with r | r
  · rw [if_neg (by omega), if_neg (by omega)]
  · rw [if_pos (by omega), if_pos (by omega)]
theorem sl_seg (h : lo < hi) : ∀ d, lo + d ≤ nwf x w s p lo hi (zs x p) → slN x w s p (lo + d) = slN x w s p lo + d * (60 / lc x w s p (lo + 1))
  | 0, _ => by rw [Nat.zero_mul]; rfl
  | d + 1, hd => by
    have := sl_seg h d (by omega)
    show slN x w s p (lo + d) + slG x w s p (lo + d) = _
    have e : slG x w s p (lo + d) = 60 / lc x w s p (lo + 1) := by
      show 60 / lc x w s p (lo + d + 1) = _
      rw [lc_eq h (by omega) (by omega)]
    rw [this, e, Nat.succ_mul]
    omega
theorem sl_step (h : lo < hi) : slN x w s p (nwf x w s p lo hi (zs x p)) = slN x w s p lo + (nwf x w s p lo hi (zs x p) - lo) * (60 / lc x w s p (lo + 1)) := by
  have h1 := (nwf_in (x := x) (w := w) (s := s) (p := p) h (zs x p)).1
  have := sl_seg (x := x) (w := w) (s := s) (p := p) h (nwf x w s p lo hi (zs x p) - lo) (by omega)
  rw [show lo + (nwf x w s p lo hi (zs x p) - lo) = nwf x w s p lo hi (zs x p) by omega] at this
  exact this
theorem lc_pos {v lv : Nat} (hv : v < zs x p) (h : lv ≤ w (il x s p v)) : 1 ≤ lc x w s p lv := by
  have := sm_mo (f := fun v => if lv ≤ w (il x s p v) then 1 else 0) hv
  have e : (if lv ≤ w (il x s p v) then 1 else 0) = 1 := if_pos h
  have : (fun v => if lv ≤ w (il x s p v) then 1 else 0) v ≤ lc x w s p lv := this
  simp only [e] at this
  exact this
theorem lc_le (hx : x ∈ OKZ) (hp : p < np x) {lv : Nat} : lc x w s p lv ≤ 6 := by
  have h1 := sm_le (f := fun v => if lv ≤ w (il x s p v) then 1 else 0) (b := 1) (fun i => by by_cases h : lv ≤ w (il x s p i) <;> simp [h]) (zs x p)
  have h2 := (gz_2 x hx p hp).2.1
  show sm (fun v => if lv ≤ w (il x s p v) then 1 else 0) (zs x p) ≤ 6
  omega
/-- at the next weight below the top there is one less above -/
theorem lc_down (h : lo < hi) (h2 : nwf x w s p lo hi (zs x p) < hi) : lc x w s p (nwf x w s p lo hi (zs x p) + 1) < lc x w s p (lo + 1) := by
  obtain ⟨a1, a2, a3, a4⟩ := nwf_in (x := x) (w := w) (s := s) (p := p) h (zs x p)
  obtain ⟨v, hv, e⟩ := a4.resolve_left (by omega)
  refine sm_st (v := v) (fun i _ => ?_) hv ?_
  · show (if _ ≤ w (il x s p i) then 1 else 0) ≤ (if lo + 1 ≤ w (il x s p i) then 1 else 0)
    by_cases q : nwf x w s p lo hi (zs x p) + 1 ≤ w (il x s p i)
    · rw [if_pos q, if_pos (by omega)]; exact Nat.le_refl _
    · rw [if_neg q]; exact Nat.zero_le _
  · show (if nwf x w s p lo hi (zs x p) + 1 ≤ w (il x s p v) then 1 else 0) < (if lo + 1 ≤ w (il x s p v) then 1 else 0)
    rw [if_neg (by omega), if_pos (by omega)]
    exact Nat.zero_lt_one
theorem slG_le {i : Nat} : slG x w s p i ≤ 60 := Nat.div_le_self _ _
theorem slN_le {n : Nat} : slN x w s p n ≤ n * 60 := sm_le (fun _ => slG_le) n
end
section
variable {M : Mm} {x : Zt} {w : Nat → Nat} {s p t lo hi : Nat}
theorem p_nw_l (h : Shp M) (hg : GeoC x M) (hw : WtC w M) (hs : s < ns x) (hp : p < np x) (hlo : lo ≤ 1000) (hhi : hi ≤ 1000) (hlt : lo < hi) : ∀ (n i : Nat), i ≤ zs x p → zs x p - i < n → lp_X0_nextWeight_7 57 (nI p) (nI s) (nI lo) M n (nI (nwf x w s p lo hi i)) (nI i) = some (nI (nwf x w s p lo hi (zs x p)))
  | 0, i, _, h2 => absurd h2 (by omega)
  | n + 1, i, h1, h2 => by
    have hz := gz_2 x hg.1 p hp
    have hp4 := gz_p hg.1 hp
    have hs16 := gz_n hg.1 hs
    rw [lp_X0_nextWeight_7, G_57_0 h, Option.bind_some, G_1_2 h, Option.bind_some, A_2 h hp4, Option.bind_some, hg.2.2.2.1 p hp4]
    by_cases hi' : i = zs x p
    · rw [if_pos (nI_le (by omega) (by omega)), hi']
    · have hl : i < zs x p := by omega
      have hil16 := gz_n hg.1 (gz_5 x hg.1 s hs p hp i hl).1
      have hw1 := hw.1 (il x s p i)
      have hb := (nwf_in (x := x) (w := w) (s := s) (p := p) hlt i).2.1
      simp only [op_jn]
      rw [if_neg (nI_ge hl (by omega)), Option.bind_some, G_1_5 h, Option.bind_some, Option.bind_some, I_1 h, Option.bind_some, p_inLine h hg hs16 hp4, Option.bind_some, A_5 h hil16, Option.bind_some, hw.2 _ hil16, nI_1]
      have ih := p_nw_l h hg hw hs hp hlo hhi hlt n (i + 1) (by omega) (by omega)
      have e : nwf x w s p lo hi (i + 1) = if w (il x s p i) ≤ lo then nwf x w s p lo hi i else if nwf x w s p lo hi i ≤ w (il x s p i) then nwf x w s p lo hi i else w (il x s p i) := rfl
      by_cases e1 : w (il x s p i) ≤ lo
      · rw [if_pos (nI_le e1 (by omega))]
        rw [if_pos e1] at e
        rw [← e]; exact ih
      · rw [if_neg (nI_ge (by omega) (by omega))]
        rw [if_neg e1] at e
        by_cases e2 : nwf x w s p lo hi i ≤ w (il x s p i)
        · rw [if_pos (nI_le e2 (by omega))]
          rw [if_pos e2] at e
          rw [← e]; exact ih
        · rw [if_neg (nI_ge (by omega) (by omega))]
          rw [if_neg e2] at e
          rw [← e]; exact ih
theorem p_nextWeight (h : Shp M) (hg : GeoC x M) (hw : WtC w M) (hs : s < ns x) (hp : p < np x) (hlo : lo ≤ 1000) (hhi : hi ≤ 1000) (hlt : lo < hi) : f_X0_nextWeight 57 (nI p) (nI s) (nI lo) (nI hi) M = some (nI (nwf x w s p lo hi (zs x p))) := by
  unfold f_X0_nextWeight
  exact p_nw_l h hg hw hs hp hlo hhi hlt FU 0 (by omega) (by have := (gz_2 x hg.1 p hp).2.1; unfold FU; omega)
theorem p_sli_l (K : Int64 → Option Mm) (h : Shp M) (hg : GeoC x M) (hw : WtC w M) (hs : s < ns x) (hp : p < np x) (hhi : hi ≤ 1000) {v : Nat} (hv : v < zs x p) (hwv : hi ≤ w (il x s p v)) (w4 : Int32) : ∀ (n i lo : Nat), lo ≤ hi → i + (hi - lo) < n + i → (lo < hi → lc x w s p (lo + 1) + i ≤ 6) → lp_X0_slice_73 K 57 (nI p) (nI s) w4 (nI hi) M n (nI lo) (lN (slN x w s p lo)) (nI i) = K (lN (slN x w s p hi))
  | 0, i, lo, _, h2, _ => absurd h2 (by omega)
  | n + 1, i, lo, h1, h2, h3 => by
    rw [lp_X0_slice_73]
    by_cases e : lo = hi
    · subst e
      by_cases q : (6 : Int32) ≤ nI i
      · rw [if_pos q]
      · rw [if_neg q, if_pos (nI_le (Nat.le_refl _) (by omega))]
    · have hlt : lo < hi := by omega
      have h4 := h3 hlt
      have h5 := lc_pos (x := x) (w := w) (s := s) (p := p) (lv := lo + 1) hv (by omega)
      have h6 := lc_le (w := w) (s := s) (lv := lo + 1) hg.1 hp
      obtain ⟨a1, a2, a3, a4⟩ := nwf_in (x := x) (w := w) (s := s) (p := p) hlt (zs x p)
      have k1 := slN_le (x := x) (w := w) (s := s) (p := p) (n := hi)
      rw [if_neg (show ¬ (6 : Int32) ≤ nI i from nI_ge (b := 6) (by omega) (by omega)), if_neg (nI_ge hlt (by omega)), I_57 h, Option.bind_some, p_nextWeight h hg hw hs hp (by omega) hhi hlt, Option.bind_some, G_57_0 h, Option.bind_some, I_1 h, Option.bind_some, nI_1, p_lineCount h hg hw hs hp (by omega), Option.bind_some]
      rw [show (if nI (lc x w s p (lo + 1)) < (1 : Int32) then (1 : Int32) else nI (lc x w s p (lo + 1))) = nI (lc x w s p (lo + 1)) from if_neg (nI_nlt (b := 1) (by omega) (by omega)), if_neg (nI_ne0 (by omega) (by omega)), show (60 : Int32) = nI 60 from rfl, pk_div (by omega) (by omega) (by omega), pk_sub (by omega), nI_l (by omega), nI_l (by have : 60 / lc x w s p (lo + 1) ≤ 60 := Nat.div_le_self _ _; omega), lN_mul, lN_add, ← sl_step hlt, nI_1]
      refine p_sli_l K h hg hw hs hp hhi hv hwv w4 n (i + 1) _ a2 (by omega) (fun hh => ?_)
      have := lc_down (x := x) (w := w) (s := s) (p := p) hlt hh
      omega
theorem p_slice (h : Shp M) (hg : GeoC x M) (hw : WtC w M) (hs : s < ns x) (ht : t < ns x) (hp : p < np x) : ∃ M', f_X0_slice 57 (nI p) (nI s) (nI t) M = some M' ∧ FrC 58 (cSli x w p s t) M' ∧ Ch (· = 58) M M' := by
  have hs16 := gz_n hg.1 hs
  have ht16 := gz_n hg.1 ht
  have k1 := hw.1 s
  have k2 := hw.1 t
  simp only [f_X0_slice, G_57_0 h, Option.bind_some, G_1_5 h, A_5 h hs16, hw.2 s hs16, G_57_2 h, I_58 h, I_1 h, p_sharesLine h hg hs ht hp, A_5 h ht16, hw.2 t ht16]
  have st1 : ∃ M', ((f_X1_set 58 (if nI s = nI t then (1 : Int64) else (0 : Int64)) (1 : Int64) M).bind fun z => some z) = some M' ∧ FrC 58 (some (low (if s = t then 1 else 0) 1)) M' ∧ Ch (· = 58) M M' := by
    rw [i_e (by omega) (by omega), l1, l0, lN_if, p_set h fq58 (by by_cases hst : s = t <;> simp [hst]) (by decide) (by omega), Option.bind_some]
    exact ⟨_, rfl, stF_r, stF_c rfl⟩
  unfold cSli
  by_cases e0 : w s = 0
  · rw [if_pos e0, e0, if_pos (show nI 0 = (0 : Int32) from rfl)]
    exact st1
  · rw [if_neg e0, if_neg (nI_ne0 (by omega) (by omega))]
    by_cases hc : il x s p (vl x t p) = t
    · rw [if_pos hc, if_pos hc, if_neg (by decide)]
      have e : (if nI (w t) < nI (w s) then nI (w t) else nI (w s)) = nI (if w t < w s then w t else w s) := by
        by_cases q : w t < w s
        · rw [if_pos q, if_pos (nI_lt q (by omega))]
        · rw [if_neg q, if_neg (nI_nlt (by omega) (by omega))]
      have hb : (if w t < w s then w t else w s) ≤ 1000 := by by_cases q : w t < w s <;> simp [q] <;> omega
      have hb2 : (if w t < w s then w t else w s) ≤ w t := by by_cases q : w t < w s <;> simp [q]; omega
      have k3 := slN_le (x := x) (w := w) (s := s) (p := p) (n := if w t < w s then w t else w s)
      rw [e]
      show ∃ M', lp_X0_slice_73 _ 57 (nI p) (nI s) (nI (w s)) (nI (if w t < w s then w t else w s)) M FU (nI 0) (lN (slN x w s p 0)) (nI 0) = some M' ∧ _
      rw [p_sli_l _ h hg hw hs hp hb (gz_v hg.1 ht16 hp) (by rw [hc]; exact hb2) _ FU 0 0 (by omega) (by unfold FU; omega) (fun _ => lc_le hg.1 hp), nI_l (by omega), show (60 : Int64) = lN 60 from rfl, lN_mul, p_set h fq58 (by omega) (by omega) (by omega), Option.bind_some]
      exact ⟨_, rfl, stF_r, stF_c rfl⟩
    · rw [if_neg hc, if_neg hc, if_pos rfl]
      exact st1
end
