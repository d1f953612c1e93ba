def anb (f : Nat → Bool) : Nat → Bool
  | 0 => false
  | n + 1 => anb f n || f n
def lPr (w : Nat → Nat) (s u t : Nat) : Bool := (decide (w s = 0 ∨ 0 < w u) && decide (t = u)) || (decide (w u < w s) && decide (t = s))
def lLi (z : Zt) (w : Nat → Nat) (p s t : Nat) : Bool := anb (fun v => decide (0 < w (il z s p v)) && decide (t = il z s p v)) (zs z p)
def lTp (w : Nat → Nat) (c : Nat → Nat → Nat) (n s u t : Nat) : Bool := if w s = 0 then decide (t = u) else if cX w c n s u = 0 then decide (t = s) else (decide (t = u) || (decide (cX w c n s u < cX w c n u s) && decide (t = s)))
def lTo (w : Nat → Nat) (c : Nat → Nat → Nat) (n s t : Nat) : Bool := if sm (c s) n = 0 then decide (t = s) else anb (fun u => decide (0 < c s u) && lTp w c n s u t) n
def lPl (z : Zt) (w : Nat → Nat) (k a b : Nat) (c : Nat → Nat → Nat) (s t : Nat) : Bool :=
  if k = 0 then (if lsum z w s a = 0 then decide (t = s) else lLi z w a s t) else if k = 1 then (lPr w s (nx z s a) t || lPr w s (bf z s a) t) else if k = 2 then lPr w s (sw z s a b) t else if k = 3 then lTo w c (ns z) s t else (if w s = 0 then decide (t = s) else lLi z w a s t)
def LD (z : Zt) (w : Nat → Nat) (V : Mv) : Nat → Nat → Nat → Nat → Bool
  | 0, m, s, t => lPl z w (vK V m) (vA V m) (vB V m) (vT V m) s t
  | d + 1, m, s, t => if vK V m = 5 then (LD z w V d (vA V m) s t || LD z w V d (vB V m) s t) else if vK V m = 6 then anb (fun r => LD z w V d (vA V m) s r && LD z w V d (vB V m) r t) (ns z) else lPl z w (vK V m) (vA V m) (vB V m) (vT V m) s t
def lem (z : Zt) (w : Nat → Nat) (V : Mv) (m s t : Nat) : Bool := LD z w V (vD V m) m s t
section
variable {M M' M'' : Mm} {z : Zt} {w : Nat → Nat} {V : Mv} {c : Nat → Nat → Nat} {x n s t p m nm dep u k d : Nat}
theorem anb_t {f : Nat → Bool} : ∀ {n : Nat}, anb f n = true → ∃ i, i < n ∧ f i = true
  | 0, h => absurd (show false = true from h) (by decide)
  | n + 1, h => by
    have h' : (anb f n || f n) = true := h
    rw [Bool.or_eq_true] at h'
    cases h' with
    | inl h1 => obtain ⟨i, hi, e⟩ := anb_t h1; exact ⟨i, by omega, e⟩
    | inr h1 => exact ⟨n, by omega, h1⟩
theorem anb_cg {f g : Nat → Bool} : ∀ {n : Nat}, (∀ i, i < n → f i = g i) → anb f n = anb g n
  | 0, _ => rfl
  | n + 1, h => by
    show (anb f n || f n) = (anb g n || g n)
    rw [anb_cg (fun i hi => h i (by omega)), h n (by omega)]
theorem lPr_lt (hs : s < n) (hu : u < n) (h : lPr w s u t = true) : t < n := by
  unfold lPr at h
  rw [Bool.or_eq_true, Bool.and_eq_true, Bool.and_eq_true] at h
  cases h with
  | inl h => have := of_decide_eq_true h.2; omega
  | inr h => have := of_decide_eq_true h.2; omega
theorem lLi_lt (hx : z ∈ OKZ) (hs : s < ns z) (hp : p < np z) (h : lLi z w p s t = true) : t < ns z := by
  obtain ⟨i, hi, e⟩ := anb_t h
  rw [Bool.and_eq_true] at e
  rw [of_decide_eq_true e.2]
  exact (gz_5 z hx s hs p hp i hi).1
theorem lTo_lt (hs : s < n) (h : lTo w c n s t = true) : t < n := by
  unfold lTo at h
  by_cases e : sm (c s) n = 0
  · rw [if_pos e] at h
    have := of_decide_eq_true h
    omega
  · rw [if_neg e] at h
    obtain ⟨i, hi, q⟩ := anb_t h
    rw [Bool.and_eq_true] at q
    have q := q.2
    unfold lTp at q
    by_cases e1 : w s = 0
    · rw [if_pos e1] at q
      have := of_decide_eq_true q; omega
    · rw [if_neg e1] at q
      by_cases e2 : cX w c n s i = 0
      · rw [if_pos e2] at q
        have := of_decide_eq_true q; omega
      · rw [if_neg e2, Bool.or_eq_true, Bool.and_eq_true] at q
        cases q with
        | inl q => have := of_decide_eq_true q; omega
        | inr q => have := of_decide_eq_true q.2; omega
theorem lPl_lt {a b : Nat} (hx : z ∈ OKZ) (hs : s < ns z) (hk : k < 5) (ha : k ≠ 3 → a < np z) (hb : k = 2 → b < np z ∧ a ≠ b ∧ zs z a = zs z b) (h : lPl z w k a b c s t = true) : t < ns z := by
  unfold lPl at h
  by_cases e0 : k = 0
  · rw [if_pos e0] at h
    by_cases q : lsum z w s a = 0
    · rw [if_pos q] at h; have := of_decide_eq_true h; omega
    · rw [if_neg q] at h; exact lLi_lt hx hs (ha (by omega)) h
  · rw [if_neg e0] at h
    by_cases e1 : k = 1
    · rw [if_pos e1, Bool.or_eq_true] at h
      have := gz_9 z hx s hs a (ha (by omega))
      cases h with
      | inl h => exact lPr_lt hs this.1 h
      | inr h => exact lPr_lt hs this.2 h
    · rw [if_neg e1] at h
      by_cases e2 : k = 2
      · rw [if_pos e2] at h
        obtain ⟨b1, b2, b3⟩ := hb e2
        exact lPr_lt hs (gz_8 z hx s hs a (ha (by omega)) b b1 b2 b3).2.1 h
      · rw [if_neg e2] at h
        by_cases e3 : k = 3
        · rw [if_pos e3] at h
          exact lTo_lt hs h
        · rw [if_neg e3] at h
          by_cases q : w s = 0
          · rw [if_pos q] at h; have := of_decide_eq_true h; omega
          · rw [if_neg q] at h; exact lLi_lt hx hs (ha (by omega)) h
theorem LD_lt (hx : z ∈ OKZ) (ho : okV z V nm) : ∀ d m, m < nm → vD V m ≤ d → ∀ s t, s < ns z → LD z w V d m s t = true → t < ns z
  | 0, m, hm, hd, s, t, hs, h => by
    obtain ⟨o1, o2, o3, o4, o5, o6⟩ := ho m hm
    by_cases e : 5 ≤ vK V m
    · have := (o3 e).2.2; omega
    · exact lPl_lt hx hs (by omega) (o2 (by omega)).2.1 (o2 (by omega)).2.2 h
  | d + 1, m, hm, hd, s, t, hs, h => by
    obtain ⟨o1, o2, o3, o4, o5, o6⟩ := ho m hm
    have h : (if vK V m = 5 then (LD z w V d (vA V m) s t || LD z w V d (vB V m) s t) else if vK V m = 6 then anb (fun r => LD z w V d (vA V m) s r && LD z w V d (vB V m) r t) (ns z) else lPl z w (vK V m) (vA V m) (vB V m) (vT V m) s t) = true := h
    by_cases e5 : 5 ≤ vK V m
    · obtain ⟨q1, q2, q3⟩ := o3 e5
      have m1 : vD V (vA V m) ≤ d := by have := Nat.le_max_left (vD V (vA V m)) (vD V (vB V m)); omega
      have m2 : vD V (vB V m) ≤ d := by have := Nat.le_max_right (vD V (vA V m)) (vD V (vB V m)); omega
      by_cases e : vK V m = 5
      · rw [if_pos e, Bool.or_eq_true] at h
        cases h with
        | inl h => exact LD_lt hx ho d _ (by omega) m1 s t hs h
        | inr h => exact LD_lt hx ho d _ (by omega) m2 s t hs h
      · rw [if_neg e, if_pos (by omega)] at h
        obtain ⟨i, hi, q⟩ := anb_t h
        rw [Bool.and_eq_true] at q
        exact LD_lt hx ho d _ (by omega) m2 i t hi q.2
    · rw [if_neg (by omega), if_neg (by omega)] at h
      exact lPl_lt hx hs (by omega) (o2 (by omega)).2.1 (o2 (by omega)).2.2 h
theorem LD_st (ho : okV z V nm) : ∀ d m, m < nm → vD V m ≤ d → ∀ s t, LD z w V (d + 1) m s t = LD z w V d m s t
  | 0, m, hm, hd, s, t => by
    obtain ⟨o1, o2, o3, o4, o5, o6⟩ := ho m hm
    have e : vK V m < 5 := by
      by_cases e : 5 ≤ vK V m
      · have := (o3 e).2.2; omega
      · omega
    show (if vK V m = 5 then _ else if vK V m = 6 then _ else _) = _
    rw [if_neg (by omega), if_neg (by omega)]
    rfl
  | d + 1, m, hm, hd, s, t => by
    obtain ⟨o1, o2, o3, o4, o5, o6⟩ := ho m hm
    show (if vK V m = 5 then _ else if vK V m = 6 then _ else _) = (if vK V m = 5 then _ else if vK V m = 6 then _ else _)
    by_cases e5 : 5 ≤ vK V m
    · obtain ⟨q1, q2, q3⟩ := o3 e5
      have m1 : vD V (vA V m) ≤ d := by have := Nat.le_max_left (vD V (vA V m)) (vD V (vB V m)); omega
      have m2 : vD V (vB V m) ≤ d := by have := Nat.le_max_right (vD V (vA V m)) (vD V (vB V m)); omega
      have f1 : ∀ s t, LD z w V (d + 1) (vA V m) s t = LD z w V d (vA V m) s t := LD_st ho d _ (by omega) m1
      have f2 : ∀ s t, LD z w V (d + 1) (vB V m) s t = LD z w V d (vB V m) s t := LD_st ho d _ (by omega) m2
      simp only [f1, f2]
    · rw [if_neg (by omega), if_neg (by omega), if_neg (by omega), if_neg (by omega)]
theorem LD_at (ho : okV z V nm) (hm : m < nm) : ∀ k, LD z w V (vD V m + k) m s t = lem z w V m s t
  | 0 => rfl
  | k + 1 => by
    rw [show vD V m + (k + 1) = (vD V m + k) + 1 from rfl, LD_st ho _ m hm (by omega)]
    exact LD_at ho hm k
theorem LD_ge (ho : okV z V nm) (hm : m < nm) (hd : vD V m ≤ d) : LD z w V d m s t = lem z w V m s t := by
  have := LD_at (w := w) (s := s) (t := t) ho hm (d - vD V m)
  rw [show vD V m + (d - vD V m) = d by omega] at this
  exact this
theorem lem_lt (hx : z ∈ OKZ) (ho : okV z V nm) (hm : m < nm) (hs : s < ns z) (h : lem z w V m s t = true) : t < ns z := LD_lt hx ho _ m hm (Nat.le_refl _) s t hs h
theorem lem_p (ho : okV z V nm) (hm : m < nm) (hk : vK V m < 5) : lem z w V m s t = lPl z w (vK V m) (vA V m) (vB V m) (vT V m) s t := by
  unfold lem
  rw [((ho m hm).2.1 hk).1]
  rfl
theorem lem_5 (ho : okV z V nm) (hm : m < nm) (h5 : vK V m = 5) : lem z w V m s t = (lem z w V (vA V m) s t || lem z w V (vB V m) s t) := by
  obtain ⟨q1, q2, q3⟩ := (ho m hm).2.2.1 (by omega)
  have m1 := Nat.le_max_left (vD V (vA V m)) (vD V (vB V m))
  have m2 := Nat.le_max_right (vD V (vA V m)) (vD V (vB V m))
  have e : lem z w V m s t = LD z w V (max (vD V (vA V m)) (vD V (vB V m)) + 1) m s t := by
    unfold lem
    rw [q3, Nat.add_comm 1]
  rw [e]
  show (if vK V m = 5 then _ else _) = _
  rw [if_pos h5, LD_ge ho (by omega) m1, LD_ge ho (by omega) m2]
theorem lem_6 (ho : okV z V nm) (hm : m < nm) (h6 : vK V m = 6) : lem z w V m s t = anb (fun r => lem z w V (vA V m) s r && lem z w V (vB V m) r t) (ns z) := by
  obtain ⟨q1, q2, q3⟩ := (ho m hm).2.2.1 (by omega)
  have m1 := Nat.le_max_left (vD V (vA V m)) (vD V (vB V m))
  have m2 := Nat.le_max_right (vD V (vA V m)) (vD V (vB V m))
  have e : lem z w V m s t = LD z w V (max (vD V (vA V m)) (vD V (vB V m)) + 1) m s t := by
    unfold lem
    rw [q3, Nat.add_comm 1]
  rw [e]
  show (if vK V m = 5 then _ else if vK V m = 6 then _ else _) = _
  rw [if_neg (by omega), if_pos h6]
  exact anb_cg (fun r _ => by rw [LD_ge ho (by omega) m1, LD_ge ho (by omega) m2])
end
section
variable {M M' M'' : Mm} {z : Zt} {w : Nat → Nat} {V : Mv} {c : Nat → Nat → Nat} {x n s t p m nm dep u k d : Nat}
theorem p_wy_l (h : Shp M) (hg : GeoC z M) (hw : WtC w M) (hs : s < ns z) (hp : p < np z) : ∀ (k i : Nat) (A : Int32), i ≤ zs z p → zs z p - i < k → Bm A (fun t => anb (fun v => decide (0 < w (il z s p v)) && decide (t = il z s p v)) i) → ∃ A', lp_X4_weighty_5 63 (nI s) (nI p) M k A (nI i) = some A' ∧ Bm A' (lLi z w p s)
  | 0, i, A, _, h2, _ => absurd h2 (by omega)
  | k + 1, i, A, h1, h2, hb => by
    have hz := gz_2 z hg.1 p hp
    have hp4 := gz_p hg.1 hp
    have hs16 := gz_n hg.1 hs
    rw [lp_X4_weighty_5, G_63_0 h, Option.bind_some, G_1_2 h, Option.bind_some, A_2 h hp4, Option.bind_some, hg.2.2.2.1 p hp4]
    by_cases e : i = zs z p
    · rw [if_pos (nI_le (by omega) (by omega))]
      subst e
      exact ⟨A, rfl, hb⟩
    · have hlt : i < zs z p := by omega
      have hil16 := gz_n hg.1 (gz_5 z hg.1 s hs p hp i hlt).1
      have kw := hw.1 (il z s p i)
      rw [if_neg (nI_ge hlt (by omega)), Option.bind_some, I_1 h, Option.bind_some, p_inLine h hg hs16 hp4, Option.bind_some, Option.bind_some, G_1_5 h, Option.bind_some, A_5 h hil16, Option.bind_some, hw.2 _ hil16, nI_1]
      have hB : Bm (if nI (w (il z s p i)) ≤ 0 then (0 : Int32) else (1 : Int32) <<< (nI (il z s p i) &&& 31)) (fun t => decide (0 < w (il z s p i)) && decide (t = il z s p i)) := by
        by_cases q : 0 < w (il z s p i)
        · rw [if_neg (nI_nle q (by omega))]
          exact Bm_cg (Bm_1 hil16) (fun j => by rw [decide_eq_true q]; rfl)
        · rw [if_pos (show nI (w (il z s p i)) ≤ (0 : Int32) by rw [show w (il z s p i) = 0 by omega]; decide)]
          exact Bm_cg Bm_0 (fun j => by rw [decide_eq_false q]; rfl)
      exact p_wy_l h hg hw hs hp k (i + 1) _ (by omega) (by omega) (Bm_or hb hB)
theorem p_weighty (h : Shp M) (hg : GeoC z M) (hw : WtC w M) (hs : s < ns z) (hp : p < np z) : ∃ A, f_X4_weighty 63 (nI s) (nI p) M = some A ∧ Bm A (lLi z w p s) := by
  have hz := gz_2 z hg.1 p hp
  unfold f_X4_weighty
  exact p_wy_l h hg hw hs hp FU 0 0 (by omega) (by unfold FU; omega) Bm_0
theorem p_proposed (h : Shp M) (hg : GeoC z M) (hw : WtC w M) (hs : s < ns z) (hu : u < ns z) : ∃ A, f_X4_proposed 63 (nI s) (nI u) M = some A ∧ Bm A (lPr w s u) := by
  have hs16 := gz_n hg.1 hs
  have hu16 := gz_n hg.1 hu
  have k1 := hw.1 s
  have k2 := hw.1 u
  unfold f_X4_proposed
  simp only [G_63_0 h, I_1 h, p_taken h hw hs16 hu16, G_1_5 h, A_5 h hu16, A_5 h hs16, Option.bind_some, hw.2 _ hs16, hw.2 _ hu16]
  refine ⟨_, rfl, Bm_or ?_ ?_⟩
  · have e : (0 < tk w s u) ↔ (w s = 0 ∨ 0 < w u) := by
      unfold tk
      by_cases q : w s = 0
      · rw [if_pos q]; omega
      · rw [if_neg q]
        by_cases q2 : w u < w s
        · rw [if_pos q2]; omega
        · rw [if_neg q2]; omega
    by_cases q : 0 < tk w s u
    · have hk : tk w s u ≤ 1000 := Nat.le_trans tk_le (al_in hw.1).2
      rw [if_neg (nI_nle q (by omega))]
      exact Bm_cg (Bm_1 hu16) (fun j => by rw [decide_eq_true (e.mp q)]; rfl)
    · rw [if_pos (show nI (tk w s u) ≤ (0 : Int32) by rw [show tk w s u = 0 by omega]; decide)]
      exact Bm_cg Bm_0 (fun j => by rw [decide_eq_false (fun q2 => q (e.mpr q2))]; rfl)
  · by_cases q : w u < w s
    · rw [if_neg (nI_ge q (by omega))]
      exact Bm_cg (Bm_1 hs16) (fun j => by rw [decide_eq_true q]; rfl)
    · rw [if_pos (nI_le (by omega) (by omega))]
      exact Bm_cg Bm_0 (fun j => by rw [decide_eq_false q]; rfl)
theorem p_toldProposed (h : Shp M) (hg : GeoC z M) (hw : WtC w M) (hm : m < 10) (htd : TdC m c (ns z) M) (hs : s < ns z) (hu : u < ns z) : ∃ A, f_X4_toldProposed 63 (7 + 5 * m) (nI s) (nI u) M = some A ∧ Bm A (lTp w c (ns z) s u) := by
  have h16 := (gz_1 z hg.1).2.1
  have hs16 := gz_n hg.1 hs
  have hu16 := gz_n hg.1 hu
  have k1 := hw.1 s
  have b1 := cX_le (s := s) (t := u) hw.1 htd.1 h16
  have b2 := cX_le (s := u) (t := s) hw.1 htd.1 h16
  unfold f_X4_toldProposed
  simp only [G_63_0 h, I_1 h, p_pull h hm hw htd h16 hs16 hu16, p_pull h hm hw htd h16 hu16 hs16, G_1_5 h, A_5 h hs16, Option.bind_some, hw.2 _ hs16]
  by_cases e1 : w s = 0
  · rw [e1, if_pos (show nI 0 = (0 : Int32) from rfl)]
    exact ⟨_, rfl, Bm_cg (Bm_1 hu16) (fun j => by unfold lTp; rw [if_pos e1])⟩
  · rw [if_neg (nI_ne0 (by omega) (by omega))]
    by_cases e2 : cX w c (ns z) s u = 0
    · have f0 : Bm ((1 : Int32) <<< (nI s &&& 31)) (lTp w c (ns z) s u) := Bm_cg (Bm_1 hs16) (fun j => by unfold lTp; rw [if_neg e1, if_pos e2])
      rw [e2]
      by_cases q : lN 0 < lN (cX w c (ns z) u s)
      · rw [if_pos q, if_pos (show lN 0 = (0 : Int64) from rfl)]
        exact ⟨_, rfl, f0⟩
      · rw [if_neg q, if_pos (show lN 0 ≤ (0 : Int64) by decide), if_pos (show lN 0 = (0 : Int64) from rfl)]
        exact ⟨_, rfl, f0⟩
    · have n0 : ¬ lN (cX w c (ns z) s u) = (0 : Int64) := fun q => e2 ((ln_eq0 (by omega)).mp q)
      by_cases q : cX w c (ns z) s u < cX w c (ns z) u s
      · rw [if_pos ((pk_lLT (by omega) (by omega)).mpr q), if_neg n0]
        exact ⟨_, rfl, Bm_cg (Bm_or (Bm_1 hu16) (Bm_1 hs16)) (fun j => by unfold lTp; rw [if_neg e1, if_neg e2, decide_eq_true q]; rfl)⟩
      · rw [if_neg (fun q2 => q ((pk_lLT (by omega) (by omega)).mp q2)), if_neg (show ¬ lN (cX w c (ns z) s u) ≤ (0 : Int64) by rw [l0, pk_lLE (by omega) (by decide)]; omega)]
        exact ⟨_, rfl, Bm_cg (Bm_1 hu16) (fun j => by unfold lTp; rw [if_neg e1, if_neg e2, decide_eq_false q, Bool.false_and, Bool.or_false])⟩
theorem p_to_l (h : Shp M) (hg : GeoC z M) (hw : WtC w M) (hm : m < 10) (htd : TdC m c (ns z) M) (hs : s < ns z) : ∀ (k i : Nat) (A : Int32), i ≤ ns z → ns z - i < k → Bm A (fun t => anb (fun u => decide (0 < c s u) && lTp w c (ns z) s u t) i) → ∃ A', lp_X4_toldOnward_18 63 (7 + 5 * m) (nI s) M k A (nI i) = some A' ∧ Bm A' (fun t => anb (fun u => decide (0 < c s u) && lTp w c (ns z) s u t) (ns z))
  | 0, i, A, _, h2, _ => absurd h2 (by omega)
  | k + 1, i, A, h1, h2, hb => by
    have h16 := (gz_1 z hg.1).2.1
    have hs16 := gz_n hg.1 hs
    rw [lp_X4_toldOnward_18, G_63_0 h, Option.bind_some, G_1_1 h, Option.bind_some, hg.2.2.1]
    by_cases e : i = ns z
    · rw [if_pos (nI_le (by omega) (by omega))]
      subst e
      exact ⟨A, rfl, hb⟩
    · have hlt : i < ns z := by omega
      have kc := htd.1 s i
      rw [if_neg (nI_ge hlt (by omega)), I_m h hm, Option.bind_some, p_toldOf h hm htd hs16 (by omega), Option.bind_some]
      simp only [op_jn]
      by_cases q : 0 < c s i
      · obtain ⟨B, b1, b2⟩ := p_toldProposed h hg hw hm htd hs hlt
        rw [if_neg (nI_nle q (by omega)), I_63 h, Option.bind_some, b1, Option.bind_some, nI_1]
        exact p_to_l h hg hw hm htd hs k (i + 1) _ (by omega) (by omega) (Bm_cg (Bm_or hb b2) (fun j => by show _ = (anb (fun u => decide (0 < c s u) && lTp w c (ns z) s u j) i || (decide (0 < c s i) && lTp w c (ns z) s i j)); rw [decide_eq_true q, Bool.true_and]))
      · rw [if_pos (show nI (c s i) ≤ (0 : Int32) by rw [show c s i = 0 by omega]; decide), nI_1]
        exact p_to_l h hg hw hm htd hs k (i + 1) _ (by omega) (by omega) (Bm_cg hb (fun j => by show _ = (anb (fun u => decide (0 < c s u) && lTp w c (ns z) s u j) i || (decide (0 < c s i) && lTp w c (ns z) s i j)); rw [decide_eq_false q, Bool.false_and, Bool.or_false]))
theorem p_toldOnward (h : Shp M) (hg : GeoC z M) (hw : WtC w M) (hm : m < 10) (htd : TdC m c (ns z) M) (hs : s < ns z) : ∃ A, f_X4_toldOnward 63 (7 + 5 * m) (nI s) M = some A ∧ Bm A (lTo w c (ns z) s) := by
  have h16 := (gz_1 z hg.1).2.1
  have hs16 := gz_n hg.1 hs
  have hl := cS_le (s := s) htd.1 h16
  unfold f_X4_toldOnward
  rw [G_m_7 h hm, Option.bind_some, A_m_1 h hm hs16, Option.bind_some, htd.2.2 s hs16]
  by_cases e : sm (c s) (ns z) = 0
  · rw [e, if_pos (show nI 0 = (0 : Int32) from rfl)]
    exact ⟨_, rfl, Bm_cg (Bm_1 hs16) (fun j => by unfold lTo; rw [if_pos e])⟩
  · rw [if_neg (nI_ne0 (by omega) (by omega))]
    obtain ⟨A, a1, a2⟩ := p_to_l h hg hw hm htd hs FU 0 0 (by omega) (by unfold FU; omega) Bm_0
    exact ⟨A, a1, Bm_cg a2 (fun j => by unfold lTo; rw [if_neg e])⟩
end
