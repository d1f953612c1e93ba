abbrev Mv : Type := (Nat → Nat) × (Nat → Nat) × (Nat → Nat) × (Nat → Nat) × (Nat → Nat) × (Nat → Nat) × (Nat → Nat → Nat → Nat)
def vK (V : Mv) : Nat → Nat := V.1
def vA (V : Mv) : Nat → Nat := V.2.1
def vB (V : Mv) : Nat → Nat := V.2.2.1
def vP (V : Mv) : Nat → Nat := V.2.2.2.1
def vQ (V : Mv) : Nat → Nat := V.2.2.2.2.1
def vD (V : Mv) : Nat → Nat := V.2.2.2.2.2.1
def vT (V : Mv) : Nat → Nat → Nat → Nat := V.2.2.2.2.2.2
def cyc (f g : Nat → Fq) : Nat → Fq
  | 0 => some (0, 1)
  | r + 1 => fadd (cyc f g r) (fmul (f r) (g r))
def CH (x : Zt) (w : Nat → Nat) (V : Mv) : Nat → Nat → Nat → Nat → Fq
  | 0, m, s, t => chP x w (vK V m) (vA V m) (vB V m) (vT V m) s t
  | d + 1, m, s, t => if vK V m = 5 then fadd (fmul (some (low (vP V m) (vP V m + vQ V m))) (CH x w V d (vA V m) s t)) (fmul (some (low (vQ V m) (vP V m + vQ V m))) (CH x w V d (vB V m) s t)) else if vK V m = 6 then cyc (fun r => CH x w V d (vA V m) s r) (fun r => CH x w V d (vB V m) r t) (ns x) else chP x w (vK V m) (vA V m) (vB V m) (vT V m) s t
def chm (x : Zt) (w : Nat → Nat) (V : Mv) (m s t : Nat) : Fq := CH x w V (vD V m) m s t
def okV (x : Zt) (V : Mv) (nm : Nat) : Prop := ∀ m, m < nm → vK V m ≤ 6 ∧ (vK V m < 5 → vD V m = 0 ∧ (vK V m ≠ 3 → vA V m < np x) ∧ (vK V m = 2 → vB V m < np x ∧ vA V m ≠ vB V m ∧ zs x (vA V m) = zs x (vB V m))) ∧ (5 ≤ vK V m → vA V m < m ∧ vB V m < m ∧ vD V m = 1 + max (vD V (vA V m)) (vD V (vB V m))) ∧ vD V m ≤ 2 ∧ (1 ≤ vP V m ∧ vP V m ≤ 100 ∧ 1 ≤ vQ V m ∧ vQ V m ≤ 100) ∧ ∀ s t, vT V m s t ≤ 100
section
variable {x : Zt} {w : Nat → Nat} {V : Mv} {nm m s t d : Nat}
theorem fr01 : frok (some (0, 1)) := fun a b e => by cases e; decide
theorem cyc_ok {f g : Nat → Fq} : ∀ n, (∀ r, r < n → frok (f r)) → (∀ r, r < n → frok (g r)) → frok (cyc f g n)
  | 0, _, _ => fr01
  | n + 1, h1, h2 => fadd_ok (cyc_ok n (fun r hr => h1 r (by omega)) (fun r hr => h2 r (by omega))) (fmul_ok (h1 n (by omega)) (h2 n (by omega)))
theorem chP_ok (hx : x ∈ OKZ) (hw : ∀ s, w s ≤ 1000) {k a b : Nat} {c : Nat → Nat → Nat} (hc : ∀ s t, c s t ≤ 100) (ha : k ≠ 3 → a < np x) (ht : t < ns x) : frok (chP x w k a b c s t) := by
  have hn := (gz_1 x hx).2.1
  have i1 : ∀ {q : Prop} [Decidable q], (if q then 1 else 0) < 2 ^ 63 := fun {q} _ => by by_cases e : q <;> simp [e]
  have pro : ∀ f g, frok (cPro w f g s t) := fun f g => by
    have hal := al_in (s := s) hw
    have q1 := tk_le (w := w) (s := s) (t := f)
    have q2 := tk_le (w := w) (s := s) (t := g)
    have b1 : (if t = f then tk w s f else 0) ≤ 1000 := by by_cases q : t = f <;> simp [q] <;> omega
    have b2 : (if t = g then tk w s g else 0) ≤ 1000 := by by_cases q : t = g <;> simp [q] <;> omega
    have b3 : (if t = s then 2 * al w s - tk w s f - tk w s g else 0) ≤ 2000 := by by_cases q : t = s <;> simp [q] <;> omega
    exact low_ok (by omega) (by omega) (by omega)
  unfold chP
  by_cases e0 : k = 0
  · have ha := ha (by omega)
    rw [if_pos e0]
    have hl := lsum_le (s := s) hw hx ha
    have k2 := hw t
    unfold cRed
    by_cases z : lsum x w s a = 0
    · rw [if_pos z]; exact low_ok (by omega) i1 (by omega)
    · rw [if_neg z]
      have : (if il x s a (vl x t a) = t then w t else 0) ≤ 1000 := by by_cases q : il x s a (vl x t a) = t <;> simp [q] <;> omega
      exact low_ok (by omega) (by omega) (by omega)
  · rw [if_neg e0]
    by_cases e1 : k = 1
    · rw [if_pos e1]; exact pro _ _
    · rw [if_neg e1]
      by_cases e2 : k = 2
      · rw [if_pos e2]; exact pro _ _
      · rw [if_neg e2]
        by_cases e3 : k = 3
        · rw [if_pos e3]
          unfold cTel
          by_cases e : s = t
          · rw [if_pos e]; exact (cTl_in hw hc hn (ns x) (Nat.le_refl _)).1
          · rw [if_neg e]; exact cTo_ok hw hc hn ht
        · rw [if_neg e3]
          unfold cSli
          have k1 := hw s
          by_cases z : w s = 0
          · rw [if_pos z]; exact low_ok (by omega) i1 (by omega)
          · rw [if_neg z]
            by_cases q : il x s a (vl x t a) = t
            · rw [if_pos q]
              have hb : (if w t < w s then w t else w s) ≤ 1000 := by by_cases q : w t < w s <;> simp [q] <;> omega
              have k3 := slN_le (x := x) (w := w) (s := s) (p := a) (n := if w t < w s then w t else w s)
              exact low_ok (by omega) (by omega) (by omega)
            · rw [if_neg q]; exact low_ok (by omega) i1 (by omega)
theorem CH_ok (hx : x ∈ OKZ) (hw : ∀ s, w s ≤ 1000) (ho : okV x V nm) : ∀ d m, m < nm → vD V m ≤ d → ∀ s t, s < ns x → t < ns x → frok (CH x w V d m s t)
  | 0, m, hm, hd, s, t, hs, ht => by
    obtain ⟨o1, o2, o3, o4, o5, o6⟩ := ho m hm
    by_cases e : 5 ≤ vK V m
    · have := (o3 e).2.2; omega
    · exact chP_ok hx hw (o6) (o2 (by omega)).2.1 ht
  | d + 1, m, hm, hd, s, t, hs, ht => by
    obtain ⟨o1, o2, o3, o4, o5, o6⟩ := ho m hm
    show frok (if vK V m = 5 then _ else if vK V m = 6 then _ else _)
    by_cases e5 : vK V m = 5
    · obtain ⟨q1, q2, q3⟩ := o3 (by omega)
      rw [if_pos e5]
      have m1 : vD V (vA V m) ≤ d := by have := Nat.le_max_left (vD V (vA V m)) (vD V (vB V m)); omega
      have m2 : vD V (vB V m) ≤ d := by have := Nat.le_max_right (vD V (vA V m)) (vD V (vB V m)); omega
      exact fadd_ok (fmul_ok (low_ok (by omega) (by omega) (by omega)) (CH_ok hx hw ho d _ (by omega) m1 s t hs ht)) (fmul_ok (low_ok (by omega) (by omega) (by omega)) (CH_ok hx hw ho d _ (by omega) m2 s t hs ht))
    · rw [if_neg e5]
      by_cases e6 : vK V m = 6
      · obtain ⟨q1, q2, q3⟩ := o3 (by omega)
        rw [if_pos e6]
        have m1 : vD V (vA V m) ≤ d := by have := Nat.le_max_left (vD V (vA V m)) (vD V (vB V m)); omega
        have m2 : vD V (vB V m) ≤ d := by have := Nat.le_max_right (vD V (vA V m)) (vD V (vB V m)); omega
        exact cyc_ok (ns x) (fun r hr => CH_ok hx hw ho d _ (by omega) m1 s r hs hr) (fun r hr => CH_ok hx hw ho d _ (by omega) m2 r t hr ht)
      · rw [if_neg e6]
        exact chP_ok hx hw o6 (o2 (by omega)).2.1 ht
theorem CH_st (ho : okV x V nm) : ∀ d m, m < nm → vD V m ≤ d → ∀ s t, CH x w V (d + 1) m s t = CH x w V d m s t
  | 0, m, hm, hd, s, t => by
    obtain ⟨o1, o2, o3, o4, o5, o6⟩ := ho m hm
    have e : vK V m < 5 := by
      by_cases e : 5 ≤ vK V m
      · have := (o3 e).2.2; omega
      · omega
    show (if vK V m = 5 then _ else if vK V m = 6 then _ else _) = _
    rw [if_neg (by omega), if_neg (by omega)]
    rfl
  | d + 1, m, hm, hd, s, t => by
    obtain ⟨o1, o2, o3, o4, o5, o6⟩ := ho m hm
    show (if vK V m = 5 then _ else if vK V m = 6 then _ else _) = (if vK V m = 5 then _ else if vK V m = 6 then _ else _)
    by_cases e5 : 5 ≤ vK V m
    · obtain ⟨q1, q2, q3⟩ := o3 e5
      have m1 : vD V (vA V m) ≤ d := by have := Nat.le_max_left (vD V (vA V m)) (vD V (vB V m)); omega
      have m2 : vD V (vB V m) ≤ d := by have := Nat.le_max_right (vD V (vA V m)) (vD V (vB V m)); omega
      have f1 : ∀ s t, CH x w V (d + 1) (vA V m) s t = CH x w V d (vA V m) s t := CH_st ho d _ (by omega) m1
      have f2 : ∀ s t, CH x w V (d + 1) (vB V m) s t = CH x w V d (vB V m) s t := CH_st ho d _ (by omega) m2
      simp only [f1, f2]
    · rw [if_neg (by omega), if_neg (by omega), if_neg (by omega), if_neg (by omega)]
theorem CH_at (ho : okV x V nm) (hm : m < nm) : ∀ k, CH x w V (vD V m + k) m s t = chm x w V m s t
  | 0 => rfl
  | k + 1 => by
    rw [show vD V m + (k + 1) = (vD V m + k) + 1 from rfl, CH_st ho _ m hm (by omega)]
    exact CH_at ho hm k
theorem CH_ge (ho : okV x V nm) (hm : m < nm) (hd : vD V m ≤ d) : CH x w V d m s t = chm x w V m s t := by
  have := CH_at (w := w) (s := s) (t := t) ho hm (d - vD V m)
  rw [show vD V m + (d - vD V m) = d by omega] at this
  exact this
theorem chm_ok (hx : x ∈ OKZ) (hw : ∀ s, w s ≤ 1000) (ho : okV x V nm) (hm : m < nm) (hs : s < ns x) (ht : t < ns x) : frok (chm x w V m s t) := CH_ok hx hw ho _ m hm (Nat.le_refl _) s t hs ht
theorem chm_5 (ho : okV x V nm) (hm : m < nm) (h5 : vK V m = 5) : chm x w V m s t = fadd (fmul (some (low (vP V m) (vP V m + vQ V m))) (chm x w V (vA V m) s t)) (fmul (some (low (vQ V m) (vP V m + vQ V m))) (chm x w V (vB V m) s t)) := by
  obtain ⟨q1, q2, q3⟩ := (ho m hm).2.2.1 (by omega)
  have m1 := Nat.le_max_left (vD V (vA V m)) (vD V (vB V m))
  have m2 := Nat.le_max_right (vD V (vA V m)) (vD V (vB V m))
  unfold chm
  rw [q3, Nat.add_comm 1]
  show (if vK V m = 5 then _ else _) = _
  rw [if_pos h5, CH_ge ho (by omega) m1, CH_ge ho (by omega) m2]
  rfl
theorem cyc_cg {f g f' g' : Nat → Fq} : ∀ n, (∀ r, r < n → f r = f' r ∧ g r = g' r) → cyc f g n = cyc f' g' n
  | 0, _ => rfl
  | n + 1, h => by
    show fadd (cyc f g n) (fmul (f n) (g n)) = fadd (cyc f' g' n) (fmul (f' n) (g' n))
    rw [cyc_cg n (fun r hr => h r (by omega)), (h n (by omega)).1, (h n (by omega)).2]
theorem chm_6 (ho : okV x V nm) (hm : m < nm) (h6 : vK V m = 6) : chm x w V m s t = cyc (fun r => chm x w V (vA V m) s r) (fun r => chm x w V (vB V m) r t) (ns x) := by
  obtain ⟨q1, q2, q3⟩ := (ho m hm).2.2.1 (by omega)
  have m1 := Nat.le_max_left (vD V (vA V m)) (vD V (vB V m))
  have m2 := Nat.le_max_right (vD V (vA V m)) (vD V (vB V m))
  unfold chm
  rw [q3, Nat.add_comm 1]
  show (if vK V m = 5 then _ else if vK V m = 6 then _ else _) = _
  rw [if_neg (by omega), if_pos h6]
  exact cyc_cg _ (fun r _ => ⟨CH_ge ho (by omega) m1, CH_ge ho (by omega) m2⟩)
theorem chm_p (ho : okV x V nm) (hm : m < nm) (h5 : vK V m < 5) : chm x w V m s t = chP x w (vK V m) (vA V m) (vB V m) (vT V m) s t := by
  unfold chm
  rw [((ho m hm).2.1 h5).1]
  rfl
end
