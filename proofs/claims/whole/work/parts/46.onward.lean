section
variable {M M' M'' : Mm} {z : Zt} {w : Nat → Nat} {V : Mv} {c : Nat → Nat → Nat} {x n s t p m nm dep u k d : Nat}
theorem p_onwP (h : Shp M) (hr : RW z w V nm M) (hm : m < nm) (hs : s < ns z) (hd : dep ≤ 2) (hk : vK V m < 5) : ∃ A, f_X4_onward (d + 1) 63 (nI m) (nI s) (nI dep) M = some A ∧ Bm A (lem z w V m s) := by
  obtain ⟨hg, hw, ho, hn, hmv⟩ := hr
  have hm10 : m < 10 := by omega
  have hs16 := gz_n hg.1 hs
  obtain ⟨b0, b1, b2, b3, b4, b5, b6⟩ := hmv.2 m hm
  obtain ⟨o1, o2, o3, o4, o5, o6⟩ := ho m hm
  have hdp : nI dep ≤ (2 : Int32) := nI_le (b := 2) hd (by omega)
  have kw := hw.1 s
  rw [f_X4_onward, if_pos hdp, G_63_1 h, Option.bind_some, A_6 h hm10, Option.bind_some, G_m_0 h hm10, Option.bind_some, b0]
  by_cases e0 : vK V m = 0
  · have hp := (o2 (by omega)).2.1 (by omega)
    have hl := lsum_le (s := s) hw.1 hg.1 hp
    rw [e0, if_pos (show nI 0 = (0 : Int32) from rfl), G_63_0 h, Option.bind_some, G_m_1 h hm10, Option.bind_some, I_1 h, Option.bind_some, b1 (by omega), p_lineSum h hg hw hs hp, Option.bind_some]
    by_cases q : lsum z w s (vA V m) = 0
    · rw [q, if_pos (show nI 0 = (0 : Int32) from rfl)]
      exact ⟨_, rfl, Bm_cg (Bm_1 hs16) (fun j => by rw [lem_p ho hm hk]; unfold lPl; rw [if_pos e0, if_pos q])⟩
    · obtain ⟨A, a1, a2⟩ := p_weighty h hg hw hs hp
      rw [if_neg (nI_ne0 (by omega) (by omega)), Option.bind_some, I_63 h, Option.bind_some, a1, Option.bind_some]
      exact ⟨A, rfl, Bm_cg a2 (fun j => by rw [lem_p ho hm hk]; unfold lPl; rw [if_pos e0, if_neg q])⟩
  · by_cases e1 : vK V m = 1
    · have hp := (o2 (by omega)).2.1 (by omega)
      have hx1 := gz_9 z hg.1 s hs (vA V m) hp
      obtain ⟨A, a1, a2⟩ := p_proposed h hg hw hs hx1.1
      obtain ⟨B, c1, c2⟩ := p_proposed h hg hw hs hx1.2
      rw [e1, if_neg (show ¬ nI 1 = (0 : Int32) by decide), if_pos (show nI 1 = (1 : Int32) from rfl)]
      simp only [G_63_0 h, G_m_1 h hm10, I_1 h, b1 (show vK V m ≠ 3 by omega), p_next h hg hs hp, I_63 h, a1, p_before h hg hs hp, c1, Option.bind_some]
      exact ⟨_, rfl, Bm_cg (Bm_or a2 c2) (fun j => by rw [lem_p ho hm hk]; unfold lPl; rw [if_neg e0, if_pos e1])⟩
    · by_cases e2 : vK V m = 2
      · have hp := (o2 (by omega)).2.1 (by omega)
        obtain ⟨hb, hab, hz⟩ := (o2 (by omega)).2.2 e2
        have hx1 := (gz_8 z hg.1 s hs _ hp _ hb hab hz).2.1
        obtain ⟨A, a1, a2⟩ := p_proposed h hg hw hs hx1
        rw [e2, if_neg (show ¬ nI 2 = (0 : Int32) by decide), if_neg (show ¬ nI 2 = (1 : Int32) by decide), if_pos (show nI 2 = (2 : Int32) from rfl), G_63_0 h, Option.bind_some, G_m_1 h hm10, Option.bind_some, G_m_2 h hm10, Option.bind_some, I_1 h, Option.bind_some, b1 (by omega), b2 (by omega), p_exchanged h hg hs hp hb hab hz, Option.bind_some, I_63 h, Option.bind_some, a1, Option.bind_some]
        exact ⟨A, rfl, Bm_cg a2 (fun j => by rw [lem_p ho hm hk]; unfold lPl; rw [if_neg e0, if_neg e1, if_pos e2])⟩
      · by_cases e3 : vK V m = 3
        · obtain ⟨A, a1, a2⟩ := p_toldOnward h hg hw hm10 b6 hs
          rw [e3, if_neg (show ¬ nI 3 = (0 : Int32) by decide), if_neg (show ¬ nI 3 = (1 : Int32) by decide), if_neg (show ¬ nI 3 = (2 : Int32) by decide), if_pos (show nI 3 = (3 : Int32) from rfl), I_63 h, Option.bind_some, a1, Option.bind_some]
          exact ⟨A, rfl, Bm_cg a2 (fun j => by rw [lem_p ho hm hk]; unfold lPl; rw [if_neg e0, if_neg e1, if_neg e2, if_pos e3])⟩
        · have e4 : vK V m = 4 := by omega
          have hp := (o2 (by omega)).2.1 (by omega)
          rw [e4, if_neg (show ¬ nI 4 = (0 : Int32) by decide), if_neg (show ¬ nI 4 = (1 : Int32) by decide), if_neg (show ¬ nI 4 = (2 : Int32) by decide), if_neg (show ¬ nI 4 = (3 : Int32) by decide), if_pos (show nI 4 = (4 : Int32) from rfl), G_63_0 h, Option.bind_some, G_1_5 h, Option.bind_some, A_5 h hs16, Option.bind_some, hw.2 s hs16]
          by_cases q : w s = 0
          · rw [q, if_pos (show nI 0 = (0 : Int32) from rfl)]
            exact ⟨_, rfl, Bm_cg (Bm_1 hs16) (fun j => by rw [lem_p ho hm hk]; unfold lPl; rw [if_neg e0, if_neg e1, if_neg e2, if_neg e3, if_pos q])⟩
          · obtain ⟨A, a1, a2⟩ := p_weighty h hg hw hs hp
            rw [if_neg (nI_ne0 (by omega) (by omega)), G_m_1 h hm10, Option.bind_some, I_63 h, Option.bind_some, b1 (by omega), a1, Option.bind_some]
            exact ⟨A, rfl, Bm_cg a2 (fun j => by rw [lem_p ho hm hk]; unfold lPl; rw [if_neg e0, if_neg e1, if_neg e2, if_neg e3, if_neg q])⟩
theorem p_cyl_l {rc : Nat → Int32 → Int32 → Int32 → Mm → Option Int32} {Z : Int32} {fa : Nat → Bool} {fb : Nat → Nat → Bool} (h : Shp M) (hg : GeoC z M) (hm : m < 10) {b : Nat} (hb : mm_I M (7 + 5 * m) 2 = nI b) (hZ : Bm Z fa) (hrc : ∀ r, r < ns z → ∃ B, rc 63 (nI b) (nI r) (nI (dep + 1)) M = some B ∧ Bm B (fb r)) : ∀ (k i : Nat) (A : Int32), i ≤ ns z → ns z - i < k → Bm A (fun t => anb (fun r => fa r && fb r t) i) → ∃ A', lp_X4_cycled_20 rc 63 (7 + 5 * m) (nI dep) Z M k A (nI i) = some A' ∧ Bm A' (fun t => anb (fun r => fa r && fb r t) (ns z))
  | 0, i, A, _, h2, _ => absurd h2 (by omega)
  | k + 1, i, A, h1, h2, hA => by
    have h16 := (gz_1 z hg.1).2.1
    rw [lp_X4_cycled_20, G_63_0 h, Option.bind_some, G_1_1 h, Option.bind_some, hg.2.2.1]
    by_cases e : i = ns z
    · rw [if_pos (nI_le (by omega) (by omega))]
      subst e
      exact ⟨A, rfl, hA⟩
    · have hlt : i < ns z := by omega
      rw [if_neg (nI_ge hlt (by omega))]
      simp only [op_jn]
      rw [Bm_b hZ (show i < 16 by omega)]
      by_cases q : fa i = true
      · obtain ⟨B, c1, c2⟩ := hrc i hlt
        rw [if_pos q, if_pos rfl, G_m_2 h hm, Option.bind_some, I_63 h, Option.bind_some, hb, nI_1, c1, Option.bind_some, nI_1]
        exact p_cyl_l h hg hm hb hZ hrc k (i + 1) _ (by omega) (by omega) (Bm_cg (Bm_or hA c2) (fun j => by show _ = (anb (fun r => fa r && fb r j) i || (fa i && fb i j)); rw [q, Bool.true_and]))
      · rw [if_neg q, if_neg (show ¬ (0 : Int32) = 1 by decide), nI_1]
        have q' : fa i = false := by cases e2 : fa i with
          | false => rfl
          | true => exact absurd e2 q
        exact p_cyl_l h hg hm hb hZ hrc k (i + 1) _ (by omega) (by omega) (Bm_cg hA (fun j => by show _ = (anb (fun r => fa r && fb r j) i || (fa i && fb i j)); rw [q', Bool.false_and, Bool.or_false]))
theorem p_onward (h : Shp M) (hr : RW z w V nm M) : ∀ (d m s dep : Nat), m < nm → s < ns z → vD V m + dep ≤ 2 → vD V m ≤ d → ∃ A, f_X4_onward (d + 1) 63 (nI m) (nI s) (nI dep) M = some A ∧ Bm A (lem z w V m s) := by
  intro d
  induction d with
  | zero =>
    intro m s dep hm hs hd hl
    have hk : vK V m < 5 := by
      obtain ⟨o1, o2, o3, -⟩ := hr.2.2.1 m hm
      by_cases e : 5 ≤ vK V m
      · have := (o3 e).2.2; omega
      · omega
    exact p_onwP h hr hm hs (by omega) hk
  | succ d ih =>
    intro m s dep hm hs hd hl
    by_cases hk : vK V m < 5
    · exact p_onwP h hr hm hs (by omega) hk
    · obtain ⟨hg, hw, ho, hn, hmv⟩ := hr
      have hm10 : m < 10 := by omega
      obtain ⟨o1, o2, o3, o4, o5, o6⟩ := ho m hm
      obtain ⟨b0, b1, b2, b3, b4, b5, b6⟩ := hmv.2 m hm
      obtain ⟨ha, hb, hdd⟩ := o3 (by omega)
      have m1 := Nat.le_max_left (vD V (vA V m)) (vD V (vB V m))
      have m2 := Nat.le_max_right (vD V (vA V m)) (vD V (vB V m))
      have key : ∀ {C' : Nat}, vK V m ≠ C' → C' < 10 → ¬ nI (vK V m) = nI C' := fun hne hc e => hne ((nI_eq (by omega) (by omega)).mp e)
      obtain ⟨A, a1, a2⟩ := ih (vA V m) s (dep + 1) (by omega) hs (by omega) (by omega)
      rw [f_X4_onward, if_pos (show nI dep ≤ (2 : Int32) from nI_le (b := 2) (by omega) (by omega)), G_63_1 h, Option.bind_some, A_6 h hm10, Option.bind_some, G_m_0 h hm10, Option.bind_some, b0, if_neg (show ¬ nI (vK V m) = (0 : Int32) from key (C' := 0) (by omega) (by omega)), if_neg (show ¬ nI (vK V m) = (1 : Int32) from key (C' := 1) (by omega) (by omega)), if_neg (show ¬ nI (vK V m) = (2 : Int32) from key (C' := 2) (by omega) (by omega)), if_neg (show ¬ nI (vK V m) = (3 : Int32) from key (C' := 3) (by omega) (by omega)), if_neg (show ¬ nI (vK V m) = (4 : Int32) from key (C' := 4) (by omega) (by omega))]
      by_cases e5 : vK V m = 5
      · obtain ⟨B, c1, c2⟩ := ih (vB V m) s (dep + 1) (by omega) hs (by omega) (by omega)
        rw [if_pos (show nI (vK V m) = (5 : Int32) by rw [e5]; rfl), G_m_1 h hm10, Option.bind_some, I_63 h, Option.bind_some, b1 (by omega), nI_1, a1, Option.bind_some, G_m_2 h hm10, Option.bind_some, Option.bind_some, b2 (by omega), c1, Option.bind_some]
        exact ⟨_, rfl, Bm_cg (Bm_or a2 c2) (fun j => by rw [lem_5 ho hm e5])⟩
      · have e6 : vK V m = 6 := by omega
        rw [if_neg (show ¬ nI (vK V m) = (5 : Int32) from key (C' := 5) e5 (by omega)), I_63 h, Option.bind_some]
        unfold f_X4_cycled
        rw [G_m_1 h hm10, Option.bind_some, I_63 h, Option.bind_some, b1 (by omega), nI_1, a1, Option.bind_some]
        have h16 := (gz_1 z hg.1).2.1
        obtain ⟨B, c1, c2⟩ := p_cyl_l (dep := dep) (fb := lem z w V (vB V m)) h hg hm10 (b2 (by omega)) a2 (fun r hrr => ih (vB V m) r (dep + 1) (by omega) hrr (by omega) (by omega)) FU 0 0 (by omega) (by unfold FU; omega) Bm_0
        rw [show (0 : Int32) = nI 0 from rfl] at c1 ⊢
        rw [c1, Option.bind_some]
        exact ⟨B, rfl, Bm_cg c2 (fun j => by rw [lem_6 ho hm e6])⟩
end
def Rch (L : Nat → Nat → Bool) (s t : Nat) : Prop := ∀ P : Nat → Prop, P s → (∀ a b, P a → L a b = true → P b) → P t
def Clo (L : Nat → Nat → Bool) (s : Nat) (f : Nat → Bool) : Prop := f s = true ∧ (∀ t, f t = true → Rch L s t) ∧ ∀ a b, f a = true → L a b = true → f b = true
section
variable {L : Nat → Nat → Bool} {s t n : Nat} {f g : Nat → Bool}
theorem Rch.st {a b : Nat} (h : Rch L s a) (e : L a b = true) : Rch L s b := fun P p0 p1 => p1 a b (h P p0 p1) e
theorem Clo_un (h1 : Clo L s f) (h2 : Clo L s g) : f = g := by
  have key : ∀ {f g : Nat → Bool}, Clo L s f → Clo L s g → ∀ t, f t = true → g t = true := fun a b t e => a.2.1 t e (fun t => _ = true) b.1 (fun x y q e2 => b.2.2 x y q e2)
  funext t
  cases e : f t with
  | true => exact (key h1 h2 t e).symm
  | false =>
    cases e2 : g t with
    | false => rfl
    | true => have := key h2 h1 t e2; rw [e] at this; exact this
theorem cnt_le : ∀ n, cnt f n ≤ n
  | 0 => Nat.le_refl _
  | n + 1 => by
    have := cnt_le n
    show cnt f n + (if f n = true then 1 else 0) ≤ n + 1
    by_cases e : f n = true
    · rw [if_pos e]; omega
    · rw [if_neg e]; omega
theorem cnt_full : ∀ {n : Nat}, n ≤ cnt f n → ∀ j, j < n → f j = true
  | 0, _, j, hj => absurd hj (by omega)
  | n + 1, h, j, hj => by
    have h : n + 1 ≤ cnt f n + (if f n = true then 1 else 0) := h
    have hl := cnt_le (f := f) n
    by_cases e : f n = true
    · rw [if_pos e] at h
      by_cases ej : j = n
      · subst ej; exact e
      · exact cnt_full (n := n) (by omega) j (by omega)
    · rw [if_neg e] at h; omega
theorem cnt_cg : ∀ {n : Nat}, (∀ j, j < n → f j = g j) → cnt f n = cnt g n
  | 0, _ => rfl
  | n + 1, h => by
    show cnt f n + (if f n = true then 1 else 0) = cnt g n + (if g n = true then 1 else 0)
    rw [cnt_cg (fun j hj => h j (by omega)), h n (by omega)]
theorem cnt_mo : ∀ {n : Nat}, (∀ j, g j = true → f j = true) → cnt g n ≤ cnt f n
  | 0, _ => Nat.le_refl _
  | n + 1, h => by
    have := cnt_mo (n := n) h
    show cnt g n + (if g n = true then 1 else 0) ≤ cnt f n + (if f n = true then 1 else 0)
    by_cases e : g n = true
    · rw [if_pos e, if_pos (h n e)]; omega
    · rw [if_neg e]; omega
theorem cnt_st : ∀ {n : Nat}, (∀ j, g j = true → f j = true) → t < n → f t = true → g t = false → cnt g n < cnt f n
  | 0, _, h, _, _ => absurd h (by omega)
  | n + 1, h, ht, e1, e2 => by
    show cnt g n + (if g n = true then 1 else 0) < cnt f n + (if f n = true then 1 else 0)
    by_cases e : t = n
    · subst e
      have := cnt_mo (n := t) h
      rw [if_pos e1, if_neg (by rw [e2]; decide)]
      omega
    · have := cnt_st (n := n) h (by omega) e1 e2
      by_cases q : g n = true
      · rw [if_pos q, if_pos (h n q)]; omega
      · rw [if_neg q]; omega
theorem cnt_ge {m : Nat} (hf : ∀ j, f j = true → j < n) : ∀ k, cnt f (n + k) = cnt f n
  | 0 => rfl
  | k + 1 => by
    show cnt f (n + k) + (if f (n + k) = true then 1 else 0) = cnt f n
    rw [if_neg (fun e => by have := hf _ e; omega), cnt_ge (m := m) hf k, Nat.add_zero]
end
section
variable {M M' M'' : Mm} {z : Zt} {w : Nat → Nat} {V : Mv} {x n s t p m nm dep u k d : Nat}
theorem p_all_l (h : Shp M) (hr : RW z w V nm M) (hm : m < nm) : ∀ (k i : Nat) (A B : Int32) (f g : Nat → Bool), i ≤ 16 → 16 - i < k → Bm A f → Bm B g → f s = true → (∀ t, f t = true → t < ns z ∧ Rch (lem z w V m) s t) → (∀ t, g t = true → f t = true) → (∀ a b, g a = true → lem z w V m a b = true → f b = true) → i ≤ cnt g 16 → ∃ A' f', lp_X4_allFrom_10 63 (nI m) M k A B (nI i) = some A' ∧ Bm A' f' ∧ Clo (lem z w V m) s f' ∧ ∀ t, f' t = true → t < ns z
  | 0, i, A, B, f, g, _, h2, _, _, _, _, _, _, _ => absurd h2 (by omega)
  | k + 1, i, A, B, f, g, h1, h2, hA, hB, hs, hf, hg, hc, hi => by
    have h16 := (gz_1 z hr.1.1).2.1
    rw [lp_X4_allFrom_10]
    by_cases e : i = 16
    · rw [if_pos (show (16 : Int32) ≤ nI i by rw [e]; decide)]
      have full := cnt_full (f := g) (n := 16) (by omega)
      exact ⟨A, f, rfl, hA, ⟨hs, fun t q => (hf t q).2, fun a b q1 q2 => hc a b (full a (by have := (hf a q1).1; omega)) q2⟩, fun t q => (hf t q).1⟩
    · rw [if_neg (show ¬ (16 : Int32) ≤ nI i from nI_ge (a := i) (b := 16) (by omega) (by omega))]
      by_cases eq : B = A
      · rw [if_pos eq]
        have fg : ∀ t, f t = g t := fun t => by rw [← hA t, ← hB t, eq]
        exact ⟨A, f, rfl, hA, ⟨hs, fun t q => (hf t q).2, fun a b q1 q2 => hc a b (by rw [← fg a]; exact q1) q2⟩, fun t q => (hf t q).1⟩
      · have hD := Bm_d hA hB (fun j q => by have := (hf j q).1; omega)
        have h0 : A &&& (B ^^^ (-1 : Int32)) ≠ 0 := fun q => eq (Bm_eq hB hA (funext fun j => by
          have q2 := hD j
          rw [q, Bm_0 j] at q2
          have q2 : false = (f j && !g j) := q2
          cases ef : f j with
          | false =>
            cases eg : g j with
            | false => rfl
            | true => have := hg j eg; rw [ef] at this; exact this.symm
          | true =>
            cases eg : g j with
            | true => rfl
            | false => rw [ef, eg] at q2; exact absurd q2 (by decide)))
        obtain ⟨t, t1, t2, t3⟩ := p_ntz hD (fun j q => by
          rw [Bool.and_eq_true] at q
          have := (hf j q.1).1
          omega) h0
        rw [Bool.and_eq_true] at t2
        have tf := hf t t2.1
        have tg : g t = false := by
          have := t2.2
          cases eg : g t with
          | false => rfl
          | true => rw [eg] at this; exact absurd this (by decide)
        have hd := dpt hr.2.2.1 hm
        obtain ⟨C, c1, c2⟩ := p_onward h hr 3 m t 0 hm tf.1 (by omega) (by omega)
        rw [if_neg eq, t3, Option.bind_some, I_63 h, Option.bind_some, show (0 : Int32) = nI 0 from rfl, c1, Option.bind_some, nI_1]
        refine p_all_l h hr hm k (i + 1) _ _ _ _ (by omega) (by omega) (Bm_or hA c2) (Bm_or hB (Bm_1 t1)) ?_ ?_ ?_ ?_ ?_
        · show (f s || _) = true
          rw [hs, Bool.true_or]
        · intro j q
          have q : (f j || lem z w V m t j) = true := q
          rw [Bool.or_eq_true] at q
          cases q with
          | inl q => exact hf j q
          | inr q => exact ⟨lem_lt hr.1.1 hr.2.2.1 hm tf.1 q, tf.2.st q⟩
        · intro j q
          have q : (g j || decide (j = t)) = true := q
          show (f j || lem z w V m t j) = true
          rw [Bool.or_eq_true] at q ⊢
          cases q with
          | inl q => exact Or.inl (hg j q)
          | inr q => exact Or.inl (by rw [of_decide_eq_true q]; exact t2.1)
        · intro a b q1 q2
          have q1 : (g a || decide (a = t)) = true := q1
          show (f b || lem z w V m t b) = true
          rw [Bool.or_eq_true] at q1 ⊢
          cases q1 with
          | inl q => exact Or.inl (hc a b q q2)
          | inr q => rw [of_decide_eq_true q] at q2; exact Or.inr q2
        · have := cnt_st (n := 16) (t := t) (g := g) (f := fun j => g j || decide (j = t)) (fun j q => by show (g j || _) = true; rw [q, Bool.true_or]) t1 (by show (g t || decide (t = t)) = true; rw [decide_eq_true rfl, Bool.or_true]) tg
          omega
theorem p_allFrom (h : Shp M) (hr : RW z w V nm M) (hm : m < nm) (hs : s < ns z) : ∃ A f, f_X4_allFrom 63 (nI m) (nI s) M = some A ∧ Bm A f ∧ Clo (lem z w V m) s f ∧ ∀ t, f t = true → t < ns z := by
  unfold f_X4_allFrom
  have hs16 := gz_n hr.1.1 hs
  exact p_all_l h hr hm FU 0 _ 0 _ _ (by omega) (by unfold FU; omega) (Bm_1 hs16) Bm_0 (decide_eq_true rfl) (fun t q => by rw [of_decide_eq_true q]; exact ⟨hs, fun P p0 _ => p0⟩) (fun t q => absurd q (by decide)) (fun a b q => absurd q (by decide)) (Nat.zero_le _)
theorem p_count {A : Int32} {f : Nat → Bool} (hA : Bm A f) (hx : z ∈ OKZ) (hf : ∀ t, f t = true → t < ns z) : f_J6_bitCount_0f7a4 A = some (nI (cnt f (ns z))) := by
  have h16 := (gz_1 z hx).2.1
  obtain ⟨a, ha, rfl, e⟩ := Bm_n hA (fun j q => by have := hf j q; omega)
  rw [p_bc ha, cnt_cg (g := f) (fun j _ => e j)]
  have := cnt_ge (m := 0) hf (16 - ns z)
  rw [show ns z + (16 - ns z) = 16 by omega] at this
  rw [this]
end
