def fR (L : Nat → Nat → Bool) (f : Nat → Bool) (r : Nat) : Nat → Bool := fun j => f j || (f r && L r j)
def ps (L : Nat → Nat → Bool) (f : Nat → Bool) : Nat → Nat → Bool
  | 0 => f
  | r + 1 => fR L (ps L f r) r
section
variable {L : Nat → Nat → Bool} {s t n r : Nat} {f g : Nat → Bool}
theorem fR_up (h : f t = true) : fR L f r t = true := by unfold fR; rw [h, Bool.true_or]
theorem ps_up {a : Nat} : ∀ k, ps L f a t = true → ps L f (a + k) t = true
  | 0, h => h
  | k + 1, h => fR_up (ps_up k h)
theorem ps_in (h : f t = true) (r : Nat) : ps L f r t = true := by
  have := ps_up (L := L) (f := f) (t := t) (a := 0) r h
  rw [Nat.zero_add] at this
  exact this
theorem ps_ok {P : Nat → Prop} (hP : ∀ a b, P a → L a b = true → P b) (h : ∀ t, f t = true → P t) : ∀ r t, ps L f r t = true → P t
  | 0, t, q => h t q
  | r + 1, t, q => by
    have q : (ps L f r t || (ps L f r r && L r t)) = true := q
    rw [Bool.or_eq_true, Bool.and_eq_true] at q
    cases q with
    | inl q => exact ps_ok hP h r t q
    | inr q => exact hP r t (ps_ok hP h r r q.1) q.2
theorem ps_cl {a b : Nat} (ha : a < n) (h : f a = true) (e : L a b = true) : ps L f n b = true := by
  have h1 : ps L f (a + 1) b = true := by
    show (ps L f a b || (ps L f a a && L a b)) = true
    rw [ps_in h a, e, Bool.true_and, Bool.or_true]
  have := ps_up (L := L) (f := f) (t := b) (n - (a + 1)) h1
  rw [show a + 1 + (n - (a + 1)) = n by omega] at this
  exact this
end
section
variable {M M' M'' : Mm} {z : Zt} {w : Nat → Nat} {V : Mv} {c : Nat → Nat → Nat} {x n s t p m nm j u k d r : Nat} {f g : Nat → Bool}
theorem m_r164 (K : Int32 → Option (Int32 × Mm)) (i4 : Int32) (h : Shp M) (hg : GeoM z M) (hm : m < 10) (hL : LeV z w V m M) (hlt : ∀ a b, a < ns z → lem z w V m a b = true → b < ns z) (hr : r < ns z) (hfr : f r = true) : ∀ (k i : Nat) (A : Int32), i ≤ ns z → ns z - i < k → Bm A (fun j => f j || (f r && (lem z w V m r j && decide (j < i)))) → ∃ A', lp_X7_reach_164 K 66 (nI m) i4 (nI r) M k A (nI i) = K A' ∧ Bm A' (fR (lem z w V m) f r)
  | 0, i, A, _, h2, _ => absurd h2 (by omega)
  | k + 1, i, A, h1, h2, hA => by
    have h16 := (gz_1 z hg.1).2.1
    have hr16 := gz_n hg.1 hr
    rw [lp_X7_reach_164, G_66_2 h, Option.bind_some, hg.2.2.1]
    by_cases e : i = ns z
    · rw [if_pos (nI_le (by omega) (by omega))]
      refine ⟨A, rfl, Bm_cg hA (fun j => ?_)⟩
      show _ = (f j || (f r && lem z w V m r j))
      cases q : lem z w V m r j with
      | false => rw [Bool.false_and]
      | true => rw [decide_eq_true (show j < i by have := hlt r j hr q; omega), Bool.true_and]
    · have hi : i < ns z := by omega
      rw [if_neg (nI_ge hi (by omega)), Bm_b hA hr16, if_pos (show (f r || (f r && (lem z w V m r r && decide (r < i)))) = true by rw [hfr, Bool.true_or]), if_pos rfl, G_66_15 h, Option.bind_some, I_66 h, Option.bind_some, m_at, Option.bind_some, A_79 h (at_lt hg.1 hm hr hi), Option.bind_some, hL r hr i hi, nI_1]
      have hB : Bm (if (if lem z w V m r i = true then (1 : Int32) else 0) = 0 then (0 : Int32) else (1 : Int32) <<< (nI i &&& 31)) (fun j => lem z w V m r i && decide (j = i)) := by
        by_cases q : lem z w V m r i = true
        · rw [if_pos q, if_neg (show ¬ (1 : Int32) = 0 by decide)]
          exact Bm_cg (Bm_1 (by omega)) (fun j => by rw [q, Bool.true_and])
        · rw [if_neg q, if_pos rfl]
          exact Bm_cg Bm_0 (fun j => by rw [Bool.eq_false_iff.mpr q, Bool.false_and])
      refine m_r164 K i4 h hg hm hL hlt hr hfr k (i + 1) _ (by omega) (by omega) (Bm_cg (Bm_or hA hB) (fun j => ?_))
      show ((f j || (f r && (lem z w V m r j && decide (j < i)))) || (lem z w V m r i && decide (j = i))) = (f j || (f r && (lem z w V m r j && decide (j < i + 1))))
      rw [hfr, Bool.true_and, Bool.true_and]
      by_cases ej : j = i
      · subst ej
        rw [decide_eq_true rfl, decide_eq_false (show ¬ j < j by omega), decide_eq_true (show j < j + 1 by omega), Bool.and_true, Bool.and_false, Bool.or_false]
      · rw [decide_eq_false ej, Bool.and_false, Bool.or_false]
        by_cases q : j < i
        · rw [decide_eq_true q, decide_eq_true (show j < i + 1 by omega)]
        · rw [decide_eq_false q, decide_eq_false (show ¬ j < i + 1 by omega)]
theorem m_r152 (K : Int32 → Option (Int32 × Mm)) (i4 : Int32) (h : Shp M) (hg : GeoM z M) (hm : m < 10) (hL : LeV z w V m M) (hlt : ∀ a b, a < ns z → lem z w V m a b = true → b < ns z) : ∀ (k r : Nat) (A : Int32), r ≤ ns z → ns z - r < k → Bm A (ps (lem z w V m) f r) → ∃ A', lp_X7_reach_152 K 66 (nI m) i4 M k A (nI r) = K A' ∧ Bm A' (ps (lem z w V m) f (ns z))
  | 0, i, A, _, h2, _ => absurd h2 (by omega)
  | k + 1, r, A, h1, h2, hA => by
    have h16 := (gz_1 z hg.1).2.1
    rw [lp_X7_reach_152, G_66_2 h, Option.bind_some, hg.2.2.1]
    by_cases e : r = ns z
    · rw [if_pos (nI_le (by omega) (by omega))]
      subst e
      exact ⟨A, rfl, hA⟩
    · have hi : r < ns z := by omega
      rw [if_neg (nI_ge hi (by omega))]
      by_cases q : ps (lem z w V m) f r r = true
      · obtain ⟨A1, a1, a2⟩ := m_r164 (f := ps (lem z w V m) f r) (fun (l_66_3 : Int32) => lp_X7_reach_152 K 66 (nI m) i4 M k l_66_3 (nI r + 1)) i4 h hg hm hL hlt hi q FU 0 A (by omega) (by unfold FU; omega) (Bm_cg hA (fun j => by rw [decide_eq_false (show ¬ j < 0 by omega), Bool.and_false, Bool.and_false, Bool.or_false]))
        obtain ⟨A2, d1, d2⟩ := m_r152 K i4 h hg hm hL hlt k (r + 1) A1 (by omega) (by omega) a2
        refine ⟨A2, ?_, d2⟩
        refine Eq.trans a1 ?_
        try dsimp only
        rw [nI_1]
        exact d1
      · have q' := Bool.eq_false_iff.mpr q
        obtain ⟨A2, d1, d2⟩ := m_r152 K i4 h hg hm hL hlt k (r + 1) A (by omega) (by omega) (Bm_cg hA (fun j => by show _ = (ps (lem z w V m) f r j || (ps (lem z w V m) f r r && lem z w V m r j)); rw [q', Bool.false_and, Bool.or_false]))
        refine ⟨A2, ?_, d2⟩
        rw [show FU = 999999 + 1 from rfl, lp_X7_reach_164, G_66_2 h, Option.bind_some, hg.2.2.1, if_neg (show ¬ nI (ns z) ≤ (0 : Int32) from nI_nle (by omega) (by omega)), Bm_b hA (show r < 16 by omega), if_neg q, if_neg (show ¬ (0 : Int32) = 1 by decide), nI_1]
        exact d1
theorem m_r140 (K : Int32 → Option (Int32 × Mm)) (h : Shp M) (hg : GeoM z M) (hm : m < 10) (hL : LeV z w V m M) (hlt : ∀ a b, a < ns z → lem z w V m a b = true → b < ns z) : ∀ (k : Nat) (A B : Int32) (f g : Nat → Bool), 16 - cnt g 16 < k → Bm A f → Bm B g → f s = true → (∀ t, f t = true → t < ns z ∧ Rch (lem z w V m) s t) → (∀ t, g t = true → f t = true) → ((∀ t, f t = g t) → ∀ a b, f a = true → lem z w V m a b = true → f b = true) → ∃ A' f', lp_X7_reach_140 K 66 (nI m) M k A B = K A' ∧ Bm A' f' ∧ Clo (lem z w V m) s f' ∧ ∀ t, f' t = true → t < ns z
  | 0, A, B, f, g, h2, _, _, _, _, _, _ => absurd h2 (by omega)
  | k + 1, A, B, f, g, h2, hA, hB, hs, hf, hgf, hc => by
    have h16 := (gz_1 z hg.1).2.1
    rw [lp_X7_reach_140]
    by_cases e : B = A
    · rw [if_pos e]
      have fg : ∀ t, f t = g t := fun t => by rw [← hA t, ← hB t, e]
      exact ⟨A, f, rfl, hA, ⟨hs, fun t q => (hf t q).2, hc fg⟩, fun t q => (hf t q).1⟩
    · rw [if_neg e]
      have ex : ∃ t, f t = true ∧ g t = false := by
        refine Classical.byContradiction (fun no => e (Bm_eq hB hA (funext fun j => ?_)))
        cases ef : f j with
        | false =>
          cases eg : g j with
          | false => rfl
          | true => have := hgf j eg; rw [ef] at this; exact this.symm
        | true =>
          cases eg : g j with
          | true => rfl
          | false => exact absurd ⟨j, ef, eg⟩ no
      obtain ⟨t, t1, t2⟩ := ex
      have hcs := cnt_st (n := 16) hgf (by have := (hf t t1).1; omega) t1 t2
      have hcl := cnt_le (f := f) 16
      obtain ⟨A1, a1, a2⟩ := m_r152 (f := f) (fun (l_76_3 : Int32) => lp_X7_reach_140 K 66 (nI m) M k l_76_3 A) A h hg hm hL hlt FU 0 A (by omega) (by unfold FU; omega) hA
      have ok := ps_ok (L := lem z w V m) (f := f) (P := fun t => t < ns z ∧ Rch (lem z w V m) s t) (fun a b pa e => ⟨hlt a b pa.1 e, pa.2.st e⟩) hf (ns z)
      obtain ⟨A2, f2, d1, d2, d3, d4⟩ := m_r140 K h hg hm hL hlt k A1 A (ps (lem z w V m) f (ns z)) f (by omega) a2 hA (ps_in hs _) ok (fun t q => ps_in q _) (fun q a b q1 q2 => ps_cl (ok a q1).1 (by rw [← q a]; exact q1) q2)
      exact ⟨A2, f2, Eq.trans a1 d1, d2, d3, d4⟩
theorem m_r232 {A : Int32} (h : Shp M) (hg : GeoM z M) (hA : Bm A f) : ∀ (k i : Nat), i ≤ ns z → ns z - i < k → lp_X7_reach_232 66 A M k (nI (cnt f i)) (nI i) = some (nI (cnt f (ns z)), M)
  | 0, i, _, h2 => absurd h2 (by omega)
  | k + 1, i, h1, h2 => by
    have h16 := (gz_1 z hg.1).2.1
    rw [lp_X7_reach_232, G_66_2 h, Option.bind_some, hg.2.2.1]
    by_cases e : i = ns z
    · rw [if_pos (nI_le (by omega) (by omega)), e]
    · rw [if_neg (nI_ge (by omega) (by omega)), Bm_b hA (show i < 16 by omega), nI_1]
      have e1 : nI (cnt f i) + (if f i = true then (1 : Int32) else 0) = nI (cnt f (i + 1)) := by
        show _ = nI (cnt f i + (if f i = true then 1 else 0))
        by_cases q : f i = true
        · rw [if_pos q, if_pos q, nI_1]
        · rw [if_neg q, if_neg q, Nat.add_zero]
          exact nI_add (cnt f i) 0
      rw [e1]
      exact m_r232 h hg hA k (i + 1) (by omega) (by omega)
theorem RB.cv (h : RB z w V nm M) (hc : Cv M M') : RB z w V nm M' := h.fr (fun a k e => hc.2.1 a k (by omega) (by omega))
theorem CaM.cv (h : CaM z w V nm M) (hc : Cv M M') : CaM z w V nm M' := fun j hj => by
  rw [hc.2.1 78 j (by omega) (by omega)]
  refine ⟨(h j hj).1, fun e s hs t ht => ?_⟩
  rw [hc.2.2]
  exact (h j hj).2 e s hs t ht
theorem m_reachB (h : Shp M) (hr : RB z w V nm M) (hm : m < nm) (hs : s < ns z) : ∃ M' f, ((f_X7_want 66 (nI m) M).bind fun z_7 => lp_X7_reach_35 (fun (M_53 : Mm) => lp_X7_reach_140 (fun (l_90_3 : Int32) => lp_X7_reach_232 66 l_90_3 M_53 FU (0 : Int32) (0 : Int32)) 66 (nI m) M_53 FU ((1 : Int32) <<< (nI s &&& 31)) (0 : Int32)) 66 (nI m) (nI s) FU (0 : Int32) z_7) = some (nI (cnt f (ns z)), M') ∧ Clo (lem z w V m) s f ∧ (∀ t, f t = true → t < ns z) ∧ Cv M M' := by
  have hx := hr.1.1
  have hn := hr.2.2.2.1
  have hs16 := gz_n hx hs
  have h16 := (gz_1 z hx).2.1
  obtain ⟨M1, a1, a2, a3, a4, a5⟩ := m_want h hr hm
  have c1 : Cv M M1 := ⟨fun _ => a2, fun a k _ q => a4 a k q, a3⟩
  have r1 := hr.cv c1
  obtain ⟨M2, b1, b2, b3⟩ := m_r35 (fun (M_53 : Mm) => lp_X7_reach_140 (fun (l_90_3 : Int32) => lp_X7_reach_232 66 l_90_3 M_53 FU (0 : Int32) (0 : Int32)) 66 (nI m) M_53 FU ((1 : Int32) <<< (nI s &&& 31)) (0 : Int32)) (nI s) hm FU 0 M1 (by omega) (by unfold FU; omega) a2 r1 a5 (fun i hi => absurd hi (by omega))
  have h2 := b3.1 a2
  have g2 := (r1.cv b3).1
  obtain ⟨A, f, d1, d2, d3, d4⟩ := m_r140 (s := s) (fun (l_90_3 : Int32) => lp_X7_reach_232 66 l_90_3 M2 FU (0 : Int32) (0 : Int32)) h2 g2 (by omega) b2 (fun a b ha e => lem_lt hx hr.2.2.1 hm ha e) FU ((1 : Int32) <<< (nI s &&& 31)) 0 (fun t => decide (t = s)) (fun _ => false) (by unfold FU; omega) (Bm_1 hs16) Bm_0 (decide_eq_true rfl) (fun t q => by rw [of_decide_eq_true q]; exact ⟨hs, fun P p0 _ => p0⟩) (fun t q => absurd q (by decide)) (fun q => by
    have := q s
    rw [decide_eq_true rfl] at this
    exact absurd this (by decide))
  refine ⟨M2, f, ?_, d3, d4, ⟨fun q => b3.1 (c1.1 q), fun a k q1 q2 => (b3.2.1 a k q1 q2).trans (c1.2.1 a k q1 q2), b3.2.2.trans c1.2.2⟩⟩
  rw [a1, Option.bind_some]
  refine Eq.trans b1 ?_
  refine Eq.trans d1 ?_
  exact m_r232 h2 g2 d2 FU 0 (by omega) (by unfold FU; omega)
end
