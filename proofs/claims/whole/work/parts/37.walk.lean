theorem l_neg {a b : Nat} (h : a < b) (hb : b < 2 ^ 62) : ¬ (0 : Int64) ≤ lN a - lN b := by
  rw [Int64.le_iff_toInt_le, Int64.toInt_sub, pk_lT (by omega), pk_lT (by omega)]
  show ¬ (0 : Int) ≤ Int.bmod ((a : Int) - (b : Int)) (2 ^ 64)
  rw [Int.bmod_def]
  split <;> omega
theorem l_pos {a b : Nat} (h : b ≤ a) (ha : a < 2 ^ 62) : (0 : Int64) ≤ lN a - lN b := by
  rw [lN_sub h, l0, pk_lLE (by decide) (by omega)]
  omega
abbrev Rs : Type := Nat × Nat × Int32
def sAcc (w : Nat → Nat) (s t x : Nat) (r : Int32) : Rs := if w s ≤ w t then (t, x, r) else if dv x (w s) < w t then (t, dn x, r) else (s, dn x, r + 1)
def sRed (z : Zt) (w : Nat → Nat) (p s x : Nat) (r : Int32) : Rs := if lsum z w s p = 0 then (s, x, r) else (il z s p (fi (fun v => w (il z s p v)) (dv x (lsum z w s p)) (zs z p) 0), dn x, r)
def sTol (w : Nat → Nat) (c : Nat → Nat → Nat) (n s x : Nat) (r : Int32) : Rs :=
  if sm (c s) n = 0 then (s, x, r) else if w s = 0 then (fi (c s) (dv x (sm (c s) n)) n 0, dn x, r) else
    if cX w c n s (fi (c s) (dv x (sm (c s) n)) n 0) = 0 then (s, dn x, r + 1) else
      if cX w c n (fi (c s) (dv x (sm (c s) n)) n 0) s ≤ cX w c n s (fi (c s) (dv x (sm (c s) n)) n 0) then (fi (c s) (dv x (sm (c s) n)) n 0, dn x, r) else
        if dv (dn x) (cX w c n (fi (c s) (dv x (sm (c s) n)) n 0) s) < cX w c n s (fi (c s) (dv x (sm (c s) n)) n 0) then (fi (c s) (dv x (sm (c s) n)) n 0, dn (dn x), r) else (s, dn (dn x), r + 1)
def sSli (z : Zt) (w : Nat → Nat) (p s x : Nat) (r : Int32) : Rs := if w s = 0 then (s, x, r) else (il z s p (fi (fun v => if 1 + dv x (w s) ≤ w (il z s p v) then 1 else 0) (dv (dn x) (lc z w s p (1 + dv x (w s)))) (zs z p) 0), dn (dn x), r)
section
variable {M M' M'' : Mm} {z : Zt} {w : Nat → Nat} {c : Nat → Nat → Nat} {x n s t p m : Nat} {r : Int32}
theorem GeoC.cx (h : GeoC z M) (hc : Cx M M') : GeoC z M' := ⟨h.1, (hc.2.1 _ _ (by omega)).trans h.2.1, (hc.2.1 _ _ (by omega)).trans h.2.2.1, fun p hp => (hc.2.1 _ _ (by omega)).trans (h.2.2.2.1 p hp), fun p hp => (hc.2.1 _ _ (by omega)).trans (h.2.2.2.2.1 p hp), fun s hs p hp => (hc.2.1 _ _ (by omega)).trans (h.2.2.2.2.2 s hs p hp)⟩
theorem WtC.cx (h : WtC w M) (hc : Cx M M') : WtC w M' := ⟨h.1, fun s hs => (hc.2.1 _ _ (by omega)).trans (h.2 s hs)⟩
theorem TdC.cx (h : TdC m c n M) (hm : m < 10) (hc : Cx M M') : TdC m c n M' := ⟨h.1, fun s hs t ht => (hc.2.1 _ _ (by omega)).trans (h.2.1 s hs t ht), fun s hs => (hc.2.1 _ _ (by omega)).trans (h.2.2 s hs)⟩
theorem p_refuse {a : Int32} (h : Shp M) (hu : RuC x r M) : ∃ M', f_X5_refuse 64 a M = some (a, M') ∧ RuC x (r + 1) M' ∧ Cx M M' := by
  unfold f_X5_refuse
  rw [G_64_4 h, Option.bind_some, hu.2.2, P_64_4 h, Option.bind_some]
  exact ⟨_, rfl, ⟨hu.1, hu.2.1, by rw [mI_wI, if_pos ⟨rfl, rfl⟩]⟩, ⟨fun q => q, fun a k q => by rw [mI_wI, if_neg q], fun _ _ _ => rfl⟩⟩
theorem p_decide {a b : Nat} (h : Shp M) (hu : RuC x r M) (ha : a < 2 ^ 62) (hb : b < 2 ^ 62) : ∃ M', f_X5_decide 64 (lN a) (lN b) M = some (if b ≤ a ∨ dv x b < a then 1 else 0, M') ∧ RuC (if b ≤ a then x else dn x) r M' ∧ Cx M M' := by
  unfold f_X5_decide
  by_cases e : b ≤ a
  · rw [if_pos ((pk_lLE (by omega) (by omega)).mpr e), if_pos (Or.inl e), if_pos e]
    exact ⟨M, rfl, hu, Cx.rf⟩
  · obtain ⟨M1, a1, a2, a3⟩ := p_draw h hu (show 0 < b by omega) hb
    have hd := dv_lt (x := x) (show 0 < b by omega)
    rw [if_neg (fun q => e ((pk_lLE (by omega) (by omega)).mp q)), I_64 h, Option.bind_some, a1, Option.bind_some, if_neg e]
    show ∃ M', (if lN a ≤ lN (dv x b) then some ((0 : Int32), M1) else some ((1 : Int32), M1)) = _ ∧ _
    by_cases q : dv x b < a
    · rw [if_neg (fun q2 => by have := (pk_lLE (by omega) (by omega)).mp q2; omega), if_pos (Or.inr q)]
      exact ⟨M1, rfl, a2, a3⟩
    · rw [if_pos ((pk_lLE (by omega) (by omega)).mpr (by omega)), if_neg (fun q2 => q2.elim e q)]
      exact ⟨M1, rfl, a2, a3⟩
theorem p_accept (h : Shp M) (hg : GeoC z M) (hw : WtC w M) (hu : RuC x r M) (hs : s < ns z) (ht : t < ns z) : ∃ M', f_X5_accept 64 (nI s) (nI t) M = some (nI (sAcc w s t x r).1, M') ∧ RuC (sAcc w s t x r).2.1 (sAcc w s t x r).2.2 M' ∧ Cx M M' ∧ (sAcc w s t x r).1 < ns z := by
  have hs16 := gz_n hg.1 hs
  have ht16 := gz_n hg.1 ht
  have k1 := hw.1 s
  have k2 := hw.1 t
  obtain ⟨M1, a1, a2, a3⟩ := p_decide (a := w t) (b := w s) h hu (by omega) (by omega)
  have h1 := a3.1 h
  unfold f_X5_accept sAcc
  rw [G_64_0 h, Option.bind_some, G_1_5 h, Option.bind_some, A_5 h ht16, Option.bind_some, Option.bind_some, G_1_5 h, Option.bind_some, A_5 h hs16, Option.bind_some, I_64 h, Option.bind_some, hw.2 s hs16, hw.2 t ht16, nI_l (by omega), nI_l (by omega), a1, Option.bind_some]
  by_cases e : w s ≤ w t
  · rw [if_pos e] at a2
    rw [if_pos (Or.inl e), if_pos e]
    exact ⟨M1, rfl, a2, a3, ht⟩
  · rw [if_neg e] at a2
    rw [if_neg e]
    by_cases q : dv x (w s) < w t
    · rw [if_pos (Or.inr q), if_pos q]
      exact ⟨M1, rfl, a2, a3, ht⟩
    · obtain ⟨M2, b1, b2, b3⟩ := p_refuse (a := nI s) h1 a2
      have e0 : (if w s ≤ w t ∨ dv x (w s) < w t then (1 : Int32) else 0) = 0 := if_neg (fun q2 => q2.elim e q)
      rw [e0, if_neg q]
      refine ⟨M2, ?_, b2, a3.tr b3, hs⟩
      dsimp only
      rw [if_pos rfl, I_64 h1, Option.bind_some, b1, Option.bind_some]
theorem p_red_l (h : Shp M) (hg : GeoC z M) (hw : WtC w M) (hs : s < ns z) (hp : p < np z) {d : Nat} (hd : d < lsum z w s p) : ∀ (k j i : Nat), i + j = zs z p → j < k → sm (fun v => w (il z s p v)) i ≤ d → lp_X5_redraw_27 64 (nI p) (nI s) M k (lN (d - sm (fun v => w (il z s p v)) i)) (nI i) = some (nI (il z s p (fi (fun v => w (il z s p v)) d j i)), M)
  | 0, j, i, _, h2, _ => absurd h2 (by omega)
  | k + 1, j, i, h1, h2, h3 => by
    have hz := gz_2 z hg.1 p hp
    have hp4 := gz_p hg.1 hp
    have hs16 := gz_n hg.1 hs
    have hl := lsum_le (s := s) hw.1 hg.1 hp
    rw [lp_X5_redraw_27, G_64_0 h, Option.bind_some, G_1_2 h, Option.bind_some, A_2 h hp4, Option.bind_some, hg.2.2.2.1 p hp4]
    cases j with
    | zero =>
      exfalso
      have e : i = zs z p := by omega
      rw [e] at h3
      exact absurd hd (Nat.not_lt.mpr h3)
    | succ j =>
      have hlt : i < zs z p := by omega
      have hil16 := gz_n hg.1 (gz_5 z hg.1 s hs p hp i hlt).1
      have kw := hw.1 (il z s p i)
      rw [if_neg (nI_ge hlt (by omega)), Option.bind_some, I_1 h, Option.bind_some, p_inLine h hg hs16 hp4, Option.bind_some, Option.bind_some, G_1_5 h, Option.bind_some, A_5 h hil16, Option.bind_some, hw.2 _ hil16, nI_l (by omega)]
      have es : sm (fun v => w (il z s p v)) (i + 1) = sm (fun v => w (il z s p v)) i + w (il z s p i) := rfl
      show (if _ then _ else _) = some (nI (il z s p (if d < sm (fun v => w (il z s p v)) (i + 1) then i else fi (fun v => w (il z s p v)) d j (i + 1))), M)
      by_cases q : d < sm (fun v => w (il z s p v)) (i + 1)
      · rw [if_neg (l_neg (by omega) (by omega)), if_pos q]
      · rw [if_pos (l_pos (by omega) (by omega)), if_neg q, lN_sub (by omega), nI_1, show d - sm (fun v => w (il z s p v)) i - w (il z s p i) = d - sm (fun v => w (il z s p v)) (i + 1) by omega]
        exact p_red_l h hg hw hs hp hd k j (i + 1) (by omega) (by omega) (by omega)
theorem p_wredraw (h : Shp M) (hg : GeoC z M) (hw : WtC w M) (hu : RuC x r M) (hs : s < ns z) (hp : p < np z) : ∃ M', f_X5_redraw 64 (nI p) (nI s) M = some (nI (sRed z w p s x r).1, M') ∧ RuC (sRed z w p s x r).2.1 (sRed z w p s x r).2.2 M' ∧ Cx M M' ∧ (sRed z w p s x r).1 < ns z := by
  have hl := lsum_le (s := s) hw.1 hg.1 hp
  have hz := gz_2 z hg.1 p hp
  unfold f_X5_redraw sRed
  rw [G_64_0 h, Option.bind_some, I_1 h, Option.bind_some, p_lineSum h hg hw hs hp, Option.bind_some]
  by_cases e : lsum z w s p = 0
  · rw [e, if_pos (show nI 0 = (0 : Int32) from rfl), if_pos rfl]
    exact ⟨M, rfl, hu, Cx.rf, hs⟩
  · obtain ⟨M1, a1, a2, a3⟩ := p_draw h hu (show 0 < lsum z w s p by omega) (by omega)
    have hd := dv_lt (x := x) (show 0 < lsum z w s p by omega)
    rw [if_neg (nI_ne0 (by omega) (by omega)), if_neg e, I_64 h, Option.bind_some, nI_l (by omega), a1, Option.bind_some]
    have hf := fi_lt (f := fun v => w (il z s p v)) hd (zs z p) 0 (by omega) (by omega)
    have e1 := p_red_l (a3.1 h) (hg.cx a3) (hw.cx a3) hs hp hd FU (zs z p) 0 (by omega) (by unfold FU; omega) (Nat.zero_le _)
    rw [show dv x (lsum z w s p) - sm (fun v => w (il z s p v)) 0 = dv x (lsum z w s p) from Nat.sub_zero _] at e1
    exact ⟨M1, e1, a2, a3, (gz_5 z hg.1 s hs p hp _ hf).1⟩
end
