section
variable {M M' M'' : Mm} {z : Zt} {w : Nat → Nat} {V : Mv} {x n s t p m nm dep : Nat} {r : Int32}
theorem sPl_0 {a b : Nat} {c : Nat → Nat → Nat} : sPl z w 0 a b c s x r = sRed z w a s x r := by unfold sPl; rw [if_pos rfl]
theorem sPl_1 {a b e : Nat} {c : Nat → Nat → Nat} (h : dv x 2 = e) : sPl z w 1 a b c s x r = sAcc w s (if e = 0 then nx z s a else bf z s a) (dn x) r := by
  unfold sPl
  rw [if_neg (by omega), if_pos rfl, h]
theorem sPl_2 {a b : Nat} {c : Nat → Nat → Nat} : sPl z w 2 a b c s x r = sAcc w s (sw z s a b) x r := by unfold sPl; rw [if_neg (by omega), if_neg (by omega), if_pos rfl]
theorem sPl_3 {a b : Nat} {c : Nat → Nat → Nat} : sPl z w 3 a b c s x r = sTol w c (ns z) s x r := by unfold sPl; rw [if_neg (by omega), if_neg (by omega), if_neg (by omega), if_pos rfl]
theorem sPl_4 {a b : Nat} {c : Nat → Nat → Nat} : sPl z w 4 a b c s x r = sSli z w a s x r := by unfold sPl; rw [if_neg (by omega), if_neg (by omega), if_neg (by omega), if_neg (by omega)]
theorem p_leadP {d : Nat} (h : Shp M) (hr : RW z w V nm M) (hu : RuC x r M) (hm : m < nm) (hs : s < ns z) (hd : dep ≤ 2) (hk : vK V m < 5) : ∃ M', f_X5_lead (d + 1) 64 (nI m) (nI s) (nI dep) M = some (nI (sPl z w (vK V m) (vA V m) (vB V m) (vT V m) s x r).1, M') ∧ RuC (sPl z w (vK V m) (vA V m) (vB V m) (vT V m) s x r).2.1 (sPl z w (vK V m) (vA V m) (vB V m) (vT V m) s x r).2.2 M' ∧ Cx M M' ∧ (sPl z w (vK V m) (vA V m) (vB V m) (vT V m) s x r).1 < ns z := by
  by_cases e0 : vK V m = 0
  · rw [e0, sPl_0]
    exact p_lead0 h hr hu hm hs hd e0
  · by_cases e1 : vK V m = 1
    · obtain ⟨b, hb⟩ : ∃ b, dv x 2 = b := ⟨_, rfl⟩
      rw [e1, sPl_1 hb]
      exact p_lead1 h hr hu hm hs hd e1 hb
    · by_cases e2 : vK V m = 2
      · rw [e2, sPl_2]
        exact p_lead2 h hr hu hm hs hd e2
      · by_cases e3 : vK V m = 3
        · rw [e3, sPl_3]
          exact p_lead3 h hr hu hm hs hd e3
        · have e4 : vK V m = 4 := by omega
          rw [e4, sPl_4]
          exact p_lead4 h hr hu hm hs hd e4
theorem p_lead : ∀ (d m s dep x : Nat) (r : Int32) (M : Mm), Shp M → RW z w V nm M → RuC x r M → m < nm → s < ns z → vD V m + dep ≤ 2 → vD V m ≤ d → ∃ M', f_X5_lead (d + 1) 64 (nI m) (nI s) (nI dep) M = some (nI (sM z w V d m s x r).1, M') ∧ RuC (sM z w V d m s x r).2.1 (sM z w V d m s x r).2.2 M' ∧ Cx M M' ∧ (sM z w V d m s x r).1 < ns z := by
  intro d
  induction d with
  | zero =>
    intro m s dep x r M h hr hu hm hs hd hl
    have hk : vK V m < 5 := by
      obtain ⟨o1, o2, o3, -⟩ := hr.2.2.1 m hm
      by_cases e : 5 ≤ vK V m
      · have := (o3 e).2.2; omega
      · omega
    have e : sM z w V 0 m s x r = sPl z w (vK V m) (vA V m) (vB V m) (vT V m) s x r := by rw [sM]
    rw [e]
    exact p_leadP h hr hu hm hs (by omega) hk
  | succ d ih =>
    intro m s dep x r M h hr hu hm hs hd hl
    have hm10 : m < 10 := by have := hr.2.2.2.1; omega
    obtain ⟨o1, o2, o3, o4, ⟨p1, p2, q1, q2⟩, o6⟩ := hr.2.2.1 m hm
    obtain ⟨b0, b1, b2, b3, b4, b5, b6⟩ := hr.2.2.2.2.2 m hm
    by_cases hk : vK V m < 5
    · have e : sM z w V (d + 1) m s x r = sPl z w (vK V m) (vA V m) (vB V m) (vT V m) s x r := by
        rw [sM, if_neg (by omega), if_neg (by omega)]
      rw [e]
      exact p_leadP h hr hu hm hs (by omega) hk
    · obtain ⟨ha, hb, hdd⟩ := o3 (by omega)
      have m1 := Nat.le_max_left (vD V (vA V m)) (vD V (vB V m))
      have m2 := Nat.le_max_right (vD V (vA V m)) (vD V (vB V m))
      have key : ∀ {C' : Nat}, vK V m ≠ C' → C' < 10 → ¬ nI (vK V m) = nI C' := fun hne hc e => hne ((nI_eq (by omega) (by omega)).mp e)
      rw [f_X5_lead, if_pos (show nI dep ≤ (2 : Int32) from nI_le (b := 2) (by omega) (by omega)), G_64_1 h, Option.bind_some, A_6 h hm10, Option.bind_some, G_m_0 h hm10, Option.bind_some, b0, if_neg (show ¬ nI (vK V m) = (0 : Int32) from key (C' := 0) (by omega) (by omega)), if_neg (show ¬ nI (vK V m) = (1 : Int32) from key (C' := 1) (by omega) (by omega)), if_neg (show ¬ nI (vK V m) = (2 : Int32) from key (C' := 2) (by omega) (by omega)), if_neg (show ¬ nI (vK V m) = (3 : Int32) from key (C' := 3) (by omega) (by omega)), if_neg (show ¬ nI (vK V m) = (4 : Int32) from key (C' := 4) (by omega) (by omega))]
      by_cases e5 : vK V m = 5
      · have e : sM z w V (d + 1) m s x r = if dv x (vP V m + vQ V m) < vP V m then sM z w V d (vA V m) s (dn x) r else sM z w V d (vB V m) s (dn x) r := by rw [sM, if_pos e5]
        rw [e]
        obtain ⟨M1, a1, a2, a3⟩ := p_draw (n := vP V m + vQ V m) h hu (by omega) (by omega)
        have h1 := a3.1 h
        have r1 := hr.cx a3
        have hd1 := dv_lt (x := x) (n := vP V m + vQ V m) (by omega)
        have f : ∀ k, mm_I M1 (7 + 5 * m) k = mm_I M (7 + 5 * m) k := fun k => a3.2.1 _ _ (by omega)
        simp only [op_jn]
        rw [if_pos (show nI (vK V m) = (5 : Int32) by rw [e5]; rfl), G_m_3 h hm10, Option.bind_some, G_m_4 h hm10, Option.bind_some, I_64 h, Option.bind_some, b3, b4, nI_add, nI_l (by omega), a1, Option.bind_some, G_m_3 h1 hm10, Option.bind_some, f 3, b3, nI_l (by omega), nI_1]
        by_cases q : dv x (vP V m + vQ V m) < vP V m
        · obtain ⟨M2, c1, c2, c3, c4⟩ := ih (vA V m) s (dep + 1) (dn x) r M1 h1 r1 a2 (by omega) hs (by omega) (by omega)
          rw [if_neg (show ¬ lN (vP V m) ≤ lN (dv x (vP V m + vQ V m)) from fun e => by have := (pk_lLE (by omega) (by omega)).mp e; omega), G_m_1 h1 hm10, Option.bind_some, f 1, b1 (by omega), I_64 h1, Option.bind_some, c1, Option.bind_some, if_pos q]
          exact ⟨M2, rfl, c2, a3.tr c3, c4⟩
        · obtain ⟨M2, c1, c2, c3, c4⟩ := ih (vB V m) s (dep + 1) (dn x) r M1 h1 r1 a2 (by omega) hs (by omega) (by omega)
          rw [if_pos (show lN (vP V m) ≤ lN (dv x (vP V m + vQ V m)) from (pk_lLE (by omega) (by omega)).mpr (by omega)), G_m_2 h1 hm10, Option.bind_some, f 2, b2 (by omega), I_64 h1, Option.bind_some, c1, Option.bind_some, if_neg q]
          exact ⟨M2, rfl, c2, a3.tr c3, c4⟩
      · have e6 : vK V m = 6 := by omega
        have e : sM z w V (d + 1) m s x r = sM z w V d (vB V m) (sM z w V d (vA V m) s x r).1 (sM z w V d (vA V m) s x r).2.1 (sM z w V d (vA V m) s x r).2.2 := by
          rw [sM, if_neg e5, if_pos e6]
        rw [e]
        obtain ⟨M1, a1, a2, a3, a4⟩ := ih (vA V m) s (dep + 1) x r M h hr hu (by omega) hs (by omega) (by omega)
        have h1 := a3.1 h
        have r1 := hr.cx a3
        obtain ⟨M2, c1, c2, c3, c4⟩ := ih (vB V m) (sM z w V d (vA V m) s x r).1 (dep + 1) (sM z w V d (vA V m) s x r).2.1 (sM z w V d (vA V m) s x r).2.2 M1 h1 r1 a2 (by omega) a4 (by omega) (by omega)
        rw [if_neg (show ¬ nI (vK V m) = (5 : Int32) from key (C' := 5) e5 (by omega)), G_m_2 h hm10, Option.bind_some, G_m_1 h hm10, Option.bind_some, I_64 h, Option.bind_some, b1 (by omega), b2 (by omega), nI_1, a1, Option.bind_some]
        dsimp only
        rw [I_64 h1, Option.bind_some, c1, Option.bind_some]
        exact ⟨M2, rfl, c2, a3.tr c3, c4⟩
end
def sT (z : Zt) (w : Nat → Nat) (V : Mv) (m s x : Nat) : Nat → Rs
  | 0 => (s, x, 0)
  | n + 1 => sM z w V 3 m (sT z w V m s x n).1 (sT z w V m s x n).2.1 (sT z w V m s x n).2.2
section
variable {M M' M'' : Mm} {z : Zt} {w : Nat → Nat} {V : Mv} {x n s t p m nm dep : Nat} {r : Int32}
theorem RW.ch {S : Nat → Prop} (h : RW z w V nm M) (hc : Ch S M M') (hS : ∀ a, S a → 58 ≤ a) : RW z w V nm M' := by
  have no : ∀ {a : Nat}, a < 58 → ¬ S a := fun ha hs => by have := hS _ hs; omega
  have hn := h.2.2.2.1
  refine ⟨h.1.ch hc (no (by omega)) (no (by omega)) (no (by omega)) (no (by omega)), h.2.1.ch hc (no (by omega)), h.2.2.1, hn, ⟨(hc.I (no (by omega))).trans h.2.2.2.2.1, fun m hm => ?_⟩⟩
  obtain ⟨b0, b1, b2, b3, b4, b5, b6⟩ := h.2.2.2.2.2 m hm
  have f : ∀ k, mm_I M' (7 + 5 * m) k = mm_I M (7 + 5 * m) k := fun k => hc.I (no (by omega))
  exact ⟨(f 0).trans b0, fun e => (f 1).trans (b1 e), fun e => (f 2).trans (b2 e), (f 3).trans b3, (f 4).trans b4, (f 5).trans b5, b6.ch hc (no (by omega)) (no (by omega))⟩
def Gs (a : Nat) : Prop := a = 64 ∨ a = 65
theorem Cx.gs (h : Cx M M') : Ch Gs M M' := ⟨h.1, fun a ha => ⟨funext fun k => h.2.1 a k (fun e => ha (Or.inl e.1)), funext fun k => h.2.2 a k (fun e => ha (Or.inl e.1))⟩⟩
theorem gs58 : ∀ a, Gs a → 58 ≤ a := fun a e => by unfold Gs at e; omega
theorem p_go_l (K : Mm → Option (Int32 × Mm)) (hm : m < nm) (hn : n ≤ 200) : ∀ (k i : Nat) (M : Mm), i ≤ n → n - i < k → Shp M → RW z w V nm M → RuC (sT z w V m s x i).2.1 (sT z w V m s x i).2.2 M → (∀ j, j ≤ i → mm_I M 65 j = nI (sT z w V m s x j).1 ∧ (sT z w V m s x j).1 < ns z) → ∃ M', lp_X5_go_30 K 64 (nI m) (nI n) k (nI i) M = K M' ∧ Ch Gs M M' ∧ mm_I M' 64 3 = mm_I M 64 3 ∧ mm_I M' 64 4 = (sT z w V m s x n).2.2 ∧ ∀ j, j ≤ n → mm_I M' 65 j = nI (sT z w V m s x j).1 ∧ (sT z w V m s x j).1 < ns z
  | 0, i, M, _, h2, _, _, _, _ => absurd h2 (by omega)
  | k + 1, i, M, h1, h2, h, hr, hu, hp => by
    rw [lp_X5_go_30]
    by_cases e : i = n
    · subst e
      rw [if_pos (nI_le (by omega) (by omega))]
      exact ⟨M, rfl, Ch.rf, rfl, hu.2.2, hp⟩
    · have hd := dpt hr.2.2.1 hm
      obtain ⟨M1, a1, a2, a3, a4⟩ := p_lead 3 m (sT z w V m s x i).1 0 (sT z w V m s x i).2.1 (sT z w V m s x i).2.2 M h hr hu hm (hp i (by omega)).2 (by omega) (by omega)
      have h1' := a3.1 h
      rw [if_neg (nI_ge (by omega) (by omega)), G_64_2 h, Option.bind_some, Option.bind_some, A_65 h (by omega), Option.bind_some, I_64 h, Option.bind_some, (hp i (by omega)).1, show (0 : Int32) = nI 0 from rfl, a1, Option.bind_some, nI_1]
      dsimp only
      rw [S_65 h1' (by omega), Option.bind_some]
      have cw : Ch Gs M1 (mm_wI M1 65 (i + 1) (nI (sT z w V m s x (i + 1)).1)) := Ch.wI (Or.inr rfl)
      have f65 : ∀ j, mm_I M1 65 j = mm_I M 65 j := fun j => a3.2.1 _ _ (by omega)
      obtain ⟨M2, b1, b2, b3, b4, b5⟩ := p_go_l K hm hn k (i + 1) (mm_wI M1 65 (i + 1) (nI (sT z w V m s x (i + 1)).1)) (by omega) (by omega) (sh_wI h1') ((hr.cx a3).ch cw gs58) ⟨a2.1, a2.2.1, by rw [mI_wI, if_neg (by omega)]; exact a2.2.2⟩ (fun j hj => by
        by_cases ej : j = i + 1
        · subst ej
          exact ⟨by rw [mI_wI, if_pos ⟨rfl, rfl⟩], a4⟩
        · rw [mI_wI, if_neg (fun q => ej q.2), f65]
          exact hp j (by omega))
      refine ⟨M2, b1, (a3.gs.tr cw).tr b2, ?_, b4, b5⟩
      rw [b3, mI_wI, if_neg (by omega)]
      exact a3.2.1 _ _ (by omega)
theorem p_go {a4 : Int64} (h : Shp M) (hr : RW z w V nm M) (hm : m < nm) (hs : s < ns z) (hn : n ≤ 200) (hx : x < 281474976710656) (ha : a4 &&& (281474976710655 : Int64) = lN x) : ∃ M', f_X5_go 64 (nI m) (nI s) (nI n) a4 M = some (nI (sT z w V m s x n).1, M') ∧ Ch Gs M M' ∧ mm_I M' 64 3 = nI n ∧ mm_I M' 64 4 = (sT z w V m s x n).2.2 ∧ ∀ j, j ≤ n → mm_I M' 65 j = nI (sT z w V m s x j).1 ∧ (sT z w V m s x j).1 < ns z := by
  unfold f_X5_go
  rw [ha, P_64_5 h, Option.bind_some, P_64_4 (sh_wL h), Option.bind_some, P_64_3 (sh_wI (sh_wL h)), Option.bind_some, G_64_2 (sh_wI (sh_wI (sh_wL h))), Option.bind_some, show (0 : Int32) = nI 0 from rfl, S_65 (sh_wI (sh_wI (sh_wL h))) (by omega), Option.bind_some]
  have c1 : Ch Gs M (mm_wI (mm_wI (mm_wI (mm_wL M 64 5 (lN x)) 64 4 (nI 0)) 64 3 (nI n)) 65 0 (nI s)) := (((Ch.wL (Or.inl rfl)).tr (Ch.wI (Or.inl rfl))).tr (Ch.wI (Or.inl rfl))).tr (Ch.wI (Or.inr rfl))
  have q1 : RuC x 0 (mm_wI (mm_wI (mm_wI (mm_wL M 64 5 (lN x)) 64 4 (nI 0)) 64 3 (nI n)) 65 0 (nI s)) := ⟨hx, by show mm_L (mm_wL M 64 5 (lN x)) 64 5 = _; rw [mL_wL, if_pos ⟨rfl, rfl⟩], by rw [mI_wI, if_neg (by omega), mI_wI, if_neg (by omega), mI_wI, if_pos ⟨rfl, rfl⟩]; rfl⟩
  have q2 : mm_I (mm_wI (mm_wI (mm_wI (mm_wL M 64 5 (lN x)) 64 4 (nI 0)) 64 3 (nI n)) 65 0 (nI s)) 65 0 = nI s := by rw [mI_wI, if_pos ⟨rfl, rfl⟩]
  have q3 : mm_I (mm_wI (mm_wI (mm_wI (mm_wL M 64 5 (lN x)) 64 4 (nI 0)) 64 3 (nI n)) 65 0 (nI s)) 64 3 = nI n := by rw [mI_wI, if_neg (by omega), mI_wI, if_pos ⟨rfl, rfl⟩]
  generalize mm_wI (mm_wI (mm_wI (mm_wL M 64 5 (lN x)) 64 4 (nI 0)) 64 3 (nI n)) 65 0 (nI s) = M1 at c1 q1 q2 q3
  have h1 := c1.1 h
  obtain ⟨M2, b1, b2, b3, b4, b5⟩ := p_go_l (n := n) (m := m) (s := s) (x := x) (z := z) (w := w) (V := V) (fun (M_13 : Mm) => (op_gR M_13 5 64 2).bind fun x_14 => (op_aI M_13 x_14 (nI n)).bind fun x_15 => some (x_15, M_13)) hm hn FU 0 M1 (by omega) (by unfold FU; omega) h1 (hr.ch c1 gs58) q1 (fun j hj => by
    have ej : j = 0 := by omega
    subst ej
    exact ⟨q2, hs⟩)
  refine ⟨M2, ?_, c1.tr b2, b3.trans q3, b4, b5⟩
  refine Eq.trans b1 ?_
  have h2 := b2.1 h1
  show (op_gR M2 5 64 2).bind (fun x_14 => (op_aI M2 x_14 (nI n)).bind fun x_15 => some (x_15, M2)) = _
  rw [G_64_2 h2, Option.bind_some, A_65 h2 (by omega), Option.bind_some, (b5 n (by omega)).1]
end
