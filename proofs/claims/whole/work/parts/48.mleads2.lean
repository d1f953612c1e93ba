def bI (b : Bool) : Int32 := if b = true then 1 else 0
def Cm (j : Nat) (M M' : Mm) : Prop := (Shp M → Shp M') ∧ (∀ a k, ¬ (a = 79 ∧ 256 * j ≤ k ∧ k < 256 * j + 256) → mm_I M' a k = mm_I M a k) ∧ mm_L M' = mm_L M
section
variable {M M' M'' : Mm} {z : Zt} {w : Nat → Nat} {V : Mv} {c : Nat → Nat → Nat} {x n s t p m nm j u k d : Nat} {f g : Nat → Bool}
theorem m_pls0 (h : Shp M) (hg : GeoM z M) (hw : WtM w M) (hj : j < 10) (hs : s < ns z) (hp : p < np z) (hf : Row z j s (fun _ => false) M) : ∃ M', lp_X7_plainLeads_105 66 (nI j) (nI s) (nI p) 0 FU 0 M = some M' ∧ Row z j s (lLi z w p s) M' ∧ Cq j s M M' := by
  have hz := gz_2 z hg.1 p hp
  exact m_pl_l hg.1 hj hs hp FU 0 M (by omega) (by unfold FU; omega) h hg hw (hf.cg (fun _ _ => rfl))
theorem m_pls1 (h : Shp M) (hg : GeoM z M) (hj : j < 10) (hs : s < ns z) (hp : p < np z) (hf : Row z j s (fun _ => false) M) : ∃ M', (if (1 : Int32) = 0 then lp_X7_plainLeads_105 66 (nI j) (nI s) (nI p) 1 FU 0 M else (op_is M 66 7).bind fun _ => (f_X7_leads 66 (nI j) (nI s) (nI s) M).bind fun z_17 => lp_X7_plainLeads_105 66 (nI j) (nI s) (nI p) 1 FU 0 z_17) = some M' ∧ Row z j s (fun t => decide (t = s)) M' ∧ Cq j s M M' := by
  obtain ⟨M1, l1, l2, l3⟩ := m_leads h hg.1 hj hs hs hf
  rw [if_neg (show ¬ (1 : Int32) = 0 by decide), I_66 h, Option.bind_some, l1, Option.bind_some, m_pl_1 (l3.1 h) (hg.cq l3) hp]
  exact ⟨M1, rfl, l2.cg (fun t _ => Bool.false_or _), l3⟩
theorem lPr_s (hw : w s = w s) : lPr w s s t = decide (t = s) := by
  unfold lPr
  rw [decide_eq_true (show w s = 0 ∨ 0 < w s by omega), decide_eq_false (show ¬ w s < w s by omega), Bool.true_and, Bool.false_and, Bool.or_false]
theorem m_plainLeads (h : Shp M) (hr : RB z w V nm M) (hm : m < nm) (hs : s < ns z) (hk : vK V m < 5) (hf : Row z m s (fun _ => false) M) : ∃ M', f_X7_plainLeads 66 (nI m) (nI s) M = some M' ∧ Row z m s (lem z w V m s) M' ∧ Cq m s M M' := by
  obtain ⟨hg, hw, ho, hn, hmv⟩ := hr
  have hm10 : m < 10 := by omega
  have hs16 := gz_n hg.1 hs
  obtain ⟨b0, b1, b2, b3, b4, b5, b6⟩ := hmv.2 m hm
  obtain ⟨o1, o2, o3, o4, o5, o6⟩ := ho m hm
  have kw := hw.1 s
  unfold f_X7_plainLeads
  rw [G_66_6 h, Option.bind_some, A_70 h hm10, Option.bind_some, G_66_5 h, Option.bind_some, A_69 h hm10, Option.bind_some, b0]
  simp only [op_jn]
  by_cases e0 : vK V m = 0
  · have hp := (o2 (by omega)).2.1 (by omega)
    have hl := lsum_le (s := s) hw.1 hg.1 hp
    rw [e0, if_pos (show nI 0 = (0 : Int32) from rfl), Option.bind_some, A_69 h hm10, Option.bind_some, b0, e0, if_pos (show nI 0 = (0 : Int32) from rfl), I_66 h, Option.bind_some, b1 (by omega), m_sumOfLine h hg hw hs hp, Option.bind_some]
    by_cases q : lsum z w s (vA V m) = 0
    · obtain ⟨M1, a1, a2, a3⟩ := m_pls1 h hg hm10 hs hp hf
      rw [I_66 h] at a1
      rw [q, if_pos (show nI 0 = (0 : Int32) from rfl)]
      exact ⟨M1, a1, a2.cg (fun t _ => by rw [lem_p ho hm hk]; unfold lPl; rw [if_pos e0, if_pos q]), a3⟩
    · obtain ⟨M1, a1, a2, a3⟩ := m_pls0 h hg hw hm10 hs hp hf
      rw [if_neg (nI_ne0 (by omega) (by omega)), if_pos trivial]
      exact ⟨M1, a1, a2.cg (fun t _ => by rw [lem_p ho hm hk]; unfold lPl; rw [if_pos e0, if_neg q]), a3⟩
  · by_cases e1 : vK V m = 1
    · have hp := (o2 (by omega)).2.1 (by omega)
      have hx1 := gz_9 z hg.1 s hs (vA V m) hp
      obtain ⟨M1, a1, a2, a3⟩ := m_proposes h hg hw hm10 hs hx1.1 hf
      have h1 := a3.1 h
      obtain ⟨M2, d1, d2, d3⟩ := m_proposes h1 (hg.cq a3) (hw.cq a3) hm10 hs hx1.2 a2
      rw [e1, if_neg (show ¬ nI 1 = (0 : Int32) by decide), if_pos (show nI 1 = (1 : Int32) from rfl), I_66 h, Option.bind_some, b1 (by omega), m_next h hg hs hp, Option.bind_some, Option.bind_some, a1, Option.bind_some, I_66 h1, Option.bind_some, m_before h1 (hg.cq a3) hs hp, Option.bind_some, Option.bind_some, d1, Option.bind_some]
      exact ⟨M2, rfl, d2.cg (fun t _ => by rw [lem_p ho hm hk]; unfold lPl; rw [if_neg e0, if_pos e1, Bool.false_or]), a3.tr d3⟩
    · by_cases e2 : vK V m = 2
      · have hp := (o2 (by omega)).2.1 (by omega)
        obtain ⟨hb, hab, hz⟩ := (o2 (by omega)).2.2 e2
        have hx1 := (gz_8 z hg.1 s hs _ hp _ hb hab hz).2.1
        have hx16 := gz_n hg.1 hx1
        rw [e2, if_neg (show ¬ nI 2 = (0 : Int32) by decide), if_neg (show ¬ nI 2 = (1 : Int32) by decide), if_pos (show nI 2 = (2 : Int32) from rfl), G_66_7 h, Option.bind_some, A_71 h hm10, Option.bind_some, I_66 h, Option.bind_some, b1 (by omega), b2 (by omega), m_swapped h hg hs hp hb hab hz, Option.bind_some]
        by_cases q : sw z s (vA V m) (vB V m) = s
        · obtain ⟨M1, a1, a2, a3⟩ := m_leads h hg.1 hm10 hs hs hf
          rw [q, if_pos rfl, Option.bind_some, a1, Option.bind_some]
          exact ⟨M1, rfl, a2.cg (fun t _ => by rw [lem_p ho hm hk]; unfold lPl; rw [if_neg e0, if_neg e1, if_pos e2, q, lPr_s rfl, Bool.false_or]), a3⟩
        · obtain ⟨M1, a1, a2, a3⟩ := m_proposes h hg hw hm10 hs hx1 hf
          rw [if_neg (fun q2 => q ((nI_eq (by omega) (by omega)).mp q2)), Option.bind_some, a1, Option.bind_some]
          exact ⟨M1, rfl, a2.cg (fun t _ => by rw [lem_p ho hm hk]; unfold lPl; rw [if_neg e0, if_neg e1, if_pos e2, Bool.false_or]), a3⟩
      · by_cases e3 : vK V m = 3
        · obtain ⟨M1, a1, a2, a3⟩ := m_toldLeads h hg hw b6 hm10 hs hf
          rw [e3, if_neg (show ¬ nI 3 = (0 : Int32) by decide), if_neg (show ¬ nI 3 = (1 : Int32) by decide), if_neg (show ¬ nI 3 = (2 : Int32) by decide), if_pos (show nI 3 = (3 : Int32) from rfl), I_66 h, Option.bind_some, a1, Option.bind_some]
          exact ⟨M1, rfl, a2.cg (fun t _ => by rw [lem_p ho hm hk]; unfold lPl; rw [if_neg e0, if_neg e1, if_neg e2, if_pos e3]), a3⟩
        · have e4 : vK V m = 4 := by omega
          have hp := (o2 (by omega)).2.1 (by omega)
          rw [e4, if_neg (show ¬ nI 4 = (0 : Int32) by decide), if_neg (show ¬ nI 4 = (1 : Int32) by decide), if_neg (show ¬ nI 4 = (2 : Int32) by decide), if_neg (show ¬ nI 4 = (3 : Int32) by decide), if_pos (show nI 4 = (4 : Int32) from rfl), Option.bind_some, A_69 h hm10, Option.bind_some, b0, e4, if_neg (show ¬ nI 4 = (0 : Int32) by decide), G_66_3 h, Option.bind_some, A_68 h hs16, Option.bind_some, hw.2 s hs16, b1 (by omega)]
          by_cases q : w s = 0
          · obtain ⟨M1, a1, a2, a3⟩ := m_pls1 h hg hm10 hs hp hf
            rw [q, if_pos (show nI 0 = (0 : Int32) from rfl)]
            exact ⟨M1, a1, a2.cg (fun t _ => by rw [lem_p ho hm hk]; unfold lPl; rw [if_neg e0, if_neg e1, if_neg e2, if_neg e3, if_pos q]), a3⟩
          · obtain ⟨M1, a1, a2, a3⟩ := m_pls0 h hg hw hm10 hs hp hf
            rw [if_neg (nI_ne0 (by omega) (by omega)), if_pos trivial]
            exact ⟨M1, a1, a2.cg (fun t _ => by rw [lem_p ho hm hk]; unfold lPl; rw [if_neg e0, if_neg e1, if_neg e2, if_neg e3, if_neg q]), a3⟩
theorem bI_or (a b : Bool) : bI a ||| bI b = bI (a || b) := by cases a <;> cases b <;> decide
theorem bI_in (a : Bool) : bI a = 0 ∨ bI a = 1 := by cases a <;> decide
theorem LeV.cq (h : LeV z w V j M) (hx : z ∈ OKZ) (hj : j ≠ m) (hs : s < ns z) (hc : Cq m s M M') : LeV z w V j M' := fun s' hs' t ht => by
  have := gz_n hx hs
  have := gz_n hx hs'
  have := gz_n hx ht
  rw [hc.2.1 79 _ (by omega)]
  exact h s' hs' t ht
theorem m_n76 (K : Int32 → Option Mm) (h : Shp M) (hr : RB z w V nm M) (hm : m < nm) (hs : s < ns z) (ht : t < ns z) (hk : 5 ≤ vK V m) (hA : LeV z w V (vA V m) M) (hB : LeV z w V (vB V m) M) : ∀ (k i : Nat), i ≤ ns z → ns z - i < k → lp_X7_nestedLeads_76 K 66 (nI m) (nI s) (nI t) M k (bI (anb (fun r => lem z w V (vA V m) s r && lem z w V (vB V m) r t) i)) (nI i) = K (bI (anb (fun r => lem z w V (vA V m) s r && lem z w V (vB V m) r t) (ns z)))
  | 0, i, _, h2 => absurd h2 (by omega)
  | k + 1, i, h1, h2 => by
    have hx := hr.1.1
    have hn := hr.2.2.2.1
    have hm10 : m < 10 := by omega
    have h16 := (gz_1 z hx).2.1
    obtain ⟨b0, b1, b2, b3, b4, b5, b6⟩ := hr.2.2.2.2.2 m hm
    obtain ⟨q1, q2, q3⟩ := (hr.2.2.1 m hm).2.2.1 hk
    rw [lp_X7_nestedLeads_76, G_66_2 h, Option.bind_some, hr.1.2.2.1]
    by_cases e : i = ns z
    · rw [if_pos (nI_le (by omega) (by omega)), e]
    · have hlt : i < ns z := by omega
      have es : anb (fun r => lem z w V (vA V m) s r && lem z w V (vB V m) r t) (i + 1) = (anb (fun r => lem z w V (vA V m) s r && lem z w V (vB V m) r t) i || (lem z w V (vA V m) s i && lem z w V (vB V m) i t)) := rfl
      rw [if_neg (nI_ge hlt (by omega)), G_66_15 h, Option.bind_some, G_66_6 h, Option.bind_some, A_70 h hm10, Option.bind_some, I_66 h, Option.bind_some, b1 (by omega), m_at, Option.bind_some, A_79 h (at_lt hx (by omega) hs hlt), Option.bind_some, hA s hs i hlt]
      simp only [op_jn]
      have go : ∀ b : Bool, b = (lem z w V (vA V m) s i && lem z w V (vB V m) i t) → lp_X7_nestedLeads_76 K 66 (nI m) (nI s) (nI t) M k (bI (anb (fun r => lem z w V (vA V m) s r && lem z w V (vB V m) r t) i) ||| bI b) (nI i + 1) = K (bI (anb (fun r => lem z w V (vA V m) s r && lem z w V (vB V m) r t) (ns z))) := fun b hb => by
        rw [bI_or, hb, ← es, nI_1]
        exact m_n76 K h hr hm hs ht hk hA hB k (i + 1) (by omega) (by omega)
      by_cases q : lem z w V (vA V m) s i = true
      · rw [if_pos q, if_neg (show ¬ (1 : Int32) = 0 by decide), Option.bind_some, G_66_7 h, Option.bind_some, A_71 h hm10, Option.bind_some, Option.bind_some, b2 (by omega), m_at, Option.bind_some, A_79 h (at_lt hx (by omega) hlt ht), Option.bind_some, hB i hlt t ht]
        by_cases r : lem z w V (vB V m) i t = true
        · rw [if_pos r, if_neg (show ¬ (1 : Int32) = 0 by decide)]
          exact go true (by rw [q, r]; rfl)
        · rw [if_neg r, if_pos rfl]
          exact go false (by rw [q, Bool.true_and]; exact (Bool.eq_false_iff.mpr r).symm)
      · rw [if_neg q, if_pos rfl]
        exact go false (by rw [Bool.eq_false_iff.mpr q, Bool.false_and])
theorem m_n2 (hm : m < nm) (hs : s < ns z) (hk : 5 ≤ vK V m) : ∀ (k i : Nat) (M : Mm), i ≤ ns z → ns z - i < k → Shp M → RB z w V nm M → LeV z w V (vA V m) M → LeV z w V (vB V m) M → (∀ t, t < i → mm_I M 79 (256 * m + 16 * s + t) = bI (lem z w V m s t)) → ∃ M', lp_X7_nestedLeads_2 66 (nI m) (nI s) k (nI i) M = some M' ∧ Row z m s (lem z w V m s) M' ∧ Cq m s M M'
  | 0, i, M, _, h2, _, _, _, _, _ => absurd h2 (by omega)
  | k + 1, i, M, h1, h2, h, hr, hA, hB, hf => by
    have hx := hr.1.1
    have hn := hr.2.2.2.1
    have hm10 : m < 10 := by omega
    have h16 := (gz_1 z hx).2.1
    obtain ⟨b0, b1, b2, b3, b4, b5, b6⟩ := hr.2.2.2.2.2 m hm
    obtain ⟨o1, o2, o3, o4, o5, o6⟩ := hr.2.2.1 m hm
    obtain ⟨q1, q2, q3⟩ := o3 hk
    rw [lp_X7_nestedLeads_2, G_66_2 h, Option.bind_some, hr.1.2.2.1]
    by_cases e : i = ns z
    · rw [if_pos (nI_le (by omega) (by omega))]
      exact ⟨M, rfl, fun t ht => hf t (by omega), Cq.rf⟩
    · have hlt : i < ns z := by omega
      rw [if_neg (nI_ge hlt (by omega)), G_66_5 h, Option.bind_some, A_69 h hm10, Option.bind_some, b0]
      simp only [op_jn]
      have go : ∃ M', ((op_gR M 7 66 15).bind fun x_52 => (op_is M 66 7).bind fun _ => (f_X7_at 66 (nI m) (nI s) (nI i)).bind fun z_53 => (op_sZ M x_52 z_53 (bI (lem z w V m s i))).bind fun M_54 => lp_X7_nestedLeads_2 66 (nI m) (nI s) k (nI i + 1) M_54) = some M' ∧ Row z m s (lem z w V m s) M' ∧ Cq m s M M' := by
        rw [G_66_15 h, Option.bind_some, I_66 h, Option.bind_some, m_at, Option.bind_some, S_79 h (at_lt hx hm10 hs hlt) (bI_in _), Option.bind_some, nI_1]
        have cw : Cq m s M (mm_wI M 79 (256 * m + 16 * s + i) (bI (lem z w V m s i))) := ⟨fun q => sh_wI q, fun a k q => by rw [mI_wI, if_neg (fun e => q ⟨e.1, by omega, by omega⟩)], rfl⟩
        obtain ⟨M2, d1, d2, d3⟩ := m_n2 hm hs hk k (i + 1) (mm_wI M 79 (256 * m + 16 * s + i) (bI (lem z w V m s i))) (by omega) (by omega) (sh_wI h) (hr.cq cw) (hA.cq hx (by omega) hs cw) (hB.cq hx (by omega) hs cw) (fun t ht => by
          by_cases et : t = i
          · subst et
            rw [mI_wI, if_pos ⟨rfl, rfl⟩]
          · rw [mI_wI, if_neg (fun q => et (by omega))]
            exact hf t (by omega))
        exact ⟨M2, d1, d2, cw.tr d3⟩
      by_cases e5 : vK V m = 5
      · rw [lem_5 hr.2.2.1 hm e5] at go
        rw [if_pos (show nI (vK V m) = (5 : Int32) by rw [e5]; rfl), G_66_15 h, Option.bind_some, G_66_6 h, Option.bind_some, A_70 h hm10, Option.bind_some, I_66 h, Option.bind_some, b1 (by omega), m_at, Option.bind_some, A_79 h (at_lt hx (by omega) hs hlt), Option.bind_some, hA s hs i hlt]
        rw [G_66_15 h, Option.bind_some, I_66 h, Option.bind_some] at go
        by_cases q : lem z w V (vA V m) s i = true
        · rw [q, Bool.true_or] at go
          rw [if_pos q, if_neg (show ¬ (1 : Int32) = 0 by decide)]
          exact go
        · rw [if_neg q, if_pos rfl, Option.bind_some, G_66_7 h, Option.bind_some, A_71 h hm10, Option.bind_some, Option.bind_some, b2 (by omega), m_at, Option.bind_some, A_79 h (at_lt hx (by omega) hs hlt), Option.bind_some, hB s hs i hlt]
          rw [Bool.eq_false_iff.mpr q, Bool.false_or] at go
          by_cases r : lem z w V (vB V m) s i = true
          · rw [r] at go
            rw [if_pos r, if_neg (show ¬ (1 : Int32) = 0 by decide)]
            exact go
          · rw [Bool.eq_false_iff.mpr r] at go
            rw [if_neg r, if_pos rfl]
            exact go
      · have e6 : vK V m = 6 := by omega
        rw [if_neg (show ¬ nI (vK V m) = (5 : Int32) from fun q => e5 ((nI_eq (by omega) (by omega)).mp q))]
        have e1 := fun K => m_n76 K h hr hm hs hlt hk hA hB FU 0 (by omega) (by unfold FU; omega)
        rw [← lem_6 hr.2.2.1 hm e6] at e1
        have e2 := e1 (fun (l_23_4 : Int32) => (op_gR M 7 66 15).bind fun x_52 => (op_is M 66 7).bind fun _ => (f_X7_at 66 (nI m) (nI s) (nI i)).bind fun z_53 => (op_sZ M x_52 z_53 l_23_4).bind fun M_54 => lp_X7_nestedLeads_2 66 (nI m) (nI s) k (nI i + 1) M_54)
        obtain ⟨M2, d1, d2, d3⟩ := go
        exact ⟨M2, Eq.trans e2 d1, d2, d3⟩
theorem m_r64 (K : Mm → Option (Int32 × Mm)) (i1 i2 : Int32) (hm : m < 10) (hs : s < ns z) : ∀ (k i : Nat) (M : Mm), i ≤ ns z → ns z - i < k → Shp M → GeoM z M → (∀ t, t < i → mm_I M 79 (256 * m + 16 * s + t) = 0) → ∃ M', lp_X7_reach_64 K 66 i1 i2 (nI m) (nI s) k (nI i) M = K M' ∧ Row z m s (fun _ => false) M' ∧ Cq m s M M'
  | 0, i, M, _, h2, _, _, _ => absurd h2 (by omega)
  | k + 1, i, M, h1, h2, h, hg, hf => by
    have h16 := (gz_1 z hg.1).2.1
    rw [lp_X7_reach_64, G_66_2 h, Option.bind_some, hg.2.2.1]
    by_cases e : i = ns z
    · rw [if_pos (nI_le (by omega) (by omega))]
      exact ⟨M, rfl, fun t ht => hf t (by omega), Cq.rf⟩
    · have hlt : i < ns z := by omega
      rw [if_neg (nI_ge hlt (by omega)), G_66_15 h, Option.bind_some, I_66 h, Option.bind_some, m_at, Option.bind_some, S_79 h (at_lt hg.1 hm hs hlt) (Or.inl rfl), Option.bind_some, nI_1]
      have cw : Cq m s M (mm_wI M 79 (256 * m + 16 * s + i) 0) := ⟨fun q => sh_wI q, fun a k q => by rw [mI_wI, if_neg (fun e => q ⟨e.1, by omega, by omega⟩)], rfl⟩
      obtain ⟨M2, d1, d2, d3⟩ := m_r64 K i1 i2 hm hs k (i + 1) (mm_wI M 79 (256 * m + 16 * s + i) 0) (by omega) (by omega) (sh_wI h) (hg.cq cw) (fun t ht => by
        by_cases et : t = i
        · subst et
          rw [mI_wI, if_pos ⟨rfl, rfl⟩]
        · rw [mI_wI, if_neg (fun q => et (by omega))]
          exact hf t (by omega))
      exact ⟨M2, d1, d2, cw.tr d3⟩
theorem Cm.rf : Cm j M M := ⟨id, fun _ _ _ => rfl, rfl⟩
theorem Cm.tr (h : Cm j M M') (h' : Cm j M' M'') : Cm j M M'' := ⟨fun q => h'.1 (h.1 q), fun a k q => (h'.2.1 a k q).trans (h.2.1 a k q), h'.2.2.trans h.2.2⟩
theorem Cm.cq (h : Cq j s M M') (hs : s < 16) : Cm j M M' := ⟨h.1, fun a k q => h.2.1 a k (by omega), h.2.2⟩
theorem RB.cm (h : RB z w V nm M) (hc : Cm j M M') : RB z w V nm M' := h.fr (fun a k e => hc.2.1 a k (by omega))
theorem LeV.cm {i : Nat} (h : LeV z w V i M) (hx : z ∈ OKZ) (hj : i ≠ j) (hc : Cm j M M') : LeV z w V i M' := fun s hs t ht => by
  have := gz_n hx hs
  have := gz_n hx ht
  rw [hc.2.1 79 _ (by omega)]
  exact h s hs t ht
theorem Wnt.cm {i : Nat} (h : Wnt V m i M) (hc : Cm j M M') : Wnt V m i M' := by
  have f : ∀ k, mm_I M' 80 k = mm_I M 80 k := fun k => hc.2.1 _ _ (by omega)
  refine ⟨fun k hk => by rw [f]; exact h.1 k hk, by rw [f]; exact h.2.1, fun k h1 h2 h3 h4 => ?_⟩
  rw [f, f]
  rw [f] at h3
  exact h.2.2 k h1 h2 h3 h4
theorem m_r43 (K : Mm → Option (Int32 × Mm)) (i1 i2 : Int32) (hj : j < nm) : ∀ (k i : Nat) (M : Mm), i ≤ ns z → ns z - i < k → Shp M → RB z w V nm M → (mm_I M 80 j = 0 ∨ mm_I M 80 j = 1) → (mm_I M 80 j = 1 → 5 ≤ vK V j → LeV z w V (vA V j) M ∧ LeV z w V (vB V j) M) → (∀ s, s < i → Row z j s (lem z w V j s) M) → ∃ M', lp_X7_reach_43 K 66 i1 i2 (nI j) k (nI i) M = K M' ∧ (mm_I M 80 j = 1 → LeV z w V j M') ∧ Cm j M M'
  | 0, i, M, _, h2, _, _, _, _, _ => absurd h2 (by omega)
  | k + 1, i, M, h1, h2, h, hr, hw, hAB, hf => by
    have hx := hr.1.1
    have hn := hr.2.2.2.1
    have hj10 : j < 10 := by omega
    have h16 := (gz_1 z hx).2.1
    obtain ⟨b0, b1, b2, b3, b4, b5, b6⟩ := hr.2.2.2.2.2 j hj
    obtain ⟨o1, o2, o3, o4, o5, o6⟩ := hr.2.2.1 j hj
    rw [lp_X7_reach_43, G_66_2 h, Option.bind_some, hr.1.2.2.1]
    by_cases e : i = ns z
    · rw [if_pos (nI_le (by omega) (by omega))]
      exact ⟨M, rfl, fun _ s hs => hf s (by omega), Cm.rf⟩
    · have hlt : i < ns z := by omega
      rw [if_neg (nI_ge hlt (by omega)), G_66_16 h, Option.bind_some, A_80 h hj10, Option.bind_some]
      cases hw with
      | inl hw =>
        rw [hw, if_pos rfl]
        exact ⟨M, rfl, fun q => absurd q (by decide), Cm.rf⟩
      | inr hw =>
        rw [hw, if_neg (show ¬ (1 : Int32) = 0 by decide)]
        obtain ⟨M1, a1, a2, a3⟩ := m_r64 (z := z) (fun (M_20 : Mm) => (op_gR M_20 7 66 5).bind fun x_21 => (op_aI M_20 x_21 (nI j)).bind fun x_22 => op_jn (fun (M_23 : Mm) => lp_X7_reach_43 K 66 i1 i2 (nI j) k (nI i + 1) M_23) fun j_23 => if x_22 < (5 : Int32) then (op_is M_20 66 7).bind fun _ => (f_X7_plainLeads 66 (nI j) (nI i) M_20).bind fun z_25 => j_23 z_25 else (op_is M_20 66 7).bind fun _ => (f_X7_nestedLeads 66 (nI j) (nI i) M_20).bind fun z_26 => j_23 z_26) i1 i2 hj10 hlt FU 0 M (by omega) (by unfold FU; omega) h hr.1 (fun t ht => absurd ht (by omega))
        have h1' := a3.1 h
        have r1 := hr.cq a3
        have b0' : mm_I M1 69 j = nI (vK V j) := (a3.2.1 69 j (by omega)).trans b0
        have go : ∀ N, Row z j i (lem z w V j i) N → Cq j i M N → ∃ M', lp_X7_reach_43 K 66 i1 i2 (nI j) k (nI i + 1) N = K M' ∧ ((1 : Int32) = 1 → LeV z w V j M') ∧ Cm j M M' := fun N hN cN => by
          have fw : mm_I N 80 j = mm_I M 80 j := cN.2.1 80 j (by omega)
          obtain ⟨M2, d1, d2, d3⟩ := m_r43 K i1 i2 hj k (i + 1) N (by omega) (by omega) (cN.1 h) (hr.cq cN) (by rw [fw]; exact Or.inr hw) (fun _ q5 => by
            obtain ⟨q1, q2, q3⟩ := o3 q5
            obtain ⟨lA, lB⟩ := hAB hw q5
            exact ⟨lA.cq hx (by omega) hlt cN, lB.cq hx (by omega) hlt cN⟩) (fun s hs t ht => by
            by_cases es : s = i
            · subst es
              exact hN t ht
            · have := gz_n hx ht
              rw [cN.2.1 79 _ (by omega)]
              exact hf s (by omega) t ht)
          rw [nI_1]
          exact ⟨M2, d1, fun _ => d2 (by rw [fw]; exact hw), (Cm.cq cN (by omega)).tr d3⟩
        by_cases q5 : vK V j < 5
        · obtain ⟨M2, c1, c2, c3⟩ := m_plainLeads h1' r1 hj hlt q5 a2
          obtain ⟨M3, d1, d2, d3⟩ := go M2 c2 (a3.tr c3)
          refine ⟨M3, ?_, d2, d3⟩
          refine Eq.trans a1 ?_
          try dsimp only
          rw [G_66_5 h1', Option.bind_some, A_69 h1' hj10, Option.bind_some, b0']
          simp only [op_jn]
          rw [if_pos (show nI (vK V j) < (5 : Int32) from nI_lt (b := 5) q5 (by omega)), I_66 h1', Option.bind_some, c1, Option.bind_some]
          exact d1
        · obtain ⟨lA, lB⟩ := hAB hw (by omega)
          obtain ⟨q1, q2, q3⟩ := o3 (by omega)
          have hnl : ∃ M', f_X7_nestedLeads 66 (nI j) (nI i) M1 = some M' ∧ Row z j i (lem z w V j i) M' ∧ Cq j i M1 M' := by
            unfold f_X7_nestedLeads
            exact m_n2 hj hlt (by omega) FU 0 M1 (by omega) (by unfold FU; omega) h1' r1 (lA.cq hx (by omega) hlt a3) (lB.cq hx (by omega) hlt a3) (fun t ht => absurd ht (by omega))
          obtain ⟨M2, c1, c2, c3⟩ := hnl
          obtain ⟨M3, d1, d2, d3⟩ := go M2 c2 (a3.tr c3)
          refine ⟨M3, ?_, d2, d3⟩
          refine Eq.trans a1 ?_
          try dsimp only
          rw [G_66_5 h1', Option.bind_some, A_69 h1' hj10, Option.bind_some, b0']
          simp only [op_jn]
          rw [if_neg (show ¬ nI (vK V j) < (5 : Int32) from nI_nlt (b := 5) (by omega) (by omega)), I_66 h1', Option.bind_some, c1, Option.bind_some]
          exact d1
def Cv (M M' : Mm) : Prop := (Shp M → Shp M') ∧ (∀ a k, a ≠ 79 → a ≠ 80 → mm_I M' a k = mm_I M a k) ∧ mm_L M' = mm_L M
theorem m_r35 (K : Mm → Option (Int32 × Mm)) (i2 : Int32) (hm : m < nm) : ∀ (k j : Nat) (M : Mm), j ≤ m + 1 → m + 1 - j < k → Shp M → RB z w V nm M → Wnt V m 0 M → (∀ i, i < j → mm_I M 80 i = 1 → LeV z w V i M) → ∃ M', lp_X7_reach_35 K 66 (nI m) i2 k (nI j) M = K M' ∧ LeV z w V m M' ∧ Cv M M' 
  | 0, j, M, _, h2, _, _, _, _ => absurd h2 (by omega)
  | k + 1, j, M, h1, h2, h, hr, hw, hf => by
    have hx := hr.1.1
    have hn := hr.2.2.2.1
    have h16 := (gz_1 z hx).2.1
    rw [lp_X7_reach_35]
    by_cases e : j = m + 1
    · rw [if_pos (nI_lt (by omega) (by omega))]
      exact ⟨M, rfl, hf m (by omega) hw.2.1, ⟨id, fun _ _ _ _ => rfl, rfl⟩⟩
    · rw [if_neg (nI_nlt (by omega) (by omega))]
      have hjn : j < nm := by omega
      obtain ⟨M1, a1, a2, a3⟩ := m_r43 (fun (M_33 : Mm) => lp_X7_reach_35 K 66 (nI m) i2 k (nI j + 1) M_33) (nI m) i2 hjn FU 0 M (by omega) (by unfold FU; omega) h hr (hw.1 j (by omega)) (fun q5 q6 => by
        obtain ⟨q1, q2, q3⟩ := (hr.2.2.1 j hjn).2.2.1 q6
        obtain ⟨wa, wb⟩ := hw.2.2 j (by omega) (by omega) q5 q6
        exact ⟨hf _ (by omega) wa, hf _ (by omega) wb⟩) (fun s hs => absurd hs (by omega))
      have f80 : ∀ k, mm_I M1 80 k = mm_I M 80 k := fun k => a3.2.1 _ _ (by omega)
      obtain ⟨M2, d1, d2, d3⟩ := m_r35 K i2 hm k (j + 1) M1 (by omega) (by omega) (a3.1 h) (hr.cm a3) (hw.cm a3) (fun i hi q => by
        rw [f80] at q
        by_cases ei : i = j
        · subst ei
          exact a2 q
        · exact (hf i (by omega) q).cm hx ei a3)
      refine ⟨M2, ?_, d2, ⟨fun q => d3.1 (a3.1 q), fun a k q1 q2 => (d3.2.1 a k q1 q2).trans (a3.2.1 a k (by omega)), d3.2.2.trans a3.2.2⟩⟩
      refine Eq.trans a1 ?_
      try dsimp only
      rw [nI_1]
      exact d1
end
