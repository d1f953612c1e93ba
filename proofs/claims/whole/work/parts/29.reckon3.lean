section
variable {M M' M'' : Mm} {x : Zt} {w : Nat → Nat} {V : Mv} {nm cg m s t q n lim dep : Nat}
theorem p_reckon : ∀ d, RkOk (f_X0_reckon d) x w V nm cg d
  | 0 => fun m s t dep M _ _ _ _ _ _ h => absurd h (by omega)
  | d + 1 => by
    intro m s t dep M h hr hm hs ht hd hl
    have hx := hr.1.1
    have hw := hr.2.1.1
    have ho := hr.2.2.1
    have hn := hr.2.2.2.1
    have hm10 : m < 10 := by omega
    have hs16 := gz_n hx hs
    have ht16 := gz_n hx ht
    obtain ⟨M1, a1, a2, a3, a4, a6, a5⟩ := p_freshen h hx hr.2.2.2.2.2 hn hm
    have h1 := a5.1 h
    have r1 := hr.cr a5 a2
    have up1 : KnUp cg M M1 := ⟨a6, fun a b c ha _ _ k => a4 a b c ha k⟩
    rw [f_X0_reckon, G_57_1 h, Option.bind_some, A_6 h hm10, Option.bind_some, G_57_7 h, Option.bind_some, hr.2.2.2.2.2.1, I_m h hm10, Option.bind_some, a1, Option.bind_some, if_neg (show ¬ (2 : Int32) < nI dep from nI_nlt (a := 2) (by omega) (by omega)), I_m h1 hm10, Option.bind_some, p_knows h1 hm10 hs16 ht16, Option.bind_some]
    by_cases ek : mm_L M1 (11 + 5 * m) (s * 16 + t) = 0
    · rw [if_pos ek, if_pos rfl, G_m_0 h1 hm10, Option.bind_some]
      obtain ⟨b0, b1, b2, b3, b4, b5, b6⟩ := r1.2.2.2.2.1.2 m hm
      obtain ⟨o1, o2, o3, o4, o5, o6⟩ := ho m hm
      -- the end: store what stands in found
      have fin : ∀ {M2 : Mm}, Shp M2 → RC x w V nm cg M2 → FrC 58 (chm x w V m s t) M2 → KnUp cg M1 M2 → Cr M1 M2 → mm_I M2 (7 + 5 * m) 10 = nI cg → ∃ M', ((op_gR M2 0 57 2).bind fun x_35 => (op_is M2 (7 + 5 * m) 2).bind fun _ => (f_X2_store (7 + 5 * m) (nI s) (nI t) x_35 M2).bind fun z_36 => some z_36) = some M' ∧ CaC x w V nm cg M' ∧ Kn cg m s t M' ∧ KnUp cg M M' ∧ Cr M M' := by
        intro M2 h2 r2 hf up2 c2 hcur
        obtain ⟨M3, d1, d2, d3, d4, d6, d5⟩ := p_store h2 hx hw ho r2.2.2.2.2.2 hn hm hs ht hcur hf
        rw [G_57_2 h2, Option.bind_some, I_m h2 hm10, Option.bind_some, d1, Option.bind_some]
        exact ⟨M3, rfl, d2, d3, (up1.tr up2).tr ⟨fun a ha k => by rw [d6]; exact k, d4⟩, (a5.tr c2).tr d5⟩
      have finF : ∀ {M2 : Mm}, Ch FS M1 M2 → FrC 58 (chm x w V m s t) M2 → ∃ M', ((op_gR M2 0 57 2).bind fun x_35 => (op_is M2 (7 + 5 * m) 2).bind fun _ => (f_X2_store (7 + 5 * m) (nI s) (nI t) x_35 M2).bind fun z_36 => some z_36) = some M' ∧ CaC x w V nm cg M' ∧ Kn cg m s t M' ∧ KnUp cg M M' ∧ Cr M M' := fun hc hf => fin (hc.1 h1) (r1.fq hc) hf (KnUp.fq hc) (Cr.fq hc) ((hc.I (nFS (by omega))).trans a3)
      simp only [op_jn]
      rw [b0]
      have key : ∀ {C' : Nat}, vK V m ≠ C' → C' < 10 → ¬ nI (vK V m) = nI C' := fun hne hc e => hne ((nI_eq (by omega) (by omega)).mp e)
      by_cases e0 : vK V m = 0
      · have hp := (o2 (by omega)).2.1 (by omega)
        obtain ⟨M2, c1, c2, c3⟩ := p_redraw h1 r1.1 r1.2.1 hs ht hp
        rw [if_pos (show nI (vK V m) = (0 : Int32) by rw [e0]; rfl), G_m_1 h1 hm10, Option.bind_some, I_57 h1, Option.bind_some, b1 (by omega), c1, Option.bind_some]
        exact finF (c3.fq fs58) (by rw [chm_p ho hm (by omega)]; unfold chP; rw [if_pos e0]; exact c2)
      · rw [if_neg (show ¬ nI (vK V m) = (0 : Int32) from key (C' := 0) e0 (by omega))]
        by_cases e1 : vK V m = 1
        · have hp := (o2 (by omega)).2.1 (by omega)
          have hx1 := gz_9 x hx s hs (vA V m) hp
          obtain ⟨M2, c1, c2, c3⟩ := p_propose h1 r1.1 r1.2.1 hs ht hx1.1 hx1.2
          rw [if_pos (show nI (vK V m) = (1 : Int32) by rw [e1]; rfl), G_57_0 h1, Option.bind_some, G_m_1 h1 hm10, Option.bind_some, I_1 h1, Option.bind_some, b1 (by omega), p_next h1 r1.1 hs hp, Option.bind_some, Option.bind_some, Option.bind_some, I_1 h1, Option.bind_some, p_before h1 r1.1 hs hp, Option.bind_some, I_57 h1, Option.bind_some, c1, Option.bind_some]
          exact finF (c3.fq fs58) (by rw [chm_p ho hm (by omega)]; unfold chP; rw [if_neg e0, if_pos e1]; exact c2)
        · rw [if_neg (show ¬ nI (vK V m) = (1 : Int32) from key (C' := 1) e1 (by omega))]
          by_cases e2 : vK V m = 2
          · have hp := (o2 (by omega)).2.1 (by omega)
            obtain ⟨hb, hab, hz⟩ := (o2 (by omega)).2.2 e2
            have hx1 := (gz_8 x hx s hs _ hp _ hb hab hz).2.1
            obtain ⟨M2, c1, c2, c3⟩ := p_propose h1 r1.1 r1.2.1 hs ht hx1 hx1
            rw [if_pos (show nI (vK V m) = (2 : Int32) by rw [e2]; rfl), G_57_0 h1, Option.bind_some, G_m_1 h1 hm10, Option.bind_some, G_m_2 h1 hm10, Option.bind_some, I_1 h1, Option.bind_some, b1 (by omega), b2 (by omega), p_exchanged h1 r1.1 hs hp hb hab hz, Option.bind_some, I_57 h1, Option.bind_some, c1, Option.bind_some]
            exact finF (c3.fq fs58) (by rw [chm_p ho hm (by omega)]; unfold chP; rw [if_neg e0, if_neg e1, if_pos e2]; exact c2)
          · rw [if_neg (show ¬ nI (vK V m) = (2 : Int32) from key (C' := 2) e2 (by omega))]
            by_cases e3 : vK V m = 3
            · obtain ⟨M2, c1, c2, c3⟩ := p_tell h1 hm10 r1.1 r1.2.1 b6 hs ht
              rw [if_pos (show nI (vK V m) = (3 : Int32) by rw [e3]; rfl), I_57 h1, Option.bind_some, c1, Option.bind_some]
              exact finF c3 (by rw [chm_p ho hm (by omega)]; unfold chP; rw [if_neg e0, if_neg e1, if_neg e2, if_pos e3]; exact c2)
            · rw [if_neg (show ¬ nI (vK V m) = (3 : Int32) from key (C' := 3) e3 (by omega))]
              by_cases e4 : vK V m = 4
              · have hp := (o2 (by omega)).2.1 (by omega)
                obtain ⟨M2, c1, c2, c3⟩ := p_slice h1 r1.1 r1.2.1 hs ht hp
                rw [if_pos (show nI (vK V m) = (4 : Int32) by rw [e4]; rfl), G_m_1 h1 hm10, Option.bind_some, I_57 h1, Option.bind_some, b1 (by omega), c1, Option.bind_some]
                exact finF (c3.fq fs58) (by rw [chm_p ho hm (by omega)]; unfold chP; rw [if_neg e0, if_neg e1, if_neg e2, if_neg e3]; exact c2)
              · rw [if_neg (show ¬ nI (vK V m) = (4 : Int32) from key (C' := 4) e4 (by omega))]
                have hR : RkOk (f_X0_reckon d) x w V nm cg d := p_reckon d
                by_cases e5 : vK V m = 5
                · obtain ⟨M2, c1, c2, c3, c4, c5⟩ := p_mix hR h1 r1 hm hs ht e5 hd (by omega)
                  rw [if_pos (show nI (vK V m) = (5 : Int32) by rw [e5]; rfl), I_57 h1, Option.bind_some, c1, Option.bind_some]
                  exact fin (c5.1 h1) c3 c2 c4 c5 (c4.1 m hm10 a3)
                · rw [if_neg (show ¬ nI (vK V m) = (5 : Int32) from key (C' := 5) e5 (by omega))]
                  obtain ⟨M2, c1, c2, c3, c4, c5⟩ := p_cycle hR h1 r1 hm hs ht (by omega) hd (by omega)
                  rw [I_57 h1, Option.bind_some, c1, Option.bind_some]
                  exact fin (c5.1 h1) c3 c2 c4 c5 (c4.1 m hm10 a3)
    · rw [if_neg ek, if_neg (by decide)]
      exact ⟨M1, rfl, a2, ⟨a3, ek⟩, up1, a5⟩
end
