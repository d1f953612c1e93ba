section
variable {M M' M'' : Mm} {z : Zt} {w : Nat → Nat} {V : Mv} {n nm cg m s t : Nat} {a b c d : Int32} {y : Fq}
theorem RB.cc (h : RB z w V nm M) (hc : Cc M M') : RB z w V nm M' := h.fr (fun a k e => by rw [(hc.2 a (by omega)).1])
theorem CaM.cc (h : CaM z w V nm M) (hc : Cc M M') : CaM z w V nm M' := fun j hj => by
  rw [(hc.2 78 (by omega)).1]
  refine ⟨(h j hj).1, fun e s hs t ht => ?_⟩
  rw [(hc.2 76 (by omega)).2, (hc.2 77 (by omega)).2]
  exact (h j hj).2 e s hs t ht
theorem RunR.fr (h : RunR z M) (f : ∀ a k, (a = 64 ∧ (k = 3 ∨ k = 4)) ∨ a = 65 ∨ (a = 66 ∧ (k = 17 ∨ k = 19)) ∨ a = 81 → mm_I M' a k = mm_I M a k) : RunR z M' := by
  rcases h with ⟨e1, e2⟩ | ⟨n, tr, hn, r1, r2, r3, r4⟩
  · exact Or.inl ⟨(f _ _ (by omega)).trans e1, (f _ _ (by omega)).trans e2⟩
  · refine Or.inr ⟨n, tr, hn, (f _ _ (by omega)).trans r1, (f _ _ (by omega)).trans r2, ?_, fun j hj => ?_⟩
    · rw [f 64 4 (by omega), f 66 19 (by omega)]
      exact r3
    · obtain ⟨q1, q2, q3⟩ := r4 j hj
      exact ⟨q1, (f _ _ (by omega)).trans q2, (f _ _ (by omega)).trans q3⟩
theorem RunR.cc (h : RunR z M) (hc : Cc M M') : RunR z M' := h.fr (fun a k e => by rw [(hc.2 a (by omega)).1])
theorem RunR.cw (h : RunR z M) (hc : Cw M M') : RunR z M' := h.fr (fun a k e => hc.2.1 a k (by omega) (by omega) (by omega))
theorem RunR.cu (h : RunR z M) (hc : Cu M M') : RunR z M' := h.fr (fun a k e => by rw [hc.2.1])
theorem RunR.cv (h : RunR z M) (hc : Cv M M') : RunR z M' := h.fr (fun a k e => hc.2.1 a k (by omega) (by omega))
/-- the class's state is read from cells below 66 alone -/
theorem RC.fr (h : RC z w V nm cg M) (f : ∀ a, a < 58 → mm_I M' a = mm_I M a ∧ mm_L M' a = mm_L M a) (hs : Shp M → Shp M') : RC z w V nm cg M' :=
  h.ch (S := fun a => 58 ≤ a) ⟨hs, fun a ha => f a (by omega)⟩ (fun _ e => e)
theorem RC.cw (h : RC z w V nm cg M) (hc : Cw M M') : RC z w V nm cg M' := h.fr (fun a ha => ⟨funext fun k => hc.2.1 a k (by omega) (by omega) (by omega), funext fun k => hc.2.2 a k (by omega) (by omega) (by omega)⟩) hc.1
theorem RC.cu (h : RC z w V nm cg M) (hc : Cu M M') : RC z w V nm cg M' := h.cw (Cw.cu hc)
theorem RC.cv (h : RC z w V nm cg M) (hc : Cv M M') : RC z w V nm cg M' := h.fr (fun a ha => ⟨funext fun k => hc.2.1 a k (by omega) (by omega), by rw [hc.2.2]⟩) hc.1
theorem RC.rw' (h : RC z w V nm cg M) : RW z w V nm M := ⟨h.1, h.2.1, h.2.2.1, h.2.2.2.1, h.2.2.2.2.1⟩
def Agr (cg : Nat) {α : Type} (fx : Option (α × Mm)) (fm : Mm → Option (α × Mm)) : Prop := ∃ A M1 M2 cg', fx = some (A, M1) ∧ Shp M1 ∧ fm M1 = some (A, M2) ∧ Shp M2 ∧ cg ≤ cg' ∧ cg' ≤ cg + 1 ∧ (No cg' M2 ∨ ∃ z w V nm, Go z w V nm cg' M2)
theorem Agr.no {α : Type} {fx : Option (α × Mm)} {fm : Mm → Option (α × Mm)} {A : α} (I : Inv cg M) (h1 : fx = some (A, M)) (h2 : fm M = some (A, M)) : Agr cg fx fm := ⟨A, M, M, cg, h1, I.1, h2, I.1, by omega, by omega, I.2⟩
theorem s_keeps (I : Inv cg M) : Agr cg (f_X6_keeps 0 a M) (f_X7_keeps 66 a) := by
  obtain ⟨h, J⟩ := id I
  rcases J with J | ⟨z, w, V, nm, C, B, ca, R⟩
  · refine Agr.no (A := -2) I ?_ ?_
    · unfold f_X6_keeps
      simp only [I_0 h, pH0 h J.2.2.1, i10, Option.bind_some, ↓reduceIte]
    · unfold f_X7_keeps
      simp only [G_66_2 h, J.2.2.2.2.2.2.1, i10, Option.bind_some, ↓reduceIte]
  · have hg := C.1
    have gm := B.1
    have hn := B.2.2.2.1
    by_cases q : ok nm a
    · obtain ⟨m, hm, rfl⟩ := q
      obtain ⟨M1, a1, a2, a3⟩ := p_isKeeping h C hm
      have h1 := a3.1 h
      have B1 := B.cc a3
      obtain ⟨M2, b1, b2, b3, b4⟩ := m_know h1 B1 (ca.cc a3) hm
      have h2 := b4.1 h1
      have B2 := B1.cw b4
      obtain ⟨M3, c1, c2⟩ := m_kp2 hm FU (ns z) 0 M2 (by omega) (by have := (gz_1 z hg.1); unfold FU; omega) h2 B2 b3
      refine ⟨kpR z w V m (ns z) 0, M1, M3, cg, ?_, h1, ?_, c2.1 h2, by omega, by omega, Or.inr ⟨z, w, V, nm, (a2.cw b4).cu c2, B2.cu c2, b2.cu c2, ((R.cc a3).cw b4).cu c2⟩⟩
      · unfold f_X6_keeps
        simp only [I_0 h, pH1 h hg, p_isM1 h C.2.2.2.2.1.1 hn hm, G_0_2 h, I_57 h, a1, i10, Option.bind_some, ↓reduceIte]
      · unfold f_X7_keeps
        simp only [G_66_2 h1, ns_n0 B1.1, I_66 h1, m_isM1 h1 B1.2.2.2.2.1 hn hm, b1, i10, Option.bind_some, ↓reduceIte]
        exact c1
    · refine Agr.no (A := -1) I ?_ ?_
      · unfold f_X6_keeps
        simp only [I_0 h, pH1 h hg, p_isM0 h C.2.2.2.2.1.1 hn q, i10, Option.bind_some, ↓reduceIte]
      · unfold f_X7_keeps
        simp only [G_66_2 h, ns_n0 gm, I_66 h, m_isM0 h B.2.2.2.2.1 hn q, i10, Option.bind_some, ↓reduceIte]
theorem s_goesBack (I : Inv cg M) : Agr cg (f_X6_goesBack 0 a M) (f_X7_goesBack 66 a) := by
  obtain ⟨h, J⟩ := id I
  rcases J with J | ⟨z, w, V, nm, C, B, ca, R⟩
  · refine Agr.no (A := -2) I ?_ ?_
    · unfold f_X6_goesBack
      simp only [I_0 h, pH0 h J.2.2.1, i10, Option.bind_some, ↓reduceIte]
    · unfold f_X7_goesBack
      simp only [G_66_2 h, J.2.2.2.2.2.2.1, i10, Option.bind_some, ↓reduceIte]
  · have hg := C.1
    have gm := B.1
    have hn := B.2.2.2.1
    by_cases q : ok nm a
    · obtain ⟨m, hm, rfl⟩ := q
      obtain ⟨M1, a1, a2, a3⟩ := p_isBalanced h C hm
      have h1 := a3.1 h
      have B1 := B.cc a3
      obtain ⟨M2, b1, b2, b3, b4⟩ := m_know h1 B1 (ca.cc a3) hm
      have h2 := b4.1 h1
      have B2 := B1.cw b4
      obtain ⟨M3, c1, c2⟩ := m_gb2 hm FU (ns z) 0 M2 (by omega) (by have := (gz_1 z hg.1); unfold FU; omega) h2 B2 b3
      refine ⟨gbR z w V m (ns z) 0, M1, M3, cg, ?_, h1, ?_, c2.1 h2, by omega, by omega, Or.inr ⟨z, w, V, nm, (a2.cw b4).cu c2, B2.cu c2, b2.cu c2, ((R.cc a3).cw b4).cu c2⟩⟩
      · unfold f_X6_goesBack
        simp only [I_0 h, pH1 h hg, p_isM1 h C.2.2.2.2.1.1 hn hm, G_0_2 h, I_57 h, a1, i10, Option.bind_some, ↓reduceIte]
      · unfold f_X7_goesBack
        simp only [G_66_2 h1, ns_n0 B1.1, I_66 h1, m_isM1 h1 B1.2.2.2.2.1 hn hm, b1, i10, Option.bind_some, ↓reduceIte]
        exact c1
    · refine Agr.no (A := -1) I ?_ ?_
      · unfold f_X6_goesBack
        simp only [I_0 h, pH1 h hg, p_isM0 h C.2.2.2.2.1.1 hn q, i10, Option.bind_some, ↓reduceIte]
      · unfold f_X7_goesBack
        simp only [G_66_2 h, ns_n0 gm, I_66 h, m_isM0 h B.2.2.2.2.1 hn q, i10, Option.bind_some, ↓reduceIte]
theorem s_row (I : Inv cg M) : Agr cg (f_X6_row 0 a b c d M) (f_X7_row 66 a b c d) := by
  obtain ⟨h, J⟩ := id I
  rcases J with J | ⟨z, w, V, nm, C, B, ca, R⟩
  · refine Agr.no (A := -2) I ?_ ?_
    · unfold f_X6_row
      simp only [I_0 h, pH0 h J.2.2.1, i10, Option.bind_some, ↓reduceIte]
    · unfold f_X7_row
      simp only [G_66_2 h, J.2.2.2.2.2.2.1, i10, Option.bind_some, ↓reduceIte]
  · have hg := C.1
    have gm := B.1
    have hn := B.2.2.2.1
    by_cases q : ok nm a
    · obtain ⟨m, hm, rfl⟩ := q
      by_cases q : ok (ns z) b
      · obtain ⟨s, hs, rfl⟩ := q
        by_cases q : ok (ns z) c
        · obtain ⟨t, ht, rfl⟩ := q
          by_cases c1 : d < 0
          · refine Agr.no (A := -1) I ?_ ?_
            · unfold f_X6_row
              simp only [I_0 h, pH1 h hg, p_isM1 h C.2.2.2.2.1.1 hn hm, G_0_0 h, I_1 h, p_isState h hg hs, p_isState h hg ht, c1, i10, Option.bind_some, ↓reduceIte]
            · unfold f_X7_row
              simp only [G_66_2 h, ns_n0 gm, I_66 h, m_isM1 h B.2.2.2.2.1 hn hm, m_isState h gm hs, m_isState h gm ht, m_isI0 (Or.inl c1), i10, Option.bind_some, ↓reduceIte]
          · by_cases c2 : d ≤ 1
            · obtain ⟨M1, a1, a2, a3, a4⟩ := p_find h C hm hs ht
              have h1 := a4.1 h
              have B1 := B.cc a4
              obtain ⟨M2, b1, b2, b3, b4⟩ := m_know h1 B1 (ca.cc a4) hm
              have h2 := b4.1 h1
              have hx := hg.1
              have lt := at_lt hx (show m < 10 by omega) hs ht
              have cp : Cu M2 (mm_wL (mm_wL M2 66 21 (mm_L M2 76 (256 * m + 16 * s + t))) 66 22 (mm_L M2 77 (256 * m + 16 * s + t))) := Cu_put
              have fp : FrM (chm z w V m s t) (mm_wL (mm_wL M2 66 21 (mm_L M2 76 (256 * m + 16 * s + t))) 66 22 (mm_L M2 77 (256 * m + 16 * s + t))) := Fr_put (b3 s hs t ht)
              have e2 := m_takes h2 lt
              generalize mm_wL (mm_wL M2 66 21 (mm_L M2 76 (256 * m + 16 * s + t))) 66 22 (mm_L M2 77 (256 * m + 16 * s + t)) = M3 at cp fp e2
              have h3 := cp.1 h2
              have fin : Shp M3 ∧ (No cg M3 ∨ ∃ z w V nm, Go z w V nm cg M3) := ⟨h3, Or.inr ⟨z, w, V, nm, (a3.cw b4).cu cp, (B1.cw b4).cu cp, b2.cu cp, ((R.cc a4).cw b4).cu cp⟩⟩
              have okc := chm_ok hx B.2.1.1 B.2.2.1 hm hs ht
              have ex : ∃ A, f_X6_row 0 (nI m) (nI s) (nI t) d M = some (A, M1) ∧ f_X7_row 66 (nI m) (nI s) (nI t) d M1 = some (A, M3) := by
                unfold f_X6_row f_X7_row
                simp only [I_0 h, pH1 h hg, p_isM1 h C.2.2.2.2.1.1 hn hm, G_0_0 h, I_1 h, p_isState h hg hs, p_isState h hg ht, c1, c2, G_0_2 h, I_57 h, a1, G_58_2 h1, G_66_2 h1, ns_n0 B1.1, I_66 h1, m_isM1 h1 B1.2.2.2.2.1 hn hm, m_isState h1 B1.1 hs, m_isState h1 B1.1 ht, m_isI c1 c2, b1, I_66 h2, m_at, e2, G_66_22 h3, i10, Option.bind_some, ↓reduceIte]
                cases hy : chm z w V m s t with
                | none =>
                  rw [hy] at a2 fp
                  have a2 : mm_I M1 58 2 = 0 := a2
                  have fp : mm_L M3 66 22 = 0 := fp
                  simp only [a2, fp, ↓reduceIte]
                  exact ⟨_, rfl, rfl⟩
                | some v =>
                  obtain ⟨u, v⟩ := v
                  rw [hy] at a2 fp
                  obtain ⟨z1, z2, z3, z4⟩ := okc u v hy
                  have n1 : ¬ mm_I M1 58 2 = 0 := by rw [a2.2.2]; decide
                  have n2 : ¬ mm_L M3 66 22 = 0 := fun e => by rw [fp.2] at e; have := (ln_eq0 z2).mp e; omega
                  have n3 : ¬ lN v = 0 := by rw [← fp.2]; exact n2
                  by_cases e0 : d = 0
                  · simp only [n1, n2, e0, G_58_0 h1, G_66_21 h3, a2.1, fp.1, Option.bind_some, ↓reduceIte]
                    exact ⟨_, rfl, rfl⟩
                  · simp only [n1, n3, e0, G_58_1 h1, a2.2.1, fp.2, Option.bind_some, ↓reduceIte]
                    exact ⟨_, rfl, rfl⟩
              obtain ⟨A, e3, e4⟩ := ex
              exact ⟨A, M1, M3, cg, e3, h1, e4, fin.1, by omega, by omega, fin.2⟩
            · refine Agr.no (A := -1) I ?_ ?_
              · unfold f_X6_row
                simp only [I_0 h, pH1 h hg, p_isM1 h C.2.2.2.2.1.1 hn hm, G_0_0 h, I_1 h, p_isState h hg hs, p_isState h hg ht, c1, c2, i10, Option.bind_some, ↓reduceIte]
              · unfold f_X7_row
                simp only [G_66_2 h, ns_n0 gm, I_66 h, m_isM1 h B.2.2.2.2.1 hn hm, m_isState h gm hs, m_isState h gm ht, m_isI0 (Or.inr c2), i10, Option.bind_some, ↓reduceIte]
        · refine Agr.no (A := -1) I ?_ ?_
          · unfold f_X6_row
            simp only [I_0 h, pH1 h hg, p_isM1 h C.2.2.2.2.1.1 hn hm, G_0_0 h, I_1 h, p_isState h hg hs, p_isS0 h hg q, i10, Option.bind_some, ↓reduceIte]
          · unfold f_X7_row
            simp only [G_66_2 h, ns_n0 gm, I_66 h, m_isM1 h B.2.2.2.2.1 hn hm, m_isState h gm hs, m_isS0 h gm q, i10, Option.bind_some, ↓reduceIte]
      · refine Agr.no (A := -1) I ?_ ?_
        · unfold f_X6_row
          simp only [I_0 h, pH1 h hg, p_isM1 h C.2.2.2.2.1.1 hn hm, G_0_0 h, I_1 h, p_isS0 h hg q, i10, Option.bind_some, ↓reduceIte]
        · unfold f_X7_row
          simp only [G_66_2 h, ns_n0 gm, I_66 h, m_isM1 h B.2.2.2.2.1 hn hm, m_isS0 h gm q, i10, Option.bind_some, ↓reduceIte]
    · refine Agr.no (A := -1) I ?_ ?_
      · unfold f_X6_row
        simp only [I_0 h, pH1 h hg, p_isM0 h C.2.2.2.2.1.1 hn q, i10, Option.bind_some, ↓reduceIte]
      · unfold f_X7_row
        simp only [G_66_2 h, ns_n0 gm, I_66 h, m_isM0 h B.2.2.2.2.1 hn q, i10, Option.bind_some, ↓reduceIte]
/-- reach: the class's call leaves its memory, so its answer stands beside the reference's -/
theorem s_reach (I : Inv cg M) : ∃ A M2, f_X6_reach 0 a b M = some A ∧ f_X7_reach 66 a b M = some (A, M2) ∧ Inv cg M2 := by
  obtain ⟨h, J⟩ := id I
  unfold f_X6_reach f_X7_reach
  rcases J with J | ⟨z, w, V, nm, C, B, ca, R⟩
  · simp only [I_0 h, G_66_2 h, pH0 h J.2.2.1, J.2.2.2.2.2.2.1, Option.bind_some, ↓reduceIte]
    exact ⟨_, M, rfl, rfl, I⟩
  · have hg := C.1
    have gm := B.1
    have hn := B.2.2.2.1
    by_cases q : ok nm a
    · obtain ⟨m, hm, rfl⟩ := q
      by_cases q : ok (ns z) b
      · obtain ⟨s, hs, rfl⟩ := q
        obtain ⟨A, f, a1, a2, a3, a4⟩ := p_allFrom h C.rw' hm hs
        obtain ⟨M2, g, b1, b2, b3, b4⟩ := m_reachB h B hm hs
        have fg := Clo_un a3 b2
        have pc := p_count a2 hg.1 a4
        rw [fg] at pc
        simp only [I_0 h, G_66_2 h, pH1 h hg, ns_n0 gm, I_66 h, p_isM1 h C.2.2.2.2.1.1 hn hm, G_0_0 h, I_1 h, m_isM1 h B.2.2.2.2.1 hn hm, p_isState h hg hs, m_isState h gm hs, G_0_3 h, I_63 h, a1, pc, b1, i10, Option.bind_some, ↓reduceIte]
        exact ⟨_, M2, rfl, rfl, b4.1 h, Or.inr ⟨z, w, V, nm, C.cv b4, B.cv b4, ca.cv b4, R.cv b4⟩⟩
      · simp only [I_0 h, G_66_2 h, pH1 h hg, ns_n0 gm, I_66 h, p_isM1 h C.2.2.2.2.1.1 hn hm, G_0_0 h, I_1 h, m_isM1 h B.2.2.2.2.1 hn hm, p_isS0 h hg q, m_isS0 h gm q, i10, Option.bind_some, ↓reduceIte]
        exact ⟨_, M, rfl, rfl, I⟩
    · simp only [I_0 h, G_66_2 h, pH1 h hg, ns_n0 gm, I_66 h, p_isM0 h C.2.2.2.2.1.1 hn q, m_isM0 h B.2.2.2.2.1 hn q, i10, Option.bind_some, ↓reduceIte]
      exact ⟨_, M, rfl, rfl, I⟩
theorem s_run {e : Int64} (I : Inv cg M) : Agr cg (f_X6_run 0 a b c e M) (f_X7_run 66 a b c e) := by
  obtain ⟨h, J⟩ := id I
  rcases J with J | ⟨z, w, V, nm, C, B, ca, R⟩
  · refine Agr.no (A := -2) I ?_ ?_
    · unfold f_X6_run
      simp only [I_0 h, pH0 h J.2.2.1, i10, Option.bind_some, ↓reduceIte]
    · unfold f_X7_run
      simp only [G_66_2 h, J.2.2.2.2.2.2.1, i10, Option.bind_some, ↓reduceIte]
  · have hg := C.1
    have gm := B.1
    have hn := B.2.2.2.1
    by_cases q : ok nm a
    · obtain ⟨m, hm, rfl⟩ := q
      by_cases q : ok (ns z) b
      · obtain ⟨s, hs, rfl⟩ := q
        by_cases c1 : c < 0
        · refine Agr.no (A := -1) I ?_ ?_
          · unfold f_X6_run
            simp only [I_0 h, pH1 h hg, p_isM1 h C.2.2.2.2.1.1 hn hm, G_0_0 h, I_1 h, p_isState h hg hs, c1, i10, Option.bind_some, ↓reduceIte]
          · unfold f_X7_run
            simp only [G_66_2 h, ns_n0 gm, I_66 h, m_isM1 h B.2.2.2.2.1 hn hm, m_isState h gm hs, m_isI0 (Or.inl c1), i10, Option.bind_some, ↓reduceIte]
        · by_cases c2 : c ≤ 200
          · obtain ⟨n, hn2, rfl⟩ := nI_of2 (M := 200) (n := 200) rfl c1 c2
            obtain ⟨x, hx, ex⟩ := d_seed e
            obtain ⟨M1, a1, a2, a3, a4, a5⟩ := p_go h C.rw' hm hs hn2 hx ex
            have h1 := a2.1 h
            have u1 : ∀ q k, 66 ≤ q → mm_I M1 q k = mm_I M q k := fun q k hq => a2.I (fun e => by unfold Gs at e; omega)
            have u2 : ∀ q k, 66 ≤ q → mm_L M1 q k = mm_L M q k := fun q k hq => a2.L (fun e => by unfold Gs at e; omega)
            have B1 : RB z w V nm M1 := B.fr (fun q k e => u1 q k (by omega))
            have ca1 : CaM z w V nm M1 := fun j hj => by
              rw [u1 78 j (by omega)]
              refine ⟨(ca j hj).1, fun e s hs t ht => ?_⟩
              rw [u2 76 _ (by omega), u2 77 _ (by omega)]
              exact (ca j hj).2 e s hs t ht
            have C1 := C.ch a2 gs58
            have cN : Hs M1 (mm_wI (mm_wL (mm_wI (mm_wI M1 66 17 (nI n)) 66 19 0) 66 20 (lN x)) 81 0 (nI s)) := ⟨fun q => q, fun a k q p _ => by rw [mI_wI, if_neg (fun e => p e.1)]; show mm_I (mm_wI (mm_wI M1 66 17 (nI n)) 66 19 0) a k = _; rw [mI_wI, if_neg (by omega), mI_wI, if_neg (by omega)], fun a k q => by show mm_L (mm_wL (mm_wI (mm_wI M1 66 17 (nI n)) 66 19 0) 66 20 (lN x)) a k = _; rw [mL_wL, if_neg q]; rfl⟩
            have k1 : mm_I (mm_wI (mm_wL (mm_wI (mm_wI M1 66 17 (nI n)) 66 19 0) 66 20 (lN x)) 81 0 (nI s)) 66 17 = nI n := by
              rw [mI_wI, if_neg (by omega)]
              show mm_I (mm_wI (mm_wI M1 66 17 (nI n)) 66 19 0) 66 17 = _
              rw [mI_wI, if_neg (by omega), mI_wI, if_pos ⟨rfl, rfl⟩]
            have k2 : RuM x 0 (mm_wI (mm_wL (mm_wI (mm_wI M1 66 17 (nI n)) 66 19 0) 66 20 (lN x)) 81 0 (nI s)) := ⟨hx, by show mm_L (mm_wL (mm_wI (mm_wI M1 66 17 (nI n)) 66 19 0) 66 20 (lN x)) 66 20 = _; rw [mL_wL, if_pos ⟨rfl, rfl⟩], by rw [mI_wI, if_neg (by omega)]; show mm_I (mm_wI (mm_wI M1 66 17 (nI n)) 66 19 0) 66 19 = _; rw [mI_wI, if_pos ⟨rfl, rfl⟩]⟩
            have k3 : mm_I (mm_wI (mm_wL (mm_wI (mm_wI M1 66 17 (nI n)) 66 19 0) 66 20 (lN x)) 81 0 (nI s)) 81 0 = nI s := by rw [mI_wI, if_pos ⟨rfl, rfl⟩]
            have em : f_X7_run 66 (nI m) (nI s) (nI n) e M1 = lp_X7_run_69 (fun (M_21 : Mm) => (op_gR M_21 7 66 18).bind fun x_22 => (op_aI M_21 x_22 (nI n)).bind fun x_23 => some (x_23, M_21)) 66 (nI m) (nI n) FU (nI 1) (mm_wI (mm_wL (mm_wI (mm_wI M1 66 17 (nI n)) 66 19 0) 66 20 (lN x)) 81 0 (nI s)) := by
              have s81 := S_81 (sh_wL (sh_wI (sh_wI h1)) : Shp (mm_wL (mm_wI (mm_wI M1 66 17 (nI n)) 66 19 0) 66 20 (lN x))) (i := 0) (x := nI s) (show 0 < 201 by omega)
              rw [show nI 0 = (0 : Int32) from rfl] at s81
              unfold f_X7_run
              simp only [G_66_2 h1, ns_n0 B1.1, I_66 h1, m_isM1 h1 B1.2.2.2.2.1 hn hm, m_isState h1 B1.1 hs, m_isI c1 c2, P_66_17 h1, P_66_19 (sh_wI h1), ex, P_66_20 (sh_wI (sh_wI h1)), G_66_18 (sh_wL (sh_wI (sh_wI h1))), s81, i10, Option.bind_some, ↓reduceIte]
              rfl
            generalize mm_wI (mm_wL (mm_wI (mm_wI M1 66 17 (nI n)) 66 19 0) 66 20 (lN x)) 81 0 (nI s) = M2 at cN k1 k2 k3 em
            have h2 := cN.1 h1
            obtain ⟨M3, b1, b2, b3, b4, b5⟩ := m_run_l (m := m) (s := s) (x := x) (z := z) (w := w) (V := V) (n := n) (fun (M_21 : Mm) => (op_gR M_21 7 66 18).bind fun x_22 => (op_aI M_21 x_22 (nI n)).bind fun x_23 => some (x_23, M_21)) hm hn2 FU 0 M2 (by omega) (by unfold FU; omega) h2 (B1.hs cN) k2 (fun j hj => by
              have ej : j = 0 := by omega
              subst ej
              exact ⟨k3, hs⟩)
            have h3 := b2.1 h2
            have c3 := cN.tr b2
            have v1 : ∀ q k, q < 66 → mm_I M3 q k = mm_I M1 q k := fun q k hq => c3.2.1 q k (by omega) (by omega) (by omega)
            have v2 : ∀ q k, q < 66 → mm_L M3 q k = mm_L M1 q k := fun q k hq => c3.2.2 q k (by omega)
            refine ⟨nI (sT z w V m s x n).1, M1, M3, cg, ?_, h1, ?_, h3, by omega, by omega, Or.inr ⟨z, w, V, nm, C1.fr (fun q hq => ⟨funext fun k => v1 q k (by omega), funext fun k => v2 q k (by omega)⟩) c3.1, B1.hs c3, ca1.hs c3, Or.inr ⟨n, fun j => (sT z w V m s x j).1, hn2, (v1 64 3 (by omega)).trans a3, b3.trans k1, ?_, fun j hj => ⟨(a5 j hj).2, (v1 65 j (by omega)).trans (a5 j hj).1, (b5 j hj).1⟩⟩⟩⟩
            · unfold f_X6_run
              simp only [I_0 h, pH1 h hg, p_isM1 h C.2.2.2.2.1.1 hn hm, G_0_0 h, I_1 h, p_isState h hg hs, c1, c2, G_0_4 h, I_64 h, a1, i10, Option.bind_some, ↓reduceIte]
            · rw [em]
              refine Eq.trans b1 ?_
              show (op_gR M3 7 66 18).bind (fun x_22 => (op_aI M3 x_22 (nI n)).bind fun x_23 => some (x_23, M3)) = _
              rw [G_66_18 h3, Option.bind_some, A_81 h3 (by omega), Option.bind_some, (b5 n (by omega)).1]
            · rw [v1 64 4 (by omega), a4, b4]
          · refine Agr.no (A := -1) I ?_ ?_
            · unfold f_X6_run
              simp only [I_0 h, pH1 h hg, p_isM1 h C.2.2.2.2.1.1 hn hm, G_0_0 h, I_1 h, p_isState h hg hs, c1, c2, i10, Option.bind_some, ↓reduceIte]
            · unfold f_X7_run
              simp only [G_66_2 h, ns_n0 gm, I_66 h, m_isM1 h B.2.2.2.2.1 hn hm, m_isState h gm hs, m_isI0 (Or.inr c2), i10, Option.bind_some, ↓reduceIte]
      · refine Agr.no (A := -1) I ?_ ?_
        · unfold f_X6_run
          simp only [I_0 h, pH1 h hg, p_isM1 h C.2.2.2.2.1.1 hn hm, G_0_0 h, I_1 h, p_isS0 h hg q, i10, Option.bind_some, ↓reduceIte]
        · unfold f_X7_run
          simp only [G_66_2 h, ns_n0 gm, I_66 h, m_isM1 h B.2.2.2.2.1 hn hm, m_isS0 h gm q, i10, Option.bind_some, ↓reduceIte]
    · refine Agr.no (A := -1) I ?_ ?_
      · unfold f_X6_run
        simp only [I_0 h, pH1 h hg, p_isM0 h C.2.2.2.2.1.1 hn q, i10, Option.bind_some, ↓reduceIte]
      · unfold f_X7_run
        simp only [G_66_2 h, ns_n0 gm, I_66 h, m_isM0 h B.2.2.2.2.1 hn q, i10, Option.bind_some, ↓reduceIte]
end
