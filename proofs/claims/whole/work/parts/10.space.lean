def GeoC (x : Zt) (M : Mm) : Prop := x ∈ OKZ ∧ mm_I M 1 0 = nI (np x) ∧ mm_I M 1 1 = nI (ns x) ∧ (∀ p, p < 4 → mm_I M 2 p = nI (zs x p)) ∧ (∀ p, p < 4 → mm_I M 3 p = nI (sd x p)) ∧ ∀ s, s < 16 → ∀ p, p < 4 → mm_I M 4 (s * 4 + p) = nI (vl x s p)
def WtC (w : Nat → Nat) (M : Mm) : Prop := (∀ s, w s ≤ 1000) ∧ ∀ s, s < 16 → mm_I M 5 s = nI (w s)
section
variable {M : Mm} {x : Zt} {w : Nat → Nat} {s p v t : Nat}
theorem p_isState (h : Shp M) (hg : GeoC x M) (hs : s < ns x) : f_X3_isState 1 (nI s) M = some 1 := by
  have h16 := gz_n hg.1 hs
  unfold f_X3_isState
  rw [if_neg (nI_pos (by omega)), G_1_1 h, Option.bind_some, hg.2.2.1, if_neg (nI_ge hs (by have := (gz_1 x hg.1).2.1; omega))]
theorem p_isPlace (h : Shp M) (hg : GeoC x M) (hs : s < np x) : f_X3_isPlace 1 (nI s) M = some 1 := by
  have h16 := gz_p hg.1 hs
  unfold f_X3_isPlace
  rw [if_neg (nI_pos (by omega)), G_1_0 h, Option.bind_some, hg.2.1, if_neg (nI_ge hs (by have := (gz_1 x hg.1).2.2.2; omega))]
theorem p_valueAt (h : Shp M) (hg : GeoC x M) (hs : s < 16) (hp : p < 4) : f_X3_valueAt 1 (nI s) (nI p) M = some (nI (vl x s p)) := by
  have e : nI s * (4 : Int32) + nI p = nI (s * 4 + p) := by rw [show (4 : Int32) = nI 4 from rfl, pk_mul, nI_add]
  unfold f_X3_valueAt
  rw [G_1_4 h, Option.bind_some, e, A_4 h (by omega), Option.bind_some, hg.2.2.2.2.2 s hs p hp]
theorem p_inLine (h : Shp M) (hg : GeoC x M) (hs : s < 16) (hp : p < 4) : f_X3_inLine 1 (nI s) (nI p) (nI v) M = some (nI (il x s p v)) := by
  unfold f_X3_inLine
  rw [I_1 h, Option.bind_some, p_valueAt h hg hs hp, Option.bind_some, G_1_3 h, Option.bind_some, A_3 h hp, Option.bind_some, hg.2.2.2.2.1 p hp, i_il (by have := (gz_4 x hg.1 s hs p hp).2; omega)]
  rfl
theorem p_lineSum_l (h : Shp M) (hg : GeoC x M) (hw : WtC w M) (hs : s < ns x) (hp : p < np x) : ∀ (n i : Nat), i ≤ zs x p → zs x p - i < n → lp_X3_lineSum_5 1 (nI s) (nI p) M n (nI (sm (fun v => w (il x s p v)) i)) (nI i) = some (nI (sm (fun v => w (il x s p v)) (zs x p)))
  | 0, i, _, h2 => absurd h2 (by omega)
  | n + 1, i, h1, h2 => by
    have hz := gz_2 x hg.1 p hp
    have hp4 := gz_p hg.1 hp
    have hs16 := gz_n hg.1 hs
    rw [lp_X3_lineSum_5, G_1_2 h, Option.bind_some, A_2 h hp4, Option.bind_some, hg.2.2.2.1 p hp4]
    by_cases hi : i = zs x p
    · rw [if_pos (nI_le (by omega) (by omega)), hi]
    · have hlt : i < zs x p := by omega
      rw [if_neg (nI_ge hlt (by omega)), G_1_5 h, Option.bind_some, I_1 h, Option.bind_some, p_inLine h hg hs16 hp4, Option.bind_some]
      have hil := (gz_5 x hg.1 s hs p hp i hlt).1
      have hil16 := gz_n hg.1 hil
      rw [A_5 h hil16, Option.bind_some, hw.2 _ hil16, nI_add, nI_1]
      exact p_lineSum_l h hg hw hs hp n (i + 1) (by omega) (by omega)
def lsum (x : Zt) (w : Nat → Nat) (s p : Nat) : Nat := sm (fun v => w (il x s p v)) (zs x p)
theorem p_lineSum (h : Shp M) (hg : GeoC x M) (hw : WtC w M) (hs : s < ns x) (hp : p < np x) : f_X3_lineSum 1 (nI s) (nI p) M = some (nI (lsum x w s p)) := by
  unfold f_X3_lineSum
  exact p_lineSum_l h hg hw hs hp FU 0 (by omega) (by have := (gz_2 x hg.1 p hp).2.1; unfold FU; omega)
end
