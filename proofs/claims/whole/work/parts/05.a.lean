def WT : List Cond := lw_tbl.filter goodWord
def wn_is (w : Cond) : Bool := match w with
  | .fieldLinkNest .. => true
  | .methodLinkNest .. => true
  | _ => false
def NW : List Cond := lw_tbl.filter wn_is
theorem wt_m {w : Cond} (i : Nat) (h : lw_tbl[i]? = some w) (hg : goodWord w = true) : w ∈ WT := List.mem_filter.mpr ⟨List.mem_of_getElem? h, hg⟩
theorem nw_m {w : Cond} (i : Nat) (h : lw_tbl[i]? = some w) (hg : wn_is w = true) : w ∈ NW := List.mem_filter.mpr ⟨List.mem_of_getElem? h, hg⟩
theorem wt_good : GoodIn WT WT := fun w h => ⟨h, good_of_word (List.mem_filter.mp h).2⟩
theorem nw_on {w : Cond} (h : wn_is w = true) : w.onTables = true := by
  cases w <;> first | rfl | (simp [wn_is] at h)
theorem nw_warm {s U : State} (hW : s.WarmedH U.vm) (h : ∀ w ∈ NW, va_Nw w s) : ∀ w ∈ NW, va_Nw w U := by
  intro w hw
  have hi := (List.mem_filter.mp hw).2
  have h1 := h w hw
  cases w <;> first | exact va_Nw.warmF hW h1 | exact va_Nw.warmM hW h1 | (simp [wn_is] at hi)
theorem nw_same {s U : State} (hv : s.vm = U.vm) (h : ∀ w ∈ NW, va_Nw w s) : ∀ w ∈ NW, va_Nw w U := fun w hw => (h w hw).same (nw_on (List.mem_filter.mp hw).2) hv
theorem nw_use {s : State} {args : Array Value} {w : Cond} (h : ∀ w ∈ NW, va_Nw w s) (hw : w ∈ NW) : w.before args s = true := (h w hw).use (nw_on (List.mem_filter.mp hw).2)
