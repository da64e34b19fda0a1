/-! words that no reader of steady words carries along: nest links, declared methods, castable classes -/
def kwarm : Cond → Bool
  | .methodLinkNest .. | .declares _ | .castable .. => true
  | _ => false
def wsE : List Cond := lw_tbl.filter kwarm
theorem wsE_in {w : Cond} (h : w ∈ lw_tbl) (g : kwarm w = true) : w ∈ wsE := List.mem_filter.mpr ⟨h, g⟩
theorem kwarm_on {w : Cond} (h : kwarm w = true) : w.onTables = true := by
  cases w <;> first | rfl | (simp [kwarm] at h)
theorem kwarm_go {w : Cond} (h : kwarm w = true) {s U : State} (hW : s.WarmedH U.vm) (hZ : va_Nw w s) : va_Nw w U := by
  cases w <;> first
    | exact va_Nw.warmM hW hZ
    | exact va_Nw.warmC hW hZ
    | exact va_tabs rfl (rfl : (s.setVm U.vm).vm = U.vm) (by rw [Cond.declares_setVm hW.alike]; exact hZ)
    | (simp [kwarm] at h)
theorem kG {ws : List Cond} (h : ∀ w ∈ ws, w ∈ wsG) : GoodIn wsG ws := fun w hw => ⟨h w hw, good_of_word (wsG_good w (h w hw))⟩
theorem kG_self {c : Cond} (h : c ∈ wsG) : ∀ w ∈ c :: wsG, w ∈ wsG := fun w hw => (List.mem_cons.mp hw).elim (fun e => by rw [e]; exact h) id
theorem kG_V {own : String} {i : Nat} {C : String} {y : MethodName} {ws : List Cond} (h1 : Cond.methodLink own i y ∈ wsG) (h2 : Cond.instanceMethod y ∈ wsG) (h3 : Cond.selects C y y ∈ wsG) (h4 : Cond.initialized C ∈ wsG) (h5 : ∀ w ∈ ws, w ∈ wsG) : ∀ w ∈ wsV own i C y ws, w ∈ wsG := by
  intro w hw
  simp only [wsV, List.cons_append, List.nil_append, List.mem_cons] at hw
  rcases hw with rfl | rfl | rfl | rfl | hw
  · exact h1
  · exact h2
  · exact h3
  · exact h4
  · exact h5 w hw
theorem kG_S {own : String} {i : Nat} {y : MethodName} {ws : List Cond} (h1 : Cond.methodLink own i y ∈ wsG) (h2 : Cond.static y ∈ wsG) (h4 : Cond.initialized own ∈ wsG) (h5 : ∀ w ∈ ws, w ∈ wsG) : ∀ w ∈ wsS own i y ws, w ∈ wsG := by
  intro w hw
  simp only [wsS, List.cons_append, List.nil_append, List.mem_cons] at hw
  rcases hw with rfl | rfl | rfl | hw
  · exact h1
  · exact h2
  · exact h4
  · exact h5 w hw
/-! numbers -/
abbrev S0 : Type := Nat → Nat → Int32
def st (σ : S0) (a k : Nat) (v : Int32) : S0 := fun b => if b = a then upd (σ b) k v else σ b
def cp (σ : S0) (a d n : Nat) : S0 := fun b => if b = d then va_cpy (σ a) (σ d) 0 0 n else σ b
def cpok (n : Int32) (n0 n1 : Nat) : Prop := ¬ n < 0 ∧ n.toNatClampNeg ≤ n0 ∧ n.toNatClampNeg ≤ n1
def bo (v : Int32) : Prop := v = 0 ∨ v = 1
theorem bo_n {v : Int32} (h : bo v) : narrow .boolean (.int v) = .int v := by
  rcases h with rfl | rfl <;> rfl
theorem bo_f {v : Int32} (h : bo v) : fits .boolean (.int v) = true := by
  rcases h with rfl | rfl <;> rfl
theorem bo_v {v : Int32} (h : bo v) : vp_nar .boolean v = v := by
  rcases h with rfl | rfl <;> rfl
def jmin (x y : Int32) : Int32 := if y < x then y else x
def jmax (x y : Int32) : Int32 := if x < y then y else x
theorem sw_out {x : Int32} (n : Nat) (hn : n < 2 ^ 31) (h : ∀ j : Nat, j ≤ n → ¬ x = nI j) : x.toInt < 0 ∨ (n : Int) < x.toInt := by
  by_cases q : x.toInt < 0
  · exact Or.inl q
  · refine Or.inr ?_
    by_cases r : (n : Int) < x.toInt
    · exact r
    · obtain ⟨j, hj, rfl⟩ := nI_of (x := x) (by rw [Int32.lt_iff_toInt_lt, Int32.toInt_zero]; exact q)
      rw [nI_toInt hj] at r
      exact absurd rfl (h j (by omega))
theorem inG_X0 : ∀ w ∈ wsX00, w ∈ wsG := fun w h => wsG_in ((goodIn_p wsX00 [] (by decide +kernel) (by decide +kernel) w h).1) ((by decide +kernel : ∀ w ∈ wsX00, goodWord w = true) w h)
theorem inG_X1 : ∀ w ∈ wsX10, w ∈ wsG := fun w h => wsG_in ((goodIn_p wsX10 [] (by decide +kernel) (by decide +kernel) w h).1) ((by decide +kernel : ∀ w ∈ wsX10, goodWord w = true) w h)
theorem inG_X2 : ∀ w ∈ wsX20, w ∈ wsG := fun w h => wsG_in ((goodIn_p wsX20 [] (by decide +kernel) (by decide +kernel) w h).1) ((by decide +kernel : ∀ w ∈ wsX20, goodWord w = true) w h)
theorem inG_X3 : ∀ w ∈ wsX30, w ∈ wsG := fun w h => wsG_in ((goodIn_p wsX30 [] (by decide +kernel) (by decide +kernel) w h).1) ((by decide +kernel : ∀ w ∈ wsX30, goodWord w = true) w h)
