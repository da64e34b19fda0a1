/-! Rows: layers, and that there is always one more while something is left. -/
def maxN : Nat → (Nat → Nat) → Nat
  | 0, _ => 0
  | n + 1, f => max (maxN n f) (f n)
theorem le_maxN {f : Nat → Nat} {k : Nat} : ∀ n, k < n → f k ≤ maxN n f
  | 0, h => by omega
  | n + 1, h => by
    rw [maxN]
    by_cases q : k = n
    · subst q; omega
    · have := le_maxN (f := f) n (by omega : k < n); omega
theorem maxN_le {f : Nat → Nat} {b : Nat} : ∀ n, (∀ k, k < n → f k ≤ b) → maxN n f ≤ b
  | 0, _ => Nat.zero_le _
  | n + 1, h => by
    rw [maxN]
    have h1 := maxN_le (f := f) n (fun k hk => h k (by omega))
    have h2 := h n (by omega)
    omega
theorem cnt_sub {p q : Nat → Bool} : ∀ n, (∀ k, k < n → p k = true → q k = true) → cnt n p ≤ cnt n q
  | 0, _ => Nat.le_refl _
  | n + 1, h => by
    rw [cnt, cnt]
    have h1 := cnt_sub (p := p) (q := q) n (fun k hk => h k (by omega))
    have h2 := h n (by omega)
    cases hp : p n <;> cases hq : q n
    · simpa using h1
    · simp; omega
    · rw [hp, hq] at h2; simp at h2
    · simp; omega
theorem cnt_ssub {p q : Nat → Bool} {j : Nat} (hp : p j = false) (hq : q j = true) : ∀ n, j < n → (∀ k, k < n → p k = true → q k = true) → cnt n p < cnt n q
  | 0, h, _ => by omega
  | n + 1, hj, h => by
    rw [cnt, cnt]
    by_cases e : j = n
    · subst e
      have := cnt_sub (p := p) (q := q) j (fun k hk => h k (by omega))
      simp [hp, hq]; omega
    · have h1 := cnt_ssub hp hq n (by omega) (fun k hk => h k (by omega))
      have h2 := h n (by omega)
      cases hp : p n <;> cases hq : q n
      · simpa using h1
      · simp; omega
      · rw [hp, hq] at h2; simp at h2
      · simp; omega
/-- layers: a relation 'f a g' (a is ahead of g) over the drawn ones d -/
def lay (d : Nat → Bool) (f : Nat → Nat → Bool) : Nat → Nat → Bool
  | 0 => fun _ => false
  | n + 1 => fun g => lay d f n g || (d g && !anyB 16 (fun a => f a g && !lay d f n a))
def allLaid (d : Nat → Bool) (f : Nat → Nat → Bool) (n : Nat) : Bool := !anyB 16 (fun g => d g && !lay d f n g)
def Rw (d : Nat → Bool) (f : Nat → Nat → Bool) (g : Nat) : Nat := cnt 16 (fun n => !lay d f (n + 1) g)
def Rc (d : Nat → Bool) (f : Nat → Nat → Bool) : Nat := cnt 16 (fun n => !allLaid d f n)
section
variable {d : Nat → Bool} {f : Nat → Nat → Bool}
theorem lay_s {n g : Nat} : lay d f (n + 1) g = (lay d f n g || (d g && !anyB 16 (fun a => f a g && !lay d f n a))) := rfl
theorem lay_mono {g : Nat} {m n : Nat} (h : m ≤ n) (hl : lay d f m g = true) : lay d f n g = true := by
  induction n with
  | zero => have : m = 0 := by omega
            subst this; exact hl
  | succ n ih =>
    by_cases q : m = n + 1
    · subst q; exact hl
    · rw [lay_s, ih (by omega)]; rfl
theorem lay_d {g : Nat} : ∀ {n : Nat}, lay d f n g = true → d g = true
  | 0, h => by simp [lay] at h
  | n + 1, h => by
    rw [lay_s, Bool.or_eq_true, Bool.and_eq_true] at h
    rcases h with h | h
    · exact lay_d h
    · exact h.1
theorem laid_iff {n : Nat} : allLaid d f n = true ↔ ∀ g, g < 16 → d g = true → lay d f n g = true := by
  unfold allLaid
  rw [Bool.not_eq_true', anyB_false]
  constructor
  · intro h g hg hd
    have := h g hg
    rw [hd, Bool.true_and, Bool.not_eq_false'] at this; exact this
  · intro h g hg
    cases hd : d g
    · rfl
    · rw [h g hg hd]; rfl
/-- there is a rank: each one ahead has a lesser one -/
def Ranked (d : Nat → Bool) (f : Nat → Nat → Bool) : Prop := ∃ ρ : Nat → Nat, ∀ a g, a < 16 → g < 16 → d g = true → f a g = true → ρ a < ρ g ∧ d a = true
theorem minimal {ρ : Nat → Nat} {P : Nat → Prop} : ∀ b g, ρ g < b → g < 16 → P g → ∃ g', g' < 16 ∧ P g' ∧ ∀ a, a < 16 → P a → ¬ ρ a < ρ g' := by
  intro b
  induction b with
  | zero => intro g h; omega
  | succ b ih =>
    intro g hb hg hP
    by_cases q : ∃ a, a < 16 ∧ P a ∧ ρ a < ρ g
    · obtain ⟨a, ha, hPa, hlt⟩ := q
      exact ih a (by omega) ha hPa
    · exact ⟨g, hg, hP, fun a ha hPa hlt => q ⟨a, ha, hPa, hlt⟩⟩
theorem lay_next (hr : Ranked d f) {n : Nat} (h : allLaid d f n = false) : ∃ g, g < 16 ∧ lay d f n g = false ∧ lay d f (n + 1) g = true := by
  obtain ⟨ρ, hρ⟩ := hr
  have h1 : ¬ ∀ g, g < 16 → d g = true → lay d f n g = true := fun q => by rw [laid_iff.mpr q] at h; cases h
  have h2 : ∃ g, g < 16 ∧ (d g = true ∧ lay d f n g = false) := by
    refine Classical.byContradiction (fun q => h1 (fun g hg hd => ?_))
    cases hl : lay d f n g
    · exact absurd ⟨g, hg, hd, hl⟩ q
    · rfl
  obtain ⟨g0, hg0, hP0⟩ := h2
  obtain ⟨g, hg, ⟨hd, hl⟩, hmin⟩ := minimal (ρ := ρ) (P := fun g => d g = true ∧ lay d f n g = false) (ρ g0 + 1) g0 (by omega) hg0 hP0
  refine ⟨g, hg, hl, ?_⟩
  rw [lay_s, hl, hd, Bool.false_or, Bool.true_and, Bool.not_eq_true', anyB_false]
  intro a ha
  cases hf : f a g
  · rfl
  · obtain ⟨r1, r2⟩ := hρ a g ha hg hd hf
    cases hla : lay d f n a
    · exact absurd r1 (hmin a ha ⟨r2, hla⟩)
    · rfl
theorem laid_all (hr : Ranked d f) : allLaid d f 16 = true := by
  have key : ∀ n, n ≤ 16 → allLaid d f n = true ∨ n ≤ cnt 16 (lay d f n) := by
    intro n
    induction n with
    | zero => intro _; exact Or.inr (Nat.zero_le _)
    | succ n ih =>
      intro hn
      cases hA : allLaid d f n
      · rcases ih (by omega) with q | q
        · rw [hA] at q; cases q
        · obtain ⟨g, hg, h1, h2⟩ := lay_next hr hA
          have := cnt_ssub h1 h2 16 hg (fun k _ hk => lay_mono (by omega) hk)
          exact Or.inr (by omega)
      · exact Or.inl (laid_iff.mpr (fun g hg hd => lay_mono (by omega) (laid_iff.mp hA g hg hd)))
  rcases key 16 (by omega) with q | q
  · exact q
  · refine laid_iff.mpr (fun g hg hd => ?_)
    cases hl : lay d f 16 g
    · have := cnt_ssub (p := lay d f 16) (q := fun _ => true) hl rfl 16 hg (fun _ _ _ => rfl)
      have h16 : cnt 16 (fun _ => true) = 16 := by decide
      omega
    · rfl
theorem cnt_thr {p : Nat → Bool} (hm : ∀ i j, i ≤ j → p j = true → p i = true) {n : Nat} : ∀ N, n < N → (p n = true ↔ n < cnt N p) := by
  intro N
  induction N with
  | zero => intro h; omega
  | succ N ih =>
    intro h
    rw [cnt]
    by_cases q : n = N
    · subst q
      have hle : cnt n p ≤ n := cnt_le n
      cases hp : p n
      · simp; omega
      · have : cnt n p = n := by
          have h2 : cnt n (fun _ => true) ≤ cnt n p := cnt_sub n (fun k hk _ => hm k n (by omega) hp)
          have h3 : ∀ m, cnt m (fun _ => true) = m := fun m => by
            induction m with
            | zero => rfl
            | succ m ih => rw [cnt, ih]; rfl
          rw [h3] at h2; omega
        simp; omega
    · have h1 := ih (by omega)
      rw [h1]
      cases hp : p N
      · simp
      · have : n < cnt N p := h1.mp (hm n N (by omega) hp)
        simp; omega
/-- laid in the first n rows: the row is below n -/
theorem lay_Rw {g n : Nat} (hn : n < 16) : lay d f (n + 1) g = true ↔ Rw d f g ≤ n := by
  have := cnt_thr (p := fun n => !lay d f (n + 1) g) (fun i j hij hj => by
    rw [Bool.not_eq_true'] at hj ⊢
    cases hl : lay d f (i + 1) g
    · rfl
    · rw [lay_mono (by omega : i + 1 ≤ j + 1) hl] at hj; cases hj) (n := n) 16 hn
  rw [Bool.not_eq_true'] at this
  unfold Rw
  cases hl : lay d f (n + 1) g
  · have := this.mp hl; constructor
    · intro q; cases q
    · intro q; omega
  · constructor
    · intro _; exact Nat.not_lt.mp (fun q => by rw [this.mpr q] at hl; cases hl)
    · intro _; rfl
theorem laid_Rc (hr : Ranked d f) {n : Nat} (hn : n ≤ 16) : allLaid d f n = true ↔ Rc d f ≤ n := by
  by_cases q : n = 16
  · subst q
    exact ⟨fun _ => cnt_le 16, fun _ => laid_all hr⟩
  · have := cnt_thr (p := fun n => !allLaid d f n) (fun i j hij hj => by
      rw [Bool.not_eq_true'] at hj ⊢
      cases hl : allLaid d f i
      · rfl
      · rw [laid_iff.mpr (fun g hg hd => lay_mono hij (laid_iff.mp hl g hg hd))] at hj; cases hj) (n := n) 16 (by omega)
    rw [Bool.not_eq_true'] at this
    unfold Rc
    cases hl : allLaid d f n
    · have := this.mp hl; constructor
      · intro q; cases q
      · intro q; omega
    · constructor
      · intro _; exact Nat.not_lt.mp (fun q => by rw [this.mpr q] at hl; cases hl)
      · intro _; rfl
theorem Rw_lt (hr : Ranked d f) {g : Nat} (hg : g < 16) (hd : d g = true) : Rw d f g < Rc d f := by
  have h0 : Rc d f ≤ 16 := cnt_le 16
  have h1 := (laid_Rc hr h0).mpr (Nat.le_refl _)
  have h2 := laid_iff.mp h1 g hg hd
  cases hc : Rc d f with
  | zero => rw [hc] at h2; simp [lay] at h2
  | succ m =>
    rw [hc] at h2
    have := (lay_Rw (by omega)).mp h2
    omega
theorem Rw_ahead (hr : Ranked d f) {a g : Nat} (ha : a < 16) (hg : g < 16) (hd : d g = true) (hf : f a g = true) : Rw d f a < Rw d f g := by
  have hR := Rw_lt hr hg hd
  have h0 : Rc d f ≤ 16 := cnt_le 16
  have h1 := (lay_Rw (d := d) (f := f) (g := g) (n := Rw d f g) (by omega)).mpr (Nat.le_refl _)
  have h2 : lay d f (Rw d f g) g = false := by
    cases hl : lay d f (Rw d f g) g
    · rfl
    · cases hc : Rw d f g with
      | zero => rw [hc] at hl; simp [lay] at hl
      | succ m =>
        rw [hc] at hl
        have := (lay_Rw (by omega)).mp hl
        omega
  rw [lay_s, h2, Bool.false_or, Bool.and_eq_true, Bool.not_eq_true', anyB_false] at h1
  have h3 := h1.2 a ha
  rw [hf, Bool.true_and, Bool.not_eq_false'] at h3
  cases hc : Rw d f g with
  | zero => rw [hc] at h3; simp [lay] at h3
  | succ m =>
    rw [hc] at h3
    have := (lay_Rw (by omega)).mp h3
    omega
theorem Rw_some (hr : Ranked d f) {g : Nat} (hg : g < 16) (hd : d g = true) {m : Nat} (hm : Rw d f g = m + 1) : ∃ a, a < 16 ∧ f a g = true ∧ m ≤ Rw d f a := by
  have hR := Rw_lt hr hg hd
  have h0 : Rc d f ≤ 16 := cnt_le 16
  have h2 : lay d f (m + 1) g = false := by
    cases hl : lay d f (m + 1) g
    · rfl
    · have := (lay_Rw (by omega)).mp hl; omega
  rw [lay_s, Bool.or_eq_false_iff, hd, Bool.true_and, Bool.not_eq_false', anyB_iff] at h2
  obtain ⟨a, ha, hq⟩ := h2.2
  rw [Bool.and_eq_true, Bool.not_eq_true'] at hq
  refine ⟨a, ha, hq.1, ?_⟩
  cases m with
  | zero => exact Nat.zero_le _
  | succ m' =>
    refine Nat.not_lt.mp (fun q => ?_)
    rw [(lay_Rw (by omega)).mpr (by omega : Rw d f a ≤ m')] at hq
    exact absurd hq.2 (by decide)
end
