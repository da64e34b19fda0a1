/-! Links by number, their bends; the class's plan. -/
def sumN : Nat → (Nat → Nat) → Nat
  | 0, _ => 0
  | n + 1, f => sumN n f + f n
theorem sumN_le {f : Nat → Nat} {b : Nat} : ∀ n, (∀ k, k < n → f k ≤ b) → sumN n f ≤ n * b
  | 0, _ => by simp [sumN]
  | n + 1, h => by
    rw [sumN]
    have h1 := sumN_le (f := f) n (fun k hk => h k (by omega))
    have h2 := h n (by omega)
    rw [Nat.succ_mul]; omega
theorem sumN_mono {f : Nat → Nat} {i n : Nat} (h : i ≤ n) : sumN i f ≤ sumN n f := by
  induction n with
  | zero => have : i = 0 := by omega
            subst this; exact Nat.le_refl _
  | succ n ih =>
    by_cases q : i = n + 1
    · subst q; exact Nat.le_refl _
    · have := ih (by omega); rw [sumN]; omega
section
variable (T : Nat → Nat → Bool) (Gp : Nat → Nat) (Ph : Nat → Int32) (Hd Th : Nat → Bool)
def NL : Nat := cnt 256 (lk T Gp Hd Th)
def LU (k : Nat) : Nat := nthx (lk T Gp Hd Th) 256 k / 16
def LW (k : Nat) : Nat := nthx (lk T Gp Hd Th) 256 k % 16
def nb (k : Nat) : Nat := RW T Gp Ph Hd Th (LW T Gp Hd Th k) - RW T Gp Ph Hd Th (LU T Gp Hd Th k) - 1
def fb (k : Nat) : Nat := sumN k (nb T Gp Ph Hd Th)
def PLN (σ : S0) : Prop := IsSet (σ 0 4) (Dr Gp Hd Th) ∧ σ 0 6 = nI (NL T Gp Hd Th) ∧ (∀ k, k < NL T Gp Hd Th → σ 11 k = nI (LU T Gp Hd Th k) ∧ σ 12 k = nI (LW T Gp Hd Th k)) ∧ σ 0 5 = nI (RC T Gp Ph Hd Th) ∧ (∀ g, g < 16 → Dr Gp Hd Th g = true → σ 10 g = nI (RW T Gp Ph Hd Th g)) ∧ (∀ k, k < NL T Gp Hd Th → σ 15 k = nI (fb T Gp Ph Hd Th k)) ∧ σ 0 7 = nI (fb T Gp Ph Hd Th (NL T Gp Hd Th))
end
section
variable {T : Nat → Nat → Bool} {Gp : Nat → Nat} {Ph : Nat → Int32} {Hd Th : Nat → Bool} {σ τ : S0}
/-- what is so of link k -/
theorem link_ok {k : Nat} (hk : k < NL T Gp Hd Th) : LU T Gp Hd Th k < 16 ∧ LW T Gp Hd Th k < 16 ∧ Dr Gp Hd Th (LU T Gp Hd Th k) = true ∧ Dr Gp Hd Th (LW T Gp Hd Th k) = true ∧ LC T Gp Hd Th (LU T Gp Hd Th k) (LW T Gp Hd Th k) = true := by
  obtain ⟨h1, h2, h3⟩ := nthx_ok (p := lk T Gp Hd Th) 256 hk
  unfold LU LW
  unfold lk at h2
  rw [Bool.and_eq_true, Bool.and_eq_true] at h2
  exact ⟨by omega, by omega, h2.1, h2.2.2, h2.2.1⟩
theorem link_fr {k : Nat} (hk : k < NL T Gp Hd Th) : FR T Gp Ph Hd Th (LU T Gp Hd Th k) (LW T Gp Hd Th k) = true := by
  obtain ⟨h1, h2, h3, h4, h5⟩ := link_ok hk
  unfold FR; rw [h3, h5]; rfl
theorem link_rows (hr : Ranked (Dr Gp Hd Th) (FR T Gp Ph Hd Th)) {k : Nat} (hk : k < NL T Gp Hd Th) : RW T Gp Ph Hd Th (LU T Gp Hd Th k) + nb T Gp Ph Hd Th k + 1 = RW T Gp Ph Hd Th (LW T Gp Hd Th k) ∧ RW T Gp Ph Hd Th (LW T Gp Hd Th k) < RC T Gp Ph Hd Th := by
  obtain ⟨h1, h2, h3, h4, h5⟩ := link_ok hk
  have a := Rw_ahead hr h1 h2 h4 (link_fr (Ph := Ph) hk)
  have b := Rw_lt hr h2 h4
  unfold nb
  exact ⟨by show Rw _ _ _ + (Rw _ _ _ - Rw _ _ _ - 1) + 1 = Rw _ _ _; omega, b⟩
theorem RC_le : RC T Gp Ph Hd Th ≤ 16 := cnt_le 16
theorem nb_le (hr : Ranked (Dr Gp Hd Th) (FR T Gp Ph Hd Th)) {k : Nat} (hk : k < NL T Gp Hd Th) : nb T Gp Ph Hd Th k ≤ 14 := by
  have h1 := link_rows hr hk
  have h2 := RC_le (T := T) (Gp := Gp) (Ph := Ph) (Hd := Hd) (Th := Th)
  omega
theorem NL_le : NL T Gp Hd Th ≤ 256 := cnt_le 256
theorem fb_le (hr : Ranked (Dr Gp Hd Th) (FR T Gp Ph Hd Th)) {k : Nat} (hk : k ≤ NL T Gp Hd Th) : fb T Gp Ph Hd Th k ≤ 3584 := by
  have h1 : sumN k (nb T Gp Ph Hd Th) ≤ k * 14 := sumN_le k (fun j hj => nb_le hr (by omega))
  have h2 := NL_le (T := T) (Gp := Gp) (Hd := Hd) (Th := Th)
  unfold fb; omega
theorem sub1 {a b : Nat} (h : b + 1 ≤ a) : nI a - nI b - 1 = nI (a - b - 1) := by
  rw [pk_sub (by omega), show (1 : Int32) = nI 1 from rfl, pk_sub (by omega)]
theorem sp_bendsOf (hr : Ranked (Dr Gp Hd Th) (FR T Gp Ph Hd Th)) (h11 : ∀ k, k < NL T Gp Hd Th → σ 11 k = nI (LU T Gp Hd Th k) ∧ σ 12 k = nI (LW T Gp Hd Th k)) (h10 : ∀ g, g < 16 → Dr Gp Hd Th g = true → σ 10 g = nI (RW T Gp Ph Hd Th g)) {k : Nat} (hk : k < NL T Gp Hd Th) {post : Int32 → S0 → Prop} (h : post (nI (nb T Gp Ph Hd Th k)) σ) : Sp_P_bendsOf (nI k) σ post := by
  obtain ⟨a1, a2, a3, a4, a5⟩ := link_ok hk
  have hb := NL_le (T := T) (Gp := Gp) (Hd := Hd) (Th := Th)
  have hrows := link_rows hr hk
  unfold Sp_P_bendsOf
  rw [cl (by omega : k < 2 ^ 31), (h11 k hk).1, (h11 k hk).2, cl (by omega : LU T Gp Hd Th k < 2 ^ 31), cl (by omega : LW T Gp Hd Th k < 2 ^ 31), h10 _ a1 a3, h10 _ a2 a4, sub1 (by omega)]
  exact ⟨in256 (by omega), in16 a2, in256 (by omega), in16 a1, h⟩
theorem sp_layBends (hr : Ranked (Dr Gp Hd Th) (FR T Gp Ph Hd Th)) (h6 : σ 0 6 = nI (NL T Gp Hd Th)) (h11 : ∀ k, k < NL T Gp Hd Th → σ 11 k = nI (LU T Gp Hd Th k) ∧ σ 12 k = nI (LW T Gp Hd Th k)) (h10 : ∀ g, g < 16 → Dr Gp Hd Th g = true → σ 10 g = nI (RW T Gp Ph Hd Th g)) {post : S0 → Prop}
    (h : ∀ σ', (∀ b, b ≠ 0 → b ≠ 15 → σ' b = σ b) → (∀ k, k ≠ 7 → σ' 0 k = σ 0 k) → (∀ k, k < NL T Gp Hd Th → σ' 15 k = nI (fb T Gp Ph Hd Th k)) → σ' 0 7 = nI (fb T Gp Ph Hd Th (NL T Gp Hd Th)) → post σ') : Sp_P_layBends σ post := by
  unfold Sp_P_layBends
  intro G7 h7 σ1 e1
  have hb := NL_le (T := T) (Gp := Gp) (Hd := Hd) (Th := Th)
  refine upto (NL T Gp Hd Th) (fun k s => G7 (nI k) s) (fun n s => (∀ b, b ≠ 0 → b ≠ 15 → s b = σ b) ∧ (∀ k, k ≠ 7 → s 0 k = σ 0 k) ∧ (∀ k, k < n → s 15 k = nI (fb T Gp Ph Hd Th k)) ∧ s 0 7 = nI (fb T Gp Ph Hd Th n)) (fun s hI => ?_) (fun k s hk hI ih => ?_) 0 σ1 (Nat.zero_le _) ⟨fun b h0 h15 => by rw [e1, st_ne h0], fun k hk => by rw [e1, st_other hk], fun k hk => absurd hk (by omega), by rw [e1, st_same]; rfl⟩
  · obtain ⟨i1, i2, i3, i4⟩ := hI
    refine h7 _ _ ⟨fun _ => h s i1 i2 i3 i4, fun c => absurd ?_ c⟩
    rw [i2 6 (by decide), h6]; exact nI_le (Nat.le_refl _) (by omega)
  · obtain ⟨i1, i2, i3, i4⟩ := hI
    have h6s : s 0 6 = nI (NL T Gp Hd Th) := by rw [i2 6 (by decide)]; exact h6
    refine h7 _ _ ⟨fun c => ?_, fun _ => ⟨in256 (by omega), fun σ2 e2 => ?_⟩⟩
    · rw [h6s, nI_leI (by omega) (by omega)] at c; omega
    · rw [cl (by omega : k < 2 ^ 31)] at e2
      have k2 : ∀ b, b ≠ 15 → σ2 b = s b := fun b hb => by rw [e2, st_ne hb]
      refine sp_bendsOf hr (fun j hj => by rw [k2 11 (by decide), k2 12 (by decide), i1 11 (by decide) (by decide), i1 12 (by decide) (by decide)]; exact h11 j hj) (fun g hg hd => by rw [k2 10 (by decide), i1 10 (by decide) (by decide)]; exact h10 g hg hd) hk (fun σ5 e5 => ?_)
      rw [nI_1]
      refine ih σ5 ⟨fun b h0 h15 => by rw [e5, st_ne h0, k2 b h15]; exact i1 b h0 h15, fun j hj => by rw [e5, st_other hj, k2 0 (by decide)]; exact i2 j hj, fun j hj => ?_, ?_⟩
      · rw [e5, st_ne (by decide), e2, st_app]
        by_cases q : j = k
        · subst q; rw [if_pos ⟨rfl, rfl⟩]; exact i4
        · rw [if_neg (by simp [q])]; exact i3 j (by omega)
      · rw [e5, st_same, k2 0 (by decide), i4, nI_add]; rfl
theorem sp_make (hC : CD T Gp Ph Hd Th σ) (hW : WF T Gp Ph Hd Th) (hN : NM T Gp Ph) {post : S0 → Prop} (h : ∀ σ', DF σ σ' → PLN T Gp Ph Hd Th σ' → post σ') : Sp_P_make σ post := by
  have hr := ranked hW hN
  obtain ⟨c1, c2, c3, c4, c5, c6, c7, c8, c9⟩ := id hC
  unfold Sp_P_make
  refine sp_leadersOf (c4.diff c5) c1 (fun c hc => hW.lt hc) (fun r2 hr2 σ3 e3 => ?_)
  have d3 : DF σ σ3 := by rw [e3]; exact DF.st (Or.inr ⟨rfl, by omega⟩)
  refine sp_findLinks (hC.df d3) hW (by rw [e3, st_same]; exact hr2) (fun σ4 d4 p4 => ?_)
  refine sp_forerunners (hC.df (d3.trans d4)) p4 (fun σ5 f5 g5 => ?_)
  obtain ⟨p1, p2, p3, p5⟩ := p4
  have d5 : DF σ σ5 := (d3.trans d4).trans (DF.rows (by omega) f5)
  refine sp_layRows hr (by rw [f5 0 (by decide)]; exact p1) g5 (fun σ6 f6 f6' r6 w6 => ?_)
  have d6 : DF σ σ6 := d5.trans ⟨fun b h1 h2 => f6 b (by omega) (by omega), fun k hk => f6' k (by omega)⟩
  have h11 : ∀ k, k < NL T Gp Hd Th → σ6 11 k = nI (LU T Gp Hd Th k) ∧ σ6 12 k = nI (LW T Gp Hd Th k) := fun k hk => by
    obtain ⟨n1, n2, n3⟩ := nthx_ok (p := lk T Gp Hd Th) 256 hk
    have := p5 _ n1 n2
    rw [n3] at this
    rw [f6 11 (by decide) (by decide), f6 12 (by decide) (by decide), f5 11 (by decide), f5 12 (by decide)]
    exact this
  have h6 : σ6 0 6 = nI (NL T Gp Hd Th) := by rw [f6' 6 (by decide), f5 0 (by decide)]; exact p3
  refine sp_layBends hr h6 h11 w6 (fun σ7 f7 f7' g7 s7 => h σ7 (d6.trans ⟨fun b h1 h2 => f7 b (by omega) (by omega), fun k hk => f7' k (by omega)⟩) ⟨?_, ?_, ?_, ?_, ?_, g7, s7⟩)
  · rw [f7' 4 (by decide), f6' 4 (by decide), f5 0 (by decide)]; exact p1
  · rw [f7' 6 (by decide)]; exact h6
  · intro k hk; rw [f7 11 (by decide) (by decide), f7 12 (by decide) (by decide)]; exact h11 k hk
  · rw [f7' 5 (by decide)]; exact r6
  · intro g hg hd; rw [f7 10 (by decide) (by decide)]; exact w6 g hg hd
end
