/-! The reference over what was told. -/
def b2i (b : Bool) : Int32 := if b then 1 else 0
theorem b2i_0 {b : Bool} : b2i b = 0 ↔ b = false := by cases b <;> decide
theorem b2i_bo (b : Bool) : bo (b2i b) := by cases b; exact Or.inl rfl; exact Or.inr rfl
def RD (T : Nat → Nat → Bool) (Gp : Nat → Nat) (Ph : Nat → Int32) (Hd Th : Nat → Bool) (τ : S0) : Prop :=
  (∀ a b, a < 16 → b < 16 → τ 1 (16 * a + b) = b2i (T a b)) ∧ (∀ c, c < 16 → τ 2 c = nI (Gp c)) ∧ (∀ c, c < 16 → τ 3 c = Ph c) ∧ (∀ c, c < 16 → τ 4 c = b2i (Hd c)) ∧ (∀ c, c < 16 → τ 5 c = b2i (Th c))
/-- nothing but 'thrown' and the closure's row has changed -/
def RF (τ τ' : S0) : Prop := (∀ b, b ≠ 0 → b ≠ 6 → τ' b = τ b) ∧ ∀ k, k ≠ 0 → τ' 0 k = τ 0 k
theorem RF.rf (τ : S0) : RF τ τ := ⟨fun _ _ _ => rfl, fun _ _ => rfl⟩
theorem RF.trans {a b c : S0} (h1 : RF a b) (h2 : RF b c) : RF a c := ⟨fun k h h' => (h2.1 k h h').trans (h1.1 k h h'), fun k h => (h2.2 k h).trans (h1.2 k h)⟩
theorem RF.put0 {τ : S0} {v : Int32} : RF τ (st τ 0 0 v) := ⟨fun b h _ => st_ne h, fun k h => st_other h⟩
theorem RF.six {τ τ' : S0} (h : ∀ b, b ≠ 6 → τ' b = τ b) : RF τ τ' := ⟨fun b _ h6 => h b h6, fun k _ => by rw [h 0 (by decide)]⟩
section
variable {T : Nat → Nat → Bool} {Gp : Nat → Nat} {Ph : Nat → Int32} {Hd Th : Nat → Bool} {τ : S0}
theorem RD.frame {τ' : S0} (h : RD T Gp Ph Hd Th τ) (f : RF τ τ') : RD T Gp Ph Hd Th τ' := by
  obtain ⟨r1, r2, r3, r4, r5⟩ := h
  refine ⟨fun a b ha hb => ?_, fun c hc => ?_, fun c hc => ?_, fun c hc => ?_, fun c hc => ?_⟩
  · rw [f.1 1 (by decide) (by decide)]; exact r1 a b ha hb
  · rw [f.1 2 (by decide) (by decide)]; exact r2 c hc
  · rw [f.1 3 (by decide) (by decide)]; exact r3 c hc
  · rw [f.1 4 (by decide) (by decide)]; exact r4 c hc
  · rw [f.1 5 (by decide) (by decide)]; exact r5 c hc
theorem sp_throwing {t1 t2 : Int32} {post : Int32 → S0 → Prop} (h1 : ¬ t1 = 0 → post 1 (st τ 0 0 1)) (h2 : t1 = 0 → ¬ t2 = 0 → post 1 (st τ 0 0 2)) (h0 : t1 = 0 → t2 = 0 → post 0 (st τ 0 0 0)) : Sp_R_throwing t1 t2 τ post := by
  unfold Sp_R_throwing
  intro G hG
  refine ⟨fun c => ⟨fun c2 => hG _ _ (fun σ1 e => ?_), fun c2 => hG _ _ (fun σ1 e => ?_)⟩, fun c => hG _ _ (fun σ1 e => ?_)⟩
  · rw [e, st_same]; exact ⟨fun _ => h0 c c2, fun q => absurd (by decide) q⟩
  · rw [e, st_same]; exact ⟨fun q => absurd q (by decide), fun _ => h2 c c2⟩
  · rw [e, st_same]; exact ⟨fun q => absurd q (by decide), fun _ => h1 c⟩
theorem sp_isCtx {a : Int32} {post : Int32 → S0 → Prop} (h1 : ∀ i, i < 16 → a = nI i → post 1 τ) (h0 : (¬ ∃ i, i < 16 ∧ a = nI i) → post 0 τ) : Sp_R_isContext a τ post := by
  unfold Sp_R_isContext Sp_R_in
  refine ⟨fun c => ⟨Or.inl rfl, h0 (fun ⟨i, hi, e⟩ => ?_)⟩, fun c => ⟨fun c2 => ⟨Or.inl rfl, h0 (fun ⟨i, hi, e⟩ => ?_)⟩, fun c2 => ⟨Or.inr rfl, ?_⟩⟩⟩
  · rw [e] at c; exact nI_pos (by omega) c
  · rw [e] at c2; exact nI_nlt (a := 15) (b := i) (by omega) (by omega) c2
  · rcases pk_ix a (n := 16) (by omega) with q | q | ⟨j, hj, e⟩
    · exact absurd q c
    · have q15 : (15 : Int32) < a := by
        rw [Int32.lt_iff_toInt_lt]; rw [Int32.le_iff_toInt_le] at q
        have : (nI 16).toInt = 16 := by decide
        have h15 : (15 : Int32).toInt = 15 := by decide
        omega
      exact absurd q15 c2
    · exact h1 j hj e
theorem d16 {k : Nat} (h : k < 256) : nI k / 16 = nI (k / 16) := pk_div (d := 16) (by omega) (by omega) (by omega)
theorem m16 {k : Nat} (h : k < 256) : nI k - nI (k / 16) * 16 = nI (k % 16) := by
  have := pk_rem (a := k) (d := 16) (by omega) (by omega) (by omega)
  rw [show (nI 16) = 16 from rfl, d16 h] at this
  exact this
theorem mul16 (a : Nat) : (16 : Int32) * nI a = nI (16 * a) := pk_mul 16 a
theorem mul16' (a : Nat) : nI a * (16 : Int32) = nI (a * 16) := pk_mul a 16
/-- the reference's closure, row 6 -/
theorem sp_close {m : Nat → Nat → Bool} {post : S0 → Prop} (hm : ∀ i j, i < 16 → j < 16 → τ 6 (16 * i + j) = b2i (m i j)) (h : ∀ τ', (∀ b, b ≠ 6 → τ' b = τ b) → (∀ i j, i < 16 → j < 16 → τ' 6 (16 * i + j) = b2i (clo m i j)) → post τ') : Sp_R_close_6 τ post := by
  unfold Sp_R_close_6
  intro G2 G10 h2 h10
  refine upto 16 (fun k s => G2 (nI k) s) (fun k s => (∀ b, b ≠ 6 → s b = τ b) ∧ ∀ i j, i < 16 → j < 16 → s 6 (16 * i + j) = b2i (cloV (fun _ => true) k m i j)) (fun s hI => ?_) (fun v s hv hI ih => ?_) 0 τ (by omega) ⟨fun _ _ => rfl, hm⟩
  · exact h2 _ _ ⟨fun _ => h s hI.1 hI.2, fun c => absurd ((le16 (by omega)).mpr (by omega)) c⟩
  · refine h2 _ _ ⟨fun c => absurd ((le16 (by omega)).mp c) (by omega), fun _ => ?_⟩
    have key : ∀ k s', k ≤ 256 → ((∀ b, b ≠ 6 → s' b = τ b) ∧ ∀ i j, i < 16 → j < 16 → s' 6 (16 * i + j) = b2i (if 16 * i + j < k then cloV (fun _ => true) (v + 1) m i j else cloV (fun _ => true) v m i j)) → G10 (nI v) (nI k) s' := by
      refine upto 256 (fun k s => G10 (nI v) (nI k) s) _ (fun s' hJ => ?_) (fun k s' hk hJ ih2 => ?_)
      · refine h10 _ _ _ ⟨fun _ => ?_, fun c => absurd ((le256 (by omega)).mpr (by omega)) c⟩
        rw [nI_1]
        exact ih s' ⟨hJ.1, fun i j hi hj => by have := hJ.2 i j hi hj; rw [if_pos (by omega)] at this; exact this⟩
      · obtain ⟨j1, j2⟩ := hJ
        have hi16 : k / 16 < 16 := by omega
        have hj16 : k % 16 < 16 := by omega
        have hk' : 16 * (k / 16) + k % 16 = k := by omega
        have e0 : s' 6 k = b2i (cloV (fun _ => true) v m (k / 16) (k % 16)) := by
          have := j2 (k / 16) (k % 16) hi16 hj16
          rw [hk', if_neg (by omega)] at this; exact this
        have e1 : s' 6 (k / 16 * 16 + v) = b2i (cloV (fun _ => true) v m (k / 16) v) := by
          have := j2 (k / 16) v hi16 hv
          rw [show k / 16 * 16 + v = 16 * (k / 16) + v by omega, this]
          split
          · rw [cloV, if_pos rfl, wst_col]
          · rfl
        have e2 : s' 6 (16 * v + k % 16) = b2i (cloV (fun _ => true) v m v (k % 16)) := by
          rw [j2 v (k % 16) hv hj16]
          split
          · rw [cloV, if_pos rfl, wst_row]
          · rfl
        have put : ∀ w : Bool, w = cloV (fun _ => true) (v + 1) m (k / 16) (k % 16) → ∀ σ1, σ1 = st s' 6 k (b2i w) → G10 (nI v) (nI k + 1) σ1 := by
          intro w hw σ1 e
          rw [nI_1]
          refine ih2 σ1 ⟨fun b hb => by rw [e, st_ne hb]; exact j1 b hb, fun i j hi hj => ?_⟩
          rw [e, st_app]
          by_cases q : 16 * i + j = k
          · have hi2 : i = k / 16 := by omega
            have hj2 : j = k % 16 := by omega
            rw [if_pos ⟨rfl, q⟩, if_pos (by omega), hw, hi2, hj2]
          · rw [if_neg (by simp [q]), j2 i j hi hj]
            by_cases q2 : 16 * i + j < k
            · rw [if_pos q2, if_pos (by omega)]
            · rw [if_neg q2, if_neg (by omega)]
        refine h10 _ _ _ ⟨fun c => absurd ((le256 (by omega)).mp c) (by omega), fun _ => ⟨in256 hk, ?_⟩⟩
        rw [d16 hk, m16 hk, mul16', nI_add, mul16, nI_add, cl (by omega : k < 2 ^ 31), cl (by omega : k / 16 * 16 + v < 2 ^ 31), cl (by omega : 16 * v + k % 16 < 2 ^ 31), e0, e1, e2]
        have nz : ∀ b : Bool, ¬ b2i b = 0 → b = true := fun b q => by cases b; exact absurd rfl q; rfl
        refine ⟨fun c => ⟨in256 hk, put true ?_⟩, fun c => ⟨in256 (by omega), fun c2 => ⟨in256 hk, put false ?_⟩, fun c2 => ⟨in256 (by omega), fun c3 => ⟨in256 hk, put false ?_⟩, fun c3 => ⟨in256 hk, put true ?_⟩⟩⟩⟩
        · rw [cloV, if_pos rfl]; unfold wst; rw [nz _ c]; rfl
        · rw [cloV, if_pos rfl]; unfold wst; rw [b2i_0.mp c, b2i_0.mp c2]; rfl
        · rw [cloV, if_pos rfl]; unfold wst; rw [b2i_0.mp c, b2i_0.mp c3, Bool.and_false]; rfl
        · rw [cloV, if_pos rfl]; unfold wst; rw [nz _ c2, nz _ c3]; simp
    exact key 0 s (by omega) ⟨hI.1, fun i j hi hj => by rw [if_neg (by omega)]; exact hI.2 i j hi hj⟩
end
