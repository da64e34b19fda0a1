/-! The beginning, and all the calls. -/
theorem cloV_false {V : Nat → Bool} {m : Nat → Nat → Bool} (h : ∀ i j, m i j = false) : ∀ n i j, cloV V n m i j = false
  | 0, i, j => h i j
  | n + 1, i, j => by
    have ih := cloV_false (V := V) h n
    rw [cloV]
    cases V n
    · exact ih i j
    · show (cloV V n m i j || (cloV V n m i n && cloV V n m n j)) = false
      rw [ih, ih, ih]; rfl
theorem db_0 {Gp : Nat → Nat} (i j : Nat) : DB (fun _ _ => false) Gp i j = false := by
  cases h : DB (fun _ _ => false) Gp i j
  · rfl
  · obtain ⟨c, d, _, _, _, _, q⟩ := db_iff.mp h
    cases q
theorem ov_0 {Gp : Nat → Nat} (i j : Nat) : OV (fun _ _ => false) Gp i j = false := cloV_false db_0 16 i j
theorem gp_0 {Gp : Nat → Nat} {g : Nat} : ∀ n, gpf Gp (fun _ => -1) g n = -1
  | 0 => rfl
  | n + 1 => by rw [gpf, if_neg (fun c => c.2.1 rfl)]; exact gp_0 n
theorem cnt_none : ∀ n, cnt n (fun _ => false) = 0
  | 0 => rfl
  | n + 1 => by rw [cnt, cnt_none n]; rfl
theorem set_0 {f : Nat → Bool} (h : ∀ i, f i = false) : IsSet 0 f := IsSet.zero.ext (fun i _ => (h i).symm)
theorem wf_0 : WF (fun _ _ => false) (fun c => c) (fun _ => -1) (fun _ => false) (fun _ => false) :=
  ⟨fun c _ => Nat.le_refl c, fun _ _ => rfl, fun _ _ _ _ h => (by cases h), fun _ _ h => (by cases h), fun c d _ _ h e => absurd e h, fun _ _ => Or.inl rfl, fun g _ => ov_0 g g⟩
theorem init_R {post : S0 → Prop} (h : ∀ τ, RD (fun _ _ => false) (fun c => c) (fun _ => -1) (fun _ => false) (fun _ => false) τ → τ 0 1 = 0 → post τ) : Sp_R_init (fun _ _ => 0) post := by
  unfold Sp_R_init
  intro G h1
  refine upto 16 (fun k s => G (nI k) s) (fun k s => (∀ b, b ≠ 2 → b ≠ 3 → s b = fun _ => 0) ∧ ∀ c, c < k → s 2 c = nI c ∧ s 3 c = -1) (fun s hI => ?_) (fun k s hk hI ih => ?_) 0 _ (Nat.zero_le _) ⟨fun _ _ _ => rfl, fun c hc => absurd hc (by omega)⟩
  · obtain ⟨i1, i2⟩ := hI
    refine h1 _ _ ⟨fun _ => h s ⟨fun a b _ _ => by rw [i1 1 (by decide) (by decide)]; rfl, fun c hc => (i2 c hc).1, fun c hc => (i2 c hc).2, fun c _ => by rw [i1 4 (by decide) (by decide)]; rfl, fun c _ => by rw [i1 5 (by decide) (by decide)]; rfl⟩ (by rw [i1 0 (by decide) (by decide)]), fun c => absurd ((le16 (by omega)).mpr (by omega)) c⟩
  · obtain ⟨i1, i2⟩ := hI
    refine h1 _ _ ⟨fun c => absurd ((le16 (by omega)).mp c) (by omega), fun _ => ⟨in16 hk, fun σ1 e1 => ⟨in16 hk, fun σ2 e2 => ?_⟩⟩⟩
    rw [cl (by omega : k < 2 ^ 31)] at e1 e2
    rw [nI_1]
    refine ih σ2 ⟨fun b h2 h3 => by rw [e2, st_ne h3, e1, st_ne h2]; exact i1 b h2 h3, fun c hc => ?_⟩
    by_cases q : c = k
    · subst q; exact ⟨by rw [e2, st_ne (by decide), e1, st_same], by rw [e2, st_same]⟩
    · have := i2 c (by omega)
      exact ⟨by rw [e2, st_ne (by decide), e1, st_other q]; exact this.1, by rw [e2, st_other q, e1, st_ne (by decide)]; exact this.2⟩
theorem init_M {post : S0 → Prop} (h : ∀ σ, CD (fun _ _ => false) (fun c => c) (fun _ => -1) (fun _ => false) (fun _ => false) σ → σ 0 0 = 0 → post σ) : Sp_M_init post := by
  unfold Sp_M_init Sp_D_init
  intro G h1
  refine upto 16 (fun k s => G (nI k) s) (fun k s => (∀ b, b ≠ 1 → b ≠ 2 → b ≠ 5 → s b = fun _ => 0) ∧ ∀ c, c < k → s 1 c = nI c ∧ s 2 c = -1 ∧ s 5 c = -1) (fun s hI => ?_) (fun k s hk hI ih => ?_) 0 _ (Nat.zero_le _) ⟨fun _ _ _ _ => rfl, fun c hc => absurd hc (by omega)⟩
  · obtain ⟨i1, i2⟩ := hI
    refine h1 _ _ ⟨fun _ => h (kσ s (fun _ _ => 0) (fun _ _ => 0)) ⟨fun c hc => (i2 c hc).1, fun a _ => ?_, fun c hc => (i2 c hc).2.2, ?_, ?_, ?_, fun g hg => ?_, fun g _ => ?_, fun g _ => ?_⟩ rfl, fun c => absurd ((le16 (by omega)).mpr (by omega)) c⟩
    · show IsSet (s 4 a) _
      rw [i1 4 (by decide) (by decide) (by decide)]; exact set_0 (fun _ => rfl)
    · show IsSet (s 0 0) _
      rw [i1 0 (by decide) (by decide) (by decide)]; exact set_0 (fun _ => rfl)
    · show IsSet (s 0 1) _
      rw [i1 0 (by decide) (by decide) (by decide)]; exact set_0 (fun _ => rfl)
    · show s 0 2 = _
      rw [i1 0 (by decide) (by decide) (by decide), cntT, cnt_none]; rfl
    · show s 2 g = _
      rw [(i2 g hg).2.1]; exact (gp_0 16).symm
    · show IsSet (s 3 g) _
      rw [i1 3 (by decide) (by decide) (by decide)]; exact set_0 (fun j => db_0 g j)
    · show IsSet (s 6 g) _
      rw [i1 6 (by decide) (by decide) (by decide)]; exact set_0 (fun j => ov_0 g j)
  · obtain ⟨i1, i2⟩ := hI
    refine h1 _ _ ⟨fun c => absurd ((le16 (by omega)).mp c) (by omega), fun _ => ⟨in16 hk, fun σ1 e1 => ⟨in16 hk, fun σ2 e2 => ⟨in16 hk, fun σ3 e3 => ?_⟩⟩⟩⟩
    rw [cl (by omega : k < 2 ^ 31)] at e1 e2 e3
    rw [nI_1]
    refine ih σ3 ⟨fun b h2 h3 h5 => by rw [e3, st_ne h3, e2, st_ne h5, e1, st_ne h2]; exact i1 b h2 h3 h5, fun c hc => ?_⟩
    by_cases q : c = k
    · subst q; exact ⟨by rw [e3, st_ne (by decide), e2, st_ne (by decide), e1, st_same], by rw [e3, st_same], by rw [e3, st_ne (by decide), e2, st_same]⟩
    · have := i2 c (by omega)
      exact ⟨by rw [e3, st_ne (by decide), e2, st_ne (by decide), e1, st_other q]; exact this.1, by rw [e3, st_other q, e2, st_ne (by decide), e1, st_ne (by decide)]; exact this.2.1, by rw [e3, st_ne (by decide), e2, st_other q, e1, st_ne (by decide)]; exact this.2.2⟩
theorem pure_all : ∃ Inv : S0 → S0 → Prop, Sp_M_init (fun σ => Sp_R_init (fun _ _ => 0) (fun τ => Inv σ τ)) ∧ ∀ v a b σ τ g, Inv σ τ → LStep v a b σ τ g (fun σ1 τ1 _ => Inv σ1 τ1) := by
  refine ⟨InvP Sht, init_M (fun σ hC z => init_R (fun τ hR y => ⟨_, _, _, _, _, wf_0, hC, hR, Or.inl ⟨z, y⟩⟩)), fun v a b σ τ g h => ?_⟩
  exact ⟨fun _ => step_above h ShtF a b, fun _ => step_same h ShtF a b, fun _ => step_phase h ShtF a b, fun _ => step_hide h ShtF a b, fun _ => step_group h ShtF a, fun _ => step_misfit h ShtF a b, fun _ => step_draw h a, fun _ => step_crossings h a, fun _ => step_at h a b, fun _ => step_links h, fun _ => step_link h a b, fun _ => step_command h a, fun _ => step_count h a, fun _ => h⟩
