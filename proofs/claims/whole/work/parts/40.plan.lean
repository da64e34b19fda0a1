/-! The plan: drawn groups, hidden ones, links. -/
def Dr (Gp : Nat → Nat) (Hd Th : Nat → Bool) : Nat → Bool := lds Gp (fun c => Th c && !Hd c)
def HG (Gp : Nat → Nat) (Hd Th : Nat → Bool) : Nat → Bool := fun v => lds Gp Th v && !Dr Gp Hd Th v
/-- as told, or over hidden ones alone -/
def LC (T : Nat → Nat → Bool) (Gp : Nat → Nat) (Hd Th : Nat → Bool) : Nat → Nat → Bool := cloV (HG Gp Hd Th) 16 (DB T Gp)
def lk (T : Nat → Nat → Bool) (Gp : Nat → Nat) (Hd Th : Nat → Bool) : Nat → Bool := fun i => Dr Gp Hd Th (i / 16) && (LC T Gp Hd Th (i / 16) (i % 16) && Dr Gp Hd Th (i % 16))
/-- a is ahead of g -/
def FR (T : Nat → Nat → Bool) (Gp : Nat → Nat) (Ph : Nat → Int32) (Hd Th : Nat → Bool) (a g : Nat) : Bool := Dr Gp Hd Th a && (LC T Gp Hd Th a g || (decide (¬ GP Gp Ph a = -1) && decide (¬ GP Gp Ph g ≤ GP Gp Ph a)))
theorem cnt_lt_of {p : Nat → Bool} {i n : Nat} (hi : i < n) (h : p i = true) : cnt i p < cnt n p := by
  induction n with
  | zero => omega
  | succ n ih =>
    rw [cnt]
    by_cases q : i = n
    · subst q; rw [h]; simp
    · have := ih (by omega); omega
theorem cnt_mono {p : Nat → Bool} {i n : Nat} (hi : i ≤ n) : cnt i p ≤ cnt n p := by
  induction n with
  | zero => have : i = 0 := by omega
            subst this; exact Nat.le_refl _
  | succ n ih =>
    rw [cnt]
    by_cases q : i = n + 1
    · subst q; rw [cnt]; exact Nat.le_refl _
    · have := ih (by omega); omega
/-- the k-th place below n where p holds -/
def nthx (p : Nat → Bool) : Nat → Nat → Nat
  | 0, _ => 0
  | n + 1, k => if p n = true ∧ cnt n p = k then n else nthx p n k
theorem nthx_ok {p : Nat → Bool} {k : Nat} : ∀ n, k < cnt n p → nthx p n k < n ∧ p (nthx p n k) = true ∧ cnt (nthx p n k) p = k
  | 0, h => by simp [cnt] at h
  | n + 1, h => by
    rw [nthx]
    split
    · rename_i q; exact ⟨by omega, q.1, q.2⟩
    · rename_i q
      rw [cnt] at h
      have h2 : k < cnt n p := by
        cases hp : p n
        · rw [hp] at h; simpa using h
        · rw [hp] at h q
          simp at h q; omega
      obtain ⟨a, b, c⟩ := nthx_ok n h2
      exact ⟨by omega, b, c⟩
theorem nthx_cnt {p : Nat → Bool} {n i : Nat} (hi : i < n) (h : p i = true) : nthx p n (cnt i p) = i := by
  obtain ⟨a, b, c⟩ := nthx_ok (p := p) n (cnt_lt_of hi h)
  rcases Nat.lt_trichotomy (nthx p n (cnt i p)) i with q | q | q
  · have := cnt_lt_of q b; omega
  · exact q
  · have := cnt_lt_of q h; omega
section
variable {T : Nat → Nat → Bool} {Gp : Nat → Nat} {Ph : Nat → Int32} {Hd Th : Nat → Bool} {σ τ : S0}
/-- what findLinks leaves -/
def PL1 (T : Nat → Nat → Bool) (Gp : Nat → Nat) (Hd Th : Nat → Bool) (σ : S0) : Prop :=
  IsSet (σ 0 4) (Dr Gp Hd Th) ∧ (∀ g, g < 16 → IsSet (σ 13 g) (LC T Gp Hd Th g)) ∧ σ 0 6 = nI (cnt 256 (lk T Gp Hd Th)) ∧ (∀ i, i < 256 → lk T Gp Hd Th i = true → σ 11 (cnt i (lk T Gp Hd Th)) = nI (i / 16) ∧ σ 12 (cnt i (lk T Gp Hd Th)) = nI (i % 16))
/-- nothing of the dig, nor 'sheetThere', has changed -/
def DF (σ σ' : S0) : Prop := (∀ b, 4 ≤ b → b < 10 → σ' b = σ b) ∧ ∀ k, k < 4 → σ' 0 k = σ 0 k
theorem DF.rf (σ : S0) : DF σ σ := ⟨fun _ _ _ => rfl, fun _ _ => rfl⟩
theorem DF.trans {a b c : S0} (h1 : DF a b) (h2 : DF b c) : DF a c := ⟨fun k h h' => (h2.1 k h h').trans (h1.1 k h h'), fun k h => (h2.2 k h).trans (h1.2 k h)⟩
theorem DF.st {σ : S0} {a k : Nat} {v : Int32} (h : 10 ≤ a ∨ (a = 0 ∧ 4 ≤ k)) : DF σ (st σ a k v) :=
  ⟨fun b h1 h2 => st_ne (by omega), fun j hj => by rw [st_app, if_neg]; omega⟩
theorem DF.rows {σ σ' : S0} {r : Nat} (hr : 10 ≤ r) (h : ∀ b, b ≠ r → σ' b = σ b) : DF σ σ' := ⟨fun b h1 h2 => h b (by omega), fun k _ => by rw [h 0 (by omega)]⟩
theorem CD.df {σ' : S0} (h : CD T Gp Ph Hd Th σ) (f : DF σ σ') : CD T Gp Ph Hd Th σ' := by
  obtain ⟨c1, c2, c3, c4, c5, c6, c7, c8, c9⟩ := h
  exact ⟨fun c hc => by rw [f.1 4 (by omega) (by omega)]; exact c1 c hc, fun c hc => by rw [f.1 7 (by omega) (by omega)]; exact c2 c hc, fun c hc => by rw [f.1 8 (by omega) (by omega)]; exact c3 c hc, by rw [f.2 1 (by omega)]; exact c4, by rw [f.2 2 (by omega)]; exact c5, by rw [f.2 3 (by omega)]; exact c6, fun c hc => by rw [f.1 5 (by omega) (by omega)]; exact c7 c hc, fun c hc => by rw [f.1 6 (by omega) (by omega)]; exact c8 c hc, fun c hc => by rw [f.1 9 (by omega) (by omega)]; exact c9 c hc⟩
set_option maxHeartbeats 1000000 in
theorem sp_findLinks (hC : CD T Gp Ph Hd Th σ) (hW : WF T Gp Ph Hd Th) (h4 : IsSet (σ 0 4) (Dr Gp Hd Th)) {post : S0 → Prop} (h : ∀ σ', DF σ σ' → PL1 T Gp Hd Th σ' → post σ') : Sp_P_findLinks σ post := by
  obtain ⟨c1, c2, c3, c4, c5, c6, c7, c8, c9⟩ := id hC
  unfold Sp_P_findLinks
  intro G46 G55 h46 h55
  refine sp_leadersOf c4 c1 (fun c hc => hW.lt hc) (fun r2 hr2 v3 e3 => ⟨⟨by decide, by decide, by decide⟩, fun σ4 e4 => ?_⟩)
  have e16 : (16 : Int32).toNatClampNeg = 16 := by decide
  rw [e16] at e4
  have k4 : ∀ b, b ≠ 13 → σ4 b = σ b := fun b hb => by rw [e4]; funext j; rw [cp_app]; simp [hb]
  have k13 : ∀ g, g < 16 → σ4 13 g = σ 6 g := fun g hg => by rw [e4, cp_app, if_pos ⟨rfl, hg⟩]
  refine sp_goOn_13 (V := HG Gp Hd Th) (m := DB T Gp) ?_ (fun i hi => by rw [k13 i hi]; exact c8 i hi) (fun σ5 f5 g5 σ6 e6 => ?_)
  · rw [e3]; exact hr2.diff h4
  have d6 : DF σ σ6 := ((DF.rows (by omega) k4).trans (DF.rows (by omega) f5)).trans (by rw [e6]; exact DF.st (Or.inr ⟨rfl, by omega⟩))
  have x4 : IsSet (σ6 0 4) (Dr Gp Hd Th) := by rw [e6, st_other (by decide), f5 0 (by decide), k4 0 (by decide)]; exact h4
  have x13 : ∀ g, g < 16 → IsSet (σ6 13 g) (LC T Gp Hd Th g) := fun g hg => by rw [e6, st_ne (by decide)]; exact g5 g hg
  have x6 : σ6 0 6 = 0 := by rw [e6, st_same]
  let p := lk T Gp Hd Th
  let I : Nat → S0 → Prop := fun i s => DF σ s ∧ IsSet (s 0 4) (Dr Gp Hd Th) ∧ (∀ g, g < 16 → IsSet (s 13 g) (LC T Gp Hd Th g)) ∧ s 0 6 = nI (cnt i p) ∧ (∀ j, j < i → p j = true → s 11 (cnt j p) = nI (j / 16) ∧ s 12 (cnt j p) = nI (j % 16))
  have loop : ∀ d i s, d + i = 256 → 0 < d → I i s → G55 (nI (i / 16)) (nI (i % 16)) s := by
    intro d
    induction d with
    | zero => intro i s _ h0; omega
    | succ d ih =>
      intro i s hd _ hI
      have hu : i / 16 < 16 := by omega
      have hw : i % 16 < 16 := by omega
      have nx : ∀ s2, I (i + 1) s2 → G55 (nI (i / 16)) (nI (i % 16) + 1) s2 := by
        intro s2 hI2
        rw [nI_1]
        by_cases q : i % 16 + 1 < 16
        · have := ih (i + 1) s2 (by omega) (by omega) hI2
          rw [show (i + 1) / 16 = i / 16 by omega, show (i + 1) % 16 = i % 16 + 1 by omega] at this
          exact this
        · refine h55 _ _ _ ⟨fun _ => ?_, fun c => absurd ((le16 (by omega)).mpr (by omega)) c⟩
          rw [nI_1]
          refine h46 _ _ ⟨fun c => ?_, fun c => ?_⟩
          · rw [le16 (by omega)] at c
            have : i + 1 = 256 := by omega
            rw [this] at hI2
            obtain ⟨j1, j2, j3, j4, j5⟩ := hI2
            exact h s2 j1 ⟨j2, j3, j4, fun j hj hp => j5 j hj hp⟩
          · rw [le16 (by omega)] at c
            have := ih (i + 1) s2 (by omega) (by omega) hI2
            rw [show (i + 1) / 16 = i / 16 + 1 by omega, show (i + 1) % 16 = 0 by omega] at this
            exact this
      obtain ⟨j1, j2, j3, j4, j5⟩ := id hI
      have skip : p i = false → G55 (nI (i / 16)) (nI (i % 16) + 1) s := fun hp => nx s ⟨j1, j2, j3, by rw [j4, cnt, hp]; rfl, fun j hj hpj => by
        by_cases q : j = i
        · rw [q, hp] at hpj; cases hpj
        · exact j5 j (by omega) hpj⟩
      refine h55 _ _ _ ⟨fun c => absurd ((le16 (by omega)).mp c) (by omega), fun _ => ?_⟩
      refine sp_hasS j2 hu (fun ha => ⟨fun c => absurd c (by decide), fun _ => ⟨in16 hu, ?_⟩⟩) (fun ha => ⟨fun _ => skip (by show (_ && _) = false; rw [ha]; rfl), fun c => absurd rfl c⟩)
      rw [cl (by omega : i / 16 < 2 ^ 31)]
      refine sp_hasS ((j3 _ hu).and j2) hw (fun hb => ⟨fun c => absurd c (by decide), fun _ => ?_⟩) (fun hb => ⟨fun _ => skip (by show (_ && (_ && _)) = false; rw [hb, Bool.and_false]), fun c => absurd rfl c⟩)
      have hp : p i = true := by show (_ && (_ && _)) = true; rw [ha, hb]; rfl
      have hc : cnt i p ≤ i := cnt_le i
      rw [j4]
      refine ⟨in256 (by omega), fun σ11 e11 => ?_⟩
      rw [cl (by omega : cnt i p < 2 ^ 31)] at e11
      have z11 : σ11 0 6 = nI (cnt i p) := by rw [e11, st_ne (by decide)]; exact j4
      rw [z11]
      refine ⟨in256 (by omega), fun σ12 e12 σ13 e13 => nx σ13 ⟨?_, ?_, ?_, ?_, ?_⟩⟩
      · rw [e13, e12, e11]
        exact ((j1.trans (DF.st (Or.inl (by omega)))).trans (DF.st (Or.inl (by omega)))).trans (DF.st (Or.inr ⟨rfl, by omega⟩))
      · rw [e13, st_other (by decide), e12, st_ne (by decide), e11, st_ne (by decide)]; exact j2
      · intro g hg; rw [e13, st_ne (by decide), e12, st_ne (by decide), e11, st_ne (by decide)]; exact j3 g hg
      · rw [e13, st_same, e12, st_ne (by decide), z11, nI_1, cnt, hp]; rfl
      · intro j hj hpj
        rw [cl (by omega : cnt i p < 2 ^ 31)] at e12
        rw [e13, st_ne (by decide), st_ne (by decide), e12, st_ne (by decide), st_app, e11, st_app, st_ne (by decide)]
        by_cases q : j = i
        · subst q
          rw [if_pos ⟨rfl, rfl⟩, if_pos ⟨rfl, rfl⟩]; exact ⟨rfl, rfl⟩
        · have : cnt j p < cnt i p := cnt_lt_of (by omega) hpj
          rw [if_neg (by omega), if_neg (by omega)]
          exact j5 j (by omega) hpj
  exact h46 _ _ ⟨fun c => absurd ((le16 (k := 0) (by omega)).mp c) (by omega), fun _ => loop 256 0 σ6 (by omega) (by omega) ⟨d6, x4, x13, x6, fun j hj => absurd hj (by omega)⟩⟩
set_option maxHeartbeats 1000000 in
theorem sp_forerunners (hC : CD T Gp Ph Hd Th σ) (hP : PL1 T Gp Hd Th σ) {post : S0 → Prop} (h : ∀ σ', (∀ b, b ≠ 14 → σ' b = σ b) → (∀ g, g < 16 → IsSet (σ' 14 g) (fun a => FR T Gp Ph Hd Th a g)) → post σ') : Sp_P_findForerunners σ post := by
  obtain ⟨p1, p2, p3, p4⟩ := hP
  have h7 := hC.2.2.2.2.2.2.1
  unfold Sp_P_findForerunners
  intro G2 G17 G56 h2 h17 h56
  refine upto 16 (fun g s => G2 (nI g) s) (fun n s => (∀ b, b ≠ 14 → s b = σ b) ∧ ∀ g, g < n → IsSet (s 14 g) (fun a => FR T Gp Ph Hd Th a g)) (fun s hI => ?_) (fun g s hg hI ih => ?_) 0 σ (by omega) ⟨fun _ _ => rfl, fun g hg => absurd hg (by omega)⟩
  · exact h2 _ _ ⟨fun _ => h s hI.1 hI.2, fun c => absurd ((le16 (by omega)).mpr (by omega)) c⟩
  · obtain ⟨i1, i2⟩ := hI
    refine h2 _ _ ⟨fun c => absurd ((le16 (by omega)).mp c) (by omega), fun _ => ⟨in16 hg, fun σ1 e1 => ?_⟩⟩
    rw [cl (by omega : g < 2 ^ 31)] at e1
    have loop : ∀ k s', k ≤ 16 → ((∀ b, b ≠ 14 → s' b = σ b) ∧ (∀ g', g' < g → IsSet (s' 14 g') (fun a => FR T Gp Ph Hd Th a g')) ∧ IsSet (s' 14 g) (fun a => decide (a < k) && FR T Gp Ph Hd Th a g)) → G17 (nI g) (nI k) s' := by
      refine upto 16 (fun k s' => G17 (nI g) (nI k) s') _ (fun s' hJ => ?_) (fun k s' hk hJ ih2 => ?_)
      · obtain ⟨j1, j2, j3⟩ := hJ
        refine h17 _ _ _ ⟨fun _ => ?_, fun c => absurd ((le16 (by omega)).mpr (by omega)) c⟩
        rw [nI_1]
        refine ih s' ⟨j1, fun g' hg' => ?_⟩
        by_cases q : g' = g
        · subst q; exact j3.ext (fun i hi => by rw [decide_eq_true hi, Bool.true_and])
        · exact j2 g' (by omega)
      · obtain ⟨j1, j2, j3⟩ := hJ
        have s0 : s' 0 = σ 0 := j1 0 (by decide)
        have skip : FR T Gp Ph Hd Th k g = false → G17 (nI g) (nI k + 1) s' := fun hp => by
          rw [nI_1]
          refine ih2 s' ⟨j1, j2, j3.ext (fun i _ => ?_)⟩
          by_cases q : i = k
          · subst q; rw [hp]; simp
          · have : i < k ↔ i < k + 1 := by omega
            simp [this]
        have put : FR T Gp Ph Hd Th k g = true → G56 (nI g) (nI k) s' := fun hp => by
          refine h56 _ _ _ ⟨in16 hg, in16 hg, fun σ8 e8 => ?_⟩
          rw [cl (by omega : g < 2 ^ 31)] at e8
          rw [nI_1]
          refine ih2 σ8 ⟨fun b hb => by rw [e8, st_ne hb]; exact j1 b hb, fun g' hg' => by rw [e8, st_other (by omega)]; exact j2 g' hg', ?_⟩
          rw [e8, st_same]
          refine (j3.or (IsSet.one hk)).ext (fun i _ => ?_)
          by_cases q : i = k
          · subst q; rw [hp]; simp
          · have : i < k ↔ i < k + 1 := by omega
            simp [this, q]
        refine h17 _ _ _ ⟨fun c => absurd ((le16 (by omega)).mp c) (by omega), fun _ => ?_⟩
        refine sp_hasS (by rw [s0]; exact p1) hk (fun ha => ⟨fun c => absurd c (by decide), fun _ => ⟨in16 hk, ?_⟩⟩) (fun ha => ⟨fun _ => skip (by unfold FR; rw [ha]; rfl), fun c => absurd rfl c⟩)
        rw [cl (by omega : k < 2 ^ 31)]
        refine sp_hasS (by rw [j1 13 (by decide)]; exact p2 k hk) hg (fun hb => ⟨fun _ => put (by unfold FR; rw [ha, hb]; rfl), fun c => absurd c (by decide)⟩) (fun hb => ⟨fun c => absurd rfl c, fun _ => ?_⟩)
        refine sp_later (Gp := Gp) (Ph := Ph) (fun g hg => by rw [j1 5 (by decide)]; exact h7 g hg) hg hk ⟨fun c => skip ?_, fun c => put ?_⟩
        · unfold FR; rw [ha, hb, b2i_0.mp c]; rfl
        · unfold FR; rw [ha, hb]
          cases q : (decide (¬ GP Gp Ph k = -1) && decide (¬ GP Gp Ph g ≤ GP Gp Ph k))
          · rw [q] at c; exact absurd rfl c
          · rfl
    refine loop 0 σ1 (by omega) ⟨fun b hb => by rw [e1, st_ne hb]; exact i1 b hb, fun g' hg' => by rw [e1, st_other (by omega)]; exact i2 g' hg', ?_⟩
    rw [e1, st_same]
    exact IsSet.zero.ext (fun i _ => by simp)
end
