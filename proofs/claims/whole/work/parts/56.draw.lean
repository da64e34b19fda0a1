/-! draw() on both sides. -/
def pOf (T : Nat → Nat → Bool) (Gp : Nat → Nat) (Ph : Nat → Int32) (Hd Th : Nat → Bool) : Pn := (Dr Gp Hd Th, RW T Gp Ph Hd Th, RC T Gp Ph Hd Th, NL T Gp Hd Th, LU T Gp Hd Th, LW T Gp Hd Th)
theorem sumN_const {c : Nat} : ∀ n, sumN n (fun _ => c) = n * c
  | 0 => by simp [sumN]
  | n + 1 => by rw [sumN, sumN_const n, Nat.succ_mul]
/-- pairs that only go one way: at most 120 -/
theorem cnt_pairs {q : Nat → Bool} {ρ : Nat → Nat} (h : ∀ a b, a < 16 → b < 16 → q (16 * a + b) = true → ρ a < ρ b) : cnt 256 q ≤ 120 := by
  have e : cnt 256 q = sumN 16 (fun a => sumN 16 (fun b => i1 (q (16 * a + b)))) := by
    have h2 : (256 : Nat) = sumN 16 (fun _ => 16) := by rw [sumN_const]
    rw [cnt_sum, h2, sumN_block]
    refine sumN_congr 16 (fun a _ => sumN_congr 16 (fun b _ => ?_))
    rw [sumN_const, Nat.mul_comm]
  have e2 : cnt 256 q + cnt 256 q = sumN 16 (fun a => sumN 16 (fun b => i1 (q (16 * a + b)) + i1 (q (16 * b + a)))) := by
    have h3 : sumN 16 (fun a => sumN 16 (fun b => i1 (q (16 * a + b)))) = sumN 16 (fun a => sumN 16 (fun b => i1 (q (16 * b + a)))) := sumN_comm 16
    have h4 : cnt 256 q + cnt 256 q = sumN 16 (fun a => sumN 16 (fun b => i1 (q (16 * a + b)))) + sumN 16 (fun a => sumN 16 (fun b => i1 (q (16 * b + a)))) := by rw [← h3, ← e]
    rw [h4, ← sumN_add]
    exact sumN_congr 16 (fun a _ => (sumN_add 16).symm)
  have h5 : sumN 16 (fun a => sumN 16 (fun b => i1 (q (16 * a + b)) + i1 (q (16 * b + a)))) ≤ sumN 16 (fun a => sumN 16 (fun b => if a = b then 0 else 1)) := by
    refine sumN_les 16 (fun a ha => sumN_les 16 (fun b hb => ?_))
    have h1 := h a b ha hb
    have h2 := h b a hb ha
    cases q1 : q (16 * a + b) <;> cases q2 : q (16 * b + a)
    · exact Nat.zero_le _
    · have := h2 q2
      rw [if_neg (fun z => by rw [z] at this; omega)]; exact Nat.le_refl _
    · have := h1 q1
      rw [if_neg (fun z => by rw [z] at this; omega)]; exact Nat.le_refl _
    · have := h1 q1
      have := h2 q2
      omega
  have h6 : sumN 16 (fun a => sumN 16 (fun b => if a = b then 0 else 1)) = 240 := by decide
  omega
section
variable {T : Nat → Nat → Bool} {Gp : Nat → Nat} {Ph : Nat → Int32} {Hd Th : Nat → Bool} {σ τ : S0}
theorem pOf_PW (hW : WF T Gp Ph Hd Th) (hN : NM T Gp Ph) : PW (pOf T Gp Ph Hd Th) := by
  have hr := ranked hW hN
  refine ⟨RC_le, ?_, fun k hk => ?_, fun g hg hd => Rw_lt hr hg hd, fun r hrr => ?_⟩
  · refine cnt_pairs (ρ := RW T Gp Ph Hd Th) (fun a b ha hb hq => ?_)
    unfold lk at hq
    rw [show (16 * a + b) / 16 = a by omega, show (16 * a + b) % 16 = b by omega, Bool.and_eq_true, Bool.and_eq_true] at hq
    exact Rw_ahead hr ha hb hq.2.2 (by unfold FR; rw [hq.1, hq.2.1]; rfl)
  · obtain ⟨h1, h2, h3, h4, h5⟩ := link_ok (T := T) (Gp := Gp) (Hd := Hd) (Th := Th) hk
    exact ⟨h1, h2, h3, h4, Rw_ahead hr h1 h2 h4 (link_fr (Ph := Ph) hk)⟩
  · have hrr' : r < Rc (Dr Gp Hd Th) (FR T Gp Ph Hd Th) := hrr
    have h16 : Rc (Dr Gp Hd Th) (FR T Gp Ph Hd Th) ≤ 16 := cnt_le 16
    have hA : allLaid (Dr Gp Hd Th) (FR T Gp Ph Hd Th) r = false := by
      cases hl : allLaid (Dr Gp Hd Th) (FR T Gp Ph Hd Th) r
      · rfl
      · have := (laid_Rc hr (by omega)).mp hl; omega
    obtain ⟨g, hg, h1, h2⟩ := lay_next hr hA
    refine ⟨g, hg, lay_d h2, ?_⟩
    show Rw _ _ g = r
    have h3 := (lay_Rw (by omega)).mp h2
    cases r with
    | zero => omega
    | succ m =>
      have h4 : ¬ Rw (Dr Gp Hd Th) (FR T Gp Ph Hd Th) g ≤ m := fun z => by
        rw [(lay_Rw (by omega)).mpr z] at h1; cases h1
      omega
theorem fnd_0 {q : Nat → Bool} : ∀ d i, fnd q d i 0 = none ↔ ∀ j, i ≤ j → j < i + d → q j = false
  | 0, i => ⟨fun _ j h1 h2 => by omega, fun _ => rfl⟩
  | d + 1, i => by
    rw [fnd]
    cases hq : q i
    · rw [if_neg (by decide), fnd_0 d (i + 1)]
      constructor
      · intro h j h1 h2
        by_cases e : j = i
        · rw [e]; exact hq
        · exact h j (by omega) (by omega)
      · intro h j h1 h2; exact h j (by omega) (by omega)
    · rw [if_pos rfl, if_pos rfl]
      constructor
      · intro h; cases h
      · intro h; rw [h i (by omega) (by omega)] at hq; cases hq
theorem nm_fnd : NM T Gp Ph ↔ fnd (mf T Gp Ph) 256 0 0 = none := by
  rw [fnd_0]
  constructor
  · intro h j _ hj; exact h j (by omega)
  · intro h i hi; exact h i (Nat.zero_le _) (by omega)
/-- the class's half of a sheet -/
def SC (p : Pn) (its : Nat) (σ : S0) : Prop := CO p (p.bst its) σ ∧ σ 0 8 = nI its ∧ ∀ k, k ≤ its → σ 17 k = p.xk k
/-- the reference's half -/
def SR (p : Pn) (its : Nat) (τ : S0) : Prop := BO p (p.bst its) τ ∧ τ 0 2 = nI its ∧ (∀ k, k ≤ its → τ 16 k = p.xk k) ∧ τ 0 6 = nI (p.lo p.n) ∧ CG p (p.bst its) (p.rs p.R) τ ∧ CL p (p.bst its) p.n τ
theorem draw_arg {a : Int32} : (a < 0 ∨ 12 < a) ∨ ∃ its, its ≤ 12 ∧ a = nI its := by
  rcases pk_ix a (n := 13) (by omega) with q | q | ⟨j, hj, e⟩
  · exact Or.inl (Or.inl q)
  · refine Or.inl (Or.inr ?_)
    rw [Int32.le_iff_toInt_le, nI_toInt (by omega)] at q
    rw [Int32.lt_iff_toInt_lt, show (12 : Int32).toInt = 12 by decide]; omega
  · exact Or.inr ⟨j, by omega, e⟩
theorem SC.st0 {p : Pn} {its : Nat} {v : Int32} (h : SC p its σ) : SC p its (st σ 0 0 v) := by
  obtain ⟨⟨⟨q1, q2, q3, q4, q5, q6, q7⟩, c2, c3, c4, c5, c6, c7, c8⟩, b, c⟩ := h
  have f : ∀ b, b ≠ 0 → st σ 0 0 v b = σ b := fun b hb => st_ne hb
  have f0 : ∀ k, k ≠ 0 → st σ 0 0 v 0 k = σ 0 k := fun k hk => st_other hk
  exact ⟨⟨⟨by rw [f0 4 (by decide)]; exact q1, by rw [f0 6 (by decide)]; exact q2, by rw [f 11 (by decide), f 12 (by decide)]; exact q3, by rw [f0 5 (by decide)]; exact q4, by rw [f 10 (by decide)]; exact q5, by rw [f 15 (by decide)]; exact q6, by rw [f0 7 (by decide)]; exact q7⟩, by rw [f0 9 (by decide)]; exact c2, by rw [f0 10 (by decide)]; exact c3, by rw [f 20 (by decide)]; exact c4, by rw [f 23 (by decide)]; exact c5, by rw [f 21 (by decide), f 22 (by decide)]; exact c6, by rw [f 18 (by decide)]; exact c7, by rw [f 16 (by decide)]; exact c8⟩, by rw [f0 8 (by decide)]; exact b, by rw [f 17 (by decide)]; exact c⟩
theorem cl_draw (hC : CD T Gp Ph Hd Th σ) (hW : WF T Gp Ph Hd Th) {a : Int32} {post : Int32 → S0 → Prop} {px : Nat → S0 → Prop}
    (hbad : (a < 0 ∨ 12 < a) → px 2 σ)
    (hgood : ∀ its, its ≤ 12 → a = nI its → (¬ NM T Gp Ph → ∀ σ', CD T Gp Ph Hd Th σ' → σ' 0 0 = 0 → post (-2) σ') ∧ (NM T Gp Ph → ¬ (pOf T Gp Ph Hd Th).fb (pOf T Gp Ph Hd Th).n ≤ 150 → ∀ σ', CD T Gp Ph Hd Th σ' → σ' 0 0 = 0 → post (-3) σ') ∧ (NM T Gp Ph → (pOf T Gp Ph Hd Th).fb (pOf T Gp Ph Hd Th).n ≤ 150 → ∀ σ', CD T Gp Ph Hd Th σ' → σ' 0 0 = 1 → SC (pOf T Gp Ph Hd Th) its σ' → post ((pOf T Gp Ph Hd Th).lst its) σ')) : Sp_M_draw a σ post px := by
  unfold Sp_M_draw
  intro G10 h10
  rcases draw_arg (a := a) with q | ⟨its, hits, e⟩
  · refine ⟨fun _ => h10 _ (hbad q), fun c => ⟨fun c2 => ?_, fun _ => h10 _ (hbad q)⟩⟩
    rcases q with q | q
    · exact absurd q c
    · rw [Int32.lt_iff_toInt_lt] at q
      rw [Int32.le_iff_toInt_le] at c2
      omega
  · obtain ⟨g1, g2, g3⟩ := hgood its hits e
    refine ⟨fun c => absurd c (by rw [e]; exact nI_pos (by omega)), fun _ => ⟨fun _ σ1 e1 => ?_, fun c => absurd (by rw [e]; exact (nI_leI (a := its) (b := 12) (by omega) (by omega)).mpr hits) c⟩⟩
    have hC1 : CD T Gp Ph Hd Th σ1 := by rw [e1]; exact hC.put0
    have z1 : σ1 0 0 = 0 := by rw [e1, st_same]
    refine sp_findMisfit hC1 ⟨fun c => ?_, fun c => ?_⟩
    · have hN : NM T Gp Ph := by
        rw [nm_fnd]
        cases hf : fnd (mf T Gp Ph) 256 0 0 with
        | none => rfl
        | some i =>
          rw [hf] at c
          have := fnd_lt _ _ _ hf
          have c' : nI i = -1 := c
          have h0 : (-1 : Int32) < 0 := by decide
          rw [← c'] at h0
          exact absurd h0 (nI_pos (by omega))
      have hw := pOf_PW hW hN
      refine sp_make hC1 hW hN (fun σ4 d4 p4 => ?_)
      have hC4 := hC1.df d4
      have z4 : σ4 0 0 = 0 := by rw [d4.2 0 (by omega)]; exact z1
      have hfb := hw.fb _ (Nat.le_refl _)
      have p4' : PLp (pOf T Gp Ph Hd Th) σ4 := p4
      rw [p4'.2.2.2.2.2.2, show (150 : Int32) = nI 150 from rfl, nI_leI (by omega) (by omega)]
      refine ⟨fun c2 => ?_, fun c2 => g2 hN c2 σ4 hC4 z4⟩
      rw [e]
      refine sp_omake (hw.pk c2) p4' hits (fun σ5 f5 c5 r5 x5 σ7 e7 => ?_)
      have hC5 : CD T Gp Ph Hd Th σ5 := hC4.df ⟨fun b h1 h2 => f5.1 b (by omega) (by omega), fun k hk => f5.2 k (by omega)⟩
      refine g3 hN c2 σ7 (by rw [e7]; exact hC5.put0) (by rw [e7, st_same]) ?_
      rw [e7]; exact SC.st0 ⟨c5, r5, x5⟩
    · refine g1 (fun hN => c ?_) σ1 hC1 z1
      rw [nm_fnd.mp hN]; rfl
theorem RP.keep {p : Pn} {τ' : S0} (h : RP p τ) (f : ∀ b, b ≠ 0 → b ≠ 9 → b ≠ 10 → b ≠ 16 → τ' b = τ b) (f0 : ∀ i, 3 ≤ i → i < 6 → τ' 0 i = τ 0 i) : RP p τ' := by
  obtain ⟨a, b, c, d, e, g⟩ := h
  exact ⟨by rw [f0 3 (by omega) (by omega)]; exact a, by rw [f0 4 (by omega) (by omega)]; exact b, by rw [f0 5 (by omega) (by omega)]; exact c, fun k hk => by rw [f 13 (by decide) (by decide) (by decide) (by decide), f 14 (by decide) (by decide) (by decide) (by decide), f 15 (by decide) (by decide) (by decide) (by decide)]; exact d k hk, fun i hi => by rw [f 8 (by decide) (by decide) (by decide) (by decide)]; exact e i hi, fun k j hk hj => by rw [f 11 (by decide) (by decide) (by decide) (by decide), f 12 (by decide) (by decide) (by decide) (by decide)]; exact g k j hk hj⟩
set_option maxHeartbeats 1000000 in
theorem rf_draw (hR : RD T Gp Ph Hd Th τ) (hW : WF T Gp Ph Hd Th) {a : Int32} {post : Int32 → S0 → Prop}
    (hbad : (a < 0 ∨ 12 < a) → ∀ τ', RF τ τ' → τ' 0 0 = 1 → post 0 τ')
    (hgood : ∀ its, its ≤ 12 → a = nI its → (¬ NM T Gp Ph → ∀ τ', RD T Gp Ph Hd Th τ' → τ' 0 1 = 0 → τ' 0 0 = 0 → post (-2) τ') ∧ (NM T Gp Ph → ¬ (pOf T Gp Ph Hd Th).fb (pOf T Gp Ph Hd Th).n ≤ 150 → ∀ τ', RD T Gp Ph Hd Th τ' → τ' 0 1 = 0 → τ' 0 0 = 0 → post (-3) τ') ∧ (NM T Gp Ph → (pOf T Gp Ph Hd Th).fb (pOf T Gp Ph Hd Th).n ≤ 150 → ∀ τ', RD T Gp Ph Hd Th τ' → τ' 0 1 = 1 → τ' 0 0 = 0 → SR (pOf T Gp Ph Hd Th) its τ' → post ((pOf T Gp Ph Hd Th).lst its) τ')) : Sp_R_draw a τ post := by
  unfold Sp_R_draw
  intro G16 G36 G117 G150 h16 h36 h117 h150
  rcases draw_arg (a := a) with q | ⟨its, hits, e⟩
  · refine sp_in (fun c1 c2 => ?_) (fun _ => ⟨fun c => absurd rfl c, fun _ => h16 _ _ _ (sp_throwing (fun _ => ⟨fun c => absurd c (by decide), fun _ => hbad q _ RF.put0 (st_same _ _ _ _)⟩) (fun c => absurd c (by decide)) (fun c => absurd c (by decide)))⟩)
    rcases q with q | q
    · exact absurd q c1
    · exact absurd q c2
  · obtain ⟨g1, g2, g3⟩ := hgood its hits e
    refine sp_in (fun _ _ => ⟨fun _ => h16 _ _ _ (sp_throwing (fun c => absurd rfl c) (fun _ c => absurd rfl c) (fun _ _ => ⟨fun _ σ5 e5 => ?_, fun c => absurd rfl c⟩)), fun c => absurd c (by decide)⟩) (fun q => ?_)
    · have hR5 : RD T Gp Ph Hd Th σ5 := hR.five (fun b h1 h5 => by rw [e5, st_ne (by omega), st_ne (by omega)])
      have z5 : σ5 0 1 = 0 := by rw [e5, st_same]
      have t5 : σ5 0 0 = 0 := by rw [e5, st_other (by decide), st_same]
      refine sp_findOver hR5 (fun c hc => hW.lt hc) (fun σ6 f6 o6 => ?_)
      have hR6 : RD T Gp Ph Hd Th σ6 := hR5.five (fun b h1 h5 => f6 b (by omega))
      have z6 : σ6 0 1 = 0 := by rw [f6 0 (by decide)]; exact z5
      have t6 : σ6 0 0 = 0 := by rw [f6 0 (by decide)]; exact t5
      rw [e]
      refine upto 256 (fun x (_ : Unit) => G36 (nI its) (nI x) σ6) (fun x _ => ∀ j, j < x → mf T Gp Ph j = false) (fun _ hI => ?_) (fun x _ hx hI ih => ?_) 0 () (Nat.zero_le _) (fun j hj => absurd hj (by omega))
      · have hN : NM T Gp Ph := hI
        have hw := pOf_PW hW hN
        refine h36 _ _ _ ⟨fun _ => sp_rfindLinks hR6 hW (fun σ7 f7 l7 => ?_), fun c => absurd ((le256 (by omega)).mpr (by omega)) c⟩
        have hR7 : RD T Gp Ph Hd Th σ7 := hR6.five (fun b h1 h5 => f7 b (by omega))
        refine sp_rfindRows hR7 hW hN l7 (fun σ8 f8 r8 => ?_)
        have hR8 : RD T Gp Ph Hd Th σ8 := hR7.five (fun b h1 h5 => f8 b (by omega))
        have k8 : ∀ k, σ8 0 k = σ6 0 k := fun k => by rw [f8 0 (by decide), f7 0 (by decide)]
        refine sp_findBends (p := pOf T Gp Ph Hd Th) (lq := lk T Gp Hd Th) hw rfl (fun _ => rfl) (fun _ => rfl) (fun k hk => by rw [f8 7 (by decide)]; exact l7 k hk) r8 (fun c2 τ9 f9 f9' => ⟨fun c => absurd rfl c, fun _ => ?_⟩) (fun c2 τ9 f9 f9' rp9 => ⟨fun _ σ11 e11 => ?_, fun c => absurd c (by decide)⟩)
        · exact g2 hN c2 τ9 (hR8.five (fun b h1 h5 => f9 b (by omega) (by omega))) (by rw [f9' 1 (by omega), k8]; exact z6) (by rw [f9' 0 (by omega), k8]; exact t6)
        · have hp := hw.pk c2
          generalize hpq : pOf T Gp Ph Hd Th = p at *
          have hd : p.dr = Dr Gp Hd Th := by rw [← hpq]; rfl
          have hR11 : RD T Gp Ph Hd Th σ11 := hR8.five (fun b h1 h5 => by rw [e11, st_ne (by omega), f9 b (by omega) (by omega)])
          have t11 : σ11 0 0 = 0 := by rw [e11, st_other (by decide), f9' 0 (by omega), k8]; exact t6
          have i11 : σ11 0 2 = nI its := by rw [e11, st_same]
          have rp11 : RP p σ11 := rp9.keep (fun b h0 _ _ _ => by rw [e11, st_ne h0]) (fun i h3 h6 => by rw [e11, st_other (by omega)])
          refine sp_placeAll hp rp11 (fun σ12 f12 p12 => ?_)
          have ro12 : RO p (p.run 0) σ12 := ⟨rp11.keep (fun b h0 h9 _ _ => f12 b h9) (fun i _ _ => by rw [f12 0 (by decide)]), p12⟩
          refine sp_crossedNow hp PM0 ro12 ⟨in13 (k := 0) (by omega), fun σ15 e15 => ⟨in13 (k := 0) (by omega), fun v16 e16 => ?_⟩⟩
          have e15' : σ15 = st σ12 16 0 (p.xk 0) := e15
          have e16' : v16 = p.lst 0 := by
            have : v16 = σ15 16 0 := e16
            rw [this, e15', st_same]; rfl
          rw [e16']
          refine sp_keep (fun σ17 f17 b17 => ?_)
          have hN6 := hp.N166
          have hR17 : RD T Gp Ph Hd Th σ17 := hR11.five (fun b h1 h5 => by rw [f17 b (by omega), e15', st_ne (by omega), f12 b (by omega)])
          have k17 : ∀ k, σ17 0 k = σ11 0 k := fun k => by rw [f17 0 (by decide), e15', st_ne (by decide), f12 0 (by decide)]
          refine upto its (fun k s => G117 (nI its) (p.lst k) (nI (k + 1)) s) (fun k s => RD T Gp Ph Hd Th s ∧ s 0 0 = 0 ∧ s 0 2 = nI its ∧ RO p (p.run k) s ∧ (∀ i, i < p.N → p.ir i < p.R → s 10 i = nI (p.pl (p.bst k) i)) ∧ ∀ j, j ≤ k → s 16 j = p.xk j) (fun s hI => ?_) (fun k s hk hI ih => ?_) 0 σ17 (Nat.zero_le _) ⟨hR17, by rw [k17]; exact t11, by rw [k17]; exact i11, ⟨ro12.1.keep (fun b h0 h9 h10 h16 => by rw [f17 b h10, e15', st_ne h16]) (fun i _ _ => by rw [f17 0 (by decide), e15', st_ne (by decide)]), fun i hi hr => by rw [f17 9 (by decide), e15', st_ne (by decide)]; exact ro12.2 i hi hr⟩, fun i hi hr => by rw [b17 i (by omega), e15', st_ne (by decide)]; exact ro12.2 i hi hr, fun j hj => by rw [show j = 0 by omega, f17 16 (by decide), e15', st_same]⟩
          · obtain ⟨i1, i2, i3, i4, i5, i6⟩ := hI
            refine h117 _ _ _ _ ⟨fun _ σ20 e20 => ?_, fun c => absurd (nI_lt (by omega) (by omega)) c⟩
            have hR20 : RD T Gp Ph Hd Th σ20 := i1.five (fun b h1 h5 => by rw [e20, st_ne (by omega)])
            have bo20 : BO p (p.bst its) σ20 := ⟨i4.1.keep (fun b h0 _ _ _ => by rw [e20, st_ne h0]) (fun i h3 h6 => by rw [e20, st_other (by omega)]), fun i hi hr => by rw [e20, st_ne (by decide)]; exact i5 i hi hr⟩
            refine sp_write hp (bst_PM its) hR20 hW hd bo20 (fun σ21 w21 s21 cg cL => ?_)
            refine g3 hN c2 σ21 (hR20.five (fun b h1 h5 => w21.1 b (by omega) (by omega))) (by rw [w21.2 1 (by decide), e20, st_same]) (by rw [w21.2 0 (by decide), e20, st_other (by decide)]; exact i2) ⟨bo20.wr w21, by rw [w21.2 2 (by decide), e20, st_other (by decide)]; exact i3, fun k hk => by rw [w21.1 16 (by decide) (by decide), e20, st_ne (by decide)]; exact i6 k hk, s21, cg, cL⟩
          · obtain ⟨i1, i2, i3, i4, i5, i6⟩ := hI
            refine h117 _ _ _ _ ⟨fun c => absurd ((nI_ltI (by omega) (by omega)).mp c) (by omega), fun _ => sp_round hp i1 hW hd (run_PM k) i4 (fun σ22 f22 r22 => sp_crossedNow hp (run_PM (k + 1)) r22 ⟨in13 (by omega), fun σ25 e25 => ⟨in13 (by omega), ?_⟩⟩)⟩
            rw [cl (by omega : k + 1 < 2 ^ 31)] at e25 ⊢
            have e25' : σ25 = st σ22 16 (k + 1) (p.xk (k + 1)) := e25
            have x16 : ∀ j, j ≤ k + 1 → σ25 16 j = p.xk j := fun j hj => by
              rw [e25', st_app]
              by_cases q : j = k + 1
              · rw [if_pos ⟨rfl, q⟩, q]
              · rw [if_neg (fun z => q z.2), f22 16 (by decide) (by decide) (by decide) (by decide)]; exact i6 j (by omega)
            have hR25 : RD T Gp Ph Hd Th σ25 := i1.five (fun b h1 h5 => by rw [e25', st_ne (by omega), f22 b (by omega) (by omega) (by omega) (by omega)])
            have k25 : ∀ j, σ25 0 j = s 0 j := fun j => by rw [e25', st_ne (by decide), f22 0 (by decide) (by decide) (by decide) (by decide)]
            have ro25 : RO p (p.run (k + 1)) σ25 := ⟨RP.keep (τ := σ22) r22.1 (fun b h0 _ _ h16 => by rw [e25', st_ne h16]) (fun i _ _ => by rw [e25', st_ne (by decide)]), fun i hi hr => by rw [e25', st_ne (by decide)]; exact r22.2 i hi hr⟩
            have go : ∀ s', (∀ b, b ≠ 10 → s' b = σ25 b) → (∀ i, i < p.N → p.ir i < p.R → s' 10 i = nI (p.pl (p.bst (k + 1)) i)) → G150 (nI its) (p.lst k) (nI (k + 1)) s' := fun s' f' b' => by
              have x' : s' 16 (k + 1) = p.xk (k + 1) := by rw [f' 16 (by decide)]; exact x16 _ (Nat.le_refl _)
              have nx := ih s' ⟨hR25.five (fun b h1 h5 => f' b (by omega)), by rw [f' 0 (by decide), k25]; exact i2, by rw [f' 0 (by decide), k25]; exact i3, ⟨ro25.1.keep (fun b h0 _ h10 _ => f' b h10) (fun i _ _ => by rw [f' 0 (by decide)]), fun i hi hr => by rw [f' 9 (by decide)]; exact ro25.2 i hi hr⟩, b', fun j hj => by rw [f' 16 (by decide)]; exact x16 j hj⟩
              refine h150 _ _ _ _ ⟨in13 (by omega), ?_⟩
              rw [cl (by omega : k + 1 < 2 ^ 31), x', nI_1]
              refine ⟨fun c => ?_, fun c => ⟨in13 (by omega), fun v27 e27 => ?_⟩⟩
              · have el : p.lst (k + 1) = p.lst k := by rw [Pn.lst, if_pos c]
                rw [el] at nx; exact nx
              · have el : p.lst (k + 1) = p.xk (k + 1) := by rw [Pn.lst, if_neg c]
                rw [el] at nx; rw [e27]; exact nx
            rw [x16 (k + 1) (Nat.le_refl _)]
            refine ⟨fun c => go σ25 (fun _ _ => rfl) (fun i hi hr => ?_), fun c => sp_keep (fun σ26 f26 b26 => go σ26 f26 (fun i hi hr => ?_))⟩
            · have eb : p.bst (k + 1) = p.bst k := by rw [Pn.bst, if_pos c]
              rw [eb, e25', st_ne (by decide), f22 10 (by decide) (by decide) (by decide) (by decide)]; exact i5 i hi hr
            · have eb : p.bst (k + 1) = p.run (k + 1) := by rw [Pn.bst, if_neg c]
              rw [eb, b26 i (by omega)]; exact ro25.2 i hi hr
      · refine h36 _ _ _ ⟨fun c => absurd ((le256 (by omega)).mp c) (by omega), fun _ => ?_⟩
        rw [d16 hx, m16 hx, nI_1]
        refine sp_misfits hR6 hW o6 (by omega) (by omega) ?_
        rw [show 16 * (x / 16) + x % 16 = x by omega]
        refine ⟨fun c => ih () (fun j hj => ?_), fun c => g1 (fun hN => ?_) σ6 hR6 z6 t6⟩
        · by_cases q : j = x
          · rw [q]; exact b2i_0.mp c
          · exact hI j (by omega)
        · rw [hN x hx] at c; exact c rfl
    · rw [e] at q
      rcases q with q | q
      · exact absurd q (nI_pos (by omega))
      · rw [show (12 : Int32) = nI 12 from rfl, nI_ltI (by omega) (by omega)] at q; omega
def Sht : ShT := fun T Gp Ph Hd Th σ τ => PK (pOf T Gp Ph Hd Th) ∧ ∃ its, its ≤ 12 ∧ SC (pOf T Gp Ph Hd Th) its σ ∧ SR (pOf T Gp Ph Hd Th) its τ
theorem ShtF : ShF Sht := by
  intro T Gp Ph Hd Th σ τ τ' h f
  obtain ⟨hp, its, hits, hc, ⟨⟨a, b, c, d, e, g⟩, i⟩, r2, r16, r6, cg, cL⟩ := h
  have f0 : ∀ k, k ≠ 0 → τ' 0 k = τ 0 k := f.2
  have fb' : ∀ b, b ≠ 0 → b ≠ 6 → τ' b = τ b := f.1
  refine ⟨hp, its, hits, hc, ⟨⟨by rw [f0 3 (by decide)]; exact a, by rw [f0 4 (by decide)]; exact b, by rw [f0 5 (by decide)]; exact c, fun k hk => by rw [fb' 13 (by decide) (by decide), fb' 14 (by decide) (by decide), fb' 15 (by decide) (by decide)]; exact d k hk, fun i hi => by rw [fb' 8 (by decide) (by decide)]; exact e i hi, fun k j hk hj => by rw [fb' 11 (by decide) (by decide), fb' 12 (by decide) (by decide)]; exact g k j hk hj⟩, fun j hj hr => by rw [fb' 10 (by decide) (by decide)]; exact i j hj hr⟩, by rw [f0 2 (by decide)]; exact r2, fun k hk => by rw [fb' 16 (by decide) (by decide)]; exact r16 k hk, by rw [f0 6 (by decide)]; exact r6, cg.same (fun x _ => by rw [fb' 20 (by decide) (by decide)]), cL.same (fun x _ => by rw [fb' 20 (by decide) (by decide)])⟩
theorem step_draw {g : Nat → Int64} (h : InvP Sht σ τ) (a : Int32) : Sp_L_draw a σ g (fun k σ1 g1 => Sp_R_draw a τ (fun bb τ1 => Sp_R_thrown τ1 (fun th τ2 => th = k ∧ (k = 0 → g1 0 = bb.toInt64) ∧ K0 Sht σ1 τ2 g1))) := by
  obtain ⟨T, Gp, Ph, Hd, Th, hW, hC, hR, hS⟩ := id h
  unfold Sp_L_draw
  have no : ∀ {its : Nat} {P : Prop}, its ≤ 12 → a = nI its → (a < 0 ∨ 12 < a) → P := fun {its P} h1 h2 q => by
    rw [h2] at q
    rcases q with q | q
    · exact absurd q (nI_pos (by omega))
    · rw [show (12 : Int32) = nI 12 from rfl, nI_ltI (by omega) (by omega)] at q; omega
  refine cl_draw hC hW (fun q => ⟨rfl, rf_draw hR hW (fun _ τ' f z => threw (r := 0) (by decide) z (h.frame ShtF f)) (fun its h1 h2 => no h1 h2 q)⟩) (fun its h1 h2 => ?_)
  have inj : ∀ its', its' ≤ 12 → a = nI its' → its' = its := fun its' h3 h4 => (nIx (by omega) (by omega)).mp (by rw [← h4, h2])
  refine ⟨fun hN σ' hC' z' => rf_draw hR hW (fun q => no h1 h2 q) (fun its' h3 h4 => ?_), fun hN hb σ' hC' z' => rf_draw hR hW (fun q => no h1 h2 q) (fun its' h3 h4 => ?_), fun hN hb σ' hC' z' sc => rf_draw hR hW (fun q => no h1 h2 q) (fun its' h3 h4 => ?_)⟩
  · exact ⟨fun _ τ' hR' y z => both g_0 z ⟨_, _, _, _, _, hW, hC', hR', Or.inl ⟨z', y⟩⟩, fun q => absurd q hN, fun q => absurd q hN⟩
  · exact ⟨fun q => absurd hN q, fun _ _ τ' hR' y z => both g_0 z ⟨_, _, _, _, _, hW, hC', hR', Or.inl ⟨z', y⟩⟩, fun _ q => absurd q hb⟩
  · refine ⟨fun q => absurd hN q, fun _ q => absurd hb q, fun _ _ τ' hR' y z sr => ?_⟩
    have e := inj its' h3 h4
    subst e
    exact both g_0 z ⟨_, _, _, _, _, hW, hC', hR', Or.inr ⟨z', y, (pOf_PW hW hN).pk hb, its', h1, sc, sr⟩⟩
end
