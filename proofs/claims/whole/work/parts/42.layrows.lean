/-! A rank for the drawn groups; the class's rows and bends. -/
def pn (x : Int32) : Nat := (x + 1).toNatClampNeg
theorem pn_m1 : pn (-1) = 0 := by decide
theorem pn_nI {q : Nat} (h : q < 6) : pn (nI q) = q + 1 := by unfold pn; rw [nI_1, cl (by omega)]
theorem pn_0 {x : Int32} (h : okPh x) : x = -1 ↔ pn x = 0 := by
  rcases h with rfl | ⟨q, hq, rfl⟩
  · simp [pn_m1]
  · rw [pn_nI hq]
    constructor
    · intro c
      have := (okPh_neg (Or.inr ⟨q, hq, rfl⟩)).mpr c
      exact absurd this (nI_pos (by omega))
    · intro c; omega
theorem pn_le {x y : Int32} (hx : okPh x) (hy : okPh y) : x ≤ y ↔ pn x ≤ pn y := by
  rcases hx with rfl | ⟨p, hp, rfl⟩ <;> rcases hy with rfl | ⟨q, hq, rfl⟩
  · simp [pn_m1]
  · rw [pn_m1, pn_nI hq]
    constructor
    · intro _; omega
    · intro _
      rw [Int32.le_iff_toInt_le, nI_toInt (by omega)]
      have : ((-1 : Int32)).toInt = -1 := by decide
      omega
  · rw [pn_m1, pn_nI hp]
    constructor
    · intro c
      rw [Int32.le_iff_toInt_le, nI_toInt (by omega)] at c
      have : ((-1 : Int32)).toInt = -1 := by decide
      omega
    · intro c; omega
  · rw [pn_nI hp, pn_nI hq, nI_leI (by omega) (by omega)]; omega
section
variable {T : Nat → Nat → Bool} {Gp : Nat → Nat} {Ph : Nat → Int32} {Hd Th : Nat → Bool} {σ τ : S0}
theorem gp_ok (hW : WF T Gp Ph Hd Th) (g : Nat) : okPh (GP Gp Ph g) := gpf_ok hW.2.2.2.2.2.1 16 (by omega)
abbrev NM (T : Nat → Nat → Bool) (Gp : Nat → Nat) (Ph : Nat → Int32) : Prop := ∀ i, i < 256 → mf T Gp Ph i = false
theorem nm_le (hW : WF T Gp Ph Hd Th) (hN : NM T Gp Ph) {u w : Nat} (hu : u < 16) (hw : w < 16) (ho : OV T Gp u w = true) (h0 : pn (GP Gp Ph w) ≠ 0) : pn (GP Gp Ph u) ≤ pn (GP Gp Ph w) := by
  refine Classical.byContradiction (fun hc => ?_)
  have h1 : mf T Gp Ph (16 * u + w) = true := by
    unfold mf
    rw [show (16 * u + w) / 16 = u by omega, show (16 * u + w) % 16 = w by omega, Bool.and_eq_true, Bool.and_eq_true]
    exact ⟨ho, decide_eq_true (fun q => h0 ((pn_0 (gp_ok hW w)).mp q)), decide_eq_true (fun q => hc ((pn_le (gp_ok hW u) (gp_ok hW w)).mp q))⟩
  rw [hN (16 * u + w) (by omega)] at h1; cases h1
theorem lc_ov {a g : Nat} (ha : a < 16) (hg : g < 16) (h : LC T Gp Hd Th a g = true) : OV T Gp a g = true :=
  cloV_min (R := fun i j => OV T Gp i j = true) (fun i j _ _ hm => clo_in hm) (fun i j k _ hj _ h1 h2 => clo_trans hj h1 h2) 16 (by omega) a g ha hg h
theorem ranked (hW : WF T Gp Ph Hd Th) (hN : NM T Gp Ph) : Ranked (Dr Gp Hd Th) (FR T Gp Ph Hd Th) := by
  refine ⟨fun g => 17 * maxN 16 (fun x => if x = g ∨ OV T Gp x g = true then pn (GP Gp Ph x) else 0) + cnt 16 (fun x => OV T Gp x g), fun a g ha hg hd hf => ?_⟩
  unfold FR at hf
  rw [Bool.and_eq_true, Bool.or_eq_true, Bool.and_eq_true, decide_eq_true_eq, decide_eq_true_eq] at hf
  obtain ⟨hda, hf⟩ := hf
  refine ⟨?_, hda⟩
  rcases hf with hf | ⟨h1, h2⟩
  · have ho := lc_ov ha hg hf
    have m : maxN 16 (fun x => if x = a ∨ OV T Gp x a = true then pn (GP Gp Ph x) else 0) ≤ maxN 16 (fun x => if x = g ∨ OV T Gp x g = true then pn (GP Gp Ph x) else 0) := by
      refine maxN_le 16 (fun k hk => ?_)
      have := le_maxN (f := fun x => if x = g ∨ OV T Gp x g = true then pn (GP Gp Ph x) else 0) 16 hk
      split
      · rename_i q
        have hkg : OV T Gp k g = true := by
          rcases q with rfl | q
          · exact ho
          · exact clo_trans ha q ho
        rw [if_pos (Or.inr hkg)] at this; exact this
      · exact Nat.zero_le _
    have c : cnt 16 (fun x => OV T Gp x a) < cnt 16 (fun x => OV T Gp x g) := cnt_ssub (p := fun x => OV T Gp x a) (q := fun x => OV T Gp x g) (j := a) (hW.2.2.2.2.2.2 a ha) ho 16 ha (fun k _ hk => clo_trans (m := DB T Gp) ha hk ho)
    show 17 * _ + _ < 17 * _ + _
    omega
  · have oa := gp_ok hW a
    have og := gp_ok hW g
    have p1 : pn (GP Gp Ph a) ≠ 0 := fun q => h1 ((pn_0 oa).mpr q)
    have p2 : pn (GP Gp Ph a) < pn (GP Gp Ph g) := Nat.not_le.mp (fun q => h2 ((pn_le og oa).mpr q))
    have m1 : maxN 16 (fun x => if x = a ∨ OV T Gp x a = true then pn (GP Gp Ph x) else 0) ≤ pn (GP Gp Ph a) := by
      refine maxN_le 16 (fun k hk => ?_)
      split
      · rename_i q
        rcases q with rfl | q
        · exact Nat.le_refl _
        · exact nm_le hW hN hk ha q p1
      · exact Nat.zero_le _
    have m2 : pn (GP Gp Ph g) ≤ maxN 16 (fun x => if x = g ∨ OV T Gp x g = true then pn (GP Gp Ph x) else 0) := by
      have := le_maxN (f := fun x => if x = g ∨ OV T Gp x g = true then pn (GP Gp Ph x) else 0) 16 hg
      simpa using this
    have c : cnt 16 (fun x => OV T Gp x a) ≤ 16 := cnt_le 16
    show 17 * _ + _ < 17 * _ + _
    omega
abbrev RW (T : Nat → Nat → Bool) (Gp : Nat → Nat) (Ph : Nat → Int32) (Hd Th : Nat → Bool) : Nat → Nat := Rw (Dr Gp Hd Th) (FR T Gp Ph Hd Th)
abbrev RC (T : Nat → Nat → Bool) (Gp : Nat → Nat) (Ph : Nat → Int32) (Hd Th : Nat → Bool) : Nat := Rc (Dr Gp Hd Th) (FR T Gp Ph Hd Th)
set_option maxHeartbeats 1000000 in
theorem sp_layRows (hr : Ranked (Dr Gp Hd Th) (FR T Gp Ph Hd Th)) (h4 : IsSet (σ 0 4) (Dr Gp Hd Th)) (h14 : ∀ g, g < 16 → IsSet (σ 14 g) (fun a => FR T Gp Ph Hd Th a g)) {post : S0 → Prop}
    (h : ∀ σ', (∀ b, b ≠ 0 → b ≠ 10 → σ' b = σ b) → (∀ k, k ≠ 5 → σ' 0 k = σ 0 k) → σ' 0 5 = nI (RC T Gp Ph Hd Th) → (∀ g, g < 16 → Dr Gp Hd Th g = true → σ' 10 g = nI (RW T Gp Ph Hd Th g)) → post σ') : Sp_P_layRows σ post := by
  generalize hd : Dr Gp Hd Th = d at hr h4 h
  generalize hf : FR T Gp Ph Hd Th = f at hr h14 h
  have hRW : ∀ g, RW T Gp Ph Hd Th g = Rw d f g := fun g => by rw [← hd, ← hf]
  have hRC : RC T Gp Ph Hd Th = Rc d f := by rw [← hd, ← hf]
  unfold Sp_P_layRows
  intro G7 G28 h7 h28
  let J : Nat → S0 → Prop := fun n s => (∀ b, b ≠ 0 → b ≠ 10 → s b = σ b) ∧ (∀ k, k ≠ 5 → s 0 k = σ 0 k) ∧ s 0 5 = nI n ∧ ∀ g, g < 16 → lay d f n g = true → s 10 g = nI (Rw d f g)
  have outer : ∀ e n x1 s, e + n = 16 → n ≤ Rc d f → IsSet x1 (lay d f n) → J n s → G7 x1 s := by
    intro e
    induction e with
    | zero =>
      intro n x1 s hen hnR hx hJ
      have : n = 16 := by omega
      subst this
      obtain ⟨j1, j2, j3, j4⟩ := hJ
      have hA := laid_all hr
      have e1 : x1 = s 0 4 := by
        rw [j2 4 (by decide)]
        refine (hx.ext (fun i hi => ?_)).inj h4
        cases q : d i
        · cases q2 : lay d f 16 i
          · rfl
          · rw [lay_d q2] at q; cases q
        · exact laid_iff.mp hA i hi q
      have hc : Rc d f = 16 := by have : Rc d f ≤ 16 := cnt_le 16; omega
      refine h7 _ _ ⟨fun _ => h s j1 j2 (by rw [j3, hRC, hc]) (fun g hg q => by rw [hRW]; exact j4 g hg (laid_iff.mp hA g hg q)), fun c => absurd e1 c⟩
    | succ e ih =>
      intro n x1 s hen hnR hx hJ
      obtain ⟨j1, j2, j3, j4⟩ := id hJ
      refine h7 _ _ ⟨fun c => ?_, fun c => ⟨fun c2 => ?_, fun c2 => ?_⟩⟩
      · have hA : allLaid d f n = true := laid_iff.mpr (fun g hg q => by
          have : bt x1 g = d g := by rw [c, j2 4 (by decide)]; exact h4.at hg
          rw [hx.at hg, q] at this; exact this)
        have hc := (laid_Rc hr (by omega)).mp hA
        exact h s j1 j2 (by rw [j3, hRC, show Rc d f = n by omega]) (fun g hg q => by rw [hRW]; exact j4 g hg (laid_iff.mp hA g hg q))
      · rw [j3, le16 (by omega)] at c2; omega
      · have hnA : allLaid d f n = false := by
          cases q : allLaid d f n
          · rfl
          · refine absurd ?_ c
            rw [j2 4 (by decide)]
            refine (hx.ext (fun i hi => ?_)).inj h4
            cases q1 : d i
            · cases q2 : lay d f n i
              · rfl
              · rw [lay_d q2] at q1; cases q1
            · exact laid_iff.mp q i hi q1
        have hn1 : n + 1 ≤ Rc d f := by
          refine Nat.not_lt.mp (fun q => ?_)
          rw [(laid_Rc hr (by omega)).mpr (by omega : Rc d f ≤ n)] at hnA; cases hnA
        -- one row
        have inner : ∀ k (u : Int32 × S0), k ≤ 16 → (IsSet u.1 (fun g => decide (g < k) && (lay d f (n + 1) g && !lay d f n g)) ∧ ((∀ b, b ≠ 0 → b ≠ 10 → u.2 b = σ b) ∧ (∀ k, k ≠ 5 → u.2 0 k = σ 0 k) ∧ u.2 0 5 = nI n ∧ (∀ g, g < 16 → lay d f n g = true → u.2 10 g = nI (Rw d f g)) ∧ ∀ g, g < k → lay d f (n + 1) g = true → u.2 10 g = nI (Rw d f g))) → G28 x1 u.1 (nI k) u.2 := by
          refine upto 16 (fun k (u : Int32 × S0) => G28 x1 u.1 (nI k) u.2) _ (fun u hI => ?_) (fun k u hk hI ih2 => ?_)
          · obtain ⟨i1, i2, i3, i4, i5, i6⟩ := hI
            refine h28 _ _ _ _ ⟨fun _ v2 ev σ3 e3 => ?_, fun c => absurd ((le16 (by omega)).mpr (by omega)) c⟩
            refine ih (n + 1) v2 σ3 (by omega) hn1 ?_ ⟨fun b h0 h10 => by rw [e3, st_ne h0]; exact i2 b h0 h10, fun k hk => by rw [e3, st_other hk]; exact i3 k hk, by rw [e3, st_same, i4]; exact nI_1 n, fun g hg hl => by rw [e3, st_ne (by decide)]; exact i6 g hg hl⟩
            rw [ev]
            refine (hx.or i1).ext (fun i hi => ?_)
            rw [decide_eq_true hi, Bool.true_and]
            cases q : lay d f n i
            · simp
            · rw [lay_mono (by omega : n ≤ n + 1) q]; rfl
          · obtain ⟨i1, i2, i3, i4, i5, i6⟩ := hI
            have s4 : IsSet (u.2 0 4) d := by rw [i3 4 (by decide)]; exact h4
            have skip : (lay d f (n + 1) k && !lay d f n k) = false → G28 x1 u.1 (nI k + 1) u.2 := fun hq => by
              rw [nI_1]
              refine ih2 u ⟨i1.ext (fun i _ => ?_), i2, i3, i4, i5, fun g hg hl => ?_⟩
              · by_cases q : i = k
                · subst q; rw [hq]; simp
                · have : i < k ↔ i < k + 1 := by omega
                  simp [this]
              · by_cases q : g = k
                · subst q
                  rw [hl, Bool.true_and, Bool.not_eq_false'] at hq
                  exact i5 g (by omega) hq
                · exact i6 g (by omega) hl
            refine h28 _ _ _ _ ⟨fun c => absurd ((le16 (by omega)).mp c) (by omega), fun _ => ?_⟩
            refine sp_hasS (s4.diff hx) hk (fun ha => ⟨fun c => absurd c (by decide), fun _ => ⟨in16 hk, ?_⟩⟩) (fun ha => ⟨fun _ => skip ?_, fun c => absurd rfl c⟩)
            · rw [Bool.and_eq_true, Bool.not_eq_true'] at ha
              rw [cl (by omega : k < 2 ^ 31), i2 14 (by decide) (by decide), (IsSet.diff (h14 k hk) hx).eq0]
              have hls : lay d f (n + 1) k = true ↔ ∀ i, i < 16 → (f i k && !lay d f n i) = false := by
                rw [lay_s, ha.2, ha.1, Bool.false_or, Bool.true_and, Bool.not_eq_true', anyB_false]
              rw [← hls]
              refine ⟨fun c => skip (by rw [Bool.not_eq_true] at c; rw [c]; rfl), fun c => ⟨in16 hk, fun σ6 e6 v7 e7 => ?_⟩⟩
              have hRk : Rw d f k = n := by
                have h1 := (lay_Rw (by omega)).mp c
                have h2 : ¬ Rw d f k < n := fun q => by
                  cases n with
                  | zero => omega
                  | succ m =>
                    rw [(lay_Rw (by omega)).mpr (by omega : Rw d f k ≤ m)] at ha
                    exact absurd ha.2 (by decide)
                omega
              rw [nI_1]
              refine ih2 (v7, σ6) ⟨?_, fun b h0 h10 => by show σ6 b = σ b; rw [e6, st_ne h10]; exact i2 b h0 h10, fun j hj => by show σ6 0 j = σ 0 j; rw [e6, st_ne (by decide)]; exact i3 j hj, by show σ6 0 5 = nI n; rw [e6, st_ne (by decide)]; exact i4, fun g hg hl => ?_, fun g hg hl => ?_⟩
              · show IsSet v7 _
                rw [e7]
                refine (i1.or (IsSet.one hk)).ext (fun i _ => ?_)
                by_cases q : i = k
                · subst q; rw [c, ha.2]; simp
                · have : i < k ↔ i < k + 1 := by omega
                  simp [this, q]
              · have : g ≠ k := fun q => by rw [q, ha.2] at hl; cases hl
                show σ6 10 g = _
                rw [e6, st_other this]; exact i5 g hg hl
              · show σ6 10 g = _
                rw [e6, st_app]
                by_cases q : g = k
                · subst q; rw [if_pos ⟨rfl, rfl⟩, i4, hRk]
                · rw [if_neg (by simp [q])]; exact i6 g (by omega) hl
            · rw [Bool.and_eq_false_iff, Bool.not_eq_false'] at ha
              rcases ha with ha | ha
              · cases q : lay d f (n + 1) k
                · rfl
                · rw [lay_d q] at ha; cases ha
              · rw [ha]; simp
        exact inner 0 (0, s) (by omega) ⟨IsSet.zero.ext (fun i _ => by simp), j1, j2, j3, j4, fun g hg => absurd hg (by omega)⟩
  intro σ1 e1
  exact outer 16 0 0 σ1 (by omega) (Nat.zero_le _) (IsSet.zero.ext (fun i _ => rfl)) ⟨fun b h0 h10 => by rw [e1, st_ne h0], fun k hk => by rw [e1, st_other hk], by rw [e1, st_same]; rfl, fun g hg hl => by simp [lay] at hl⟩
end
