/-! The class's pieces and its count of crossings. -/
section
variable {p : Pn} {σ τ : S0}
def PC (p : Pn) (σ : S0) (r k : Nat) (s : S0) : Prop := (∀ b, b ≠ 0 → b ≠ 21 → b ≠ 22 → b ≠ 23 → s b = σ b) ∧ (∀ j, j ≠ 11 → s 0 j = σ 0 j) ∧ s 0 11 = nI (p.ps r + cnt k (p.hs r)) ∧ (∀ k', k' < k → p.hs r k' = true → s 21 (p.ps r + cnt k' (p.hs r)) = nI (p.fr r k') ∧ s 22 (p.ps r + cnt k' (p.hs r)) = nI (p.tt r k')) ∧ (∀ r' k', r' < r → k' < p.n → p.hs r' k' = true → s 21 (p.ps r' + cnt k' (p.hs r')) = nI (p.fr r' k') ∧ s 22 (p.ps r' + cnt k' (p.hs r')) = nI (p.tt r' k')) ∧ ∀ r', r' < r → s 23 r' = nI (p.ps r')
theorem in406 {k : Nat} (h : k < 406) : vp_in (nI k) 406 := vp_in_nI h (by omega)
theorem in17 {k : Nat} (h : k < 17) : vp_in (nI k) 17 := vp_in_nI h (by omega)
set_option maxHeartbeats 1000000 in
theorem sp_layPieces (hp : PK p) (h : PLp p σ) (h9 : σ 0 9 = nI p.R) {post : S0 → Prop}
    (hpost : ∀ s, (∀ b, b ≠ 0 → b ≠ 21 → b ≠ 22 → b ≠ 23 → s b = σ b) → (∀ k, k ≠ 11 → s 0 k = σ 0 k) → (∀ r k, r < p.R → k < p.n → p.hs r k = true → s 21 (p.ps r + cnt k (p.hs r)) = nI (p.fr r k) ∧ s 22 (p.ps r + cnt k (p.hs r)) = nI (p.tt r k)) → (∀ r, r ≤ p.R → s 23 r = nI (p.ps r)) → post s) : Sp_O_layPieces σ post := by
  have hR := hp.R16
  have hn := hp.n120
  have h150 := hp.fb150 (Nat.le_refl _)
  have plan : ∀ {r k : Nat} {s : S0}, PC p σ r k s → PLp p s := fun hm => h.of ⟨fun b h0 hb => hm.1 b h0 (by omega) (by omega) (by omega), fun k hk => hm.2.1 k (by omega)⟩
  have nine : ∀ {r k : Nat} {s : S0}, PC p σ r k s → s 0 9 = nI p.R := fun hm => by rw [hm.2.1 9 (by decide)]; exact h9
  unfold Sp_O_layPieces
  intro G7 G27 h7 h27 σ1 e1
  refine upto p.R (fun r s => G7 (nI r) s) (fun r s => PC p σ r 0 s) (fun s hI => ?_) (fun r s hr hI ih => ?_) 0 σ1 (Nat.zero_le _) ⟨fun b h0 _ _ _ => by rw [e1, st_ne h0], fun k hk => by rw [e1, st_other hk], by rw [e1, st_same]; rfl, fun i hi => absurd hi (by omega), fun r' j hr' => absurd hr' (by omega), fun r' hr' => absurd hr' (by omega)⟩
  · have h9s := nine hI
    obtain ⟨a, b, c, d, e, f⟩ := hI
    refine h7 _ _ ⟨fun _ => ?_, fun q => absurd (by rw [h9s]; exact nI_le (Nat.le_refl _) (by omega)) q⟩
    rw [h9s, cl (by omega : p.R < 2 ^ 31)]
    refine ⟨in17 (by omega), fun σ2 e2 => hpost σ2 (fun b' h0 h1 h2 h3 => by rw [e2, st_ne h3]; exact a b' h0 h1 h2 h3) (fun k hk => by rw [e2, st_ne (by decide)]; exact b k hk) (fun r k hr hk hh => by rw [e2, st_ne (by decide), st_ne (by decide)]; exact e r k hr hk hh) (fun r hr => ?_)⟩
    rw [e2, st_app]
    by_cases q : r = p.R
    · rw [if_pos ⟨rfl, q⟩, c, q]; rfl
    · rw [if_neg (fun z => q z.2)]; exact f r (by omega)
  · have h9s := nine hI
    have inner : ∀ k s, k ≤ p.n → (PC p σ r k s ∧ s 23 r = nI (p.ps r)) → G27 (nI r) (nI k) s := by
      refine upto p.n (fun k s => G27 (nI r) (nI k) s) _ (fun s hJ => ?_) (fun k s hk hJ ih2 => ?_)
      · obtain ⟨hM, h23⟩ := hJ
        have h6s : s 0 6 = nI p.n := (plan hM).2.1
        obtain ⟨a, b, c, d, e, f⟩ := id hM
        refine h27 _ _ _ ⟨fun _ => ?_, fun q => absurd (by rw [h6s]; exact nI_le (Nat.le_refl _) (by omega)) q⟩
        rw [nI_1]
        refine ih s ⟨a, b, by rw [c]; rfl, fun i hi => absurd hi (by omega), fun r' k' hr' hk' hh => ?_, fun r' hr' => ?_⟩
        · by_cases q : r' = r
          · subst q; exact d k' hk' hh
          · exact e r' k' (by omega) hk' hh
        · by_cases q : r' = r
          · subst q; exact h23
          · exact f r' (by omega)
      · obtain ⟨hM, h23⟩ := hJ
        have hP := plan hM
        have h6s : s 0 6 = nI p.n := hP.2.1
        obtain ⟨l1, l2, l3, l4, l5, l6⟩ := hp.link hk
        have h14 := hp.nb14 hk
        obtain ⟨a, b, c, d, e, f⟩ := id hM
        have none : p.hs r k = false → G27 (nI r) (nI k + 1) s := fun hno => by
          rw [nI_1]
          refine ih2 s ⟨⟨a, b, by rw [c, cnt, hno]; rfl, fun k' hk' hh => ?_, e, f⟩, h23⟩
          by_cases q : k' = k
          · rw [q, hno] at hh; cases hh
          · exact d k' (by omega) hh
        have hsF : ¬ (p.ro (p.U k) ≤ r ∧ r ≤ p.ro (p.U k) + p.nb k) → p.hs r k = false := fun q => by
          cases hq : p.hs r k
          · rfl
          · exact absurd (hs_iff.mp hq) q
        refine h27 _ _ _ ⟨fun q => absurd (leN h6s q (by omega) (by omega)) (by omega), fun _ => ⟨in256 (by omega), ?_⟩⟩
        rw [cl (by omega : k < 2 ^ 31), (hP.2.2.1 k hk).1, cl (by omega : p.U k < 2 ^ 31), hP.2.2.2.2.1 _ l1 l3]
        refine ⟨in16 l1, fun v4 e4 => ?_⟩
        rcases Nat.lt_or_ge r (p.ro (p.U k)) with q | q
        · refine ⟨fun _ => none (hsF (by omega)), fun z => absurd ?_ z⟩
          rw [e4]; exact pk_sneg (by omega) q
        · rw [pk_sub (by omega)] at e4
          rw [e4]
          refine ⟨fun z => absurd z (nI_pos (by omega)), fun _ => sp_bendsP hp hP hk ⟨fun z => none (hsF ?_), fun z => ?_⟩⟩
          · rw [nI_ltI (by omega) (by omega)] at z; omega
          · rw [nI_ltI (by omega) (by omega)] at z
            have hh : p.hs r k = true := hs_iff.mpr ⟨q, by omega⟩
            have hlt : p.ps r + cnt k (p.hs r) < p.ps (r + 1) := by
              rw [ps_s]; have := cnt_lt_of hk hh
              unfold Pn.pc; omega
            have hps := ps_n (p := p) (r := r + 1)
            refine sp_pointOf hp hP hk (by omega) ?_
            rw [c, cl (by omega : p.ps r + cnt k (p.hs r) < 2 ^ 31)]
            refine ⟨in406 (by omega), fun σ9 e9 => ?_⟩
            have of9 : OF s σ9 := by rw [e9]; exact OF.st (Or.inl (by omega))
            have c9 : σ9 0 11 = nI (p.ps r + cnt k (p.hs r)) := by rw [e9, st_ne (by decide)]; exact c
            rw [nI_1]
            refine sp_pointOf hp (hP.of of9) hk (by omega) ?_
            rw [c9, cl (by omega : p.ps r + cnt k (p.hs r) < 2 ^ 31)]
            refine ⟨in406 (by omega), fun σ12 e12 σ13 e13 => ?_⟩
            rw [nI_1]
            have x21 : ∀ j, σ13 21 j = if j = p.ps r + cnt k (p.hs r) then nI (p.fr r k) else s 21 j := fun j => by
              rw [e13, st_ne (by decide), e12, st_ne (by decide), e9, st_app]
              by_cases q : j = p.ps r + cnt k (p.hs r)
              · rw [if_pos ⟨rfl, q⟩, if_pos q]; rfl
              · rw [if_neg (fun z => q z.2), if_neg q]
            have x22 : ∀ j, σ13 22 j = if j = p.ps r + cnt k (p.hs r) then nI (p.tt r k) else s 22 j := fun j => by
              rw [e13, st_ne (by decide), e12, st_app]
              by_cases q : j = p.ps r + cnt k (p.hs r)
              · rw [if_pos ⟨rfl, q⟩, if_pos q]; rfl
              · rw [if_neg (fun z => q z.2), if_neg q, e9, st_ne (by decide)]
            have keep : ∀ b, b ≠ 0 → b ≠ 21 → b ≠ 22 → σ13 b = s b := fun b h0 h1 h2 => by rw [e13, st_ne h0, e12, st_ne h2, e9, st_ne h1]
            refine ih2 σ13 ⟨⟨fun b' h0 h1 h2 h3 => by rw [keep b' h0 h1 h2]; exact a b' h0 h1 h2 h3, fun j hj => by rw [e13, st_other hj, e12, st_ne (by decide), e9, st_ne (by decide)]; exact b j hj, ?_, fun k' hk' hh' => ?_, fun r' k' hr' hk' hh' => ?_, fun r' hr' => by rw [keep 23 (by decide) (by decide) (by decide)]; exact f r' hr'⟩, by rw [keep 23 (by decide) (by decide) (by decide)]; exact h23⟩
            · rw [e13, st_same, e12, st_ne (by decide), c9, nI_1, cnt, if_pos hh]; rfl
            · rw [x21, x22]
              by_cases q : k' = k
              · subst q; rw [if_pos rfl, if_pos rfl]; exact ⟨rfl, rfl⟩
              · have := cnt_lt_of (show k' < k by omega) hh'
                rw [if_neg (by omega), if_neg (by omega)]; exact d k' (by omega) hh'
            · have h1 := ps_mono (p := p) (show r' + 1 ≤ r by omega)
              rw [ps_s] at h1
              have h2 := cnt_lt_of hk' hh'
              have h3 : p.pc r' = cnt p.n (p.hs r') := rfl
              rw [x21, x22, if_neg (by omega), if_neg (by omega)]; exact e r' k' hr' hk' hh'
    refine h7 _ _ ⟨fun c => absurd (leN h9s c (by omega) (by omega)) (by omega), fun _ => ⟨in17 (by omega), fun σ3 e3 => ?_⟩⟩
    rw [cl (by omega : r < 2 ^ 31)] at e3
    obtain ⟨a, b, c, d, e, f⟩ := hI
    refine inner 0 σ3 (Nat.zero_le _) ⟨⟨fun b' h0 h1 h2 h3 => by rw [e3, st_ne h3]; exact a b' h0 h1 h2 h3, fun k hk => by rw [e3, st_ne (by decide)]; exact b k hk, by rw [e3, st_ne (by decide)]; exact c, fun i hi => absurd hi (by omega), fun r' k' hr' hk' hh => by rw [e3, st_ne (by decide), st_ne (by decide)]; exact e r' k' hr' hk' hh, fun r' hr' => by rw [e3, st_other (by omega)]; exact f r' hr'⟩, ?_⟩
    rw [e3, st_same, c]; rfl
/-- what the order holds while it works: M says which item stands where -/
def CO (p : Pn) (M : Nat → Nat → Nat) (σ : S0) : Prop := PLp p σ ∧ σ 0 9 = nI p.R ∧ σ 0 10 = nI (p.rs p.R) ∧ (∀ r, r ≤ p.R → σ 20 r = nI (p.rs r)) ∧ (∀ r, r ≤ p.R → σ 23 r = nI (p.ps r)) ∧ (∀ r k, r < p.R → k < p.n → p.hs r k = true → σ 21 (p.ps r + cnt k (p.hs r)) = nI (p.fr r k) ∧ σ 22 (p.ps r + cnt k (p.hs r)) = nI (p.tt r k)) ∧ (∀ r j, r < p.R → j < p.cr r → σ 18 (p.rs r + j) = nI (M r j)) ∧ ∀ i, i < p.N → p.ir i < p.R → σ 16 i = nI (p.pl M i)
def Pn.cz (p : Pn) (M : Nat → Nat → Nat) (r k k' : Nat) : Bool := decide ((p.pl M (p.fr r k) < p.pl M (p.fr r k') ∧ p.pl M (p.tt r k') < p.pl M (p.tt r k)) ∨ (p.pl M (p.fr r k') < p.pl M (p.fr r k) ∧ p.pl M (p.tt r k) < p.pl M (p.tt r k')))
def Pn.xg (p : Pn) (M : Nat → Nat → Nat) (r : Nat) : Nat := sumN p.n (fun k => if p.hs r k = true then sumN k (fun k' => if p.hs r k' = true then i1 (p.cz M r k k') else 0) else 0)
def Pn.xc (p : Pn) (M : Nat → Nat → Nat) : Nat := sumN p.R (p.xg M)
theorem dif_toInt {a b : Nat} (ha : a < 166) (hb : b < 166) : (nI a - nI b).toInt = (a : Int) - b := pk_sub_toInt (by omega) (by omega)
theorem prod_neg {a b c d : Nat} (ha : a < 166) (hb : b < 166) (hc : c < 166) (hd : d < 166) : ¬ (0 : Int32) ≤ (nI a - nI b) * (nI c - nI d) ↔ (a < b ∧ d < c) ∨ (b < a ∧ c < d) := by
  have z : (0 : Int32).toInt = 0 := by decide
  have e : ((nI a - nI b) * (nI c - nI d)).toInt = ((a : Int) - b) * ((c : Int) - d) := by
    rw [Int32.toInt_mul, dif_toInt ha hb, dif_toInt hc hd]
    have h1 : ((a : Int) - b) * ((c : Int) - d) ≤ 165 * 165 := by
      have := Int.natAbs_mul ((a : Int) - b) ((c : Int) - d)
      have x1 : ((a : Int) - b).natAbs ≤ 165 := by omega
      have x2 : ((c : Int) - d).natAbs ≤ 165 := by omega
      have := Nat.mul_le_mul x1 x2
      omega
    have h2 : -(165 * 165) ≤ ((a : Int) - b) * ((c : Int) - d) := by
      have := Int.natAbs_mul ((a : Int) - b) ((c : Int) - d)
      have x1 : ((a : Int) - b).natAbs ≤ 165 := by omega
      have x2 : ((c : Int) - d).natAbs ≤ 165 := by omega
      have := Nat.mul_le_mul x1 x2
      omega
    rw [Int.bmod_eq_of_le] <;> omega
  rw [Int32.le_iff_toInt_le, e, z]
  constructor
  · intro h
    rcases Nat.lt_trichotomy a b with q | q | q
    · refine Or.inl ⟨q, ?_⟩
      refine Nat.lt_of_not_le (fun q2 => h ?_)
      exact Int.mul_nonneg_of_nonpos_of_nonpos (by omega) (by omega)
    · refine absurd ?_ h
      rw [show (a : Int) - b = 0 by omega, Int.zero_mul]; exact Int.le_refl _
    · refine Or.inr ⟨q, ?_⟩
      refine Nat.lt_of_not_le (fun q2 => h ?_)
      exact Int.mul_nonneg (by omega) (by omega)
  · rintro (⟨h1, h2⟩ | ⟨h1, h2⟩)
    · have := Int.mul_neg_of_neg_of_pos (show (a : Int) - b < 0 by omega) (show 0 < (c : Int) - d by omega)
      omega
    · have := Int.mul_neg_of_pos_of_neg (show 0 < (a : Int) - b by omega) (show (c : Int) - d < 0 by omega)
      omega
def Pn.kx (p : Pn) (r a : Nat) : Nat := nthx (p.hs r) p.n a
theorem kx_ok {r a : Nat} (ha : a < p.pc r) : p.kx r a < p.n ∧ p.hs r (p.kx r a) = true ∧ cnt (p.kx r a) (p.hs r) = a := nthx_ok p.n ha
theorem kx_cnt {r k : Nat} (hk : k < p.n) (hh : p.hs r k = true) : p.kx r (cnt k (p.hs r)) = k := nthx_cnt hk hh
theorem CO.piece {M : Nat → Nat → Nat} (h : CO p M σ) {r a : Nat} (hr : r < p.R) (ha : a < p.pc r) : σ 21 (p.ps r + a) = nI (p.fr r (p.kx r a)) ∧ σ 22 (p.ps r + a) = nI (p.tt r (p.kx r a)) := by
  obtain ⟨h1, h2, h3⟩ := kx_ok ha
  have := h.2.2.2.2.2.1 r _ hr h1 h2
  rw [h3] at this; exact this
/-- what is known of the a-th piece's ends -/
theorem CO.ends (hp : PK p) {M : Nat → Nat → Nat} (hM : PM p M) (h : CO p M σ) {r a : Nat} (hr : r < p.R) (ha : a < p.pc r) : (p.fr r (p.kx r a) < 166 ∧ p.tt r (p.kx r a) < 166) ∧ (σ 16 (p.fr r (p.kx r a)) = nI (p.pl M (p.fr r (p.kx r a))) ∧ σ 16 (p.tt r (p.kx r a)) = nI (p.pl M (p.tt r (p.kx r a)))) ∧ p.pl M (p.fr r (p.kx r a)) < 166 ∧ p.pl M (p.tt r (p.kx r a)) < 166 := by
  obtain ⟨h1, h2, h3⟩ := kx_ok ha
  obtain ⟨⟨f1, f2, f3⟩, t1, t2, t3⟩ := hp.fr_ok h1 h2
  have hN := hp.N166
  have hpl := h.2.2.2.2.2.2.2
  exact ⟨⟨by omega, by omega⟩, ⟨hpl _ f1 (by omega), hpl _ t1 (by omega)⟩, hp.pl166 hM f1 (by omega), hp.pl166 hM t1 (by omega)⟩
theorem sp_countCrossed (hp : PK p) {M : Nat → Nat → Nat} (hM : PM p M) (h : CO p M σ) {r a : Nat} (hr : r < p.R) (ha : a < p.pc r) {post : Int32 → S0 → Prop} (hq : post (nI (sumN (p.pc r) (fun b => if a < b then i1 (p.cz M r (p.kx r b) (p.kx r a)) else 0))) σ) : Sp_O_countCrossed (nI (p.ps r + a)) (nI (p.ps (r + 1))) σ post := by
  have hn := hp.n120
  have h150 := hp.fb150 (Nat.le_refl _)
  have hps := ps_n (p := p) (r := r + 1)
  rw [ps_s] at hps
  unfold Sp_O_countCrossed
  intro G33 h33
  obtain ⟨pa1, pa2⟩ := h.piece hr ha
  obtain ⟨⟨a1, a2⟩, ⟨a3, a4⟩, a5, a6⟩ := h.ends hp hM hr ha
  rw [cl (by omega : p.ps r + a < 2 ^ 31), pa1, pa2, cl (by omega : p.fr r (p.kx r a) < 2 ^ 31), cl (by omega : p.tt r (p.kx r a) < 2 ^ 31), a3, a4, nI_1]
  refine ⟨in406 (by omega), in166 a1, fun v1 e1 => ⟨in406 (by omega), in166 a2, fun v2 e2 v3 e3 => ?_⟩⟩
  rw [e1, e2, e3]
  have z : sumN (a + 1) (fun b => if a < b then i1 (p.cz M r (p.kx r b) (p.kx r a)) else 0) = 0 := sumN_0 _ (fun k hk => if_neg (by omega))
  have e0 : (0 : Int32) = nI (sumN (a + 1) (fun b => if a < b then i1 (p.cz M r (p.kx r b) (p.kx r a)) else 0)) := by rw [z]; rfl
  rw [e0]
  refine upto (p.pc r) (fun b (_ : Unit) => G33 (nI (p.ps (r + 1))) (nI (p.pl M (p.fr r (p.kx r a)))) (nI (p.pl M (p.tt r (p.kx r a)))) (nI (sumN b (fun b => if a < b then i1 (p.cz M r (p.kx r b) (p.kx r a)) else 0))) (nI (p.ps r + b)) σ) (fun b _ => a < b) (fun _ _ => ?_) (fun b _ hb hab ih => ?_) (a + 1) () (by omega) (by omega)
  · exact h33 _ _ _ _ _ _ ⟨fun _ => hq, fun c => absurd (by rw [ps_s]; exact nI_le (Nat.le_refl _) (by omega)) c⟩
  · have ih := ih () (by omega)
    rw [sumN, if_pos hab] at ih
    obtain ⟨pb1, pb2⟩ := h.piece hr hb
    obtain ⟨⟨b1, b2⟩, ⟨b3, b4⟩, b5, b6⟩ := h.ends hp hM hr hb
    refine h33 _ _ _ _ _ _ ⟨fun c => absurd ((nI_leI (by rw [ps_s]; omega) (by omega)).mp c) (by rw [ps_s]; omega), fun _ => ?_⟩
    rw [cl (by omega : p.ps r + b < 2 ^ 31), pb1, pb2, cl (by omega : p.fr r (p.kx r b) < 2 ^ 31), cl (by omega : p.tt r (p.kx r b) < 2 ^ 31), b3, b4, nI_1]
    refine ⟨in406 (by omega), in166 b1, in406 (by omega), in166 b2, fun c => ?_, fun c => ?_⟩
    · have e : p.cz M r (p.kx r b) (p.kx r a) = false := by
        refine decide_eq_false (fun q => ?_)
        have := (prod_neg b5 a5 b6 a6).mpr q
        exact this c
      rw [e] at ih; exact ih
    · have e : p.cz M r (p.kx r b) (p.kx r a) = true := decide_eq_true ((prod_neg b5 a5 b6 a6).mp c)
      rw [e] at ih
      rw [nI_1]; exact ih
theorem xg_eq {M : Nat → Nat → Nat} {r : Nat} : sumN (p.pc r) (fun a => sumN (p.pc r) (fun b => if a < b then i1 (p.cz M r (p.kx r b) (p.kx r a)) else 0)) = p.xg M r := by
  rw [sumN_comm]
  have e1 : ∀ b, b < p.pc r → sumN (p.pc r) (fun a => if a < b then i1 (p.cz M r (p.kx r b) (p.kx r a)) else 0) = sumN b (fun a => i1 (p.cz M r (p.kx r b) (p.kx r a))) := fun b hb => by
    rw [sumN_pad (a := b) (by omega) (fun k h1 _ => if_neg (by omega))]
    exact sumN_congr b (fun k hk => if_pos hk)
  rw [sumN_congr (p.pc r) e1]
  show sumN (cnt p.n (p.hs r)) _ = _
  rw [sumN_cnt]
  refine sumN_congr p.n (fun k hk => ?_)
  by_cases q : p.hs r k = true
  · rw [if_pos q, if_pos q, kx_cnt hk q, sumN_cnt]
    refine sumN_congr k (fun k' hk' => ?_)
    by_cases q' : p.hs r k' = true
    · rw [if_pos q', if_pos q', kx_cnt (by omega) q']
    · rw [if_neg q', if_neg q']
  · rw [if_neg q, if_neg q]
theorem sp_countCrossings (hp : PK p) {M : Nat → Nat → Nat} (hM : PM p M) (h : CO p M σ) {post : Int32 → S0 → Prop} (hq : post (nI (p.xc M)) σ) : Sp_O_countCrossings σ post := by
  have hn := hp.n120
  have hR := hp.R16
  have h150 := hp.fb150 (Nat.le_refl _)
  have h9 := h.2.1
  have h23 := h.2.2.2.2.1
  unfold Sp_O_countCrossings
  intro G4 G19 h4 h19
  refine upto p.R (fun r (_ : Unit) => G4 (nI (sumN r (p.xg M))) (nI r) σ) (fun _ _ => True) (fun _ _ => ?_) (fun r _ hr _ ih => ?_) 0 () (Nat.zero_le _) trivial
  · exact h4 _ _ _ ⟨fun _ => hq, fun c => absurd (by rw [h9]; exact nI_le (Nat.le_refl _) (by omega)) c⟩
  · have ih := ih () trivial
    have hps := ps_n (p := p) (r := r + 1)
    rw [ps_s] at hps
    rw [sumN, ← xg_eq] at ih
    refine h4 _ _ _ ⟨fun c => absurd (leN h9 c (by omega) (by omega)) (by omega), fun _ => ⟨in17 (by omega), fun v1 e1 => ?_⟩⟩
    rw [e1, cl (by omega : r < 2 ^ 31), h23 r (by omega)]
    refine upto (p.pc r) (fun a (_ : Unit) => G19 (nI (sumN r (p.xg M) + sumN a (fun a => sumN (p.pc r) (fun b => if a < b then i1 (p.cz M r (p.kx r b) (p.kx r a)) else 0)))) (nI r) (nI (p.ps r + a)) σ) (fun _ _ => True) (fun _ _ => ?_) (fun a _ ha _ ih2 => ?_) 0 () (Nat.zero_le _) trivial
    · refine h19 _ _ _ _ ?_
      rw [nI_1, cl (by omega : r + 1 < 2 ^ 31), h23 (r + 1) (by omega)]
      exact ⟨in17 (by omega), fun _ => ih, fun c => absurd (by rw [ps_s]; exact nI_le (Nat.le_refl _) (by omega)) c⟩
    · have ih2 := ih2 () trivial
      rw [sumN] at ih2
      refine h19 _ _ _ _ ?_
      rw [nI_1, cl (by omega : r + 1 < 2 ^ 31), h23 (r + 1) (by omega)]
      refine ⟨in17 (by omega), fun c => absurd ((nI_leI (by rw [ps_s]; omega) (by omega)).mp c) (by rw [ps_s]; omega), fun _ => ⟨in17 (by omega), sp_countCrossed hp hM h hr ha (fun v4 e4 => ?_)⟩⟩
      rw [e4, nI_add, nI_1, Nat.add_assoc]; exact ih2
end
