/-! The reference: last row, first places, crossings. -/
def Pn.pb (p : Pn) (k : Nat) : Nat := sumN k (fun k => p.nb k + 1)
def Pn.pf (p : Pn) (x : Nat) : Nat := sumN p.n (fun k => if p.pb k ≤ x ∧ x < p.pb (k + 1) then p.pt k (x - p.pb k) else 0)
def Pn.pg (p : Pn) (x : Nat) : Nat := sumN p.n (fun k => if p.pb k ≤ x ∧ x < p.pb (k + 1) then p.pt k (x - p.pb k + 1) else 0)
def RO (p : Pn) (M : Nat → Nat → Nat) (τ : S0) : Prop := RP p τ ∧ ∀ i, i < p.N → p.ir i < p.R → τ 9 i = nI (p.pl M i)
def Pn.Y (p : Pn) (M : Nat → Nat → Nat) (x y : Nat) : Bool := decide (p.ir (p.pf x) = p.ir (p.pf y)) && decide ((p.pl M (p.pf x) < p.pl M (p.pf y) ∧ p.pl M (p.pg y) < p.pl M (p.pg x)) ∨ (p.pl M (p.pf y) < p.pl M (p.pf x) ∧ p.pl M (p.pg x) < p.pl M (p.pg y)))
section
variable {p : Pn} {σ τ : S0}
theorem pb_s {k : Nat} : p.pb (k + 1) = p.pb k + (p.nb k + 1) := rfl
theorem pb_mono {j k : Nat} (h : j ≤ k) : p.pb j ≤ p.pb k := sumN_mono h
theorem pb_eq {k : Nat} : p.pb k = p.fb k + k := by
  induction k with
  | zero => rfl
  | succ k ih => rw [pb_s, fb_s, ih]; omega
theorem pb_in {k j k' : Nat} (hj : j ≤ p.nb k) (hne : k' ≠ k) : ¬ (p.pb k' ≤ p.pb k + j ∧ p.pb k + j < p.pb (k' + 1)) := by
  rintro ⟨h1, h2⟩
  rcases Nat.lt_or_ge k' k with q | q
  · have := pb_mono (p := p) (show k' + 1 ≤ k by omega); omega
  · have := pb_mono (p := p) (show k + 1 ≤ k' by omega)
    rw [pb_s] at this; omega
theorem pf_at {k j : Nat} (hk : k < p.n) (hj : j ≤ p.nb k) : p.pf (p.pb k + j) = p.pt k j ∧ p.pg (p.pb k + j) = p.pt k (j + 1) := by
  unfold Pn.pf Pn.pg
  rw [sumN_one (j := k) p.n hk (fun k' _ hne => if_neg (pb_in hj hne)), sumN_one (j := k) p.n hk (fun k' _ hne => if_neg (pb_in hj hne)), if_pos ⟨by omega, by rw [pb_s]; omega⟩, if_pos ⟨by omega, by rw [pb_s]; omega⟩, show p.pb k + j - p.pb k = j by omega]
  exact ⟨rfl, rfl⟩
theorem piece_ex {x : Nat} (hx : x < p.pb p.n) : ∃ k j, k < p.n ∧ j ≤ p.nb k ∧ x = p.pb k + j := by
  have key : ∀ m, m ≤ p.n → x < p.pb m → ∃ k j, k < p.n ∧ j ≤ p.nb k ∧ x = p.pb k + j := by
    intro m
    induction m with
    | zero => intro _ h; have e : p.pb 0 = 0 := rfl
              rw [e] at h; omega
    | succ m ih =>
      intro hm h
      rcases Nat.lt_or_ge x (p.pb m) with q | q
      · exact ih (by omega) q
      · rw [pb_s] at h
        exact ⟨m, x - p.pb m, by omega, by omega, by omega⟩
  exact key p.n (Nat.le_refl _) hx
theorem PK.pb270 (hp : PK p) : p.pb p.n ≤ 270 := by rw [pb_eq]; have := hp.fb150 (Nat.le_refl _); have := hp.n120; omega
theorem pf_ok (hp : PK p) {x : Nat} (hx : x < p.pb p.n) : p.pf x < p.N ∧ p.ir (p.pf x) < p.R ∧ p.pg x < p.N ∧ p.ir (p.pg x) = p.ir (p.pf x) + 1 ∧ p.ir (p.pg x) < p.R := by
  obtain ⟨k, j, hk, hj, e⟩ := piece_ex hx
  rw [e, (pf_at hk hj).1, (pf_at hk hj).2]
  have h1 := hp.pt_ok (j := j) hk (by omega)
  have h2 := hp.pt_ok (j := j + 1) hk (by omega)
  have h3 := hp.link hk
  exact ⟨h1.1, by omega, h2.1, by omega, by omega⟩
theorem RP.piece (h : RP p τ) {x : Nat} (hx : x < p.pb p.n) : τ 11 x = nI (p.pf x) ∧ τ 12 x = nI (p.pg x) := by
  obtain ⟨k, j, hk, hj, e⟩ := piece_ex hx
  rw [e, (pf_at hk hj).1, (pf_at hk hj).2, pb_eq]
  exact h.2.2.2.2.2 k j hk hj
theorem rI_eq (hp : PK p) {i j : Nat} (hi : i < p.N) (hj : j < p.N) : p.rI i = p.rI j ↔ p.ir i = p.ir j := by
  have hR := hp.R16
  have m1 : ∀ a, a < 16 → ¬ (-1 : Int32) = nI a := fun a ha z => by
    have : (-1 : Int32) < 0 := by decide
    rw [z] at this; exact nI_pos (by omega) this
  unfold Pn.rI
  rcases hp.item hi with q1 | ⟨_, _, q1⟩ <;> rcases hp.item hj with q2 | ⟨_, _, q2⟩
  · rw [if_neg (by omega), if_neg (by omega), nIx (by omega) (by omega)]
  · rw [if_neg (by omega), if_pos q2]
    exact ⟨fun z => absurd z.symm (m1 _ (by omega)), fun z => by omega⟩
  · rw [if_pos q1, if_neg (by omega)]
    exact ⟨fun z => absurd z (m1 _ (by omega)), fun z => by omega⟩
  · rw [if_pos q1, if_pos q2, q1, q2]; simp
theorem rI_row (hp : PK p) {i r : Nat} (hi : i < p.N) (hr : r < p.R) : p.rI i = nI r ↔ p.ir i = r := by
  have hR := hp.R16
  unfold Pn.rI
  rcases hp.item hi with q1 | ⟨_, _, q1⟩
  · rw [if_neg (by omega), nIx (by omega) (by omega)]
  · rw [if_pos q1]
    constructor
    · intro z
      have : (-1 : Int32) < 0 := by decide
      rw [z] at this; exact absurd this (nI_pos (by omega))
    · intro z; omega
/-- last row -/
theorem sp_lastRow {T : Nat → Nat → Bool} {Gp : Nat → Nat} {Ph : Nat → Int32} {Hd Th : Nat → Bool} (hp : PK p) (hR : RD T Gp Ph Hd Th τ) (hW : WF T Gp Ph Hd Th) (hd : p.dr = Dr Gp Hd Th) (h8 : ∀ i, i < p.N → τ 8 i = p.rI i) {post : Int32 → S0 → Prop} (h : post (nI p.R - 1) τ) : Sp_R_lastRow τ post := by
  have hN : 16 ≤ p.N := by unfold Pn.N; omega
  have h16 := hp.R16
  have le1 : ∀ a m, a < 16 → m ≤ 16 → (nI a ≤ nI m - 1 ↔ a + 1 ≤ m) := fun a m ha hm => by
    rw [Int32.le_iff_toInt_le, nI_toInt (by omega), show (1 : Int32) = nI 1 from rfl, pk_sub_toInt (by omega) (by omega)]; omega
  have fin : maxN 16 (fun g => if p.dr g = true then p.ro g + 1 else 0) = p.R := by
    refine Nat.le_antisymm (maxN_le 16 (fun g hg => ?_)) ?_
    · by_cases q : p.dr g = true
      · rw [if_pos q]; exact hp.2.2.2.1 g hg q
      · rw [if_neg q]; omega
    · by_cases q : p.R = 0
      · omega
      · obtain ⟨g, hg, h1, h2⟩ := hp.2.2.2.2.2 (p.R - 1) (by omega)
        have := le_maxN (f := fun g => if p.dr g = true then p.ro g + 1 else 0) 16 hg
        rw [if_pos h1] at this; omega
  have bnd : ∀ k, k ≤ 16 → maxN k (fun g => if p.dr g = true then p.ro g + 1 else 0) ≤ 16 := fun k hk => maxN_le k (fun g hg => by
    by_cases q : p.dr g = true
    · rw [if_pos q]; have := hp.2.2.2.1 g (by omega) q; omega
    · rw [if_neg q]; omega)
  unfold Sp_R_lastRow
  intro G4 h4
  refine upto 16 (fun k (_ : Unit) => G4 (nI (maxN k (fun g => if p.dr g = true then p.ro g + 1 else 0)) - 1) (nI k) τ) (fun _ _ => True) (fun _ _ => ?_) (fun k _ hk _ ih => ?_) 0 () (by omega) trivial
  · rw [fin]; exact h4 _ _ _ ⟨fun _ => h, fun c => absurd ((le16 (by omega)).mpr (by omega)) c⟩
  · have ih := ih () trivial
    simp only [maxN] at ih
    have hb := bnd k (by omega)
    refine h4 _ _ _ ⟨fun c => absurd ((le16 (by omega)).mp c) (by omega), fun _ => sp_isDrawn hR hW hk ⟨fun c => ?_, fun c => ⟨in166 (by omega), ?_⟩⟩⟩
    · have e := b2i_0.mp c
      rw [← hd] at e
      rw [e, if_neg (by decide), Nat.max_eq_left (Nat.zero_le _)] at ih
      rw [nI_1]; exact ih
    · have e := b2i_ne c
      rw [← hd] at e
      have hro := hp.2.2.2.1 k hk e
      rw [if_pos e] at ih
      have er : p.rI k = nI (p.ro k) := by unfold Pn.rI; rw [ir_g hk e, if_neg (by omega)]
      rw [cl (by omega : k < 2 ^ 31), h8 k (by omega), er, le1 _ _ (by omega) hb, nI_1]
      refine ⟨fun c2 => ?_, fun c2 => ⟨in166 (by omega), fun v3 e3 => ?_⟩⟩
      · rw [Nat.max_eq_left c2] at ih; exact ih
      · rw [Nat.max_eq_right (by omega), nI_pred] at ih; rw [e3]; exact ih
theorem sp_placeAll (hp : PK p) (h : RP p τ) {post : S0 → Prop} (hpost : ∀ τ', (∀ b, b ≠ 9 → τ' b = τ b) → (∀ i, i < p.N → p.ir i < p.R → τ' 9 i = nI (p.pl p.M0 i)) → post τ') : Sp_R_placeAll τ post := by
  have hN := hp.N166
  have h16 : 16 + nI (p.fb p.n) = nI p.N := by rw [show (16 : Int32) = nI 16 from rfl, nI_add]; rfl
  have h8 := h.2.2.2.2.1
  unfold Sp_R_placeAll
  intro G2 G22 G54 h2 h22 h54
  refine upto p.N (fun x s => G2 (nI x) s) (fun x s => (∀ b, b ≠ 9 → s b = τ b) ∧ ∀ i, i < x → p.ir i < p.R → s 9 i = nI (p.pl p.M0 i)) (fun s hI => ?_) (fun x s hx hI ih => ?_) 0 τ (Nat.zero_le _) ⟨fun _ _ => rfl, fun i hi => absurd hi (by omega)⟩
  · refine h2 _ _ ⟨fun _ => hpost s hI.1 hI.2, fun c => absurd ?_ c⟩
    rw [hI.1 0 (by decide), h.1, h16]; exact nI_le (Nat.le_refl _) (by omega)
  · refine h2 _ _ ⟨fun c => ?_, fun _ => ⟨in166 (by omega), fun σ1 e1 => ?_⟩⟩
    · rw [hI.1 0 (by decide), h.1, h16, nI_leI (by omega) (by omega)] at c; omega
    · rw [cl (by omega : x < 2 ^ 31)] at e1
      refine upto x (fun i s => G22 (nI x) (nI i) s) (fun i s => (∀ b, b ≠ 9 → s b = τ b) ∧ (∀ i, i < x → p.ir i < p.R → s 9 i = nI (p.pl p.M0 i)) ∧ s 9 x = nI (cnt i (fun j => decide (p.ir j = p.ir x)))) (fun s' hJ => ?_) (fun i s' hi hJ ih2 => ?_) 0 σ1 (Nat.zero_le _) ⟨fun b hb => by rw [e1, st_ne hb]; exact hI.1 b hb, fun i hi hir => by rw [e1, st_other (by omega)]; exact hI.2 i hi hir, by rw [e1, st_same]; rfl⟩
      · obtain ⟨j1, j2, j3⟩ := hJ
        refine h22 _ _ _ ⟨fun _ => ?_, fun c => absurd (nI_le (Nat.le_refl _) (by omega)) c⟩
        rw [nI_1]
        refine ih s' ⟨j1, fun i hi hir => ?_⟩
        by_cases q : i = x
        · rw [q, j3, pl_M0 hx]
          refine congrArg nI (cnt_congr (fun k hk => ?_))
          unfold Pn.it
          rw [decide_eq_true (show k < p.N by omega), Bool.true_and]
        · exact j2 i (by omega) hir
      · obtain ⟨j1, j2, j3⟩ := hJ
        refine h22 _ _ _ ⟨fun c => absurd ((nI_leI (by omega) (by omega)).mp c) (by omega), fun _ => ⟨in166 (by omega), in166 (by omega), in166 (by omega), ?_⟩⟩
        rw [cl (by omega : x < 2 ^ 31), cl (by omega : i < 2 ^ 31), j1 8 (by decide), h8 i (by omega), h8 x hx, rI_eq hp (by omega) hx, j3]
        have put : ∀ v : Nat, v = (if decide (p.ir i = p.ir x) = true then 1 else 0) → G54 (nI x) (nI i) (nI x) (nI (cnt i (fun j => decide (p.ir j = p.ir x)))) (nI v) s' := fun v hv => by
          refine h54 _ _ _ _ _ _ ⟨in166 (by omega), fun σ2 e2 => ?_⟩
          rw [cl (by omega : x < 2 ^ 31)] at e2
          rw [nI_1]
          refine ih2 σ2 ⟨fun b hb => by rw [e2, st_ne hb]; exact j1 b hb, fun i' hi' hir => by rw [e2, st_other (by omega)]; exact j2 i' hi' hir, ?_⟩
          rw [e2, st_same, nI_add, hv]; rfl
        exact ⟨fun c => put 0 (by rw [decide_eq_false c]; rfl), fun c => put 1 (by rw [decide_eq_true c]; rfl)⟩
theorem dif_le {a b : Nat} (ha : a < 166) (hb : b < 166) : (0 : Int32) ≤ nI a - nI b ↔ b ≤ a := by
  rw [Int32.le_iff_toInt_le, dif_toInt ha hb, show (0 : Int32).toInt = 0 by decide]; omega
theorem dif_le' {a b : Nat} (ha : a < 166) (hb : b < 166) : nI a - nI b ≤ (0 : Int32) ↔ a ≤ b := by
  rw [Int32.le_iff_toInt_le, dif_toInt ha hb, show (0 : Int32).toInt = 0 by decide]; omega
theorem dif_lt {a b : Nat} (ha : a < 166) (hb : b < 166) : (0 : Int32) < nI a - nI b ↔ b < a := by
  rw [Int32.lt_iff_toInt_lt, dif_toInt ha hb, show (0 : Int32).toInt = 0 by decide]; omega
theorem sp_crossedRaw (hp : PK p) {M : Nat → Nat → Nat} (hM : PM p M) (h : RO p M τ) {post : Int32 → S0 → Prop} (hq : post (nI (sumN (p.pb p.n) (fun x => sumN x (fun y => i1 (p.Y M x y))))) τ) : Sp_R_crossedNow τ post := by
  have hN := hp.N166
  have h270 := hp.pb270
  obtain ⟨hP, h9⟩ := h
  have h4' : τ 0 4 = nI (p.pb p.n) := by rw [pb_eq]; exact hP.2.1
  unfold Sp_R_crossedNow
  intro G4 G14 G108 h4 h14 h108
  refine upto (p.pb p.n) (fun x (_ : Unit) => G4 (nI (sumN x (fun x => sumN x (fun y => i1 (p.Y M x y))))) (nI x) τ) (fun _ _ => True) (fun _ _ => ?_) (fun x _ hx _ ih => ?_) 0 () (Nat.zero_le _) trivial
  · exact h4 _ _ _ ⟨fun _ => hq, fun c => absurd (by rw [h4']; exact nI_le (Nat.le_refl _) (by omega)) c⟩
  · have ih := ih () trivial
    rw [sumN] at ih
    refine h4 _ _ _ ⟨fun c => absurd (leN h4' c (by omega) (by omega)) (by omega), fun _ => ?_⟩
    refine upto x (fun y (_ : Unit) => G14 (nI (sumN x (fun x => sumN x (fun y => i1 (p.Y M x y))) + sumN y (fun y => i1 (p.Y M x y)))) (nI x) (nI y) τ) (fun _ _ => True) (fun _ _ => ?_) (fun y _ hy _ ih2 => ?_) 0 () (Nat.zero_le _) trivial
    · refine h14 _ _ _ _ ⟨fun _ => ?_, fun c => absurd (nI_le (Nat.le_refl _) (by omega)) c⟩
      rw [nI_1]; exact ih
    · have ih2 := ih2 () trivial
      rw [sumN, ← Nat.add_assoc] at ih2
      obtain ⟨x1, x2, x3, x4, x5⟩ := pf_ok hp hx
      obtain ⟨y1, y2, y3, y4, y5⟩ := pf_ok hp (show y < p.pb p.n by omega)
      obtain ⟨px1, px2⟩ := hP.piece hx
      obtain ⟨py1, py2⟩ := hP.piece (show y < p.pb p.n by omega)
      have h8 := hP.2.2.2.2.1
      have a1 := hp.pl166 hM x1 x2
      have a2 := hp.pl166 hM x3 x5
      have b1 := hp.pl166 hM y1 y2
      have b2 := hp.pl166 hM y3 y5
      generalize sumN x (fun x => sumN x (fun y => i1 (p.Y M x y))) + sumN y (fun y => i1 (p.Y M x y)) = acc at ih2 ⊢
      refine h14 _ _ _ _ ⟨fun c => absurd ((nI_leI (by omega) (by omega)).mp c) (by omega), fun _ => ?_⟩
      rw [cl (by omega : x < 2 ^ 31), cl (by omega : y < 2 ^ 31), px1, px2, py1, py2, cl (by omega : p.pf x < 2 ^ 31), cl (by omega : p.pf y < 2 ^ 31), cl (by omega : p.pg x < 2 ^ 31), cl (by omega : p.pg y < 2 ^ 31), h8 _ x1, h8 _ y1, rI_eq hp x1 y1, h9 _ x1 x2, h9 _ y1 y2, h9 _ x3 x5, h9 _ y3 y5, nI_1 y]
      have yes : p.Y M x y = true → G14 (nI acc + 1) (nI x) (nI (y + 1)) τ := fun q => by rw [q] at ih2; rw [nI_1]; exact ih2
      have no : p.Y M x y = false → G14 (nI acc) (nI x) (nI (y + 1)) τ := fun q => by rw [q] at ih2; exact ih2
      refine ⟨in400 (by omega), in166 (by omega), in400 (by omega), in166 (by omega), fun c => ⟨in400 (by omega), in166 (by omega), in400 (by omega), in166 (by omega), fun v1 e1 => ⟨in400 (by omega), in166 (by omega), in400 (by omega), in166 (by omega), fun v2 e2 => ?_⟩⟩, fun c => no (by unfold Pn.Y; rw [decide_eq_false c]; rfl)⟩
      rw [e1, e2]
      have k108 : ¬ (p.pl M (p.pf x) < p.pl M (p.pf y) ∧ p.pl M (p.pg y) < p.pl M (p.pg x)) → G108 (nI x) (nI y) (nI (p.pl M (p.pf x)) - nI (p.pl M (p.pf y))) (nI (p.pl M (p.pg x)) - nI (p.pl M (p.pg y))) (nI acc) τ := fun hno => by
        refine h108 _ _ _ _ _ _ ?_
        rw [dif_le' a1 b1, dif_le a2 b2, nI_1]
        have z0 : nI acc + 0 = nI acc := Int32.add_zero _
        refine ⟨fun c2 v4 e4 => ?_, fun c2 => ⟨fun c3 v5 e5 => ?_, fun c3 v6 e6 => ?_⟩⟩
        · rw [e4, z0]; exact no (by unfold Pn.Y; rw [decide_eq_false (by omega : ¬ ((p.pl M (p.pf x) < p.pl M (p.pf y) ∧ p.pl M (p.pg y) < p.pl M (p.pg x)) ∨ (p.pl M (p.pf y) < p.pl M (p.pf x) ∧ p.pl M (p.pg x) < p.pl M (p.pg y)))), Bool.and_false])
        · rw [e5, z0]; exact no (by unfold Pn.Y; rw [decide_eq_false (by omega : ¬ ((p.pl M (p.pf x) < p.pl M (p.pf y) ∧ p.pl M (p.pg y) < p.pl M (p.pg x)) ∨ (p.pl M (p.pf y) < p.pl M (p.pf x) ∧ p.pl M (p.pg x) < p.pl M (p.pg y)))), Bool.and_false])
        · rw [e6]; exact yes (by unfold Pn.Y; rw [decide_eq_true c, Bool.true_and]; exact decide_eq_true (Or.inr ⟨by omega, by omega⟩))
      rw [dif_le a1 b1, dif_lt a2 b2]
      refine ⟨fun c2 => k108 (by omega), fun c2 => ⟨fun c3 v3 e3 => ?_, fun c3 => k108 (by omega)⟩⟩
      rw [e3]; exact yes (by unfold Pn.Y; rw [decide_eq_true c, Bool.true_and]; exact decide_eq_true (Or.inl ⟨by omega, by omega⟩))
theorem hs_blk {H : Nat → Nat} (hp : PK p) {k : Nat} (hk : k < p.n) : sumN p.R (fun r => if p.hs r k = true then H r else 0) = sumN (p.nb k + 1) (fun j => H (p.ro (p.U k) + j)) := by
  obtain ⟨l1, l2, l3, l4, l5, l6⟩ := hp.link hk
  have e : p.R = p.ro (p.U k) + ((p.nb k + 1) + (p.R - p.ro (p.U k) - (p.nb k + 1))) := by omega
  rw [e, sumN_app, sumN_0 _ (fun r hr => if_neg (fun z => by have := (hs_iff.mp z).1; omega)), sumN_app, sumN_0 (p.R - p.ro (p.U k) - (p.nb k + 1)) (fun j _ => if_neg (fun z => by have := (hs_iff.mp z).2; omega)), Nat.zero_add, Nat.add_zero]
  exact sumN_congr _ (fun j hj => if_pos (hs_iff.mpr ⟨by omega, by omega⟩))
theorem xr_eq (hp : PK p) {M : Nat → Nat → Nat} : sumN (p.pb p.n) (fun x => sumN x (fun y => i1 (p.Y M x y))) = p.xc M := by
  unfold Pn.xc
  have e2 : sumN p.R (p.xg M) = sumN p.n (fun k => sumN p.R (fun r => if p.hs r k = true then sumN k (fun k' => if p.hs r k' = true then i1 (p.cz M r k k') else 0) else 0)) := by
    rw [← sumN_comm]; rfl
  rw [e2]
  show sumN (sumN p.n (fun k => p.nb k + 1)) _ = _
  rw [sumN_block]
  refine sumN_congr p.n (fun k hk => ?_)
  rw [hs_blk hp hk]
  refine sumN_congr _ (fun j hj => ?_)
  show sumN (p.pb k + j) (fun y => i1 (p.Y M (p.pb k + j) y)) = _
  have hpk := hp.pt_ok (j := j) hk (by omega)
  rw [sumN_app, sumN_0 j (fun j' hj' => ?_), Nat.add_zero]
  · show sumN (sumN k (fun k => p.nb k + 1)) _ = _
    rw [sumN_block]
    refine sumN_congr k (fun k' hk' => ?_)
    have hk'n : k' < p.n := by omega
    show sumN (p.nb k' + 1) (fun j' => i1 (p.Y M (p.pb k + j) (p.pb k' + j'))) = _
    have hY : ∀ j', j' < p.nb k' + 1 → p.Y M (p.pb k + j) (p.pb k' + j') = (decide (p.ro (p.U k) + j = p.ro (p.U k') + j') && decide ((p.pl M (p.pt k j) < p.pl M (p.pt k' j') ∧ p.pl M (p.pt k' (j' + 1)) < p.pl M (p.pt k (j + 1))) ∨ (p.pl M (p.pt k' j') < p.pl M (p.pt k j) ∧ p.pl M (p.pt k (j + 1)) < p.pl M (p.pt k' (j' + 1))))) := fun j' hj' => by
      have := hp.pt_ok (j := j') hk'n (by omega)
      unfold Pn.Y
      rw [(pf_at hk (by omega)).1, (pf_at hk (by omega)).2, (pf_at hk'n (by omega)).1, (pf_at hk'n (by omega)).2, hpk.2, this.2]
    by_cases q : p.hs (p.ro (p.U k) + j) k' = true
    · obtain ⟨q1, q2⟩ := hs_iff.mp q
      rw [if_pos q, sumN_one (j := p.ro (p.U k) + j - p.ro (p.U k')) _ (by omega) (fun j' hj' hne => ?_)]
      · rw [hY _ (by omega), decide_eq_true (show p.ro (p.U k) + j = p.ro (p.U k') + (p.ro (p.U k) + j - p.ro (p.U k')) by omega), Bool.true_and]
        unfold Pn.cz Pn.fr Pn.tt
        rw [show p.ro (p.U k) + j - p.ro (p.U k) = j by omega]
      · rw [hY _ hj', decide_eq_false (show ¬ p.ro (p.U k) + j = p.ro (p.U k') + j' by omega)]; rfl
    · rw [if_neg q]
      refine sumN_0 _ (fun j' hj' => ?_)
      have : ¬ p.ro (p.U k) + j = p.ro (p.U k') + j' := fun z => q (hs_iff.mpr ⟨by omega, by omega⟩)
      rw [hY _ hj', decide_eq_false this]; rfl
  · have h1 := hp.pt_ok (j := j') hk (by omega)
    unfold Pn.Y
    rw [(pf_at hk (by omega)).1, (pf_at hk (by omega)).1, hpk.2, h1.2, decide_eq_false (by omega)]; rfl
theorem sp_crossedNow (hp : PK p) {M : Nat → Nat → Nat} (hM : PM p M) (h : RO p M τ) {post : Int32 → S0 → Prop} (hq : post (nI (p.xc M)) τ) : Sp_R_crossedNow τ post := sp_crossedRaw hp hM h (by rw [xr_eq hp]; exact hq)
theorem sp_keep {post : S0 → Prop} (h : ∀ τ', (∀ b, b ≠ 10 → τ' b = τ b) → (∀ i, i < 166 → τ' 10 i = τ 9 i) → post τ') : Sp_R_keep τ post := by
  unfold Sp_R_keep
  intro G2 h2
  have le166 : ∀ {k : Nat}, k < 2 ^ 31 → ((166 : Int32) ≤ nI k ↔ 166 ≤ k) := fun hk => nI_leI (a := 166) (by omega) hk
  refine upto 166 (fun k s => G2 (nI k) s) (fun k s => (∀ b, b ≠ 10 → s b = τ b) ∧ ∀ i, i < k → s 10 i = τ 9 i) (fun s hI => ?_) (fun k s hk hI ih => ?_) 0 τ (Nat.zero_le _) ⟨fun _ _ => rfl, fun i hi => absurd hi (by omega)⟩
  · exact h2 _ _ ⟨fun _ => h s hI.1 hI.2, fun c => absurd ((le166 (by omega)).mpr (by omega)) c⟩
  · refine h2 _ _ ⟨fun c => absurd ((le166 (by omega)).mp c) (by omega), fun _ => ⟨in166 hk, in166 hk, fun σ1 e1 => ?_⟩⟩
    rw [cl (by omega : k < 2 ^ 31)] at e1
    rw [nI_1]
    refine ih σ1 ⟨fun b hb => by rw [e1, st_ne hb]; exact hI.1 b hb, fun i hi => ?_⟩
    rw [e1, st_app]
    by_cases q : i = k
    · rw [if_pos ⟨rfl, q⟩, q, hI.1 9 (by decide)]
    · rw [if_neg (fun z => q z.2)]; exact hI.2 i (by omega)
end
