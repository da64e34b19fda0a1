/-! The reference writes the drawing. -/
def Pn.mk (p : Pn) (B : Nat → Nat → Nat) (i : Nat) : Nat := sumN p.R (fun r => if p.rs r ≤ i ∧ i < p.rs (r + 1) then B r (i - p.rs r) else 0)
def Pn.isg (p : Pn) (B : Nat → Nat → Nat) (i : Nat) : Bool := decide (p.mk B i < 16)
def Pn.lo (p : Pn) (k : Nat) : Nat := 4 * cnt 16 p.dr + 6 * k + 2 * p.fb k
/-- the groups' part of the drawing, for the first m marks -/
def CG (p : Pn) (B : Nat → Nat → Nat) (m : Nat) (τ : S0) : Prop := ∀ i, i < m → p.isg B i = true → τ 20 (4 * cnt i (p.isg B)) = 1 ∧ τ 20 (4 * cnt i (p.isg B) + 1) = nI (p.mk B i) ∧ τ 20 (4 * cnt i (p.isg B) + 2) = nI (16 * p.pl B (p.mk B i)) ∧ τ 20 (4 * cnt i (p.isg B) + 3) = nI (16 * p.ir (p.mk B i))
/-- the links' part, for the first k links -/
def CL (p : Pn) (B : Nat → Nat → Nat) (k : Nat) (τ : S0) : Prop := ∀ k', k' < k → τ 20 (p.lo k') = 2 ∧ τ 20 (p.lo k' + 1) = nI (p.nb k' + 2) ∧ ∀ j, j ≤ p.nb k' + 1 → τ 20 (p.lo k' + 2 + 2 * j) = nI (16 * p.pl B (p.pt k' j)) ∧ τ 20 (p.lo k' + 3 + 2 * j) = nI (16 * p.ir (p.pt k' j))
section
variable {p : Pn} {σ τ : S0} {B : Nat → Nat → Nat}
theorem mk_at {r j : Nat} (hr : r < p.R) (hj : j < p.cr r) : p.mk B (p.rs r + j) = B r j := by
  unfold Pn.mk
  rw [sumN_one (j := r) p.R hr (fun r' _ hne => if_neg ?_), if_pos ⟨by omega, by rw [rs_s]; omega⟩, show p.rs r + j - p.rs r = j by omega]
  rintro ⟨h1, h2⟩
  rcases Nat.lt_or_ge r' r with q | q
  · have := rs_mono (p := p) (show r' + 1 ≤ r by omega); omega
  · have := rs_mono (p := p) (show r + 1 ≤ r' by omega)
    rw [rs_s] at this; omega
theorem mk_ex {i : Nat} (hi : i < p.rs p.R) : ∃ r j, r < p.R ∧ j < p.cr r ∧ i = p.rs r + j := by
  have key : ∀ m, m ≤ p.R → i < p.rs m → ∃ r j, r < p.R ∧ j < p.cr r ∧ i = p.rs r + j := by
    intro m
    induction m with
    | zero => intro _ h; have e : p.rs 0 = 0 := rfl
              rw [e] at h; omega
    | succ m ih =>
      intro hm h
      rcases Nat.lt_or_ge i (p.rs m) with q | q
      · exact ih (by omega) q
      · rw [rs_s] at h
        exact ⟨m, i - p.rs m, by omega, by omega, by omega⟩
  exact key p.R (Nat.le_refl _) hi
theorem mk_ok (hB : PM p B) {i : Nat} (hi : i < p.rs p.R) : p.mk B i < p.N ∧ p.ir (p.mk B i) < p.R := by
  obtain ⟨r, j, hr, hj, e⟩ := mk_ex hi
  rw [e, mk_at hr hj]
  have := pl_eq hB hr hj
  exact ⟨this.1, by rw [this.2.1]; exact hr⟩
/-- as many groups among the marks as are drawn -/
theorem isg_cnt (hp : PK p) (hB : PM p B) : cnt (p.rs p.R) (p.isg B) = cnt 16 p.dr := by
  have hR := hp.R16
  have hN : 16 ≤ p.N := by unfold Pn.N; omega
  rw [cnt_sum]
  show sumN (sumN p.R p.cr) _ = _
  rw [sumN_block]
  have e1 : ∀ r, r < p.R → sumN (p.cr r) (fun j => i1 (p.isg B (sumN r p.cr + j))) = sumN p.N (fun i => i1 (p.it r i && decide (i < 16))) := fun r hr => by
    rw [← cnt_sum p.N, ← (hB r hr).count (fun i hi => it_lt hi) (fun i => decide (i < 16)), cnt_sum]
    refine sumN_congr _ (fun j hj => ?_)
    show i1 (decide (p.mk B (p.rs r + j) < 16)) = _
    rw [mk_at hr hj]
  rw [sumN_congr p.R e1, sumN_comm, cnt_sum]
  have e2 : ∀ i, i < p.N → sumN p.R (fun r => i1 (p.it r i && decide (i < 16))) = if i < 16 then i1 (p.dr i) else 0 := fun i hi => by
    by_cases q : i < 16
    · rw [if_pos q]
      cases hd : p.dr i
      · refine sumN_0 _ (fun r hr => if_neg (fun z => ?_))
        rw [Bool.and_eq_true] at z
        have := (it_iff.mp z.1).2
        rw [ir_n q hd] at this; omega
      · have hro := hp.2.2.2.1 i q hd
        rw [sumN_one (j := p.ro i) p.R hro (fun r _ hne => if_neg (fun z => ?_))]
        · rw [it_iff.mpr ⟨hi, ir_g q hd⟩, decide_eq_true q]; rfl
        · rw [Bool.and_eq_true] at z
          have := (it_iff.mp z.1).2
          rw [ir_g q hd] at this; exact hne this.symm
    · rw [if_neg q]
      exact sumN_0 _ (fun r hr => if_neg (by rw [decide_eq_false q, Bool.and_false]; decide))
  rw [sumN_congr p.N e2, sumN_pad hN (fun k h1 _ => if_neg (by omega))]
  exact sumN_congr 16 (fun k hk => if_pos hk)
theorem lo_s {k : Nat} : p.lo (k + 1) = p.lo k + 6 + 2 * p.nb k := by unfold Pn.lo; rw [fb_s]; omega
theorem lo_mono {a b : Nat} (h : a ≤ b) : p.lo a ≤ p.lo b := by have := fb_mono (p := p) h; unfold Pn.lo; omega
theorem PK.lo1084 (hp : PK p) {k : Nat} (hk : k ≤ p.n) : p.lo k ≤ 1084 := by
  have := hp.fb150 hk
  have := hp.n120
  have : cnt 16 p.dr ≤ 16 := cnt_le 16
  unfold Pn.lo; omega
theorem CG.same {m : Nat} {s s' : S0} (h : CG p B m s) (f : ∀ x, x < 4 * cnt m (p.isg B) → s' 20 x = s 20 x) : CG p B m s' := fun i hi hg => by
  have := cnt_lt_of hi hg
  rw [f _ (by omega), f _ (by omega), f _ (by omega), f _ (by omega)]; exact h i hi hg
theorem CL.same {k : Nat} {s s' : S0} (h : CL p B k s) (f : ∀ x, x < p.lo k → s' 20 x = s 20 x) : CL p B k s' := fun k' hk' => by
  have h1 := lo_mono (p := p) (show k' + 1 ≤ k by omega)
  rw [lo_s] at h1
  obtain ⟨a, b, c⟩ := h k' hk'
  exact ⟨by rw [f _ (by omega)]; exact a, by rw [f _ (by omega)]; exact b, fun j hj => by rw [f _ (by omega), f _ (by omega)]; exact c j hj⟩
/-- only the commands and their number have changed -/
def WR (τ τ' : S0) : Prop := (∀ b, b ≠ 0 → b ≠ 20 → τ' b = τ b) ∧ ∀ i, i ≠ 6 → τ' 0 i = τ 0 i
theorem WR.rf (τ : S0) : WR τ τ := ⟨fun _ _ _ => rfl, fun _ _ => rfl⟩
theorem WR.trans {a b c : S0} (h1 : WR a b) (h2 : WR b c) : WR a c := ⟨fun k h h' => (h2.1 k h h').trans (h1.1 k h h'), fun k h => (h2.2 k h).trans (h1.2 k h)⟩
theorem sp_put {z : Nat} {v : Int32} (hz : z < 1500) (h6 : τ 0 6 = nI z) {post : S0 → Prop} (h : ∀ τ', WR τ τ' → τ' 0 6 = nI (z + 1) → τ' 20 z = v → (∀ x, x < z → τ' 20 x = τ 20 x) → post τ') : Sp_R_put v τ post := by
  unfold Sp_R_put
  rw [h6, cl (by omega : z < 2 ^ 31)]
  refine ⟨vp_in_nI hz (by omega), fun σ1 e1 σ2 e2 => h σ2 ⟨fun b h0 h20 => by rw [e2, st_ne h0, e1, st_ne h20], fun i hi => by rw [e2, st_other hi, e1, st_ne (by decide)]⟩ ?_ ?_ (fun x hx => ?_)⟩
  · rw [e2, st_same, e1, st_ne (by decide), h6, nI_1]
  · rw [e2, st_ne (by decide), e1, st_same]
  · rw [e2, st_ne (by decide), e1, st_other (by omega)]
theorem sp_point {z i : Nat} (hz : z + 1 < 1500) (hi : i < 166) (h6 : τ 0 6 = nI z) {post : S0 → Prop} (h : ∀ τ', WR τ τ' → τ' 0 6 = nI (z + 2) → τ' 20 z = 16 * τ 10 i → τ' 20 (z + 1) = 16 * τ 8 i → (∀ x, x < z → τ' 20 x = τ 20 x) → post τ') : Sp_R_point (nI i) τ post := by
  unfold Sp_R_point
  rw [cl (by omega : i < 2 ^ 31)]
  refine ⟨in166 hi, sp_put (by omega) h6 (fun σ1 w1 s1 v1 o1 => ⟨in166 hi, sp_put hz s1 (fun σ2 w2 s2 v2 o2 => h σ2 (w1.trans w2) s2 (by rw [o2 z (by omega)]; exact v1) ?_ (fun x hx => by rw [o2 x (by omega), o1 x hx]))⟩)⟩
  rw [v2, w1.1 8 (by decide) (by decide)]
/-- what the reference has when it writes -/
def BO (p : Pn) (B : Nat → Nat → Nat) (τ : S0) : Prop := RP p τ ∧ ∀ i, i < p.N → p.ir i < p.R → τ 10 i = nI (p.pl B i)
theorem BO.wr {τ' : S0} (h : BO p B τ) (f : WR τ τ') : BO p B τ' := by
  obtain ⟨⟨a, b, c, d, e, g⟩, i⟩ := h
  exact ⟨⟨by rw [f.2 3 (by decide)]; exact a, by rw [f.2 4 (by decide)]; exact b, by rw [f.2 5 (by decide)]; exact c, fun k hk => by rw [f.1 13 (by decide) (by decide), f.1 14 (by decide) (by decide), f.1 15 (by decide) (by decide)]; exact d k hk, fun i hi => by rw [f.1 8 (by decide) (by decide)]; exact e i hi, fun k j hk hj => by rw [f.1 11 (by decide) (by decide), f.1 12 (by decide) (by decide)]; exact g k j hk hj⟩, fun j hj hr => by rw [f.1 10 (by decide) (by decide)]; exact i j hj hr⟩
theorem rI_in (hp : PK p) {i : Nat} (hr : p.ir i < p.R) : p.rI i = nI (p.ir i) := by unfold Pn.rI; rw [if_neg]; have := hp.R16; omega
theorem BO.pnt (hp : PK p) (h : BO p B τ) {i : Nat} (hi : i < p.N) (hr : p.ir i < p.R) : 16 * τ 10 i = nI (16 * p.pl B i) ∧ 16 * τ 8 i = nI (16 * p.ir i) := by
  rw [h.2 i hi hr, h.1.2.2.2.2.1 i hi, rI_in hp hr, mul16, mul16]; exact ⟨rfl, rfl⟩
theorem BO.grp (hp : PK p) (h : BO p B τ) : ∀ g, g < 16 → p.dr g = true → τ 8 g = nI (p.ro g) := fun g hg hd => by
  have hN : 16 ≤ p.N := by unfold Pn.N; omega
  rw [h.1.2.2.2.2.1 g (by omega), rI_in hp (by rw [ir_g hg hd]; exact hp.2.2.2.1 g hg hd), ir_g hg hd]
theorem PK.pw (hp : PK p) : PW p := ⟨hp.1, hp.2.1, hp.2.2.1, hp.2.2.2.1, hp.2.2.2.2.2⟩
set_option maxHeartbeats 1000000 in
theorem sp_write {T : Nat → Nat → Bool} {Gp : Nat → Nat} {Ph : Nat → Int32} {Hd Th : Nat → Bool} (hp : PK p) (hB : PM p B) (hR : RD T Gp Ph Hd Th τ) (hW : WF T Gp Ph Hd Th) (hd : p.dr = Dr Gp Hd Th) (h : BO p B τ) {post : S0 → Prop} (hpost : ∀ τ', WR τ τ' → τ' 0 6 = nI (p.lo p.n) → CG p B (p.rs p.R) τ' → CL p B p.n τ' → post τ') : Sp_R_write τ post := by
  have h16 := hp.R16
  have hN := hp.N166
  have hN16 : 16 ≤ p.N := by unfold Pn.N; omega
  have h120 := hp.n120
  have lt1 : ∀ m, m < 100 → (nI p.R - 1 < nI m ↔ p.R ≤ m) := fun m hm => by
    rw [Int32.lt_iff_toInt_lt, nI_toInt (by omega), show (1 : Int32) = nI 1 from rfl, pk_sub_toInt (by omega) (by omega)]; omega
  have le166 : ∀ {k : Nat}, k < 2 ^ 31 → ((166 : Int32) ≤ nI k ↔ 166 ≤ k) := fun hk => nI_leI (a := 166) (by omega) hk
  unfold Sp_R_write
  intro G12 G19 G29 G98 G134 h12 h19 h29 h98 h134 σ1 e1
  have w1 : WR τ σ1 := ⟨fun b h0 _ => by rw [e1, st_ne h0], fun i hi => by rw [e1, st_other hi]⟩
  have z1 : σ1 0 6 = 0 := by rw [e1, st_same]
  refine sp_lastRow hp (hR.five (fun b h1 h5 => w1.1 b (by omega) (by omega))) hW hd (h.wr w1).1.2.2.2.2.1 ?_
  -- the links
  have links : ∀ s, WR τ s → s 0 6 = nI (p.lo 0) → CG p B (p.rs p.R) s → G98 0 s := by
    intro s0 ws s6 sg
    have lim : 4 * cnt (p.rs p.R) (p.isg B) ≤ p.lo 0 := by rw [isg_cnt hp hB]; unfold Pn.lo; omega
    refine upto p.n (fun k s => G98 (nI k) s) (fun k s => WR τ s ∧ s 0 6 = nI (p.lo k) ∧ CG p B (p.rs p.R) s ∧ CL p B k s) (fun s hI => ?_) (fun k s hk hI ih => ?_) 0 s0 (Nat.zero_le _) ⟨ws, s6, sg, fun k' hk' => absurd hk' (by omega)⟩
    · obtain ⟨i1, i2, i3, i4⟩ := hI
      exact h98 _ _ ⟨fun _ => hpost s i1 i2 i3 i4, fun c => absurd (by rw [(h.wr i1).1.2.2.1]; exact nI_le (Nat.le_refl _) (by omega)) c⟩
    · obtain ⟨i1, i2, i3, i4⟩ := hI
      have b1 := h.wr i1
      have hl := hp.lo1084 (show k + 1 ≤ p.n by omega)
      have hl0 := lo_mono (p := p) (show 0 ≤ k by omega)
      rw [lo_s] at hl
      have h14 := hp.nb14 hk
      obtain ⟨l1, l2, l3, l4, l5, l6⟩ := hp.link hk
      refine h98 _ _ ⟨fun c => absurd (leN b1.1.2.2.1 c (by omega) (by omega)) (by omega), fun _ => sp_put (by omega) i2 (fun σ4 w4 s4 v4 o4 => ?_)⟩
      have b4 := b1.wr w4
      refine sp_rbends hp.pw b4.1.2.2.2.1 (Nat.le_refl _) (b4.grp hp) hk (sp_put (by omega) s4 (fun σ7 w7 s7 v7 o7 => ⟨in240 (by omega), ?_⟩))
      have b7 := b4.wr w7
      rw [cl (by omega : k < 2 ^ 31), (b7.1.2.2.2.1 k hk).1]
      have pt0 := hp.pt_ok (j := 0) hk (by omega)
      rw [pt_0] at pt0
      refine sp_point (by omega) (by omega) s7 (fun σ8 w8 s8 v8 u8 o8 => ?_)
      have e0 := b7.pnt hp pt0.1 (by omega)
      have inner : ∀ j s, j ≤ p.nb k → (WR τ s ∧ s 0 6 = nI (p.lo k + 2 + 2 * (j + 1)) ∧ CG p B (p.rs p.R) s ∧ CL p B k s ∧ s 20 (p.lo k) = 2 ∧ s 20 (p.lo k + 1) = nI (p.nb k + 2) ∧ ∀ j', j' ≤ j → s 20 (p.lo k + 2 + 2 * j') = nI (16 * p.pl B (p.pt k j')) ∧ s 20 (p.lo k + 3 + 2 * j') = nI (16 * p.ir (p.pt k j'))) → G134 (nI k) (nI j) s := by
        have next : ∀ (j : Nat) (s s' : S0), WR τ s → CG p B (p.rs p.R) s → CL p B k s → s 20 (p.lo k) = 2 → s 20 (p.lo k + 1) = nI (p.nb k + 2) → (∀ j', j' ≤ j → s 20 (p.lo k + 2 + 2 * j') = nI (16 * p.pl B (p.pt k j')) ∧ s 20 (p.lo k + 3 + 2 * j') = nI (16 * p.ir (p.pt k j'))) → j ≤ p.nb k → WR s s' → s' 20 (p.lo k + 2 + 2 * (j + 1)) = 16 * s 10 (p.pt k (j + 1)) → s' 20 (p.lo k + 2 + 2 * (j + 1) + 1) = 16 * s 8 (p.pt k (j + 1)) → (∀ x, x < p.lo k + 2 + 2 * (j + 1) → s' 20 x = s 20 x) → CG p B (p.rs p.R) s' ∧ CL p B k s' ∧ s' 20 (p.lo k) = 2 ∧ s' 20 (p.lo k + 1) = nI (p.nb k + 2) ∧ ∀ j', j' ≤ j + 1 → s' 20 (p.lo k + 2 + 2 * j') = nI (16 * p.pl B (p.pt k j')) ∧ s' 20 (p.lo k + 3 + 2 * j') = nI (16 * p.ir (p.pt k j')) := by
          intro j s s' q1 q2 q3 q4 q5 q6 hj q7 q8 q9 q10
          refine ⟨q2.same (fun x hx => q10 x (by omega)), q3.same (fun x hx => q10 x (by omega)), by rw [q10 _ (by omega)]; exact q4, by rw [q10 _ (by omega)]; exact q5, fun j' hj' => ?_⟩
          by_cases q : j' = j + 1
          · have ptj := hp.pt_ok (j := j + 1) hk (by omega)
            have ej := (h.wr q1).pnt hp ptj.1 (by omega)
            rw [q, q8, show p.lo k + 3 + 2 * (j + 1) = p.lo k + 2 + 2 * (j + 1) + 1 by omega, q9]; exact ej
          · rw [q10 _ (by omega), q10 _ (by omega)]; exact q6 j' (by omega)
        refine upto (p.nb k) (fun j s => G134 (nI k) (nI j) s) _ (fun s hJ => ?_) (fun j s hj hJ ih2 => ?_)
        · obtain ⟨j1, j2, j3, j4, j5, j6, j7⟩ := hJ
          have bj := h.wr j1
          refine h134 _ _ _ (sp_rbends hp.pw bj.1.2.2.2.1 (Nat.le_refl _) (bj.grp hp) hk ⟨fun _ => ⟨in240 (by omega), ?_⟩, fun c => absurd (nI_le (Nat.le_refl _) (by omega)) c⟩)
          rw [cl (by omega : k < 2 ^ 31), (bj.1.2.2.2.1 k hk).2.1, ← pt_e]
          have ptj := hp.pt_ok (j := p.nb k + 1) hk (by omega)
          refine sp_point (by omega) (by omega) j2 (fun σ11 w11 s11 v11 u11 o11 => ?_)
          rw [nI_1]
          obtain ⟨k1, k2, k3, k4, k5⟩ := next (p.nb k) s σ11 j1 j3 j4 j5 j6 j7 (Nat.le_refl _) w11 v11 u11 o11
          refine ih σ11 ⟨j1.trans w11, by rw [s11, lo_s]; congr 1; omega, k1, fun k' hk' => ?_⟩
          by_cases q : k' = k
          · subst q; exact ⟨k3, k4, k5⟩
          · exact k2 k' (by omega)
        · obtain ⟨j1, j2, j3, j4, j5, j6, j7⟩ := hJ
          have bj := h.wr j1
          refine h134 _ _ _ (sp_rbends hp.pw bj.1.2.2.2.1 (Nat.le_refl _) (bj.grp hp) hk ⟨fun c => absurd ((nI_leI (by omega) (by omega)).mp c) (by omega), fun _ => ⟨in240 (by omega), ?_⟩⟩)
          rw [cl (by omega : k < 2 ^ 31), (bj.1.2.2.2.1 k hk).2.2, nI_add, ← pt_b hj]
          have ptj := hp.pt_ok (j := j + 1) hk (by omega)
          refine sp_point (by omega) (by omega) j2 (fun σ12 w12 s12 v12 u12 o12 => ?_)
          rw [nI_1]
          obtain ⟨k1, k2, k3, k4, k5⟩ := next j s σ12 j1 j3 j4 j5 j6 j7 (by omega) w12 v12 u12 o12
          exact ih2 σ12 ⟨j1.trans w12, by rw [s12]; congr 1, k1, k2, k3, k4, k5⟩
      have wt8 : WR τ σ8 := ((i1.trans w4).trans w7).trans w8
      have o : ∀ x, x < p.lo k → σ8 20 x = s 20 x := fun x hx => by rw [o8 x (by omega), o7 x (by omega), o4 x hx]
      refine inner 0 σ8 (Nat.zero_le _) ⟨wt8, by rw [s8], i3.same (fun x hx => o x (by omega)), i4.same o, ?_, ?_, fun j' hj' => ?_⟩
      · rw [o8 _ (by omega), o7 _ (by omega)]; exact v4
      · rw [o8 _ (by omega), v7, show (2 : Int32) = nI 2 from rfl, nI_add]
      · have : j' = 0 := by omega
        subst this
        rw [pt_0]
        refine ⟨?_, ?_⟩
        · rw [show p.lo k + 2 + 2 * 0 = p.lo k + 1 + 1 by omega, v8]; exact e0.1
        · rw [show p.lo k + 3 + 2 * 0 = p.lo k + 1 + 1 + 1 by omega, u8]; exact e0.2
  -- the groups
  let I : Nat → S0 → Prop := fun m s => WR τ s ∧ s 0 6 = nI (4 * cnt m (p.isg B)) ∧ CG p B m s
  have skip : ∀ {m s}, I m s → p.isg B m = false → I (m + 1) s := fun {m s} hI hg => by
    have hc : cnt (m + 1) (p.isg B) = cnt m (p.isg B) := by rw [cnt, hg]; rfl
    refine ⟨hI.1, by rw [hc]; exact hI.2.1, fun i hi hgi => ?_⟩
    by_cases q : i = m
    · rw [q, hg] at hgi; cases hgi
    · exact hI.2.2 i (by omega) hgi
  refine upto p.R (fun r s => G12 (nI p.R - 1) (nI r) s) (fun r s => I (p.rs r) s) (fun s hI => ?_) (fun r s hr hI ih => ?_) 0 σ1 (Nat.zero_le _) ⟨w1, z1, fun i hi => absurd hi (by simp [Pn.rs, sumN])⟩
  · refine h12 _ _ _ ⟨fun _ => links s hI.1 ?_ hI.2.2, fun c => absurd ((lt1 _ (by omega)).mpr (Nat.le_refl _)) c⟩
    rw [hI.2.1, isg_cnt hp hB]; rfl
  · refine h12 _ _ _ ⟨fun c => absurd ((lt1 _ (by omega)).mp c) (by omega), fun _ => ?_⟩
    have hcr : p.cr r ≤ 166 := Nat.le_trans cr_N hN
    have hrs := rs_N (p := p) (r := r + 1)
    rw [rs_s] at hrs
    have cond : ∀ {s : S0}, WR τ s → ∀ g, g < 16 → ∀ q, (s 8 g = nI r ∧ s 10 g = nI q → q < 166 → q < p.cr r ∧ B r q = g) ∧ (q < p.cr r → B r q = g → s 8 g = nI r ∧ s 10 g = nI q) := fun {s} ws g hg q => by
      have bs := h.wr ws
      refine ⟨fun ⟨c1, c2⟩ hq => ?_, fun c1 c2 => ?_⟩
      · rw [bs.1.2.2.2.2.1 g (by omega), rI_row hp (by omega) hr] at c1
        rw [bs.2 g (by omega) (by omega)] at c2
        have hpl := pl_at hB (show g < p.N by omega) (by omega)
        have h6 := hp.pl166 hB (show g < p.N by omega) (by omega)
        rw [nIx (by omega) (by omega)] at c2
        rw [c1, c2] at hpl; exact hpl
      · obtain ⟨a1, a2, a3⟩ := pl_eq hB hr c1
        rw [c2] at a1 a2 a3
        rw [bs.1.2.2.2.2.1 g a1, rI_row hp a1 hr, bs.2 g a1 (by omega), a3]; exact ⟨a2, rfl⟩
    refine upto 166 (fun q s => G19 (nI p.R - 1) (nI r) (nI q) s) (fun q s => I (p.rs r + min q (p.cr r)) s) (fun s hI => ?_) (fun q s hq hI ih2 => ?_) 0 s (Nat.zero_le _) (by rw [Nat.zero_min]; exact hI)
    · refine h19 _ _ _ _ ⟨fun _ => ?_, fun c => absurd ((le166 (by omega)).mpr (by omega)) c⟩
      rw [nI_1]
      rw [Nat.min_eq_right hcr] at hI
      exact ih s hI
    · refine h19 _ _ _ _ ⟨fun c => absurd ((le166 (by omega)).mp c) (by omega), fun _ => ?_⟩
      by_cases qc : q < p.cr r
      · rw [Nat.min_eq_left (by omega)] at hI
        rw [Nat.min_eq_left (by omega)] at ih2
        have emk : p.mk B (p.rs r + q) = B r q := mk_at hr qc
        refine upto 16 (fun g s => G29 (nI p.R - 1) (nI r) (nI q) (nI g) s) (fun g s => (B r q < g → I (p.rs r + q + 1) s) ∧ (¬ B r q < g → I (p.rs r + q) s)) (fun s hJ => ?_) (fun g s hg hJ ih3 => ?_) 0 s (by omega) ⟨fun c => absurd c (by omega), fun _ => hI⟩
        · refine h29 _ _ _ _ _ ⟨fun _ => ?_, fun c => absurd ((le16 (by omega)).mpr (by omega)) c⟩
          rw [nI_1]
          refine ih2 s ?_
          by_cases q1 : B r q < 16
          · exact hJ.1 q1
          · have hz : p.isg B (p.rs r + q) = false := by unfold Pn.isg; rw [emk]; exact decide_eq_false q1
            exact skip (hJ.2 q1) hz
        · have ws : WR τ s := by
            by_cases q1 : B r q < g
            · exact (hJ.1 q1).1
            · exact (hJ.2 q1).1
          have no : ¬ B r q = g → G29 (nI p.R - 1) (nI r) (nI q) (nI g + 1) s := fun hne => by
            rw [nI_1]
            exact ih3 s ⟨fun c => hJ.1 (by omega), fun c => hJ.2 (by omega)⟩
          refine h29 _ _ _ _ _ ⟨fun c => absurd ((le16 (by omega)).mp c) (by omega), fun _ => ⟨in166 (by omega), ?_⟩⟩
          rw [cl (by omega : g < 2 ^ 31)]
          refine ⟨fun c => no (fun z => c ((cond ws g hg q).2 qc z).1), fun c => ⟨in166 (by omega), fun c2 => ?_, fun c2 => no (fun z => c2 ((cond ws g hg q).2 qc z).2)⟩⟩
          obtain ⟨_, eB⟩ := (cond ws g hg q).1 ⟨c, c2⟩ hq
          obtain ⟨i1, i2, i3⟩ := hJ.2 (by omega)
          have hb : cnt (p.rs r + q) (p.isg B) ≤ p.rs r + q := cnt_le _
          have hg1 : p.isg B (p.rs r + q) = true := by unfold Pn.isg; rw [emk, eB]; exact decide_eq_true hg
          have hc : cnt (p.rs r + q + 1) (p.isg B) = cnt (p.rs r + q) (p.isg B) + 1 := by rw [cnt, if_pos hg1]
          refine sp_put (by omega) i2 (fun σ13 w13 s13 v13 o13 => sp_put (by omega) s13 (fun σ14 w14 s14 v14 o14 => sp_point (by omega) (by omega) s14 (fun σ15 w15 s15 v15 u15 o15 => ?_)))
          rw [nI_1]
          have wa := (i1.trans w13).trans w14
          obtain ⟨pl1, pl2, pl3⟩ := pl_eq hB hr qc
          rw [eB] at pl1 pl2 pl3
          have ej := (h.wr wa).pnt hp pl1 (by omega)
          refine ih3 σ15 ⟨fun _ => ⟨wa.trans w15, by rw [s15, hc]; congr 1, fun i hi hgi => ?_⟩, fun c => absurd (by omega) c⟩
          by_cases qi : i = p.rs r + q
          · rw [qi, emk, eB]
            refine ⟨?_, ?_, ?_, ?_⟩
            · rw [o15 _ (by omega), o14 _ (by omega)]; exact v13
            · rw [o15 _ (by omega)]; exact v14
            · rw [show 4 * cnt (p.rs r + q) (p.isg B) + 2 = 4 * cnt (p.rs r + q) (p.isg B) + 1 + 1 by omega, v15]; exact ej.1
            · rw [show 4 * cnt (p.rs r + q) (p.isg B) + 3 = 4 * cnt (p.rs r + q) (p.isg B) + 1 + 1 + 1 by omega, u15]; exact ej.2
          · have h1 := cnt_lt_of (show i < p.rs r + q by omega) hgi
            have o : ∀ x, x < 4 * cnt (p.rs r + q) (p.isg B) → σ15 20 x = s 20 x := fun x hx => by rw [o15 x (by omega), o14 x (by omega), o13 x hx]
            rw [o _ (by omega), o _ (by omega), o _ (by omega), o _ (by omega)]
            exact i3 i (by omega) hgi
      · rw [Nat.min_eq_right (by omega)] at hI
        rw [Nat.min_eq_right (by omega)] at ih2
        refine upto 16 (fun g (_ : Unit) => G29 (nI p.R - 1) (nI r) (nI q) (nI g) s) (fun _ _ => True) (fun _ _ => ?_) (fun g _ hg _ ih3 => ?_) 0 () (by omega) trivial
        · refine h29 _ _ _ _ _ ⟨fun _ => ?_, fun c => absurd ((le16 (by omega)).mpr (by omega)) c⟩
          rw [nI_1]; exact ih2 s hI
        · have ih3 := ih3 () trivial
          refine h29 _ _ _ _ _ ⟨fun c => absurd ((le16 (by omega)).mp c) (by omega), fun _ => ⟨in166 (by omega), ?_⟩⟩
          rw [cl (by omega : g < 2 ^ 31), nI_1]
          exact ⟨fun _ => ih3, fun c => ⟨in166 (by omega), fun c2 => absurd ((cond hI.1 g hg q).1 ⟨c, c2⟩ hq).1 qc, fun _ => ih3⟩⟩
end
