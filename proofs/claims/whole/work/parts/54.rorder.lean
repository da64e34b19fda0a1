/-! The reference puts a row in order. -/
def Pn.nx (p : Pn) (dn : Bool) (x : Nat) : Nat := if dn = true then p.pg x else p.pf x
def Pn.fx (p : Pn) (dn : Bool) (x : Nat) : Nat := if dn = true then p.pf x else p.pg x
section
variable {p : Pn} {σ τ : S0}
theorem sp_sortR {n : Nat} {L : Nat → Nat} {S : Nat → Bool} (hn : n ≤ 166) (hL : ∀ j, j < n → τ 17 j = nI (L j)) (hP : Prm S n L) (hS : ∀ i, S i = true → i < 166) {lt : Nat → Nat → Bool} (hlt : ∀ x y, S x = true → S y = true → lt x y = decide (¬ τ 18 y * τ 19 x ≤ τ 18 x * τ 19 y)) {post : S0 → Prop}
    (h : ∀ τ', (∀ b, b ≠ 17 → τ' b = τ b) → (∀ j, j < n → τ' 17 j = nI (srt lt n L j)) → post τ') : Sp_R_sort (nI n) τ post := by
  unfold Sp_R_sort
  intro G2 G17 G89 h2 h17 h89
  let I : (Nat → Nat) → S0 → Prop := fun cur t => (∀ b, b ≠ 17 → t b = τ b) ∧ (∀ j, j < n → t 17 j = nI (cur j))
  have put : ∀ {cur : Nat → Nat} {t t' : S0} {j x : Nat}, I cur t → j < n → t' = st t 17 j (nI x) → I (up1 cur j x) t' := fun {cur t t' j x} hI hj e => by
    refine ⟨fun b hb => by rw [e, st_ne hb]; exact hI.1 b hb, fun j' hj' => ?_⟩
    rw [e, st_app]
    unfold up1
    by_cases q : j' = j
    · rw [if_pos ⟨rfl, q⟩, if_pos q]
    · rw [if_neg (fun z => q z.2), if_neg q]; exact hI.2 j' hj'
  by_cases q0 : n = 0
  · subst q0
    exact h2 _ _ _ ⟨fun _ => h τ (fun _ _ => rfl) (fun j hj => absurd hj (by omega)), fun c => absurd (by decide) c⟩
  refine upto n (fun i t => G2 (nI n) (nI i) t) (fun i t => I (srt lt i L) t) (fun t hI => ?_) (fun i t hi hI ih => ?_) 1 τ (by omega) ⟨fun _ _ => rfl, fun j hj => by rw [srt_1]; exact hL j hj⟩
  · exact h2 _ _ _ ⟨fun _ => h t hI.1 hI.2, fun c => absurd (nI_le (by omega) (by omega)) c⟩
  · have hPi := srt_prm (lt := lt) hP i (by omega)
    refine h2 _ _ _ ⟨fun c => absurd ((nI_leI (by omega) (by omega)).mp c) (by omega), fun _ => ⟨in166 (by omega), fun v1 e1 => ?_⟩⟩
    rw [e1, cl (by omega : i < 2 ^ 31), hI.2 i hi]
    have hx := hPi.1 i hi
    have inner : ∀ j cur t, j < n → I cur t → (∀ j', j' < n → S (cur j') = true) → shf lt (srt lt i L i) j cur = srt lt (i + 1) L → G17 (nI n) (nI i) (nI (srt lt i L i)) (nI j) t := by
      intro j
      induction j with
      | zero =>
        intro cur t hj hIt hc he
        refine h17 _ _ _ _ _ ⟨fun _ => h89 _ _ _ _ _ ⟨in166 (by omega), fun σ6 e6 => ?_⟩, fun c => absurd (by decide) c⟩
        rw [cl (by omega : 0 < 2 ^ 31)] at e6
        rw [nI_1]
        exact ih σ6 (by rw [← he]; exact put hIt hj e6)
      | succ j ihj =>
        intro cur t hj hIt hc he
        rw [shf] at he
        have hy := hc j (by omega)
        have hx6 := hS _ hx
        have hy6 := hS _ hy
        refine h17 _ _ _ _ _ ⟨fun c => absurd c (nI_nle (by omega) (by omega)), fun _ => ?_⟩
        rw [nI_pred, pk_m1, cl (by omega : j < 2 ^ 31), cl (by omega : j + 1 < 2 ^ 31), hIt.2 j (by omega), cl (by omega : cur j < 2 ^ 31), cl (by omega : srt lt i L i < 2 ^ 31)]
        have hl := hlt _ _ hx hy
        rw [← hIt.1 18 (by decide), ← hIt.1 19 (by decide)] at hl
        refine ⟨in166 hx6, in166 (by omega), in166 hy6, in166 (by omega), in166 hy6, in166 hx6, fun c => h89 _ _ _ _ _ ⟨in166 (by omega), fun σ6 e6 => ?_⟩, fun c => ⟨in166 (by omega), in166 (by omega), fun σ5 e5 => ?_⟩⟩
        · rw [hl, if_neg (by simp [c])] at he
          rw [cl (by omega : j + 1 < 2 ^ 31)] at e6
          rw [nI_1]
          exact ih σ6 (by rw [← he]; exact put hIt hj e6)
        · rw [hl, if_pos (decide_eq_true c)] at he
          refine ihj (up1 cur (j + 1) (cur j)) σ5 (by omega) (put hIt hj e5) (fun j' hj' => ?_) he
          unfold up1
          by_cases q : j' = j + 1
          · rw [if_pos q]; exact hy
          · rw [if_neg q]; exact hc j' hj'
    exact inner i (srt lt i L) t hi hI (fun j' hj' => hPi.1 j' hj') rfl
/-- the sums over all pieces are those over the gap -/
theorem nx_sum (hp : PK p) {dn : Bool} {r g i : Nat} (hr : r = if dn = true then g + 1 else g) (hi : p.ir i = r) {F : Nat → Nat} : sumN (p.pb p.n) (fun x => if p.nx dn x = i then F (p.fx dn x) else 0) = sumN p.n (fun k => if p.hs g k = true then (if p.ne dn g k = i then F (p.fa dn g k) else 0) else 0) := by
  show sumN (sumN p.n (fun k => p.nb k + 1)) _ = _
  rw [sumN_block]
  refine sumN_congr p.n (fun k hk => ?_)
  show sumN (p.nb k + 1) (fun j => if p.nx dn (p.pb k + j) = i then F (p.fx dn (p.pb k + j)) else 0) = _
  have e1 : ∀ j, j < p.nb k + 1 → p.nx dn (p.pb k + j) = (if dn = true then p.pt k (j + 1) else p.pt k j) ∧ p.fx dn (p.pb k + j) = (if dn = true then p.pt k j else p.pt k (j + 1)) := fun j hj => by
    unfold Pn.nx Pn.fx
    rw [(pf_at hk (by omega)).1, (pf_at hk (by omega)).2]; exact ⟨rfl, rfl⟩
  have no : ∀ j, j < p.nb k + 1 → p.ro (p.U k) + j ≠ g → ¬ p.nx dn (p.pb k + j) = i := fun j hj hne z => by
    rw [(e1 j hj).1] at z
    have h1 := hp.pt_ok (j := j) hk (by omega)
    have h2 := hp.pt_ok (j := j + 1) hk (by omega)
    rw [← z] at hi
    cases dn
    · simp at hi hr; omega
    · simp at hi hr; omega
  by_cases q : p.hs g k = true
  · obtain ⟨q1, q2⟩ := hs_iff.mp q
    rw [if_pos q, sumN_one (j := g - p.ro (p.U k)) _ (by omega) (fun j hj hne => if_neg (no j hj (by omega))), (e1 _ (by omega)).1, (e1 _ (by omega)).2]
    rfl
  · rw [if_neg q]
    refine sumN_0 _ (fun j hj => if_neg (no j hj (fun z => q (hs_iff.mpr ⟨by omega, by omega⟩))))
set_option maxHeartbeats 1000000 in
theorem sp_order (hp : PK p) {M : Nat → Nat → Nat} (hM : PM p M) (h : RO p M τ) {dn : Bool} {r g : Nat} (hr : r < p.R) (hg : r = if dn = true then g + 1 else g) {post : S0 → Prop}
    (hpost : ∀ τ', (∀ b, b ≠ 9 → b ≠ 17 → b ≠ 18 → b ≠ 19 → τ' b = τ b) → RO p (p.od M dn r g) τ' → post τ') : Sp_R_order (nI r) (b2i dn) τ post := by
  have hN := hp.N166
  have h120 := hp.n120
  have h270 := hp.pb270
  have hcr := cr_N (p := p) (r := r)
  have prm := hM r hr
  obtain ⟨hP, h9⟩ := id h
  have h8 := hP.2.2.2.2.1
  have h4' : τ 0 4 = nI (p.pb p.n) := by rw [pb_eq]; exact hP.2.1
  have h16 : 16 + τ 0 3 = nI p.N := by rw [hP.1, show (16 : Int32) = nI 16 from rfl, nI_add]; rfl
  have nxok : ∀ x, x < p.pb p.n → p.nx dn x < p.N ∧ p.fx dn x < p.N ∧ p.ir (p.fx dn x) < p.R := fun x hx => by
    have := pf_ok hp hx
    unfold Pn.nx Pn.fx
    cases dn
    · exact ⟨this.1, this.2.2.1, this.2.2.2.2⟩
    · exact ⟨this.2.2.1, this.1, this.2.1⟩
  let A : Nat → Nat → Nat := fun a i => sumN a (fun x => if p.nx dn x = i then p.pl M (p.fx dn x) else 0)
  let B : Nat → Nat → Nat := fun a i => sumN a (fun x => if p.nx dn x = i then 1 else 0)
  have eA : ∀ i, p.ir i = r → A (p.pb p.n) i = p.ksum M dn g i := fun i hi => nx_sum hp hg hi (F := p.pl M)
  have eB : ∀ i, p.ir i = r → B (p.pb p.n) i = p.kcnt dn g i := fun i hi => nx_sum hp hg hi (F := fun _ => 1)
  have hL : ∀ j, j < p.cr r → M r j < p.N := fun j hj => it_lt (prm.1 j hj)
  unfold Sp_R_order
  intro G5 G73 G103 G126 G179 G243 h5 h73 h103 h126 h179 h243
  have prm' := srt_prm (lt := p.lt M dn g) prm _ (Nat.le_refl _)
  have hPM := od_PM hM dn r g
  have odr : p.od M dn r g r = srt (p.lt M dn g) (p.cr r) (M r) := by unfold Pn.od; rw [if_pos rfl]
  have loop4 : ∀ m s, m ≤ p.cr r → ((∀ b, b ≠ 9 → b ≠ 17 → b ≠ 18 → b ≠ 19 → s b = τ b) ∧ (∀ j, j < p.cr r → s 17 j = nI (p.od M dn r g r j)) ∧ (∀ j, j < m → s 9 (p.od M dn r g r j) = nI j) ∧ (∀ i, i < p.N → p.ir i ≠ r → s 9 i = τ 9 i)) → G243 (nI (p.cr r)) (nI m) s := by
    refine upto (p.cr r) (fun m s => G243 (nI (p.cr r)) (nI m) s) _ (fun s hI => ?_) (fun m s hm hI ih => ?_)
    · obtain ⟨i1, i2, i3, i4⟩ := hI
      refine h243 _ _ _ ⟨fun _ => hpost s i1 ⟨⟨by rw [i1 0 (by decide) (by decide) (by decide) (by decide)]; exact hP.1, by rw [i1 0 (by decide) (by decide) (by decide) (by decide)]; exact hP.2.1, by rw [i1 0 (by decide) (by decide) (by decide) (by decide)]; exact hP.2.2.1, fun k hk => by rw [i1 13 (by decide) (by decide) (by decide) (by decide), i1 14 (by decide) (by decide) (by decide) (by decide), i1 15 (by decide) (by decide) (by decide) (by decide)]; exact hP.2.2.2.1 k hk, fun i hi => by rw [i1 8 (by decide) (by decide) (by decide) (by decide)]; exact h8 i hi, fun k j hk hj => by rw [i1 11 (by decide) (by decide) (by decide) (by decide), i1 12 (by decide) (by decide) (by decide) (by decide)]; exact hP.2.2.2.2.2 k j hk hj⟩, fun i hi hir => ?_⟩, fun c => absurd (nI_le (Nat.le_refl _) (by omega)) c⟩
      by_cases q : p.ir i = r
      · have hpl := pl_at hPM hi hir
        rw [q] at hpl
        have := i3 _ hpl.1
        rw [hpl.2] at this; exact this
      · rw [pl_od q, i4 i hi q]; exact h9 i hi hir
    · obtain ⟨i1, i2, i3, i4⟩ := hI
      have hm6 : p.od M dn r g r m < p.N := it_lt ((hPM r hr).1 m hm)
      refine h243 _ _ _ ⟨fun c => absurd ((nI_leI (by omega) (by omega)).mp c) (by omega), fun _ => ?_⟩
      rw [cl (by omega : m < 2 ^ 31), i2 m hm, cl (by omega : p.od M dn r g r m < 2 ^ 31), nI_1]
      refine ⟨in166 (by omega), in166 (by omega), fun σ8 e8 => ih σ8 ⟨fun b b9 b17 b18 b19 => by rw [e8, st_ne b9]; exact i1 b b9 b17 b18 b19, fun j hj => by rw [e8, st_ne (by decide)]; exact i2 j hj, fun j hj => ?_, fun i hi hir => ?_⟩⟩
      · rw [e8, st_app]
        by_cases q : j = m
        · rw [q, if_pos ⟨rfl, rfl⟩]
        · rw [if_neg (fun z => q ((hPM r hr).2.2 j m (by omega) hm z.2))]; exact i3 j (by omega)
      · rw [e8, st_app, if_neg (fun z => hir (by rw [z.2]; exact (it_iff.mp ((hPM r hr).1 m hm)).2))]; exact i4 i hi hir
  have loop3 : ∀ m s, m ≤ p.cr r → ((∀ b, b ≠ 17 → b ≠ 18 → b ≠ 19 → s b = τ b) ∧ (∀ j, j < p.cr r → s 17 j = nI (M r j)) ∧ (∀ j, j < m → s 18 (M r j) = p.kS M dn g (M r j) ∧ s 19 (M r j) = p.kC dn g (M r j)) ∧ (∀ j, m ≤ j → j < p.cr r → s 18 (M r j) = nI (p.ksum M dn g (M r j)) ∧ s 19 (M r j) = nI (p.kcnt dn g (M r j)))) → G179 (nI (p.cr r)) (nI m) s := by
    refine upto (p.cr r) (fun m s => G179 (nI (p.cr r)) (nI m) s) _ (fun s hI => ?_) (fun m s hm hI ih => ?_)
    · obtain ⟨i1, i2, i3, i4⟩ := hI
      have k1 : ∀ i, p.it r i = true → s 18 i = p.kS M dn g i ∧ s 19 i = p.kC dn g i := fun i hi => by
        obtain ⟨j, hj, e⟩ := prm.2.1 i hi
        rw [← e]; exact i3 j hj
      refine h179 _ _ _ ⟨fun _ => sp_sortR (L := M r) (S := p.it r) (lt := p.lt M dn g) (by omega) i2 prm (fun i hi => by have := it_lt hi; omega) (fun x y hx hy => by rw [(k1 x hx).1, (k1 x hx).2, (k1 y hy).1, (k1 y hy).2]; rfl) (fun σ4 f4 g4 => ?_), fun c => absurd (nI_le (Nat.le_refl _) (by omega)) c⟩
      refine loop4 0 σ4 (Nat.zero_le _) ⟨fun b b9 b17 b18 b19 => by rw [f4 b b17]; exact i1 b b17 b18 b19, fun j hj => by rw [odr]; exact g4 j hj, fun j hj => absurd hj (by omega), fun i hi hir => by rw [f4 9 (by decide), i1 9 (by decide) (by decide) (by decide)]⟩
    · obtain ⟨i1, i2, i3, i4⟩ := hI
      have hLm := hL m hm
      have hkn := kcnt_n (p := p) (dn := dn) (g := g) (i := M r m)
      obtain ⟨x18, x19⟩ := i4 m (Nat.le_refl _) hm
      obtain ⟨it1, it2⟩ := it_iff.mp (prm.1 m hm)
      refine h179 _ _ _ ⟨fun c => absurd ((nI_leI (by omega) (by omega)).mp c) (by omega), fun _ => ⟨in166 (by omega), fun v5 e5 => ?_⟩⟩
      rw [cl (by omega : m < 2 ^ 31), i2 m hm] at e5
      rw [e5, cl (by omega : M r m < 2 ^ 31), x19, nI_1]
      refine ⟨in166 (by omega), fun c => ⟨in166 (by omega), in166 (by omega), fun σ6 e6 => ⟨in166 (by omega), fun σ7 e7 => ?_⟩⟩, fun c => ?_⟩
      · rw [show (0 : Int32) = nI 0 from rfl, nI_leI (by omega) (by omega)] at c
        have c0 : p.kcnt dn g (M r m) = 0 := by omega
        have x7 : ∀ j, j < p.cr r → j ≠ m → σ7 18 (M r j) = s 18 (M r j) ∧ σ7 19 (M r j) = s 19 (M r j) := fun j hj hne => by
          have hne' : M r j ≠ M r m := fun z => hne (prm.2.2 j m hj hm z)
          rw [e7, st_ne (by decide), st_other hne', e6, st_other hne', st_ne (by decide)]; exact ⟨rfl, rfl⟩
        refine ih σ7 ⟨fun b b17 b18 b19 => by rw [e7, st_ne b19, e6, st_ne b18]; exact i1 b b17 b18 b19, fun j hj => by rw [e7, st_ne (by decide), e6, st_ne (by decide)]; exact i2 j hj, fun j hj => ?_, fun j hj hj' => ?_⟩
        · by_cases q : j = m
          · subst q
            unfold Pn.kS Pn.kC
            rw [if_pos c0, if_pos c0, e7, st_ne (by decide), st_same, e6, st_same, i1 9 (by decide) (by decide) (by decide)]
            exact ⟨h9 _ it1 (by omega), rfl⟩
          · rw [(x7 j (by omega) q).1, (x7 j (by omega) q).2]; exact i3 j (by omega)
        · rw [(x7 j hj' (by omega)).1, (x7 j hj' (by omega)).2]; exact i4 j (by omega) hj'
      · rw [show (0 : Int32) = nI 0 from rfl, nI_leI (by omega) (by omega)] at c
        have c0 : ¬ p.kcnt dn g (M r m) = 0 := by omega
        refine ih s ⟨i1, i2, fun j hj => ?_, fun j hj => i4 j (by omega)⟩
        by_cases q : j = m
        · subst q; rw [x18, x19]; unfold Pn.kS Pn.kC; rw [if_neg c0, if_neg c0]; exact ⟨rfl, rfl⟩
        · exact i3 j (by omega)
  have loop2 : ∀ x s, x ≤ p.pb p.n → ((∀ b, b ≠ 17 → b ≠ 18 → b ≠ 19 → s b = τ b) ∧ (∀ j, j < p.cr r → s 17 j = nI (M r j)) ∧ (∀ i, p.it r i = true → s 18 i = nI (A x i) ∧ s 19 i = nI (B x i))) → G73 (nI r) (b2i dn) (nI (p.cr r)) (nI x) s := by
    refine upto (p.pb p.n) (fun x s => G73 (nI r) (b2i dn) (nI (p.cr r)) (nI x) s) _ (fun s hI => ?_) (fun x s hx hI ih => ?_)
    · obtain ⟨i1, i2, i3⟩ := hI
      refine h73 _ _ _ _ _ ⟨fun _ => loop3 0 s (Nat.zero_le _) ⟨i1, i2, fun j hj => absurd hj (by omega), fun j _ hj => ?_⟩, fun c => absurd ?_ c⟩
      · have := i3 _ (prm.1 j hj)
        have hir := (it_iff.mp (prm.1 j hj)).2
        rw [eA _ hir, eB _ hir] at this; exact this
      · rw [i1 0 (by decide) (by decide) (by decide), h4']; exact nI_le (Nat.le_refl _) (by omega)
    · obtain ⟨i1, i2, i3⟩ := hI
      obtain ⟨n1, n2, n3⟩ := nxok x hx
      obtain ⟨p1, p2⟩ := hP.piece hx
      have s4 : s 0 4 = nI (p.pb p.n) := by rw [i1 0 (by decide) (by decide) (by decide)]; exact h4'
      have go : G126 (nI r) (b2i dn) (nI (p.cr r)) (nI x) (nI (p.nx dn x)) (nI (p.fx dn x)) s := by
        refine h126 _ _ _ _ _ _ _ ?_
        rw [cl (by omega : p.nx dn x < 2 ^ 31), cl (by omega : p.fx dn x < 2 ^ 31), i1 8 (by decide) (by decide) (by decide), i1 9 (by decide) (by decide) (by decide), h8 _ n1, rI_row hp n1 hr, h9 _ n2 n3, nI_1]
        refine ⟨in166 (by omega), fun c => ⟨in166 (by omega), in166 (by omega), in166 (by omega), fun σ9 e9 => ⟨in166 (by omega), in166 (by omega), fun σ10 e10 => ih σ10 ⟨fun b b17 b18 b19 => by rw [e10, st_ne b19, e9, st_ne b18]; exact i1 b b17 b18 b19, fun j hj => by rw [e10, st_ne (by decide), e9, st_ne (by decide)]; exact i2 j hj, fun i hi => ?_⟩⟩⟩, fun c => ih s ⟨i1, i2, fun i hi => ?_⟩⟩
        · obtain ⟨y1, y2⟩ := i3 i hi
          show _ = nI (A x i + (if p.nx dn x = i then p.pl M (p.fx dn x) else 0)) ∧ _ = nI (B x i + (if p.nx dn x = i then 1 else 0))
          by_cases q : p.nx dn x = i
          · rw [if_pos q, if_pos q, e10, st_ne (by decide), e9, q, st_same, st_same, st_ne (by decide), y1, y2, nI_add, nI_1]; exact ⟨rfl, rfl⟩
          · rw [if_neg q, if_neg q, e10, st_ne (by decide), e9, st_other (fun z => q z.symm), st_other (fun z => q z.symm), st_ne (by decide)]; exact ⟨y1, y2⟩
        · have q : ¬ p.nx dn x = i := fun z => c (by rw [z]; exact (it_iff.mp hi).2)
          show _ = nI (A x i + (if p.nx dn x = i then p.pl M (p.fx dn x) else 0)) ∧ _ = nI (B x i + (if p.nx dn x = i then 1 else 0))
          rw [if_neg q, if_neg q]; exact i3 i hi
      refine h73 _ _ _ _ _ ⟨fun c => absurd (leN s4 c (by omega) (by omega)) (by omega), fun _ => ?_⟩
      rw [cl (by omega : x < 2 ^ 31), i1 11 (by decide) (by decide) (by decide), i1 12 (by decide) (by decide) (by decide), p1, p2]
      have e103 : ∀ t0, t0 = nI (p.nx dn x) → G103 (nI r) (b2i dn) (nI (p.cr r)) (nI x) t0 s := fun t0 ht => by
        refine h103 _ _ _ _ _ _ ?_
        rw [cl (by omega : x < 2 ^ 31), i1 11 (by decide) (by decide) (by decide), i1 12 (by decide) (by decide) (by decide), p1, p2, ht]
        cases dn
        · exact ⟨fun _ => ⟨in400 (by omega), go⟩, fun c => absurd rfl c⟩
        · exact ⟨fun c => absurd c (by decide), fun _ => ⟨in400 (by omega), go⟩⟩
      refine ⟨fun c => ⟨in400 (by omega), e103 _ ?_⟩, fun c => ⟨in400 (by omega), e103 _ ?_⟩⟩
      · unfold Pn.nx; rw [b2i_0.mp c]; rfl
      · unfold Pn.nx; rw [b2i_ne c]; rfl
  have loop1 : ∀ k s, k ≤ p.N → ((∀ b, b ≠ 17 → b ≠ 18 → b ≠ 19 → s b = τ b) ∧ (∀ i, i < k → p.it r i = true → s 17 (p.pl M i) = nI i ∧ s 18 i = 0 ∧ s 19 i = 0)) → G5 (nI r) (b2i dn) (nI (cnt k (p.it r))) (nI k) s := by
    refine upto p.N (fun k s => G5 (nI r) (b2i dn) (nI (cnt k (p.it r))) (nI k) s) _ (fun s hI => ?_) (fun k s hk hI ih => ?_)
    · obtain ⟨i1, i2⟩ := hI
      refine h5 _ _ _ _ _ ⟨fun _ => loop2 0 s (Nat.zero_le _) ⟨i1, fun j hj => ?_, fun i hi => (i2 i (it_lt hi) hi).2⟩, fun c => absurd ?_ c⟩
      · have := i2 _ (hL j hj) (prm.1 j hj)
        rw [(pl_eq hM hr hj).2.2] at this; exact this.1
      · rw [i1 0 (by decide) (by decide) (by decide), h16]; exact nI_le (Nat.le_refl _) (by omega)
    · obtain ⟨i1, i2⟩ := hI
      have s16 : 16 + s 0 3 = nI p.N := by rw [i1 0 (by decide) (by decide) (by decide)]; exact h16
      refine h5 _ _ _ _ _ ⟨fun c => absurd (leN s16 c (by omega) (by omega)) (by omega), fun _ => ⟨in166 (by omega), ?_⟩⟩
      rw [cl (by omega : k < 2 ^ 31), i1 8 (by decide) (by decide) (by decide), i1 9 (by decide) (by decide) (by decide), h8 k hk, rI_row hp hk hr, nI_1 k]
      refine ⟨fun c => ?_, fun c => ?_⟩
      · have hit : p.it r k = true := it_iff.mpr ⟨hk, c⟩
        have hplk := pl_at hM hk (by omega)
        have hpl6 := hp.pl166 hM hk (by omega)
        rw [h9 k hk (by omega), cl (by omega : p.pl M k < 2 ^ 31)]
        refine ⟨in166 (by omega), in166 hpl6, fun σ1 e1 => ⟨in166 (by omega), fun σ2 e2 => ⟨in166 (by omega), fun σ3 e3 => ?_⟩⟩⟩
        have hc : cnt (k + 1) (p.it r) = cnt k (p.it r) + 1 := by rw [cnt, if_pos hit]
        rw [hc] at ih
        rw [nI_1]
        refine ih σ3 ⟨fun b b17 b18 b19 => by rw [e3, st_ne b19, e2, st_ne b18, e1, st_ne b17]; exact i1 b b17 b18 b19, fun i hi hiti => ?_⟩
        rw [e3, st_ne (by decide), st_ne (by decide), st_app, e2, st_ne (by decide), st_app, st_ne (by decide), e1, st_app, st_ne (by decide), st_ne (by decide)]
        by_cases q : i = k
        · rw [q, if_pos ⟨rfl, rfl⟩, if_pos ⟨rfl, rfl⟩, if_pos ⟨rfl, rfl⟩]; exact ⟨rfl, rfl, rfl⟩
        · have hii := it_iff.mp hiti
          have hpli := pl_at hM hii.1 (by omega)
          rw [if_neg (fun z => q ?_), if_neg (fun z => q z.2), if_neg (fun z => q z.2)]
          · exact i2 i (by omega) hiti
          · have e1 := hpli.2
            rw [hii.2, z.2] at e1
            have e2 := hplk.2
            rw [c] at e2
            rw [← e1, e2]
      · have hit : p.it r k = false := by
          cases q : p.it r k
          · rfl
          · exact absurd (it_iff.mp q).2 c
        have hc : cnt (k + 1) (p.it r) = cnt k (p.it r) := by rw [cnt, hit]; rfl
        rw [hc] at ih
        refine ih s ⟨i1, fun i hi hiti => i2 i ?_ hiti⟩
        have : i ≠ k := fun z => by rw [z, hit] at hiti; cases hiti
        omega
  exact loop1 0 τ (Nat.zero_le _) ⟨fun _ _ _ _ => rfl, fun i hi => absurd hi (by omega)⟩
def KR (σ σ' : S0) : Prop := ∀ b, b ≠ 9 → b ≠ 17 → b ≠ 18 → b ≠ 19 → σ' b = σ b
theorem KR.rf (σ : S0) : KR σ σ := fun _ _ _ _ _ => rfl
theorem KR.trans {a b c : S0} (h1 : KR a b) (h2 : KR b c) : KR a c := fun k x1 x2 x3 x4 => (h2 k x1 x2 x3 x4).trans (h1 k x1 x2 x3 x4)
theorem sp_round {T : Nat → Nat → Bool} {Gp : Nat → Nat} {Ph : Nat → Int32} {Hd Th : Nat → Bool} (hp : PK p) (hR : RD T Gp Ph Hd Th τ) (hW : WF T Gp Ph Hd Th) (hd : p.dr = Dr Gp Hd Th) {M : Nat → Nat → Nat} (hM : PM p M) (h : RO p M τ) {post : S0 → Prop} (hpost : ∀ τ', KR τ τ' → RO p (p.rnd M) τ' → post τ') : Sp_R_round τ post := by
  have h16 := hp.R16
  have lt1 : ∀ m, m < 100 → (nI p.R - 1 < nI m ↔ p.R ≤ m) := fun m hm => by
    rw [Int32.lt_iff_toInt_lt, nI_toInt (by omega), show (1 : Int32) = nI 1 from rfl, pk_sub_toInt (by omega) (by omega)]; omega
  unfold Sp_R_round
  intro G7 G28 h7 h28
  refine sp_lastRow hp hR hW hd h.1.2.2.2.2.1 ?_
  have loop2 : ∀ m s M', m + 1 ≤ p.R → KR τ s → RO p M' s → PM p M' → p.up m M' = p.rnd M → G28 (nI m + (-1)) s := by
    intro m
    induction m with
    | zero =>
      intro s M' hm hK hC hPM he
      refine h28 _ _ ⟨fun _ => hpost s hK (by rw [← he]; exact hC), fun c => absurd (by decide) c⟩
    | succ m ih =>
      intro s M' hm hK hC hPM he
      rw [pk_m1]
      refine h28 _ _ ⟨fun c => absurd c (nI_pos (by omega)), fun _ => sp_order (dn := false) (r := m) (g := m) hp hPM hC (by omega) rfl (fun σ' f hC' => ?_)⟩
      exact ih σ' _ (by omega) (hK.trans f) hC' (od_PM hPM _ _ _) he
  have fin : ∀ s, KR τ s → RO p (p.dn M (p.R - 1)) s → G28 (nI p.R - 1 - 1) s := fun s hK hC => by
    by_cases q : p.R = 0
    · rw [q]
      refine h28 _ _ ⟨fun _ => hpost s hK (by have e : p.rnd M = p.dn M (p.R - 1) := by unfold Pn.rnd; rw [q]; rfl
                                              rw [e]; exact hC), fun c => absurd (by decide) c⟩
    · have e : nI p.R - 1 - 1 = nI (p.R - 1) + (-1) := by
        obtain ⟨x, hx⟩ : ∃ x, p.R = x + 1 := ⟨p.R - 1, by omega⟩
        rw [hx, show x + 1 - 1 = x by omega, nI_pred, Int32.sub_eq_add_neg]
      rw [e]
      exact loop2 (p.R - 1) s _ (by omega) hK hC (dn_PM hM _) rfl
  by_cases q : p.R = 0
  · refine h7 _ _ _ ⟨fun _ v3 e3 => ?_, fun c => absurd ((lt1 1 (by omega)).mpr (by omega)) c⟩
    rw [e3]; exact fin τ (KR.rf τ) (by rw [q]; exact h)
  · refine upto (p.R - 1) (fun m s => G7 (nI p.R - 1) (nI (m + 1)) s) (fun m s => KR τ s ∧ RO p (p.dn M m) s) (fun s hI => ?_) (fun m s hm hI ih => ?_) 0 τ (Nat.zero_le _) ⟨KR.rf τ, h⟩
    · refine h7 _ _ _ ⟨fun _ v1 e1 => ?_, fun c => absurd ((lt1 _ (by omega)).mpr (by omega)) c⟩
      rw [e1]; exact fin s hI.1 hI.2
    · refine h7 _ _ _ ⟨fun c => absurd ((lt1 _ (by omega)).mp c) (by omega), fun _ => ?_⟩
      refine sp_order (dn := true) (r := m + 1) (g := m) hp (dn_PM hM m) hI.2 (by omega) rfl (fun σ' f hC' => ?_)
      rw [nI_1]; exact ih σ' ⟨hI.1.trans f, hC'⟩
end
