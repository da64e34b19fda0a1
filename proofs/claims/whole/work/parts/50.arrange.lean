/-! The class puts a row in order. -/
def Pn.ne (p : Pn) (dn : Bool) (g k : Nat) : Nat := if dn = true then p.tt g k else p.fr g k
def Pn.fa (p : Pn) (dn : Bool) (g k : Nat) : Nat := if dn = true then p.fr g k else p.tt g k
def Pn.ksum (p : Pn) (M : Nat → Nat → Nat) (dn : Bool) (g i : Nat) : Nat := sumN p.n (fun k => if p.hs g k = true then (if p.ne dn g k = i then p.pl M (p.fa dn g k) else 0) else 0)
def Pn.kcnt (p : Pn) (dn : Bool) (g i : Nat) : Nat := sumN p.n (fun k => if p.hs g k = true then (if p.ne dn g k = i then 1 else 0) else 0)
def Pn.kS (p : Pn) (M : Nat → Nat → Nat) (dn : Bool) (g i : Nat) : Int32 := if p.kcnt dn g i = 0 then nI (p.pl M i) else nI (p.ksum M dn g i)
def Pn.kC (p : Pn) (dn : Bool) (g i : Nat) : Int32 := if p.kcnt dn g i = 0 then 1 else nI (p.kcnt dn g i)
def Pn.lt (p : Pn) (M : Nat → Nat → Nat) (dn : Bool) (g x y : Nat) : Bool := decide (¬ p.kS M dn g y * p.kC dn g x ≤ p.kS M dn g x * p.kC dn g y)
def Pn.od (p : Pn) (M : Nat → Nat → Nat) (dn : Bool) (r g : Nat) : Nat → Nat → Nat := fun r' => if r' = r then srt (p.lt M dn g) (p.cr r) (M r) else M r'
section
variable {p : Pn} {σ τ : S0}
theorem kcnt_n {dn : Bool} {g i : Nat} : p.kcnt dn g i ≤ p.n := by
  have := sumN_le (f := fun k => if p.hs g k = true then (if p.ne dn g k = i then 1 else 0) else 0) (b := 1) p.n (fun k _ => by split <;> (try split) <;> omega)
  unfold Pn.kcnt; omega
theorem od_PM {M : Nat → Nat → Nat} (hM : PM p M) (dn : Bool) (r g : Nat) : PM p (p.od M dn r g) := fun r' hr' => by
  unfold Pn.od
  by_cases q : r' = r
  · subst q; rw [if_pos rfl]; exact srt_prm (hM r' hr') _ (Nat.le_refl _)
  · rw [if_neg q]; exact hM r' hr'
theorem pl_od {M : Nat → Nat → Nat} {dn : Bool} {r g i : Nat} (h : p.ir i ≠ r) : p.pl (p.od M dn r g) i = p.pl M i := by unfold Pn.pl Pn.od; rw [if_neg h]
theorem sp_lesser {x y : Nat} (hx : x < 166) (hy : y < 166) {post : Int32 → S0 → Prop} (h0 : σ 24 y * σ 25 x ≤ σ 24 x * σ 25 y → post 0 σ) (h1 : ¬ σ 24 y * σ 25 x ≤ σ 24 x * σ 25 y → post 1 σ) : Sp_O_hasLesserKey (nI x) (nI y) σ post := by
  unfold Sp_O_hasLesserKey
  rw [cl (by omega : x < 2 ^ 31), cl (by omega : y < 2 ^ 31)]
  exact ⟨in166 hx, in166 hy, in166 hy, in166 hx, h0, h1⟩
theorem sp_sortC {s n : Nat} {L : Nat → Nat} {S : Nat → Bool} (hn : s + n ≤ 166) (hL : ∀ j, j < n → σ 18 (s + j) = nI (L j)) (hP : Prm S n L) (hS : ∀ i, S i = true → i < 166) {lt : Nat → Nat → Bool} (hlt : ∀ x y, S x = true → S y = true → lt x y = decide (¬ σ 24 y * σ 25 x ≤ σ 24 x * σ 25 y)) {post : S0 → Prop}
    (h : ∀ σ', (∀ b, b ≠ 18 → σ' b = σ b) → (∀ j, j < n → σ' 18 (s + j) = nI (srt lt n L j)) → (∀ j, j < s ∨ s + n ≤ j → σ' 18 j = σ 18 j) → post σ') : Sp_O_sort (nI s) (nI (s + n)) σ post := by
  unfold Sp_O_sort
  intro G4 G20 G66 h4 h20 h66 v1 e1
  rw [e1, nI_1]
  let I : (Nat → Nat) → S0 → Prop := fun cur t => (∀ b, b ≠ 18 → t b = σ b) ∧ (∀ j, j < n → t 18 (s + j) = nI (cur j)) ∧ (∀ j, j < s ∨ s + n ≤ j → t 18 j = σ 18 j)
  have put : ∀ {cur : Nat → Nat} {t t' : S0} {j x : Nat}, I cur t → j < n → t' = st t 18 (s + j) (nI x) → I (up1 cur j x) t' := fun {cur t t' j x} hI hj e => by
    refine ⟨fun b hb => by rw [e, st_ne hb]; exact hI.1 b hb, fun j' hj' => ?_, fun j' hj' => ?_⟩
    · rw [e, st_app]
      unfold up1
      by_cases q : j' = j
      · rw [if_pos ⟨rfl, by omega⟩, if_pos q]
      · rw [if_neg (fun z => q (by omega)), if_neg q]; exact hI.2.1 j' hj'
    · rw [e, st_app, if_neg (by omega)]; exact hI.2.2 j' hj'
  by_cases q0 : n = 0
  · subst q0
    exact h4 _ _ _ _ ⟨fun _ => h σ (fun _ _ => rfl) (fun j hj => absurd hj (by omega)) (fun _ _ => rfl), fun c => absurd (nI_le (by omega) (by omega)) c⟩
  refine upto n (fun i t => G4 (nI s) (nI (s + n)) (nI (s + i)) t) (fun i t => I (srt lt i L) t) (fun t hI => ?_) (fun i t hi hI ih => ?_) 1 σ (by omega) ⟨fun _ _ => rfl, fun j hj => by rw [srt_1]; exact hL j hj, fun _ _ => rfl⟩
  · exact h4 _ _ _ _ ⟨fun _ => h t hI.1 hI.2.1 hI.2.2, fun c => absurd (nI_le (by omega) (by omega)) c⟩
  · have hPi := srt_prm (lt := lt) hP i (by omega)
    refine h4 _ _ _ _ ⟨fun c => absurd ((nI_leI (by omega) (by omega)).mp c) (by omega), fun _ => ⟨in166 (by omega), fun v2 e2 => ?_⟩⟩
    rw [e2, cl (by omega : s + i < 2 ^ 31), hI.2.1 i hi]
    have hx := hPi.1 i hi
    have inner : ∀ j cur t, j < n → I cur t → (∀ j', j' < n → S (cur j') = true) → shf lt (srt lt i L i) j cur = srt lt (i + 1) L → G20 (nI s) (nI (s + n)) (nI (s + i)) (nI (srt lt i L i)) (nI (s + j)) t := by
      intro j
      induction j with
      | zero =>
        intro cur t hj hIt hc he
        refine h20 _ _ _ _ _ _ ⟨fun _ => h66 _ _ _ _ _ _ ⟨in166 (by omega), fun σ6 e6 => ?_⟩, fun c => absurd (nI_le (by omega) (by omega)) c⟩
        rw [cl (by omega : s + 0 < 2 ^ 31)] at e6
        rw [nI_1]
        exact ih σ6 (by rw [← he]; exact put hIt hj e6)
      | succ j ihj =>
        intro cur t hj hIt hc he
        rw [shf] at he
        have hy := hc j (by omega)
        have hx6 := hS _ hx
        have hy6 := hS _ hy
        refine h20 _ _ _ _ _ _ ⟨fun c => absurd ((nI_leI (by omega) (by omega)).mp c) (by omega), fun _ => ?_⟩
        rw [← Nat.add_assoc, nI_pred, pk_m1, cl (by omega : s + j < 2 ^ 31), cl (by omega : s + j + 1 < 2 ^ 31), hIt.2.1 j (by omega)]
        have hl := hlt _ _ hx hy
        rw [← hIt.1 24 (by decide), ← hIt.1 25 (by decide)] at hl
        refine ⟨in166 (by omega), sp_lesser hx6 hy6 (fun c => ⟨fun _ => h66 _ _ _ _ _ _ ⟨in166 (by omega), fun σ6 e6 => ?_⟩, fun c => absurd rfl c⟩) (fun c => ⟨fun c => absurd c (by decide), fun _ => ⟨in166 (by omega), in166 (by omega), fun σ5 e5 => ?_⟩⟩)⟩
        · rw [hl, if_neg (by simp [c])] at he
          rw [cl (by omega : s + j + 1 < 2 ^ 31)] at e6
          rw [nI_1]
          exact ih σ6 (by rw [← he]; exact put hIt hj e6)
        · rw [hl, if_pos (decide_eq_true c)] at he
          rw [hIt.2.1 j (by omega)] at e5
          refine ihj (up1 cur (j + 1) (cur j)) σ5 (by omega) (put hIt hj e5) (fun j' hj' => ?_) he
          unfold up1
          by_cases q : j' = j + 1
          · rw [if_pos q]; exact hy
          · rw [if_neg q]; exact hc j' hj'
    exact inner i (srt lt i L) t hi hI (fun j' hj' => hPi.1 j' hj') rfl
set_option maxHeartbeats 1000000 in
theorem sp_weigh_22_21 (hp : PK p) {M : Nat → Nat → Nat} (hM : PM p M) (h : CO p M σ) {r g : Nat} (hr : r < p.R) (hg : g + 1 ≤ p.R) {post : S0 → Prop}
    (hpost : ∀ σ', (∀ b, b ≠ 24 → b ≠ 25 → σ' b = σ b) → (∀ i, p.it r i = true → σ' 24 i = p.kS M true g i ∧ σ' 25 i = p.kC true g i) → post σ') : Sp_O_weigh_22_21 (nI r) (nI g) σ post := by
  have hR := hp.R16
  have hn := hp.n120
  have hN := hp.N166
  have h150 := hp.fb150 (Nat.le_refl _)
  have hps := ps_n (p := p) (r := g + 1)
  rw [ps_s] at hps
  have hrs := rs_N (p := p) (r := r + 1)
  rw [rs_s] at hrs
  have prm := hM r hr
  obtain ⟨c1, c2, c3, c4, c5, c6, c7, c8⟩ := id h
  have hL : ∀ j, j < p.cr r → M r j < 166 := fun j hj => by have := it_lt (prm.1 j hj); omega
  let A : Nat → Nat → Nat := fun a i => sumN a (fun a => if p.ne true g (p.kx g a) = i then p.pl M (p.fa true g (p.kx g a)) else 0)
  let B : Nat → Nat → Nat := fun a i => sumN a (fun a => if p.ne true g (p.kx g a) = i then 1 else 0)
  have eA : ∀ i, A (p.pc g) i = p.ksum M true g i := fun i => by
    show sumN (cnt p.n (p.hs g)) _ = _
    rw [sumN_cnt]
    refine sumN_congr p.n (fun k hk => ?_)
    by_cases q : p.hs g k = true
    · rw [if_pos q, if_pos q, kx_cnt hk q]
    · rw [if_neg q, if_neg q]
  have eB : ∀ i, B (p.pc g) i = p.kcnt true g i := fun i => by
    show sumN (cnt p.n (p.hs g)) _ = _
    rw [sumN_cnt]
    refine sumN_congr p.n (fun k hk => ?_)
    by_cases q : p.hs g k = true
    · rw [if_pos q, if_pos q, kx_cnt hk q]
    · rw [if_neg q, if_neg q]
  unfold Sp_O_weigh_22_21
  intro G8 G61 G123 h8 h61 h123
  have loop3 : ∀ m s, m ≤ p.cr r → ((∀ b, b ≠ 24 → b ≠ 25 → s b = σ b) ∧ (∀ j, j < m → s 24 (M r j) = p.kS M true g (M r j) ∧ s 25 (M r j) = p.kC true g (M r j)) ∧ (∀ j, m ≤ j → j < p.cr r → s 24 (M r j) = nI (p.ksum M true g (M r j)) ∧ s 25 (M r j) = nI (p.kcnt true g (M r j)))) → G123 (nI r) (nI (p.rs r + m)) s := by
    refine upto (p.cr r) (fun m s => G123 (nI r) (nI (p.rs r + m)) s) _ (fun s hI => ?_) (fun m s hm hI ih => ?_)
    · obtain ⟨i1, i2, i3⟩ := hI
      refine h123 _ _ _ ?_
      rw [nI_1, cl (by omega : r + 1 < 2 ^ 31), i1 20 (by decide) (by decide), c4 (r + 1) (by omega)]
      refine ⟨in17 (by omega), fun _ => hpost s i1 (fun i hi => ?_), fun c => absurd (by rw [rs_s]; exact nI_le (Nat.le_refl _) (by omega)) c⟩
      obtain ⟨j, hj, e⟩ := prm.2.1 i hi
      rw [← e]; exact i2 j hj
    · obtain ⟨i1, i2, i3⟩ := hI
      have hLm := hL m hm
      refine h123 _ _ _ ?_
      rw [nI_1, nI_1, cl (by omega : r + 1 < 2 ^ 31), cl (by omega : p.rs r + m < 2 ^ 31), i1 20 (by decide) (by decide), i1 18 (by decide) (by decide), i1 16 (by decide) (by decide), c4 (r + 1) (by omega), c7 r m hr hm, cl (by omega : M r m < 2 ^ 31)]
      obtain ⟨x24, x25⟩ := i3 m (Nat.le_refl _) hm
      have hkn := kcnt_n (p := p) (dn := true) (g := g) (i := M r m)
      refine ⟨in17 (by omega), fun c => absurd ((nI_leI (by rw [rs_s]; omega) (by omega)).mp c) (by rw [rs_s]; omega), fun _ => ⟨in166 (by omega), in166 hLm, fun c => ?_, fun c => ⟨in166 (by omega), in166 (by omega), in166 hLm, in166 hLm, fun σ8 e8 => ⟨in166 (by omega), ?_⟩⟩⟩⟩
      · rw [x25] at c
        have hk0 : ¬ p.kcnt true g (M r m) = 0 := fun z => c (by rw [z]; rfl)
        refine ih s ⟨i1, fun j hj => ?_, fun j hj => i3 j (by omega)⟩
        by_cases q : j = m
        · subst q; rw [x24, x25]; unfold Pn.kS Pn.kC; rw [if_neg hk0, if_neg hk0]; exact ⟨rfl, rfl⟩
        · exact i2 j (by omega)
      · have e18 : σ8 18 (p.rs r + m) = nI (M r m) := by rw [e8, st_ne (by decide), i1 18 (by decide) (by decide)]; exact c7 r m hr hm
        rw [e18, cl (by omega : M r m < 2 ^ 31)]
        refine ⟨in166 hLm, fun σ9 e9 => ?_⟩
        rw [x25, show (0 : Int32) = nI 0 from rfl, nIx (by omega) (by omega)] at c
        obtain ⟨it1, it2⟩ := it_iff.mp (prm.1 m hm)
        have x9 : ∀ j, j < p.cr r → j ≠ m → σ9 24 (M r j) = s 24 (M r j) ∧ σ9 25 (M r j) = s 25 (M r j) := fun j hj hne => by
          have hne' : M r j ≠ M r m := fun z => hne (prm.2.2 j m hj hm z)
          rw [e9, st_ne (by decide), st_other hne', e8, st_other hne', st_ne (by decide)]; exact ⟨rfl, rfl⟩
        refine ih σ9 ⟨fun b h24 h25 => by rw [e9, st_ne h25, e8, st_ne h24]; exact i1 b h24 h25, fun j hj => ?_, fun j hj hj' => ?_⟩
        · by_cases q : j = m
          · subst q
            unfold Pn.kS Pn.kC
            rw [if_pos c, if_pos c, e9, st_ne (by decide), st_same, e8, st_same]
            exact ⟨c8 _ it1 (by omega), rfl⟩
          · rw [(x9 j (by omega) q).1, (x9 j (by omega) q).2]; exact i2 j (by omega)
        · rw [(x9 j hj' (by omega)).1, (x9 j hj' (by omega)).2]; exact i3 j (by omega) hj'
  have loop2 : ∀ a s, a ≤ p.pc g → ((∀ b, b ≠ 24 → b ≠ 25 → s b = σ b) ∧ (∀ i, p.it r i = true → s 24 i = nI (A a i) ∧ s 25 i = nI (B a i))) → G61 (nI r) (nI g) (nI (p.ps g + a)) s := by
    refine upto (p.pc g) (fun a s => G61 (nI r) (nI g) (nI (p.ps g + a)) s) _ (fun s hI => ?_) (fun a s ha hI ih => ?_)
    · obtain ⟨i1, i2⟩ := hI
      refine h61 _ _ _ _ ?_
      rw [nI_1, cl (by omega : g + 1 < 2 ^ 31), i1 23 (by decide) (by decide), c5 (g + 1) (by omega)]
      refine ⟨in17 (by omega), fun _ => ⟨in17 (by omega), fun v5 e5 => ?_⟩, fun c => absurd (by rw [ps_s]; exact nI_le (Nat.le_refl _) (by omega)) c⟩
      rw [e5, cl (by omega : r < 2 ^ 31), i1 20 (by decide) (by decide), c4 r (by omega)]
      refine loop3 0 s (Nat.zero_le _) ⟨i1, fun j hj => absurd hj (by omega), fun j _ hj => ?_⟩
      have := i2 _ (prm.1 j hj)
      rw [eA, eB] at this; exact this
    · obtain ⟨i1, i2⟩ := hI
      obtain ⟨p1, p2⟩ := h.piece (show g < p.R by omega) ha
      obtain ⟨⟨a1, a2⟩, ⟨a3, a4⟩, a5, a6⟩ := h.ends hp hM (show g < p.R by omega) ha
      refine h61 _ _ _ _ ?_
      rw [nI_1, nI_1, cl (by omega : g + 1 < 2 ^ 31), cl (by omega : p.ps g + a < 2 ^ 31), i1 23 (by decide) (by decide), i1 21 (by decide) (by decide), i1 22 (by decide) (by decide), i1 16 (by decide) (by decide), c5 (g + 1) (by omega), p1, p2, cl (by omega : p.fr g (p.kx g a) < 2 ^ 31), cl (by omega : p.tt g (p.kx g a) < 2 ^ 31), a3]
      refine ⟨in17 (by omega), fun c => absurd ((nI_leI (by rw [ps_s]; omega) (by omega)).mp c) (by rw [ps_s]; omega), fun _ => ⟨in406 (by omega), in166 (by omega), in406 (by omega), in166 (by omega), in166 (by omega), fun σ6 e6 => ⟨in406 (by omega), ?_⟩⟩⟩
      rw [show σ6 22 (p.ps g + a) = nI (p.tt g (p.kx g a)) by rw [e6, st_ne (by decide), i1 22 (by decide) (by decide)]; exact p2, cl (by omega : p.tt g (p.kx g a) < 2 ^ 31)]
      refine ⟨in166 (by omega), in166 (by omega), fun σ7 e7 => ih σ7 ⟨fun b h24 h25 => by rw [e7, st_ne h25, e6, st_ne h24]; exact i1 b h24 h25, fun i hi => ?_⟩⟩
      obtain ⟨y1, y2⟩ := i2 i hi
      show _ = nI (A a i + (if p.tt g (p.kx g a) = i then p.pl M (p.fr g (p.kx g a)) else 0)) ∧ _ = nI (B a i + (if p.tt g (p.kx g a) = i then 1 else 0))
      by_cases q : p.tt g (p.kx g a) = i
      · rw [if_pos q, if_pos q, e7, st_ne (by decide), e6, q, st_same, st_same, st_ne (by decide), y1, y2, nI_add, nI_1]; exact ⟨rfl, rfl⟩
      · rw [if_neg q, if_neg q, e7, st_ne (by decide), e6, st_other (fun z => q z.symm), st_other (fun z => q z.symm), st_ne (by decide)]; exact ⟨y1, y2⟩
  have loop1 : ∀ m s, m ≤ p.cr r → ((∀ b, b ≠ 24 → b ≠ 25 → s b = σ b) ∧ (∀ j, j < m → s 24 (M r j) = 0 ∧ s 25 (M r j) = 0)) → G8 (nI r) (nI g) (nI (p.rs r + m)) s := by
    refine upto (p.cr r) (fun m s => G8 (nI r) (nI g) (nI (p.rs r + m)) s) _ (fun s hI => ?_) (fun m s hm hI ih => ?_)
    · obtain ⟨i1, i2⟩ := hI
      refine h8 _ _ _ _ ?_
      rw [nI_1, cl (by omega : r + 1 < 2 ^ 31), i1 20 (by decide) (by decide), c4 (r + 1) (by omega)]
      refine ⟨in17 (by omega), fun _ => ⟨in17 (by omega), fun v2 e2 => ?_⟩, fun c => absurd (by rw [rs_s]; exact nI_le (Nat.le_refl _) (by omega)) c⟩
      rw [e2, cl (by omega : g < 2 ^ 31), i1 23 (by decide) (by decide), c5 g (by omega)]
      refine loop2 0 s (Nat.zero_le _) ⟨i1, fun i hi => ?_⟩
      obtain ⟨j, hj, e⟩ := prm.2.1 i hi
      rw [← e]; exact i2 j hj
    · obtain ⟨i1, i2⟩ := hI
      have hLm := hL m hm
      refine h8 _ _ _ _ ?_
      rw [nI_1, nI_1, cl (by omega : r + 1 < 2 ^ 31), cl (by omega : p.rs r + m < 2 ^ 31), i1 20 (by decide) (by decide), i1 18 (by decide) (by decide), c4 (r + 1) (by omega), c7 r m hr hm, cl (by omega : M r m < 2 ^ 31)]
      refine ⟨in17 (by omega), fun c => absurd ((nI_leI (by rw [rs_s]; omega) (by omega)).mp c) (by rw [rs_s]; omega), fun _ => ⟨in166 (by omega), in166 hLm, fun σ3 e3 => ⟨in166 (by omega), ?_⟩⟩⟩
      rw [show σ3 18 (p.rs r + m) = nI (M r m) by rw [e3, st_ne (by decide), i1 18 (by decide) (by decide)]; exact c7 r m hr hm, cl (by omega : M r m < 2 ^ 31)]
      refine ⟨in166 hLm, fun σ4 e4 => ih σ4 ⟨fun b h24 h25 => by rw [e4, st_ne h25, e3, st_ne h24]; exact i1 b h24 h25, fun j hj => ?_⟩⟩
      rw [e4, st_ne (by decide), st_app, e3, st_app, st_app]
      by_cases q : j = m
      · subst q; simp
      · have hne : M r j ≠ M r m := fun z => q (prm.2.2 j m (by omega) hm z)
        simp only [hne, and_false, if_false]
        exact i2 j (by omega)
  refine ⟨in17 (by omega), fun v1 e1 => ?_⟩
  rw [e1, cl (by omega : r < 2 ^ 31), c4 r (by omega)]
  exact loop1 0 σ (Nat.zero_le _) ⟨fun _ _ _ => rfl, fun j hj => absurd hj (by omega)⟩
theorem sp_arrange_22_21 (hp : PK p) {M : Nat → Nat → Nat} (hM : PM p M) (h : CO p M σ) {r g : Nat} (hr : r < p.R) (hg : g + 1 ≤ p.R) {post : S0 → Prop}
    (hpost : ∀ σ', (∀ b, b ≠ 16 → b ≠ 18 → b ≠ 24 → b ≠ 25 → σ' b = σ b) → CO p (p.od M true r g) σ' → post σ') : Sp_O_arrange_22_21 (nI r) (nI g) σ post := by
  have hR := hp.R16
  have hN := hp.N166
  have hrs := rs_N (p := p) (r := r + 1)
  rw [rs_s] at hrs
  obtain ⟨c1, c2, c3, c4, c5, c6, c7, c8⟩ := id h
  unfold Sp_O_arrange_22_21
  refine sp_weigh_22_21 hp hM h hr hg (fun σ1 f1 k1 => ?_)
  rw [nI_1, cl (by omega : r < 2 ^ 31), cl (by omega : r + 1 < 2 ^ 31), f1 20 (by decide) (by decide), c4 r (by omega), c4 (r + 1) (by omega), rs_s]
  refine ⟨in17 (by omega), in17 (by omega), sp_sortC (L := M r) (S := p.it r) (lt := p.lt M true g) (by omega) (fun j hj => by rw [f1 18 (by decide) (by decide)]; exact c7 r j hr hj) (hM r hr) (fun i hi => by have := it_lt hi; omega) (fun x y hx hy => by rw [(k1 x hx).1, (k1 x hx).2, (k1 y hy).1, (k1 y hy).2]; rfl) (fun σ2 f2 g2 o2 => ⟨in17 (by omega), ?_⟩)⟩
  have x20 : ∀ j, σ2 20 j = σ 20 j := fun j => by rw [f2 20 (by decide), f1 20 (by decide) (by decide)]
  rw [x20, c4 (r + 1) (by omega), rs_s]
  have prm' := srt_prm (lt := p.lt M true g) (hM r hr) _ (Nat.le_refl _)
  refine sp_number (L := srt (p.lt M true g) (p.cr r) (M r)) (by omega) (by rw [x20]; exact c4 r (by omega)) (by omega) (fun j hj => ⟨g2 j hj, by have := it_lt (prm'.1 j hj); omega⟩) prm'.2.2 (fun σ3 f3 g3 o3 => ?_)
  have keep : ∀ b, b ≠ 16 → b ≠ 18 → b ≠ 24 → b ≠ 25 → σ3 b = σ b := fun b h1 h2 h3 h4 => by rw [f3 b h1, f2 b h2, f1 b h3 h4]
  have hPM := od_PM hM true r g
  have odr : p.od M true r g r = srt (p.lt M true g) (p.cr r) (M r) := by unfold Pn.od; rw [if_pos rfl]
  refine hpost σ3 keep ⟨c1.of ⟨fun b h0 hb => keep b (by omega) (by omega) (by omega) (by omega), fun k _ => by rw [keep 0 (by decide) (by decide) (by decide) (by decide)]⟩, by rw [keep 0 (by decide) (by decide) (by decide) (by decide)]; exact c2, by rw [keep 0 (by decide) (by decide) (by decide) (by decide)]; exact c3, fun r' hr' => by rw [keep 20 (by decide) (by decide) (by decide) (by decide)]; exact c4 r' hr', fun r' hr' => by rw [keep 23 (by decide) (by decide) (by decide) (by decide)]; exact c5 r' hr', fun r' k hr' hk hh => by rw [keep 21 (by decide) (by decide) (by decide) (by decide), keep 22 (by decide) (by decide) (by decide) (by decide)]; exact c6 r' k hr' hk hh, fun r' j hr' hj => ?_, fun i hi hir => ?_⟩
  · rw [f3 18 (by decide)]
    by_cases q : r' = r
    · subst q; rw [odr]; exact g2 j hj
    · have hod : p.od M true r g r' = M r' := by unfold Pn.od; rw [if_neg q]
      rw [hod, o2, f1 18 (by decide) (by decide)]
      · exact c7 r' j hr' hj
      · rcases Nat.lt_or_ge r' r with q2 | q2
        · have := rs_mono (p := p) (show r' + 1 ≤ r by omega); rw [rs_s] at this; omega
        · have := rs_mono (p := p) (show r + 1 ≤ r' by omega); rw [rs_s] at this; omega
  · by_cases q : p.ir i = r
    · have hpl := pl_at hPM hi hir
      rw [q, odr] at hpl
      have := g3 _ hpl.1
      rw [hpl.2] at this; exact this
    · rw [pl_od q, o3 i (fun j hj z => q (by rw [← z]; exact (it_iff.mp (prm'.1 j hj)).2)), f2 16 (by decide), f1 16 (by decide) (by decide)]
      exact c8 i hi hir
set_option maxHeartbeats 1000000 in
theorem sp_weigh_21_22 (hp : PK p) {M : Nat → Nat → Nat} (hM : PM p M) (h : CO p M σ) {r g : Nat} (hr : r < p.R) (hg : g + 1 ≤ p.R) {post : S0 → Prop}
    (hpost : ∀ σ', (∀ b, b ≠ 24 → b ≠ 25 → σ' b = σ b) → (∀ i, p.it r i = true → σ' 24 i = p.kS M false g i ∧ σ' 25 i = p.kC false g i) → post σ') : Sp_O_weigh_21_22 (nI r) (nI g) σ post := by
  have hR := hp.R16
  have hn := hp.n120
  have hN := hp.N166
  have h150 := hp.fb150 (Nat.le_refl _)
  have hps := ps_n (p := p) (r := g + 1)
  rw [ps_s] at hps
  have hrs := rs_N (p := p) (r := r + 1)
  rw [rs_s] at hrs
  have prm := hM r hr
  obtain ⟨c1, c2, c3, c4, c5, c6, c7, c8⟩ := id h
  have hL : ∀ j, j < p.cr r → M r j < 166 := fun j hj => by have := it_lt (prm.1 j hj); omega
  let A : Nat → Nat → Nat := fun a i => sumN a (fun a => if p.ne false g (p.kx g a) = i then p.pl M (p.fa false g (p.kx g a)) else 0)
  let B : Nat → Nat → Nat := fun a i => sumN a (fun a => if p.ne false g (p.kx g a) = i then 1 else 0)
  have eA : ∀ i, A (p.pc g) i = p.ksum M false g i := fun i => by
    show sumN (cnt p.n (p.hs g)) _ = _
    rw [sumN_cnt]
    refine sumN_congr p.n (fun k hk => ?_)
    by_cases q : p.hs g k = true
    · rw [if_pos q, if_pos q, kx_cnt hk q]
    · rw [if_neg q, if_neg q]
  have eB : ∀ i, B (p.pc g) i = p.kcnt false g i := fun i => by
    show sumN (cnt p.n (p.hs g)) _ = _
    rw [sumN_cnt]
    refine sumN_congr p.n (fun k hk => ?_)
    by_cases q : p.hs g k = true
    · rw [if_pos q, if_pos q, kx_cnt hk q]
    · rw [if_neg q, if_neg q]
  unfold Sp_O_weigh_21_22
  intro G8 G61 G123 h8 h61 h123
  have loop3 : ∀ m s, m ≤ p.cr r → ((∀ b, b ≠ 24 → b ≠ 25 → s b = σ b) ∧ (∀ j, j < m → s 24 (M r j) = p.kS M false g (M r j) ∧ s 25 (M r j) = p.kC false g (M r j)) ∧ (∀ j, m ≤ j → j < p.cr r → s 24 (M r j) = nI (p.ksum M false g (M r j)) ∧ s 25 (M r j) = nI (p.kcnt false g (M r j)))) → G123 (nI r) (nI (p.rs r + m)) s := by
    refine upto (p.cr r) (fun m s => G123 (nI r) (nI (p.rs r + m)) s) _ (fun s hI => ?_) (fun m s hm hI ih => ?_)
    · obtain ⟨i1, i2, i3⟩ := hI
      refine h123 _ _ _ ?_
      rw [nI_1, cl (by omega : r + 1 < 2 ^ 31), i1 20 (by decide) (by decide), c4 (r + 1) (by omega)]
      refine ⟨in17 (by omega), fun _ => hpost s i1 (fun i hi => ?_), fun c => absurd (by rw [rs_s]; exact nI_le (Nat.le_refl _) (by omega)) c⟩
      obtain ⟨j, hj, e⟩ := prm.2.1 i hi
      rw [← e]; exact i2 j hj
    · obtain ⟨i1, i2, i3⟩ := hI
      have hLm := hL m hm
      refine h123 _ _ _ ?_
      rw [nI_1, nI_1, cl (by omega : r + 1 < 2 ^ 31), cl (by omega : p.rs r + m < 2 ^ 31), i1 20 (by decide) (by decide), i1 18 (by decide) (by decide), i1 16 (by decide) (by decide), c4 (r + 1) (by omega), c7 r m hr hm, cl (by omega : M r m < 2 ^ 31)]
      obtain ⟨x24, x25⟩ := i3 m (Nat.le_refl _) hm
      have hkn := kcnt_n (p := p) (dn := false) (g := g) (i := M r m)
      refine ⟨in17 (by omega), fun c => absurd ((nI_leI (by rw [rs_s]; omega) (by omega)).mp c) (by rw [rs_s]; omega), fun _ => ⟨in166 (by omega), in166 hLm, fun c => ?_, fun c => ⟨in166 (by omega), in166 (by omega), in166 hLm, in166 hLm, fun σ8 e8 => ⟨in166 (by omega), ?_⟩⟩⟩⟩
      · rw [x25] at c
        have hk0 : ¬ p.kcnt false g (M r m) = 0 := fun z => c (by rw [z]; rfl)
        refine ih s ⟨i1, fun j hj => ?_, fun j hj => i3 j (by omega)⟩
        by_cases q : j = m
        · subst q; rw [x24, x25]; unfold Pn.kS Pn.kC; rw [if_neg hk0, if_neg hk0]; exact ⟨rfl, rfl⟩
        · exact i2 j (by omega)
      · have e18 : σ8 18 (p.rs r + m) = nI (M r m) := by rw [e8, st_ne (by decide), i1 18 (by decide) (by decide)]; exact c7 r m hr hm
        rw [e18, cl (by omega : M r m < 2 ^ 31)]
        refine ⟨in166 hLm, fun σ9 e9 => ?_⟩
        rw [x25, show (0 : Int32) = nI 0 from rfl, nIx (by omega) (by omega)] at c
        obtain ⟨it1, it2⟩ := it_iff.mp (prm.1 m hm)
        have x9 : ∀ j, j < p.cr r → j ≠ m → σ9 24 (M r j) = s 24 (M r j) ∧ σ9 25 (M r j) = s 25 (M r j) := fun j hj hne => by
          have hne' : M r j ≠ M r m := fun z => hne (prm.2.2 j m hj hm z)
          rw [e9, st_ne (by decide), st_other hne', e8, st_other hne', st_ne (by decide)]; exact ⟨rfl, rfl⟩
        refine ih σ9 ⟨fun b h24 h25 => by rw [e9, st_ne h25, e8, st_ne h24]; exact i1 b h24 h25, fun j hj => ?_, fun j hj hj' => ?_⟩
        · by_cases q : j = m
          · subst q
            unfold Pn.kS Pn.kC
            rw [if_pos c, if_pos c, e9, st_ne (by decide), st_same, e8, st_same]
            exact ⟨c8 _ it1 (by omega), rfl⟩
          · rw [(x9 j (by omega) q).1, (x9 j (by omega) q).2]; exact i2 j (by omega)
        · rw [(x9 j hj' (by omega)).1, (x9 j hj' (by omega)).2]; exact i3 j (by omega) hj'
  have loop2 : ∀ a s, a ≤ p.pc g → ((∀ b, b ≠ 24 → b ≠ 25 → s b = σ b) ∧ (∀ i, p.it r i = true → s 24 i = nI (A a i) ∧ s 25 i = nI (B a i))) → G61 (nI r) (nI g) (nI (p.ps g + a)) s := by
    refine upto (p.pc g) (fun a s => G61 (nI r) (nI g) (nI (p.ps g + a)) s) _ (fun s hI => ?_) (fun a s ha hI ih => ?_)
    · obtain ⟨i1, i2⟩ := hI
      refine h61 _ _ _ _ ?_
      rw [nI_1, cl (by omega : g + 1 < 2 ^ 31), i1 23 (by decide) (by decide), c5 (g + 1) (by omega)]
      refine ⟨in17 (by omega), fun _ => ⟨in17 (by omega), fun v5 e5 => ?_⟩, fun c => absurd (by rw [ps_s]; exact nI_le (Nat.le_refl _) (by omega)) c⟩
      rw [e5, cl (by omega : r < 2 ^ 31), i1 20 (by decide) (by decide), c4 r (by omega)]
      refine loop3 0 s (Nat.zero_le _) ⟨i1, fun j hj => absurd hj (by omega), fun j _ hj => ?_⟩
      have := i2 _ (prm.1 j hj)
      rw [eA, eB] at this; exact this
    · obtain ⟨i1, i2⟩ := hI
      obtain ⟨p1, p2⟩ := h.piece (show g < p.R by omega) ha
      obtain ⟨⟨a1, a2⟩, ⟨a3, a4⟩, a5, a6⟩ := h.ends hp hM (show g < p.R by omega) ha
      refine h61 _ _ _ _ ?_
      rw [nI_1, nI_1, cl (by omega : g + 1 < 2 ^ 31), cl (by omega : p.ps g + a < 2 ^ 31), i1 23 (by decide) (by decide), i1 21 (by decide) (by decide), i1 22 (by decide) (by decide), i1 16 (by decide) (by decide), c5 (g + 1) (by omega), p1, p2, cl (by omega : p.fr g (p.kx g a) < 2 ^ 31), cl (by omega : p.tt g (p.kx g a) < 2 ^ 31), a4]
      refine ⟨in17 (by omega), fun c => absurd ((nI_leI (by rw [ps_s]; omega) (by omega)).mp c) (by rw [ps_s]; omega), fun _ => ⟨in406 (by omega), in166 (by omega), in406 (by omega), in166 (by omega), in166 (by omega), fun σ6 e6 => ⟨in406 (by omega), ?_⟩⟩⟩
      rw [show σ6 21 (p.ps g + a) = nI (p.fr g (p.kx g a)) by rw [e6, st_ne (by decide), i1 21 (by decide) (by decide)]; exact p1, cl (by omega : p.fr g (p.kx g a) < 2 ^ 31)]
      refine ⟨in166 (by omega), in166 (by omega), fun σ7 e7 => ih σ7 ⟨fun b h24 h25 => by rw [e7, st_ne h25, e6, st_ne h24]; exact i1 b h24 h25, fun i hi => ?_⟩⟩
      obtain ⟨y1, y2⟩ := i2 i hi
      show _ = nI (A a i + (if p.fr g (p.kx g a) = i then p.pl M (p.tt g (p.kx g a)) else 0)) ∧ _ = nI (B a i + (if p.fr g (p.kx g a) = i then 1 else 0))
      by_cases q : p.fr g (p.kx g a) = i
      · rw [if_pos q, if_pos q, e7, st_ne (by decide), e6, q, st_same, st_same, st_ne (by decide), y1, y2, nI_add, nI_1]; exact ⟨rfl, rfl⟩
      · rw [if_neg q, if_neg q, e7, st_ne (by decide), e6, st_other (fun z => q z.symm), st_other (fun z => q z.symm), st_ne (by decide)]; exact ⟨y1, y2⟩
  have loop1 : ∀ m s, m ≤ p.cr r → ((∀ b, b ≠ 24 → b ≠ 25 → s b = σ b) ∧ (∀ j, j < m → s 24 (M r j) = 0 ∧ s 25 (M r j) = 0)) → G8 (nI r) (nI g) (nI (p.rs r + m)) s := by
    refine upto (p.cr r) (fun m s => G8 (nI r) (nI g) (nI (p.rs r + m)) s) _ (fun s hI => ?_) (fun m s hm hI ih => ?_)
    · obtain ⟨i1, i2⟩ := hI
      refine h8 _ _ _ _ ?_
      rw [nI_1, cl (by omega : r + 1 < 2 ^ 31), i1 20 (by decide) (by decide), c4 (r + 1) (by omega)]
      refine ⟨in17 (by omega), fun _ => ⟨in17 (by omega), fun v2 e2 => ?_⟩, fun c => absurd (by rw [rs_s]; exact nI_le (Nat.le_refl _) (by omega)) c⟩
      rw [e2, cl (by omega : g < 2 ^ 31), i1 23 (by decide) (by decide), c5 g (by omega)]
      refine loop2 0 s (Nat.zero_le _) ⟨i1, fun i hi => ?_⟩
      obtain ⟨j, hj, e⟩ := prm.2.1 i hi
      rw [← e]; exact i2 j hj
    · obtain ⟨i1, i2⟩ := hI
      have hLm := hL m hm
      refine h8 _ _ _ _ ?_
      rw [nI_1, nI_1, cl (by omega : r + 1 < 2 ^ 31), cl (by omega : p.rs r + m < 2 ^ 31), i1 20 (by decide) (by decide), i1 18 (by decide) (by decide), c4 (r + 1) (by omega), c7 r m hr hm, cl (by omega : M r m < 2 ^ 31)]
      refine ⟨in17 (by omega), fun c => absurd ((nI_leI (by rw [rs_s]; omega) (by omega)).mp c) (by rw [rs_s]; omega), fun _ => ⟨in166 (by omega), in166 hLm, fun σ3 e3 => ⟨in166 (by omega), ?_⟩⟩⟩
      rw [show σ3 18 (p.rs r + m) = nI (M r m) by rw [e3, st_ne (by decide), i1 18 (by decide) (by decide)]; exact c7 r m hr hm, cl (by omega : M r m < 2 ^ 31)]
      refine ⟨in166 hLm, fun σ4 e4 => ih σ4 ⟨fun b h24 h25 => by rw [e4, st_ne h25, e3, st_ne h24]; exact i1 b h24 h25, fun j hj => ?_⟩⟩
      rw [e4, st_ne (by decide), st_app, e3, st_app, st_app]
      by_cases q : j = m
      · subst q; simp
      · have hne : M r j ≠ M r m := fun z => q (prm.2.2 j m (by omega) hm z)
        simp only [hne, and_false, if_false]
        exact i2 j (by omega)
  refine ⟨in17 (by omega), fun v1 e1 => ?_⟩
  rw [e1, cl (by omega : r < 2 ^ 31), c4 r (by omega)]
  exact loop1 0 σ (Nat.zero_le _) ⟨fun _ _ _ => rfl, fun j hj => absurd hj (by omega)⟩
theorem sp_arrange_21_22 (hp : PK p) {M : Nat → Nat → Nat} (hM : PM p M) (h : CO p M σ) {r g : Nat} (hr : r < p.R) (hg : g + 1 ≤ p.R) {post : S0 → Prop}
    (hpost : ∀ σ', (∀ b, b ≠ 16 → b ≠ 18 → b ≠ 24 → b ≠ 25 → σ' b = σ b) → CO p (p.od M false r g) σ' → post σ') : Sp_O_arrange_21_22 (nI r) (nI g) σ post := by
  have hR := hp.R16
  have hN := hp.N166
  have hrs := rs_N (p := p) (r := r + 1)
  rw [rs_s] at hrs
  obtain ⟨c1, c2, c3, c4, c5, c6, c7, c8⟩ := id h
  unfold Sp_O_arrange_21_22
  refine sp_weigh_21_22 hp hM h hr hg (fun σ1 f1 k1 => ?_)
  rw [nI_1, cl (by omega : r < 2 ^ 31), cl (by omega : r + 1 < 2 ^ 31), f1 20 (by decide) (by decide), c4 r (by omega), c4 (r + 1) (by omega), rs_s]
  refine ⟨in17 (by omega), in17 (by omega), sp_sortC (L := M r) (S := p.it r) (lt := p.lt M false g) (by omega) (fun j hj => by rw [f1 18 (by decide) (by decide)]; exact c7 r j hr hj) (hM r hr) (fun i hi => by have := it_lt hi; omega) (fun x y hx hy => by rw [(k1 x hx).1, (k1 x hx).2, (k1 y hy).1, (k1 y hy).2]; rfl) (fun σ2 f2 g2 o2 => ⟨in17 (by omega), ?_⟩)⟩
  have x20 : ∀ j, σ2 20 j = σ 20 j := fun j => by rw [f2 20 (by decide), f1 20 (by decide) (by decide)]
  rw [x20, c4 (r + 1) (by omega), rs_s]
  have prm' := srt_prm (lt := p.lt M false g) (hM r hr) _ (Nat.le_refl _)
  refine sp_number (L := srt (p.lt M false g) (p.cr r) (M r)) (by omega) (by rw [x20]; exact c4 r (by omega)) (by omega) (fun j hj => ⟨g2 j hj, by have := it_lt (prm'.1 j hj); omega⟩) prm'.2.2 (fun σ3 f3 g3 o3 => ?_)
  have keep : ∀ b, b ≠ 16 → b ≠ 18 → b ≠ 24 → b ≠ 25 → σ3 b = σ b := fun b h1 h2 h3 h4 => by rw [f3 b h1, f2 b h2, f1 b h3 h4]
  have hPM := od_PM hM false r g
  have odr : p.od M false r g r = srt (p.lt M false g) (p.cr r) (M r) := by unfold Pn.od; rw [if_pos rfl]
  refine hpost σ3 keep ⟨c1.of ⟨fun b h0 hb => keep b (by omega) (by omega) (by omega) (by omega), fun k _ => by rw [keep 0 (by decide) (by decide) (by decide) (by decide)]⟩, by rw [keep 0 (by decide) (by decide) (by decide) (by decide)]; exact c2, by rw [keep 0 (by decide) (by decide) (by decide) (by decide)]; exact c3, fun r' hr' => by rw [keep 20 (by decide) (by decide) (by decide) (by decide)]; exact c4 r' hr', fun r' hr' => by rw [keep 23 (by decide) (by decide) (by decide) (by decide)]; exact c5 r' hr', fun r' k hr' hk hh => by rw [keep 21 (by decide) (by decide) (by decide) (by decide), keep 22 (by decide) (by decide) (by decide) (by decide)]; exact c6 r' k hr' hk hh, fun r' j hr' hj => ?_, fun i hi hir => ?_⟩
  · rw [f3 18 (by decide)]
    by_cases q : r' = r
    · subst q; rw [odr]; exact g2 j hj
    · have hod : p.od M false r g r' = M r' := by unfold Pn.od; rw [if_neg q]
      rw [hod, o2, f1 18 (by decide) (by decide)]
      · exact c7 r' j hr' hj
      · rcases Nat.lt_or_ge r' r with q2 | q2
        · have := rs_mono (p := p) (show r' + 1 ≤ r by omega); rw [rs_s] at this; omega
        · have := rs_mono (p := p) (show r + 1 ≤ r' by omega); rw [rs_s] at this; omega
  · by_cases q : p.ir i = r
    · have hpl := pl_at hPM hi hir
      rw [q, odr] at hpl
      have := g3 _ hpl.1
      rw [hpl.2] at this; exact this
    · rw [pl_od q, o3 i (fun j hj z => q (by rw [← z]; exact (it_iff.mp (prm'.1 j hj)).2)), f2 16 (by decide), f1 16 (by decide) (by decide)]
      exact c8 i hi hir
def Pn.dn (p : Pn) (M : Nat → Nat → Nat) : Nat → Nat → Nat → Nat
  | 0 => M
  | m + 1 => p.od (p.dn M m) true (m + 1) m
def Pn.up (p : Pn) : Nat → (Nat → Nat → Nat) → Nat → Nat → Nat
  | 0, M => M
  | m + 1, M => p.up m (p.od M false m m)
def Pn.rnd (p : Pn) (M : Nat → Nat → Nat) : Nat → Nat → Nat := p.up (p.R - 1) (p.dn M (p.R - 1))
theorem dn_PM {M : Nat → Nat → Nat} (hM : PM p M) : ∀ m, PM p (p.dn M m)
  | 0 => hM
  | m + 1 => od_PM (dn_PM hM m) _ _ _
theorem up_PM : ∀ m (M : Nat → Nat → Nat), PM p M → PM p (p.up m M)
  | 0, _, h => h
  | m + 1, _, h => up_PM m _ (od_PM h _ _ _)
theorem rnd_PM {M : Nat → Nat → Nat} (hM : PM p M) : PM p (p.rnd M) := up_PM _ _ (dn_PM hM _)
def KO (σ σ' : S0) : Prop := ∀ b, b ≠ 16 → b ≠ 18 → b ≠ 24 → b ≠ 25 → σ' b = σ b
theorem KO.rf (σ : S0) : KO σ σ := fun _ _ _ _ _ => rfl
theorem KO.trans {a b c : S0} (h1 : KO a b) (h2 : KO b c) : KO a c := fun k x1 x2 x3 x4 => (h2 k x1 x2 x3 x4).trans (h1 k x1 x2 x3 x4)
theorem sp_runRound (hp : PK p) {M : Nat → Nat → Nat} (hM : PM p M) (h : CO p M σ) {post : S0 → Prop} (hpost : ∀ σ', KO σ σ' → CO p (p.rnd M) σ' → post σ') : Sp_O_runRound σ post := by
  have hR := hp.R16
  unfold Sp_O_runRound
  intro G2 G39 h2 h39
  have loop2 : ∀ m s M', m + 1 ≤ p.R → KO σ s → CO p M' s → PM p M' → p.up m M' = p.rnd M → G39 (nI m + (-1)) s := by
    intro m
    induction m with
    | zero =>
      intro s M' hm hK hC hPM he
      refine h39 _ _ ⟨fun _ => hpost s hK (by rw [← he]; exact hC), fun c => absurd (by decide) c⟩
    | succ m ih =>
      intro s M' hm hK hC hPM he
      rw [pk_m1]
      refine h39 _ _ ⟨fun c => absurd c (nI_pos (by omega)), fun _ => sp_arrange_21_22 hp hPM hC (by omega) (by omega) (fun σ' f hC' => ?_)⟩
      exact ih σ' _ (by omega) (hK.trans f) hC' (od_PM hPM _ _ _) he
  have fin : ∀ s, KO σ s → CO p (p.dn M (p.R - 1)) s → G39 (nI p.R - 2) s := fun s hK hC => by
    by_cases q : p.R = 0
    · rw [q]
      refine h39 _ _ ⟨fun _ => hpost s hK (by have e : p.rnd M = p.dn M (p.R - 1) := by unfold Pn.rnd; rw [q]; rfl
                                              rw [e]; exact hC), fun c => absurd (by decide) c⟩
    · have e : nI p.R - 2 = nI (p.R - 1) + (-1) := by
        obtain ⟨x, hx⟩ : ∃ x, p.R = x + 1 := ⟨p.R - 1, by omega⟩
        rw [hx, show x + 1 - 1 = x by omega, ← nI_1, Int32.sub_eq_add_neg, Int32.add_assoc]; rfl
      rw [e]
      exact loop2 (p.R - 1) s _ (by omega) hK hC (dn_PM hM _) rfl
  by_cases q : p.R = 0
  · refine h2 _ _ ⟨fun _ v1 e1 => ?_, fun c => absurd (by rw [h.2.1, q]; decide) c⟩
    rw [e1, h.2.1]; exact fin σ (KO.rf σ) (by rw [q]; exact h)
  · refine upto (p.R - 1) (fun m s => G2 (nI (m + 1)) s) (fun m s => KO σ s ∧ CO p (p.dn M m) s) (fun s hI => ?_) (fun m s hm hI ih => ?_) 0 σ (Nat.zero_le _) ⟨KO.rf σ, h⟩
    · have h9 := hI.2.2.1
      refine h2 _ _ ⟨fun _ v1 e1 => ?_, fun c => absurd (by rw [h9]; exact nI_le (by omega) (by omega)) c⟩
      rw [e1, h9]; exact fin s hI.1 hI.2
    · have h9 := hI.2.2.1
      refine h2 _ _ ⟨fun c => absurd (leN h9 c (by omega) (by omega)) (by omega), fun _ => ?_⟩
      rw [nI_pred]
      refine sp_arrange_22_21 hp (dn_PM hM m) hI.2 (by omega) (by omega) (fun σ' f hC' => ?_)
      rw [nI_1]; exact ih σ' ⟨hI.1.trans f, hC'⟩
end
