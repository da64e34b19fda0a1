/-! command() on both sides. -/
section
variable {p : Pn} {σ τ : S0} {B : Nat → Nat → Nat}
theorem CO.mark (hp : PK p) (hB : PM p B) (h : CO p B σ) {m : Nat} (hm : m < p.rs p.R) : σ 18 m = nI (p.mk B m) ∧ p.mk B m < 166 := by
  have hN := hp.N166
  have hok := (mk_ok hB hm).1
  refine ⟨?_, by omega⟩
  obtain ⟨r, j, hr, hj, e⟩ := mk_ex hm
  rw [e, mk_at hr hj]; exact h.2.2.2.2.2.2.1 r j hr hj
theorem sp_groupAt (hp : PK p) (hB : PM p B) (h : CO p B σ) {i : Nat} (hi : i < p.rs p.R) (hg : p.isg B i = true) {post : Int32 → S0 → Prop} (hq : post (nI (p.mk B i)) σ) : Sp_O_groupAt (nI (cnt i (p.isg B))) σ post := by
  have hN := hp.N166
  have hrs := rs_N (p := p) (r := p.R)
  have hci : cnt i (p.isg B) ≤ i := cnt_le i
  unfold Sp_O_groupAt
  intro G4 h4
  refine upto i (fun m (_ : Unit) => G4 (nI (cnt i (p.isg B) - cnt m (p.isg B))) (nI m) σ) (fun _ _ => True) (fun _ _ => ?_) (fun m _ hm _ ih => ?_) 0 () (Nat.zero_le _) trivial
  · show G4 (nI (cnt i (p.isg B) - cnt i (p.isg B))) (nI i) σ
    rw [Nat.sub_self]
    have hg' : p.mk B i < 16 := of_decide_eq_true hg
    refine h4 _ _ _ ⟨fun c => absurd (leN h.2.2.1 c (by omega) (by omega)) (by omega), fun _ => ⟨in166 (by omega), ?_⟩⟩
    rw [cl (by omega : i < 2 ^ 31), (h.mark hp hB hi).1]
    exact ⟨fun c => absurd ((le16 (by omega)).mp c) (by omega), fun _ => ⟨fun c => absurd rfl c, fun _ => ⟨in166 (by omega), hq⟩⟩⟩
  · have hmk := h.mark hp hB (show m < p.rs p.R by omega)
    have ih : G4 (nI (cnt i (p.isg B) - cnt (m + 1) (p.isg B))) (nI (m + 1)) σ := ih () trivial
    have ec : cnt (m + 1) (p.isg B) = cnt m (p.isg B) + (if p.isg B m = true then 1 else 0) := rfl
    show G4 (nI (cnt i (p.isg B) - cnt m (p.isg B))) (nI m) σ
    refine h4 _ _ _ ⟨fun c => absurd (leN h.2.2.1 c (by omega) (by omega)) (by omega), fun _ => ⟨in166 (by omega), ?_⟩⟩
    rw [cl (by omega : m < 2 ^ 31), hmk.1, nI_1 m]
    refine ⟨fun c => ?_, fun c => ?_⟩
    · have e : p.isg B m = false := decide_eq_false (by have := (le16 (by omega)).mp c; omega)
      rw [ec, e] at ih; exact ih
    · rw [le16 (by omega)] at c
      have e : p.isg B m = true := decide_eq_true (by omega)
      have hlt := cnt_lt_of hm e
      refine ⟨fun _ => ?_, fun c2 => ?_⟩
      · rw [ec, if_pos e] at ih
        rw [sb_m1 (by omega), Nat.sub_sub]; exact ih
      · have := (nIx (b := 0) (by omega) (by omega)).mp c2; omega
theorem sp_numberOfGroups (hp : PK p) (hB : PM p B) (h : CO p B σ) (cg : CG p B (p.rs p.R) τ) {x : Nat} (hx : x < 4 * cnt 16 p.dr) {post : Int32 → S0 → Prop} (hq : post (τ 20 x) σ) : Sp_M_numberOfGroups (nI x) σ post := by
  have h16 : cnt 16 p.dr ≤ 16 := cnt_le 16
  have hR := hp.R16
  have hN := hp.N166
  rw [← isg_cnt hp hB] at hx h16
  obtain ⟨n1, n2, n3⟩ := nthx_ok (p := p.isg B) (k := x / 4) (p.rs p.R) (by omega)
  generalize nthx (p.isg B) (p.rs p.R) (x / 4) = i at n1 n2 n3
  obtain ⟨c0, c1, c2, c3⟩ := cg i n1 n2
  obtain ⟨k1, k2⟩ := mk_ok hB n1
  have mk16 : p.mk B i < 16 := of_decide_eq_true n2
  have hdr : p.dr (p.mk B i) = true := by
    cases hd : p.dr (p.mk B i)
    · have := ir_n mk16 hd; omega
    · rfl
  have ed : nI x / 4 = nI (x / 4) := pk_div (d := 4) (by omega) (by omega) (by omega)
  have er : nI x - nI x / 4 * 4 = nI (x % 4) := pk_rem (a := x) (d := 4) (by omega) (by omega) (by omega)
  have v0 : nI (x % 4) = 0 ↔ x % 4 = 0 := nIx (b := 0) (by omega) (by omega)
  have v1 : nI (x % 4) = 1 ↔ x % 4 = 1 := nIx (b := 1) (by omega) (by omega)
  have v2 : nI (x % 4) = 2 ↔ x % 4 = 2 := nIx (b := 2) (by omega) (by omega)
  unfold Sp_M_numberOfGroups
  rw [er, ed, ← n3]
  refine sp_groupAt hp hB h n1 n2 ?_
  rw [cl (by omega : p.mk B i < 2 ^ 31), v0, v1, v2]
  refine ⟨⟨fun c => ?_, fun c => ?_, fun c => ⟨in166 (by omega), ?_⟩⟩, fun c => ⟨in16 mk16, ?_⟩⟩
  · rw [show 4 * cnt i (p.isg B) = x by omega] at c0; rw [c0] at hq; exact hq
  · rw [show 4 * cnt i (p.isg B) + 1 = x by omega] at c1; rw [c1] at hq; exact hq
  · rw [show 4 * cnt i (p.isg B) + 2 = x by omega] at c2; rw [c2] at hq
    rw [h.2.2.2.2.2.2.2 _ k1 k2, mul16]; exact hq
  · rw [show 4 * cnt i (p.isg B) + 3 = x by omega] at c3; rw [c3] at hq
    rw [h.1.2.2.2.2.1 _ mk16 hdr, ← ir_g mk16 hdr, mul16]; exact hq
theorem sp_numbersOf (hp : PK p) (h : PLp p σ) {k : Nat} (hk : k < p.n) {post : Int32 → S0 → Prop} (hq : post (nI (6 + 2 * p.nb k)) σ) : Sp_M_numbersOf (nI k) σ post := by
  unfold Sp_M_numbersOf
  refine sp_bendsP hp h hk ?_
  have e : (2 : Int32) + 2 * (nI (p.nb k) + 2) = nI (6 + 2 * p.nb k) := by
    rw [show (2 : Int32) = nI 2 from rfl, nI_add, pk_mul, nI_add]; congr 1; omega
  rw [e]; exact hq
set_option maxHeartbeats 1000000 in
theorem sp_numberOfLinks (hp : PK p) (h : CO p B σ) (cL : CL p B p.n τ) {y : Nat} (hy : p.lo 0 + y < p.lo p.n) {post : Int32 → S0 → Prop} (hq : post (τ 20 (p.lo 0 + y)) σ) : Sp_M_numberOfLinks (nI y) σ post := by
  have h120 := hp.n120
  have hN := hp.N166
  have hR := hp.R16
  have hlo := hp.lo1084 (Nat.le_refl _)
  have hn : 0 < p.n := by
    rcases Nat.eq_zero_or_pos p.n with q | q
    · rw [q] at hy; omega
    · exact q
  have h6 : σ 0 6 - 1 = nI (p.n - 1) := by rw [h.1.2.1, show (1 : Int32) = nI 1 from rfl, pk_sub (by omega)]
  unfold Sp_M_numberOfLinks
  intro G4 G40 h4 h40
  have last : ∀ k, k < p.n → p.lo k ≤ p.lo 0 + y → p.lo 0 + y < p.lo (k + 1) → G40 (nI (p.lo 0 + y - p.lo k)) (nI k) σ := fun k hk h1 h2 => by
    rw [lo_s] at h2
    obtain ⟨l, hl⟩ : ∃ l, p.lo 0 + y = p.lo k + l := ⟨p.lo 0 + y - p.lo k, by omega⟩
    rw [hl] at hq h2
    rw [hl, show p.lo k + l - p.lo k = l by omega]
    obtain ⟨l1, l2, l3, l4, l5, l6⟩ := hp.link hk
    have h14 := hp.nb14 hk
    obtain ⟨c0, c1, cj⟩ := cL k hk
    have x0 : nI l = 0 ↔ l = 0 := nIx (b := 0) (by omega) (by omega)
    have x1 : nI l = 1 ↔ l = 1 := nIx (b := 1) (by omega) (by omega)
    have er : nI l - nI l / 2 * 2 = nI (l % 2) := pk_rem (a := l) (d := 2) (by omega) (by omega) (by omega)
    have xr : nI (l % 2) = 0 ↔ l % 2 = 0 := nIx (b := 0) (by omega) (by omega)
    refine h40 _ _ _ ?_
    rw [er, x0, x1, xr]
    refine ⟨fun q0 => ⟨fun q1 v6 e6 => ?_, fun q1 => sp_bendsP hp h.1 hk ?_⟩, fun q0 => ?_⟩
    · rw [show (2 : Int32) = nI 2 from rfl, pk_sub (by omega), pk_div (by omega) (by omega) (by omega)] at e6
      obtain ⟨j, hj⟩ : ∃ j, (l - 2) / 2 = j := ⟨_, rfl⟩
      rw [hj] at e6
      rw [e6]
      obtain ⟨cj1, cj2⟩ := cj j (by omega)
      obtain ⟨p1, p2⟩ := hp.pt_ok (j := j) hk (by omega)
      refine ⟨fun c => ⟨in256 (by omega), ?_⟩, fun c => sp_pointOf hp h.1 hk (by omega) ⟨in166 (by omega), ?_⟩⟩
      · rw [cl (by omega : k < 2 ^ 31), (h.1.2.2.1 k hk).1, cl (by omega : p.U k < 2 ^ 31), h.1.2.2.2.2.1 _ l1 l3, nI_add, mul16, ← p2]
        rw [show p.lo k + 3 + 2 * j = p.lo k + l by omega] at cj2
        rw [cj2] at hq
        exact ⟨in16 l1, hq⟩
      · rw [show p.lo k + 2 + 2 * j = p.lo k + l by omega] at cj1
        rw [cj1] at hq
        rw [cl (by omega : p.pt k j < 2 ^ 31), h.2.2.2.2.2.2.2 _ p1 (by omega), mul16]; exact hq
    · rw [q1, c1] at hq
      rw [show (2 : Int32) = nI 2 from rfl, nI_add]; exact hq
    · rw [q0, Nat.add_zero, c0] at hq; exact hq
  have start : G4 (nI (p.lo 0 + y - p.lo 0)) (nI 0) σ := by
    refine upto (p.n - 1) (fun k (_ : Unit) => G4 (nI (p.lo 0 + y - p.lo k)) (nI k) σ) (fun k _ => p.lo k ≤ p.lo 0 + y) (fun _ hI => ?_) (fun k _ hk hI ih => ?_) 0 () (Nat.zero_le _) (by omega)
    · refine h4 _ _ _ ⟨fun _ => last (p.n - 1) (by omega) hI (by rw [show p.n - 1 + 1 = p.n by omega]; exact hy), fun c => absurd (by rw [h6]; exact nI_le (Nat.le_refl _) (by omega)) c⟩
    · have hk' : k < p.n := by omega
      have h14 := hp.nb14 hk'
      have ls := lo_s (p := p) (k := k)
      show G4 (nI (p.lo 0 + y - p.lo k)) (nI k) σ
      refine h4 _ _ _ ⟨fun c => absurd (leN h6 c (by omega) (by omega)) (by omega), fun _ => sp_numbersOf hp h.1 hk' ?_⟩
      rw [nI_ltI (by omega) (by omega)]
      refine ⟨fun c => last k hk' hI (by omega), fun c => sp_numbersOf hp h.1 hk' (fun v5 e5 => ?_)⟩
      rw [pk_sub (by omega)] at e5
      have ih : G4 (nI (p.lo 0 + y - p.lo (k + 1))) (nI (k + 1)) σ := ih () (show p.lo (k + 1) ≤ p.lo 0 + y by omega)
      rw [e5, nI_1, show p.lo 0 + y - p.lo k - (6 + 2 * p.nb k) = p.lo 0 + y - p.lo (k + 1) by omega]; exact ih
  rw [show p.lo 0 + y - p.lo 0 = y by omega] at start
  exact start
theorem m1_cases {a : Int32} (h : ¬ a < -1) : a = -1 ∨ ∃ j, j < 2 ^ 31 ∧ a = nI j := by
  by_cases q : a = -1
  · exact Or.inl q
  · refine Or.inr (nI_of (fun c => ?_))
    rw [Int32.lt_iff_toInt_lt] at h c
    have e1 : (-1 : Int32).toInt = -1 := by decide
    have e0 : (0 : Int32).toInt = 0 := by decide
    exact q (Int32.toInt_inj.mp (by omega))
set_option maxHeartbeats 1000000 in
theorem step_command {g : Nat → Int64} (h : InvP Sht σ τ) (a : Int32) : Sp_L_command a σ g (fun k σ1 g1 => Sp_R_command a τ (fun bb τ1 => Sp_R_thrown τ1 (fun th τ2 => th = k ∧ (k = 0 → g1 0 = bb.toInt64) ∧ K0 Sht σ1 τ2 g1))) := by
  obtain ⟨T, Gp, Ph, Hd, Th, hW, hC, hR, hS⟩ := id h
  unfold Sp_L_command Sp_M_command
  intro G10 G63 h10 h63
  by_cases ha : a < -1
  · refine ⟨fun _ => h10 _ _ _ ⟨fun c => absurd rfl c, fun _ => Or.inl ⟨rfl, ?_⟩⟩, fun c => absurd ha c⟩
    unfold Sp_R_command
    intro G26 G38 h26 h38
    exact ⟨fun _ => h26 _ _ _ ⟨fun _ => h38 _ _ _ _ (thr1 ⟨fun c => absurd c (by decide), fun _ => threw (r := 0) (by decide) (st_same _ _ _ _) (h.frame ShtF RF.put0)⟩), fun _ => h38 _ _ _ _ (thr1 ⟨fun c => absurd c (by decide), fun _ => threw (r := 0) (by decide) (st_same _ _ _ _) (h.frame ShtF RF.put0)⟩)⟩, fun c => absurd ha c⟩
  · refine ⟨fun c => absurd c ha, fun _ => h10 _ _ _ ⟨fun _ => ?_, fun c => absurd c (by decide)⟩⟩
    rcases hS with ⟨s0, s1⟩ | ⟨s0, s1, hp, its, hits, ⟨sc, sc8, sc17⟩, sr, sr2, sr16, sr6, cg, cL⟩
    · refine ⟨fun c => absurd s0 c, fun _ => Or.inr ⟨rfl, ?_⟩⟩
      unfold Sp_R_command
      intro G26 G38 h26 h38
      exact ⟨fun c => absurd c ha, fun _ => ⟨fun _ => h26 _ _ _ ⟨fun c => absurd s1 c, fun _ => h38 _ _ _ _ (thr2 ⟨fun c => absurd c (by decide), fun _ => threw (r := 0) (by decide) (st_same _ _ _ _) (h.frame ShtF RF.put0)⟩)⟩, fun c => absurd s1 c⟩⟩
    · have z1 : ¬ τ 0 1 = 0 := by rw [s1]; decide
      refine ⟨fun _ => ?_, fun c => absurd (by rw [← c, s0]) (by decide : ¬ (0 : Int32) = 1)⟩
      generalize hpq : pOf T Gp Ph Hd Th = p at *
      have hlo := hp.lo1084 (Nat.le_refl _)
      have hc16 : cnt 16 p.dr ≤ 16 := cnt_le 16
      have h120 := hp.n120
      have h150 := hp.fb150 (Nat.le_refl _)
      refine sp_bitCount sc.1.1 (fun v5 e5 v6 e6 => ?_)
      have e5' : v5 = nI (4 * cnt 16 p.dr) := e5.trans (pk_mul 4 _)
      have e6' : v6 = nI (p.lo p.n) := by
        rw [e6, e5', sc.1.2.1, sc.1.2.2.2.2.2.2, show (6 : Int32) = nI 6 from rfl, show (2 : Int32) = nI 2 from rfl, pk_mul, pk_mul, nI_add, nI_add]; rfl
      rw [e5', e6']
      have go : ∀ {F : Int32 → S0 → Prop}, a < nI (p.lo p.n) → (a = -1 → F (nI (p.lo p.n)) (st τ 0 0 0)) → (∀ x, x < p.lo p.n → a = nI x → F (τ 20 x) (st τ 0 0 0)) → Sp_R_command a τ F := fun {F} hl f1 f2 => by
        unfold Sp_R_command
        intro G26 G38 h26 h38
        rw [sr6]
        refine ⟨fun c => absurd c ha, fun _ => ⟨fun c => absurd c z1, fun _ => ⟨fun _ => h26 _ _ _ ⟨fun _ => h38 _ _ _ _ (thr0 ⟨fun _ => ⟨fun c => ?_, fun c => ?_⟩, fun c => absurd rfl c⟩), fun c => absurd c z1⟩, fun c => absurd hl c⟩⟩⟩
        · rcases m1_cases ha with q | ⟨x, hx, e⟩
          · exact absurd q c
          · rw [e, nI_ltI hx (by omega)] at hl
            have := f2 x hl e
            rw [e, cl hx, st_ne (by decide)]
            exact ⟨vp_in_nI (by omega) (by omega), this⟩
        · rw [st_other (by decide), sr6]; exact f1 c
      refine ⟨fun c => h63 _ _ _ _ _ ⟨fun c2 => absurd rfl c2, fun _ => Or.inl ⟨rfl, ?_⟩⟩, fun c => h63 _ _ _ _ _ ⟨fun _ => ?_, fun c2 => absurd c2 (by decide)⟩⟩
      · have nl : ¬ a < nI (p.lo p.n) := fun q => by
          rw [Int32.lt_iff_toInt_lt] at q; rw [Int32.le_iff_toInt_le] at c; omega
        unfold Sp_R_command
        intro G26 G38 h26 h38
        rw [sr6]
        exact ⟨fun c => absurd c ha, fun _ => ⟨fun c => absurd c z1, fun _ => ⟨fun c => absurd c nl, fun _ => h26 _ _ _ ⟨fun _ => h38 _ _ _ _ (thr1 ⟨fun c => absurd c (by decide), fun _ => threw (r := 0) (by decide) (st_same _ _ _ _) (h.frame ShtF RF.put0)⟩), fun _ => h38 _ _ _ _ (thr1 ⟨fun c => absurd c (by decide), fun _ => threw (r := 0) (by decide) (st_same _ _ _ _) (h.frame ShtF RF.put0)⟩)⟩⟩⟩⟩
      · have hl : a < nI (p.lo p.n) := by
          rw [Int32.lt_iff_toInt_lt]; rw [Int32.le_iff_toInt_le] at c; omega
        rcases m1_cases ha with q | ⟨x, hx, e⟩
        · exact ⟨fun c => absurd q c, fun _ => go hl (fun _ => both g_0 (st_same _ _ _ _) (h.frame ShtF RF.put0)) (fun x hx e => by
            rw [q] at e
            have h0 : (-1 : Int32) < 0 := by decide
            rw [e] at h0; exact absurd h0 (nI_pos (by omega)))⟩
        · have nm : ¬ a = -1 := fun q => by
            have h0 : (-1 : Int32) < 0 := by decide
            rw [← q, e] at h0; exact absurd h0 (nI_pos hx)
          have hxl : x < p.lo p.n := by rw [e, nI_ltI hx (by omega)] at hl; exact hl
          have uq : ∀ x', x' < p.lo p.n → a = nI x' → x' = x := fun x' h' e' => (nIx (by omega) hx).mp (by rw [← e', e])
          have ans : ∀ {r : Int32}, r = τ 20 x → Sp_R_command a τ (fun bb τ1 => Sp_R_thrown τ1 (fun th τ2 => th = 0 ∧ ((0 : Int32) = 0 → vp_updL g 0 r.toInt64 0 = bb.toInt64) ∧ K0 Sht σ τ2 (vp_updL g 0 r.toInt64))) := fun {r} er =>
            go hl (fun q => absurd q nm) (fun x' h' e' => by
              have := uq x' h' e'
              subst this
              rw [er]
              exact both g_0 (st_same _ _ _ _) (h.frame ShtF RF.put0))
          have hB : PM p (p.bst its) := bst_PM its
          have lo0 : p.lo 0 = 4 * cnt 16 p.dr := by
            have : p.fb 0 = 0 := rfl
            unfold Pn.lo; omega
          refine ⟨fun _ => ⟨fun c2 => ?_, fun c2 => ?_⟩, fun c => absurd c nm⟩
          · rw [e, nI_leI (by omega) hx] at c2
            rw [e, pk_sub (by omega), ← e]
            refine sp_numberOfLinks hp sc cL (y := x - 4 * cnt 16 p.dr) (by omega) ?_
            rw [show p.lo 0 + (x - 4 * cnt 16 p.dr) = x by omega]
            exact ans rfl
          · rw [e, nI_leI (by omega) hx] at c2
            rw [e]
            refine sp_numberOfGroups hp hB sc cg (by omega) ?_
            rw [← e]
            exact ans rfl
end
