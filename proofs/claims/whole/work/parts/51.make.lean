/-! The class keeps the best order. -/
def Pn.run (p : Pn) : Nat → Nat → Nat → Nat
  | 0 => p.M0
  | k + 1 => p.rnd (p.run k)
def Pn.xk (p : Pn) (k : Nat) : Int32 := nI (p.xc (p.run k))
def Pn.lst (p : Pn) : Nat → Int32
  | 0 => p.xk 0
  | k + 1 => if p.lst k ≤ p.xk (k + 1) then p.lst k else p.xk (k + 1)
def Pn.bst (p : Pn) : Nat → Nat → Nat → Nat
  | 0 => p.M0
  | k + 1 => if p.lst k ≤ p.xk (k + 1) then p.bst k else p.run (k + 1)
section
variable {p : Pn} {σ τ : S0}
theorem run_PM : ∀ k, PM p (p.run k)
  | 0 => PM0
  | k + 1 => rnd_PM (run_PM k)
theorem bst_PM : ∀ k, PM p (p.bst k)
  | 0 => PM0
  | k + 1 => by
    rw [Pn.bst]
    by_cases q : p.lst k ≤ p.xk (k + 1)
    · rw [if_pos q]; exact bst_PM k
    · rw [if_neg q]; exact run_PM (k + 1)
/-- where a mark of row r stands among all -/
theorem rs_in {r j : Nat} (hr : r < p.R) (hj : j < p.cr r) : p.rs r + j < p.rs p.R := by
  have := rs_mono (p := p) (show r + 1 ≤ p.R by omega)
  rw [rs_s] at this; omega
theorem cp_ne {a d n b : Nat} (h : b ≠ d) : cp σ a d n b = σ b := by funext j; rw [cp_app, if_neg (fun z => h z.1)]
theorem cpok_n {n : Nat} (h : n ≤ 166) : cpok (nI n) 166 166 := ⟨nI_pos (by omega), by rw [cl (by omega)]; exact h, by rw [cl (by omega)]; exact h⟩
theorem CO.keep {M : Nat → Nat → Nat} {σ' : S0} (h : CO p M σ) (f : ∀ b, b ≠ 17 → b ≠ 19 → σ' b = σ b) : CO p M σ' := by
  obtain ⟨c1, c2, c3, c4, c5, c6, c7, c8⟩ := h
  exact ⟨c1.of ⟨fun b h0 hb => f b (by omega) (by omega), fun k _ => by rw [f 0 (by decide) (by decide)]⟩, by rw [f 0 (by decide) (by decide)]; exact c2, by rw [f 0 (by decide) (by decide)]; exact c3, fun r hr => by rw [f 20 (by decide) (by decide)]; exact c4 r hr, fun r hr => by rw [f 23 (by decide) (by decide)]; exact c5 r hr, fun r k hr hk hh => by rw [f 21 (by decide) (by decide), f 22 (by decide) (by decide)]; exact c6 r k hr hk hh, fun r j hr hj => by rw [f 18 (by decide) (by decide)]; exact c7 r j hr hj, fun i hi hir => by rw [f 16 (by decide) (by decide)]; exact c8 i hi hir⟩
/-- the best marks -/
def BM (p : Pn) (M : Nat → Nat → Nat) (σ : S0) : Prop := ∀ r j, r < p.R → j < p.cr r → σ 19 (p.rs r + j) = nI (M r j)
theorem sp_keepBest (hp : PK p) {M : Nat → Nat → Nat} (h : CO p M σ) {post : S0 → Prop} (hpost : ∀ σ', (∀ b, b ≠ 19 → σ' b = σ b) → BM p M σ' → post σ') : Sp_O_keepBest σ post := by
  have hN := hp.N166
  have hrs := rs_N (p := p) (r := p.R)
  unfold Sp_O_keepBest
  rw [h.2.2.1, cl (by omega)]
  refine ⟨cpok_n (by omega), fun σ1 e1 => hpost σ1 (fun b hb => by rw [e1, cp_ne hb]) (fun r j hr hj => ?_)⟩
  rw [e1, cp_app, if_pos ⟨rfl, rs_in hr hj⟩]; exact h.2.2.2.2.2.2.1 r j hr hj
theorem sp_takeBest (hp : PK p) {M B : Nat → Nat → Nat} (hB : PM p B) (h : CO p M σ) (hb : BM p B σ) {post : S0 → Prop} (hpost : ∀ σ', (∀ b, b ≠ 16 → b ≠ 18 → σ' b = σ b) → CO p B σ' → post σ') : Sp_O_takeBest σ post := by
  have hN := hp.N166
  have hR := hp.R16
  have hrs := rs_N (p := p) (r := p.R)
  obtain ⟨c1, c2, c3, c4, c5, c6, c7, c8⟩ := id h
  unfold Sp_O_takeBest
  intro G19 h19
  rw [c3, cl (by omega)]
  refine ⟨cpok_n (by omega), fun σ1 e1 => ?_⟩
  refine upto p.R (fun r s => G19 (nI r) s) (fun r s => (∀ b, b ≠ 16 → b ≠ 18 → s b = σ b) ∧ (∀ r' j, r' < p.R → j < p.cr r' → s 18 (p.rs r' + j) = nI (B r' j)) ∧ ∀ i, i < p.N → p.ir i < r → s 16 i = nI (p.pl B i)) (fun s hI => ?_) (fun r s hr hI ih => ?_) 0 σ1 (Nat.zero_le _) ⟨fun b _ h18 => by rw [e1, cp_ne h18], fun r' j hr' hj => by rw [e1, cp_app, if_pos ⟨rfl, rs_in hr' hj⟩]; exact hb r' j hr' hj, fun i _ hir => absurd hir (by omega)⟩
  · obtain ⟨i1, i2, i3⟩ := hI
    refine h19 _ _ ⟨fun _ => hpost s i1 ⟨c1.of ⟨fun b h0 hb => i1 b (by omega) (by omega), fun k _ => by rw [i1 0 (by decide) (by decide)]⟩, by rw [i1 0 (by decide) (by decide)]; exact c2, by rw [i1 0 (by decide) (by decide)]; exact c3, fun r hr => by rw [i1 20 (by decide) (by decide)]; exact c4 r hr, fun r hr => by rw [i1 23 (by decide) (by decide)]; exact c5 r hr, fun r k hr hk hh => by rw [i1 21 (by decide) (by decide), i1 22 (by decide) (by decide)]; exact c6 r k hr hk hh, i2, i3⟩, fun c => absurd ?_ c⟩
    rw [i1 0 (by decide) (by decide), c2]; exact nI_le (Nat.le_refl _) (by omega)
  · obtain ⟨i1, i2, i3⟩ := hI
    have hrs' := rs_N (p := p) (r := r + 1)
    rw [rs_s] at hrs'
    have x9 : s 0 9 = nI p.R := by rw [i1 0 (by decide) (by decide)]; exact c2
    refine h19 _ _ ⟨fun c => absurd (leN x9 c (by omega) (by omega)) (by omega), fun _ => ?_⟩
    rw [nI_1, cl (by omega : r + 1 < 2 ^ 31), i1 20 (by decide) (by decide), c4 (r + 1) (by omega), rs_s]
    have prm := hB r hr
    refine ⟨in17 (by omega), sp_number (L := B r) (by omega) (by rw [i1 20 (by decide) (by decide)]; exact c4 r (by omega)) (by omega) (fun j hj => ⟨i2 r j hr hj, by have := it_lt (prm.1 j hj); omega⟩) prm.2.2 (fun σ' f1 g1 o1 => ?_)⟩
    refine ih σ' ⟨fun b h16 h18 => by rw [f1 b h16]; exact i1 b h16 h18, fun r' j hr' hj => by rw [f1 18 (by decide)]; exact i2 r' j hr' hj, fun i hi hir => ?_⟩
    by_cases q : p.ir i = r
    · have hpl := pl_at hB hi (by omega)
      rw [q] at hpl
      have := g1 _ hpl.1
      rw [hpl.2] at this; exact this
    · rw [o1 i (fun j hj z => q (by rw [← z]; exact (it_iff.mp (prm.1 j hj)).2))]; exact i3 i hi (by omega)
theorem in13 {k : Nat} (h : k < 13) : vp_in (nI k) 13 := vp_in_nI h (by omega)
set_option maxHeartbeats 1000000 in
theorem sp_omake (hp : PK p) (h : PLp p σ) {its : Nat} (hits : its ≤ 12) {post : Int32 → S0 → Prop} (hpost : ∀ σ', OF σ σ' → CO p (p.bst its) σ' → σ' 0 8 = nI its → (∀ k, k ≤ its → σ' 17 k = p.xk k) → post (p.lst its) σ') : Sp_O_make (nI its) σ post := by
  unfold Sp_O_make
  intro G42 h42 σ1 e1 σ2 e2
  have of2 : OF σ σ2 := by rw [e2, e1]; exact (OF.st (Or.inr ⟨rfl, by omega⟩)).trans (OF.st (Or.inr ⟨rfl, by omega⟩))
  have x9 : σ2 0 9 = nI p.R := by rw [e2, st_same, e1, st_other (by decide)]; exact h.2.2.2.1
  have x8 : σ2 0 8 = nI its := by rw [e2, st_other (by decide), e1, st_same]
  refine sp_layMarks hp (h.of of2) x9 (fun σ3 f3 f3' m3 k3 l3 r3 => ?_)
  have of3 : OF σ2 σ3 := ⟨fun b h0 hb => f3 b h0 (by omega) (by omega) (by omega), fun k hk => f3' k (by omega)⟩
  refine sp_layPieces hp (h.of (of2.trans of3)) (by rw [f3' 9 (by decide)]; exact x9) (fun σ4 f4 f4' p4 s4 => ?_)
  have of4 : OF σ3 σ4 := ⟨fun b h0 hb => f4 b h0 (by omega) (by omega) (by omega), fun k hk => f4' k (by omega)⟩
  have co4 : CO p p.M0 σ4 := ⟨h.of ((of2.trans of3).trans of4), by rw [f4' 9 (by decide), f3' 9 (by decide)]; exact x9, by rw [f4' 10 (by decide)]; exact m3, fun r hr => by rw [f4 20 (by decide) (by decide) (by decide) (by decide)]; exact r3 r hr, s4, p4, fun r j hr hj => by rw [f4 18 (by decide) (by decide) (by decide) (by decide)]; exact k3 r j hr hj, fun i hi hir => by rw [f4 16 (by decide) (by decide) (by decide) (by decide)]; exact l3 i hi hir⟩
  refine sp_countCrossings hp PM0 co4 ⟨in13 (k := 0) (by omega), fun σ7 e7 => ?_⟩
  have e7' : σ7 = st σ4 17 0 (p.xk 0) := e7
  have co7 : CO p p.M0 σ7 := co4.keep (fun b h17 _ => by rw [e7', st_ne h17])
  refine sp_keepBest hp co7 (fun σ8 f8 b8 => ?_)
  have x8' : σ8 0 8 = nI its := by rw [f8 0 (by decide), e7', st_ne (by decide), f4' 8 (by decide), f3' 8 (by decide)]; exact x8
  have of8 : OF σ σ8 := ((of2.trans of3).trans of4).trans ⟨fun b h0 hb => by rw [f8 b (by omega), e7', st_ne (by omega)], fun k hk => by rw [f8 0 (by decide), e7', st_ne (by decide)]⟩
  refine upto its (fun k s => G42 (p.lst k) (nI (k + 1)) s) (fun k s => OF σ s ∧ CO p (p.run k) s ∧ BM p (p.bst k) s ∧ s 0 8 = nI its ∧ ∀ j, j ≤ k → s 17 j = p.xk j) (fun s hI => ?_) (fun k s hk hI ih => ?_) 0 σ8 (Nat.zero_le _) ⟨of8, co7.keep (fun b _ h19 => f8 b h19), b8, x8', fun j hj => by rw [show j = 0 by omega, f8 17 (by decide), e7', st_same]⟩
  · obtain ⟨i1, i2, i3, i4, i5⟩ := hI
    refine h42 _ _ _ ⟨fun _ => sp_takeBest hp (bst_PM its) i2 i3 (fun σ9 f9 c9 => hpost σ9 (i1.trans ⟨fun b h0 hb => f9 b (by omega) (by omega), fun k hk => by rw [f9 0 (by decide) (by decide)]⟩) c9 (by rw [f9 0 (by decide) (by decide)]; exact i4) (fun k hk => by rw [f9 17 (by decide) (by decide)]; exact i5 k hk)), fun c => absurd ?_ c⟩
    rw [i4]; exact nI_lt (by omega) (by omega)
  · obtain ⟨i1, i2, i3, i4, i5⟩ := hI
    refine h42 _ _ _ ⟨fun c => ?_, fun _ => sp_runRound hp (run_PM k) i2 (fun σ10 f10 c10 => sp_countCrossings hp (run_PM (k + 1)) c10 ⟨in13 (by omega), fun σ13 e13 => ⟨in13 (by omega), ?_⟩⟩)⟩
    · rw [i4, nI_ltI (by omega) (by omega)] at c; omega
    · rw [cl (by omega : k + 1 < 2 ^ 31)] at e13 ⊢
      have e13' : σ13 = st σ10 17 (k + 1) (p.xk (k + 1)) := e13
      have of13 : OF σ σ13 := i1.trans ⟨fun b h0 hb => by rw [e13', st_ne (by omega), f10 b (by omega) (by omega) (by omega) (by omega)], fun j hj => by rw [e13', st_ne (by decide), f10 0 (by decide) (by decide) (by decide) (by decide)]⟩
      have co13 : CO p (p.run (k + 1)) σ13 := CO.keep (σ := σ10) c10 (fun b h17 _ => by rw [e13', st_ne h17])
      have x17 : ∀ j, j ≤ k + 1 → σ13 17 j = p.xk j := fun j hj => by
        rw [e13', st_app]
        by_cases q : j = k + 1
        · rw [if_pos ⟨rfl, q⟩, q]
        · rw [if_neg (fun z => q z.2), f10 17 (by decide) (by decide) (by decide) (by decide)]; exact i5 j (by omega)
      have x8k : σ13 0 8 = nI its := by rw [e13', st_ne (by decide), f10 0 (by decide) (by decide) (by decide) (by decide)]; exact i4
      have b13 : BM p (p.bst k) σ13 := fun r j hr hj => by rw [e13', st_ne (by decide), f10 19 (by decide) (by decide) (by decide) (by decide)]; exact i3 r j hr hj
      rw [x17 (k + 1) (Nat.le_refl _), nI_1]
      refine ⟨fun c => ?_, fun c => ⟨in13 (by omega), fun v14 e14 => sp_keepBest hp co13 (fun σ15 f15 b15 => ?_)⟩⟩
      · have el : p.lst (k + 1) = p.lst k := by rw [Pn.lst, if_pos c]
        have eb : p.bst (k + 1) = p.bst k := by rw [Pn.bst, if_pos c]
        have := ih σ13 ⟨of13, co13, by rw [eb]; exact b13, x8k, x17⟩
        rw [el] at this; exact this
      · have el : p.lst (k + 1) = p.xk (k + 1) := by rw [Pn.lst, if_neg c]
        have eb : p.bst (k + 1) = p.run (k + 1) := by rw [Pn.bst, if_neg c]
        have := ih σ15 ⟨of13.trans ⟨fun b h0 hb => f15 b (by omega), fun j hj => by rw [f15 0 (by decide)]⟩, co13.keep (fun b _ h19 => f15 b h19), by rw [eb]; exact b15, by rw [f15 0 (by decide)]; exact x8k, fun j hj => by rw [f15 17 (by decide)]; exact x17 j hj⟩
        rw [el] at this
        rw [e14]; exact this
end
