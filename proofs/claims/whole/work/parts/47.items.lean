/-! A plan by itself: drawn groups, their rows, how many rows, how many links, upper and lower ends. Items are groups and bends. -/
def Pn : Type := (Nat → Bool) × (Nat → Nat) × Nat × Nat × (Nat → Nat) × (Nat → Nat)
def Pn.dr (p : Pn) : Nat → Bool := p.1
def Pn.ro (p : Pn) : Nat → Nat := p.2.1
def Pn.R (p : Pn) : Nat := p.2.2.1
def Pn.n (p : Pn) : Nat := p.2.2.2.1
def Pn.U (p : Pn) : Nat → Nat := p.2.2.2.2.1
def Pn.W (p : Pn) : Nat → Nat := p.2.2.2.2.2
def Pn.nb (p : Pn) (k : Nat) : Nat := p.ro (p.W k) - p.ro (p.U k) - 1
def Pn.fb (p : Pn) (k : Nat) : Nat := sumN k p.nb
def Pn.N (p : Pn) : Nat := 16 + p.fb p.n
def Pn.ir (p : Pn) (i : Nat) : Nat := if i < 16 then (if p.dr i = true then p.ro i else 16) else sumN p.n (fun k => if 16 + p.fb k ≤ i ∧ i < 16 + p.fb (k + 1) then p.ro (p.U k) + 1 + (i - (16 + p.fb k)) else 0)
def Pn.pt (p : Pn) (k j : Nat) : Nat := if j = 0 then p.U k else if p.nb k < j then p.W k else 15 + p.fb k + j
def Pn.it (p : Pn) (r i : Nat) : Bool := decide (i < p.N) && decide (p.ir i = r)
def Pn.cr (p : Pn) (r : Nat) : Nat := cnt p.N (p.it r)
def Pn.rs (p : Pn) (r : Nat) : Nat := sumN r p.cr
def Pn.hs (p : Pn) (r k : Nat) : Bool := decide (p.ro (p.U k) ≤ r) && decide (r ≤ p.ro (p.U k) + p.nb k)
def Pn.pc (p : Pn) (r : Nat) : Nat := cnt p.n (p.hs r)
def Pn.ps (p : Pn) (r : Nat) : Nat := sumN r p.pc
def Pn.fr (p : Pn) (r k : Nat) : Nat := p.pt k (r - p.ro (p.U k))
def Pn.tt (p : Pn) (r k : Nat) : Nat := p.pt k (r - p.ro (p.U k) + 1)
def Pn.M0 (p : Pn) (r j : Nat) : Nat := nthx (p.it r) p.N j
def Pn.pl (p : Pn) (M : Nat → Nat → Nat) (i : Nat) : Nat := pos (p.cr (p.ir i)) (M (p.ir i)) i
def PM (p : Pn) (M : Nat → Nat → Nat) : Prop := ∀ r, r < p.R → Prm (p.it r) (p.cr r) (M r)
def PK (p : Pn) : Prop := p.R ≤ 16 ∧ p.n ≤ 120 ∧ (∀ k, k < p.n → p.U k < 16 ∧ p.W k < 16 ∧ p.dr (p.U k) = true ∧ p.dr (p.W k) = true ∧ p.ro (p.U k) < p.ro (p.W k)) ∧ (∀ g, g < 16 → p.dr g = true → p.ro g < p.R) ∧ p.fb p.n ≤ 150 ∧ (∀ r, r < p.R → ∃ g, g < 16 ∧ p.dr g = true ∧ p.ro g = r)
section
variable {p : Pn}
theorem PK.R16 (h : PK p) : p.R ≤ 16 := h.1
theorem PK.n120 (h : PK p) : p.n ≤ 120 := h.2.1
theorem PK.N166 (h : PK p) : p.N ≤ 166 := by have := h.2.2.2.2.1; unfold Pn.N; omega
theorem PK.link (h : PK p) {k : Nat} (hk : k < p.n) : p.U k < 16 ∧ p.W k < 16 ∧ p.dr (p.U k) = true ∧ p.dr (p.W k) = true ∧ p.ro (p.U k) + p.nb k + 1 = p.ro (p.W k) ∧ p.ro (p.W k) < p.R := by
  obtain ⟨a, b, c, d, e⟩ := h.2.2.1 k hk
  exact ⟨a, b, c, d, by unfold Pn.nb; omega, h.2.2.2.1 _ b d⟩
theorem PK.nb14 (h : PK p) {k : Nat} (hk : k < p.n) : p.nb k ≤ 14 := by have := h.link hk; have := h.R16; omega
theorem fb_s {k : Nat} : p.fb (k + 1) = p.fb k + p.nb k := rfl
theorem fb_mono {j k : Nat} (h : j ≤ k) : p.fb j ≤ p.fb k := sumN_mono h
theorem PK.fb150 (h : PK p) {k : Nat} (hk : k ≤ p.n) : p.fb k ≤ 150 := by have := h.2.2.2.2.1; have := fb_mono (p := p) hk; omega
theorem bend_lt {k j : Nat} (hk : k < p.n) (hj : j < p.nb k) : 16 + p.fb k + j < p.N := by
  have := fb_mono (p := p) (show k + 1 ≤ p.n by omega)
  rw [fb_s] at this
  unfold Pn.N; omega
theorem ir_g {g : Nat} (hg : g < 16) (hd : p.dr g = true) : p.ir g = p.ro g := by unfold Pn.ir; rw [if_pos hg, if_pos hd]
theorem ir_n {g : Nat} (hg : g < 16) (hd : p.dr g = false) : p.ir g = 16 := by unfold Pn.ir; rw [if_pos hg, if_neg (by rw [hd]; decide)]
theorem ir_b {k j : Nat} (hk : k < p.n) (hj : j < p.nb k) : p.ir (16 + p.fb k + j) = p.ro (p.U k) + 1 + j := by
  unfold Pn.ir
  rw [if_neg (by omega), sumN_one (j := k) p.n hk (fun k' hk' hne => ?_), if_pos ⟨by omega, by rw [fb_s]; omega⟩]
  · omega
  · refine if_neg ?_
    rintro ⟨h1, h2⟩
    rcases Nat.lt_or_ge k' k with q | q
    · have := fb_mono (p := p) (show k' + 1 ≤ k by omega); omega
    · have := fb_mono (p := p) (show k + 1 ≤ k' by omega)
      rw [fb_s] at this; omega
theorem bend_ex {i : Nat} (h16 : 16 ≤ i) (hi : i < p.N) : ∃ k j, k < p.n ∧ j < p.nb k ∧ i = 16 + p.fb k + j := by
  have key : ∀ m, m ≤ p.n → i < 16 + p.fb m → ∃ k j, k < p.n ∧ j < p.nb k ∧ i = 16 + p.fb k + j := by
    intro m
    induction m with
    | zero => intro _ h; have e : p.fb 0 = 0 := rfl
              rw [e] at h; omega
    | succ m ih =>
      intro hm h
      rcases Nat.lt_or_ge i (16 + p.fb m) with q | q
      · exact ih (by omega) q
      · rw [fb_s] at h
        exact ⟨m, i - (16 + p.fb m), by omega, by omega, by omega⟩
  exact key p.n (Nat.le_refl _) hi
theorem pt_0 {k : Nat} : p.pt k 0 = p.U k := rfl
theorem pt_b {k j : Nat} (hj : j < p.nb k) : p.pt k (j + 1) = 16 + p.fb k + j := by
  unfold Pn.pt; rw [if_neg (by omega), if_neg (by omega)]; omega
theorem pt_e {k : Nat} : p.pt k (p.nb k + 1) = p.W k := by unfold Pn.pt; rw [if_neg (by omega), if_pos (by omega)]
theorem PK.pt_ok (h : PK p) {k j : Nat} (hk : k < p.n) (hj : j ≤ p.nb k + 1) : p.pt k j < p.N ∧ p.ir (p.pt k j) = p.ro (p.U k) + j := by
  obtain ⟨a, b, c, d, e, f⟩ := h.link hk
  have hN : 16 ≤ p.N := by unfold Pn.N; omega
  cases j with
  | zero => rw [pt_0]; exact ⟨by omega, by rw [ir_g a c]; rfl⟩
  | succ j =>
    by_cases q : j < p.nb k
    · rw [pt_b q]; exact ⟨bend_lt hk q, by rw [ir_b hk q]; omega⟩
    · have : j = p.nb k := by omega
      subst this
      rw [pt_e]; exact ⟨by omega, by rw [ir_g b d]; omega⟩
theorem PK.item (h : PK p) {i : Nat} (hi : i < p.N) : p.ir i < p.R ∨ (i < 16 ∧ p.dr i = false ∧ p.ir i = 16) := by
  by_cases q : i < 16
  · cases hd : p.dr i
    · exact Or.inr ⟨q, rfl, ir_n q hd⟩
    · rw [ir_g q hd]; exact Or.inl (h.2.2.2.1 i q hd)
  · obtain ⟨k, j, hk, hj, e⟩ := bend_ex (by omega) hi
    have := h.link hk
    rw [e, ir_b hk hj]; left; omega
theorem it_iff {r i : Nat} : p.it r i = true ↔ i < p.N ∧ p.ir i = r := by unfold Pn.it; rw [Bool.and_eq_true, decide_eq_true_eq, decide_eq_true_eq]
theorem it_lt {r i : Nat} (h : p.it r i = true) : i < p.N := (it_iff.mp h).1
theorem rs_s {r : Nat} : p.rs (r + 1) = p.rs r + p.cr r := rfl
theorem rs_mono {a b : Nat} (h : a ≤ b) : p.rs a ≤ p.rs b := sumN_mono h
theorem rs_N {r : Nat} : p.rs r ≤ p.N := by
  have key : ∀ m, sumN r (fun r => cnt m (p.it r)) ≤ m := by
    intro m
    induction m with
    | zero => exact Nat.le_of_eq (sumN_0 r (fun _ _ => rfl))
    | succ m ih =>
      have e : sumN r (fun r => cnt (m + 1) (p.it r)) = sumN r (fun r => cnt m (p.it r)) + sumN r (fun r => i1 (p.it r m)) := by rw [← sumN_add]; rfl
      have h1 : sumN r (fun r => i1 (p.it r m)) ≤ 1 := by
        by_cases q : p.ir m < r
        · rw [sumN_one (j := p.ir m) r q (fun k _ hne => if_neg (fun z => hne (it_iff.mp z).2.symm))]
          show (if _ then 1 else 0) ≤ 1
          split <;> omega
        · rw [sumN_0 r (fun k hk => if_neg (fun z => by have := (it_iff.mp z).2; omega))]; omega
      omega
  exact key p.N
theorem cr_N {r : Nat} : p.cr r ≤ p.N := cnt_le _
theorem hs_iff {r k : Nat} : p.hs r k = true ↔ p.ro (p.U k) ≤ r ∧ r ≤ p.ro (p.U k) + p.nb k := by unfold Pn.hs; rw [Bool.and_eq_true, decide_eq_true_eq, decide_eq_true_eq]
theorem ps_s {r : Nat} : p.ps (r + 1) = p.ps r + p.pc r := rfl
theorem ps_mono {a b : Nat} (h : a ≤ b) : p.ps a ≤ p.ps b := sumN_mono h
theorem hs_sum {k : Nat} : ∀ r, sumN r (fun r => i1 (p.hs r k)) ≤ p.nb k + 1 ∧ (r ≤ p.ro (p.U k) → sumN r (fun r => i1 (p.hs r k)) = 0) ∧ (p.ro (p.U k) ≤ r → r ≤ p.ro (p.U k) + p.nb k + 1 → sumN r (fun r => i1 (p.hs r k)) = r - p.ro (p.U k)) ∧ (p.ro (p.U k) + p.nb k + 1 ≤ r → sumN r (fun r => i1 (p.hs r k)) = p.nb k + 1)
  | 0 => ⟨Nat.zero_le _, fun _ => rfl, fun h _ => by rw [sumN]; omega, fun h => by omega⟩
  | r + 1 => by
    obtain ⟨a, b, c, d⟩ := hs_sum (k := k) r
    rw [sumN]
    by_cases q : p.hs r k = true
    · rw [show i1 (p.hs r k) = 1 from if_pos q]
      have := hs_iff.mp q
      have := c this.1 (by omega)
      exact ⟨by omega, fun h => by omega, fun h1 h2 => by omega, fun h => by omega⟩
    · rw [show i1 (p.hs r k) = 0 from if_neg q]
      have : ¬ (p.ro (p.U k) ≤ r ∧ r ≤ p.ro (p.U k) + p.nb k) := fun z => q (hs_iff.mpr z)
      refine ⟨by omega, fun h => by have := b (by omega); omega, fun h1 h2 => ?_, fun h => ?_⟩
      · have := b (by omega); omega
      · have := d (by omega); omega
theorem ps_n {r : Nat} : p.ps r ≤ p.fb p.n + p.n := by
  have e : p.ps r = sumN p.n (fun k => sumN r (fun r => i1 (p.hs r k))) := by
    rw [← sumN_comm]; exact sumN_congr r (fun r _ => cnt_sum p.n)
  have h1 : sumN p.n (fun k => sumN r (fun r => i1 (p.hs r k))) ≤ sumN p.n (fun k => p.nb k + 1) := sumN_les p.n (fun k _ => (hs_sum r).1)
  have h2 : sumN p.n (fun k => p.nb k + 1) = p.fb p.n + sumN p.n (fun _ => 1) := sumN_add p.n
  have h3 : sumN p.n (fun _ => 1) ≤ p.n * 1 := sumN_le p.n (fun _ _ => Nat.le_refl _)
  omega
theorem M0_prm {r : Nat} : Prm (p.it r) (p.cr r) (p.M0 r) := by
  refine ⟨fun j hj => (nthx_ok p.N hj).2.1, fun i hi => ⟨cnt i (p.it r), cnt_lt_of (it_lt hi) hi, nthx_cnt (it_lt hi) hi⟩, fun a b ha hb e => ?_⟩
  have h1 := (nthx_ok p.N ha).2.2
  have h2 := (nthx_ok p.N hb).2.2
  unfold Pn.M0 at e
  rw [← h1, ← h2, e]
theorem PM0 : PM p p.M0 := fun _ _ => M0_prm
theorem M0_cnt {r i : Nat} (hi : p.it r i = true) : p.M0 r (cnt i (p.it r)) = i := nthx_cnt (it_lt hi) hi
theorem pl_M0 {i : Nat} (hi : i < p.N) : p.pl p.M0 i = cnt i (p.it (p.ir i)) := by
  have h : p.it (p.ir i) i = true := it_iff.mpr ⟨hi, rfl⟩
  have := M0_prm.posj (cnt_lt_of hi h)
  rw [M0_cnt h] at this; exact this
theorem pl_eq {M : Nat → Nat → Nat} (hM : PM p M) {r j : Nat} (hr : r < p.R) (hj : j < p.cr r) : M r j < p.N ∧ p.ir (M r j) = r ∧ p.pl M (M r j) = j := by
  have h := it_iff.mp ((hM r hr).1 j hj)
  exact ⟨h.1, h.2, by unfold Pn.pl; rw [h.2]; exact (hM r hr).posj hj⟩
theorem pl_at {M : Nat → Nat → Nat} (hM : PM p M) {i : Nat} (hi : i < p.N) (hr : p.ir i < p.R) : p.pl M i < p.cr (p.ir i) ∧ M (p.ir i) (p.pl M i) = i := (hM _ hr).at (it_iff.mpr ⟨hi, rfl⟩)
theorem PK.pl166 (h : PK p) {M : Nat → Nat → Nat} (hM : PM p M) {i : Nat} (hi : i < p.N) (hr : p.ir i < p.R) : p.pl M i < 166 := by
  have := pl_at hM hi hr
  have := h.N166
  have := cr_N (p := p) (r := p.ir i)
  omega
theorem PK.fr_ok (h : PK p) {r k : Nat} (hk : k < p.n) (hh : p.hs r k = true) : (p.fr r k < p.N ∧ p.ir (p.fr r k) = r ∧ r < p.R) ∧ p.tt r k < p.N ∧ p.ir (p.tt r k) = r + 1 ∧ r + 1 < p.R := by
  obtain ⟨a, b⟩ := hs_iff.mp hh
  have h1 := h.pt_ok (j := r - p.ro (p.U k)) hk (by omega)
  have h2 := h.pt_ok (j := r - p.ro (p.U k) + 1) hk (by omega)
  have h3 := h.link hk
  exact ⟨⟨h1.1, by unfold Pn.fr; rw [h1.2]; omega, by omega⟩, h2.1, by unfold Pn.tt; rw [h2.2]; omega, by omega⟩
end
