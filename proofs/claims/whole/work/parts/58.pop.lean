/-! How many bits are set. -/
def pop1 (m : Nat) : Nat := Nat.sub m (Nat.land (Nat.div m 2) 1431655765)
def pop2 (m : Nat) : Nat := Nat.add (Nat.land (pop1 m) 858993459) (Nat.land (Nat.div (pop1 m) 4) 858993459)
def pop3 (m : Nat) : Nat := Nat.land (Nat.add (pop2 m) (Nat.div (pop2 m) 16)) 252645135
def pop4 (m : Nat) : Nat := Nat.add (pop3 m) (Nat.div (pop3 m) 256)
def pop5 (m : Nat) : Nat := Nat.land (Nat.add (pop4 m) (Nat.div (pop4 m) 65536)) 63
def popOk (N : Nat) : Bool := Nat.rec true (fun n ih => cond (Nat.beq (pop5 (Nat.mul 2 n)) (pop5 n)) (cond (Nat.beq (pop5 (Nat.succ (Nat.mul 2 n))) (Nat.succ (pop5 n))) ih false) false) N
set_option maxRecDepth 1000000 in
theorem pop_all : popOk 32768 = true := by decide +kernel
theorem pop_step : ∀ N, popOk N = true → ∀ n, n < N → pop5 (2 * n) = pop5 n ∧ pop5 (2 * n + 1) = pop5 n + 1
  | 0, _, n, h => by omega
  | N + 1, hN, n, h => by
    have e : popOk (N + 1) = cond (Nat.beq (pop5 (Nat.mul 2 N)) (pop5 N)) (cond (Nat.beq (pop5 (Nat.succ (Nat.mul 2 N))) (Nat.succ (pop5 N))) (popOk N) false) false := rfl
    rw [e] at hN
    cases h1 : Nat.beq (pop5 (Nat.mul 2 N)) (pop5 N)
    · rw [h1] at hN; cases hN
    · cases h2 : Nat.beq (pop5 (Nat.succ (Nat.mul 2 N))) (Nat.succ (pop5 N))
      · rw [h1, h2] at hN; cases hN
      · rw [h1, h2] at hN
        by_cases q : n = N
        · subst q; exact ⟨Nat.eq_of_beq_eq_true h1, Nat.eq_of_beq_eq_true h2⟩
        · exact pop_step N hN n (by omega)
theorem pop_bits : ∀ k m, k ≤ 16 → m < 2 ^ k → pop5 m = cnt k (fun i => m.testBit i)
  | 0, m, _, h => by
    have : m = 0 := by simpa using h
    subst this; rfl
  | k + 1, m, hk, h => by
    have h2 : m / 2 < 2 ^ k := by rw [Nat.pow_succ] at h; omega
    have h3 : m / 2 < 32768 := Nat.lt_of_lt_of_le h2 (Nat.le_trans (Nat.pow_le_pow_right (by decide) (show k ≤ 15 by omega)) (by decide))
    have ih := pop_bits k (m / 2) (by omega) h2
    obtain ⟨s1, s2⟩ := pop_step 32768 pop_all (m / 2) h3
    rw [show k + 1 = 1 + k by omega, cnt_app]
    have e1 : cnt k (fun j => m.testBit (1 + j)) = cnt k (fun i => (m / 2).testBit i) := cnt_congr (fun j _ => by rw [Nat.add_comm 1 j, Nat.testBit_succ])
    rw [e1, ← ih]
    have e0 : cnt 1 (fun i => m.testBit i) = m % 2 := by
      show 0 + (if m.testBit 0 = true then 1 else 0) = m % 2
      rw [Nat.testBit_zero]
      by_cases q : m % 2 = 1
      · simp [q]
      · have : m % 2 = 0 := by omega
        simp [this]
    rw [e0]
    by_cases q : m % 2 = 1
    · have : m = 2 * (m / 2) + 1 := by omega
      rw [q]
      rw [← this] at s2; omega
    · have : m = 2 * (m / 2) := by omega
      rw [← this] at s1; omega
theorem nI_and {a b : Nat} : nI a &&& nI b = nI (a &&& b) := by
  refine Int32.toBitVec_inj.mp ?_
  rw [Int32.toBitVec_and]
  refine BitVec.eq_of_toNat_eq ?_
  rw [BitVec.toNat_and]
  show (a % 2 ^ 32) &&& (b % 2 ^ 32) = (a &&& b) % 2 ^ 32
  rw [Nat.and_mod_two_pow]
theorem IsSet.num {x : Int32} {f : Nat → Bool} (h : IsSet x f) : ∃ m, m < 65536 ∧ x = nI m ∧ ∀ i, i < 16 → m.testBit i = f i := by
  refine ⟨x.toBitVec.toNat, ?_, ?_, fun i hi => ?_⟩
  · refine Nat.lt_pow_two_of_testBit (n := 16) _ (fun i hi => ?_)
    by_cases q : i < 32
    · have := h i q
      unfold bt at this
      rw [decide_eq_false (by omega), Bool.false_and] at this
      exact this
    · exact Nat.testBit_lt_two_pow (Nat.lt_of_lt_of_le x.toBitVec.isLt (Nat.pow_le_pow_right (by decide) (by omega)))
  · refine Int32.toBitVec_inj.mp (BitVec.eq_of_toNat_eq ?_)
    show x.toBitVec.toNat = x.toBitVec.toNat % 2 ^ 32
    rw [Nat.mod_eq_of_lt x.toBitVec.isLt]
  · have := h.at hi
    exact this
theorem sp_bitCount {x : Int32} {f : Nat → Bool} (h : IsSet x f) {σ : S0} {post : Int32 → S0 → Prop} (hq : post (nI (cnt 16 f)) σ) : Sp_J_bitCount x σ post := by
  obtain ⟨m, hm, e, hb⟩ := h.num
  have ec : cnt 16 f = pop5 m := by rw [pop_bits 16 m (Nat.le_refl _) hm]; exact cnt_congr (fun i hi => (hb i hi).symm)
  have k1 : pop1 m ≤ m := Nat.sub_le _ _
  have k2 : pop2 m ≤ pop1 m + pop1 m / 4 := Nat.add_le_add Nat.and_le_left Nat.and_le_left
  have k3 : pop3 m ≤ pop2 m + pop2 m / 16 := Nat.and_le_left
  have k4 : pop4 m = pop3 m + pop3 m / 256 := rfl
  unfold Sp_J_bitCount
  intro v1 e1 v2 e2 v3 e3 v4 e4 v5 e5
  rw [e, pk_ushrN (by omega) 1 1 (by decide), show (1431655765 : Int32) = nI 1431655765 from rfl, nI_and, pk_sub (Nat.le_trans Nat.and_le_left (Nat.div_le_self _ _))] at e1
  have e1' : v1 = nI (pop1 m) := e1
  rw [e1', pk_ushrN (by omega) 2 2 (by decide), show (858993459 : Int32) = nI 858993459 from rfl, nI_and, nI_and, nI_add] at e2
  have e2' : v2 = nI (pop2 m) := e2
  rw [e2', pk_ushrN (by omega) 4 4 (by decide), show (252645135 : Int32) = nI 252645135 from rfl, nI_add, nI_and] at e3
  have e3' : v3 = nI (pop3 m) := e3
  rw [e3', pk_ushrN (by omega) 8 8 (by decide), nI_add] at e4
  have e4' : v4 = nI (pop4 m) := e4
  rw [e4', pk_ushrN (by omega) 16 16 (by decide), nI_add] at e5
  rw [e5, show (63 : Int32) = nI 63 from rfl, nI_and]
  rw [ec] at hq
  exact hq
