/-! Sums and counts. -/
theorem sumN_congr {f g : Nat → Nat} : ∀ n, (∀ k, k < n → f k = g k) → sumN n f = sumN n g
  | 0, _ => rfl
  | n + 1, h => by rw [sumN, sumN, sumN_congr n (fun k hk => h k (by omega)), h n (by omega)]
theorem sumN_0 {f : Nat → Nat} : ∀ n, (∀ k, k < n → f k = 0) → sumN n f = 0
  | 0, _ => rfl
  | n + 1, h => by rw [sumN, sumN_0 n (fun k hk => h k (by omega)), h n (by omega)]
theorem sumN_add {f g : Nat → Nat} : ∀ n, sumN n (fun k => f k + g k) = sumN n f + sumN n g
  | 0 => rfl
  | n + 1 => by rw [sumN, sumN, sumN, sumN_add n]; omega
theorem sumN_comm {f : Nat → Nat → Nat} {m : Nat} : ∀ n, sumN n (fun a => sumN m (fun b => f a b)) = sumN m (fun b => sumN n (fun a => f a b))
  | 0 => (sumN_0 m (fun _ _ => rfl)).symm
  | n + 1 => by
    rw [sumN, sumN_comm n, ← sumN_add]; exact sumN_congr m (fun b _ => rfl)
theorem sumN_app {f : Nat → Nat} {a : Nat} : ∀ m, sumN (a + m) f = sumN a f + sumN m (fun j => f (a + j))
  | 0 => rfl
  | m + 1 => by
    rw [show a + (m + 1) = (a + m) + 1 by omega, sumN, sumN_app m, sumN]; omega
theorem sumN_one {f : Nat → Nat} {j : Nat} : ∀ n, j < n → (∀ k, k < n → k ≠ j → f k = 0) → sumN n f = f j
  | 0, h, _ => by omega
  | n + 1, h, hz => by
    rw [sumN]
    by_cases q : j = n
    · subst q; rw [sumN_0 j (fun k hk => hz k (by omega) (by omega))]; omega
    · rw [sumN_one n (by omega) (fun k hk hne => hz k (by omega) hne), hz n (by omega) (by omega)]; omega
theorem sumN_ge {f : Nat → Nat} {j : Nat} : ∀ n, j < n → f j ≤ sumN n f
  | 0, h => by omega
  | n + 1, h => by
    rw [sumN]
    by_cases q : j = n
    · subst q; omega
    · have := sumN_ge (f := f) n (by omega : j < n); omega
theorem sumN_les {f g : Nat → Nat} : ∀ n, (∀ k, k < n → f k ≤ g k) → sumN n f ≤ sumN n g
  | 0, _ => Nat.le_refl _
  | n + 1, h => by
    rw [sumN, sumN]
    have h1 := sumN_les n (fun k hk => h k (by omega))
    have h2 := h n (by omega)
    omega
theorem sumN_pad {f : Nat → Nat} {a n : Nat} (h : a ≤ n) (hz : ∀ k, a ≤ k → k < n → f k = 0) : sumN n f = sumN a f := by
  have e : n = a + (n - a) := by omega
  rw [e, sumN_app, sumN_0 (n - a) (fun j hj => hz _ (by omega) (by omega))]; omega
/-- blocks: the k-th of length l k -/
theorem sumN_block {l : Nat → Nat} {f : Nat → Nat} : ∀ n, sumN (sumN n l) f = sumN n (fun k => sumN (l k) (fun j => f (sumN k l + j)))
  | 0 => rfl
  | n + 1 => by rw [sumN, sumN_app, sumN_block n]; rfl
abbrev i1 (b : Bool) : Nat := if b = true then 1 else 0
theorem cnt_sum {p : Nat → Bool} : ∀ n, cnt n p = sumN n (fun k => i1 (p k))
  | 0 => rfl
  | n + 1 => by rw [cnt, sumN, cnt_sum n]
theorem cnt_app {p : Nat → Bool} {a m : Nat} : cnt (a + m) p = cnt a p + cnt m (fun j => p (a + j)) := by rw [cnt_sum, cnt_sum, cnt_sum, sumN_app]
/-- over those where p holds, by their numbers -/
theorem sumN_cnt {p : Nat → Bool} {f : Nat → Nat} : ∀ n, sumN (cnt n p) f = sumN n (fun k => if p k = true then f (cnt k p) else 0)
  | 0 => rfl
  | n + 1 => by
    rw [cnt, sumN, ← sumN_cnt n]
    cases p n
    · rfl
    · rfl
/-- an interval's indicator -/
theorem cnt_at {c r : Nat} : ∀ m, cnt m (fun j => decide (c + j = r)) = if c ≤ r ∧ r < c + m then 1 else 0
  | 0 => by rw [cnt, if_neg (by omega)]
  | m + 1 => by
    rw [cnt, cnt_at m]
    by_cases q : c + m = r
    · rw [if_neg (by omega), if_pos (decide_eq_true q), if_pos (by omega)]
    · rw [show (if decide (c + m = r) = true then 1 else 0) = 0 from if_neg (by rw [decide_eq_false q]; decide)]
      by_cases q2 : c ≤ r ∧ r < c + m
      · rw [if_pos q2, if_pos (by omega)]
      · rw [if_neg q2, if_neg (by omega)]
/-- Lists: L lists the members of S below n, each once -/
def Prm (S : Nat → Bool) (n : Nat) (L : Nat → Nat) : Prop := (∀ j, j < n → S (L j) = true) ∧ (∀ i, S i = true → ∃ j, j < n ∧ L j = i) ∧ ∀ a b, a < n → b < n → L a = L b → a = b
def pos : Nat → (Nat → Nat) → Nat → Nat
  | 0, _, _ => 0
  | n + 1, L, i => if L n = i then n else pos n L i
theorem pos_eq {L : Nat → Nat} {i j : Nat} : ∀ n, j < n → L j = i → (∀ a, a < n → L a = i → a = j) → pos n L i = j
  | 0, h, _, _ => by omega
  | n + 1, h, e, hu => by
    rw [pos]
    by_cases q : L n = i
    · rw [if_pos q]; exact hu n (by omega) q
    · rw [if_neg q]
      have : j ≠ n := fun z => q (by rw [← z]; exact e)
      exact pos_eq n (by omega) e (fun a ha => hu a (by omega))
theorem Prm.posj {S : Nat → Bool} {n : Nat} {L : Nat → Nat} (h : Prm S n L) {j : Nat} (hj : j < n) : pos n L (L j) = j := pos_eq n hj rfl (fun a ha e => h.2.2 a j ha hj e)
theorem Prm.at {S : Nat → Bool} {n : Nat} {L : Nat → Nat} (h : Prm S n L) {i : Nat} (hi : S i = true) : pos n L i < n ∧ L (pos n L i) = i := by
  obtain ⟨j, hj, e⟩ := h.2.1 i hi
  have := h.posj hj
  rw [e] at this
  rw [this]; exact ⟨hj, e⟩
/-- as many of a kind in the list as in the set -/
theorem Prm.count {S : Nat → Bool} {n : Nat} {L : Nat → Nat} (h : Prm S n L) {N : Nat} (hN : ∀ i, S i = true → i < N) (q : Nat → Bool) : cnt n (fun j => q (L j)) = cnt N (fun i => S i && q i) := by
  have e1 : ∀ j, j < n → i1 (q (L j)) = sumN N (fun i => if L j = i then i1 (q i) else 0) := fun j hj => by
    rw [sumN_one (j := L j) N (hN _ (h.1 j hj)) (fun k _ hk => if_neg (fun z => hk z.symm)), if_pos rfl]
  rw [cnt_sum, cnt_sum, sumN_congr n e1, sumN_comm]
  refine sumN_congr N (fun i hi => ?_)
  cases hS : S i
  · rw [Bool.false_and]
    exact sumN_0 n (fun j hj => if_neg (fun z => by have := h.1 j hj; rw [z, hS] at this; cases this))
  · rw [Bool.true_and]
    obtain ⟨j, hj, e⟩ := h.2.1 i hS
    rw [sumN_one (j := j) n hj (fun k hk hne => if_neg (fun z => hne (h.2.2 k j hk hj (z.trans e.symm)))), if_pos e]
/-- sorting by insertion -/
def up1 (L : Nat → Nat) (j v : Nat) : Nat → Nat := fun i => if i = j then v else L i
def shf (lt : Nat → Nat → Bool) (x : Nat) : Nat → (Nat → Nat) → Nat → Nat
  | 0, L => up1 L 0 x
  | j + 1, L => if lt x (L j) = true then shf lt x j (up1 L (j + 1) (L j)) else up1 L (j + 1) x
def srt (lt : Nat → Nat → Bool) : Nat → (Nat → Nat) → Nat → Nat
  | 0, L => L
  | i + 1, L => shf lt (srt lt i L i) i (srt lt i L)
theorem up1_self {L : Nat → Nat} {j : Nat} : up1 L j (L j) = L := by
  funext i; unfold up1
  by_cases q : i = j
  · rw [if_pos q, q]
  · rw [if_neg q]
theorem srt_1 {lt : Nat → Nat → Bool} {L : Nat → Nat} : srt lt 1 L = L := up1_self
theorem Prm.swap {S : Nat → Bool} {n : Nat} {L : Nat → Nat} (h : Prm S n L) {s : Nat → Nat} (h1 : ∀ i, i < n → s i < n) (h2 : ∀ i, s (s i) = i) : Prm S n (fun i => L (s i)) := by
  refine ⟨fun j hj => h.1 _ (h1 j hj), fun i hi => ?_, fun a b ha hb e => ?_⟩
  · obtain ⟨j, hj, e⟩ := h.2.1 i hi
    exact ⟨s j, h1 j hj, by show L (s (s j)) = i; rw [h2]; exact e⟩
  · have := h.2.2 _ _ (h1 a ha) (h1 b hb) e
    rw [← h2 a, this, h2]
theorem shf_prm {S : Nat → Bool} {n : Nat} {lt : Nat → Nat → Bool} {x : Nat} : ∀ j L, j < n → Prm S n (up1 L j x) → Prm S n (shf lt x j L)
  | 0, L, _, h => h
  | j + 1, L, hj, h => by
    rw [shf]
    by_cases q : lt x (L j) = true
    · rw [if_pos q]
      refine shf_prm j _ (by omega) ?_
      have := h.swap (s := fun i => if i = j then j + 1 else if i = j + 1 then j else i) (fun i hi => by
        show (if i = j then j + 1 else if i = j + 1 then j else i) < n
        split
        · omega
        · split <;> omega) (fun i => by
        show (if (if i = j then j + 1 else if i = j + 1 then j else i) = j then j + 1 else if (if i = j then j + 1 else if i = j + 1 then j else i) = j + 1 then j else (if i = j then j + 1 else if i = j + 1 then j else i)) = i
        by_cases q1 : i = j
        · subst q1; simp
        · by_cases q2 : i = j + 1
          · subst q2; simp
          · simp [q1, q2])
      have e : (fun i => up1 L (j + 1) x (if i = j then j + 1 else if i = j + 1 then j else i)) = up1 (up1 L (j + 1) (L j)) j x := by
        funext i
        unfold up1
        by_cases q1 : i = j
        · subst q1; simp
        · by_cases q2 : i = j + 1
          · subst q2; simp
          · simp [q1, q2]
      rw [← e]; exact this
    · rw [if_neg q]; exact h
theorem srt_prm {S : Nat → Bool} {n : Nat} {lt : Nat → Nat → Bool} {L : Nat → Nat} (h : Prm S n L) : ∀ i, i ≤ n → Prm S n (srt lt i L)
  | 0, _ => h
  | i + 1, hi => by
    rw [srt]
    have ih := srt_prm h (lt := lt) i (by omega)
    exact shf_prm i _ (by omega) (by rw [up1_self]; exact ih)
