/-! PURE PART. Bits (the first rows began as the kit's laws/BITS), loops, sets in a number. -/
def bt (x : Int32) (i : Nat) : Bool := x.toBitVec.getLsbD i
theorem b_ext {x y : Int32} (h : ∀ i, i < 32 → bt x i = bt y i) : x = y := Int32.toBitVec_inj.mp (BitVec.eq_of_getLsbD_eq (fun i hi => h i hi))
theorem b_or (x y : Int32) (i : Nat) : bt (x ||| y) i = (bt x i || bt y i) := by unfold bt; rw [Int32.toBitVec_or, BitVec.getLsbD_or]
theorem b_and (x y : Int32) (i : Nat) : bt (x &&& y) i = (bt x i && bt y i) := by unfold bt; rw [Int32.toBitVec_and, BitVec.getLsbD_and]
theorem b_xor (x y : Int32) (i : Nat) : bt (x ^^^ y) i = (bt x i ^^ bt y i) := by unfold bt; rw [Int32.toBitVec_xor, BitVec.getLsbD_xor]
theorem b_big {x : Int32} {i : Nat} (h : 32 ≤ i) : bt x i = false := BitVec.getLsbD_of_ge _ _ h
theorem b_m1 : ∀ i, i < 32 → bt (-1) i = true := by decide +kernel
theorem b_0 (i : Nat) : bt 0 i = false := BitVec.getLsbD_zero
theorem b_1 : ∀ i, i < 32 → bt 1 i = decide (i = 0) := by decide +kernel
theorem s_l : ∀ n, n < 32 → ((nI n &&& 31).toBitVec.smod 32).toNat = n := by decide +kernel
theorem b_shl (n : Nat) (hn : n < 32) (x : Int32) {i : Nat} (hi : i < 32) : bt (x <<< (nI n &&& 31)) i = (decide (n ≤ i) && bt x (i - n)) := by
  unfold bt
  rw [Int32.toBitVec_shiftLeft]
  show (x.toBitVec <<< ((nI n &&& 31).toBitVec.smod 32).toNat).getLsbD i = _
  rw [s_l n hn, BitVec.getLsbD_shiftLeft]
  rcases Nat.lt_or_ge i n with h | h
  · simp [h, Nat.not_le.mpr h]
  · simp [hi, h, Nat.not_lt.mpr h]
theorem b_sshr (n : Nat) (hn : n < 32) (x : Int32) {i : Nat} (hi : i < 32) : bt (x >>> (nI n &&& 31)) i = if n + i < 32 then bt x (n + i) else bt x 31 := by
  unfold bt
  rw [Int32.toBitVec_shiftRight]
  show (x.toBitVec.sshiftRight ((nI n &&& 31).toBitVec.smod 32).toNat).getLsbD i = _
  rw [s_l n hn, BitVec.getLsbD_sshiftRight, BitVec.msb_eq_getLsbD_last]
  simp [hi]
/-- the bit that 'has' looks at -/
theorem has_bit (x : Int32) {n : Nat} (hn : n < 32) : ((x >>> (nI n &&& 31)) &&& 1) = 0 ↔ bt x n = false := by
  constructor
  · intro h
    have h1 := congrArg (fun z => bt z 0) h
    simp only [b_and, b_0] at h1
    rw [b_sshr n hn x (by omega), b_1 0 (by omega), Nat.add_zero, if_pos hn] at h1
    simpa using h1
  · intro h
    apply b_ext
    intro i hi
    rw [b_and, b_0, b_1 i hi]
    by_cases h0 : i = 0
    · subst h0
      rw [b_sshr n hn x (by omega), Nat.add_zero, if_pos hn, h]; rfl
    · rw [decide_eq_false h0, Bool.and_false]
theorem b_one {n : Nat} (hn : n < 32) {i : Nat} (hi : i < 32) : bt ((1 : Int32) <<< (nI n &&& 31)) i = decide (i = n) := by
  rw [b_shl n hn 1 hi, b_1 (i - n) (by omega)]
  by_cases h : i = n
  · subst h; simp
  · by_cases h2 : n ≤ i
    · have : ¬ i - n = 0 := by omega
      simp [h, h2, this]
    · simp [h, h2]
/-- a number as a set of contexts -/
def IsSet (x : Int32) (f : Nat → Bool) : Prop := ∀ i, i < 32 → bt x i = (decide (i < 16) && f i)
theorem IsSet.at {x : Int32} {f : Nat → Bool} (h : IsSet x f) {i : Nat} (hi : i < 16) : bt x i = f i := by
  rw [h i (by omega), decide_eq_true hi, Bool.true_and]
theorem IsSet.zero : IsSet 0 (fun _ => false) := fun i _ => by rw [b_0, Bool.and_false]
theorem IsSet.or {x y : Int32} {f g : Nat → Bool} (hx : IsSet x f) (hy : IsSet y g) : IsSet (x ||| y) (fun i => f i || g i) := fun i hi => by
  rw [b_or, hx i hi, hy i hi]; cases decide (i < 16) <;> simp
theorem IsSet.and {x y : Int32} {f g : Nat → Bool} (hx : IsSet x f) (hy : IsSet y g) : IsSet (x &&& y) (fun i => f i && g i) := fun i hi => by
  rw [b_and, hx i hi, hy i hi]; cases decide (i < 16) <;> simp
theorem IsSet.diff {x y : Int32} {f g : Nat → Bool} (hx : IsSet x f) (hy : IsSet y g) : IsSet (x &&& (y ^^^ (-1))) (fun i => f i && !g i) := fun i hi => by
  rw [b_and, b_xor, hx i hi, hy i hi, b_m1 i hi]; cases decide (i < 16) <;> simp
theorem IsSet.xor {x y : Int32} {f g : Nat → Bool} (hx : IsSet x f) (hy : IsSet y g) : IsSet (x ^^^ y) (fun i => f i ^^ g i) := fun i hi => by
  rw [b_xor, hx i hi, hy i hi]; cases decide (i < 16) <;> simp
theorem IsSet.one {n : Nat} (hn : n < 16) : IsSet ((1 : Int32) <<< (nI n &&& 31)) (fun i => decide (i = n)) := fun i hi => by
  rw [b_one (by omega) hi]
  by_cases h : i = n
  · subst h; simp [hn]
  · simp [h]
theorem IsSet.ext {x : Int32} {f g : Nat → Bool} (h : IsSet x f) (hfg : ∀ i, i < 16 → f i = g i) : IsSet x g := fun i hi => by
  rw [h i hi]
  by_cases h2 : i < 16
  · rw [hfg i h2]
  · simp [h2]
theorem IsSet.eq0 {x : Int32} {f : Nat → Bool} (h : IsSet x f) : x = 0 ↔ ∀ i, i < 16 → f i = false := by
  constructor
  · intro e i hi
    rw [← h.at hi, e, b_0]
  · intro e
    apply b_ext
    intro i hi
    rw [b_0, h i hi]
    by_cases h2 : i < 16
    · rw [e i h2, Bool.and_false]
    · simp [h2]
theorem IsSet.inj {x y : Int32} {f : Nat → Bool} (hx : IsSet x f) (hy : IsSet y f) : x = y := b_ext (fun i hi => by rw [hx i hi, hy i hi])
/-- some k below n -/
def anyB (n : Nat) (p : Nat → Bool) : Bool := match n with
  | 0 => false
  | n + 1 => anyB n p || p n
theorem anyB_iff {n : Nat} {p : Nat → Bool} : anyB n p = true ↔ ∃ k, k < n ∧ p k = true := by
  induction n with
  | zero => simp [anyB]
  | succ n ih =>
    rw [anyB, Bool.or_eq_true, ih]
    constructor
    · rintro (⟨k, h1, h2⟩ | h)
      · exact ⟨k, by omega, h2⟩
      · exact ⟨n, by omega, h⟩
    · rintro ⟨k, h1, h2⟩
      rcases Nat.lt_or_ge k n with h | h
      · exact Or.inl ⟨k, h, h2⟩
      · have : k = n := by omega
        subst this; exact Or.inr h2
theorem anyB_congr {n : Nat} {p q : Nat → Bool} (h : ∀ k, k < n → p k = q k) : anyB n p = anyB n q := by
  induction n with
  | zero => rfl
  | succ n ih => rw [anyB, anyB, ih (fun k hk => h k (by omega)), h n (by omega)]
theorem anyB_false {n : Nat} {p : Nat → Bool} : anyB n p = false ↔ ∀ k, k < n → p k = false := by
  rw [← Bool.not_eq_true, anyB_iff]
  constructor
  · intro h k hk
    rw [← Bool.not_eq_true]
    exact fun q => h ⟨k, hk, q⟩
  · rintro h ⟨k, hk, q⟩
    rw [h k hk] at q; cases q
/-- loops that count up -/
theorem upto {S : Type} (N : Nat) (G : Nat → S → Prop) (I : Nat → S → Prop) (hend : ∀ s, I N s → G N s) (hstep : ∀ k s, k < N → I k s → (∀ s', I (k + 1) s' → G (k + 1) s') → G k s) : ∀ k s, k ≤ N → I k s → G k s := by
  have : ∀ d k s, k + d = N → I k s → G k s := by
    intro d
    induction d with
    | zero => intro k s h hi; have : k = N := by omega
              subst this; exact hend s hi
    | succ d ih => intro k s h hi; exact hstep k s (by omega) hi (fun s' h' => ih (k + 1) s' (by omega) h')
  intro k s h hi
  exact this (N - k) k s (by omega) hi
/-- numbers -/
theorem le16 {k : Nat} (h : k < 2 ^ 31) : (16 : Int32) ≤ nI k ↔ 16 ≤ k := nI_leI (a := 16) (by omega) h
theorem le256 {k : Nat} (h : k < 2 ^ 31) : (256 : Int32) ≤ nI k ↔ 256 ≤ k := nI_leI (a := 256) (by omega) h
theorem cl {k : Nat} (h : k < 2 ^ 31) : (nI k).toNatClampNeg = k := nI_clamp h
theorem in16 {k : Nat} (h : k < 16) : vp_in (nI k) 16 := vp_in_nI h (by omega)
theorem in256 {k : Nat} (h : k < 256) : vp_in (nI k) 256 := vp_in_nI h (by omega)
theorem nIx {a b : Nat} (ha : a < 2 ^ 31) (hb : b < 2 ^ 31) : nI a = nI b ↔ a = b := nI_eq ha hb
/-- states -/
theorem st_at (σ : S0) (a k : Nat) (v : Int32) : st σ a k v a = upd (σ a) k v := by simp [st]
theorem st_ne {σ : S0} {a b k : Nat} {v : Int32} (h : b ≠ a) : st σ a k v b = σ b := by simp [st, h]
theorem st_same (σ : S0) (a k : Nat) (v : Int32) : st σ a k v a k = v := by rw [st_at]; exact pk_us
theorem st_other {σ : S0} {a k j : Nat} {v : Int32} (h : j ≠ k) : st σ a k v a j = σ a j := by rw [st_at]; exact pk_un h
theorem st_app (σ : S0) (a k : Nat) (v : Int32) (b j : Nat) : st σ a k v b j = if b = a ∧ j = k then v else σ b j := by
  by_cases h : b = a
  · subst h
    by_cases h2 : j = k
    · subst h2; rw [st_same]; simp
    · rw [st_other h2]; simp [h2]
  · rw [st_ne h]; simp [h]
theorem cp_app (σ : S0) (a d n b j : Nat) : cp σ a d n b j = if b = d ∧ j < n then σ a j else σ b j := by
  unfold cp
  by_cases h : b = d
  · subst h
    by_cases h2 : j < n
    · simp [va_cpy, h2]
    · simp [va_cpy, h2]
  · simp [h]
/-! has -/
theorem sp_has {x : Int32} {n : Nat} (hn : n < 32) {σ : S0} {post : Int32 → S0 → Prop} (h1 : bt x n = true → post 1 σ) (h0 : bt x n = false → post 0 σ) : Sp_M_has x (nI n) σ post := by
  unfold Sp_M_has
  refine ⟨fun c => h0 ((has_bit x hn).mp c), fun c => h1 ?_⟩
  cases hb : bt x n
  · exact absurd ((has_bit x hn).mpr hb) c
  · rfl
theorem sp_hasS {x : Int32} {f : Nat → Bool} (hf : IsSet x f) {n : Nat} (hn : n < 16) {σ : S0} {post : Int32 → S0 → Prop} (h1 : f n = true → post 1 σ) (h0 : f n = false → post 0 σ) : Sp_M_has x (nI n) σ post :=
  sp_has (by omega) (fun h => h1 (by rw [← hf.at hn]; exact h)) (fun h => h0 (by rw [← hf.at hn]; exact h))
