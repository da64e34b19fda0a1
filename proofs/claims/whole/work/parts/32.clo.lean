/-! The closure: the least transitive relation over what is told. -/
theorem cloV_in {V : Nat → Bool} {m : Nat → Nat → Bool} {i j : Nat} (h : m i j = true) : ∀ n, cloV V n m i j = true
  | 0 => h
  | n + 1 => by
    rw [cloV]
    split
    · unfold wst; rw [cloV_in h n]; rfl
    · exact cloV_in h n
theorem cloV_min {V : Nat → Bool} {m : Nat → Nat → Bool} {R : Nat → Nat → Prop} (hm : ∀ i j, i < 16 → j < 16 → m i j = true → R i j) (hR : ∀ i j k, i < 16 → j < 16 → k < 16 → R i j → R j k → R i k) : ∀ n, n ≤ 16 → ∀ i j, i < 16 → j < 16 → cloV V n m i j = true → R i j
  | 0, _ => fun i j hi hj h => hm i j hi hj h
  | n + 1, hn => fun i j hi hj h => by
    rw [cloV] at h
    split at h
    · unfold wst at h
      rw [Bool.or_eq_true, Bool.and_eq_true] at h
      rcases h with h | ⟨h1, h2⟩
      · exact cloV_min hm hR n (by omega) i j hi hj h
      · exact hR i n j hi (by omega) hj (cloV_min hm hR n (by omega) i n hi (by omega) h1) (cloV_min hm hR n (by omega) n j (by omega) hj h2)
    · exact cloV_min hm hR n (by omega) i j hi hj h
/-- ways whose middles are below n, one behind the other -/
theorem cloV_mid {V : Nat → Bool} {m : Nat → Nat → Bool} : ∀ n i j v, v < n → V v = true → cloV V n m i v = true → cloV V n m v j = true → cloV V n m i j = true := by
  intro n
  induction n with
  | zero => intro i j v h; omega
  | succ n ih =>
    intro i j v hv hV h1 h2
    rw [cloV] at h1 h2 ⊢
    split at h1
    · rename_i hn
      rw [if_pos hn] at h2 ⊢
      rcases Nat.lt_or_ge v n with q | q
      · unfold wst at h1 h2 ⊢
        rw [Bool.or_eq_true, Bool.and_eq_true] at h1 h2 ⊢
        rcases h1 with h1 | ⟨h1, h1'⟩ <;> rcases h2 with h2 | ⟨h2, h2'⟩
        · exact Or.inl (ih i j v q hV h1 h2)
        · exact Or.inr ⟨ih i n v q hV h1 h2, h2'⟩
        · exact Or.inr ⟨h1, ih n j v q hV h1' h2⟩
        · exact Or.inr ⟨h1, h2'⟩
      · have : v = n := by omega
        subst this
        rw [wst_col] at h1
        rw [wst_row] at h2
        unfold wst; rw [h1, h2]; simp
    · rename_i hn
      rw [if_neg hn] at h2 ⊢
      rcases Nat.lt_or_ge v n with q | q
      · exact ih i j v q hV h1 h2
      · have : v = n := by omega
        subst this; exact absurd hV hn
abbrev clo (m : Nat → Nat → Bool) : Nat → Nat → Bool := cloV (fun _ => true) 16 m
theorem clo_trans {m : Nat → Nat → Bool} {i j v : Nat} (hv : v < 16) (h1 : clo m i v = true) (h2 : clo m v j = true) : clo m i j = true := cloV_mid 16 i j v hv rfl h1 h2
theorem clo_min {m : Nat → Nat → Bool} {R : Nat → Nat → Prop} (hm : ∀ i j, i < 16 → j < 16 → m i j = true → R i j) (hR : ∀ i j k, i < 16 → j < 16 → k < 16 → R i j → R j k → R i k) {i j : Nat} (hi : i < 16) (hj : j < 16) (h : clo m i j = true) : R i j := cloV_min hm hR 16 (by omega) i j hi hj h
theorem clo_in {m : Nat → Nat → Bool} {i j : Nat} (h : m i j = true) : clo m i j = true := cloV_in h 16
/-- middles through which no way goes don't matter -/
theorem cloV_all {V : Nat → Bool} {m : Nat → Nat → Bool} (h : ∀ v, v < 16 → V v = false → ∀ i, m i v = false) : ∀ n, n ≤ 16 → cloV V n m = cloV (fun _ => true) n m := by
  have col : ∀ v, (∀ i, m i v = false) → ∀ n i, cloV (fun _ => true) n m i v = false := by
    intro v hv n
    induction n with
    | zero => exact hv
    | succ n ih =>
      intro i
      rw [cloV, if_pos rfl]
      unfold wst
      rw [ih i, ih n, Bool.and_false]; rfl
  intro n
  induction n with
  | zero => intro _; rfl
  | succ n ih =>
    intro hn
    rw [cloV, cloV, ih (by omega), if_pos rfl]
    cases hV : V n
    · have := col n (h n (by omega) hV) n
      rw [if_neg (by simp)]
      funext i j
      unfold wst
      rw [this i, Bool.false_and, Bool.or_false]
    · rw [if_pos rfl]
/-! what is told -/
def upT (T : Nat → Nat → Bool) (i j : Nat) : Nat → Nat → Bool := fun a b => T a b || (decide (a = i) && decide (b = j))
def upS (f : Nat → Bool) (i : Nat) : Nat → Bool := fun c => f c || decide (c = i)
abbrev OV (T : Nat → Nat → Bool) (Gp : Nat → Nat) : Nat → Nat → Bool := clo (DB T Gp)
theorem db_iff {T : Nat → Nat → Bool} {Gp : Nat → Nat} {g h : Nat} : DB T Gp g h = true ↔ ∃ c d, c < 16 ∧ d < 16 ∧ Gp c = g ∧ Gp d = h ∧ T c d = true := by
  simp only [DB, dbn, anyB_iff, Bool.and_eq_true, decide_eq_true_eq]
  constructor
  · rintro ⟨c, hc, h1, d, hd, h2, h3⟩
    exact ⟨c, d, hc, hd, h1, h3, h2⟩
  · rintro ⟨c, d, hc, hd, h1, h3, h2⟩
    exact ⟨c, hc, h1, d, hd, h2, h3⟩
/-- what always holds of what was told -/
def WF (T : Nat → Nat → Bool) (Gp : Nat → Nat) (Ph : Nat → Int32) (Hd Th : Nat → Bool) : Prop :=
  (∀ c, c < 16 → Gp c ≤ c) ∧ (∀ c, c < 16 → Gp (Gp c) = Gp c) ∧ (∀ a b, a < 16 → b < 16 → T a b = true → Th a = true ∧ Th b = true) ∧ (∀ c, c < 16 → Hd c = true → Th c = true) ∧
  (∀ c d, c < 16 → d < 16 → c ≠ d → Gp c = Gp d → Th c = true) ∧ (∀ c, c < 16 → Ph c = -1 ∨ ∃ p, p < 6 ∧ Ph c = nI p) ∧ (∀ g, g < 16 → OV T Gp g g = false)
theorem WF.lt {T : Nat → Nat → Bool} {Gp : Nat → Nat} {Ph : Nat → Int32} {Hd Th : Nat → Bool} (h : WF T Gp Ph Hd Th) {c : Nat} (hc : c < 16) : Gp c < 16 := Nat.lt_of_le_of_lt (h.1 c hc) hc
theorem ov_via {T : Nat → Nat → Bool} {Gp : Nat → Nat} {Th : Nat → Bool} (h3 : ∀ a b, a < 16 → b < 16 → T a b = true → Th a = true ∧ Th b = true) : cloV (lds Gp Th) 16 (DB T Gp) = OV T Gp := by
  refine cloV_all (fun v _ hV i => ?_) 16 (by omega)
  rw [← Bool.not_eq_true]
  intro q
  obtain ⟨c, d, hc, hd, h1, h2, ht⟩ := db_iff.mp q
  have : lds Gp Th v = true := anyB_iff.mpr ⟨d, hd, by rw [(h3 c d hc hd ht).2, h2]; simp⟩
  rw [this] at hV; cases hV
theorem wf_above {T : Nat → Nat → Bool} {Gp : Nat → Nat} {Ph : Nat → Int32} {Hd Th : Nat → Bool} (h : WF T Gp Ph Hd Th) {i j : Nat} (hi : i < 16) (hj : j < 16) (hg : Gp i ≠ Gp j) (ho : OV T Gp (Gp j) (Gp i) = false) : WF (upT T i j) Gp Ph Hd (upS (upS Th i) j) := by
  have hlt : ∀ c, c < 16 → Gp c < 16 := fun c hc => h.lt hc
  obtain ⟨w1, w2, w3, w4, w5, w6, w7⟩ := h
  refine ⟨w1, w2, fun a b ha hb q => ?_, fun c hc q => ?_, fun c d hc hd q1 q2 => ?_, w6, fun g hg' => ?_⟩
  · simp only [upT, Bool.or_eq_true, Bool.and_eq_true, decide_eq_true_eq] at q
    simp only [upS, Bool.or_eq_true, decide_eq_true_eq]
    rcases q with q | ⟨rfl, rfl⟩
    · exact ⟨Or.inl (Or.inl (w3 a b ha hb q).1), Or.inl (Or.inl (w3 a b ha hb q).2)⟩
    · exact ⟨Or.inl (Or.inr rfl), Or.inr rfl⟩
  · simp [upS, w4 c hc q]
  · simp [upS, w5 c d hc hd q1 q2]
  · rw [← Bool.not_eq_true]
    intro q
    have key : ∀ x y, x < 16 → y < 16 → OV (upT T i j) Gp x y = true → OV T Gp x y = true ∨ ((x = Gp i ∨ OV T Gp x (Gp i) = true) ∧ (Gp j = y ∨ OV T Gp (Gp j) y = true)) := by
      intro x y hx hy hxy
      refine clo_min (R := fun x y => OV T Gp x y = true ∨ ((x = Gp i ∨ OV T Gp x (Gp i) = true) ∧ (Gp j = y ∨ OV T Gp (Gp j) y = true))) (fun x y hx hy hm => ?_) (fun x y z hx hy hz hxy hyz => ?_) hx hy hxy
      · obtain ⟨c, d, hc, hd, h1, h2, ht⟩ := db_iff.mp hm
        simp only [upT, Bool.or_eq_true, Bool.and_eq_true, decide_eq_true_eq] at ht
        rcases ht with ht | ⟨rfl, rfl⟩
        · exact Or.inl (clo_in (db_iff.mpr ⟨c, d, hc, hd, h1, h2, ht⟩))
        · exact Or.inr ⟨Or.inl h1.symm, Or.inl h2⟩
      · have bad : (Gp j = y ∨ OV T Gp (Gp j) y = true) → (y = Gp i ∨ OV T Gp y (Gp i) = true) → False := by
          rintro (a | a) (b | b)
          · exact hg (by rw [a, b])
          · rw [← a, ho] at b; cases b
          · rw [b, ho] at a; cases a
          · exact absurd (ho.symm.trans (clo_trans hy a b)) (by decide)
        rcases hxy with hxy | ⟨h1, h2⟩ <;> rcases hyz with hyz | ⟨h3, h4⟩
        · exact Or.inl (clo_trans hy hxy hyz)
        · refine Or.inr ⟨Or.inr ?_, h4⟩
          rcases h3 with h3 | h3
          · rw [← h3]; exact hxy
          · exact clo_trans hy hxy h3
        · refine Or.inr ⟨h1, Or.inr ?_⟩
          rcases h2 with h2 | h2
          · rw [h2]; exact hyz
          · exact clo_trans hy h2 hyz
        · exact (bad h2 h3).elim
    rcases key g g hg' hg' q with q | ⟨a | a, b | b⟩
    · rw [w7 g hg'] at q; cases q
    · exact hg (by rw [← a, b])
    · rw [a, ho] at b; cases b
    · rw [← b, ho] at a; cases a
    · exact absurd (ho.symm.trans (clo_trans hg' b a)) (by decide)
/-- two groups made one -/
def mrg (Gp : Nat → Nat) (x y : Nat) : Nat → Nat := fun c => if Gp c = x ∨ Gp c = y then min x y else Gp c
theorem wf_same {T : Nat → Nat → Bool} {Gp : Nat → Nat} {Ph : Nat → Int32} {Hd Th : Nat → Bool} (h : WF T Gp Ph Hd Th) {i j : Nat} (hi : i < 16) (hj : j < 16) (hg : Gp i ≠ Gp j) (ho : OV T Gp (Gp i) (Gp j) = false) (ho2 : OV T Gp (Gp j) (Gp i) = false) : WF T (mrg Gp (Gp i) (Gp j)) Ph Hd (upS (upS Th i) j) := by
  have hlt : ∀ c, c < 16 → Gp c < 16 := fun c hc => h.lt hc
  obtain ⟨w1, w2, w3, w4, w5, w6, w7⟩ := h
  have hx := hlt i hi
  have hy := hlt j hj
  have hmin : Gp (min (Gp i) (Gp j)) = min (Gp i) (Gp j) := by
    rcases Nat.le_total (Gp i) (Gp j) with q | q
    · rw [Nat.min_eq_left q]; exact w2 i hi
    · rw [Nat.min_eq_right q]; exact w2 j hj
  refine ⟨fun c hc => ?_, fun c hc => ?_, fun a b ha hb q => ?_, fun c hc q => ?_, fun c d hc hd q1 q2 => ?_, w6, fun g hg' => ?_⟩
  · unfold mrg
    split
    · rename_i q
      have := w1 c hc
      rcases q with q | q <;> omega
    · exact w1 c hc
  · unfold mrg
    by_cases q : Gp c = Gp i ∨ Gp c = Gp j
    · rw [if_pos q, hmin]
      have : min (Gp i) (Gp j) = Gp i ∨ min (Gp i) (Gp j) = Gp j := by omega
      rw [if_pos this]
    · rw [if_neg q, w2 c hc, if_neg q]
  · simp only [upS, Bool.or_eq_true, decide_eq_true_eq]
    exact ⟨Or.inl (Or.inl (w3 a b ha hb q).1), Or.inl (Or.inl (w3 a b ha hb q).2)⟩
  · simp [upS, w4 c hc q]
  · simp only [upS, Bool.or_eq_true, decide_eq_true_eq]
    by_cases e : Gp c = Gp d
    · exact Or.inl (Or.inl (w5 c d hc hd q1 e))
    · have hin : Gp c = Gp i ∨ Gp c = Gp j := by
        unfold mrg at q2
        by_cases a : Gp c = Gp i ∨ Gp c = Gp j
        · exact a
        · rw [if_neg a] at q2
          by_cases b : Gp d = Gp i ∨ Gp d = Gp j
          · rw [if_pos b] at q2; omega
          · rw [if_neg b] at q2; exact absurd q2 e
      rcases hin with a | a
      · by_cases b : c = i
        · exact Or.inl (Or.inr b)
        · exact Or.inl (Or.inl (w5 c i hc hi b a))
      · by_cases b : c = j
        · exact Or.inr b
        · exact Or.inl (Or.inl (w5 c j hc hj b a))
  · rw [← Bool.not_eq_true]
    intro q
    let P : Nat → Prop := fun s => s = Gp i ∨ s = Gp j
    have hPlt : ∀ s, P s → s < 16 := fun s hs => hs.elim (fun e => by rw [e]; exact hx) (fun e => by rw [e]; exact hy)
    have hPP : ∀ s t, P s → P t → OV T Gp s t = false := by
      rintro s t (rfl | rfl) (rfl | rfl)
      · exact w7 _ hx
      · exact ho
      · exact ho2
      · exact w7 _ hy
    let μ : Nat → Nat := fun s => if s = Gp i ∨ s = Gp j then min (Gp i) (Gp j) else s
    have hμ : ∀ s t, μ s = μ t → s = t ∨ (P s ∧ P t) := by
      intro s t e
      show s = t ∨ ((s = Gp i ∨ s = Gp j) ∧ (t = Gp i ∨ t = Gp j))
      have e' : (if s = Gp i ∨ s = Gp j then min (Gp i) (Gp j) else s) = (if t = Gp i ∨ t = Gp j then min (Gp i) (Gp j) else t) := e
      by_cases a : s = Gp i ∨ s = Gp j
      · by_cases b : t = Gp i ∨ t = Gp j
        · exact Or.inr ⟨a, b⟩
        · rw [if_pos a, if_neg b] at e'; omega
      · by_cases b : t = Gp i ∨ t = Gp j
        · rw [if_neg a, if_pos b] at e'; omega
        · rw [if_neg a, if_neg b] at e'; exact Or.inl e'
    let B : Nat → Nat → Prop := fun s t => OV T Gp s t = true ∨ ∃ p p', P p ∧ P p' ∧ OV T Gp s p = true ∧ OV T Gp p' t = true
    have no : ∀ s t, P s → P t → ¬ OV T Gp s t = true := fun s t hs ht q => by rw [hPP s t hs ht] at q; cases q
    have key : ∀ u v, u < 16 → v < 16 → OV T (mrg Gp (Gp i) (Gp j)) u v = true → ∃ s t, s < 16 ∧ t < 16 ∧ μ s = u ∧ μ t = v ∧ B s t := by
      intro u v hu hv huv
      refine clo_min (R := fun u v => ∃ s t, s < 16 ∧ t < 16 ∧ μ s = u ∧ μ t = v ∧ B s t) (fun u v _ _ hm => ?_) (fun u v z _ _ _ huv hvz => ?_) hu hv huv
      · obtain ⟨c, d, hc, hd, h1, h2, ht⟩ := db_iff.mp hm
        exact ⟨Gp c, Gp d, hlt c hc, hlt d hd, h1, h2, Or.inl (clo_in (db_iff.mpr ⟨c, d, hc, hd, rfl, rfl, ht⟩))⟩
      · obtain ⟨s, t, hs, ht, e1, e2, b1⟩ := huv
        obtain ⟨s', t', hs', ht', e3, e4, b2⟩ := hvz
        refine ⟨s, t', hs, ht', e1, e4, ?_⟩
        rcases hμ t s' (by rw [e2, e3]) with e | ⟨pt, ps⟩
        · subst e
          rcases b1 with b1 | ⟨p, p', hp, hp', b1, b1'⟩ <;> rcases b2 with b2 | ⟨r, r', hr, hr', b2, b2'⟩
          · exact Or.inl (clo_trans ht b1 b2)
          · exact Or.inr ⟨r, r', hr, hr', clo_trans ht b1 b2, b2'⟩
          · exact Or.inr ⟨p, p', hp, hp', b1, clo_trans ht b1' b2⟩
          · exact absurd (clo_trans ht b1' b2) (no p' r hp' hr)
        · rcases b1 with b1 | ⟨p, p', hp, hp', b1, b1'⟩
          · rcases b2 with b2 | ⟨r, r', hr, hr', b2, b2'⟩
            · exact Or.inr ⟨t, s', pt, ps, b1, b2⟩
            · exact absurd b2 (no s' r ps hr)
          · exact absurd b1' (no p' t hp' pt)
    obtain ⟨s, t, hs, ht, e1, e2, b⟩ := key g g hg' hg' q
    rcases hμ s t (by rw [e1, e2]) with e | ⟨ps, pt⟩
    · subst e
      rcases b with b | ⟨p, p', hp, hp', b, b'⟩
      · rw [w7 s hs] at b; cases b
      · exact no p' p hp' hp (clo_trans hs b' b)
    · rcases b with b | ⟨p, p', hp, hp', b, b'⟩
      · exact no s t ps pt b
      · exact no s p ps hp b
