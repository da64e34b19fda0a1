/-! The class over what was told. -/
def cnt : Nat → (Nat → Bool) → Nat
  | 0, _ => 0
  | n + 1, p => cnt n p + (if p n then 1 else 0)
theorem cnt_congr {p q : Nat → Bool} : ∀ {n : Nat}, (∀ k, k < n → p k = q k) → cnt n p = cnt n q
  | 0, _ => rfl
  | n + 1, h => by rw [cnt, cnt, cnt_congr (fun k hk => h k (by omega)), h n (by omega)]
theorem cnt_le {p : Nat → Bool} : ∀ n, cnt n p ≤ n
  | 0 => Nat.le_refl 0
  | n + 1 => by
    have := cnt_le (p := p) n
    rw [cnt]; split <;> omega
theorem cnt_up {p : Nat → Bool} {k : Nat} (hp : p k = false) : ∀ n, cnt n (fun x => p x || decide (x = k)) = cnt n p + (if k < n then 1 else 0)
  | 0 => by simp [cnt]
  | n + 1 => by
    rw [cnt, cnt, cnt_up hp n]
    by_cases h : n = k
    · subst h; simp [hp]
    · by_cases h2 : k < n
      · have : k < n + 1 := by omega
        simp [h, h2, this]; omega
      · have : ¬ k < n + 1 := by omega
        simp [h, h2, this]
def cntT (T : Nat → Nat → Bool) : Nat := cnt 256 (fun k => T (k / 16) (k % 16))
theorem cntT_up {T : Nat → Nat → Bool} {i j : Nat} (hi : i < 16) (hj : j < 16) (h : T i j = false) : cntT (upT T i j) = cntT T + 1 := by
  have h1 : cntT (upT T i j) = cnt 256 (fun x => (fun k => T (k / 16) (k % 16)) x || decide (x = 16 * i + j)) := by
    refine cnt_congr (fun k hk => ?_)
    show (T (k / 16) (k % 16) || (decide (k / 16 = i) && decide (k % 16 = j))) = _
    congr 1
    rw [← Bool.decide_and]
    exact decide_eq_decide.mpr ⟨fun q => by omega, fun q => by omega⟩
  rw [h1, cnt_up (by show T ((16 * i + j) / 16) ((16 * i + j) % 16) = false; rw [show (16 * i + j) / 16 = i by omega, show (16 * i + j) % 16 = j by omega]; exact h), if_pos (by omega)]; rfl
def CD (T : Nat → Nat → Bool) (Gp : Nat → Nat) (Ph : Nat → Int32) (Hd Th : Nat → Bool) (σ : S0) : Prop :=
  (∀ c, c < 16 → σ 4 c = nI (Gp c)) ∧ (∀ a, a < 16 → IsSet (σ 7 a) (T a)) ∧ (∀ c, c < 16 → σ 8 c = Ph c) ∧ IsSet (σ 0 1) Th ∧ IsSet (σ 0 2) Hd ∧ σ 0 3 = nI (cntT T) ∧
  (∀ g, g < 16 → σ 5 g = GP Gp Ph g) ∧ (∀ g, g < 16 → IsSet (σ 6 g) (DB T Gp g)) ∧ (∀ g, g < 16 → IsSet (σ 9 g) (OV T Gp g))
/-- one number of row 0 changes, that isn't the dig's -/
theorem CD.put0 {T : Nat → Nat → Bool} {Gp : Nat → Nat} {Ph : Nat → Int32} {Hd Th : Nat → Bool} {σ : S0} {v : Int32} (h : CD T Gp Ph Hd Th σ) : CD T Gp Ph Hd Th (st σ 0 0 v) := by
  obtain ⟨c1, c2, c3, c4, c5, c6, c7, c8, c9⟩ := h
  exact ⟨fun c hc => by rw [st_ne (by decide)]; exact c1 c hc, fun a ha => by rw [st_ne (by decide)]; exact c2 a ha, fun c hc => by rw [st_ne (by decide)]; exact c3 c hc, by rw [st_other (by decide)]; exact c4, by rw [st_other (by decide)]; exact c5, by rw [st_other (by decide)]; exact c6, fun g hg => by rw [st_ne (by decide)]; exact c7 g hg, fun g hg => by rw [st_ne (by decide)]; exact c8 g hg, fun g hg => by rw [st_ne (by decide)]; exact c9 g hg⟩
theorem ctx_iff {a : Int32} : (¬ a < 0 ∧ ¬ 16 ≤ a) ↔ ∃ i, i < 16 ∧ a = nI i := by
  constructor
  · rintro ⟨h1, h2⟩
    rcases pk_ix a (n := 16) (by omega) with q | q | ⟨j, hj, e⟩
    · exact absurd q h1
    · exact absurd q h2
    · exact ⟨j, hj, e⟩
  · rintro ⟨i, hi, rfl⟩
    exact ⟨nI_pos (by omega), fun q => absurd ((le16 (by omega)).mp q) (by omega)⟩
theorem sp_ctx {a : Int32} {σ : S0} {post : S0 → Prop} {px : Nat → S0 → Prop} (h1 : ∀ i, i < 16 → a = nI i → post σ) (h2 : (¬ ∃ i, i < 16 ∧ a = nI i) → px 0 σ) : Sp_M_needContext a σ post px := by
  rw [iff_M_needContext, ctx_iff]
  exact ⟨fun ⟨i, hi, e⟩ => h1 i hi e, h2⟩
section
variable {T : Nat → Nat → Bool} {Gp : Nat → Nat} {Ph : Nat → Int32} {Hd Th : Nat → Bool} {σ : S0}
theorem CD.settled {σ1 : S0} {post : S0 → Prop} (hW : WF T Gp Ph Hd Th) (c1 : ∀ c, c < 16 → σ1 4 c = nI (Gp c)) (c2 : ∀ a, a < 16 → IsSet (σ1 7 a) (T a)) (c3 : ∀ c, c < 16 → σ1 8 c = Ph c) (c4 : IsSet (σ1 0 1) Th) (c5 : IsSet (σ1 0 2) Hd) (c6 : σ1 0 3 = nI (cntT T)) (h : ∀ σ', CD T Gp Ph Hd Th σ' → (∀ b, b ≠ 5 → b ≠ 6 → b ≠ 9 → σ' b = σ1 b) → post σ') : Sp_D_settle σ1 post := by
  refine sp_settle c1 (fun c hc => hW.lt hc) c2 c3 c4 (fun σ' f1 f2 f3 f4 => h σ' ⟨?_, ?_, ?_, ?_, ?_, ?_, f2, f3, ?_⟩ f1)
  · intro c hc; rw [f1 4 (by decide) (by decide) (by decide)]; exact c1 c hc
  · intro c hc; rw [f1 7 (by decide) (by decide) (by decide)]; exact c2 c hc
  · intro c hc; rw [f1 8 (by decide) (by decide) (by decide)]; exact c3 c hc
  · rw [f1 0 (by decide) (by decide) (by decide)]; exact c4
  · rw [f1 0 (by decide) (by decide) (by decide)]; exact c5
  · rw [f1 0 (by decide) (by decide) (by decide)]; exact c6
  · intro g hg; have := f4 g hg; rw [ov_via hW.2.2.1] at this; exact this
theorem sp_changed {r : Int32} {post : Int32 → S0 → Prop} (h1 : r = 1 → post 1 (st σ 0 0 0)) (h0 : ¬ r = 1 → post r σ) : Sp_M_changed r σ post := by
  unfold Sp_M_changed
  exact ⟨h0, fun c => fun σ1 e => by subst c; rw [e]; exact h1 rfl⟩
set_option maxHeartbeats 1000000 in
theorem cl_above (hC : CD T Gp Ph Hd Th σ) (hW : WF T Gp Ph Hd Th) {a b : Int32} {post : Int32 → S0 → Prop} {px : Nat → S0 → Prop}
    (hbad : (¬ ∃ i, i < 16 ∧ a = nI i) ∨ (¬ ∃ j, j < 16 ∧ b = nI j) → px 0 σ)
    (hgood : ∀ i j, i < 16 → j < 16 → a = nI i → b = nI j → (T i j = true → post 0 σ) ∧ (T i j = false → (Gp i = Gp j ∨ OV T Gp (Gp j) (Gp i) = true → post (-1) σ) ∧ (Gp i ≠ Gp j → OV T Gp (Gp j) (Gp i) = false → ∀ σ', CD (upT T i j) Gp Ph Hd (upS (upS Th i) j) σ' → WF (upT T i j) Gp Ph Hd (upS (upS Th i) j) → σ' 0 0 = 0 → post 1 σ'))) : Sp_M_above a b σ post px := by
  unfold Sp_M_above
  refine sp_ctx (fun i hi ea => sp_ctx (fun j hj eb => ?_) (fun q => hbad (Or.inr q))) (fun q => hbad (Or.inl q))
  obtain ⟨g1, g2⟩ := hgood i j hi hj ea eb
  subst ea; subst eb
  have hgi := hW.lt hi
  have hgj := hW.lt hj
  obtain ⟨c1, c2, c3, c4, c5, c6, c7, c8, c9⟩ := id hC
  unfold Sp_D_tellAbove
  refine ⟨in16 hi, ?_⟩
  rw [cl (by omega : i < 2 ^ 31), cl (by omega : j < 2 ^ 31)]
  refine sp_hasS (c2 i hi) hj (fun ht => ⟨fun c => absurd c (by decide), fun _ => sp_changed (fun c => absurd c (by decide)) (fun _ => g1 ht)⟩) (fun ht => ⟨fun _ => ?_, fun c => absurd rfl c⟩)
  obtain ⟨g3, g4⟩ := g2 ht
  rw [c1 i hi, c1 j hj]
  refine ⟨in16 hi, in16 hj, fun c => sp_changed (fun c => absurd c (by decide)) (fun _ => g3 (Or.inl ((nIx (by omega) (by omega)).mp c))), fun c => ⟨in16 hj, in16 hgj, in16 hi, ?_⟩⟩
  have hne : Gp i ≠ Gp j := fun q => c (by rw [q])
  rw [cl (by omega : Gp j < 2 ^ 31)]
  refine sp_hasS (c9 (Gp j) hgj) hgi (fun ho => ⟨fun c => absurd c (by decide), fun _ => sp_changed (fun c => absurd c (by decide)) (fun _ => g3 (Or.inr ho))⟩) (fun ho => ⟨fun _ => ⟨in16 hi, in16 hi, fun σ5 e5 σ6 e6 σ7 e7 => ?_⟩, fun c => absurd rfl c⟩)
  have hW' := wf_above hW hi hj hne ho
  have k5 : ∀ b, b ≠ 7 → σ5 b = σ b := fun b hb => by rw [e5]; exact st_ne hb
  have k7 : ∀ b, b ≠ 0 → σ7 b = σ5 b := fun b hb => by rw [e7, st_ne hb, e6, st_ne hb]
  refine CD.settled (T := upT T i j) (Th := upS (upS Th i) j) hW' (fun c hc => by rw [k7 4 (by decide), k5 4 (by decide)]; exact c1 c hc) (fun a ha => ?_) (fun c hc => by rw [k7 8 (by decide), k5 8 (by decide)]; exact c3 c hc) ?_ ?_ ?_ (fun σ8 hC8 f8 => sp_changed (fun _ => g4 hne ho (st σ8 0 0 0) hC8.put0 hW' (st_same _ _ _ _)) (fun c => absurd rfl c))
  · rw [k7 7 (by decide), e5, st_app]
    by_cases q : a = i
    · subst q
      rw [if_pos ⟨rfl, rfl⟩]
      refine ((c2 a ha).or (IsSet.one hj)).ext (fun t _ => ?_)
      simp [upT]
    · rw [if_neg (by simp [q])]
      refine (c2 a ha).ext (fun t _ => ?_)
      simp [upT, q]
  · rw [e7, st_same, e6, st_other (by decide), k5 0 (by decide)]
    refine (c4.or ((IsSet.one hi).or (IsSet.one hj))).ext (fun t _ => ?_)
    simp [upS, Bool.or_assoc]
  · rw [e7, st_other (by decide), e6, st_other (by decide), k5 0 (by decide)]; exact c5
  · rw [e7, st_other (by decide), e6, st_same, k5 0 (by decide), c6, cntT_up hi hj ht]; exact nI_1 _
theorem sp_join {x y : Nat} (hx : x < 16) (hy : y < 16) {Gp : Nat → Nat} (h16 : ∀ c, c < 16 → Gp c < 16) (hG : ∀ c, c < 16 → σ 4 c = nI (Gp c)) {post : S0 → Prop} (h : ∀ σ', (∀ b, b ≠ 4 → σ' b = σ b) → (∀ c, c < 16 → σ' 4 c = nI (if Gp c = y then x else Gp c)) → post σ') : Sp_D_join (nI x) (nI y) σ post := by
  unfold Sp_D_join
  intro G2 h2
  refine upto 16 (fun k s => G2 (nI x) (nI y) (nI k) s) (fun k s => (∀ b, b ≠ 4 → s b = σ b) ∧ ∀ c, c < 16 → s 4 c = nI (if c < k ∧ Gp c = y then x else Gp c)) (fun s hI => ?_) (fun k s hk hI ih => ?_) 0 σ (by omega) ⟨fun _ _ => rfl, fun c hc => by rw [if_neg (by omega)]; exact hG c hc⟩
  · exact h2 _ _ _ _ ⟨fun _ => h s hI.1 (fun c hc => by rw [hI.2 c hc]; simp [hc]), fun c => absurd ((le16 (by omega)).mpr (by omega)) c⟩
  · obtain ⟨i1, i2⟩ := hI
    refine h2 _ _ _ _ ⟨fun c => absurd ((le16 (by omega)).mp c) (by omega), fun _ => ⟨in16 hk, ?_⟩⟩
    rw [cl (by omega : k < 2 ^ 31), i2 k hk, if_neg (by omega), nI_1]
    have hgk := h16 k hk
    refine ⟨fun c => ih s ⟨i1, fun d hd => ?_⟩, fun c => ⟨in16 hk, fun σ1 e1 => ih σ1 ⟨fun b hb => by rw [e1, st_ne hb]; exact i1 b hb, fun d hd => ?_⟩⟩⟩
    · rw [i2 d hd]
      by_cases q : d = k
      · subst q
        have : ¬ Gp d = y := fun z => c (by rw [z])
        simp [this]
      · have : d < k ↔ d < k + 1 := by omega
        simp only [this]
    · rw [e1, st_app]
      by_cases q : d = k
      · subst q
        have : Gp d = y := (nIx (by omega) (by omega)).mp c
        rw [if_pos ⟨rfl, rfl⟩, if_pos ⟨by omega, this⟩]
      · rw [if_neg (by simp [q]), i2 d hd]
        have : d < k ↔ d < k + 1 := by omega
        simp only [this]
theorem jmin_nI {a b : Nat} (ha : a < 2 ^ 31) (hb : b < 2 ^ 31) : jmin (nI a) (nI b) = nI (min a b) := by
  unfold jmin
  by_cases h : b < a
  · rw [if_pos (nI_lt h ha), Nat.min_eq_right (by omega)]
  · rw [if_neg (nI_nlt (by omega) hb), Nat.min_eq_left (by omega)]
theorem jmax_nI {a b : Nat} (ha : a < 2 ^ 31) (hb : b < 2 ^ 31) : jmax (nI a) (nI b) = nI (max a b) := by
  unfold jmax
  by_cases h : a < b
  · rw [if_pos (nI_lt h hb), Nat.max_eq_right (by omega)]
  · rw [if_neg (nI_nlt (by omega) ha), Nat.max_eq_left (by omega)]
set_option maxHeartbeats 1000000 in
theorem cl_same (hC : CD T Gp Ph Hd Th σ) (hW : WF T Gp Ph Hd Th) {a b : Int32} {post : Int32 → S0 → Prop} {px : Nat → S0 → Prop}
    (hbad : (¬ ∃ i, i < 16 ∧ a = nI i) ∨ (¬ ∃ j, j < 16 ∧ b = nI j) → px 0 σ)
    (hgood : ∀ i j, i < 16 → j < 16 → a = nI i → b = nI j → (Gp i = Gp j → post 0 σ) ∧ (Gp i ≠ Gp j → (OV T Gp (Gp i) (Gp j) = true ∨ OV T Gp (Gp j) (Gp i) = true → post (-1) σ) ∧ (OV T Gp (Gp i) (Gp j) = false → OV T Gp (Gp j) (Gp i) = false → ∀ σ', CD T (mrg Gp (Gp i) (Gp j)) Ph Hd (upS (upS Th i) j) σ' → WF T (mrg Gp (Gp i) (Gp j)) Ph Hd (upS (upS Th i) j) → σ' 0 0 = 0 → post 1 σ'))) : Sp_M_same a b σ post px := by
  unfold Sp_M_same
  refine sp_ctx (fun i hi ea => sp_ctx (fun j hj eb => ?_) (fun q => hbad (Or.inr q))) (fun q => hbad (Or.inl q))
  obtain ⟨g1, g2⟩ := hgood i j hi hj ea eb
  subst ea; subst eb
  have hgi := hW.lt hi
  have hgj := hW.lt hj
  obtain ⟨c1, c2, c3, c4, c5, c6, c7, c8, c9⟩ := id hC
  unfold Sp_D_tellSame
  refine ⟨in16 hi, fun v1 ev1 => ⟨in16 hj, fun v2 ev2 => ?_⟩⟩
  rw [cl (by omega : i < 2 ^ 31), c1 i hi] at ev1
  rw [cl (by omega : j < 2 ^ 31), c1 j hj] at ev2
  subst ev1; subst ev2
  refine ⟨fun c => ⟨in16 hgi, ?_⟩, fun c => sp_changed (fun c => absurd c (by decide)) (fun _ => g1 ((nIx (by omega) (by omega)).mp c))⟩
  have hne : Gp i ≠ Gp j := fun q => c (by rw [q])
  obtain ⟨g3, g4⟩ := g2 hne
  rw [cl (by omega : Gp i < 2 ^ 31), cl (by omega : Gp j < 2 ^ 31)]
  refine sp_hasS (c9 (Gp i) hgi) hgj (fun ho => ⟨fun _ => sp_changed (fun c => absurd c (by decide)) (fun _ => g3 (Or.inl ho)), fun c => absurd c (by decide)⟩) (fun ho => ⟨fun c => absurd rfl c, fun _ => ⟨in16 hgj, ?_⟩⟩)
  refine sp_hasS (c9 (Gp j) hgj) hgi (fun ho2 => ⟨fun c => absurd c (by decide), fun _ => sp_changed (fun c => absurd c (by decide)) (fun _ => g3 (Or.inr ho2))⟩) (fun ho2 => ⟨fun _ => ?_, fun c => absurd rfl c⟩)
  rw [jmin_nI (by omega) (by omega), jmax_nI (by omega) (by omega)]
  have hW' := wf_same hW hi hj hne ho ho2
  refine sp_join (by omega) (by omega) (fun c hc => hW.lt hc) c1 (fun σ7 f7 h7 σ8 e8 => ?_)
  have k8 : ∀ b, b ≠ 0 → σ8 b = σ7 b := fun b hb => by rw [e8, st_ne hb]
  refine CD.settled (Gp := mrg Gp (Gp i) (Gp j)) (Th := upS (upS Th i) j) hW' (fun c hc => ?_) (fun a ha => by rw [k8 7 (by decide), f7 7 (by decide)]; exact c2 a ha) (fun c hc => by rw [k8 8 (by decide), f7 8 (by decide)]; exact c3 c hc) ?_ ?_ ?_ (fun σ9 hC9 f9 => sp_changed (fun _ => g4 ho ho2 (st σ9 0 0 0) hC9.put0 hW' (st_same _ _ _ _)) (fun c => absurd rfl c))
  · rw [k8 4 (by decide), h7 c hc]
    congr 1
    unfold mrg
    have hgc := hW.lt hc
    by_cases q : Gp c = Gp i ∨ Gp c = Gp j
    · rw [if_pos q]
      by_cases q2 : Gp c = max (Gp i) (Gp j)
      · rw [if_pos q2]
      · rw [if_neg q2]; omega
    · rw [if_neg q, if_neg (by omega)]
  · rw [e8, st_same, f7 0 (by decide)]
    refine (c4.or ((IsSet.one hi).or (IsSet.one hj))).ext (fun t _ => ?_)
    simp [upS, Bool.or_assoc]
  · rw [e8, st_other (by decide), f7 0 (by decide)]; exact c5
  · rw [e8, st_other (by decide), f7 0 (by decide)]; exact c6
end
