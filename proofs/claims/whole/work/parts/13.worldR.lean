theorem inG_X4 : ∀ w ∈ wsX40, w ∈ wsG := fun w h => wsG_in ((goodIn_p wsX40 [] (by decide +kernel) (by decide +kernel) w h).1) ((by decide +kernel : ∀ w ∈ wsX40, goodWord w = true) w h)
def wR (ad : Nat → Nat) (cA cB : ClassId) (σ : S0) : va_W := [
  (ad 0, .inr (4, [.int (σ 0 0), .ref (ad 1), .ref (ad 2), .ref (ad 3), .ref (ad 4), .ref (ad 5), .ref (ad 6), .ref (ad 7), .int (σ 0 1), .int (σ 0 2), .ref (ad 8), .ref (ad 9), .ref (ad 10), .int (σ 0 3), .ref (ad 11), .ref (ad 12), .int (σ 0 4), .ref (ad 13), .ref (ad 14), .ref (ad 15), .int (σ 0 5), .ref (ad 16), .ref (ad 17), .ref (ad 18), .ref (ad 19), .ref (ad 20), .int (σ 0 6)])),
  (ad 1, .inl (cB, 256, .inl (σ 1))),
  (ad 2, .inl (cA, 16, .inl (σ 2))),
  (ad 3, .inl (cA, 16, .inl (σ 3))),
  (ad 4, .inl (cB, 16, .inl (σ 4))),
  (ad 5, .inl (cB, 16, .inl (σ 5))),
  (ad 6, .inl (cB, 256, .inl (σ 6))),
  (ad 7, .inl (cB, 256, .inl (σ 7))),
  (ad 8, .inl (cA, 166, .inl (σ 8))),
  (ad 9, .inl (cA, 166, .inl (σ 9))),
  (ad 10, .inl (cA, 166, .inl (σ 10))),
  (ad 11, .inl (cA, 400, .inl (σ 11))),
  (ad 12, .inl (cA, 400, .inl (σ 12))),
  (ad 13, .inl (cA, 240, .inl (σ 13))),
  (ad 14, .inl (cA, 240, .inl (σ 14))),
  (ad 15, .inl (cA, 240, .inl (σ 15))),
  (ad 16, .inl (cA, 13, .inl (σ 16))),
  (ad 17, .inl (cA, 166, .inl (σ 17))),
  (ad 18, .inl (cA, 166, .inl (σ 18))),
  (ad 19, .inl (cA, 166, .inl (σ 19))),
  (ad 20, .inl (cA, 1500, .inl (σ 20)))]
def kAR (ad : Nat → Nat) (sz : Nat) : Nat → Prop := fun q => (∃ k, k < 21 ∧ q = ad k) ∨ sz ≤ q
def kapR (ad : Nat → Nat) : Prop := ∀ i j, i < 21 → j < 21 → ad i = ad j → i = j
theorem wR_fst (ad : Nat → Nat) (cA cB : ClassId) (σ : S0) : (wR ad cA cB σ).map Prod.fst = (List.range 21).map ad := rfl
theorem wR_at {ad : Nat → Nat} {cA cB : ClassId} {σ : S0} {k : Nat} {q : Nat × va_E} (h : (wR ad cA cB σ)[k]? = some q) : k < 21 ∧ q.1 = ad k := by
  have h1 : ((wR ad cA cB σ).map Prod.fst)[k]? = some q.1 := by rw [List.getElem?_map, h]; rfl
  rw [wR_fst, List.getElem?_map] at h1
  rcases Nat.lt_or_ge k 21 with hk | hk
  · rw [List.getElem?_range hk] at h1
    exact ⟨hk, (Option.some.inj h1).symm⟩
  · rw [List.getElem?_eq_none (by rw [List.length_range]; exact hk)] at h1
    cases h1
theorem wR_D {ad : Nat → Nat} (hap : kapR ad) (cA cB : ClassId) (σ : S0) (sz : Nat) : va_D (kAR ad sz) (wR ad cA cB σ) :=
  ⟨fun i j p q hi hj hpq => by
    obtain ⟨a1, a2⟩ := wR_at hi
    obtain ⟨b1, b2⟩ := wR_at hj
    exact hap i j a1 b1 (by rw [← a2, ← b2]; exact hpq), fun k q hk => by
    obtain ⟨a1, a2⟩ := wR_at hk
    exact Or.inl ⟨k, a1, a2⟩⟩
theorem kAR_mono {ad : Nat → Nat} {a b : Nat} (h : a ≤ b) : ∀ q, kAR ad b q → kAR ad a q := fun q hq => hq.imp id (fun x => Nat.le_trans h x)
def kFR (_ : Nat → Nat) (_ : Nat) (_ : State) : Prop := True
theorem kFR.go {ad : Nat → Nat} {s U : State} {H : Heap} {locs : List Loc} (_ : kFR ad s.heap.size s) (_ : va_S (kAR ad s.heap.size) s.heap H locs) (_ : U.heap = H) (_ : s.WarmedH U.vm) : kFR ad H.size U := trivial
theorem kFR.same {ad : Nat → Nat} {sz : Nat} {u U : State} (_ : U.vm = u.vm) (_ : U.heap = u.heap) (_ : kFR ad sz u) : kFR ad sz U := trivial
abbrev ktyR (cA cB : ClassId) : List (ClassId × FieldType) := [(cA, .int), (cB, .boolean)]
/-- a method's start: the world, the classes, the facts -/
def kPcR (D : va_G) (ad : Nat → Nat) (cA cB : ClassId) (σ : S0) (sz : Nat) (av : List Value) : Array Value → State → Prop := va_Pc av (fun U => U.heap.size = sz ∧ va_P D vwCl (wR ad cA cB σ) U.heap ∧ va_K D vwCl (ktyR cA cB) U ∧ kFR ad sz U)
def kBR (D : va_G) (ad : Nat → Nat) (cA cB : ClassId) (σ : S0) (t : State) : Prop := va_P D vwCl (wR ad cA cB σ) t.heap
theorem kBR_of {D : va_G} {ad : Nat → Nat} {cA cB : ClassId} {σ : S0} {t : State} {H : Heap} (ht : t.heap = H) (hP : va_P D vwCl (wR ad cA cB σ) H) : kBR D ad cA cB σ t := by
  show va_P D vwCl (wR ad cA cB σ) t.heap
  rw [ht]; exact hP
theorem kPcR_blind {D : va_G} {ad : Nat → Nat} {cA cB : ClassId} {σ : S0} {sz : Nat} {av : List Value} : FrameBlind (kPcR D ad cA cB σ sz av) := fun a U g mk q => by
  obtain ⟨q0, q1, qP, qK, qF⟩ := q
  exact ⟨q0, q1, qP, va_K.moved (u := U) (U := U.calling g mk a) (Vm.Alike.refl U.vm) qK, qF.same (u := U) (U := U.calling g mk a) rfl rfl⟩
section KCR
variable {p : Program} {l : Launch} {e : Env} {R : Room} {s : State} {m : MethodId} {args : Array Value} {below : List Frame} {meth : Method} {c : Code} {H : Heap} {locs : List Loc} {cells slots : Nat} {Q : State → Prop}
variable {D : va_G} {ad : Nat → Nat} {cA cB : ClassId} {σ : S0} {pc : Nat} {ls : Array Slot} {rest st0 : List Value} {a : Array Value} {mc ms : Nat}
theorem kR_pre (hK : va_K D vwCl (ktyR cA cB) s) (hF : kFR ad s.heap.size s) (hP : va_P D vwCl (wR ad cA cB σ) H) (hS : va_S (kAR ad s.heap.size) s.heap H locs) (As : List Value) : PreS s H (kPcR D ad cA cB σ H.size As) As :=
  ⟨kPcR_blind, fun U hU hW => ⟨rfl, by rw [hU], by rw [hU]; exact hP, va_K.moved hW.alike hK, hF.go hS hU hW⟩⟩
theorem kR_preV (hK : va_K D vwCl (ktyR cA cB) s) (hF : kFR ad s.heap.size s) (hP : va_P D vwCl (wR ad cA cB σ) H) (hS : va_S (kAR ad s.heap.size) s.heap H locs) (q0 : Nat) {b ci : Nat} {q : vw_C} {fs : List Value} (he : (wR ad cA cB σ)[q0]? = some (b, .inr (ci, fs))) (hc : vwCl[ci]? = some q) (As : List Value) : PreV s H q.1 b (kPcR D ad cA cB σ H.size (.ref b :: As)) As :=
  ⟨kPcR_blind, va_recv hK hP hc he, (kR_pre hK hF hP hS (.ref b :: As)).2⟩
theorem kR_i {post : Int32 → S0 → Prop} (hr : va_Run p l e R s m args below meth c H locs cells slots mc ms (F0 m pc ls st0) rest (va_Qi post (kBR D ad cA cB) (kAR ad H.size) a) (kAR ad H.size)) (hS : va_S (kAR ad s.heap.size) s.heap H locs)
    (kk : ∀ (r : Int32) (σ1 : S0) (H1 : Heap) (locs1 : List Loc), post r σ1 → va_P D vwCl (wR ad cA cB σ1) H1 → va_S (kAR ad s.heap.size) s.heap H1 locs1 → W p l e R s m args below meth c H1 locs1 (cells + mc) (slots + ms) Q (F0 m (pc + 3) ls (.int r :: rest))) : W p l e R s m args below meth c H locs cells slots Q (F0 m pc ls st0) :=
  va_calli hr hS (fun q _ h => kAR_mono hS.1 q h) (kAR_mono hS.1) (fun r u t H1 locs1 ht _ hp hB _ _ hS1 => kk r u H1 locs1 hp (by rw [← ht]; exact hB) hS1)
theorem kR_v {post : S0 → Prop} (hr : va_Run p l e R s m args below meth c H locs cells slots mc ms (F0 m pc ls st0) rest (va_Qv post (kBR D ad cA cB) (kAR ad H.size) a) (kAR ad H.size)) (hS : va_S (kAR ad s.heap.size) s.heap H locs)
    (kk : ∀ (σ1 : S0) (H1 : Heap) (locs1 : List Loc), post σ1 → va_P D vwCl (wR ad cA cB σ1) H1 → va_S (kAR ad s.heap.size) s.heap H1 locs1 → W p l e R s m args below meth c H1 locs1 (cells + mc) (slots + ms) Q (F0 m (pc + 3) ls rest)) : W p l e R s m args below meth c H locs cells slots Q (F0 m pc ls st0) :=
  va_callv hr hS (fun q _ h => kAR_mono hS.1 q h) (kAR_mono hS.1) (fun u t H1 locs1 ht _ hp hB _ _ hS1 => kk u H1 locs1 hp (by rw [← ht]; exact hB) hS1)
end KCR
