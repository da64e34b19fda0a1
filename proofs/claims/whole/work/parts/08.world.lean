def wC (ad : Nat → Nat) (cA cB : ClassId) (σ : S0) : va_W := [
  (ad 0, .inr (3, [.ref (ad 1), .ref (ad 2), .ref (ad 3), .int (σ 0 0)])),
  (ad 1, .inr (0, [.ref (ad 4), .ref (ad 5), .ref (ad 6), .int (σ 0 1), .int (σ 0 2), .int (σ 0 3), .ref (ad 7), .ref (ad 8), .ref (ad 9)])),
  (ad 2, .inr (2, [.ref (ad 10), .ref (ad 11), .ref (ad 12), .int (σ 0 4), .int (σ 0 5), .int (σ 0 6), .int (σ 0 7), .ref (ad 13), .ref (ad 14), .ref (ad 15)])),
  (ad 3, .inr (1, [.ref (ad 16), .ref (ad 17), .int (σ 0 8), .ref (ad 18), .ref (ad 19), .ref (ad 20), .ref (ad 21), .ref (ad 22), .ref (ad 23), .ref (ad 24), .ref (ad 25), .int (σ 0 9), .int (σ 0 10), .int (σ 0 11)])),
  (ad 4, .inl (cA, 16, .inl (σ 4))),
  (ad 5, .inl (cA, 16, .inl (σ 5))),
  (ad 6, .inl (cA, 16, .inl (σ 6))),
  (ad 7, .inl (cA, 16, .inl (σ 7))),
  (ad 8, .inl (cA, 16, .inl (σ 8))),
  (ad 9, .inl (cA, 16, .inl (σ 9))),
  (ad 10, .inl (cA, 16, .inl (σ 10))),
  (ad 11, .inl (cA, 256, .inl (σ 11))),
  (ad 12, .inl (cA, 256, .inl (σ 12))),
  (ad 13, .inl (cA, 16, .inl (σ 13))),
  (ad 14, .inl (cA, 16, .inl (σ 14))),
  (ad 15, .inl (cA, 256, .inl (σ 15))),
  (ad 16, .inl (cA, 166, .inl (σ 16))),
  (ad 17, .inl (cA, 13, .inl (σ 17))),
  (ad 18, .inl (cA, 166, .inl (σ 18))),
  (ad 19, .inl (cA, 166, .inl (σ 19))),
  (ad 20, .inl (cA, 17, .inl (σ 20))),
  (ad 21, .inl (cA, 406, .inl (σ 21))),
  (ad 22, .inl (cA, 406, .inl (σ 22))),
  (ad 23, .inl (cA, 17, .inl (σ 23))),
  (ad 24, .inl (cA, 166, .inl (σ 24))),
  (ad 25, .inl (cA, 166, .inl (σ 25)))]
def kAC (ad : Nat → Nat) (sz : Nat) : Nat → Prop := fun q => (∃ k, k < 26 ∧ q = ad k) ∨ sz ≤ q
def kapC (ad : Nat → Nat) : Prop := ∀ i j, i < 26 → j < 26 → ad i = ad j → i = j
theorem wC_fst (ad : Nat → Nat) (cA cB : ClassId) (σ : S0) : (wC ad cA cB σ).map Prod.fst = (List.range 26).map ad := rfl
theorem wC_at {ad : Nat → Nat} {cA cB : ClassId} {σ : S0} {k : Nat} {q : Nat × va_E} (h : (wC ad cA cB σ)[k]? = some q) : k < 26 ∧ q.1 = ad k := by
  have h1 : ((wC ad cA cB σ).map Prod.fst)[k]? = some q.1 := by rw [List.getElem?_map, h]; rfl
  rw [wC_fst, List.getElem?_map] at h1
  rcases Nat.lt_or_ge k 26 with hk | hk
  · rw [List.getElem?_range hk] at h1
    exact ⟨hk, (Option.some.inj h1).symm⟩
  · rw [List.getElem?_eq_none (by rw [List.length_range]; exact hk)] at h1
    cases h1
theorem wC_D {ad : Nat → Nat} (hap : kapC ad) (cA cB : ClassId) (σ : S0) (sz : Nat) : va_D (kAC ad sz) (wC ad cA cB σ) :=
  ⟨fun i j p q hi hj hpq => by
    obtain ⟨a1, a2⟩ := wC_at hi
    obtain ⟨b1, b2⟩ := wC_at hj
    exact hap i j a1 b1 (by rw [← a2, ← b2]; exact hpq), fun k q hk => by
    obtain ⟨a1, a2⟩ := wC_at hk
    exact Or.inl ⟨k, a1, a2⟩⟩
theorem kAC_mono {ad : Nat → Nat} {a b : Nat} (h : a ≤ b) : ∀ q, kAC ad b q → kAC ad a q := fun q hq => hq.imp id (fun x => Nat.le_trans h x)
/-- what a method of the class must know of the state beside its cells: words, the two statics of Throwable, its texts -/
def kstr : List (Nat × String) := [(163, "there is no such one"), (51, "no such phase"), (74, "rounds are 0 to 12"), (160, "there is no sheet"), (149, "nothing is counted by this number")]
def kFC (ad : Nat → Nat) (sz : Nat) (U : State) : Prop := (∀ w ∈ wsE, va_Nw w U) ∧ vx_Zq Bundle.tN "UNASSIGNED_STACK" Bundle.steD (kAC ad sz) U U.heap ∧ vx_Zq Bundle.tN "SUPPRESSED_SENTINEL" Bundle.listD (kAC ad sz) U U.heap ∧ ∀ q ∈ kstr, ∃ a, vk_R RX3 q.1 q.2 a U
theorem kFC.go {ad : Nat → Nat} {s U : State} {H : Heap} {locs : List Loc} (h : kFC ad s.heap.size s) (hS : va_S (kAC ad s.heap.size) s.heap H locs) (hU : U.heap = H) (hW : s.WarmedH U.vm) : kFC ad H.size U := by
  obtain ⟨h1, h2, h3, h4⟩ := h
  refine ⟨fun w hw => kwarm_go (List.mem_filter.mp hw).2 hW (h1 w hw), ?_, ?_, fun q hq => ?_⟩
  · rw [hU]; exact ((h2.kept hS.2.1).moved hW.alike).narrow (kAC_mono hS.1)
  · rw [hU]; exact ((h3.kept hS.2.1).moved hW.alike).narrow (kAC_mono hS.1)
  · obtain ⟨a, ha⟩ := h4 q hq
    exact ⟨a, ha.warm hW⟩
theorem kFC.same {ad : Nat → Nat} {sz : Nat} {u U : State} (hv : U.vm = u.vm) (hh : U.heap = u.heap) (h : kFC ad sz u) : kFC ad sz U := by
  obtain ⟨h1, h2, h3, h4⟩ := h
  have hal : u.vm.Alike U.vm := by rw [hv]; exact Vm.Alike.refl _
  refine ⟨fun w hw => va_Nw.same (kwarm_on (List.mem_filter.mp hw).2) hv.symm (h1 w hw), ?_, ?_, fun q hq => ?_⟩
  · rw [hh]; exact h2.moved hal
  · rw [hh]; exact h3.moved hal
  · obtain ⟨a, ha⟩ := h4 q hq
    exact ⟨a, ha.same hv⟩
abbrev ktyC (cA cB : ClassId) : List (ClassId × FieldType) := [(cA, .int), (cB, .boolean)]
/-- a method's start: the world, the classes, the facts -/
def kPcC (D : va_G) (ad : Nat → Nat) (cA cB : ClassId) (σ : S0) (sz : Nat) (av : List Value) : Array Value → State → Prop := va_Pc av (fun U => U.heap.size = sz ∧ va_P D vwCl (wC ad cA cB σ) U.heap ∧ va_K D vwCl (ktyC cA cB) U ∧ kFC ad sz U)
def kBC (D : va_G) (ad : Nat → Nat) (cA cB : ClassId) (σ : S0) (t : State) : Prop := va_P D vwCl (wC ad cA cB σ) t.heap
theorem kBC_of {D : va_G} {ad : Nat → Nat} {cA cB : ClassId} {σ : S0} {t : State} {H : Heap} (ht : t.heap = H) (hP : va_P D vwCl (wC ad cA cB σ) H) : kBC D ad cA cB σ t := by
  show va_P D vwCl (wC ad cA cB σ) t.heap
  rw [ht]; exact hP
theorem kPcC_blind {D : va_G} {ad : Nat → Nat} {cA cB : ClassId} {σ : S0} {sz : Nat} {av : List Value} : FrameBlind (kPcC D ad cA cB σ sz av) := fun a U g mk q => by
  obtain ⟨q0, q1, qP, qK, qF⟩ := q
  exact ⟨q0, q1, qP, va_K.moved (u := U) (U := U.calling g mk a) (Vm.Alike.refl U.vm) qK, qF.same (u := U) (U := U.calling g mk a) rfl rfl⟩
section KCC
variable {p : Program} {l : Launch} {e : Env} {R : Room} {s : State} {m : MethodId} {args : Array Value} {below : List Frame} {meth : Method} {c : Code} {H : Heap} {locs : List Loc} {cells slots : Nat} {Q : State → Prop}
variable {D : va_G} {ad : Nat → Nat} {cA cB : ClassId} {σ : S0} {pc : Nat} {ls : Array Slot} {rest st0 : List Value} {a : Array Value} {mc ms : Nat}
theorem kC_pre (hK : va_K D vwCl (ktyC cA cB) s) (hF : kFC ad s.heap.size s) (hP : va_P D vwCl (wC ad cA cB σ) H) (hS : va_S (kAC ad s.heap.size) s.heap H locs) (As : List Value) : PreS s H (kPcC D ad cA cB σ H.size As) As :=
  ⟨kPcC_blind, fun U hU hW => ⟨rfl, by rw [hU], by rw [hU]; exact hP, va_K.moved hW.alike hK, hF.go hS hU hW⟩⟩
theorem kC_preV (hK : va_K D vwCl (ktyC cA cB) s) (hF : kFC ad s.heap.size s) (hP : va_P D vwCl (wC ad cA cB σ) H) (hS : va_S (kAC ad s.heap.size) s.heap H locs) (q0 : Nat) {b ci : Nat} {q : vw_C} {fs : List Value} (he : (wC ad cA cB σ)[q0]? = some (b, .inr (ci, fs))) (hc : vwCl[ci]? = some q) (As : List Value) : PreV s H q.1 b (kPcC D ad cA cB σ H.size (.ref b :: As)) As :=
  ⟨kPcC_blind, va_recv hK hP hc he, (kC_pre hK hF hP hS (.ref b :: As)).2⟩
theorem kC_i {post : Int32 → S0 → Prop} (hr : va_Run p l e R s m args below meth c H locs cells slots mc ms (F0 m pc ls st0) rest (va_Qi post (kBC D ad cA cB) (kAC ad H.size) a) (kAC ad H.size)) (hS : va_S (kAC ad s.heap.size) s.heap H locs)
    (kk : ∀ (r : Int32) (σ1 : S0) (H1 : Heap) (locs1 : List Loc), post r σ1 → va_P D vwCl (wC ad cA cB σ1) H1 → va_S (kAC ad s.heap.size) s.heap H1 locs1 → W p l e R s m args below meth c H1 locs1 (cells + mc) (slots + ms) Q (F0 m (pc + 3) ls (.int r :: rest))) : W p l e R s m args below meth c H locs cells slots Q (F0 m pc ls st0) :=
  va_calli hr hS (fun q _ h => kAC_mono hS.1 q h) (kAC_mono hS.1) (fun r u t H1 locs1 ht _ hp hB _ _ hS1 => kk r u H1 locs1 hp (by rw [← ht]; exact hB) hS1)
theorem kC_v {post : S0 → Prop} (hr : va_Run p l e R s m args below meth c H locs cells slots mc ms (F0 m pc ls st0) rest (va_Qv post (kBC D ad cA cB) (kAC ad H.size) a) (kAC ad H.size)) (hS : va_S (kAC ad s.heap.size) s.heap H locs)
    (kk : ∀ (σ1 : S0) (H1 : Heap) (locs1 : List Loc), post σ1 → va_P D vwCl (wC ad cA cB σ1) H1 → va_S (kAC ad s.heap.size) s.heap H1 locs1 → W p l e R s m args below meth c H1 locs1 (cells + mc) (slots + ms) Q (F0 m (pc + 3) ls rest)) : W p l e R s m args below meth c H locs cells slots Q (F0 m pc ls st0) :=
  va_callv hr hS (fun q _ h => kAC_mono hS.1 q h) (kAC_mono hS.1) (fun u t H1 locs1 ht _ hp hB _ _ hS1 => kk u H1 locs1 hp (by rw [← ht]; exact hB) hS1)
end KCC
