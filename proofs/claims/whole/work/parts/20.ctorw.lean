theorem k_newa {p : Program} {l : Launch} {e : Env} {R : Room} {s : State} {m : MethodId} {args : Array Value} {below : List Frame} {meth : Method} {c : Code} {H : Heap} {locs : List Loc} {cells slots : Nat} {Q : State → Prop} {cc : ByteArray} {pc : Nat} {ls : Array Slot} {rest : List Value} {D : va_G} {cl : List vw_C} {tys : List (ClassId × FieldType)} {ws : va_W} {A : Nat → Prop} {H0 : Heap}
    (hexec : p.tables.exec = Jvm.exec) (hb : c.code = cc) {atype : ArrayType} (harr : (Cond.arrayClass (newarray.typeOf atype)).before args s = true) {ty : FieldType} (hty : newarray.typeOf atype = ty) (hK : va_K D cl tys s) (t0 : Nat) {cA : ClassId} (ht : tys[t0]? = some (cA, ty)) (hp : ∀ C : ClassId, va_RA s C ty → s.vm.findClass ("[" ++ ty.toString) = some C) (hP : va_P D cl ws H) (hD : va_D A ws) (hS : va_S A H0 H locs) (hA : ∀ q, H0.size ≤ q → A q)
    {n : Int32} {N' : Nat} {a0 : vp_A} (ha : ∀ cA : ClassId, vp_cell cA a0 = arrV cA N' (fun _ => defaultValue ty)) (hn : ¬ n < 0) (hN : n.toNatClampNeg = N') (hbytes : N' * componentBytes ty ≤ 536870912) (hcells : cells + 1 ≤ R.cells) (hslots : slots + N' ≤ R.slots) (hdg : decode cc pc = .ok (.newarray atype, 2))
    (kk : ∀ (q : Nat) (H1 : Heap), va_P D cl (ws ++ [(q, .inl (cA, a0))]) H1 → va_D A (ws ++ [(q, .inl (cA, a0))]) → va_S A H0 H1 locs →
      W p l e R s m args below meth c H1 locs (cells + 1) (slots + N') Q (F0 m (pc + 2) ls (.ref q :: rest))) : W p l e R s m args below meth c H locs cells slots Q (F0 m pc ls (.int n :: rest)) := by
  refine va_newa hexec hb harr hty hK hP hD hS hA ha hn hN hbytes hcells hslots hdg (fun q cB H1 hK1 hP1 hD1 hS1 => ?_)
  have h1 := hp _ (hK1.2 tys.length (cB, ty) (by rw [List.getElem?_append_right (Nat.le_refl _), Nat.sub_self]; rfl)).2
  have h2 := hp _ (hK.2 t0 (cA, ty) ht).2
  have e9 : cB = cA := Option.some.inj (h1.symm.trans h2)
  subst e9
  exact kk q H1 hP1 hD1 hS1

def wD (ad : Nat → Nat) (cA cB : ClassId) (σ : S0) : va_W := [
  (ad 0, .inr (0, [.ref (ad 1), .ref (ad 2), .ref (ad 3), .int (σ 0 0), .int (σ 0 1), .int (σ 0 2), .ref (ad 4), .ref (ad 5), .ref (ad 6)])),
  (ad 1, .inl (cA, 16, .inl (σ 1))),
  (ad 2, .inl (cA, 16, .inl (σ 2))),
  (ad 3, .inl (cA, 16, .inl (σ 3))),
  (ad 4, .inl (cA, 16, .inl (σ 4))),
  (ad 5, .inl (cA, 16, .inl (σ 5))),
  (ad 6, .inl (cA, 16, .inl (σ 6)))]
def kAD (ad : Nat → Nat) (sz : Nat) : Nat → Prop := fun q => (∃ k, k < 7 ∧ q = ad k) ∨ sz ≤ q
def kapD (ad : Nat → Nat) : Prop := ∀ i j, i < 7 → j < 7 → ad i = ad j → i = j
theorem wD_fst (ad : Nat → Nat) (cA cB : ClassId) (σ : S0) : (wD ad cA cB σ).map Prod.fst = (List.range 7).map ad := rfl
theorem wD_at {ad : Nat → Nat} {cA cB : ClassId} {σ : S0} {k : Nat} {q : Nat × va_E} (h : (wD ad cA cB σ)[k]? = some q) : k < 7 ∧ q.1 = ad k := by
  have h1 : ((wD ad cA cB σ).map Prod.fst)[k]? = some q.1 := by rw [List.getElem?_map, h]; rfl
  rw [wD_fst, List.getElem?_map] at h1
  rcases Nat.lt_or_ge k 7 with hk | hk
  · rw [List.getElem?_range hk] at h1
    exact ⟨hk, (Option.some.inj h1).symm⟩
  · rw [List.getElem?_eq_none (by rw [List.length_range]; exact hk)] at h1
    cases h1
theorem wD_D {ad : Nat → Nat} (hap : kapD ad) (cA cB : ClassId) (σ : S0) (sz : Nat) : va_D (kAD ad sz) (wD ad cA cB σ) :=
  ⟨fun i j p q hi hj hpq => by
    obtain ⟨a1, a2⟩ := wD_at hi
    obtain ⟨b1, b2⟩ := wD_at hj
    exact hap i j a1 b1 (by rw [← a2, ← b2]; exact hpq), fun k q hk => by
    obtain ⟨a1, a2⟩ := wD_at hk
    exact Or.inl ⟨k, a1, a2⟩⟩
theorem kAD_mono {ad : Nat → Nat} {a b : Nat} (h : a ≤ b) : ∀ q, kAD ad b q → kAD ad a q := fun q hq => hq.imp id (fun x => Nat.le_trans h x)
def kFD (_ : Nat → Nat) (_ : Nat) (_ : State) : Prop := True
theorem kFD.go {ad : Nat → Nat} {s U : State} {H : Heap} {locs : List Loc} (_ : kFD ad s.heap.size s) (_ : va_S (kAD ad s.heap.size) s.heap H locs) (_ : U.heap = H) (_ : s.WarmedH U.vm) : kFD ad H.size U := trivial
theorem kFD.same {ad : Nat → Nat} {sz : Nat} {u U : State} (_ : U.vm = u.vm) (_ : U.heap = u.heap) (_ : kFD ad sz u) : kFD ad sz U := trivial
abbrev ktyD (cA cB : ClassId) : List (ClassId × FieldType) := [(cA, .int), (cB, .boolean)]
/-- a method's start: the world, the classes, the facts -/
def kPcD (D : va_G) (ad : Nat → Nat) (cA cB : ClassId) (σ : S0) (sz : Nat) (av : List Value) : Array Value → State → Prop := va_Pc av (fun U => U.heap.size = sz ∧ va_P D vwCl (wD ad cA cB σ) U.heap ∧ va_K D vwCl (ktyD cA cB) U ∧ kFD ad sz U)
def kBD (D : va_G) (ad : Nat → Nat) (cA cB : ClassId) (σ : S0) (t : State) : Prop := va_P D vwCl (wD ad cA cB σ) t.heap
theorem kBD_of {D : va_G} {ad : Nat → Nat} {cA cB : ClassId} {σ : S0} {t : State} {H : Heap} (ht : t.heap = H) (hP : va_P D vwCl (wD ad cA cB σ) H) : kBD D ad cA cB σ t := by
  show va_P D vwCl (wD ad cA cB σ) t.heap
  rw [ht]; exact hP
theorem kPcD_blind {D : va_G} {ad : Nat → Nat} {cA cB : ClassId} {σ : S0} {sz : Nat} {av : List Value} : FrameBlind (kPcD D ad cA cB σ sz av) := fun a U g mk q => by
  obtain ⟨q0, q1, qP, qK, qF⟩ := q
  exact ⟨q0, q1, qP, va_K.moved (u := U) (U := U.calling g mk a) (Vm.Alike.refl U.vm) qK, qF.same (u := U) (U := U.calling g mk a) rfl rfl⟩
section KCD
variable {p : Program} {l : Launch} {e : Env} {R : Room} {s : State} {m : MethodId} {args : Array Value} {below : List Frame} {meth : Method} {c : Code} {H : Heap} {locs : List Loc} {cells slots : Nat} {Q : State → Prop}
variable {D : va_G} {ad : Nat → Nat} {cA cB : ClassId} {σ : S0} {pc : Nat} {ls : Array Slot} {rest st0 : List Value} {a : Array Value} {mc ms : Nat}
theorem kD_pre (hK : va_K D vwCl (ktyD cA cB) s) (hF : kFD ad s.heap.size s) (hP : va_P D vwCl (wD ad cA cB σ) H) (hS : va_S (kAD ad s.heap.size) s.heap H locs) (As : List Value) : PreS s H (kPcD D ad cA cB σ H.size As) As :=
  ⟨kPcD_blind, fun U hU hW => ⟨rfl, by rw [hU], by rw [hU]; exact hP, va_K.moved hW.alike hK, hF.go hS hU hW⟩⟩
theorem kD_preV (hK : va_K D vwCl (ktyD cA cB) s) (hF : kFD ad s.heap.size s) (hP : va_P D vwCl (wD ad cA cB σ) H) (hS : va_S (kAD ad s.heap.size) s.heap H locs) (q0 : Nat) {b ci : Nat} {q : vw_C} {fs : List Value} (he : (wD ad cA cB σ)[q0]? = some (b, .inr (ci, fs))) (hc : vwCl[ci]? = some q) (As : List Value) : PreV s H q.1 b (kPcD D ad cA cB σ H.size (.ref b :: As)) As :=
  ⟨kPcD_blind, va_recv hK hP hc he, (kD_pre hK hF hP hS (.ref b :: As)).2⟩
theorem kD_i {post : Int32 → S0 → Prop} (hr : va_Run p l e R s m args below meth c H locs cells slots mc ms (F0 m pc ls st0) rest (va_Qi post (kBD D ad cA cB) (kAD ad H.size) a) (kAD ad H.size)) (hS : va_S (kAD ad s.heap.size) s.heap H locs)
    (kk : ∀ (r : Int32) (σ1 : S0) (H1 : Heap) (locs1 : List Loc), post r σ1 → va_P D vwCl (wD ad cA cB σ1) H1 → va_S (kAD ad s.heap.size) s.heap H1 locs1 → W p l e R s m args below meth c H1 locs1 (cells + mc) (slots + ms) Q (F0 m (pc + 3) ls (.int r :: rest))) : W p l e R s m args below meth c H locs cells slots Q (F0 m pc ls st0) :=
  va_calli hr hS (fun q _ h => kAD_mono hS.1 q h) (kAD_mono hS.1) (fun r u t H1 locs1 ht _ hp hB _ _ hS1 => kk r u H1 locs1 hp (by rw [← ht]; exact hB) hS1)
theorem kD_v {post : S0 → Prop} (hr : va_Run p l e R s m args below meth c H locs cells slots mc ms (F0 m pc ls st0) rest (va_Qv post (kBD D ad cA cB) (kAD ad H.size) a) (kAD ad H.size)) (hS : va_S (kAD ad s.heap.size) s.heap H locs)
    (kk : ∀ (σ1 : S0) (H1 : Heap) (locs1 : List Loc), post σ1 → va_P D vwCl (wD ad cA cB σ1) H1 → va_S (kAD ad s.heap.size) s.heap H1 locs1 → W p l e R s m args below meth c H1 locs1 (cells + mc) (slots + ms) Q (F0 m (pc + 3) ls rest)) : W p l e R s m args below meth c H locs cells slots Q (F0 m pc ls st0) :=
  va_callv hr hS (fun q _ h => kAD_mono hS.1 q h) (kAD_mono hS.1) (fun u t H1 locs1 ht _ hp hB _ _ hS1 => kk u H1 locs1 hp (by rw [← ht]; exact hB) hS1)
end KCD

theorem wD_ap {A : Nat → Prop} {ad : Nat → Nat} {cA cB : ClassId} {σ : S0} (h : va_D A (wD ad cA cB σ)) : kapD ad := by
  intro i j hi hj hij
  have at' : ∀ k, k < 7 → ∃ e, (wD ad cA cB σ)[k]? = some (ad k, e) := by
    intro k hk
    have hlen : (wD ad cA cB σ).length = 7 := rfl
    obtain ⟨q, hq⟩ : ∃ q, (wD ad cA cB σ)[k]? = some q := ⟨_, List.getElem?_eq_getElem (by rw [hlen]; exact hk)⟩
    refine ⟨q.2, ?_⟩
    rw [hq]
    have := (wD_at hq).2
    rw [← this]
  obtain ⟨e1, h1⟩ := at' i hi
  obtain ⟨e2, h2⟩ := at' j hj
  exact h.1 i j _ _ h1 h2 hij
theorem wD_in {A : Nat → Prop} {ad : Nat → Nat} {cA cB : ClassId} {σ : S0} (h : va_D A (wD ad cA cB σ)) {k : Nat} (hk : k < 7) : A (ad k) := by
  have hlen : (wD ad cA cB σ).length = 7 := rfl
  obtain ⟨q, hq⟩ : ∃ q, (wD ad cA cB σ)[k]? = some q := ⟨_, List.getElem?_eq_getElem (by rw [hlen]; exact hk)⟩
  have := (wD_at hq).2
  rw [← this]
  exact h.2 k q hq
theorem wD_DA {A : Nat → Prop} {ad : Nat → Nat} (hap : kapD ad) {cA cB : ClassId} {σ : S0} (h : ∀ k, k < 7 → A (ad k)) : va_D A (wD ad cA cB σ) :=
  ⟨(wD_D hap cA cB σ 0).1, fun k q hk => by
    obtain ⟨a1, a2⟩ := wD_at hk
    rw [a2]; exact h k a1⟩

def wP (ad : Nat → Nat) (cA cB : ClassId) (σ : S0) : va_W := [
  (ad 0, .inr (2, [.ref (ad 1), .ref (ad 2), .ref (ad 3), .int (σ 0 0), .int (σ 0 1), .int (σ 0 2), .int (σ 0 3), .ref (ad 4), .ref (ad 5), .ref (ad 6)])),
  (ad 1, .inl (cA, 16, .inl (σ 1))),
  (ad 2, .inl (cA, 256, .inl (σ 2))),
  (ad 3, .inl (cA, 256, .inl (σ 3))),
  (ad 4, .inl (cA, 16, .inl (σ 4))),
  (ad 5, .inl (cA, 16, .inl (σ 5))),
  (ad 6, .inl (cA, 256, .inl (σ 6)))]
def kAP (ad : Nat → Nat) (sz : Nat) : Nat → Prop := fun q => (∃ k, k < 7 ∧ q = ad k) ∨ sz ≤ q
def kapP (ad : Nat → Nat) : Prop := ∀ i j, i < 7 → j < 7 → ad i = ad j → i = j
theorem wP_fst (ad : Nat → Nat) (cA cB : ClassId) (σ : S0) : (wP ad cA cB σ).map Prod.fst = (List.range 7).map ad := rfl
theorem wP_at {ad : Nat → Nat} {cA cB : ClassId} {σ : S0} {k : Nat} {q : Nat × va_E} (h : (wP ad cA cB σ)[k]? = some q) : k < 7 ∧ q.1 = ad k := by
  have h1 : ((wP ad cA cB σ).map Prod.fst)[k]? = some q.1 := by rw [List.getElem?_map, h]; rfl
  rw [wP_fst, List.getElem?_map] at h1
  rcases Nat.lt_or_ge k 7 with hk | hk
  · rw [List.getElem?_range hk] at h1
    exact ⟨hk, (Option.some.inj h1).symm⟩
  · rw [List.getElem?_eq_none (by rw [List.length_range]; exact hk)] at h1
    cases h1
theorem wP_D {ad : Nat → Nat} (hap : kapP ad) (cA cB : ClassId) (σ : S0) (sz : Nat) : va_D (kAP ad sz) (wP ad cA cB σ) :=
  ⟨fun i j p q hi hj hpq => by
    obtain ⟨a1, a2⟩ := wP_at hi
    obtain ⟨b1, b2⟩ := wP_at hj
    exact hap i j a1 b1 (by rw [← a2, ← b2]; exact hpq), fun k q hk => by
    obtain ⟨a1, a2⟩ := wP_at hk
    exact Or.inl ⟨k, a1, a2⟩⟩
theorem kAP_mono {ad : Nat → Nat} {a b : Nat} (h : a ≤ b) : ∀ q, kAP ad b q → kAP ad a q := fun q hq => hq.imp id (fun x => Nat.le_trans h x)
def kFP (_ : Nat → Nat) (_ : Nat) (_ : State) : Prop := True
theorem kFP.go {ad : Nat → Nat} {s U : State} {H : Heap} {locs : List Loc} (_ : kFP ad s.heap.size s) (_ : va_S (kAP ad s.heap.size) s.heap H locs) (_ : U.heap = H) (_ : s.WarmedH U.vm) : kFP ad H.size U := trivial
theorem kFP.same {ad : Nat → Nat} {sz : Nat} {u U : State} (_ : U.vm = u.vm) (_ : U.heap = u.heap) (_ : kFP ad sz u) : kFP ad sz U := trivial
abbrev ktyP (cA cB : ClassId) : List (ClassId × FieldType) := [(cA, .int), (cB, .boolean)]
/-- a method's start: the world, the classes, the facts -/
def kPcP (D : va_G) (ad : Nat → Nat) (cA cB : ClassId) (σ : S0) (sz : Nat) (av : List Value) : Array Value → State → Prop := va_Pc av (fun U => U.heap.size = sz ∧ va_P D vwCl (wP ad cA cB σ) U.heap ∧ va_K D vwCl (ktyP cA cB) U ∧ kFP ad sz U)
def kBP (D : va_G) (ad : Nat → Nat) (cA cB : ClassId) (σ : S0) (t : State) : Prop := va_P D vwCl (wP ad cA cB σ) t.heap
theorem kBP_of {D : va_G} {ad : Nat → Nat} {cA cB : ClassId} {σ : S0} {t : State} {H : Heap} (ht : t.heap = H) (hP : va_P D vwCl (wP ad cA cB σ) H) : kBP D ad cA cB σ t := by
  show va_P D vwCl (wP ad cA cB σ) t.heap
  rw [ht]; exact hP
theorem kPcP_blind {D : va_G} {ad : Nat → Nat} {cA cB : ClassId} {σ : S0} {sz : Nat} {av : List Value} : FrameBlind (kPcP D ad cA cB σ sz av) := fun a U g mk q => by
  obtain ⟨q0, q1, qP, qK, qF⟩ := q
  exact ⟨q0, q1, qP, va_K.moved (u := U) (U := U.calling g mk a) (Vm.Alike.refl U.vm) qK, qF.same (u := U) (U := U.calling g mk a) rfl rfl⟩
section KCP
variable {p : Program} {l : Launch} {e : Env} {R : Room} {s : State} {m : MethodId} {args : Array Value} {below : List Frame} {meth : Method} {c : Code} {H : Heap} {locs : List Loc} {cells slots : Nat} {Q : State → Prop}
variable {D : va_G} {ad : Nat → Nat} {cA cB : ClassId} {σ : S0} {pc : Nat} {ls : Array Slot} {rest st0 : List Value} {a : Array Value} {mc ms : Nat}
theorem kP_pre (hK : va_K D vwCl (ktyP cA cB) s) (hF : kFP ad s.heap.size s) (hP : va_P D vwCl (wP ad cA cB σ) H) (hS : va_S (kAP ad s.heap.size) s.heap H locs) (As : List Value) : PreS s H (kPcP D ad cA cB σ H.size As) As :=
  ⟨kPcP_blind, fun U hU hW => ⟨rfl, by rw [hU], by rw [hU]; exact hP, va_K.moved hW.alike hK, hF.go hS hU hW⟩⟩
theorem kP_preV (hK : va_K D vwCl (ktyP cA cB) s) (hF : kFP ad s.heap.size s) (hP : va_P D vwCl (wP ad cA cB σ) H) (hS : va_S (kAP ad s.heap.size) s.heap H locs) (q0 : Nat) {b ci : Nat} {q : vw_C} {fs : List Value} (he : (wP ad cA cB σ)[q0]? = some (b, .inr (ci, fs))) (hc : vwCl[ci]? = some q) (As : List Value) : PreV s H q.1 b (kPcP D ad cA cB σ H.size (.ref b :: As)) As :=
  ⟨kPcP_blind, va_recv hK hP hc he, (kP_pre hK hF hP hS (.ref b :: As)).2⟩
theorem kP_i {post : Int32 → S0 → Prop} (hr : va_Run p l e R s m args below meth c H locs cells slots mc ms (F0 m pc ls st0) rest (va_Qi post (kBP D ad cA cB) (kAP ad H.size) a) (kAP ad H.size)) (hS : va_S (kAP ad s.heap.size) s.heap H locs)
    (kk : ∀ (r : Int32) (σ1 : S0) (H1 : Heap) (locs1 : List Loc), post r σ1 → va_P D vwCl (wP ad cA cB σ1) H1 → va_S (kAP ad s.heap.size) s.heap H1 locs1 → W p l e R s m args below meth c H1 locs1 (cells + mc) (slots + ms) Q (F0 m (pc + 3) ls (.int r :: rest))) : W p l e R s m args below meth c H locs cells slots Q (F0 m pc ls st0) :=
  va_calli hr hS (fun q _ h => kAP_mono hS.1 q h) (kAP_mono hS.1) (fun r u t H1 locs1 ht _ hp hB _ _ hS1 => kk r u H1 locs1 hp (by rw [← ht]; exact hB) hS1)
theorem kP_v {post : S0 → Prop} (hr : va_Run p l e R s m args below meth c H locs cells slots mc ms (F0 m pc ls st0) rest (va_Qv post (kBP D ad cA cB) (kAP ad H.size) a) (kAP ad H.size)) (hS : va_S (kAP ad s.heap.size) s.heap H locs)
    (kk : ∀ (σ1 : S0) (H1 : Heap) (locs1 : List Loc), post σ1 → va_P D vwCl (wP ad cA cB σ1) H1 → va_S (kAP ad s.heap.size) s.heap H1 locs1 → W p l e R s m args below meth c H1 locs1 (cells + mc) (slots + ms) Q (F0 m (pc + 3) ls rest)) : W p l e R s m args below meth c H locs cells slots Q (F0 m pc ls st0) :=
  va_callv hr hS (fun q _ h => kAP_mono hS.1 q h) (kAP_mono hS.1) (fun u t H1 locs1 ht _ hp hB _ _ hS1 => kk u H1 locs1 hp (by rw [← ht]; exact hB) hS1)
end KCP

theorem wP_ap {A : Nat → Prop} {ad : Nat → Nat} {cA cB : ClassId} {σ : S0} (h : va_D A (wP ad cA cB σ)) : kapP ad := by
  intro i j hi hj hij
  have at' : ∀ k, k < 7 → ∃ e, (wP ad cA cB σ)[k]? = some (ad k, e) := by
    intro k hk
    have hlen : (wP ad cA cB σ).length = 7 := rfl
    obtain ⟨q, hq⟩ : ∃ q, (wP ad cA cB σ)[k]? = some q := ⟨_, List.getElem?_eq_getElem (by rw [hlen]; exact hk)⟩
    refine ⟨q.2, ?_⟩
    rw [hq]
    have := (wP_at hq).2
    rw [← this]
  obtain ⟨e1, h1⟩ := at' i hi
  obtain ⟨e2, h2⟩ := at' j hj
  exact h.1 i j _ _ h1 h2 hij
theorem wP_in {A : Nat → Prop} {ad : Nat → Nat} {cA cB : ClassId} {σ : S0} (h : va_D A (wP ad cA cB σ)) {k : Nat} (hk : k < 7) : A (ad k) := by
  have hlen : (wP ad cA cB σ).length = 7 := rfl
  obtain ⟨q, hq⟩ : ∃ q, (wP ad cA cB σ)[k]? = some q := ⟨_, List.getElem?_eq_getElem (by rw [hlen]; exact hk)⟩
  have := (wP_at hq).2
  rw [← this]
  exact h.2 k q hq
theorem wP_DA {A : Nat → Prop} {ad : Nat → Nat} (hap : kapP ad) {cA cB : ClassId} {σ : S0} (h : ∀ k, k < 7 → A (ad k)) : va_D A (wP ad cA cB σ) :=
  ⟨(wP_D hap cA cB σ 0).1, fun k q hk => by
    obtain ⟨a1, a2⟩ := wP_at hk
    rw [a2]; exact h k a1⟩

def wO (ad : Nat → Nat) (cA cB : ClassId) (σ : S0) : va_W := [
  (ad 0, .inr (1, [.ref (ad 1), .ref (ad 2), .int (σ 0 0), .ref (ad 3), .ref (ad 4), .ref (ad 5), .ref (ad 6), .ref (ad 7), .ref (ad 8), .ref (ad 9), .ref (ad 10), .int (σ 0 1), .int (σ 0 2), .int (σ 0 3)])),
  (ad 1, .inl (cA, 166, .inl (σ 1))),
  (ad 2, .inl (cA, 13, .inl (σ 2))),
  (ad 3, .inl (cA, 166, .inl (σ 3))),
  (ad 4, .inl (cA, 166, .inl (σ 4))),
  (ad 5, .inl (cA, 17, .inl (σ 5))),
  (ad 6, .inl (cA, 406, .inl (σ 6))),
  (ad 7, .inl (cA, 406, .inl (σ 7))),
  (ad 8, .inl (cA, 17, .inl (σ 8))),
  (ad 9, .inl (cA, 166, .inl (σ 9))),
  (ad 10, .inl (cA, 166, .inl (σ 10)))]
def kAO (ad : Nat → Nat) (sz : Nat) : Nat → Prop := fun q => (∃ k, k < 11 ∧ q = ad k) ∨ sz ≤ q
def kapO (ad : Nat → Nat) : Prop := ∀ i j, i < 11 → j < 11 → ad i = ad j → i = j
theorem wO_fst (ad : Nat → Nat) (cA cB : ClassId) (σ : S0) : (wO ad cA cB σ).map Prod.fst = (List.range 11).map ad := rfl
theorem wO_at {ad : Nat → Nat} {cA cB : ClassId} {σ : S0} {k : Nat} {q : Nat × va_E} (h : (wO ad cA cB σ)[k]? = some q) : k < 11 ∧ q.1 = ad k := by
  have h1 : ((wO ad cA cB σ).map Prod.fst)[k]? = some q.1 := by rw [List.getElem?_map, h]; rfl
  rw [wO_fst, List.getElem?_map] at h1
  rcases Nat.lt_or_ge k 11 with hk | hk
  · rw [List.getElem?_range hk] at h1
    exact ⟨hk, (Option.some.inj h1).symm⟩
  · rw [List.getElem?_eq_none (by rw [List.length_range]; exact hk)] at h1
    cases h1
theorem wO_D {ad : Nat → Nat} (hap : kapO ad) (cA cB : ClassId) (σ : S0) (sz : Nat) : va_D (kAO ad sz) (wO ad cA cB σ) :=
  ⟨fun i j p q hi hj hpq => by
    obtain ⟨a1, a2⟩ := wO_at hi
    obtain ⟨b1, b2⟩ := wO_at hj
    exact hap i j a1 b1 (by rw [← a2, ← b2]; exact hpq), fun k q hk => by
    obtain ⟨a1, a2⟩ := wO_at hk
    exact Or.inl ⟨k, a1, a2⟩⟩
theorem kAO_mono {ad : Nat → Nat} {a b : Nat} (h : a ≤ b) : ∀ q, kAO ad b q → kAO ad a q := fun q hq => hq.imp id (fun x => Nat.le_trans h x)
def kFO (_ : Nat → Nat) (_ : Nat) (_ : State) : Prop := True
theorem kFO.go {ad : Nat → Nat} {s U : State} {H : Heap} {locs : List Loc} (_ : kFO ad s.heap.size s) (_ : va_S (kAO ad s.heap.size) s.heap H locs) (_ : U.heap = H) (_ : s.WarmedH U.vm) : kFO ad H.size U := trivial
theorem kFO.same {ad : Nat → Nat} {sz : Nat} {u U : State} (_ : U.vm = u.vm) (_ : U.heap = u.heap) (_ : kFO ad sz u) : kFO ad sz U := trivial
abbrev ktyO (cA cB : ClassId) : List (ClassId × FieldType) := [(cA, .int), (cB, .boolean)]
/-- a method's start: the world, the classes, the facts -/
def kPcO (D : va_G) (ad : Nat → Nat) (cA cB : ClassId) (σ : S0) (sz : Nat) (av : List Value) : Array Value → State → Prop := va_Pc av (fun U => U.heap.size = sz ∧ va_P D vwCl (wO ad cA cB σ) U.heap ∧ va_K D vwCl (ktyO cA cB) U ∧ kFO ad sz U)
def kBO (D : va_G) (ad : Nat → Nat) (cA cB : ClassId) (σ : S0) (t : State) : Prop := va_P D vwCl (wO ad cA cB σ) t.heap
theorem kBO_of {D : va_G} {ad : Nat → Nat} {cA cB : ClassId} {σ : S0} {t : State} {H : Heap} (ht : t.heap = H) (hP : va_P D vwCl (wO ad cA cB σ) H) : kBO D ad cA cB σ t := by
  show va_P D vwCl (wO ad cA cB σ) t.heap
  rw [ht]; exact hP
theorem kPcO_blind {D : va_G} {ad : Nat → Nat} {cA cB : ClassId} {σ : S0} {sz : Nat} {av : List Value} : FrameBlind (kPcO D ad cA cB σ sz av) := fun a U g mk q => by
  obtain ⟨q0, q1, qP, qK, qF⟩ := q
  exact ⟨q0, q1, qP, va_K.moved (u := U) (U := U.calling g mk a) (Vm.Alike.refl U.vm) qK, qF.same (u := U) (U := U.calling g mk a) rfl rfl⟩
section KCO
variable {p : Program} {l : Launch} {e : Env} {R : Room} {s : State} {m : MethodId} {args : Array Value} {below : List Frame} {meth : Method} {c : Code} {H : Heap} {locs : List Loc} {cells slots : Nat} {Q : State → Prop}
variable {D : va_G} {ad : Nat → Nat} {cA cB : ClassId} {σ : S0} {pc : Nat} {ls : Array Slot} {rest st0 : List Value} {a : Array Value} {mc ms : Nat}
theorem kO_pre (hK : va_K D vwCl (ktyO cA cB) s) (hF : kFO ad s.heap.size s) (hP : va_P D vwCl (wO ad cA cB σ) H) (hS : va_S (kAO ad s.heap.size) s.heap H locs) (As : List Value) : PreS s H (kPcO D ad cA cB σ H.size As) As :=
  ⟨kPcO_blind, fun U hU hW => ⟨rfl, by rw [hU], by rw [hU]; exact hP, va_K.moved hW.alike hK, hF.go hS hU hW⟩⟩
theorem kO_preV (hK : va_K D vwCl (ktyO cA cB) s) (hF : kFO ad s.heap.size s) (hP : va_P D vwCl (wO ad cA cB σ) H) (hS : va_S (kAO ad s.heap.size) s.heap H locs) (q0 : Nat) {b ci : Nat} {q : vw_C} {fs : List Value} (he : (wO ad cA cB σ)[q0]? = some (b, .inr (ci, fs))) (hc : vwCl[ci]? = some q) (As : List Value) : PreV s H q.1 b (kPcO D ad cA cB σ H.size (.ref b :: As)) As :=
  ⟨kPcO_blind, va_recv hK hP hc he, (kO_pre hK hF hP hS (.ref b :: As)).2⟩
theorem kO_i {post : Int32 → S0 → Prop} (hr : va_Run p l e R s m args below meth c H locs cells slots mc ms (F0 m pc ls st0) rest (va_Qi post (kBO D ad cA cB) (kAO ad H.size) a) (kAO ad H.size)) (hS : va_S (kAO ad s.heap.size) s.heap H locs)
    (kk : ∀ (r : Int32) (σ1 : S0) (H1 : Heap) (locs1 : List Loc), post r σ1 → va_P D vwCl (wO ad cA cB σ1) H1 → va_S (kAO ad s.heap.size) s.heap H1 locs1 → W p l e R s m args below meth c H1 locs1 (cells + mc) (slots + ms) Q (F0 m (pc + 3) ls (.int r :: rest))) : W p l e R s m args below meth c H locs cells slots Q (F0 m pc ls st0) :=
  va_calli hr hS (fun q _ h => kAO_mono hS.1 q h) (kAO_mono hS.1) (fun r u t H1 locs1 ht _ hp hB _ _ hS1 => kk r u H1 locs1 hp (by rw [← ht]; exact hB) hS1)
theorem kO_v {post : S0 → Prop} (hr : va_Run p l e R s m args below meth c H locs cells slots mc ms (F0 m pc ls st0) rest (va_Qv post (kBO D ad cA cB) (kAO ad H.size) a) (kAO ad H.size)) (hS : va_S (kAO ad s.heap.size) s.heap H locs)
    (kk : ∀ (σ1 : S0) (H1 : Heap) (locs1 : List Loc), post σ1 → va_P D vwCl (wO ad cA cB σ1) H1 → va_S (kAO ad s.heap.size) s.heap H1 locs1 → W p l e R s m args below meth c H1 locs1 (cells + mc) (slots + ms) Q (F0 m (pc + 3) ls rest)) : W p l e R s m args below meth c H locs cells slots Q (F0 m pc ls st0) :=
  va_callv hr hS (fun q _ h => kAO_mono hS.1 q h) (kAO_mono hS.1) (fun u t H1 locs1 ht _ hp hB _ _ hS1 => kk u H1 locs1 hp (by rw [← ht]; exact hB) hS1)
end KCO

theorem wO_ap {A : Nat → Prop} {ad : Nat → Nat} {cA cB : ClassId} {σ : S0} (h : va_D A (wO ad cA cB σ)) : kapO ad := by
  intro i j hi hj hij
  have at' : ∀ k, k < 11 → ∃ e, (wO ad cA cB σ)[k]? = some (ad k, e) := by
    intro k hk
    have hlen : (wO ad cA cB σ).length = 11 := rfl
    obtain ⟨q, hq⟩ : ∃ q, (wO ad cA cB σ)[k]? = some q := ⟨_, List.getElem?_eq_getElem (by rw [hlen]; exact hk)⟩
    refine ⟨q.2, ?_⟩
    rw [hq]
    have := (wO_at hq).2
    rw [← this]
  obtain ⟨e1, h1⟩ := at' i hi
  obtain ⟨e2, h2⟩ := at' j hj
  exact h.1 i j _ _ h1 h2 hij
theorem wO_in {A : Nat → Prop} {ad : Nat → Nat} {cA cB : ClassId} {σ : S0} (h : va_D A (wO ad cA cB σ)) {k : Nat} (hk : k < 11) : A (ad k) := by
  have hlen : (wO ad cA cB σ).length = 11 := rfl
  obtain ⟨q, hq⟩ : ∃ q, (wO ad cA cB σ)[k]? = some q := ⟨_, List.getElem?_eq_getElem (by rw [hlen]; exact hk)⟩
  have := (wO_at hq).2
  rw [← this]
  exact h.2 k q hq
theorem wO_DA {A : Nat → Prop} {ad : Nat → Nat} (hap : kapO ad) {cA cB : ClassId} {σ : S0} (h : ∀ k, k < 11 → A (ad k)) : va_D A (wO ad cA cB σ) :=
  ⟨(wO_D hap cA cB σ 0).1, fun k q hk => by
    obtain ⟨a1, a2⟩ := wO_at hk
    rw [a2]; exact h k a1⟩

theorem wR_ap {A : Nat → Prop} {ad : Nat → Nat} {cA cB : ClassId} {σ : S0} (h : va_D A (wR ad cA cB σ)) : kapR ad := by
  intro i j hi hj hij
  have at' : ∀ k, k < 21 → ∃ e, (wR ad cA cB σ)[k]? = some (ad k, e) := by
    intro k hk
    have hlen : (wR ad cA cB σ).length = 21 := rfl
    obtain ⟨q, hq⟩ : ∃ q, (wR ad cA cB σ)[k]? = some q := ⟨_, List.getElem?_eq_getElem (by rw [hlen]; exact hk)⟩
    refine ⟨q.2, ?_⟩
    rw [hq]
    have := (wR_at hq).2
    rw [← this]
  obtain ⟨e1, h1⟩ := at' i hi
  obtain ⟨e2, h2⟩ := at' j hj
  exact h.1 i j _ _ h1 h2 hij
theorem wR_in {A : Nat → Prop} {ad : Nat → Nat} {cA cB : ClassId} {σ : S0} (h : va_D A (wR ad cA cB σ)) {k : Nat} (hk : k < 21) : A (ad k) := by
  have hlen : (wR ad cA cB σ).length = 21 := rfl
  obtain ⟨q, hq⟩ : ∃ q, (wR ad cA cB σ)[k]? = some q := ⟨_, List.getElem?_eq_getElem (by rw [hlen]; exact hk)⟩
  have := (wR_at hq).2
  rw [← this]
  exact h.2 k q hq
theorem wR_DA {A : Nat → Prop} {ad : Nat → Nat} (hap : kapR ad) {cA cB : ClassId} {σ : S0} (h : ∀ k, k < 21 → A (ad k)) : va_D A (wR ad cA cB σ) :=
  ⟨(wR_D hap cA cB σ 0).1, fun k q hk => by
    obtain ⟨a1, a2⟩ := wR_at hk
    rw [a2]; exact h k a1⟩

theorem wC_ap {A : Nat → Prop} {ad : Nat → Nat} {cA cB : ClassId} {σ : S0} (h : va_D A (wC ad cA cB σ)) : kapC ad := by
  intro i j hi hj hij
  have at' : ∀ k, k < 26 → ∃ e, (wC ad cA cB σ)[k]? = some (ad k, e) := by
    intro k hk
    have hlen : (wC ad cA cB σ).length = 26 := rfl
    obtain ⟨q, hq⟩ : ∃ q, (wC ad cA cB σ)[k]? = some q := ⟨_, List.getElem?_eq_getElem (by rw [hlen]; exact hk)⟩
    refine ⟨q.2, ?_⟩
    rw [hq]
    have := (wC_at hq).2
    rw [← this]
  obtain ⟨e1, h1⟩ := at' i hi
  obtain ⟨e2, h2⟩ := at' j hj
  exact h.1 i j _ _ h1 h2 hij
theorem wC_in {A : Nat → Prop} {ad : Nat → Nat} {cA cB : ClassId} {σ : S0} (h : va_D A (wC ad cA cB σ)) {k : Nat} (hk : k < 26) : A (ad k) := by
  have hlen : (wC ad cA cB σ).length = 26 := rfl
  obtain ⟨q, hq⟩ : ∃ q, (wC ad cA cB σ)[k]? = some q := ⟨_, List.getElem?_eq_getElem (by rw [hlen]; exact hk)⟩
  have := (wC_at hq).2
  rw [← this]
  exact h.2 k q hq
theorem wC_DA {A : Nat → Prop} {ad : Nat → Nat} (hap : kapC ad) {cA cB : ClassId} {σ : S0} (h : ∀ k, k < 26 → A (ad k)) : va_D A (wC ad cA cB σ) :=
  ⟨(wC_D hap cA cB σ 0).1, fun k q hk => by
    obtain ⟨a1, a2⟩ := wC_at hk
    rw [a2]; exact h k a1⟩
theorem m_73 : Cond.instanceMethod Lib.objectInit ∈ wsG := wsG_in (List.mem_of_getElem? (i := 73) (by decide +kernel)) (by decide +kernel)
theorem m_74 : Cond.code Lib.objectInit ⟨#[0xb1]⟩ 1 none ∈ wsG := wsG_in (List.mem_of_getElem? (i := 74) (by decide +kernel)) (by decide +kernel)
theorem m_80 : Cond.methodLink RX0 3 Lib.objectInit ∈ wsG := wsG_in (List.mem_of_getElem? (i := 80) (by decide +kernel)) (by decide +kernel)
theorem m_115 : Cond.arrayClass .int ∈ wsG := wsG_in (List.mem_of_getElem? (i := 115) (by decide +kernel)) (by decide +kernel)
theorem m_121 : Cond.methodLink RX2 3 Lib.objectInit ∈ wsG := wsG_in (List.mem_of_getElem? (i := 121) (by decide +kernel)) (by decide +kernel)
theorem m_170 : Cond.methodLink RX1 3 Lib.objectInit ∈ wsG := wsG_in (List.mem_of_getElem? (i := 170) (by decide +kernel)) (by decide +kernel)
theorem m_618 : Cond.methodLink RX4 1 Lib.objectInit ∈ wsG := wsG_in (List.mem_of_getElem? (i := 618) (by decide +kernel)) (by decide +kernel)
theorem m_701 : Cond.arrayClass .boolean ∈ wsG := wsG_in (List.mem_of_getElem? (i := 701) (by decide +kernel)) (by decide +kernel)
/-- MatrixSheets$Dig: MatrixSheets$Dig() -/
def Sp_D_init (σ : S0) (post : S0 → Prop) : Prop :=
  ∀ G54 : Int32 → S0 → Prop,
  (∀ (x1 : Int32) (σ : S0),
    ((16 ≤ x1 →
      post σ) ∧
    (¬ 16 ≤ x1 →
      vp_in x1 16 ∧
      (∀ σ1 : S0, σ1 = st σ 1 x1.toNatClampNeg x1 →
      vp_in x1 16 ∧
      (∀ σ2 : S0, σ2 = st σ1 5 x1.toNatClampNeg (-1) →
      vp_in x1 16 ∧
      (∀ σ3 : S0, σ3 = st σ2 2 x1.toNatClampNeg (-1) →
      G54 (x1 + 1) σ3))))) →
    G54 x1 σ) →
  G54 0 σ
/-- MatrixSheets$Plan: private MatrixSheets$Plan() -/
def Sp_P_init (σ : S0) (post : S0 → Prop) : Prop :=
  post σ
/-- MatrixSheets$Order: private MatrixSheets$Order() -/
def Sp_O_init (σ : S0) (post : S0 → Prop) : Prop :=
  post σ
/-- MatrixSheetsModel: public MatrixSheetsModel() -/
def Sp_R_init (σ : S0) (post : S0 → Prop) : Prop :=
  ∀ G181 : Int32 → S0 → Prop,
  (∀ (x1 : Int32) (σ : S0),
    ((16 ≤ x1 →
      post σ) ∧
    (¬ 16 ≤ x1 →
      vp_in x1 16 ∧
      (∀ σ1 : S0, σ1 = st σ 2 x1.toNatClampNeg x1 →
      vp_in x1 16 ∧
      (∀ σ2 : S0, σ2 = st σ1 3 x1.toNatClampNeg (-1) →
      G181 (x1 + 1) σ2)))) →
    G181 x1 σ) →
  G181 0 σ
