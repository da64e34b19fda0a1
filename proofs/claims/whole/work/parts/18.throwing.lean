/-! exceptions of the class: kinds 0, 1, 2 -/
def kexn : Nat → String
  | 0 => "java/lang/IndexOutOfBoundsException"
  | 1 => "java/lang/IllegalStateException"
  | _ => "java/lang/IllegalArgumentException"
def kpx (px : Nat → S0 → Prop) : Nat × S0 → Prop := fun u => px u.1 u.2
def kBX (D : va_G) (ad : Nat → Nat) (cA cB : ClassId) : String → Nat × S0 → State → Prop := fun E u t => E = kexn u.1 ∧ kBC D ad cA cB u.2 t
abbrev kX (D : va_G) (ad : Nat → Nat) (cA cB : ClassId) (px : Nat → S0 → Prop) (sz : Nat) : String → State → State → Prop := vx_X (kpx px) (kBX D ad cA cB) (kAC ad sz)
abbrev kch : List String := ["java/lang/RuntimeException", "java/lang/Exception"]
section KX
variable {p : Program} {l : Launch} {e : Env} {R : Room} {s : State} {m : MethodId} {args : Array Value} {below : List Frame} {meth : Method} {c : Code} {H : Heap} {locs : List Loc} {cells slots : Nat}
variable {D : va_G} {ad : Nat → Nat} {cA cB : ClassId} {σ : S0} {pc : Nat} {ls : Array Slot} {rest st0 : List Value} {a : Array Value} {mc ms MC MS : Nat} {Qc : Array Value → State → Outcome → State → Prop} {px : Nat → S0 → Prop}
theorem kX_thrown (k : Nat) (h : px k σ) (hP : va_P D vwCl (wC ad cA cB σ) H) (hS : va_S (kAC ad s.heap.size) s.heap H locs) : ∀ t : State, s.vm.Alike t.vm → H.size ≤ t.heap.size → (∀ q : Nat, q < H.size → t.heap[q]? = H[q]?) → kX D ad cA cB px s.heap.size (kexn k) s t := fun t _ hsz hk =>
  ⟨(k, σ), h, ⟨rfl, hP.kept (fun j q hj => hk q.1 (hP j q hj).lt)⟩, Nat.le_trans hS.1 hsz, fun q h1 h2 => (hk q (Nat.lt_of_lt_of_le h1 hS.1)).trans (hS.2.1 q h1 h2)⟩
theorem kX_pass {E : String} {u : Nat × S0} {t0 : State} {H1 : Heap} {locs1 : List Loc} (ht0 : t0.heap = H1) (hp : kpx px u) (hB : kBX D ad cA cB E u t0) (hS : va_S (kAC ad s.heap.size) s.heap H1 locs1) : ∀ t : State, t.heap = H1 → s.vm.Alike t.vm → kX D ad cA cB px s.heap.size E s t := fun t ht _ =>
  ⟨u, hp, ⟨hB.1, by show va_P D vwCl (wC ad cA cB u.2) t.heap; rw [ht, ← ht0]; exact hB.2⟩, hS.F ht⟩
theorem kX_v {post : S0 → Prop} (hr : vx_Run p l e R s m args below meth c H locs cells slots mc ms (F0 m pc ls st0) rest (va_Qv post (kBC D ad cA cB) (kAC ad H.size) a) (kX D ad cA cB px H.size) (kAC ad H.size)) (hS : va_S (kAC ad s.heap.size) s.heap H locs) (hno : ∀ σ, ¬ post σ)
    (hnx : ∀ x ∈ c.exceptionTable.toList, False) (hlocks : meth.locks = false) (h1 : cells + mc ≤ MC) (h2 : slots + ms ≤ MS) : W p l e R s m args below meth c H locs cells slots (vx_MQ below Qc (kX D ad cA cB px s.heap.size) args s MC MS (kAC ad s.heap.size)) (F0 m pc ls st0) :=
  vx_callv hr hS (fun q _ h => kAC_mono hS.1 q h) (kAC_mono hS.1) (fun q _ h => kAC_mono hS.1 q h)
    (fun E ce q9 u t H1 locs1 ht _ hp hB _ _ hS1 hcell hv hcl => vx_out (fun x hx => (hnx x hx).elim) hlocks hcell hv hcl (kX_pass ht hp hB hS1) hS1.2.2 h1 h2)
    (fun u t H1 locs1 ht _ hp hB _ _ hS1 => absurd hp (hno u))
end KX
theorem at_151_g : ∀ w ∈ (vx_atS RX3 151 "java/lang/IndexOutOfBoundsException" kch).filter goodWord, w ∈ lw_tbl := by decide +kernel
theorem at_151_n : ∀ w ∈ (vx_atS RX3 151 "java/lang/IndexOutOfBoundsException" kch).filter (fun w => !goodWord w), w ∈ wsE := by decide +kernel
theorem at_151_ok {args : Array Value} {s : State} (htg : ∀ w ∈ wsG, w.before args s = true) (hE : ∀ w ∈ wsE, va_Nw w s) : ∀ w ∈ vx_atS RX3 151 "java/lang/IndexOutOfBoundsException" kch, w.before args s = true :=
  vx_hat (B := wsE) (fun w hw => htg w (wsG_in (at_151_g w hw) (List.mem_filter.mp hw).2)) at_151_n (fun w hw => va_Nw.use (kwarm_on (List.mem_filter.mp hw).2) (hE w hw))
theorem at_53_g : ∀ w ∈ (vx_atS RX3 53 "java/lang/IllegalArgumentException" kch).filter goodWord, w ∈ lw_tbl := by decide +kernel
theorem at_53_n : ∀ w ∈ (vx_atS RX3 53 "java/lang/IllegalArgumentException" kch).filter (fun w => !goodWord w), w ∈ wsE := by decide +kernel
theorem at_53_ok {args : Array Value} {s : State} (htg : ∀ w ∈ wsG, w.before args s = true) (hE : ∀ w ∈ wsE, va_Nw w s) : ∀ w ∈ vx_atS RX3 53 "java/lang/IllegalArgumentException" kch, w.before args s = true :=
  vx_hat (B := wsE) (fun w hw => htg w (wsG_in (at_53_g w hw) (List.mem_filter.mp hw).2)) at_53_n (fun w hw => va_Nw.use (kwarm_on (List.mem_filter.mp hw).2) (hE w hw))
theorem at_162_g : ∀ w ∈ (vx_atS RX3 162 "java/lang/IllegalStateException" kch).filter goodWord, w ∈ lw_tbl := by decide +kernel
theorem at_162_n : ∀ w ∈ (vx_atS RX3 162 "java/lang/IllegalStateException" kch).filter (fun w => !goodWord w), w ∈ wsE := by decide +kernel
theorem at_162_ok {args : Array Value} {s : State} (htg : ∀ w ∈ wsG, w.before args s = true) (hE : ∀ w ∈ wsE, va_Nw w s) : ∀ w ∈ vx_atS RX3 162 "java/lang/IllegalStateException" kch, w.before args s = true :=
  vx_hat (B := wsE) (fun w hw => htg w (wsG_in (at_162_g w hw) (List.mem_filter.mp hw).2)) at_162_n (fun w hw => va_Nw.use (kwarm_on (List.mem_filter.mp hw).2) (hE w hw))
theorem at_151_ot : ∀ w ∈ Cond.classLink RX3 147 "java/lang/IndexOutOfBoundsException" :: Cond.initialized "java/lang/IndexOutOfBoundsException" :: vx_atS RX3 151 "java/lang/IndexOutOfBoundsException" kch, vx_ot w = true := by decide +kernel
theorem at_53_ot : ∀ w ∈ Cond.classLink RX3 49 "java/lang/IllegalArgumentException" :: Cond.initialized "java/lang/IllegalArgumentException" :: vx_atS RX3 53 "java/lang/IllegalArgumentException" kch, vx_ot w = true := by decide +kernel
theorem at_162_ot : ∀ w ∈ Cond.classLink RX3 158 "java/lang/IllegalStateException" :: Cond.initialized "java/lang/IllegalStateException" :: vx_atS RX3 162 "java/lang/IllegalStateException" kch, vx_ot w = true := by decide +kernel
theorem m_3 : Cond.selects RX3 y_M_changed y_M_changed ∈ wsG := wsG_in (List.mem_of_getElem? (i := 3) (by decide +kernel)) (by decide +kernel)
theorem m_22 : Cond.selects RX3 y_M_needSheet y_M_needSheet ∈ wsG := wsG_in (List.mem_of_getElem? (i := 22) (by decide +kernel)) (by decide +kernel)
theorem m_23 : Cond.selects RX3 y_M_numberOfGroups y_M_numberOfGroups ∈ wsG := wsG_in (List.mem_of_getElem? (i := 23) (by decide +kernel)) (by decide +kernel)
theorem m_24 : Cond.selects RX3 y_M_numberOfLinks y_M_numberOfLinks ∈ wsG := wsG_in (List.mem_of_getElem? (i := 24) (by decide +kernel)) (by decide +kernel)
theorem m_61 : Cond.initialized "java/lang/IndexOutOfBoundsException" ∈ wsG := wsG_in (List.mem_of_getElem? (i := 61) (by decide +kernel)) (by decide +kernel)
theorem m_64 : Cond.initialized "java/lang/IllegalArgumentException" ∈ wsG := wsG_in (List.mem_of_getElem? (i := 64) (by decide +kernel)) (by decide +kernel)
theorem m_65 : Cond.initialized "java/lang/IllegalStateException" ∈ wsG := wsG_in (List.mem_of_getElem? (i := 65) (by decide +kernel)) (by decide +kernel)
theorem m_66 : Cond.initialized "java/lang/Integer" ∈ wsG := wsG_in (List.mem_of_getElem? (i := 66) (by decide +kernel)) (by decide +kernel)
theorem m_238 : Cond.methodLink RX3 34 y_M_needContext ∈ wsG := wsG_in (List.mem_of_getElem? (i := 238) (by decide +kernel)) (by decide +kernel)
theorem m_239 : Cond.static y_M_needContext ∈ wsG := wsG_in (List.mem_of_getElem? (i := 239) (by decide +kernel)) (by decide +kernel)
theorem m_240 : Cond.code y_M_needContext c_M_needContext 1 none ∈ wsG := wsG_in (List.mem_of_getElem? (i := 240) (by decide +kernel)) (by decide +kernel)
theorem m_241 : Cond.methodLink RX3 67 y_M_need ∈ wsG := wsG_in (List.mem_of_getElem? (i := 241) (by decide +kernel)) (by decide +kernel)
theorem m_242 : Cond.static y_M_need ∈ wsG := wsG_in (List.mem_of_getElem? (i := 242) (by decide +kernel)) (by decide +kernel)
theorem m_243 : Cond.code y_M_need c_M_need 1 none ∈ wsG := wsG_in (List.mem_of_getElem? (i := 243) (by decide +kernel)) (by decide +kernel)
theorem m_244 : Cond.classLink RX3 147 "java/lang/IndexOutOfBoundsException" ∈ wsG := wsG_in (List.mem_of_getElem? (i := 244) (by decide +kernel)) (by decide +kernel)
theorem m_312 : Cond.methodLink RX3 38 y_D_tellAbove ∈ wsG := wsG_in (List.mem_of_getElem? (i := 312) (by decide +kernel)) (by decide +kernel)
theorem m_313 : Cond.instanceMethod y_D_tellAbove ∈ wsG := wsG_in (List.mem_of_getElem? (i := 313) (by decide +kernel)) (by decide +kernel)
theorem m_314 : Cond.selects RX0 y_D_tellAbove y_D_tellAbove ∈ wsG := wsG_in (List.mem_of_getElem? (i := 314) (by decide +kernel)) (by decide +kernel)
theorem m_315 : Cond.code y_D_tellAbove c_D_tellAbove 3 (some .int) ∈ wsG := wsG_in (List.mem_of_getElem? (i := 315) (by decide +kernel)) (by decide +kernel)
theorem m_338 : Cond.methodLink RX3 42 y_M_changed ∈ wsG := wsG_in (List.mem_of_getElem? (i := 338) (by decide +kernel)) (by decide +kernel)
theorem m_340 : Cond.instanceMethod y_M_changed ∈ wsG := wsG_in (List.mem_of_getElem? (i := 340) (by decide +kernel)) (by decide +kernel)
theorem m_341 : Cond.code y_M_changed c_M_changed 2 (some .int) ∈ wsG := wsG_in (List.mem_of_getElem? (i := 341) (by decide +kernel)) (by decide +kernel)
theorem m_349 : Cond.methodLink RX3 46 y_D_tellSame ∈ wsG := wsG_in (List.mem_of_getElem? (i := 349) (by decide +kernel)) (by decide +kernel)
theorem m_350 : Cond.instanceMethod y_D_tellSame ∈ wsG := wsG_in (List.mem_of_getElem? (i := 350) (by decide +kernel)) (by decide +kernel)
theorem m_351 : Cond.selects RX0 y_D_tellSame y_D_tellSame ∈ wsG := wsG_in (List.mem_of_getElem? (i := 351) (by decide +kernel)) (by decide +kernel)
theorem m_352 : Cond.code y_D_tellSame c_D_tellSame 5 (some .int) ∈ wsG := wsG_in (List.mem_of_getElem? (i := 352) (by decide +kernel)) (by decide +kernel)
theorem m_371 : Cond.classLink RX3 49 "java/lang/IllegalArgumentException" ∈ wsG := wsG_in (List.mem_of_getElem? (i := 371) (by decide +kernel)) (by decide +kernel)
theorem m_387 : Cond.methodLink RX3 56 y_D_tellPhase ∈ wsG := wsG_in (List.mem_of_getElem? (i := 387) (by decide +kernel)) (by decide +kernel)
theorem m_388 : Cond.instanceMethod y_D_tellPhase ∈ wsG := wsG_in (List.mem_of_getElem? (i := 388) (by decide +kernel)) (by decide +kernel)
theorem m_389 : Cond.selects RX0 y_D_tellPhase y_D_tellPhase ∈ wsG := wsG_in (List.mem_of_getElem? (i := 389) (by decide +kernel)) (by decide +kernel)
theorem m_390 : Cond.code y_D_tellPhase c_D_tellPhase 4 (some .int) ∈ wsG := wsG_in (List.mem_of_getElem? (i := 390) (by decide +kernel)) (by decide +kernel)
theorem m_398 : Cond.methodLink RX3 59 y_D_tellHidden ∈ wsG := wsG_in (List.mem_of_getElem? (i := 398) (by decide +kernel)) (by decide +kernel)
theorem m_399 : Cond.instanceMethod y_D_tellHidden ∈ wsG := wsG_in (List.mem_of_getElem? (i := 399) (by decide +kernel)) (by decide +kernel)
theorem m_400 : Cond.selects RX0 y_D_tellHidden y_D_tellHidden ∈ wsG := wsG_in (List.mem_of_getElem? (i := 400) (by decide +kernel)) (by decide +kernel)
theorem m_401 : Cond.code y_D_tellHidden c_D_tellHidden 3 (some .boolean) ∈ wsG := wsG_in (List.mem_of_getElem? (i := 401) (by decide +kernel)) (by decide +kernel)
theorem m_416 : Cond.methodLink RX3 71 y_D_findMisfit ∈ wsG := wsG_in (List.mem_of_getElem? (i := 416) (by decide +kernel)) (by decide +kernel)
theorem m_417 : Cond.instanceMethod y_D_findMisfit ∈ wsG := wsG_in (List.mem_of_getElem? (i := 417) (by decide +kernel)) (by decide +kernel)
theorem m_418 : Cond.selects RX0 y_D_findMisfit y_D_findMisfit ∈ wsG := wsG_in (List.mem_of_getElem? (i := 418) (by decide +kernel)) (by decide +kernel)
theorem m_419 : Cond.code y_D_findMisfit c_D_findMisfit 5 (some .int) ∈ wsG := wsG_in (List.mem_of_getElem? (i := 419) (by decide +kernel)) (by decide +kernel)
theorem m_432 : Cond.methodLink RX3 76 y_P_make ∈ wsG := wsG_in (List.mem_of_getElem? (i := 432) (by decide +kernel)) (by decide +kernel)
theorem m_433 : Cond.instanceMethod y_P_make ∈ wsG := wsG_in (List.mem_of_getElem? (i := 433) (by decide +kernel)) (by decide +kernel)
theorem m_434 : Cond.selects RX2 y_P_make y_P_make ∈ wsG := wsG_in (List.mem_of_getElem? (i := 434) (by decide +kernel)) (by decide +kernel)
theorem m_435 : Cond.code y_P_make c_P_make 2 none ∈ wsG := wsG_in (List.mem_of_getElem? (i := 435) (by decide +kernel)) (by decide +kernel)
theorem m_461 : Cond.methodLink RX3 84 y_O_make ∈ wsG := wsG_in (List.mem_of_getElem? (i := 461) (by decide +kernel)) (by decide +kernel)
theorem m_462 : Cond.instanceMethod y_O_make ∈ wsG := wsG_in (List.mem_of_getElem? (i := 462) (by decide +kernel)) (by decide +kernel)
theorem m_463 : Cond.selects RX1 y_O_make y_O_make ∈ wsG := wsG_in (List.mem_of_getElem? (i := 463) (by decide +kernel)) (by decide +kernel)
theorem m_464 : Cond.code y_O_make c_O_make 5 (some .int) ∈ wsG := wsG_in (List.mem_of_getElem? (i := 464) (by decide +kernel)) (by decide +kernel)
theorem m_532 : Cond.methodLink RX3 87 y_M_needSheet ∈ wsG := wsG_in (List.mem_of_getElem? (i := 532) (by decide +kernel)) (by decide +kernel)
theorem m_534 : Cond.instanceMethod y_M_needSheet ∈ wsG := wsG_in (List.mem_of_getElem? (i := 534) (by decide +kernel)) (by decide +kernel)
theorem m_535 : Cond.code y_M_needSheet c_M_needSheet 1 none ∈ wsG := wsG_in (List.mem_of_getElem? (i := 535) (by decide +kernel)) (by decide +kernel)
theorem m_536 : Cond.classLink RX3 158 "java/lang/IllegalStateException" ∈ wsG := wsG_in (List.mem_of_getElem? (i := 536) (by decide +kernel)) (by decide +kernel)
theorem m_582 : Cond.methodLink RX3 124 y_J_bitCount ∈ wsG := wsG_in (List.mem_of_getElem? (i := 582) (by decide +kernel)) (by decide +kernel)
theorem m_583 : Cond.static y_J_bitCount ∈ wsG := wsG_in (List.mem_of_getElem? (i := 583) (by decide +kernel)) (by decide +kernel)
theorem m_584 : Cond.code y_J_bitCount c_J_bitCount 1 (some .int) ∈ wsG := wsG_in (List.mem_of_getElem? (i := 584) (by decide +kernel)) (by decide +kernel)
theorem m_588 : Cond.methodLink RX3 129 y_M_numberOfGroups ∈ wsG := wsG_in (List.mem_of_getElem? (i := 588) (by decide +kernel)) (by decide +kernel)
theorem m_590 : Cond.instanceMethod y_M_numberOfGroups ∈ wsG := wsG_in (List.mem_of_getElem? (i := 590) (by decide +kernel)) (by decide +kernel)
theorem m_591 : Cond.code y_M_numberOfGroups c_M_numberOfGroups 3 (some .int) ∈ wsG := wsG_in (List.mem_of_getElem? (i := 591) (by decide +kernel)) (by decide +kernel)
theorem m_596 : Cond.methodLink RX3 132 y_M_numberOfLinks ∈ wsG := wsG_in (List.mem_of_getElem? (i := 596) (by decide +kernel)) (by decide +kernel)
theorem m_598 : Cond.instanceMethod y_M_numberOfLinks ∈ wsG := wsG_in (List.mem_of_getElem? (i := 598) (by decide +kernel)) (by decide +kernel)
theorem m_599 : Cond.code y_M_numberOfLinks c_M_numberOfLinks 5 (some .int) ∈ wsG := wsG_in (List.mem_of_getElem? (i := 599) (by decide +kernel)) (by decide +kernel)
theorem m_611 : Cond.methodLink RX3 141 y_D_leadersOf ∈ wsG := wsG_in (List.mem_of_getElem? (i := 611) (by decide +kernel)) (by decide +kernel)
theorem or_M_need {a0 : Int32} {σ : S0} {post : S0 → Prop} {px : Nat → S0 → Prop} (h : Sp_M_need a0 σ post px) : Sp_M_need a0 σ post (fun _ _ => False) ∨ Sp_M_need a0 σ (fun _ => False) px := by
  unfold Sp_M_need at h ⊢
  by_cases c : a0 = 0
  · exact Or.inr ⟨fun n => n c, fun _ => h.2 c⟩
  · exact Or.inl ⟨fun _ => h.1 c, fun n => c n⟩
theorem Sp_M_need_mono {a0 : Int32} {σ : S0} {post post' : S0 → Prop} {px px' : Nat → S0 → Prop} (h1 : ∀ σ, post σ → post' σ) (h2 : ∀ k σ, px k σ → px' k σ) (h : Sp_M_need a0 σ post px) : Sp_M_need a0 σ post' px' := ⟨fun c => h1 _ (h.1 c), fun c => h2 _ _ (h.2 c)⟩
theorem iff_M_needContext {a0 : Int32} {σ : S0} {post : S0 → Prop} {px : Nat → S0 → Prop} : Sp_M_needContext a0 σ post px ↔ ((¬ a0 < 0 ∧ ¬ 16 ≤ a0) → post σ) ∧ (¬ (¬ a0 < 0 ∧ ¬ 16 ≤ a0) → px 0 σ) := by
  unfold Sp_M_needContext
  constructor
  · intro h
    have h := h (fun t σ => Sp_M_need t σ post px) (fun t σ h => h)
    constructor
    · intro c
      exact ((h.2 c.1).2 c.2).1 (by decide)
    · intro c
      by_cases c1 : a0 < 0
      · exact (h.1 c1).2 rfl
      · by_cases c2 : 16 ≤ a0
        · exact ((h.2 c1).1 c2).2 rfl
        · exact absurd ⟨c1, c2⟩ c
  · intro h G hG
    refine ⟨fun c1 => hG _ _ ⟨fun n => absurd rfl n, fun _ => h.2 (fun q => q.1 c1)⟩, fun c1 => ⟨fun c2 => hG _ _ ⟨fun n => absurd rfl n, fun _ => h.2 (fun q => q.2 c2)⟩, fun c2 => hG _ _ ⟨fun _ => h.1 ⟨c1, c2⟩, fun n => absurd n (by decide)⟩⟩⟩
theorem or_M_needContext {a0 : Int32} {σ : S0} {post : S0 → Prop} {px : Nat → S0 → Prop} (h : Sp_M_needContext a0 σ post px) : Sp_M_needContext a0 σ post (fun _ _ => False) ∨ Sp_M_needContext a0 σ (fun _ => False) px := by
  rw [iff_M_needContext] at h
  rw [iff_M_needContext, iff_M_needContext]
  by_cases c : ¬ a0 < 0 ∧ ¬ 16 ≤ a0
  · exact Or.inl ⟨fun _ => h.1 c, fun n => n c⟩
  · exact Or.inr ⟨fun n => c n, fun _ => h.2 c⟩
theorem or_M_needSheet {σ : S0} {post : S0 → Prop} {px : Nat → S0 → Prop} (h : Sp_M_needSheet σ post px) : Sp_M_needSheet σ post (fun _ _ => False) ∨ Sp_M_needSheet σ (fun _ => False) px := by
  unfold Sp_M_needSheet at h ⊢
  by_cases c : σ 0 0 = 0
  · exact Or.inr ⟨fun n => absurd c n, fun _ => h.2 c⟩
  · exact Or.inl ⟨fun _ => h.1 c, fun n => absurd n c⟩
