/-! the law's calls: the class's world with the row of longs, the reference's world, the script -/
abbrev kA0 (s : State) : Nat → Prop := fun q => s.heap.size ≤ q
def kF0 (s : State) : Prop := (∀ w ∈ wsE, va_Nw w s) ∧ vx_Zq Bundle.tN "UNASSIGNED_STACK" Bundle.steD (kA0 s) s s.heap ∧ vx_Zq Bundle.tN "SUPPRESSED_SENTINEL" Bundle.listD (kA0 s) s s.heap ∧ ∀ q ∈ kstr, ∃ a, vk_R RX3 q.1 q.2 a s
theorem kF0.go {ad : Nat → Nat} {s U : State} {H : Heap} {locs : List Loc} (h : kF0 s) (hS : va_S (kA0 s) s.heap H locs) (had : ∀ k, k < 26 → s.heap.size ≤ ad k) (hU : U.heap = H) (hW : s.WarmedH U.vm) : kFC ad H.size U := by
  obtain ⟨h1, h2, h3, h4⟩ := h
  have hn : ∀ q, kAC ad H.size q → kA0 s q := fun q hq => hq.elim (fun ⟨k, hk, e⟩ => by rw [e]; exact had k hk) (fun h => Nat.le_trans hS.1 h)
  refine ⟨fun w hw => kwarm_go (List.mem_filter.mp hw).2 hW (h1 w hw), ?_, ?_, fun q hq => ?_⟩
  · rw [hU]; exact ((h2.kept hS.2.1).moved hW.alike).narrow hn
  · rw [hU]; exact ((h3.kept hS.2.1).moved hW.alike).narrow hn
  · obtain ⟨a, ha⟩ := h4 q hq
    exact ⟨a, ha.warm hW⟩
theorem kept_P {D : va_G} {cl : List vw_C} {ws : va_W} {H H1 : Heap} {A1 : Nat → Prop} (hP : va_P D cl ws H) (hk : ∀ q : Nat, q < H.size → ¬ A1 q → H1[q]? = H[q]?) (hn : ∀ (k : Nat) (q : Nat × va_E), ws[k]? = some q → ¬ A1 q.1) : va_P D cl ws H1 :=
  hP.kept (fun k q hq => hk q.1 (hP k q hq).lt (hn k q hq))
/-- the addresses: apart, and new -/
def kdis (s : State) (ad ar : Nat → Nat) (qo : Nat) : Prop := kapC ad ∧ kapR ar ∧ (∀ i j, i < 26 → j < 21 → ad i ≠ ar j) ∧ (∀ i, i < 26 → ad i ≠ qo) ∧ (∀ j, j < 21 → ar j ≠ qo) ∧ (∀ i, i < 26 → s.heap.size ≤ ad i) ∧ (∀ j, j < 21 → s.heap.size ≤ ar j) ∧ s.heap.size ≤ qo
theorem kPcL_blind {D : va_G} {ad : Nat → Nat} {cA cB cL : ClassId} {σ : S0} {qo : Nat} {g : Nat → Int64} {sz : Nat} {av : List Value} : FrameBlind (kPcL D ad cA cB cL σ qo g sz av) := fun a U gg mk q => by
  obtain ⟨q0, q1, qP, qK, qF, qN⟩ := q
  exact ⟨q0, q1, qP, va_K.moved (u := U) (U := U.calling gg mk a) (Vm.Alike.refl U.vm) qK, qF.same (u := U) (U := U.calling gg mk a) rfl rfl, qN.1.moved (u := U) (U := U.calling gg mk a) (Vm.Alike.refl U.vm), qN.2.moved (u := U) (U := U.calling gg mk a) (Vm.Alike.refl U.vm)⟩
theorem kG_SW {own : String} {i : Nat} {y : MethodName} {ws : List Cond} (h1 : Cond.methodLink own i y ∈ wsG) (h2 : Cond.static y ∈ wsG) (h4 : Cond.initialized y.cls ∈ wsG) (h5 : ∀ w ∈ ws, w ∈ wsG) : ∀ w ∈ va_wsS own i y ws, w ∈ wsG := by
  intro w hw
  simp only [va_wsS, List.cons_append, List.nil_append, List.mem_cons] at hw
  rcases hw with rfl | rfl | rfl | hw
  · exact h1
  · exact h2
  · exact h4
  · exact h5 w hw
section KLL
variable {p : Program} {l : Launch} {e : Env} {R : Room} {s : State} {m : MethodId} {args : Array Value} {below : List Frame} {meth : Method} {c : Code} {H : Heap} {locs : List Loc} {cells slots : Nat} {Q : State → Prop}
variable {D : va_G} {ad ar : Nat → Nat} {cA cB cL : ClassId} {σ τ : S0} {qo : Nat} {g : Nat → Int64} {pc : Nat} {ls : Array Slot} {rest st0 : List Value} {a : Array Value} {mc ms : Nat}
theorem kLL_pre (hK : va_K D vwCl (ktyL cA cB cL) s) (hF : kF0 s) (hN : kNL s) (hd : kdis s ad ar qo) (hP : va_P D vwCl (wC ad cA cB σ ++ kO qo cL g) H) (hS : va_S (kA0 s) s.heap H locs) (As : List Value) : PreS s H (kPcL D ad cA cB cL σ qo g H.size As) As :=
  ⟨kPcL_blind, fun U hU hW => ⟨rfl, by rw [hU], by rw [hU]; exact hP, va_K.moved hW.alike hK, hF.go hS hd.2.2.2.2.2.1 hU hW, hN.1.moved hW.alike, hN.2.moved hW.alike⟩⟩
theorem kLL_preV (hK : va_K D vwCl (ktyL cA cB cL) s) (hR : va_P D vwCl (wR ar cA cB τ) H) (As : List Value) : PreV s H RX4 (ar 0) (kPcR D ar cA cB τ H.size (.ref (ar 0) :: As)) As :=
  ⟨kPcR_blind, va_recv (q := (RX4, TX4, 27)) (hK.sub (tys' := ktyR cA cB) [0, 1] rfl) hR rfl (q0 := 0) rfl, fun U hU hW => ⟨rfl, by rw [hU], by rw [hU]; exact hR, va_K.moved hW.alike (hK.sub (tys' := ktyR cA cB) [0, 1] rfl), trivial⟩⟩
theorem kLL_w {post : Int32 → S0 → (Nat → Int64) → Prop} (hr : va_Run p l e R s m args below meth c H locs cells slots mc ms (F0 m pc ls st0) rest (va_Qi (fun (r : Int32) (u : S0 × (Nat → Int64)) => post r u.1 u.2) (kBL D ad cA cB cL qo) (kAL ad qo H.size) a) (kAL ad qo H.size)) (hd : kdis s ad ar qo) (hS : va_S (kA0 s) s.heap H locs) (hR : va_P D vwCl (wR ar cA cB τ) H)
    (kk : ∀ (r : Int32) (σ1 : S0) (g1 : Nat → Int64) (H1 : Heap) (locs1 : List Loc), post r σ1 g1 → va_P D vwCl (wC ad cA cB σ1 ++ kO qo cL g1) H1 → va_P D vwCl (wR ar cA cB τ) H1 → va_S (kA0 s) s.heap H1 locs1 → W p l e R s m args below meth c H1 locs1 (cells + mc) (slots + ms) Q (F0 m (pc + 3) ls (.int r :: rest))) : W p l e R s m args below meth c H locs cells slots Q (F0 m pc ls st0) := by
  obtain ⟨d1, d2, d3, d4, d5, d6, d7, d8⟩ := hd
  have hn : ∀ q, kAL ad qo H.size q → kA0 s q := fun q hq => hq.elim (fun h => h.elim (fun ⟨k, hk, e⟩ => by rw [e]; exact d6 k hk) (fun h => Nat.le_trans hS.1 h)) (fun h => by rw [h]; exact d8)
  refine va_calli hr hS (fun q _ h => hn q h) hn (fun r u t H1 locs1 ht _ hp hB _ hk hS1 => kk r u.1 u.2 H1 locs1 hp (by rw [← ht]; exact hB) (kept_P hR hk (fun k q hq h => ?_)) hS1)
  obtain ⟨a1, a2⟩ := wR_at hq
  have hlt := (hR k q hq).lt
  rcases h with (⟨j, hj, e⟩ | h) | h
  · exact d3 j k hj a1 (by rw [← e, a2])
  · exact absurd h (Nat.not_le.mpr hlt)
  · exact d5 k a1 (by rw [← a2, h])
theorem kLL_m {post : Int32 → S0 → Prop} (hr : va_Run p l e R s m args below meth c H locs cells slots mc ms (F0 m pc ls st0) rest (va_Qi post (kBR D ar cA cB) (kAR ar H.size) a) (kAR ar H.size)) (hd : kdis s ad ar qo) (hS : va_S (kA0 s) s.heap H locs) (hP : va_P D vwCl (wC ad cA cB σ ++ kO qo cL g) H)
    (kk : ∀ (r : Int32) (τ1 : S0) (H1 : Heap) (locs1 : List Loc), post r τ1 → va_P D vwCl (wC ad cA cB σ ++ kO qo cL g) H1 → va_P D vwCl (wR ar cA cB τ1) H1 → va_S (kA0 s) s.heap H1 locs1 → W p l e R s m args below meth c H1 locs1 (cells + mc) (slots + ms) Q (F0 m (pc + 3) ls (.int r :: rest))) : W p l e R s m args below meth c H locs cells slots Q (F0 m pc ls st0) := by
  obtain ⟨d1, d2, d3, d4, d5, d6, d7, d8⟩ := hd
  have hn : ∀ q, kAR ar H.size q → kA0 s q := fun q hq => hq.elim (fun ⟨k, hk, e⟩ => by rw [e]; exact d7 k hk) (fun h => Nat.le_trans hS.1 h)
  have hP1 : va_P D vwCl (wC ad cA cB σ) H := hP.sub [0, 1, 2, 3, 4, 5, 6, 7, 8, 9, 10, 11, 12, 13, 14, 15, 16, 17, 18, 19, 20, 21, 22, 23, 24, 25] rfl
  have hP2 : va_P D vwCl (kO qo cL g) H := hP.sub [26] rfl
  refine va_calli hr hS (fun q _ h => hn q h) hn (fun r u t H1 locs1 ht _ hp hB _ hk hS1 => kk r u H1 locs1 hp (va_P.app (kept_P hP1 hk (fun k q hq h => ?_)) (kept_P hP2 hk (fun k q hq h => ?_))) (by rw [← ht]; exact hB) hS1)
  · obtain ⟨a1, a2⟩ := wC_at hq
    have hlt := (hP1 k q hq).lt
    rcases h with ⟨j, hj, e⟩ | h
    · exact d3 k j a1 hj (by rw [← e, a2])
    · exact absurd h (Nat.not_le.mpr hlt)
  · have hlt := (hP2 k q hq).lt
    have h1 := (List.getElem?_eq_some_iff.mp hq).1
    simp at h1; subst h1; cases hq
    rcases h with ⟨j, hj, e⟩ | h
    · exact d5 j hj e.symm
    · exact absurd h (Nat.not_le.mpr hlt)
end KLL
theorem kgt {L j : Nat} (hL : L ≤ 1536) (hj : j ≤ 512) : ((Int32.ofNat L - 3) < nI (3 * j)) ↔ L < 3 * j + 3 := by
  have h1 : (nI L - nI 3).toInt = (L : Int) - (3 : Nat) := pk_sub_toInt (by omega) (by omega)
  have h2 : (Int32.ofNat L - 3) = nI L - nI 3 := rfl
  rw [h2, Int32.lt_iff_toInt_lt, h1, nI_toInt (by omega)]
  omega
theorem kin {L j d : Nat} (hL : L ≤ 1536) (h : 3 * j + d < L) : vp_in (nI (3 * j) + nI d) L := by
  rw [nI_add]; exact vp_in_nI h (by omega)
theorem m_52 : Cond.initialized RL ∈ wsG := wsG_in (List.mem_of_getElem? (i := 52) (by decide +kernel)) (by decide +kernel)
theorem m_230 : Cond.methodLink RL 62 y_L_above ∈ wsG := wsG_in (List.mem_of_getElem? (i := 230) (by decide +kernel)) (by decide +kernel)
theorem m_231 : Cond.static y_L_above ∈ wsG := wsG_in (List.mem_of_getElem? (i := 231) (by decide +kernel)) (by decide +kernel)
theorem m_342 : Cond.methodLink RL 71 y_L_same ∈ wsG := wsG_in (List.mem_of_getElem? (i := 342) (by decide +kernel)) (by decide +kernel)
theorem m_343 : Cond.static y_L_same ∈ wsG := wsG_in (List.mem_of_getElem? (i := 343) (by decide +kernel)) (by decide +kernel)
theorem m_363 : Cond.methodLink RL 74 y_L_phase ∈ wsG := wsG_in (List.mem_of_getElem? (i := 363) (by decide +kernel)) (by decide +kernel)
theorem m_364 : Cond.static y_L_phase ∈ wsG := wsG_in (List.mem_of_getElem? (i := 364) (by decide +kernel)) (by decide +kernel)
theorem m_391 : Cond.methodLink RL 77 y_L_hide ∈ wsG := wsG_in (List.mem_of_getElem? (i := 391) (by decide +kernel)) (by decide +kernel)
theorem m_392 : Cond.static y_L_hide ∈ wsG := wsG_in (List.mem_of_getElem? (i := 392) (by decide +kernel)) (by decide +kernel)
theorem m_402 : Cond.methodLink RL 81 y_L_group ∈ wsG := wsG_in (List.mem_of_getElem? (i := 402) (by decide +kernel)) (by decide +kernel)
theorem m_403 : Cond.static y_L_group ∈ wsG := wsG_in (List.mem_of_getElem? (i := 403) (by decide +kernel)) (by decide +kernel)
theorem m_409 : Cond.methodLink RL 85 y_L_misfit ∈ wsG := wsG_in (List.mem_of_getElem? (i := 409) (by decide +kernel)) (by decide +kernel)
theorem m_410 : Cond.static y_L_misfit ∈ wsG := wsG_in (List.mem_of_getElem? (i := 410) (by decide +kernel)) (by decide +kernel)
theorem m_424 : Cond.methodLink RL 88 y_L_draw ∈ wsG := wsG_in (List.mem_of_getElem? (i := 424) (by decide +kernel)) (by decide +kernel)
theorem m_425 : Cond.static y_L_draw ∈ wsG := wsG_in (List.mem_of_getElem? (i := 425) (by decide +kernel)) (by decide +kernel)
theorem m_524 : Cond.methodLink RL 91 y_L_crossings ∈ wsG := wsG_in (List.mem_of_getElem? (i := 524) (by decide +kernel)) (by decide +kernel)
theorem m_525 : Cond.static y_L_crossings ∈ wsG := wsG_in (List.mem_of_getElem? (i := 525) (by decide +kernel)) (by decide +kernel)
theorem m_552 : Cond.methodLink RL 94 y_L_at ∈ wsG := wsG_in (List.mem_of_getElem? (i := 552) (by decide +kernel)) (by decide +kernel)
theorem m_553 : Cond.static y_L_at ∈ wsG := wsG_in (List.mem_of_getElem? (i := 553) (by decide +kernel)) (by decide +kernel)
theorem m_559 : Cond.methodLink RL 97 y_L_links ∈ wsG := wsG_in (List.mem_of_getElem? (i := 559) (by decide +kernel)) (by decide +kernel)
theorem m_560 : Cond.static y_L_links ∈ wsG := wsG_in (List.mem_of_getElem? (i := 560) (by decide +kernel)) (by decide +kernel)
theorem m_566 : Cond.methodLink RL 101 y_L_link ∈ wsG := wsG_in (List.mem_of_getElem? (i := 566) (by decide +kernel)) (by decide +kernel)
theorem m_567 : Cond.static y_L_link ∈ wsG := wsG_in (List.mem_of_getElem? (i := 567) (by decide +kernel)) (by decide +kernel)
theorem m_575 : Cond.methodLink RL 104 y_L_command ∈ wsG := wsG_in (List.mem_of_getElem? (i := 575) (by decide +kernel)) (by decide +kernel)
theorem m_576 : Cond.static y_L_command ∈ wsG := wsG_in (List.mem_of_getElem? (i := 576) (by decide +kernel)) (by decide +kernel)
theorem m_604 : Cond.methodLink RL 107 y_L_count ∈ wsG := wsG_in (List.mem_of_getElem? (i := 604) (by decide +kernel)) (by decide +kernel)
theorem m_605 : Cond.static y_L_count ∈ wsG := wsG_in (List.mem_of_getElem? (i := 605) (by decide +kernel)) (by decide +kernel)
theorem m_702 : Cond.methodLink RL 68 y_R_thrown ∈ wsG := wsG_in (List.mem_of_getElem? (i := 702) (by decide +kernel)) (by decide +kernel)
theorem m_703 : Cond.instanceMethod y_R_thrown ∈ wsG := wsG_in (List.mem_of_getElem? (i := 703) (by decide +kernel)) (by decide +kernel)
theorem m_704 : Cond.selects RX4 y_R_thrown y_R_thrown ∈ wsG := wsG_in (List.mem_of_getElem? (i := 704) (by decide +kernel)) (by decide +kernel)
theorem m_705 : Cond.code y_R_thrown c_R_thrown 1 (some .int) ∈ wsG := wsG_in (List.mem_of_getElem? (i := 705) (by decide +kernel)) (by decide +kernel)
theorem m_706 : Cond.methodLink RL 67 y_R_above ∈ wsG := wsG_in (List.mem_of_getElem? (i := 706) (by decide +kernel)) (by decide +kernel)
theorem m_707 : Cond.instanceMethod y_R_above ∈ wsG := wsG_in (List.mem_of_getElem? (i := 707) (by decide +kernel)) (by decide +kernel)
theorem m_708 : Cond.selects RX4 y_R_above y_R_above ∈ wsG := wsG_in (List.mem_of_getElem? (i := 708) (by decide +kernel)) (by decide +kernel)
theorem m_709 : Cond.code y_R_above c_R_above 3 (some .int) ∈ wsG := wsG_in (List.mem_of_getElem? (i := 709) (by decide +kernel)) (by decide +kernel)
theorem m_736 : Cond.methodLink RL 73 y_R_same ∈ wsG := wsG_in (List.mem_of_getElem? (i := 736) (by decide +kernel)) (by decide +kernel)
theorem m_737 : Cond.instanceMethod y_R_same ∈ wsG := wsG_in (List.mem_of_getElem? (i := 737) (by decide +kernel)) (by decide +kernel)
theorem m_738 : Cond.selects RX4 y_R_same y_R_same ∈ wsG := wsG_in (List.mem_of_getElem? (i := 738) (by decide +kernel)) (by decide +kernel)
theorem m_739 : Cond.code y_R_same c_R_same 7 (some .int) ∈ wsG := wsG_in (List.mem_of_getElem? (i := 739) (by decide +kernel)) (by decide +kernel)
theorem m_740 : Cond.methodLink RL 76 y_R_phase ∈ wsG := wsG_in (List.mem_of_getElem? (i := 740) (by decide +kernel)) (by decide +kernel)
theorem m_741 : Cond.instanceMethod y_R_phase ∈ wsG := wsG_in (List.mem_of_getElem? (i := 741) (by decide +kernel)) (by decide +kernel)
theorem m_742 : Cond.selects RX4 y_R_phase y_R_phase ∈ wsG := wsG_in (List.mem_of_getElem? (i := 742) (by decide +kernel)) (by decide +kernel)
theorem m_743 : Cond.code y_R_phase c_R_phase 4 (some .int) ∈ wsG := wsG_in (List.mem_of_getElem? (i := 743) (by decide +kernel)) (by decide +kernel)
theorem m_744 : Cond.methodLink RL 80 y_R_hide ∈ wsG := wsG_in (List.mem_of_getElem? (i := 744) (by decide +kernel)) (by decide +kernel)
theorem m_745 : Cond.instanceMethod y_R_hide ∈ wsG := wsG_in (List.mem_of_getElem? (i := 745) (by decide +kernel)) (by decide +kernel)
theorem m_746 : Cond.selects RX4 y_R_hide y_R_hide ∈ wsG := wsG_in (List.mem_of_getElem? (i := 746) (by decide +kernel)) (by decide +kernel)
theorem m_747 : Cond.code y_R_hide c_R_hide 4 (some .boolean) ∈ wsG := wsG_in (List.mem_of_getElem? (i := 747) (by decide +kernel)) (by decide +kernel)
theorem m_748 : Cond.methodLink RL 84 y_R_group ∈ wsG := wsG_in (List.mem_of_getElem? (i := 748) (by decide +kernel)) (by decide +kernel)
theorem m_749 : Cond.instanceMethod y_R_group ∈ wsG := wsG_in (List.mem_of_getElem? (i := 749) (by decide +kernel)) (by decide +kernel)
theorem m_750 : Cond.selects RX4 y_R_group y_R_group ∈ wsG := wsG_in (List.mem_of_getElem? (i := 750) (by decide +kernel)) (by decide +kernel)
theorem m_751 : Cond.code y_R_group c_R_group 2 (some .int) ∈ wsG := wsG_in (List.mem_of_getElem? (i := 751) (by decide +kernel)) (by decide +kernel)
theorem m_752 : Cond.methodLink RL 87 y_R_misfit ∈ wsG := wsG_in (List.mem_of_getElem? (i := 752) (by decide +kernel)) (by decide +kernel)
theorem m_753 : Cond.instanceMethod y_R_misfit ∈ wsG := wsG_in (List.mem_of_getElem? (i := 753) (by decide +kernel)) (by decide +kernel)
theorem m_754 : Cond.selects RX4 y_R_misfit y_R_misfit ∈ wsG := wsG_in (List.mem_of_getElem? (i := 754) (by decide +kernel)) (by decide +kernel)
theorem m_755 : Cond.code y_R_misfit c_R_misfit 5 (some .int) ∈ wsG := wsG_in (List.mem_of_getElem? (i := 755) (by decide +kernel)) (by decide +kernel)
theorem m_764 : Cond.methodLink RL 90 y_R_draw ∈ wsG := wsG_in (List.mem_of_getElem? (i := 764) (by decide +kernel)) (by decide +kernel)
theorem m_765 : Cond.instanceMethod y_R_draw ∈ wsG := wsG_in (List.mem_of_getElem? (i := 765) (by decide +kernel)) (by decide +kernel)
theorem m_766 : Cond.selects RX4 y_R_draw y_R_draw ∈ wsG := wsG_in (List.mem_of_getElem? (i := 766) (by decide +kernel)) (by decide +kernel)
theorem m_767 : Cond.code y_R_draw c_R_draw 4 (some .int) ∈ wsG := wsG_in (List.mem_of_getElem? (i := 767) (by decide +kernel)) (by decide +kernel)
theorem m_844 : Cond.methodLink RL 93 y_R_crossings ∈ wsG := wsG_in (List.mem_of_getElem? (i := 844) (by decide +kernel)) (by decide +kernel)
theorem m_845 : Cond.instanceMethod y_R_crossings ∈ wsG := wsG_in (List.mem_of_getElem? (i := 845) (by decide +kernel)) (by decide +kernel)
theorem m_846 : Cond.selects RX4 y_R_crossings y_R_crossings ∈ wsG := wsG_in (List.mem_of_getElem? (i := 846) (by decide +kernel)) (by decide +kernel)
theorem m_847 : Cond.code y_R_crossings c_R_crossings 2 (some .int) ∈ wsG := wsG_in (List.mem_of_getElem? (i := 847) (by decide +kernel)) (by decide +kernel)
theorem m_848 : Cond.methodLink RL 96 y_R_at ∈ wsG := wsG_in (List.mem_of_getElem? (i := 848) (by decide +kernel)) (by decide +kernel)
theorem m_849 : Cond.instanceMethod y_R_at ∈ wsG := wsG_in (List.mem_of_getElem? (i := 849) (by decide +kernel)) (by decide +kernel)
theorem m_850 : Cond.selects RX4 y_R_at y_R_at ∈ wsG := wsG_in (List.mem_of_getElem? (i := 850) (by decide +kernel)) (by decide +kernel)
theorem m_851 : Cond.code y_R_at c_R_at 4 (some .int) ∈ wsG := wsG_in (List.mem_of_getElem? (i := 851) (by decide +kernel)) (by decide +kernel)
theorem m_852 : Cond.methodLink RL 100 y_R_links ∈ wsG := wsG_in (List.mem_of_getElem? (i := 852) (by decide +kernel)) (by decide +kernel)
theorem m_853 : Cond.instanceMethod y_R_links ∈ wsG := wsG_in (List.mem_of_getElem? (i := 853) (by decide +kernel)) (by decide +kernel)
theorem m_854 : Cond.selects RX4 y_R_links y_R_links ∈ wsG := wsG_in (List.mem_of_getElem? (i := 854) (by decide +kernel)) (by decide +kernel)
theorem m_855 : Cond.code y_R_links c_R_links 1 (some .int) ∈ wsG := wsG_in (List.mem_of_getElem? (i := 855) (by decide +kernel)) (by decide +kernel)
theorem m_856 : Cond.methodLink RL 103 y_R_link ∈ wsG := wsG_in (List.mem_of_getElem? (i := 856) (by decide +kernel)) (by decide +kernel)
theorem m_857 : Cond.instanceMethod y_R_link ∈ wsG := wsG_in (List.mem_of_getElem? (i := 857) (by decide +kernel)) (by decide +kernel)
theorem m_858 : Cond.selects RX4 y_R_link y_R_link ∈ wsG := wsG_in (List.mem_of_getElem? (i := 858) (by decide +kernel)) (by decide +kernel)
theorem m_859 : Cond.code y_R_link c_R_link 4 (some .int) ∈ wsG := wsG_in (List.mem_of_getElem? (i := 859) (by decide +kernel)) (by decide +kernel)
theorem m_860 : Cond.methodLink RL 106 y_R_command ∈ wsG := wsG_in (List.mem_of_getElem? (i := 860) (by decide +kernel)) (by decide +kernel)
theorem m_861 : Cond.instanceMethod y_R_command ∈ wsG := wsG_in (List.mem_of_getElem? (i := 861) (by decide +kernel)) (by decide +kernel)
theorem m_862 : Cond.selects RX4 y_R_command y_R_command ∈ wsG := wsG_in (List.mem_of_getElem? (i := 862) (by decide +kernel)) (by decide +kernel)
theorem m_863 : Cond.code y_R_command c_R_command 2 (some .int) ∈ wsG := wsG_in (List.mem_of_getElem? (i := 863) (by decide +kernel)) (by decide +kernel)
theorem m_864 : Cond.methodLink RL 109 y_R_count ∈ wsG := wsG_in (List.mem_of_getElem? (i := 864) (by decide +kernel)) (by decide +kernel)
theorem m_865 : Cond.instanceMethod y_R_count ∈ wsG := wsG_in (List.mem_of_getElem? (i := 865) (by decide +kernel)) (by decide +kernel)
theorem m_866 : Cond.selects RX4 y_R_count y_R_count ∈ wsG := wsG_in (List.mem_of_getElem? (i := 866) (by decide +kernel)) (by decide +kernel)
theorem m_867 : Cond.code y_R_count c_R_count 4 (some .int) ∈ wsG := wsG_in (List.mem_of_getElem? (i := 867) (by decide +kernel)) (by decide +kernel)
/-- one call of the script: the class by its wrapper, the reference, the comparison -/
def LStep (v a b : Int32) (σ τ : S0) (g : Nat → Int64) (K : S0 → S0 → (Nat → Int64) → Prop) : Prop :=
  (v = 0 → Sp_L_above a b σ g (fun k σ1 g1 => Sp_R_above a b τ (fun bb τ1 => Sp_R_thrown τ1 (fun th τ2 => th = k ∧ (k = 0 → g1 0 = bb.toInt64) ∧ K σ1 τ2 g1)))) ∧
  (v = 1 → Sp_L_same a b σ g (fun k σ1 g1 => Sp_R_same a b τ (fun bb τ1 => Sp_R_thrown τ1 (fun th τ2 => th = k ∧ (k = 0 → g1 0 = bb.toInt64) ∧ K σ1 τ2 g1)))) ∧
  (v = 2 → Sp_L_phase a b σ g (fun k σ1 g1 => Sp_R_phase a b τ (fun bb τ1 => Sp_R_thrown τ1 (fun th τ2 => th = k ∧ (k = 0 → g1 0 = bb.toInt64) ∧ K σ1 τ2 g1)))) ∧
  (v = 3 → Sp_L_hide a (if b = 0 then 0 else 1) σ g (fun k σ1 g1 => Sp_R_hide a (if b = 0 then 0 else 1) τ (fun bb τ1 => Sp_R_thrown τ1 (fun th τ2 => th = k ∧ (k = 0 → g1 0 = (if bb = 0 then 0 else 1)) ∧ K σ1 τ2 g1)))) ∧
  (v = 4 → Sp_L_group a σ g (fun k σ1 g1 => Sp_R_group a τ (fun bb τ1 => Sp_R_thrown τ1 (fun th τ2 => th = k ∧ (k = 0 → g1 0 = bb.toInt64) ∧ K σ1 τ2 g1)))) ∧
  (v = 5 → Sp_L_misfit a b σ g (fun k σ1 g1 => Sp_R_misfit a b τ (fun bb τ1 => Sp_R_thrown τ1 (fun th τ2 => th = k ∧ (k = 0 → g1 0 = bb.toInt64) ∧ K σ1 τ2 g1)))) ∧
  (v = 6 → Sp_L_draw a σ g (fun k σ1 g1 => Sp_R_draw a τ (fun bb τ1 => Sp_R_thrown τ1 (fun th τ2 => th = k ∧ (k = 0 → g1 0 = bb.toInt64) ∧ K σ1 τ2 g1)))) ∧
  (v = 7 → Sp_L_crossings a σ g (fun k σ1 g1 => Sp_R_crossings a τ (fun bb τ1 => Sp_R_thrown τ1 (fun th τ2 => th = k ∧ (k = 0 → g1 0 = bb.toInt64) ∧ K σ1 τ2 g1)))) ∧
  (v = 8 → Sp_L_at a b σ g (fun k σ1 g1 => Sp_R_at a b τ (fun bb τ1 => Sp_R_thrown τ1 (fun th τ2 => th = k ∧ (k = 0 → g1 0 = bb.toInt64) ∧ K σ1 τ2 g1)))) ∧
  (v = 9 → Sp_L_links  σ g (fun k σ1 g1 => Sp_R_links  τ (fun bb τ1 => Sp_R_thrown τ1 (fun th τ2 => th = k ∧ (k = 0 → g1 0 = bb.toInt64) ∧ K σ1 τ2 g1)))) ∧
  (v = 10 → Sp_L_link a b σ g (fun k σ1 g1 => Sp_R_link a b τ (fun bb τ1 => Sp_R_thrown τ1 (fun th τ2 => th = k ∧ (k = 0 → g1 0 = bb.toInt64) ∧ K σ1 τ2 g1)))) ∧
  (v = 11 → Sp_L_command a σ g (fun k σ1 g1 => Sp_R_command a τ (fun bb τ1 => Sp_R_thrown τ1 (fun th τ2 => th = k ∧ (k = 0 → g1 0 = bb.toInt64) ∧ K σ1 τ2 g1)))) ∧
  (v = 12 → Sp_L_count a σ g (fun k σ1 g1 => Sp_R_count a τ (fun bb τ1 => Sp_R_thrown τ1 (fun th τ2 => th = k ∧ (k = 0 → g1 0 = bb.toInt64) ∧ K σ1 τ2 g1)))) ∧
  (¬ v = 0 ∧ ¬ v = 1 ∧ ¬ v = 2 ∧ ¬ v = 3 ∧ ¬ v = 4 ∧ ¬ v = 5 ∧ ¬ v = 6 ∧ ¬ v = 7 ∧ ¬ v = 8 ∧ ¬ v = 9 ∧ ¬ v = 10 ∧ ¬ v = 11 ∧ ¬ v = 12 → K σ τ g)
