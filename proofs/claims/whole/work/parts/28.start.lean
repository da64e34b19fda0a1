theorem m_67 : Cond.classLink RL 8 RX3 ∈ wsG := wsG_in (List.mem_of_getElem? (i := 67) (by decide +kernel)) (by decide +kernel)
theorem m_68 : Cond.instantiable RX3 4 ∈ wsG := wsG_in (List.mem_of_getElem? (i := 68) (by decide +kernel)) (by decide +kernel)
theorem m_69 : Cond.methodLink RL 58 y_M_init ∈ wsG := wsG_in (List.mem_of_getElem? (i := 69) (by decide +kernel)) (by decide +kernel)
theorem m_70 : Cond.instanceMethod y_M_init ∈ wsG := wsG_in (List.mem_of_getElem? (i := 70) (by decide +kernel)) (by decide +kernel)
theorem m_71 : Cond.code y_M_init c_M_init 1 none ∈ wsG := wsG_in (List.mem_of_getElem? (i := 71) (by decide +kernel)) (by decide +kernel)
theorem m_613 : Cond.classLink RL 59 RX4 ∈ wsG := wsG_in (List.mem_of_getElem? (i := 613) (by decide +kernel)) (by decide +kernel)
theorem m_614 : Cond.instantiable RX4 27 ∈ wsG := wsG_in (List.mem_of_getElem? (i := 614) (by decide +kernel)) (by decide +kernel)
theorem m_615 : Cond.methodLink RL 61 y_R_init ∈ wsG := wsG_in (List.mem_of_getElem? (i := 615) (by decide +kernel)) (by decide +kernel)
theorem m_616 : Cond.instanceMethod y_R_init ∈ wsG := wsG_in (List.mem_of_getElem? (i := 616) (by decide +kernel)) (by decide +kernel)
theorem m_617 : Cond.code y_R_init c_R_init 2 none ∈ wsG := wsG_in (List.mem_of_getElem? (i := 617) (by decide +kernel)) (by decide +kernel)
theorem m_868 : Cond.arrayClass .long ∈ wsG := wsG_in (List.mem_of_getElem? (i := 868) (by decide +kernel)) (by decide +kernel)
theorem wRC_at {A : Nat → Prop} {ad ar : Nat → Nat} {cA cB cL : ClassId} {σ τ : S0} {qo : Nat} {g : Nat → Int64} (hD : va_D A ((wC ad cA cB σ ++ wR ar cA cB τ) ++ kO qo cL g)) : ∀ k, k < 48 → ∃ e, ((wC ad cA cB σ ++ wR ar cA cB τ) ++ kO qo cL g)[k]? = some ((if k < 26 then ad k else if k < 47 then ar (k - 26) else qo), e) := by
  intro k hk
  have hm : ((wC ad cA cB σ ++ wR ar cA cB τ) ++ kO qo cL g).map Prod.fst = (List.range 48).map (fun k => if k < 26 then ad k else if k < 47 then ar (k - 26) else qo) := rfl
  have hlen : ((wC ad cA cB σ ++ wR ar cA cB τ) ++ kO qo cL g).length = 48 := rfl
  obtain ⟨q, hq⟩ : ∃ q, ((wC ad cA cB σ ++ wR ar cA cB τ) ++ kO qo cL g)[k]? = some q := ⟨_, List.getElem?_eq_getElem (by rw [hlen]; exact hk)⟩
  have h1 : (((wC ad cA cB σ ++ wR ar cA cB τ) ++ kO qo cL g).map Prod.fst)[k]? = some q.1 := by rw [List.getElem?_map, hq]; rfl
  rw [hm, List.getElem?_map, List.getElem?_range hk] at h1
  refine ⟨q.2, ?_⟩
  rw [hq]
  have h2 := Option.some.inj h1
  exact congrArg some (Prod.ext h2.symm rfl)
section
variable {A : Nat → Prop} {ad ar : Nat → Nat} {cA cB cL : ClassId} {σ τ : S0} {qo : Nat} {g : Nat → Int64}
theorem kdis1 (hD : va_D A ((wC ad cA cB σ ++ wR ar cA cB τ) ++ kO qo cL g)) : ∀ i j, i < 26 → j < 21 → ad i ≠ ar j := by
  intro i j hi hj h
  obtain ⟨e1, h1⟩ := wRC_at hD i (by omega)
  obtain ⟨e2, h2⟩ := wRC_at hD (26 + j) (by omega)
  rw [if_pos hi] at h1
  rw [if_neg (by omega), if_pos (by omega), Nat.add_sub_cancel_left] at h2
  have := hD.1 _ _ _ _ h1 h2 h
  omega
theorem kdis2 (hD : va_D A ((wC ad cA cB σ ++ wR ar cA cB τ) ++ kO qo cL g)) : ∀ i, i < 26 → ad i ≠ qo := by
  intro i hi h
  obtain ⟨e1, h1⟩ := wRC_at hD i (by omega)
  obtain ⟨e2, h2⟩ := wRC_at hD 47 (by omega)
  rw [if_pos hi] at h1
  rw [if_neg (by omega), if_neg (by omega)] at h2
  have := hD.1 _ _ _ _ h1 h2 h
  omega
theorem kdis3 (hD : va_D A ((wC ad cA cB σ ++ wR ar cA cB τ) ++ kO qo cL g)) : ∀ j, j < 21 → ar j ≠ qo := by
  intro j hj h
  obtain ⟨e1, h1⟩ := wRC_at hD (26 + j) (by omega)
  obtain ⟨e2, h2⟩ := wRC_at hD 47 (by omega)
  rw [if_neg (by omega), if_pos (by omega), Nat.add_sub_cancel_left] at h1
  rw [if_neg (by omega), if_neg (by omega)] at h2
  have := hD.1 _ _ _ _ h1 h2 h
  omega
end
theorem karr {args : Array Value} {s : State} {ty : FieldType} (h : (Cond.arrayClass ty).before args s = true) : ∃ cA : ClassId, ArrOfT s cA ty ∧ s.vm.findClass ("[" ++ ty.toString) = some cA := by
  obtain ⟨c, k, comp, h1, h2, h3⟩ := Cond.arrayClass_spec h
  exact ⟨c, fun n z => ⟨fun k h => (by cases h), k, h2, comp, h3⟩, h1⟩
theorem kstr_of {args : Array Value} {s : State} {k : Nat} {t : String} (h1 : (Cond.stringRef RX3 k t).before args s = true) (h2 : (Cond.exactly (.string RX3 k) "java/lang/String").before args s = true) : ∃ a, vk_R RX3 k t a s := by
  obtain ⟨a, c, cell, kk, h3, -⟩ := Cond.exactly_spec h2
  exact ⟨a, vk_R.of h1 h3⟩
set_option maxHeartbeats 4000000 in
set_option maxRecDepth 100000 in
/-- the facts of the start -/
theorem kstart {p : Program} {s : State} {m : MethodId} {meth : Method} {c : Code} {b L : Nat} {xs : Nat → Int32} (C0 : lw_At p s m meth c b L xs) : ∃ (D : va_G) (cA cB cL : ClassId), va_K D vwCl (ktyL cA cB cL) s ∧ kF0 s ∧ kNL s := by
  obtain ⟨hx, hb, hr, hml, hown, hts, hX, hbl, hlocks, hgv⟩ := C0
  have htg : ∀ w ∈ wsG, w.before #[Value.ref b] s = true := fun w h => hts w (wsG_tbl w h)
  have hs := flat_of_before _ hgv
  obtain ⟨c0, iS0, hKn0⟩ := u_known (C := RX0) (T := TX0) (N := 9) (n := 9) htg inG_X0 (htg _ m_76)
  obtain ⟨c1, iS1, hKn1⟩ := u_known (C := RX1) (T := TX1) (N := 14) (n := 14) htg inG_X1 (htg _ m_166)
  obtain ⟨c2, iS2, hKn2⟩ := u_known (C := RX2) (T := TX2) (N := 10) (n := 10) htg inG_X2 (htg _ m_117)
  obtain ⟨c3, iS3, hKn3⟩ := u_known (C := RX3) (T := TX3) (N := 4) (n := 4) htg inG_X3 (htg _ m_68)
  obtain ⟨c4, iS4, hKn4⟩ := u_known (C := RX4) (T := TX4) (N := 27) (n := 27) htg inG_X4 (htg _ m_614)
  obtain ⟨cA, hA1, hA2⟩ := karr (htg _ m_115)
  obtain ⟨cB, hB1, hB2⟩ := karr (htg _ m_701)
  obtain ⟨cL, hL1, hL2⟩ := karr (htg _ m_868)
  refine ⟨(fun k => match k with | 0 => c0 | 1 => c1 | 2 => c2 | 3 => c3 | _ => c4, fun k => match k with | 0 => iS0 | 1 => iS1 | 2 => iS2 | 3 => iS3 | _ => iS4), cA, cB, cL, ⟨fun k q hq => ?_, fun k q hq => ?_⟩, ⟨fun w hw => ?_, ?_, ?_, ?_⟩, ?_, ?_⟩
  · match k, hq with
    | 0, hq => cases hq; exact hKn0
    | 1, hq => cases hq; exact hKn1
    | 2, hq => cases hq; exact hKn2
    | 3, hq => cases hq; exact hKn3
    | 4, hq => cases hq; exact hKn4
    | k + 5, hq => simp [vwCl] at hq
  · match k, hq with
    | 0, hq => cases hq; exact ⟨hA1, hA2⟩
    | 1, hq => cases hq; exact ⟨hB1, hB2⟩
    | 2, hq => cases hq; exact ⟨hL1, hL2⟩
    | k + 3, hq => simp [ktyL] at hq
  · exact va_Nw.of (kwarm_on (List.mem_filter.mp hw).2) (hts w (List.mem_filter.mp hw).1)
  · exact vx_Zqof (hts (.laysStatic Bundle.tN "UNASSIGNED_STACK" Bundle.steD) (by decide +kernel)) (hts (.initialized Bundle.tN) (by decide +kernel)) (hs (.isRef (.static Bundle.tN "UNASSIGNED_STACK" Bundle.steD)) (by decide +kernel)) (fun a h => Nat.not_le.mpr h)
  · exact vx_Zqof (hts (.laysStatic Bundle.tN "SUPPRESSED_SENTINEL" Bundle.listD) (by decide +kernel)) (hts (.initialized Bundle.tN) (by decide +kernel)) (hs (.isRef (.static Bundle.tN "SUPPRESSED_SENTINEL" Bundle.listD)) (by decide +kernel)) (fun a h => Nat.not_le.mpr h)
  · intro q hq
    simp only [kstr, List.mem_cons, List.not_mem_nil, or_false] at hq
    rcases hq with rfl | rfl | rfl | rfl | rfl
    · exact kstr_of (hts (.stringRef RX3 163 "there is no such one") (by decide +kernel)) (hs (.exactly (.string RX3 163) "java/lang/String") (by decide +kernel))
    · exact kstr_of (hts (.stringRef RX3 51 "no such phase") (by decide +kernel)) (hs (.exactly (.string RX3 51) "java/lang/String") (by decide +kernel))
    · exact kstr_of (hts (.stringRef RX3 74 "rounds are 0 to 12") (by decide +kernel)) (hs (.exactly (.string RX3 74) "java/lang/String") (by decide +kernel))
    · exact kstr_of (hts (.stringRef RX3 160 "there is no sheet") (by decide +kernel)) (hs (.exactly (.string RX3 160) "java/lang/String") (by decide +kernel))
    · exact kstr_of (hts (.stringRef RX3 149 "nothing is counted by this number") (by decide +kernel)) (hs (.exactly (.string RX3 149) "java/lang/String") (by decide +kernel))
  · exact va_Nc.of (hs (.not (.castable "java/lang/IllegalStateException" "java/lang/IndexOutOfBoundsException")) (by decide +kernel))
  · exact va_Nc.of (hs (.not (.castable "java/lang/IllegalArgumentException" "java/lang/IndexOutOfBoundsException")) (by decide +kernel))
set_option maxHeartbeats 4000000 in
set_option maxRecDepth 100000 in
/-- the law from its entry, over a pure invariant -/
theorem law_start (Inv : S0 → S0 → Prop) (hinit : Sp_M_init (fun σ => Sp_R_init (fun _ _ => 0) (fun τ => Inv σ τ))) (hstep : ∀ v a b σ τ g, Inv σ τ → LStep v a b σ τ g (fun σ1 τ1 _ => Inv σ1 τ1)) {p : Program} {e : Env} {s : State} {m : MethodId} {below : List Frame} {meth : Method} {c : Code} (l : Launch) (hl0 : l.stackTraces = false) {b L : Nat} {xs : Nat → Int32} (hL : L ≤ 1536) (C0 : lw_At p s m meth c b L xs) : W p l e room_1 s m #[Value.ref b] below meth c s.heap [] 0 0 (lw_Z below #[Value.ref b] s) (entryFrame m ([Value.ref b] : List Value).toArray 7) := by
  obtain ⟨D, cA, cB, cL, hK, hF, hN⟩ := kstart C0
  obtain ⟨hx, hb, hr, hml, hown, hts, hX, hbl, hlocks, hgv⟩ := id C0
  have htg : ∀ w ∈ wsG, w.before #[Value.ref b] s = true := fun w h => hts w (wsG_tbl w h)
  have hown : s.vm.findClass RL = some m.cls := hown
  have hA : ∀ q : Nat, s.heap.size ≤ q → kA0 s q := fun _ h => h
  have hE := hF.1
  have hS : va_S (kA0 s) s.heap s.heap [] := va_S.rf
  have hKc : va_K D vwCl (ktyC cA cB) s := hK.sub [0, 1] rfl
  have hP : va_P D vwCl [] s.heap := fun k q h => by simp at h
  have hD : va_D (kA0 s) [] := ⟨fun i j p q h => by simp at h, fun k q h => by simp at h⟩
  have hl := lv_entry ([.ref b]) (n := 7) (Nat.le_of_ble_eq_true rfl)
  rw [lg_entry_eq]
  generalize (lg_sl ([.ref b]) ++ List.replicate (7 - (lg_sl ([.ref b])).length) Slot.unset).toArray = ls at hl ⊢
  have hl : lv_has ls 7 [(0, .ref b)] := hl
  refine va_new (ci := 3) (fs := [.null, .null, .null, .int 0]) (C := RX3) (T := TX3) (N := 4) hx hb htg inG_X3 tyX3 tyX3_ok hown (htg _ m_67) (htg _ m_68) (htg _ m_53) hK hP hD hS hA rfl (by decide +kernel) (Nat.le_of_ble_eq_true rfl) (Nat.le_of_ble_eq_true rfl) d_L_law_0 (fun x0 H hP hD hS => ?_)
  have hP : va_P D vwCl [(x0, .inr (3, [.null, .null, .null, .int 0]))] H := hP
  have hD : va_D (kA0 s) [(x0, .inr (3, [.null, .null, .null, .int 0]))] := hD
  refine lv_dup hx hb d_L_law_3 rfl ?_
  have hFc := va_free (wc := [(x0, .inr (3, [.null, .null, .null, .int 0]))]) hD hS hA [0] rfl
  refine va_callv (va_runI (As := []) (rest := [.ref x0]) ⟨hx, hb, hml, hown, htg⟩ (met_M_init l D cA cB x0 H.size _ hinit) (cwI 0 htg (kG (kG_self m_71)) rfl rfl rfl (htg _ m_53) (htg _ m_69) (htg _ m_70) rfl (by decide +kernel) ⟨Nat.le_of_ble_eq_true rfl, Nat.le_of_ble_eq_true rfl⟩) ⟨fun a U g mk q => by obtain ⟨q0, q1, qP, qK, qD, qE⟩ := q; exact ⟨q0, q1, qP, va_K.moved (u := U) (U := U.calling g mk a) (Vm.Alike.refl U.vm) qK, qD, fun w hw => va_Nw.same (u := U) (U := U.calling g mk a) (kwarm_on (List.mem_filter.mp hw).2) rfl (qE w hw)⟩, fun U hU hW => ⟨rfl, by rw [hU], by rw [hU]; exact hP, va_K.moved hW.alike hKc, hD.weaken (fun _ _ _ _ => trivial), fun w hw => kwarm_go (List.mem_filter.mp hw).2 hW (hE w hw)⟩⟩ rfl rfl hl.1 rfl (lv_room (Nat.le_of_ble_eq_true rfl)) d_L_law_4 ⟨Nat.le_of_ble_eq_true rfl, Nat.le_of_ble_eq_true rfl⟩) hS (fun q _ h => hFc q h) hFc (fun u t H1 locs ht hvm hw hB hz1 hk1 hS => ?_)
  obtain ⟨ad, σ⟩ := u
  obtain ⟨hP1, hD1⟩ := hB
  rw [ht] at hP1
  obtain ⟨hap, had, hinit⟩ := hw
  try dsimp only at hap had hinit hP1 hD1
  have hD2 : va_D (kA0 s) (wC ad cA cB σ) := hD1.weaken (fun k q _ h => hFc q.1 h)
  generalize H1 = H2 at hP1 hS ⊢
  rw [← had]
  refine lv_astore_n (lv' := [(1, .ref (ad 0)), (0, .ref b)]) hx hb d_L_law_7 rfl hl (by decide) rfl (fun ls hl => ?_)
  refine va_new (ci := 4) (fs := [.int 0, .null, .null, .null, .null, .null, .null, .null, .int 0, .int 0, .null, .null, .null, .int 0, .null, .null, .int 0, .null, .null, .null, .int 0, .null, .null, .null, .null, .null, .int 0]) (C := RX4) (T := TX4) (N := 27) hx hb htg inG_X4 tyX4 tyX4_ok hown (htg _ m_613) (htg _ m_614) (htg _ m_57) hK hP1 hD2 hS hA rfl (by decide +kernel) (Nat.le_of_ble_eq_true rfl) (Nat.le_of_ble_eq_true rfl) d_L_law_8 (fun r0 H hP hD hS => ?_)
  refine lv_dup hx hb d_L_law_11 rfl ?_
  have hPc := hP.sub (ws' := [(r0, .inr (4, [.int 0, .null, .null, .null, .null, .null, .null, .null, .int 0, .int 0, .null, .null, .null, .int 0, .null, .null, .int 0, .null, .null, .null, .int 0, .null, .null, .null, .null, .null, .int 0]))]) [26] rfl
  have hDc := hD.sub (ws' := [(r0, .inr (4, [.int 0, .null, .null, .null, .null, .null, .null, .null, .int 0, .int 0, .null, .null, .null, .int 0, .null, .null, .int 0, .null, .null, .null, .int 0, .null, .null, .null, .null, .null, .int 0]))]) [26] (by decide) rfl
  have hFc := va_free (wc := [(r0, .inr (4, [.int 0, .null, .null, .null, .null, .null, .null, .null, .int 0, .int 0, .null, .null, .null, .int 0, .null, .null, .int 0, .null, .null, .null, .int 0, .null, .null, .null, .null, .null, .int 0]))]) hD hS hA [26] rfl
  refine va_callv (va_runI (As := []) (rest := [.ref r0]) ⟨hx, hb, hml, hown, htg⟩ (met_R_init l D cA cB r0 H.size _ hinit) (cwI 0 htg (kG (kG_self m_617)) rfl rfl rfl (htg _ m_57) (htg _ m_615) (htg _ m_616) rfl (by decide +kernel) ⟨Nat.le_of_ble_eq_true rfl, Nat.le_of_ble_eq_true rfl⟩) ⟨fun a U g mk q => by obtain ⟨q0, q1, qP, qK, qD⟩ := q; exact ⟨q0, q1, qP, va_K.moved (u := U) (U := U.calling g mk a) (Vm.Alike.refl U.vm) qK, qD⟩, fun U hU hW => ⟨rfl, by rw [hU], by rw [hU]; exact hPc, va_K.moved hW.alike hKc, hDc.weaken (fun _ _ _ _ => trivial)⟩⟩ rfl rfl hl.1 rfl (lv_room (Nat.le_of_ble_eq_true rfl)) d_L_law_12 ⟨Nat.le_of_ble_eq_true rfl, Nat.le_of_ble_eq_true rfl⟩) hS (fun q _ h => hFc q h) hFc (fun u t H1 locs ht hvm hw hB hz1 hk1 hS => ?_)
  obtain ⟨ar, τ⟩ := u
  obtain ⟨hP1, hD1⟩ := hB
  rw [ht] at hP1
  obtain ⟨har, har0, hinv⟩ := hw
  try dsimp only at har har0 hinv hP1 hD1
  obtain ⟨hP, hD⟩ := va_join (wr := wC ad cA cB σ) (w1 := wR ar cA cB τ) hP hD [26] [0, 1, 2, 3, 4, 5, 6, 7, 8, 9, 10, 11, 12, 13, 14, 15, 16, 17, 18, 19, 20, 21, 22, 23, 24, 25] rfl rfl (by decide) (by decide) hk1 hFc hP1 hD1
  generalize H1 = H3 at hP hS ⊢
  rw [← har0]
  refine lv_astore_n (lv' := [(2, .ref (ar 0)), (1, .ref (ad 0)), (0, .ref b)]) hx hb d_L_law_15 rfl hl (by decide) rfl (fun ls hl => ?_)
  refine lv_iconst (v := 1) hx hb d_L_law_16 (by decide) ?_
  refine k_newa (atype := .long) (ty := .long) (cA := cL) hx hb (htg _ m_868) rfl hK 2 rfl (fun _ h => h) hP hD hS hA (a0 := (1, .inr (.inl (fun _ => 0)))) (fun _ => rfl) (by decide) (by decide) (by decide) (Nat.le_of_ble_eq_true rfl) (Nat.le_of_ble_eq_true rfl) d_L_law_17 (fun qo H hP hD hS => ?_)
  refine lv_astore_n (lv' := [(3, .ref qo), (2, .ref (ar 0)), (1, .ref (ad 0)), (0, .ref b)]) hx hb d_L_law_19 rfl hl (by decide) rfl (fun ls hl => ?_)
  refine lv_iconst (v := 0) hx hb d_L_law_20 (by decide) ?_
  refine lv_istore (lv' := [(4, .int 0), (3, .ref qo), (2, .ref (ar 0)), (1, .ref (ad 0)), (0, .ref b)]) hx hb d_L_law_21 hl (by decide) rfl (fun ls hl => ?_)
  have hPC : va_P D vwCl (wC ad cA cB σ ++ kO qo cL (fun _ => 0)) H := hP.sub [0, 1, 2, 3, 4, 5, 6, 7, 8, 9, 10, 11, 12, 13, 14, 15, 16, 17, 18, 19, 20, 21, 22, 23, 24, 25, 47] rfl
  have hPR : va_P D vwCl (wR ar cA cB τ) H := hP.sub [26, 27, 28, 29, 30, 31, 32, 33, 34, 35, 36, 37, 38, 39, 40, 41, 42, 43, 44, 45, 46] rfl
  have hDC : va_D (kA0 s) (wC ad cA cB σ) := hD.sub [0, 1, 2, 3, 4, 5, 6, 7, 8, 9, 10, 11, 12, 13, 14, 15, 16, 17, 18, 19, 20, 21, 22, 23, 24, 25] (by decide) rfl
  have hDR : va_D (kA0 s) (wR ar cA cB τ) := hD.sub [26, 27, 28, 29, 30, 31, 32, 33, 34, 35, 36, 37, 38, 39, 40, 41, 42, 43, 44, 45, 46] (by decide) rfl
  have hDO : kA0 s qo := hD.2 47 _ rfl
  have hd : kdis s ad ar qo := ⟨hap, har, kdis1 hD, kdis2 hD, kdis3 hD, fun i hi => wC_in hDC hi, fun j hj => wR_in hDR hj, hDO⟩
  refine W.widen (k := 48 + 0) (n := 7527 + 6 * 0) (Nat.le_of_ble_eq_true rfl) (Nat.le_of_ble_eq_true rfl) ?_
  exact law_loop hl0 hL C0 hK hF hN Inv hstep hd (L + 1) 0 (by omega) (by omega) (by omega) σ τ _ hinv H _ ls hPC hPR hS (lv_sub hl [4, 3, 2, 1, 0] rfl)
