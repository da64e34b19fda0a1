theorem m_72 : Cond.methodLink RX3 3 Lib.objectInit ∈ wsG := wsG_in (List.mem_of_getElem? (i := 72) (by decide +kernel)) (by decide +kernel)
theorem m_75 : Cond.classLink RX3 9 RX0 ∈ wsG := wsG_in (List.mem_of_getElem? (i := 75) (by decide +kernel)) (by decide +kernel)
theorem m_76 : Cond.instantiable RX0 9 ∈ wsG := wsG_in (List.mem_of_getElem? (i := 76) (by decide +kernel)) (by decide +kernel)
theorem m_77 : Cond.methodLink RX3 11 y_D_init ∈ wsG := wsG_in (List.mem_of_getElem? (i := 77) (by decide +kernel)) (by decide +kernel)
theorem m_78 : Cond.instanceMethod y_D_init ∈ wsG := wsG_in (List.mem_of_getElem? (i := 78) (by decide +kernel)) (by decide +kernel)
theorem m_79 : Cond.code y_D_init c_D_init 2 none ∈ wsG := wsG_in (List.mem_of_getElem? (i := 79) (by decide +kernel)) (by decide +kernel)
theorem m_116 : Cond.classLink RX3 16 RX2 ∈ wsG := wsG_in (List.mem_of_getElem? (i := 116) (by decide +kernel)) (by decide +kernel)
theorem m_117 : Cond.instantiable RX2 10 ∈ wsG := wsG_in (List.mem_of_getElem? (i := 117) (by decide +kernel)) (by decide +kernel)
theorem m_119 : Cond.instanceMethod y_P_init ∈ wsG := wsG_in (List.mem_of_getElem? (i := 119) (by decide +kernel)) (by decide +kernel)
theorem m_120 : Cond.code y_P_init c_P_init 1 none ∈ wsG := wsG_in (List.mem_of_getElem? (i := 120) (by decide +kernel)) (by decide +kernel)
theorem m_165 : Cond.classLink RX3 23 RX1 ∈ wsG := wsG_in (List.mem_of_getElem? (i := 165) (by decide +kernel)) (by decide +kernel)
theorem m_166 : Cond.instantiable RX1 14 ∈ wsG := wsG_in (List.mem_of_getElem? (i := 166) (by decide +kernel)) (by decide +kernel)
theorem m_168 : Cond.instanceMethod y_O_init ∈ wsG := wsG_in (List.mem_of_getElem? (i := 168) (by decide +kernel)) (by decide +kernel)
theorem m_169 : Cond.code y_O_init c_O_init 1 none ∈ wsG := wsG_in (List.mem_of_getElem? (i := 169) (by decide +kernel)) (by decide +kernel)
theorem me_118 : Cond.methodLinkNest RX3 18 y_P_init "MatrixSheets" ∈ wsE := wsE_in (List.mem_of_getElem? (i := 118) (by decide +kernel)) (by decide +kernel)
theorem me_167 : Cond.methodLinkNest RX3 25 y_O_init "MatrixSheets" ∈ wsE := wsE_in (List.mem_of_getElem? (i := 167) (by decide +kernel)) (by decide +kernel)
/-- the three parts' numbers in one state -/
def kσ (σ1 σ2 σ3 : S0) : S0 := fun a => match a with
  | 0 => fun k => match k with | 0 => 0 | 1 => σ1 0 0 | 2 => σ1 0 1 | 3 => σ1 0 2 | 4 => σ2 0 0 | 5 => σ2 0 1 | 6 => σ2 0 2 | 7 => σ2 0 3 | 8 => σ3 0 0 | 9 => σ3 0 1 | 10 => σ3 0 2 | 11 => σ3 0 3 | _ => 0
  | 4 => σ1 1
  | 5 => σ1 2
  | 6 => σ1 3
  | 7 => σ1 4
  | 8 => σ1 5
  | 9 => σ1 6
  | 10 => σ2 1
  | 11 => σ2 2
  | 12 => σ2 3
  | 13 => σ2 4
  | 14 => σ2 5
  | 15 => σ2 6
  | 16 => σ3 1
  | 17 => σ3 2
  | 18 => σ3 3
  | 19 => σ3 4
  | 20 => σ3 5
  | 21 => σ3 6
  | 22 => σ3 7
  | 23 => σ3 8
  | 24 => σ3 9
  | 25 => σ3 10
  | _ => fun _ => 0
def Sp_M_init (post : S0 → Prop) : Prop := Sp_D_init (fun _ _ => 0) (fun σ1 => Sp_P_init (fun _ _ => 0) (fun σ2 => Sp_O_init (fun _ _ => 0) (fun σ3 => post (kσ σ1 σ2 σ3))))
set_option maxHeartbeats 4000000 in
set_option maxRecDepth 100000 in
theorem met_M_init (l : Launch) (D : va_G) (cA cB : ClassId) (h0 sz : Nat) (post : S0 → Prop) (h : Sp_M_init post) : Met l y_M_init (Cond.code y_M_init c_M_init 1 none :: wsG) ({ frames := 2, cells := 25, slots := 2634, locals := 33 } : Room) (va_Pc [.ref h0] (fun U => U.heap.size = sz ∧ va_P D vwCl [(h0, .inr (3, [.null, .null, .null, .int 0]))] U.heap ∧ va_K D vwCl (ktyC cA cB) U ∧ va_D (fun _ => True) [(h0, .inr (3, [.null, .null, .null, .int 0]))] ∧ ∀ w ∈ wsE, va_Nw w U)) (va_Qv (fun u : (Nat → Nat) × S0 => kapC u.1 ∧ u.1 0 = h0 ∧ post u.2) (fun (u : (Nat → Nat) × S0) (t : State) => va_P D vwCl (wC u.1 cA cB u.2) t.heap ∧ va_D (va_A [(h0, .inr (3, [.null, .null, .null, .int 0]))] sz) (wC u.1 cA cB u.2)) (va_A [(h0, .inr (3, [.null, .null, .null, .int 0]))] sz)) 25 2634 (va_A [(h0, .inr (3, [.null, .null, .null, .int 0]))] sz) := by
  refine Met.ofW (cc := c_M_init) (maxL := 1) (ret := none) (by decide) rfl ?_
  intro p e s m args below meth c s₁ B hml hv
  obtain ⟨rfl, hsz, hP, hK, hD0, hE⟩ := hv
  have hx := B.exec
  have hb := B.bytes
  have hr := B.returns
  have hts := atoms_spec (ws := (Cond.code y_M_init c_M_init 1 none :: wsG)) B.pre
  have htg : ∀ w ∈ wsG, w.before ([.ref h0] : List Value).toArray s = true := fun w h => hts w (List.mem_cons_of_mem _ h)
  have hown : s.vm.findClass RX3 = some m.cls := findClass_of_methodNamed B.named
  have hlocks := B.notSynchronized
  have hin : meth.name = "<init>" := (name_of_methodNamed B.named B.method).1
  subst hsz
  have hD := hD0.self (sz := s.heap.size)
  generalize hAe : va_A [(h0, .inr (3, [.null, .null, .null, .int 0]))] s.heap.size = A at hD ⊢
  have hA : ∀ q : Nat, s.heap.size ≤ q → A q := fun q h => by rw [← hAe]; exact Or.inr h
  have hS : va_S A s.heap s.heap [] := va_S.rf
  have hl := lv_entry ([.ref h0]) (n := 1) (Nat.le_of_ble_eq_true rfl)
  rw [lg_entry_eq]
  generalize (lg_sl ([.ref h0]) ++ List.replicate (1 - (lg_sl ([.ref h0])).length) Slot.unset).toArray = ls at hl ⊢
  have hl : lv_has ls 1 [(0, .ref h0)] := hl
  unfold Sp_M_init at h
  refine lv_aload_n hx hb d_M_init_0 rfl (lv_at hl 0 rfl) ?_
  refine W.objInit hx hb hown (htg _ m_72) (htg _ m_73) (htg _ m_74) rfl (by rw [hml]; exact hl.1) rfl d_M_init_1 (Nat.le_of_ble_eq_true rfl) (Nat.le_of_ble_eq_true rfl) ?_
  refine W.eq (g2 := F0 m 4 ls []) rfl ?_
  refine lv_aload_n hx hb d_M_init_4 rfl (lv_at hl 0 rfl) ?_
  refine va_new (ci := 0) (fs := [.null, .null, .null, .int 0, .int 0, .int 0, .null, .null, .null]) (C := RX0) (T := TX0) (N := 9) hx hb htg inG_X0 tyX0 tyX0_ok hown (htg _ m_75) (htg _ m_76) (htg _ m_54) hK hP hD hS hA rfl (by decide +kernel) (Nat.le_of_ble_eq_true rfl) (Nat.le_of_ble_eq_true rfl) d_M_init_5 (fun d0 H hP hD hS => ?_)
  have hP : va_P D vwCl (([(h0, .inr (3, [.null, .null, .null, .int 0]))]) ++ [(d0, .inr (0, [.null, .null, .null, .int 0, .int 0, .int 0, .null, .null, .null]))]) H := hP
  have hD : va_D A (([(h0, .inr (3, [.null, .null, .null, .int 0]))]) ++ [(d0, .inr (0, [.null, .null, .null, .int 0, .int 0, .int 0, .null, .null, .null]))]) := hD
  refine lv_dup hx hb d_M_init_8 rfl ?_
  have hPc := hP.sub (ws' := [(d0, .inr (0, [.null, .null, .null, .int 0, .int 0, .int 0, .null, .null, .null]))]) [1] rfl
  have hDc := hD.sub (ws' := [(d0, .inr (0, [.null, .null, .null, .int 0, .int 0, .int 0, .null, .null, .null]))]) [1] (by decide) rfl
  have hFc := va_free (wc := [(d0, .inr (0, [.null, .null, .null, .int 0, .int 0, .int 0, .null, .null, .null]))]) hD hS hA [1] rfl
  refine va_callv (va_runI (As := []) (rest := [.ref d0, .ref h0]) ⟨hx, hb, hml, hown, htg⟩ (met_D_init l D cA cB d0 H.size _ h) (cwI 0 htg (kG (kG_self m_79)) rfl rfl rfl (htg _ m_54) (htg _ m_77) (htg _ m_78) rfl (by decide +kernel) ⟨Nat.le_of_ble_eq_true rfl, Nat.le_of_ble_eq_true rfl⟩) ⟨fun a U g mk q => by obtain ⟨q0, q1, qP, qK, qD⟩ := q; exact ⟨q0, q1, qP, va_K.moved (u := U) (U := U.calling g mk a) (Vm.Alike.refl U.vm) qK, qD⟩, fun U hU hW => ⟨rfl, by rw [hU], by rw [hU]; exact hPc, va_K.moved hW.alike hK, hDc.weaken (fun _ _ _ _ => trivial)⟩⟩ rfl rfl hl.1 rfl (lv_room (Nat.le_of_ble_eq_true rfl)) d_M_init_9 ⟨Nat.le_of_ble_eq_true rfl, Nat.le_of_ble_eq_true rfl⟩) hS (fun q _ h => hFc q h) hFc (fun u t H1 locs ht hvm hw hB hz1 hk1 hS => ?_)
  obtain ⟨ad1, σ1⟩ := u
  obtain ⟨hP1, hD1⟩ := hB
  rw [ht] at hP1
  obtain ⟨hap1, had1, h⟩ := hw
  try dsimp only at hap1 had1 h hP1 hD1
  obtain ⟨hP, hD⟩ := va_join (wr := ([(h0, .inr (3, [.null, .null, .null, .int 0]))])) (w1 := wD ad1 cA cB σ1) hP hD [1] [0] rfl rfl (by decide) (by decide) hk1 hFc hP1 hD1
  generalize H1 = H at hP hS ⊢
  refine va_putF (D := D) (ci := 3) (v := .ref d0) (ty := .object "MatrixSheets$Dig") (C := RX3) (T := TX3) (N := 4) hx hb htg inG_X3 tyX3 tyX3_ok nmX3 hown hK hP hD hS 0 rfl rfl 0 (by decide) (htg _ m_217) (fun _ h9 => h9) rfl hin rfl (by decide +kernel) rfl rfl (Nat.le_of_ble_eq_true rfl) d_M_init_12 (fun H locs hP hD hS => ?_)
  have hP : va_P D vwCl ([(h0, .inr (3, [.ref d0, .null, .null, .int 0]))] ++ wD ad1 cA cB σ1) H := hP
  have hD : va_D A ([(h0, .inr (3, [.ref d0, .null, .null, .int 0]))] ++ wD ad1 cA cB σ1) := hD
  refine lv_aload_n hx hb d_M_init_15 rfl (lv_at hl 0 rfl) ?_
  refine va_new (ci := 2) (fs := [.null, .null, .null, .int 0, .int 0, .int 0, .int 0, .null, .null, .null]) (C := RX2) (T := TX2) (N := 10) hx hb htg inG_X2 tyX2 tyX2_ok hown (htg _ m_116) (htg _ m_117) (htg _ m_55) hK hP hD hS hA rfl (by decide +kernel) (Nat.le_of_ble_eq_true rfl) (Nat.le_of_ble_eq_true rfl) d_M_init_16 (fun p0 H hP hD hS => ?_)
  have hP : va_P D vwCl (([(h0, .inr (3, [.ref d0, .null, .null, .int 0]))] ++ wD ad1 cA cB σ1) ++ [(p0, .inr (2, [.null, .null, .null, .int 0, .int 0, .int 0, .int 0, .null, .null, .null]))]) H := hP
  have hD : va_D A (([(h0, .inr (3, [.ref d0, .null, .null, .int 0]))] ++ wD ad1 cA cB σ1) ++ [(p0, .inr (2, [.null, .null, .null, .int 0, .int 0, .int 0, .int 0, .null, .null, .null]))]) := hD
  refine lv_dup hx hb d_M_init_19 rfl ?_
  have hPc := hP.sub (ws' := [(p0, .inr (2, [.null, .null, .null, .int 0, .int 0, .int 0, .int 0, .null, .null, .null]))]) [8] rfl
  have hDc := hD.sub (ws' := [(p0, .inr (2, [.null, .null, .null, .int 0, .int 0, .int 0, .int 0, .null, .null, .null]))]) [8] (by decide) rfl
  have hFc := va_free (wc := [(p0, .inr (2, [.null, .null, .null, .int 0, .int 0, .int 0, .int 0, .null, .null, .null]))]) hD hS hA [8] rfl
  refine va_callv (va_runIN (As := []) (rest := [.ref p0, .ref h0]) ⟨hx, hb, hml, hown, htg⟩ (met_P_init l D cA cB p0 H.size _ h) ⟨va_cnB (host := "MatrixSheets") 0 htg (kG (kG_self m_120)) rfl rfl rfl (hE _ me_118) (htg _ m_55) (by decide +kernel) ⟨Nat.le_of_ble_eq_true rfl, Nat.le_of_ble_eq_true rfl⟩, rfl, htg _ m_119⟩ ⟨fun a U g mk q => by obtain ⟨q0, q1, qP, qK, qD⟩ := q; exact ⟨q0, q1, qP, va_K.moved (u := U) (U := U.calling g mk a) (Vm.Alike.refl U.vm) qK, qD⟩, fun U hU hW => ⟨rfl, by rw [hU], by rw [hU]; exact hPc, va_K.moved hW.alike hK, hDc.weaken (fun _ _ _ _ => trivial)⟩⟩ rfl rfl hl.1 rfl (lv_room (Nat.le_of_ble_eq_true rfl)) d_M_init_20 ⟨Nat.le_of_ble_eq_true rfl, Nat.le_of_ble_eq_true rfl⟩) hS (fun q _ h => hFc q h) hFc (fun u t H1 locs ht hvm hw hB hz1 hk1 hS => ?_)
  obtain ⟨ad2, σ2⟩ := u
  obtain ⟨hP1, hD1⟩ := hB
  rw [ht] at hP1
  obtain ⟨hap2, had2, h⟩ := hw
  try dsimp only at hap2 had2 h hP1 hD1
  obtain ⟨hP, hD⟩ := va_join (wr := ([(h0, .inr (3, [.ref d0, .null, .null, .int 0]))] ++ wD ad1 cA cB σ1)) (w1 := wP ad2 cA cB σ2) hP hD [8] [0, 1, 2, 3, 4, 5, 6, 7] rfl rfl (by decide) (by decide) hk1 hFc hP1 hD1
  generalize H1 = H at hP hS ⊢
  refine va_putF (D := D) (ci := 3) (v := .ref p0) (ty := .object "MatrixSheets$Plan") (C := RX3) (T := TX3) (N := 4) hx hb htg inG_X3 tyX3 tyX3_ok nmX3 hown hK hP hD hS 0 rfl rfl 1 (by decide) (htg _ m_218) (fun _ h9 => h9) rfl hin rfl (by decide +kernel) rfl rfl (Nat.le_of_ble_eq_true rfl) d_M_init_23 (fun H locs hP hD hS => ?_)
  have hP : va_P D vwCl ([(h0, .inr (3, [.ref d0, .ref p0, .null, .int 0]))] ++ wD ad1 cA cB σ1 ++ wP ad2 cA cB σ2) H := hP
  have hD : va_D A ([(h0, .inr (3, [.ref d0, .ref p0, .null, .int 0]))] ++ wD ad1 cA cB σ1 ++ wP ad2 cA cB σ2) := hD
  refine lv_aload_n hx hb d_M_init_26 rfl (lv_at hl 0 rfl) ?_
  refine va_new (ci := 1) (fs := [.null, .null, .int 0, .null, .null, .null, .null, .null, .null, .null, .null, .int 0, .int 0, .int 0]) (C := RX1) (T := TX1) (N := 14) hx hb htg inG_X1 tyX1 tyX1_ok hown (htg _ m_165) (htg _ m_166) (htg _ m_56) hK hP hD hS hA rfl (by decide +kernel) (Nat.le_of_ble_eq_true rfl) (Nat.le_of_ble_eq_true rfl) d_M_init_27 (fun o0 H hP hD hS => ?_)
  have hP : va_P D vwCl (([(h0, .inr (3, [.ref d0, .ref p0, .null, .int 0]))] ++ wD ad1 cA cB σ1 ++ wP ad2 cA cB σ2) ++ [(o0, .inr (1, [.null, .null, .int 0, .null, .null, .null, .null, .null, .null, .null, .null, .int 0, .int 0, .int 0]))]) H := hP
  have hD : va_D A (([(h0, .inr (3, [.ref d0, .ref p0, .null, .int 0]))] ++ wD ad1 cA cB σ1 ++ wP ad2 cA cB σ2) ++ [(o0, .inr (1, [.null, .null, .int 0, .null, .null, .null, .null, .null, .null, .null, .null, .int 0, .int 0, .int 0]))]) := hD
  refine lv_dup hx hb d_M_init_30 rfl ?_
  have hPc := hP.sub (ws' := [(o0, .inr (1, [.null, .null, .int 0, .null, .null, .null, .null, .null, .null, .null, .null, .int 0, .int 0, .int 0]))]) [15] rfl
  have hDc := hD.sub (ws' := [(o0, .inr (1, [.null, .null, .int 0, .null, .null, .null, .null, .null, .null, .null, .null, .int 0, .int 0, .int 0]))]) [15] (by decide) rfl
  have hFc := va_free (wc := [(o0, .inr (1, [.null, .null, .int 0, .null, .null, .null, .null, .null, .null, .null, .null, .int 0, .int 0, .int 0]))]) hD hS hA [15] rfl
  refine va_callv (va_runIN (As := []) (rest := [.ref o0, .ref h0]) ⟨hx, hb, hml, hown, htg⟩ (met_O_init l D cA cB o0 H.size _ h) ⟨va_cnB (host := "MatrixSheets") 0 htg (kG (kG_self m_169)) rfl rfl rfl (hE _ me_167) (htg _ m_56) (by decide +kernel) ⟨Nat.le_of_ble_eq_true rfl, Nat.le_of_ble_eq_true rfl⟩, rfl, htg _ m_168⟩ ⟨fun a U g mk q => by obtain ⟨q0, q1, qP, qK, qD⟩ := q; exact ⟨q0, q1, qP, va_K.moved (u := U) (U := U.calling g mk a) (Vm.Alike.refl U.vm) qK, qD⟩, fun U hU hW => ⟨rfl, by rw [hU], by rw [hU]; exact hPc, va_K.moved hW.alike hK, hDc.weaken (fun _ _ _ _ => trivial)⟩⟩ rfl rfl hl.1 rfl (lv_room (Nat.le_of_ble_eq_true rfl)) d_M_init_31 ⟨Nat.le_of_ble_eq_true rfl, Nat.le_of_ble_eq_true rfl⟩) hS (fun q _ h => hFc q h) hFc (fun u t H1 locs ht hvm hw hB hz1 hk1 hS => ?_)
  obtain ⟨ad3, σ3⟩ := u
  obtain ⟨hP1, hD1⟩ := hB
  rw [ht] at hP1
  obtain ⟨hap3, had3, h⟩ := hw
  try dsimp only at hap3 had3 h hP1 hD1
  obtain ⟨hP, hD⟩ := va_join (wr := ([(h0, .inr (3, [.ref d0, .ref p0, .null, .int 0]))] ++ wD ad1 cA cB σ1 ++ wP ad2 cA cB σ2)) (w1 := wO ad3 cA cB σ3) hP hD [15] [0, 1, 2, 3, 4, 5, 6, 7, 8, 9, 10, 11, 12, 13, 14] rfl rfl (by decide) (by decide) hk1 hFc hP1 hD1
  generalize H1 = H at hP hS ⊢
  refine va_putF (D := D) (ci := 3) (v := .ref o0) (ty := .object "MatrixSheets$Order") (C := RX3) (T := TX3) (N := 4) hx hb htg inG_X3 tyX3 tyX3_ok nmX3 hown hK hP hD hS 0 rfl rfl 2 (by decide) (htg _ m_219) (fun _ h9 => h9) rfl hin rfl (by decide +kernel) rfl rfl (Nat.le_of_ble_eq_true rfl) d_M_init_34 (fun H locs hP hD hS => ?_)
  have hP : va_P D vwCl ([(h0, .inr (3, [.ref d0, .ref p0, .ref o0, .int 0]))] ++ wD ad1 cA cB σ1 ++ wP ad2 cA cB σ2 ++ wO ad3 cA cB σ3) H := hP
  have hD : va_D A ([(h0, .inr (3, [.ref d0, .ref p0, .ref o0, .int 0]))] ++ wD ad1 cA cB σ1 ++ wP ad2 cA cB σ2 ++ wO ad3 cA cB σ3) := hD
  refine lv_aload_n hx hb d_M_init_37 rfl (lv_at hl 0 rfl) ?_
  refine lv_iconst (v := 0) hx hb d_M_init_38 (by decide) ?_
  refine va_put (D := D) (ci := 3) (v := .int 0) (ty := .boolean) (C := RX3) (T := TX3) (N := 4) hx hb htg inG_X3 tyX3 tyX3_ok nmX3 hown hK hP hD hS 0 rfl rfl 3 (by decide) (htg _ m_220) (fun _ h9 => h9) rfl (by decide +kernel) rfl rfl (Nat.le_of_ble_eq_true rfl) d_M_init_39 (fun H locs hP hD hS => ?_)
  have hP : va_P D vwCl ([(h0, .inr (3, [.ref d0, .ref p0, .ref o0, .int 0]))] ++ wD ad1 cA cB σ1 ++ wP ad2 cA cB σ2 ++ wO ad3 cA cB σ3) H := hP
  have hD : va_D A ([(h0, .inr (3, [.ref d0, .ref p0, .ref o0, .int 0]))] ++ wD ad1 cA cB σ1 ++ wP ad2 cA cB σ2 ++ wO ad3 cA cB σ3) := hD
  rw [← had1, ← had2, ← had3] at hP hD
  obtain ⟨ad, ead⟩ : ∃ z : Nat → Nat, z = fun k => match k with | 0 => h0 | 1 => ad1 0 | 2 => ad2 0 | 3 => ad3 0 | 4 => ad1 1 | 5 => ad1 2 | 6 => ad1 3 | 7 => ad1 4 | 8 => ad1 5 | 9 => ad1 6 | 10 => ad2 1 | 11 => ad2 2 | 12 => ad2 3 | 13 => ad2 4 | 14 => ad2 5 | 15 => ad2 6 | 16 => ad3 1 | 17 => ad3 2 | 18 => ad3 3 | 19 => ad3 4 | 20 => ad3 5 | 21 => ad3 6 | 22 => ad3 7 | 23 => ad3 8 | 24 => ad3 9 | 25 => ad3 10 | _ => 0 := ⟨_, rfl⟩
  have hP9 : va_P D vwCl (wC ad cA cB (kσ σ1 σ2 σ3)) H := by rw [ead]; exact hP.sub [0, 1, 8, 15, 2, 3, 4, 5, 6, 7, 9, 10, 11, 12, 13, 14, 16, 17, 18, 19, 20, 21, 22, 23, 24, 25] rfl
  have hD9 : va_D A (wC ad cA cB (kσ σ1 σ2 σ3)) := by rw [ead]; exact hD.sub [0, 1, 8, 15, 2, 3, 4, 5, 6, 7, 9, 10, 11, 12, 13, 14, 16, 17, 18, 19, 20, 21, 22, 23, 24, 25] (by decide) rfl
  have had : ad 0 = h0 := congrFun ead 0
  refine W.widen (k := 25) (n := 2634) (Nat.le_of_ble_eq_true rfl) (Nat.le_of_ble_eq_true rfl) ?_
  exact W.vret hx hb hr (fun t ht hW => ⟨⟨(ad, kσ σ1 σ2 σ3), rfl, ⟨wC_ap hD9, had, h⟩, by rw [ht]; exact hP9, hD9⟩, hS.F ht⟩) hS.2.2 d_M_init_42 hlocks
