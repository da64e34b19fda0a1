set_option maxHeartbeats 4000000 in
set_option maxRecDepth 100000 in
theorem met_M_has (l : Launch) (D : va_G) (ad : Nat → Nat) (cA cB : ClassId) (hap : kapC ad) (σ : S0) (sz : Nat) (a0 a1 : Int32) (post : Int32 → S0 → Prop) (h : Sp_M_has a0 a1 σ post) : Met l y_M_has (Cond.code y_M_has c_M_has 2 (some .boolean) :: wsG) ({ frames := 0, cells := 0, slots := 0, locals := 0 } : Room) (kPcC D ad cA cB σ sz [.int a0, .int a1]) (va_Qi post (kBC D ad cA cB) (kAC ad sz)) 0 0 (kAC ad sz) := by
  refine Met.ofW (cc := c_M_has) (maxL := 2) (ret := (some .boolean)) (by decide) rfl ?_
  intro p e s m args below meth c s₁ B hml hv
  obtain ⟨rfl, hsz, hP, hK, hF⟩ := hv
  have hx := B.exec
  have hb := B.bytes
  have hr := B.returns
  have hts := atoms_spec (ws := (Cond.code y_M_has c_M_has 2 (some .boolean) :: wsG)) B.pre
  have htg : ∀ w ∈ wsG, w.before ([.int a0, .int a1] : List Value).toArray s = true := fun w h => hts w (List.mem_cons_of_mem _ h)
  have hown : s.vm.findClass RX3 = some m.cls := findClass_of_methodNamed B.named
  have hlocks := B.notSynchronized
  subst hsz
  have hD : ∀ σ, va_D (kAC ad s.heap.size) (wC ad cA cB σ) := fun σ => wC_D hap cA cB σ _
  have hS : va_S (kAC ad s.heap.size) s.heap s.heap [] := va_S.rf
  have hE := hF.1
  have hl := lv_entry ([.int a0, .int a1]) (n := 2) (Nat.le_of_ble_eq_true rfl)
  rw [lg_entry_eq]
  generalize (lg_sl ([.int a0, .int a1]) ++ List.replicate (2 - (lg_sl ([.int a0, .int a1])).length) Slot.unset).toArray = ls at hl ⊢
  have hl : lv_has ls 2 [(0, .int a0), (1, .int a1)] := hl
  unfold Sp_M_has at h
  obtain ⟨H, eH⟩ : ∃ z, z = s.heap := ⟨_, rfl⟩
  have hP : va_P D vwCl (wC ad cA cB σ) H := by rw [eH]; exact hP
  have hS : va_S (kAC ad s.heap.size) s.heap H [] := by rw [eH]; exact hS
  show W p l e (headSpec (Cond.code y_M_has c_M_has 2 (some .boolean) :: wsG) ({ frames := 0, cells := 0, slots := 0, locals := 0 } : Room)).room s m ([.int a0, .int a1] : List Value).toArray below meth c s.heap [] 0 0 (MQ below (va_Qi post (kBC D ad cA cB) (kAC ad s.heap.size)) ([.int a0, .int a1] : List Value).toArray s 0 0 (kAC ad s.heap.size)) (F0 m 0 ls [])
  suffices k : W p l e (headSpec (Cond.code y_M_has c_M_has 2 (some .boolean) :: wsG) ({ frames := 0, cells := 0, slots := 0, locals := 0 } : Room)).room s m ([.int a0, .int a1] : List Value).toArray below meth c H [] 0 0 (MQ below (va_Qi post (kBC D ad cA cB) (kAC ad s.heap.size)) ([.int a0, .int a1] : List Value).toArray s 0 0 (kAC ad s.heap.size)) (F0 m 0 ls []) by rw [eH] at k; exact k
  refine lv_iload_n hx hb d_M_has_0 rfl (lv_at hl 0 rfl) ?_
  refine lv_iload_n hx hb d_M_has_1 rfl (lv_at hl 1 rfl) ?_
  refine lv_ishr hx hb d_M_has_2 ?_
  refine lv_iconst (v := 1) hx hb d_M_has_3 (by decide) ?_
  refine lv_iand hx hb d_M_has_4 ?_
  refine lv_if_eq (tgt := 12) hx hb d_M_has_5 (by decide) (fun cn => ?_) (fun cn => ?_)
  · have h := h.1 cn
    refine lv_iconst (v := 0) hx hb d_M_has_12 (by decide) ?_
    exact W.zret (v := 0) hx hb hr rfl (fun t ht hW => ⟨⟨_, σ, rfl, h, kBC_of ht hP⟩, hS.F ht⟩) hS.2.2 d_M_has_13 hlocks
  · have h := h.2 cn
    refine lv_iconst (v := 1) hx hb d_M_has_8 (by decide) ?_
    refine lv_goto (tgt := 13) hx hb d_M_has_9 (by decide) ?_
    exact W.zret (v := 1) hx hb hr rfl (fun t ht hW => ⟨⟨_, σ, rfl, h, kBC_of ht hP⟩, hS.F ht⟩) hS.2.2 d_M_has_13 hlocks
set_option maxHeartbeats 4000000 in
set_option maxRecDepth 100000 in
theorem met_D_leadersOf (l : Launch) (D : va_G) (ad : Nat → Nat) (cA cB : ClassId) (hap : kapC ad) (σ : S0) (sz : Nat) (a1 : Int32) (post : Int32 → S0 → Prop) (h : Sp_D_leadersOf a1 σ post) : Met l y_D_leadersOf (Cond.code y_D_leadersOf c_D_leadersOf 4 (some .int) :: wsG) ({ frames := 1, cells := 0, slots := 0, locals := 21 } : Room) (kPcC D ad cA cB σ sz [.ref (ad 1), .int a1]) (va_Qi post (kBC D ad cA cB) (kAC ad sz)) 0 0 (kAC ad sz) := by
  refine Met.ofW (cc := c_D_leadersOf) (maxL := 4) (ret := (some .int)) (by decide) rfl ?_
  intro p e s m args below meth c s₁ B hml hv
  obtain ⟨rfl, hsz, hP, hK, hF⟩ := hv
  have hx := B.exec
  have hb := B.bytes
  have hr := B.returns
  have hts := atoms_spec (ws := (Cond.code y_D_leadersOf c_D_leadersOf 4 (some .int) :: wsG)) B.pre
  have htg : ∀ w ∈ wsG, w.before ([.ref (ad 1), .int a1] : List Value).toArray s = true := fun w h => hts w (List.mem_cons_of_mem _ h)
  have hown : s.vm.findClass RX0 = some m.cls := findClass_of_methodNamed B.named
  have hlocks := B.notSynchronized
  subst hsz
  have hD : ∀ σ, va_D (kAC ad s.heap.size) (wC ad cA cB σ) := fun σ => wC_D hap cA cB σ _
  have hS : va_S (kAC ad s.heap.size) s.heap s.heap [] := va_S.rf
  have hE := hF.1
  have hl := lv_entry ([.ref (ad 1), .int a1]) (n := 4) (Nat.le_of_ble_eq_true rfl)
  rw [lg_entry_eq]
  generalize (lg_sl ([.ref (ad 1), .int a1]) ++ List.replicate (4 - (lg_sl ([.ref (ad 1), .int a1])).length) Slot.unset).toArray = ls at hl ⊢
  have hl : lv_has ls 4 [(0, .ref (ad 1)), (1, .int a1)] := hl
  unfold Sp_D_leadersOf at h
  obtain ⟨G4, hG4⟩ : ∃ G : Int32 → Int32 → Int32 → S0 → Prop, G = fun (x1 x2 x3 : Int32) (σ : S0) => ∀ (H : Heap) (locs : List Loc) (ls : Array Slot), va_P D vwCl (wC ad cA cB σ) H → va_S (kAC ad s.heap.size) s.heap H locs → lv_has ls 4 [(0, .ref (ad 1)), (1, .int x1), (2, .int x2), (3, .int x3)] → W p l e (headSpec (Cond.code y_D_leadersOf c_D_leadersOf 4 (some .int) :: wsG) ({ frames := 1, cells := 0, slots := 0, locals := 21 } : Room)).room s m ([.ref (ad 1), .int a1] : List Value).toArray below meth c H locs 0 0 (MQ below (va_Qi post (kBC D ad cA cB) (kAC ad s.heap.size)) ([.ref (ad 1), .int a1] : List Value).toArray s 0 0 (kAC ad s.heap.size)) (F0 m 4 ls []) := ⟨_, rfl⟩
  have h := h G4
  have h := h (by
    intro x1 x2 x3 σ h
    rw [hG4]
    intro H locs ls hP hS hl
    refine lv_iload_n hx hb d_D_leadersOf_4 rfl (lv_at hl 3 rfl) ?_
    refine lv_bipush (v := 16) hx hb d_D_leadersOf_5 (by decide) ?_
    refine lv_icmp_ge (tgt := 35) hx hb d_D_leadersOf_7 (by decide) (fun cn => ?_) (fun cn => ?_)
    · have h := h.1 cn
      refine lv_iload_n hx hb d_D_leadersOf_35 rfl (lv_at hl 2 rfl) ?_
      exact W.iret (v := x2) hx hb hr (fun t ht hW => ⟨⟨_, σ, rfl, h, kBC_of ht hP⟩, hS.F ht⟩) hS.2.2 d_D_leadersOf_36 hlocks
    · have h := h.2 cn
      refine lv_iload_n hx hb d_D_leadersOf_10 rfl (lv_at hl 1 rfl) ?_
      refine lv_iload_n hx hb d_D_leadersOf_11 rfl (lv_at hl 3 rfl) ?_
      refine kC_i (va_runSN (As := [.int x1, .int x3]) (rest := []) ⟨hx, hb, hml, hown, htg⟩ (met_M_has l D ad cA cB hap σ H.size x1 x3 _ h) ⟨va_cnB (host := "MatrixSheets") 2 htg (kG (kG_self m_318)) rfl rfl rfl (hE _ me_316) (htg _ m_53) (by decide +kernel) ⟨Nat.le_of_ble_eq_true rfl, Nat.le_of_ble_eq_true rfl⟩, htg _ m_317, trivial⟩ (kC_pre hK hF hP hS _) rfl rfl hl.1 rfl (lv_room (Nat.le_of_ble_eq_true rfl)) d_D_leadersOf_12 ⟨Nat.le_of_ble_eq_true rfl, Nat.le_of_ble_eq_true rfl⟩) hS (fun r2 σ1 H locs h hP hS => ?_)
      refine lv_if_eq (tgt := 29) hx hb d_D_leadersOf_15 (by decide) (fun cn => ?_) (fun cn => ?_)
      · have h := h.1 cn
        refine lv_iinc (v := (x3 + 1)) (lv' := [(3, .int (x3 + 1)), (0, .ref (ad 1)), (1, .int x1), (2, .int x2)]) hx hb d_D_leadersOf_29 hl (k := 3) rfl rfl (by decide) rfl (fun ls hl => ?_)
        refine lv_goto (tgt := 4) hx hb d_D_leadersOf_32 (by decide) ?_
        rw [hG4] at h
        exact h _ _ _ hP hS (lv_sub hl [1, 2, 3, 0] rfl)
      · have h := h.2 cn
        refine lv_iload_n hx hb d_D_leadersOf_18 rfl (lv_at hl 2 rfl) ?_
        refine lv_iconst (v := 1) hx hb d_D_leadersOf_19 (by decide) ?_
        refine lv_aload_n hx hb d_D_leadersOf_20 rfl (lv_at hl 0 rfl) ?_
        refine va_get (D := D) (ci := 0) (v := .ref (ad 4)) (C := RX0) (T := TX0) (N := 9) hx hb htg inG_X0 hown hK hP 1 rfl rfl 0 (by decide) (htg _ m_81) (fun _ h9 => h9) rfl d_D_leadersOf_21 ?_
        refine lv_iload_n hx hb d_D_leadersOf_24 rfl (lv_at hl 3 rfl) ?_
        have hi := h.1
        have h := h.2
        refine va_iald hx hb hK hP 4 0 rfl rfl hi d_D_leadersOf_25 ?_
        refine lv_ishl hx hb d_D_leadersOf_26 ?_
        refine lv_ior hx hb d_D_leadersOf_27 ?_
        refine lv_topi (fun v3 ev3 => ?_)
        have h := h v3 ev3
        refine lv_istore_n (lv' := [(2, .int v3), (0, .ref (ad 1)), (1, .int x1), (3, .int x3)]) hx hb d_D_leadersOf_28 rfl hl (by decide) rfl (fun ls hl => ?_)
        refine lv_iinc (v := (x3 + 1)) (lv' := [(3, .int (x3 + 1)), (2, .int v3), (0, .ref (ad 1)), (1, .int x1)]) hx hb d_D_leadersOf_29 hl (k := 3) rfl rfl (by decide) rfl (fun ls hl => ?_)
        refine lv_goto (tgt := 4) hx hb d_D_leadersOf_32 (by decide) ?_
        rw [hG4] at h
        exact h _ _ _ hP hS (lv_sub hl [2, 3, 1, 0] rfl))
  obtain ⟨H, eH⟩ : ∃ z, z = s.heap := ⟨_, rfl⟩
  have hP : va_P D vwCl (wC ad cA cB σ) H := by rw [eH]; exact hP
  have hS : va_S (kAC ad s.heap.size) s.heap H [] := by rw [eH]; exact hS
  show W p l e (headSpec (Cond.code y_D_leadersOf c_D_leadersOf 4 (some .int) :: wsG) ({ frames := 1, cells := 0, slots := 0, locals := 21 } : Room)).room s m ([.ref (ad 1), .int a1] : List Value).toArray below meth c s.heap [] 0 0 (MQ below (va_Qi post (kBC D ad cA cB) (kAC ad s.heap.size)) ([.ref (ad 1), .int a1] : List Value).toArray s 0 0 (kAC ad s.heap.size)) (F0 m 0 ls [])
  suffices k : W p l e (headSpec (Cond.code y_D_leadersOf c_D_leadersOf 4 (some .int) :: wsG) ({ frames := 1, cells := 0, slots := 0, locals := 21 } : Room)).room s m ([.ref (ad 1), .int a1] : List Value).toArray below meth c H [] 0 0 (MQ below (va_Qi post (kBC D ad cA cB) (kAC ad s.heap.size)) ([.ref (ad 1), .int a1] : List Value).toArray s 0 0 (kAC ad s.heap.size)) (F0 m 0 ls []) by rw [eH] at k; exact k
  refine lv_iconst (v := 0) hx hb d_D_leadersOf_0 (by decide) ?_
  refine lv_istore_n (lv' := [(2, .int 0), (0, .ref (ad 1)), (1, .int a1)]) hx hb d_D_leadersOf_1 rfl hl (by decide) rfl (fun ls hl => ?_)
  refine lv_iconst (v := 0) hx hb d_D_leadersOf_2 (by decide) ?_
  refine lv_istore_n (lv' := [(3, .int 0), (2, .int 0), (0, .ref (ad 1)), (1, .int a1)]) hx hb d_D_leadersOf_3 rfl hl (by decide) rfl (fun ls hl => ?_)
  rw [hG4] at h
  exact h _ _ _ hP hS (lv_sub hl [2, 3, 1, 0] rfl)
set_option maxHeartbeats 4000000 in
set_option maxRecDepth 100000 in
theorem met_M_goOn_9 (l : Launch) (D : va_G) (ad : Nat → Nat) (cA cB : ClassId) (hap : kapC ad) (σ : S0) (sz : Nat) (a1 : Int32) (post : S0 → Prop) (h : Sp_M_goOn_9 a1 σ post) : Met l y_M_goOn (Cond.code y_M_goOn c_M_goOn 4 none :: wsG) ({ frames := 1, cells := 0, slots := 0, locals := 21 } : Room) (kPcC D ad cA cB σ sz [.ref (ad 9), .int a1]) (va_Qv post (kBC D ad cA cB) (kAC ad sz)) 0 0 (kAC ad sz) := by
  refine Met.ofW (cc := c_M_goOn) (maxL := 4) (ret := none) (by decide) rfl ?_
  intro p e s m args below meth c s₁ B hml hv
  obtain ⟨rfl, hsz, hP, hK, hF⟩ := hv
  have hx := B.exec
  have hb := B.bytes
  have hr := B.returns
  have hts := atoms_spec (ws := (Cond.code y_M_goOn c_M_goOn 4 none :: wsG)) B.pre
  have htg : ∀ w ∈ wsG, w.before ([.ref (ad 9), .int a1] : List Value).toArray s = true := fun w h => hts w (List.mem_cons_of_mem _ h)
  have hown : s.vm.findClass RX3 = some m.cls := findClass_of_methodNamed B.named
  have hlocks := B.notSynchronized
  subst hsz
  have hD : ∀ σ, va_D (kAC ad s.heap.size) (wC ad cA cB σ) := fun σ => wC_D hap cA cB σ _
  have hS : va_S (kAC ad s.heap.size) s.heap s.heap [] := va_S.rf
  have hE := hF.1
  have hl := lv_entry ([.ref (ad 9), .int a1]) (n := 4) (Nat.le_of_ble_eq_true rfl)
  rw [lg_entry_eq]
  generalize (lg_sl ([.ref (ad 9), .int a1]) ++ List.replicate (4 - (lg_sl ([.ref (ad 9), .int a1])).length) Slot.unset).toArray = ls at hl ⊢
  have hl : lv_has ls 4 [(0, .ref (ad 9)), (1, .int a1)] := hl
  unfold Sp_M_goOn_9 at h
  obtain ⟨G2, hG2⟩ : ∃ G : Int32 → Int32 → S0 → Prop, G = fun (x1 x2 : Int32) (σ : S0) => ∀ (H : Heap) (locs : List Loc) (ls : Array Slot), va_P D vwCl (wC ad cA cB σ) H → va_S (kAC ad s.heap.size) s.heap H locs → lv_has ls 4 [(0, .ref (ad 9)), (1, .int x1), (2, .int x2)] → W p l e (headSpec (Cond.code y_M_goOn c_M_goOn 4 none :: wsG) ({ frames := 1, cells := 0, slots := 0, locals := 21 } : Room)).room s m ([.ref (ad 9), .int a1] : List Value).toArray below meth c H locs 0 0 (MQ below (va_Qv post (kBC D ad cA cB) (kAC ad s.heap.size)) ([.ref (ad 9), .int a1] : List Value).toArray s 0 0 (kAC ad s.heap.size)) (F0 m 2 ls []) := ⟨_, rfl⟩
  obtain ⟨G10, hG10⟩ : ∃ G : Int32 → Int32 → Int32 → S0 → Prop, G = fun (x1 x2 x3 : Int32) (σ : S0) => ∀ (H : Heap) (locs : List Loc) (ls : Array Slot), va_P D vwCl (wC ad cA cB σ) H → va_S (kAC ad s.heap.size) s.heap H locs → lv_has ls 4 [(0, .ref (ad 9)), (1, .int x1), (2, .int x2), (3, .int x3)] → W p l e (headSpec (Cond.code y_M_goOn c_M_goOn 4 none :: wsG) ({ frames := 1, cells := 0, slots := 0, locals := 21 } : Room)).room s m ([.ref (ad 9), .int a1] : List Value).toArray below meth c H locs 0 0 (MQ below (va_Qv post (kBC D ad cA cB) (kAC ad s.heap.size)) ([.ref (ad 9), .int a1] : List Value).toArray s 0 0 (kAC ad s.heap.size)) (F0 m 10 ls []) := ⟨_, rfl⟩
  have h := h G2 G10
  have h := h (by
    intro x1 x2 σ h
    rw [hG2]
    intro H locs ls hP hS hl
    refine lv_iload_n hx hb d_M_goOn_2 rfl (lv_at hl 2 rfl) ?_
    refine lv_bipush (v := 16) hx hb d_M_goOn_3 (by decide) ?_
    refine lv_icmp_ge (tgt := 55) hx hb d_M_goOn_5 (by decide) (fun cn => ?_) (fun cn => ?_)
    · have h := h.1 cn
      exact W.vret hx hb hr (fun t ht hW => ⟨⟨σ, rfl, h, kBC_of ht hP⟩, hS.F ht⟩) hS.2.2 d_M_goOn_55 hlocks
    · have h := h.2 cn
      refine lv_iconst (v := 0) hx hb d_M_goOn_8 (by decide) ?_
      refine lv_istore_n (lv' := [(3, .int 0), (0, .ref (ad 9)), (1, .int x1), (2, .int x2)]) hx hb d_M_goOn_9 rfl hl (by decide) rfl (fun ls hl => ?_)
      rw [hG10] at h
      exact h _ _ _ hP hS (lv_sub hl [1, 2, 3, 0] rfl))
  have h := h (by
    intro x1 x2 x3 σ h
    rw [hG10]
    intro H locs ls hP hS hl
    refine lv_iload_n hx hb d_M_goOn_10 rfl (lv_at hl 3 rfl) ?_
    refine lv_bipush (v := 16) hx hb d_M_goOn_11 (by decide) ?_
    refine lv_icmp_ge (tgt := 49) hx hb d_M_goOn_13 (by decide) (fun cn => ?_) (fun cn => ?_)
    · have h := h.1 cn
      refine lv_iinc (v := (x2 + 1)) (lv' := [(2, .int (x2 + 1)), (0, .ref (ad 9)), (1, .int x1), (3, .int x3)]) hx hb d_M_goOn_49 hl (k := 2) rfl rfl (by decide) rfl (fun ls hl => ?_)
      refine lv_goto (tgt := 2) hx hb d_M_goOn_52 (by decide) ?_
      rw [hG2] at h
      exact h _ _ _ hP hS (lv_sub hl [1, 2, 0] rfl)
    · have h := h.2 cn
      refine lv_iload_n hx hb d_M_goOn_16 rfl (lv_at hl 1 rfl) ?_
      refine lv_iload_n hx hb d_M_goOn_17 rfl (lv_at hl 2 rfl) ?_
      refine kC_i (va_runS (As := [.int x1, .int x2]) (rest := []) ⟨hx, hb, hml, hown, htg⟩ (met_M_has l D ad cA cB hap σ H.size x1 x2 _ h) (cwS 2 htg (kG (kG_S m_337 m_317 m_53 (kG_self m_318))) rfl rfl rfl (by decide +kernel) ⟨Nat.le_of_ble_eq_true rfl, Nat.le_of_ble_eq_true rfl⟩) (kC_pre hK hF hP hS _) rfl rfl hl.1 rfl (lv_room (Nat.le_of_ble_eq_true rfl)) d_M_goOn_18 ⟨Nat.le_of_ble_eq_true rfl, Nat.le_of_ble_eq_true rfl⟩) hS (fun r2 σ1 H locs h hP hS => ?_)
      refine lv_if_eq (tgt := 43) hx hb d_M_goOn_21 (by decide) (fun cn => ?_) (fun cn => ?_)
      · have h := h.1 cn
        refine lv_iinc (v := (x3 + 1)) (lv' := [(3, .int (x3 + 1)), (0, .ref (ad 9)), (1, .int x1), (2, .int x2)]) hx hb d_M_goOn_43 hl (k := 3) rfl rfl (by decide) rfl (fun ls hl => ?_)
        refine lv_goto (tgt := 10) hx hb d_M_goOn_46 (by decide) ?_
        rw [hG10] at h
        exact h _ _ _ hP hS (lv_sub hl [1, 2, 3, 0] rfl)
      · have h := h.2 cn
        refine lv_aload_n hx hb d_M_goOn_24 rfl (lv_at hl 0 rfl) ?_
        refine lv_iload_n hx hb d_M_goOn_25 rfl (lv_at hl 3 rfl) ?_
        have hi := h.1
        have h := h.2
        refine va_iald hx hb hK hP 9 0 rfl rfl hi d_M_goOn_26 ?_
        refine lv_iload_n hx hb d_M_goOn_27 rfl (lv_at hl 2 rfl) ?_
        refine kC_i (va_runS (As := [.int (σ1 9 x3.toNatClampNeg), .int x2]) (rest := []) ⟨hx, hb, hml, hown, htg⟩ (met_M_has l D ad cA cB hap σ1 H.size (σ1 9 x3.toNatClampNeg) x2 _ h) (cwS 2 htg (kG (kG_S m_337 m_317 m_53 (kG_self m_318))) rfl rfl rfl (by decide +kernel) ⟨Nat.le_of_ble_eq_true rfl, Nat.le_of_ble_eq_true rfl⟩) (kC_pre hK hF hP hS _) rfl rfl hl.1 rfl (lv_room (Nat.le_of_ble_eq_true rfl)) d_M_goOn_28 ⟨Nat.le_of_ble_eq_true rfl, Nat.le_of_ble_eq_true rfl⟩) hS (fun r4 σ3 H locs h hP hS => ?_)
        refine lv_if_eq (tgt := 43) hx hb d_M_goOn_31 (by decide) (fun cn => ?_) (fun cn => ?_)
        · have h := h.1 cn
          refine lv_iinc (v := (x3 + 1)) (lv' := [(3, .int (x3 + 1)), (0, .ref (ad 9)), (1, .int x1), (2, .int x2)]) hx hb d_M_goOn_43 hl (k := 3) rfl rfl (by decide) rfl (fun ls hl => ?_)
          refine lv_goto (tgt := 10) hx hb d_M_goOn_46 (by decide) ?_
          rw [hG10] at h
          exact h _ _ _ hP hS (lv_sub hl [1, 2, 3, 0] rfl)
        · have h := h.2 cn
          refine lv_aload_n hx hb d_M_goOn_34 rfl (lv_at hl 0 rfl) ?_
          refine lv_iload_n hx hb d_M_goOn_35 rfl (lv_at hl 3 rfl) ?_
          refine lv_dup2_11 hx hb d_M_goOn_36 rfl rfl ?_
          have hi := h.1
          have h := h.2
          refine va_iald hx hb hK hP 9 0 rfl rfl hi d_M_goOn_37 ?_
          refine lv_aload_n hx hb d_M_goOn_38 rfl (lv_at hl 0 rfl) ?_
          refine lv_iload_n hx hb d_M_goOn_39 rfl (lv_at hl 2 rfl) ?_
          have hi := h.1
          have h := h.2
          refine va_iald hx hb hK hP 9 0 rfl rfl hi d_M_goOn_40 ?_
          refine lv_ior hx hb d_M_goOn_41 ?_
          have hi := h.1
          have h := h.2
          refine va_iast hx hb hK hP (hD _) hS 9 0 rfl rfl hi d_M_goOn_42 (fun H locs hP _ hS => ?_)
          obtain ⟨σ5, eσ5⟩ : ∃ z : S0, z = st σ3 9 x3.toNatClampNeg ((σ3 9 x3.toNatClampNeg) ||| (σ3 9 x2.toNatClampNeg)) := ⟨_, rfl⟩
          have hP : va_P D vwCl (wC ad cA cB σ5) H := by rw [eσ5]; exact hP
          have h := h σ5 eσ5
          refine lv_iinc (v := (x3 + 1)) (lv' := [(3, .int (x3 + 1)), (0, .ref (ad 9)), (1, .int x1), (2, .int x2)]) hx hb d_M_goOn_43 hl (k := 3) rfl rfl (by decide) rfl (fun ls hl => ?_)
          refine lv_goto (tgt := 10) hx hb d_M_goOn_46 (by decide) ?_
          rw [hG10] at h
          exact h _ _ _ hP hS (lv_sub hl [1, 2, 3, 0] rfl))
  obtain ⟨H, eH⟩ : ∃ z, z = s.heap := ⟨_, rfl⟩
  have hP : va_P D vwCl (wC ad cA cB σ) H := by rw [eH]; exact hP
  have hS : va_S (kAC ad s.heap.size) s.heap H [] := by rw [eH]; exact hS
  show W p l e (headSpec (Cond.code y_M_goOn c_M_goOn 4 none :: wsG) ({ frames := 1, cells := 0, slots := 0, locals := 21 } : Room)).room s m ([.ref (ad 9), .int a1] : List Value).toArray below meth c s.heap [] 0 0 (MQ below (va_Qv post (kBC D ad cA cB) (kAC ad s.heap.size)) ([.ref (ad 9), .int a1] : List Value).toArray s 0 0 (kAC ad s.heap.size)) (F0 m 0 ls [])
  suffices k : W p l e (headSpec (Cond.code y_M_goOn c_M_goOn 4 none :: wsG) ({ frames := 1, cells := 0, slots := 0, locals := 21 } : Room)).room s m ([.ref (ad 9), .int a1] : List Value).toArray below meth c H [] 0 0 (MQ below (va_Qv post (kBC D ad cA cB) (kAC ad s.heap.size)) ([.ref (ad 9), .int a1] : List Value).toArray s 0 0 (kAC ad s.heap.size)) (F0 m 0 ls []) by rw [eH] at k; exact k
  refine lv_iconst (v := 0) hx hb d_M_goOn_0 (by decide) ?_
  refine lv_istore_n (lv' := [(2, .int 0), (0, .ref (ad 9)), (1, .int a1)]) hx hb d_M_goOn_1 rfl hl (by decide) rfl (fun ls hl => ?_)
  rw [hG2] at h
  exact h _ _ _ hP hS (lv_sub hl [1, 2, 0] rfl)
set_option maxHeartbeats 4000000 in
set_option maxRecDepth 100000 in
theorem met_D_lowerGroupPhase (l : Launch) (D : va_G) (ad : Nat → Nat) (cA cB : ClassId) (hap : kapC ad) (σ : S0) (sz : Nat) (a1 a2 : Int32) (post : S0 → Prop) (h : Sp_D_lowerGroupPhase a1 a2 σ post) : Met l y_D_lowerGroupPhase (Cond.code y_D_lowerGroupPhase c_D_lowerGroupPhase 3 none :: wsG) ({ frames := 0, cells := 0, slots := 0, locals := 0 } : Room) (kPcC D ad cA cB σ sz [.ref (ad 1), .int a1, .int a2]) (va_Qv post (kBC D ad cA cB) (kAC ad sz)) 0 0 (kAC ad sz) := by
  refine Met.ofW (cc := c_D_lowerGroupPhase) (maxL := 3) (ret := none) (by decide) rfl ?_
  intro p e s m args below meth c s₁ B hml hv
  obtain ⟨rfl, hsz, hP, hK, hF⟩ := hv
  have hx := B.exec
  have hb := B.bytes
  have hr := B.returns
  have hts := atoms_spec (ws := (Cond.code y_D_lowerGroupPhase c_D_lowerGroupPhase 3 none :: wsG)) B.pre
  have htg : ∀ w ∈ wsG, w.before ([.ref (ad 1), .int a1, .int a2] : List Value).toArray s = true := fun w h => hts w (List.mem_cons_of_mem _ h)
  have hown : s.vm.findClass RX0 = some m.cls := findClass_of_methodNamed B.named
  have hlocks := B.notSynchronized
  subst hsz
  have hD : ∀ σ, va_D (kAC ad s.heap.size) (wC ad cA cB σ) := fun σ => wC_D hap cA cB σ _
  have hS : va_S (kAC ad s.heap.size) s.heap s.heap [] := va_S.rf
  have hE := hF.1
  have hl := lv_entry ([.ref (ad 1), .int a1, .int a2]) (n := 3) (Nat.le_of_ble_eq_true rfl)
  rw [lg_entry_eq]
  generalize (lg_sl ([.ref (ad 1), .int a1, .int a2]) ++ List.replicate (3 - (lg_sl ([.ref (ad 1), .int a1, .int a2])).length) Slot.unset).toArray = ls at hl ⊢
  have hl : lv_has ls 3 [(0, .ref (ad 1)), (1, .int a1), (2, .int a2)] := hl
  unfold Sp_D_lowerGroupPhase at h
  obtain ⟨G25, hG25⟩ : ∃ G : Int32 → Int32 → S0 → Prop, G = fun (x1 x2 : Int32) (σ : S0) => ∀ (H : Heap) (locs : List Loc) (ls : Array Slot), va_P D vwCl (wC ad cA cB σ) H → va_S (kAC ad s.heap.size) s.heap H locs → lv_has ls 3 [(0, .ref (ad 1)), (1, .int x1), (2, .int x2)] → W p l e (headSpec (Cond.code y_D_lowerGroupPhase c_D_lowerGroupPhase 3 none :: wsG) ({ frames := 0, cells := 0, slots := 0, locals := 0 } : Room)).room s m ([.ref (ad 1), .int a1, .int a2] : List Value).toArray below meth c H locs 0 0 (MQ below (va_Qv post (kBC D ad cA cB) (kAC ad s.heap.size)) ([.ref (ad 1), .int a1, .int a2] : List Value).toArray s 0 0 (kAC ad s.heap.size)) (F0 m 25 ls []) := ⟨_, rfl⟩
  have h := h G25
  have h := h (by
    intro x1 x2 σ h
    rw [hG25]
    intro H locs ls hP hS hl
    refine lv_aload_n hx hb d_D_lowerGroupPhase_25 rfl (lv_at hl 0 rfl) ?_
    refine va_get (D := D) (ci := 0) (v := .ref (ad 5)) (C := RX0) (T := TX0) (N := 9) hx hb htg inG_X0 hown hK hP 1 rfl rfl 1 (by decide) (htg _ m_83) (fun _ h9 => h9) rfl d_D_lowerGroupPhase_26 ?_
    refine lv_iload_n hx hb d_D_lowerGroupPhase_29 rfl (lv_at hl 1 rfl) ?_
    refine lv_iload_n hx hb d_D_lowerGroupPhase_30 rfl (lv_at hl 2 rfl) ?_
    have hi := h.1
    have h := h.2
    refine va_iast hx hb hK hP (hD _) hS 5 0 rfl rfl hi d_D_lowerGroupPhase_31 (fun H locs hP _ hS => ?_)
    obtain ⟨σ1, eσ1⟩ : ∃ z : S0, z = st σ 5 x1.toNatClampNeg x2 := ⟨_, rfl⟩
    have hP : va_P D vwCl (wC ad cA cB σ1) H := by rw [eσ1]; exact hP
    have h := h σ1 eσ1
    exact W.vret hx hb hr (fun t ht hW => ⟨⟨σ1, rfl, h, kBC_of ht hP⟩, hS.F ht⟩) hS.2.2 d_D_lowerGroupPhase_32 hlocks)
  obtain ⟨H, eH⟩ : ∃ z, z = s.heap := ⟨_, rfl⟩
  have hP : va_P D vwCl (wC ad cA cB σ) H := by rw [eH]; exact hP
  have hS : va_S (kAC ad s.heap.size) s.heap H [] := by rw [eH]; exact hS
  show W p l e (headSpec (Cond.code y_D_lowerGroupPhase c_D_lowerGroupPhase 3 none :: wsG) ({ frames := 0, cells := 0, slots := 0, locals := 0 } : Room)).room s m ([.ref (ad 1), .int a1, .int a2] : List Value).toArray below meth c s.heap [] 0 0 (MQ below (va_Qv post (kBC D ad cA cB) (kAC ad s.heap.size)) ([.ref (ad 1), .int a1, .int a2] : List Value).toArray s 0 0 (kAC ad s.heap.size)) (F0 m 0 ls [])
  suffices k : W p l e (headSpec (Cond.code y_D_lowerGroupPhase c_D_lowerGroupPhase 3 none :: wsG) ({ frames := 0, cells := 0, slots := 0, locals := 0 } : Room)).room s m ([.ref (ad 1), .int a1, .int a2] : List Value).toArray below meth c H [] 0 0 (MQ below (va_Qv post (kBC D ad cA cB) (kAC ad s.heap.size)) ([.ref (ad 1), .int a1, .int a2] : List Value).toArray s 0 0 (kAC ad s.heap.size)) (F0 m 0 ls []) by rw [eH] at k; exact k
  refine lv_iload_n hx hb d_D_lowerGroupPhase_0 rfl (lv_at hl 2 rfl) ?_
  refine lv_iconst (v := (-1)) hx hb d_D_lowerGroupPhase_1 (by decide) ?_
  refine lv_icmp_eq (tgt := 32) hx hb d_D_lowerGroupPhase_2 (by decide) (fun cn => ?_) (fun cn => ?_)
  · have h := h.1 cn
    exact W.vret hx hb hr (fun t ht hW => ⟨⟨σ, rfl, h, kBC_of ht hP⟩, hS.F ht⟩) hS.2.2 d_D_lowerGroupPhase_32 hlocks
  · have h := h.2 cn
    refine lv_aload_n hx hb d_D_lowerGroupPhase_5 rfl (lv_at hl 0 rfl) ?_
    refine va_get (D := D) (ci := 0) (v := .ref (ad 5)) (C := RX0) (T := TX0) (N := 9) hx hb htg inG_X0 hown hK hP 1 rfl rfl 1 (by decide) (htg _ m_83) (fun _ h9 => h9) rfl d_D_lowerGroupPhase_6 ?_
    refine lv_iload_n hx hb d_D_lowerGroupPhase_9 rfl (lv_at hl 1 rfl) ?_
    have hi := h.1
    have h := h.2
    refine va_iald hx hb hK hP 5 0 rfl rfl hi d_D_lowerGroupPhase_10 ?_
    refine lv_iconst (v := (-1)) hx hb d_D_lowerGroupPhase_11 (by decide) ?_
    refine lv_icmp_eq (tgt := 25) hx hb d_D_lowerGroupPhase_12 (by decide) (fun cn => ?_) (fun cn => ?_)
    · have h := h.1 cn
      rw [hG25] at h
      exact h _ _ _ hP hS (lv_sub hl [0, 1, 2] rfl)
    · have h := h.2 cn
      refine lv_iload_n hx hb d_D_lowerGroupPhase_15 rfl (lv_at hl 2 rfl) ?_
      refine lv_aload_n hx hb d_D_lowerGroupPhase_16 rfl (lv_at hl 0 rfl) ?_
      refine va_get (D := D) (ci := 0) (v := .ref (ad 5)) (C := RX0) (T := TX0) (N := 9) hx hb htg inG_X0 hown hK hP 1 rfl rfl 1 (by decide) (htg _ m_83) (fun _ h9 => h9) rfl d_D_lowerGroupPhase_17 ?_
      refine lv_iload_n hx hb d_D_lowerGroupPhase_20 rfl (lv_at hl 1 rfl) ?_
      have hi := h.1
      have h := h.2
      refine va_iald hx hb hK hP 5 0 rfl rfl hi d_D_lowerGroupPhase_21 ?_
      refine lv_icmp_ge (tgt := 32) hx hb d_D_lowerGroupPhase_22 (by decide) (fun cn => ?_) (fun cn => ?_)
      · have h := h.1 cn
        exact W.vret hx hb hr (fun t ht hW => ⟨⟨σ, rfl, h, kBC_of ht hP⟩, hS.F ht⟩) hS.2.2 d_D_lowerGroupPhase_32 hlocks
      · have h := h.2 cn
        rw [hG25] at h
        exact h _ _ _ hP hS (lv_sub hl [0, 1, 2] rfl)
set_option maxHeartbeats 4000000 in
set_option maxRecDepth 100000 in
theorem met_D_settle (l : Launch) (D : va_G) (ad : Nat → Nat) (cA cB : ClassId) (hap : kapC ad) (σ : S0) (sz : Nat) (post : S0 → Prop) (h : Sp_D_settle  σ post) : Met l y_D_settle (Cond.code y_D_settle c_D_settle 2 none :: wsG) ({ frames := 2, cells := 0, slots := 0, locals := 60 } : Room) (kPcC D ad cA cB σ sz [.ref (ad 1)]) (va_Qv post (kBC D ad cA cB) (kAC ad sz)) 0 0 (kAC ad sz) := by
  refine Met.ofW (cc := c_D_settle) (maxL := 2) (ret := none) (by decide) rfl ?_
  intro p e s m args below meth c s₁ B hml hv
  obtain ⟨rfl, hsz, hP, hK, hF⟩ := hv
  have hx := B.exec
  have hb := B.bytes
  have hr := B.returns
  have hts := atoms_spec (ws := (Cond.code y_D_settle c_D_settle 2 none :: wsG)) B.pre
  have htg : ∀ w ∈ wsG, w.before ([.ref (ad 1)] : List Value).toArray s = true := fun w h => hts w (List.mem_cons_of_mem _ h)
  have hown : s.vm.findClass RX0 = some m.cls := findClass_of_methodNamed B.named
  have hlocks := B.notSynchronized
  subst hsz
  have hD : ∀ σ, va_D (kAC ad s.heap.size) (wC ad cA cB σ) := fun σ => wC_D hap cA cB σ _
  have hS : va_S (kAC ad s.heap.size) s.heap s.heap [] := va_S.rf
  have hE := hF.1
  have hl := lv_entry ([.ref (ad 1)]) (n := 2) (Nat.le_of_ble_eq_true rfl)
  rw [lg_entry_eq]
  generalize (lg_sl ([.ref (ad 1)]) ++ List.replicate (2 - (lg_sl ([.ref (ad 1)])).length) Slot.unset).toArray = ls at hl ⊢
  have hl : lv_has ls 2 [(0, .ref (ad 1))] := hl
  unfold Sp_D_settle at h
  obtain ⟨G2, hG2⟩ : ∃ G : Int32 → S0 → Prop, G = fun (x1 : Int32) (σ : S0) => ∀ (H : Heap) (locs : List Loc) (ls : Array Slot), va_P D vwCl (wC ad cA cB σ) H → va_S (kAC ad s.heap.size) s.heap H locs → lv_has ls 2 [(0, .ref (ad 1)), (1, .int x1)] → W p l e (headSpec (Cond.code y_D_settle c_D_settle 2 none :: wsG) ({ frames := 2, cells := 0, slots := 0, locals := 60 } : Room)).room s m ([.ref (ad 1)] : List Value).toArray below meth c H locs 0 0 (MQ below (va_Qv post (kBC D ad cA cB) (kAC ad s.heap.size)) ([.ref (ad 1)] : List Value).toArray s 0 0 (kAC ad s.heap.size)) (F0 m 2 ls []) := ⟨_, rfl⟩
  obtain ⟨G30, hG30⟩ : ∃ G : Int32 → S0 → Prop, G = fun (x1 : Int32) (σ : S0) => ∀ (H : Heap) (locs : List Loc) (ls : Array Slot), va_P D vwCl (wC ad cA cB σ) H → va_S (kAC ad s.heap.size) s.heap H locs → lv_has ls 2 [(0, .ref (ad 1)), (1, .int x1)] → W p l e (headSpec (Cond.code y_D_settle c_D_settle 2 none :: wsG) ({ frames := 2, cells := 0, slots := 0, locals := 60 } : Room)).room s m ([.ref (ad 1)] : List Value).toArray below meth c H locs 0 0 (MQ below (va_Qv post (kBC D ad cA cB) (kAC ad s.heap.size)) ([.ref (ad 1)] : List Value).toArray s 0 0 (kAC ad s.heap.size)) (F0 m 30 ls []) := ⟨_, rfl⟩
  have h := h G2 G30
  have h := h (by
    intro x1 σ h
    rw [hG2]
    intro H locs ls hP hS hl
    refine lv_iload_n hx hb d_D_settle_2 rfl (lv_at hl 1 rfl) ?_
    refine lv_bipush (v := 16) hx hb d_D_settle_3 (by decide) ?_
    refine lv_icmp_ge (tgt := 28) hx hb d_D_settle_5 (by decide) (fun cn => ?_) (fun cn => ?_)
    · have h := h.1 cn
      refine lv_iconst (v := 0) hx hb d_D_settle_28 (by decide) ?_
      refine lv_istore_n (lv' := [(1, .int 0), (0, .ref (ad 1))]) hx hb d_D_settle_29 rfl hl (by decide) rfl (fun ls hl => ?_)
      rw [hG30] at h
      exact h _ _ _ hP hS (lv_sub hl [1, 0] rfl)
    · have h := h.2 cn
      refine lv_aload_n hx hb d_D_settle_8 rfl (lv_at hl 0 rfl) ?_
      refine va_get (D := D) (ci := 0) (v := .ref (ad 6)) (C := RX0) (T := TX0) (N := 9) hx hb htg inG_X0 hown hK hP 1 rfl rfl 2 (by decide) (htg _ m_84) (fun _ h9 => h9) rfl d_D_settle_9 ?_
      refine lv_iload_n hx hb d_D_settle_12 rfl (lv_at hl 1 rfl) ?_
      refine lv_iconst (v := 0) hx hb d_D_settle_13 (by decide) ?_
      have hi := h.1
      have h := h.2
      refine va_iast hx hb hK hP (hD _) hS 6 0 rfl rfl hi d_D_settle_14 (fun H locs hP _ hS => ?_)
      obtain ⟨σ1, eσ1⟩ : ∃ z : S0, z = st σ 6 x1.toNatClampNeg 0 := ⟨_, rfl⟩
      have hP : va_P D vwCl (wC ad cA cB σ1) H := by rw [eσ1]; exact hP
      have h := h σ1 eσ1
      refine lv_aload_n hx hb d_D_settle_15 rfl (lv_at hl 0 rfl) ?_
      refine va_get (D := D) (ci := 0) (v := .ref (ad 5)) (C := RX0) (T := TX0) (N := 9) hx hb htg inG_X0 hown hK hP 1 rfl rfl 1 (by decide) (htg _ m_83) (fun _ h9 => h9) rfl d_D_settle_16 ?_
      refine lv_iload_n hx hb d_D_settle_19 rfl (lv_at hl 1 rfl) ?_
      refine lv_iconst (v := (-1)) hx hb d_D_settle_20 (by decide) ?_
      have hi := h.1
      have h := h.2
      refine va_iast hx hb hK hP (hD _) hS 5 0 rfl rfl hi d_D_settle_21 (fun H locs hP _ hS => ?_)
      obtain ⟨σ2, eσ2⟩ : ∃ z : S0, z = st σ1 5 x1.toNatClampNeg (-1) := ⟨_, rfl⟩
      have hP : va_P D vwCl (wC ad cA cB σ2) H := by rw [eσ2]; exact hP
      have h := h σ2 eσ2
      refine lv_iinc (v := (x1 + 1)) (lv' := [(1, .int (x1 + 1)), (0, .ref (ad 1))]) hx hb d_D_settle_22 hl (k := 1) rfl rfl (by decide) rfl (fun ls hl => ?_)
      refine lv_goto (tgt := 2) hx hb d_D_settle_25 (by decide) ?_
      rw [hG2] at h
      exact h _ _ _ hP hS (lv_sub hl [1, 0] rfl))
  have h := h (by
    intro x1 σ h
    rw [hG30]
    intro H locs ls hP hS hl
    refine lv_iload_n hx hb d_D_settle_30 rfl (lv_at hl 1 rfl) ?_
    refine lv_bipush (v := 16) hx hb d_D_settle_31 (by decide) ?_
    refine lv_icmp_ge (tgt := 82) hx hb d_D_settle_33 (by decide) (fun cn => ?_) (fun cn => ?_)
    · have h := h.1 cn
      refine lv_aload_n hx hb d_D_settle_82 rfl (lv_at hl 0 rfl) ?_
      refine va_get (D := D) (ci := 0) (v := .ref (ad 6)) (C := RX0) (T := TX0) (N := 9) hx hb htg inG_X0 hown hK hP 1 rfl rfl 2 (by decide) (htg _ m_84) (fun _ h9 => h9) rfl d_D_settle_83 ?_
      refine lv_iconst (v := 0) hx hb d_D_settle_86 (by decide) ?_
      refine lv_aload_n hx hb d_D_settle_87 rfl (lv_at hl 0 rfl) ?_
      refine va_get (D := D) (ci := 0) (v := .ref (ad 9)) (C := RX0) (T := TX0) (N := 9) hx hb htg inG_X0 hown hK hP 1 rfl rfl 8 (by decide) (htg _ m_95) (fun _ h9 => h9) rfl d_D_settle_88 ?_
      refine lv_iconst (v := 0) hx hb d_D_settle_91 (by decide) ?_
      refine lv_bipush (v := 16) hx hb d_D_settle_92 (by decide) ?_
      have hi := h.1
      have h := h.2
      refine va_copyi hx hb (hml.trans hl.1.symm) hown (htg _ m_331) (htg _ m_333) (htg _ m_332) (htg _ m_62) hK hP (hD _) hS 6 9 0 0 rfl rfl rfl rfl rfl (by decide) (by decide) hi.1 (by rw [sb_cl0, Nat.zero_add]; exact hi.2.1) (by rw [sb_cl0, Nat.zero_add]; exact hi.2.2) (fun _ _ => rfl) (Nat.le_of_ble_eq_true rfl) (Nat.le_of_ble_eq_true rfl) d_D_settle_94 (fun H locs hP _ hS => ?_)
      obtain ⟨σ3, eσ3⟩ : ∃ z : S0, z = cp σ 6 9 (16 : Int32).toNatClampNeg := ⟨_, rfl⟩
      have hP : va_P D vwCl (wC ad cA cB σ3) H := by rw [eσ3]; exact hP
      have h := h σ3 eσ3
      refine lv_aload_n hx hb d_D_settle_97 rfl (lv_at hl 0 rfl) ?_
      refine va_get (D := D) (ci := 0) (v := .ref (ad 9)) (C := RX0) (T := TX0) (N := 9) hx hb htg inG_X0 hown hK hP 1 rfl rfl 8 (by decide) (htg _ m_95) (fun _ h9 => h9) rfl d_D_settle_98 ?_
      refine lv_aload_n hx hb d_D_settle_101 rfl (lv_at hl 0 rfl) ?_
      refine lv_aload_n hx hb d_D_settle_102 rfl (lv_at hl 0 rfl) ?_
      refine va_get (D := D) (ci := 0) (v := .int (σ3 0 1)) (C := RX0) (T := TX0) (N := 9) hx hb htg inG_X0 hown hK hP 1 rfl rfl 3 (by decide) (htg _ m_87) (fun _ h9 => h9) rfl d_D_settle_103 ?_
      refine kC_i (va_runV (As := [.int (σ3 0 1)]) (rest := [.ref (ad 9)]) ⟨hx, hb, hml, hown, htg⟩ (met_D_leadersOf l D ad cA cB hap σ3 H.size (σ3 0 1) _ h) (cwV 1 htg (kG (kG_V m_323 m_324 m_325 m_54 (kG_self m_326))) rfl rfl rfl (by decide +kernel) ⟨Nat.le_of_ble_eq_true rfl, Nat.le_of_ble_eq_true rfl⟩) (kC_preV hK hF hP hS 1 rfl rfl _) rfl rfl hl.1 rfl (lv_room (Nat.le_of_ble_eq_true rfl)) d_D_settle_106 ⟨Nat.le_of_ble_eq_true rfl, Nat.le_of_ble_eq_true rfl⟩) hS (fun r5 σ4 H locs h hP hS => ?_)
      refine kC_v (va_runSN (As := [.ref (ad 9), .int r5]) (rest := []) ⟨hx, hb, hml, hown, htg⟩ (met_M_goOn_9 l D ad cA cB hap σ4 H.size r5 _ h) ⟨va_cnB (host := "MatrixSheets") 2 htg (kG (kG_self m_336)) rfl rfl rfl (hE _ me_334) (htg _ m_53) (by decide +kernel) ⟨Nat.le_of_ble_eq_true rfl, Nat.le_of_ble_eq_true rfl⟩, htg _ m_335, trivial⟩ (kC_pre hK hF hP hS _) rfl rfl hl.1 rfl (lv_room (Nat.le_of_ble_eq_true rfl)) d_D_settle_109 ⟨Nat.le_of_ble_eq_true rfl, Nat.le_of_ble_eq_true rfl⟩) hS (fun σ6 H locs h hP hS => ?_)
      exact W.vret hx hb hr (fun t ht hW => ⟨⟨σ6, rfl, h, kBC_of ht hP⟩, hS.F ht⟩) hS.2.2 d_D_settle_112 hlocks
    · have h := h.2 cn
      refine lv_aload_n hx hb d_D_settle_36 rfl (lv_at hl 0 rfl) ?_
      refine va_get (D := D) (ci := 0) (v := .ref (ad 6)) (C := RX0) (T := TX0) (N := 9) hx hb htg inG_X0 hown hK hP 1 rfl rfl 2 (by decide) (htg _ m_84) (fun _ h9 => h9) rfl d_D_settle_37 ?_
      refine lv_aload_n hx hb d_D_settle_40 rfl (lv_at hl 0 rfl) ?_
      refine va_get (D := D) (ci := 0) (v := .ref (ad 4)) (C := RX0) (T := TX0) (N := 9) hx hb htg inG_X0 hown hK hP 1 rfl rfl 0 (by decide) (htg _ m_81) (fun _ h9 => h9) rfl d_D_settle_41 ?_
      refine lv_iload_n hx hb d_D_settle_44 rfl (lv_at hl 1 rfl) ?_
      have hi := h.1
      have h := h.2
      refine va_iald hx hb hK hP 4 0 rfl rfl hi d_D_settle_45 ?_
      refine lv_dup2_11 hx hb d_D_settle_46 rfl rfl ?_
      have hi := h.1
      have h := h.2
      refine va_iald hx hb hK hP 6 0 rfl rfl hi d_D_settle_47 ?_
      refine lv_aload_n hx hb d_D_settle_48 rfl (lv_at hl 0 rfl) ?_
      refine lv_aload_n hx hb d_D_settle_49 rfl (lv_at hl 0 rfl) ?_
      refine va_get (D := D) (ci := 0) (v := .ref (ad 7)) (C := RX0) (T := TX0) (N := 9) hx hb htg inG_X0 hown hK hP 1 rfl rfl 6 (by decide) (htg _ m_93) (fun _ h9 => h9) rfl d_D_settle_50 ?_
      refine lv_iload_n hx hb d_D_settle_53 rfl (lv_at hl 1 rfl) ?_
      have hi := h.1
      have h := h.2
      refine va_iald hx hb hK hP 7 0 rfl rfl hi d_D_settle_54 ?_
      refine kC_i (va_runV (As := [.int (σ 7 x1.toNatClampNeg)]) (rest := [.int (σ 6 (σ 4 x1.toNatClampNeg).toNatClampNeg), .int (σ 4 x1.toNatClampNeg), .ref (ad 6)]) ⟨hx, hb, hml, hown, htg⟩ (met_D_leadersOf l D ad cA cB hap σ H.size (σ 7 x1.toNatClampNeg) _ h) (cwV 1 htg (kG (kG_V m_323 m_324 m_325 m_54 (kG_self m_326))) rfl rfl rfl (by decide +kernel) ⟨Nat.le_of_ble_eq_true rfl, Nat.le_of_ble_eq_true rfl⟩) (kC_preV hK hF hP hS 1 rfl rfl _) rfl rfl hl.1 rfl (lv_room (Nat.le_of_ble_eq_true rfl)) d_D_settle_55 ⟨Nat.le_of_ble_eq_true rfl, Nat.le_of_ble_eq_true rfl⟩) hS (fun r8 σ7 H locs h hP hS => ?_)
      refine lv_ior hx hb d_D_settle_58 ?_
      have hi := h.1
      have h := h.2
      refine va_iast hx hb hK hP (hD _) hS 6 0 rfl rfl hi d_D_settle_59 (fun H locs hP _ hS => ?_)
      obtain ⟨σ9, eσ9⟩ : ∃ z : S0, z = st σ7 6 (σ 4 x1.toNatClampNeg).toNatClampNeg ((σ 6 (σ 4 x1.toNatClampNeg).toNatClampNeg) ||| r8) := ⟨_, rfl⟩
      have hP : va_P D vwCl (wC ad cA cB σ9) H := by rw [eσ9]; exact hP
      have h := h σ9 eσ9
      refine lv_aload_n hx hb d_D_settle_60 rfl (lv_at hl 0 rfl) ?_
      refine lv_aload_n hx hb d_D_settle_61 rfl (lv_at hl 0 rfl) ?_
      refine va_get (D := D) (ci := 0) (v := .ref (ad 4)) (C := RX0) (T := TX0) (N := 9) hx hb htg inG_X0 hown hK hP 1 rfl rfl 0 (by decide) (htg _ m_81) (fun _ h9 => h9) rfl d_D_settle_62 ?_
      refine lv_iload_n hx hb d_D_settle_65 rfl (lv_at hl 1 rfl) ?_
      have hi := h.1
      have h := h.2
      refine va_iald hx hb hK hP 4 0 rfl rfl hi d_D_settle_66 ?_
      refine lv_aload_n hx hb d_D_settle_67 rfl (lv_at hl 0 rfl) ?_
      refine va_get (D := D) (ci := 0) (v := .ref (ad 8)) (C := RX0) (T := TX0) (N := 9) hx hb htg inG_X0 hown hK hP 1 rfl rfl 7 (by decide) (htg _ m_94) (fun _ h9 => h9) rfl d_D_settle_68 ?_
      refine lv_iload_n hx hb d_D_settle_71 rfl (lv_at hl 1 rfl) ?_
      have hi := h.1
      have h := h.2
      refine va_iald hx hb hK hP 8 0 rfl rfl hi d_D_settle_72 ?_
      refine kC_v (va_runV (As := [.int (σ9 4 x1.toNatClampNeg), .int (σ9 8 x1.toNatClampNeg)]) (rest := []) ⟨hx, hb, hml, hown, htg⟩ (met_D_lowerGroupPhase l D ad cA cB hap σ9 H.size (σ9 4 x1.toNatClampNeg) (σ9 8 x1.toNatClampNeg) _ h) (cwV 2 htg (kG (kG_V m_327 m_329 m_2 m_54 (kG_self m_330))) rfl rfl rfl (by decide +kernel) ⟨Nat.le_of_ble_eq_true rfl, Nat.le_of_ble_eq_true rfl⟩) (kC_preV hK hF hP hS 1 rfl rfl _) rfl rfl hl.1 rfl (lv_room (Nat.le_of_ble_eq_true rfl)) d_D_settle_73 ⟨Nat.le_of_ble_eq_true rfl, Nat.le_of_ble_eq_true rfl⟩) hS (fun σ10 H locs h hP hS => ?_)
      refine lv_iinc (v := (x1 + 1)) (lv' := [(1, .int (x1 + 1)), (0, .ref (ad 1))]) hx hb d_D_settle_76 hl (k := 1) rfl rfl (by decide) rfl (fun ls hl => ?_)
      refine lv_goto (tgt := 30) hx hb d_D_settle_79 (by decide) ?_
      rw [hG30] at h
      exact h _ _ _ hP hS (lv_sub hl [1, 0] rfl))
  obtain ⟨H, eH⟩ : ∃ z, z = s.heap := ⟨_, rfl⟩
  have hP : va_P D vwCl (wC ad cA cB σ) H := by rw [eH]; exact hP
  have hS : va_S (kAC ad s.heap.size) s.heap H [] := by rw [eH]; exact hS
  show W p l e (headSpec (Cond.code y_D_settle c_D_settle 2 none :: wsG) ({ frames := 2, cells := 0, slots := 0, locals := 60 } : Room)).room s m ([.ref (ad 1)] : List Value).toArray below meth c s.heap [] 0 0 (MQ below (va_Qv post (kBC D ad cA cB) (kAC ad s.heap.size)) ([.ref (ad 1)] : List Value).toArray s 0 0 (kAC ad s.heap.size)) (F0 m 0 ls [])
  suffices k : W p l e (headSpec (Cond.code y_D_settle c_D_settle 2 none :: wsG) ({ frames := 2, cells := 0, slots := 0, locals := 60 } : Room)).room s m ([.ref (ad 1)] : List Value).toArray below meth c H [] 0 0 (MQ below (va_Qv post (kBC D ad cA cB) (kAC ad s.heap.size)) ([.ref (ad 1)] : List Value).toArray s 0 0 (kAC ad s.heap.size)) (F0 m 0 ls []) by rw [eH] at k; exact k
  refine lv_iconst (v := 0) hx hb d_D_settle_0 (by decide) ?_
  refine lv_istore_n (lv' := [(1, .int 0), (0, .ref (ad 1))]) hx hb d_D_settle_1 rfl hl (by decide) rfl (fun ls hl => ?_)
  rw [hG2] at h
  exact h _ _ _ hP hS (lv_sub hl [1, 0] rfl)
set_option maxHeartbeats 4000000 in
set_option maxRecDepth 100000 in
theorem met_D_tellAbove (l : Launch) (D : va_G) (ad : Nat → Nat) (cA cB : ClassId) (hap : kapC ad) (σ : S0) (sz : Nat) (a1 a2 : Int32) (post : Int32 → S0 → Prop) (h : Sp_D_tellAbove a1 a2 σ post) : Met l y_D_tellAbove (Cond.code y_D_tellAbove c_D_tellAbove 3 (some .int) :: wsG) ({ frames := 3, cells := 0, slots := 0, locals := 81 } : Room) (kPcC D ad cA cB σ sz [.ref (ad 1), .int a1, .int a2]) (va_Qi post (kBC D ad cA cB) (kAC ad sz)) 0 0 (kAC ad sz) := by
  refine Met.ofW (cc := c_D_tellAbove) (maxL := 3) (ret := (some .int)) (by decide) rfl ?_
  intro p e s m args below meth c s₁ B hml hv
  obtain ⟨rfl, hsz, hP, hK, hF⟩ := hv
  have hx := B.exec
  have hb := B.bytes
  have hr := B.returns
  have hts := atoms_spec (ws := (Cond.code y_D_tellAbove c_D_tellAbove 3 (some .int) :: wsG)) B.pre
  have htg : ∀ w ∈ wsG, w.before ([.ref (ad 1), .int a1, .int a2] : List Value).toArray s = true := fun w h => hts w (List.mem_cons_of_mem _ h)
  have hown : s.vm.findClass RX0 = some m.cls := findClass_of_methodNamed B.named
  have hlocks := B.notSynchronized
  subst hsz
  have hD : ∀ σ, va_D (kAC ad s.heap.size) (wC ad cA cB σ) := fun σ => wC_D hap cA cB σ _
  have hS : va_S (kAC ad s.heap.size) s.heap s.heap [] := va_S.rf
  have hE := hF.1
  have hl := lv_entry ([.ref (ad 1), .int a1, .int a2]) (n := 3) (Nat.le_of_ble_eq_true rfl)
  rw [lg_entry_eq]
  generalize (lg_sl ([.ref (ad 1), .int a1, .int a2]) ++ List.replicate (3 - (lg_sl ([.ref (ad 1), .int a1, .int a2])).length) Slot.unset).toArray = ls at hl ⊢
  have hl : lv_has ls 3 [(0, .ref (ad 1)), (1, .int a1), (2, .int a2)] := hl
  unfold Sp_D_tellAbove at h
  obtain ⟨H, eH⟩ : ∃ z, z = s.heap := ⟨_, rfl⟩
  have hP : va_P D vwCl (wC ad cA cB σ) H := by rw [eH]; exact hP
  have hS : va_S (kAC ad s.heap.size) s.heap H [] := by rw [eH]; exact hS
  show W p l e (headSpec (Cond.code y_D_tellAbove c_D_tellAbove 3 (some .int) :: wsG) ({ frames := 3, cells := 0, slots := 0, locals := 81 } : Room)).room s m ([.ref (ad 1), .int a1, .int a2] : List Value).toArray below meth c s.heap [] 0 0 (MQ below (va_Qi post (kBC D ad cA cB) (kAC ad s.heap.size)) ([.ref (ad 1), .int a1, .int a2] : List Value).toArray s 0 0 (kAC ad s.heap.size)) (F0 m 0 ls [])
  suffices k : W p l e (headSpec (Cond.code y_D_tellAbove c_D_tellAbove 3 (some .int) :: wsG) ({ frames := 3, cells := 0, slots := 0, locals := 81 } : Room)).room s m ([.ref (ad 1), .int a1, .int a2] : List Value).toArray below meth c H [] 0 0 (MQ below (va_Qi post (kBC D ad cA cB) (kAC ad s.heap.size)) ([.ref (ad 1), .int a1, .int a2] : List Value).toArray s 0 0 (kAC ad s.heap.size)) (F0 m 0 ls []) by rw [eH] at k; exact k
  refine lv_aload_n hx hb d_D_tellAbove_0 rfl (lv_at hl 0 rfl) ?_
  refine va_get (D := D) (ci := 0) (v := .ref (ad 7)) (C := RX0) (T := TX0) (N := 9) hx hb htg inG_X0 hown hK hP 1 rfl rfl 6 (by decide) (htg _ m_93) (fun _ h9 => h9) rfl d_D_tellAbove_1 ?_
  refine lv_iload_n hx hb d_D_tellAbove_4 rfl (lv_at hl 1 rfl) ?_
  have hi := h.1
  have h := h.2
  refine va_iald hx hb hK hP 7 0 rfl rfl hi d_D_tellAbove_5 ?_
  refine lv_iload_n hx hb d_D_tellAbove_6 rfl (lv_at hl 2 rfl) ?_
  refine kC_i (va_runSN (As := [.int (σ 7 a1.toNatClampNeg), .int a2]) (rest := []) ⟨hx, hb, hml, hown, htg⟩ (met_M_has l D ad cA cB hap σ H.size (σ 7 a1.toNatClampNeg) a2 _ h) ⟨va_cnB (host := "MatrixSheets") 2 htg (kG (kG_self m_318)) rfl rfl rfl (hE _ me_316) (htg _ m_53) (by decide +kernel) ⟨Nat.le_of_ble_eq_true rfl, Nat.le_of_ble_eq_true rfl⟩, htg _ m_317, trivial⟩ (kC_pre hK hF hP hS _) rfl rfl hl.1 rfl (lv_room (Nat.le_of_ble_eq_true rfl)) d_D_tellAbove_7 ⟨Nat.le_of_ble_eq_true rfl, Nat.le_of_ble_eq_true rfl⟩) hS (fun r2 σ1 H locs h hP hS => ?_)
  refine lv_if_eq (tgt := 15) hx hb d_D_tellAbove_10 (by decide) (fun cn => ?_) (fun cn => ?_)
  · have h := h.1 cn
    refine lv_aload_n hx hb d_D_tellAbove_15 rfl (lv_at hl 0 rfl) ?_
    refine va_get (D := D) (ci := 0) (v := .ref (ad 4)) (C := RX0) (T := TX0) (N := 9) hx hb htg inG_X0 hown hK hP 1 rfl rfl 0 (by decide) (htg _ m_81) (fun _ h9 => h9) rfl d_D_tellAbove_16 ?_
    refine lv_iload_n hx hb d_D_tellAbove_19 rfl (lv_at hl 1 rfl) ?_
    have hi := h.1
    have h := h.2
    refine va_iald hx hb hK hP 4 0 rfl rfl hi d_D_tellAbove_20 ?_
    refine lv_aload_n hx hb d_D_tellAbove_21 rfl (lv_at hl 0 rfl) ?_
    refine va_get (D := D) (ci := 0) (v := .ref (ad 4)) (C := RX0) (T := TX0) (N := 9) hx hb htg inG_X0 hown hK hP 1 rfl rfl 0 (by decide) (htg _ m_81) (fun _ h9 => h9) rfl d_D_tellAbove_22 ?_
    refine lv_iload_n hx hb d_D_tellAbove_25 rfl (lv_at hl 2 rfl) ?_
    have hi := h.1
    have h := h.2
    refine va_iald hx hb hK hP 4 0 rfl rfl hi d_D_tellAbove_26 ?_
    refine lv_icmp_eq (tgt := 53) hx hb d_D_tellAbove_27 (by decide) (fun cn => ?_) (fun cn => ?_)
    · have h := h.1 cn
      refine lv_iconst (v := (-1)) hx hb d_D_tellAbove_53 (by decide) ?_
      exact W.iret (v := (-1)) hx hb hr (fun t ht hW => ⟨⟨_, σ1, rfl, h, kBC_of ht hP⟩, hS.F ht⟩) hS.2.2 d_D_tellAbove_54 hlocks
    · have h := h.2 cn
      refine lv_aload_n hx hb d_D_tellAbove_30 rfl (lv_at hl 0 rfl) ?_
      refine va_get (D := D) (ci := 0) (v := .ref (ad 9)) (C := RX0) (T := TX0) (N := 9) hx hb htg inG_X0 hown hK hP 1 rfl rfl 8 (by decide) (htg _ m_95) (fun _ h9 => h9) rfl d_D_tellAbove_31 ?_
      refine lv_aload_n hx hb d_D_tellAbove_34 rfl (lv_at hl 0 rfl) ?_
      refine va_get (D := D) (ci := 0) (v := .ref (ad 4)) (C := RX0) (T := TX0) (N := 9) hx hb htg inG_X0 hown hK hP 1 rfl rfl 0 (by decide) (htg _ m_81) (fun _ h9 => h9) rfl d_D_tellAbove_35 ?_
      refine lv_iload_n hx hb d_D_tellAbove_38 rfl (lv_at hl 2 rfl) ?_
      have hi := h.1
      have h := h.2
      refine va_iald hx hb hK hP 4 0 rfl rfl hi d_D_tellAbove_39 ?_
      have hi := h.1
      have h := h.2
      refine va_iald hx hb hK hP 9 0 rfl rfl hi d_D_tellAbove_40 ?_
      refine lv_aload_n hx hb d_D_tellAbove_41 rfl (lv_at hl 0 rfl) ?_
      refine va_get (D := D) (ci := 0) (v := .ref (ad 4)) (C := RX0) (T := TX0) (N := 9) hx hb htg inG_X0 hown hK hP 1 rfl rfl 0 (by decide) (htg _ m_81) (fun _ h9 => h9) rfl d_D_tellAbove_42 ?_
      refine lv_iload_n hx hb d_D_tellAbove_45 rfl (lv_at hl 1 rfl) ?_
      have hi := h.1
      have h := h.2
      refine va_iald hx hb hK hP 4 0 rfl rfl hi d_D_tellAbove_46 ?_
      refine kC_i (va_runSN (As := [.int (σ1 9 (σ1 4 a2.toNatClampNeg).toNatClampNeg), .int (σ1 4 a1.toNatClampNeg)]) (rest := []) ⟨hx, hb, hml, hown, htg⟩ (met_M_has l D ad cA cB hap σ1 H.size (σ1 9 (σ1 4 a2.toNatClampNeg).toNatClampNeg) (σ1 4 a1.toNatClampNeg) _ h) ⟨va_cnB (host := "MatrixSheets") 2 htg (kG (kG_self m_318)) rfl rfl rfl (hE _ me_316) (htg _ m_53) (by decide +kernel) ⟨Nat.le_of_ble_eq_true rfl, Nat.le_of_ble_eq_true rfl⟩, htg _ m_317, trivial⟩ (kC_pre hK hF hP hS _) rfl rfl hl.1 rfl (lv_room (Nat.le_of_ble_eq_true rfl)) d_D_tellAbove_47 ⟨Nat.le_of_ble_eq_true rfl, Nat.le_of_ble_eq_true rfl⟩) hS (fun r4 σ3 H locs h hP hS => ?_)
      refine lv_if_eq (tgt := 55) hx hb d_D_tellAbove_50 (by decide) (fun cn => ?_) (fun cn => ?_)
      · have h := h.1 cn
        refine lv_aload_n hx hb d_D_tellAbove_55 rfl (lv_at hl 0 rfl) ?_
        refine va_get (D := D) (ci := 0) (v := .ref (ad 7)) (C := RX0) (T := TX0) (N := 9) hx hb htg inG_X0 hown hK hP 1 rfl rfl 6 (by decide) (htg _ m_93) (fun _ h9 => h9) rfl d_D_tellAbove_56 ?_
        refine lv_iload_n hx hb d_D_tellAbove_59 rfl (lv_at hl 1 rfl) ?_
        refine lv_dup2_11 hx hb d_D_tellAbove_60 rfl rfl ?_
        have hi := h.1
        have h := h.2
        refine va_iald hx hb hK hP 7 0 rfl rfl hi d_D_tellAbove_61 ?_
        refine lv_iconst (v := 1) hx hb d_D_tellAbove_62 (by decide) ?_
        refine lv_iload_n hx hb d_D_tellAbove_63 rfl (lv_at hl 2 rfl) ?_
        refine lv_ishl hx hb d_D_tellAbove_64 ?_
        refine lv_ior hx hb d_D_tellAbove_65 ?_
        have hi := h.1
        have h := h.2
        refine va_iast hx hb hK hP (hD _) hS 7 0 rfl rfl hi d_D_tellAbove_66 (fun H locs hP _ hS => ?_)
        obtain ⟨σ5, eσ5⟩ : ∃ z : S0, z = st σ3 7 a1.toNatClampNeg ((σ3 7 a1.toNatClampNeg) ||| (1 <<< (a2 &&& 31))) := ⟨_, rfl⟩
        have hP : va_P D vwCl (wC ad cA cB σ5) H := by rw [eσ5]; exact hP
        have h := h σ5 eσ5
        refine lv_aload_n hx hb d_D_tellAbove_67 rfl (lv_at hl 0 rfl) ?_
        refine lv_dup hx hb d_D_tellAbove_68 rfl ?_
        refine va_get (D := D) (ci := 0) (v := .int (σ5 0 3)) (C := RX0) (T := TX0) (N := 9) hx hb htg inG_X0 hown hK hP 1 rfl rfl 5 (by decide) (htg _ m_91) (fun _ h9 => h9) rfl d_D_tellAbove_69 ?_
        refine lv_iconst (v := 1) hx hb d_D_tellAbove_72 (by decide) ?_
        refine lv_iadd hx hb d_D_tellAbove_73 ?_
        refine va_put (D := D) (ci := 0) (v := .int ((σ5 0 3) + 1)) (ty := .int) (C := RX0) (T := TX0) (N := 9) hx hb htg inG_X0 tyX0 tyX0_ok nmX0 hown hK hP (hD _) hS 1 rfl rfl 5 (by decide) (htg _ m_91) (fun _ h9 => h9) rfl (by decide +kernel) rfl rfl (Nat.le_of_ble_eq_true rfl) d_D_tellAbove_74 (fun H locs hP _ hS => ?_)
        obtain ⟨σ6, eσ6⟩ : ∃ z : S0, z = st σ5 0 3 ((σ5 0 3) + 1) := ⟨_, rfl⟩
        have hP : va_P D vwCl (wC ad cA cB σ6) H := by rw [eσ6]; exact hP
        have h := h σ6 eσ6
        refine lv_aload_n hx hb d_D_tellAbove_77 rfl (lv_at hl 0 rfl) ?_
        refine lv_dup hx hb d_D_tellAbove_78 rfl ?_
        refine va_get (D := D) (ci := 0) (v := .int (σ6 0 1)) (C := RX0) (T := TX0) (N := 9) hx hb htg inG_X0 hown hK hP 1 rfl rfl 3 (by decide) (htg _ m_87) (fun _ h9 => h9) rfl d_D_tellAbove_79 ?_
        refine lv_iconst (v := 1) hx hb d_D_tellAbove_82 (by decide) ?_
        refine lv_iload_n hx hb d_D_tellAbove_83 rfl (lv_at hl 1 rfl) ?_
        refine lv_ishl hx hb d_D_tellAbove_84 ?_
        refine lv_iconst (v := 1) hx hb d_D_tellAbove_85 (by decide) ?_
        refine lv_iload_n hx hb d_D_tellAbove_86 rfl (lv_at hl 2 rfl) ?_
        refine lv_ishl hx hb d_D_tellAbove_87 ?_
        refine lv_ior hx hb d_D_tellAbove_88 ?_
        refine lv_ior hx hb d_D_tellAbove_89 ?_
        refine va_put (D := D) (ci := 0) (v := .int ((σ6 0 1) ||| ((1 <<< (a1 &&& 31)) ||| (1 <<< (a2 &&& 31))))) (ty := .int) (C := RX0) (T := TX0) (N := 9) hx hb htg inG_X0 tyX0 tyX0_ok nmX0 hown hK hP (hD _) hS 1 rfl rfl 3 (by decide) (htg _ m_87) (fun _ h9 => h9) rfl (by decide +kernel) rfl rfl (Nat.le_of_ble_eq_true rfl) d_D_tellAbove_90 (fun H locs hP _ hS => ?_)
        obtain ⟨σ7, eσ7⟩ : ∃ z : S0, z = st σ6 0 1 ((σ6 0 1) ||| ((1 <<< (a1 &&& 31)) ||| (1 <<< (a2 &&& 31)))) := ⟨_, rfl⟩
        have hP : va_P D vwCl (wC ad cA cB σ7) H := by rw [eσ7]; exact hP
        have h := h σ7 eσ7
        refine lv_aload_n hx hb d_D_tellAbove_93 rfl (lv_at hl 0 rfl) ?_
        refine kC_v (va_runV (As := []) (rest := []) ⟨hx, hb, hml, hown, htg⟩ (met_D_settle l D ad cA cB hap σ7 H.size _ h) (cwV 0 htg (kG (kG_V m_319 m_321 m_1 m_54 (kG_self m_322))) rfl rfl rfl (by decide +kernel) ⟨Nat.le_of_ble_eq_true rfl, Nat.le_of_ble_eq_true rfl⟩) (kC_preV hK hF hP hS 1 rfl rfl _) rfl rfl hl.1 rfl (lv_room (Nat.le_of_ble_eq_true rfl)) d_D_tellAbove_94 ⟨Nat.le_of_ble_eq_true rfl, Nat.le_of_ble_eq_true rfl⟩) hS (fun σ8 H locs h hP hS => ?_)
        refine lv_iconst (v := 1) hx hb d_D_tellAbove_97 (by decide) ?_
        exact W.iret (v := 1) hx hb hr (fun t ht hW => ⟨⟨_, σ8, rfl, h, kBC_of ht hP⟩, hS.F ht⟩) hS.2.2 d_D_tellAbove_98 hlocks
      · have h := h.2 cn
        refine lv_iconst (v := (-1)) hx hb d_D_tellAbove_53 (by decide) ?_
        exact W.iret (v := (-1)) hx hb hr (fun t ht hW => ⟨⟨_, σ3, rfl, h, kBC_of ht hP⟩, hS.F ht⟩) hS.2.2 d_D_tellAbove_54 hlocks
  · have h := h.2 cn
    refine lv_iconst (v := 0) hx hb d_D_tellAbove_13 (by decide) ?_
    exact W.iret (v := 0) hx hb hr (fun t ht hW => ⟨⟨_, σ1, rfl, h, kBC_of ht hP⟩, hS.F ht⟩) hS.2.2 d_D_tellAbove_14 hlocks
set_option maxHeartbeats 4000000 in
set_option maxRecDepth 100000 in
theorem met_M_changed (l : Launch) (D : va_G) (ad : Nat → Nat) (cA cB : ClassId) (hap : kapC ad) (σ : S0) (sz : Nat) (a1 : Int32) (post : Int32 → S0 → Prop) (h : Sp_M_changed a1 σ post) : Met l y_M_changed (Cond.code y_M_changed c_M_changed 2 (some .int) :: wsG) ({ frames := 0, cells := 0, slots := 0, locals := 0 } : Room) (kPcC D ad cA cB σ sz [.ref (ad 0), .int a1]) (va_Qi post (kBC D ad cA cB) (kAC ad sz)) 0 0 (kAC ad sz) := by
  refine Met.ofW (cc := c_M_changed) (maxL := 2) (ret := (some .int)) (by decide) rfl ?_
  intro p e s m args below meth c s₁ B hml hv
  obtain ⟨rfl, hsz, hP, hK, hF⟩ := hv
  have hx := B.exec
  have hb := B.bytes
  have hr := B.returns
  have hts := atoms_spec (ws := (Cond.code y_M_changed c_M_changed 2 (some .int) :: wsG)) B.pre
  have htg : ∀ w ∈ wsG, w.before ([.ref (ad 0), .int a1] : List Value).toArray s = true := fun w h => hts w (List.mem_cons_of_mem _ h)
  have hown : s.vm.findClass RX3 = some m.cls := findClass_of_methodNamed B.named
  have hlocks := B.notSynchronized
  subst hsz
  have hD : ∀ σ, va_D (kAC ad s.heap.size) (wC ad cA cB σ) := fun σ => wC_D hap cA cB σ _
  have hS : va_S (kAC ad s.heap.size) s.heap s.heap [] := va_S.rf
  have hE := hF.1
  have hl := lv_entry ([.ref (ad 0), .int a1]) (n := 2) (Nat.le_of_ble_eq_true rfl)
  rw [lg_entry_eq]
  generalize (lg_sl ([.ref (ad 0), .int a1]) ++ List.replicate (2 - (lg_sl ([.ref (ad 0), .int a1])).length) Slot.unset).toArray = ls at hl ⊢
  have hl : lv_has ls 2 [(0, .ref (ad 0)), (1, .int a1)] := hl
  unfold Sp_M_changed at h
  obtain ⟨H, eH⟩ : ∃ z, z = s.heap := ⟨_, rfl⟩
  have hP : va_P D vwCl (wC ad cA cB σ) H := by rw [eH]; exact hP
  have hS : va_S (kAC ad s.heap.size) s.heap H [] := by rw [eH]; exact hS
  show W p l e (headSpec (Cond.code y_M_changed c_M_changed 2 (some .int) :: wsG) ({ frames := 0, cells := 0, slots := 0, locals := 0 } : Room)).room s m ([.ref (ad 0), .int a1] : List Value).toArray below meth c s.heap [] 0 0 (MQ below (va_Qi post (kBC D ad cA cB) (kAC ad s.heap.size)) ([.ref (ad 0), .int a1] : List Value).toArray s 0 0 (kAC ad s.heap.size)) (F0 m 0 ls [])
  suffices k : W p l e (headSpec (Cond.code y_M_changed c_M_changed 2 (some .int) :: wsG) ({ frames := 0, cells := 0, slots := 0, locals := 0 } : Room)).room s m ([.ref (ad 0), .int a1] : List Value).toArray below meth c H [] 0 0 (MQ below (va_Qi post (kBC D ad cA cB) (kAC ad s.heap.size)) ([.ref (ad 0), .int a1] : List Value).toArray s 0 0 (kAC ad s.heap.size)) (F0 m 0 ls []) by rw [eH] at k; exact k
  refine lv_iload_n hx hb d_M_changed_0 rfl (lv_at hl 1 rfl) ?_
  refine lv_iconst (v := 1) hx hb d_M_changed_1 (by decide) ?_
  refine lv_icmp_ne (tgt := 10) hx hb d_M_changed_2 (by decide) (fun cn => ?_) (fun cn => ?_)
  · have h := h.1 cn
    refine lv_iload_n hx hb d_M_changed_10 rfl (lv_at hl 1 rfl) ?_
    exact W.iret (v := a1) hx hb hr (fun t ht hW => ⟨⟨_, σ, rfl, h, kBC_of ht hP⟩, hS.F ht⟩) hS.2.2 d_M_changed_11 hlocks
  · have h := h.2 cn
    refine lv_aload_n hx hb d_M_changed_5 rfl (lv_at hl 0 rfl) ?_
    refine lv_iconst (v := 0) hx hb d_M_changed_6 (by decide) ?_
    refine va_put (D := D) (ci := 3) (v := .int 0) (ty := .boolean) (C := RX3) (T := TX3) (N := 4) hx hb htg inG_X3 tyX3 tyX3_ok nmX3 hown hK hP (hD _) hS 0 rfl rfl 3 (by decide) (htg _ m_220) (fun _ h9 => h9) rfl (by decide +kernel) rfl rfl (Nat.le_of_ble_eq_true rfl) d_M_changed_7 (fun H locs hP _ hS => ?_)
    obtain ⟨σ1, eσ1⟩ : ∃ z : S0, z = st σ 0 0 0 := ⟨_, rfl⟩
    have hP : va_P D vwCl (wC ad cA cB σ1) H := by rw [eσ1]; exact hP
    have h := h σ1 eσ1
    refine lv_iload_n hx hb d_M_changed_10 rfl (lv_at hl 1 rfl) ?_
    exact W.iret (v := a1) hx hb hr (fun t ht hW => ⟨⟨_, σ1, rfl, h, kBC_of ht hP⟩, hS.F ht⟩) hS.2.2 d_M_changed_11 hlocks
set_option maxHeartbeats 4000000 in
set_option maxRecDepth 100000 in
theorem met_D_join (l : Launch) (D : va_G) (ad : Nat → Nat) (cA cB : ClassId) (hap : kapC ad) (σ : S0) (sz : Nat) (a1 a2 : Int32) (post : S0 → Prop) (h : Sp_D_join a1 a2 σ post) : Met l y_D_join (Cond.code y_D_join c_D_join 4 none :: wsG) ({ frames := 0, cells := 0, slots := 0, locals := 0 } : Room) (kPcC D ad cA cB σ sz [.ref (ad 1), .int a1, .int a2]) (va_Qv post (kBC D ad cA cB) (kAC ad sz)) 0 0 (kAC ad sz) := by
  refine Met.ofW (cc := c_D_join) (maxL := 4) (ret := none) (by decide) rfl ?_
  intro p e s m args below meth c s₁ B hml hv
  obtain ⟨rfl, hsz, hP, hK, hF⟩ := hv
  have hx := B.exec
  have hb := B.bytes
  have hr := B.returns
  have hts := atoms_spec (ws := (Cond.code y_D_join c_D_join 4 none :: wsG)) B.pre
  have htg : ∀ w ∈ wsG, w.before ([.ref (ad 1), .int a1, .int a2] : List Value).toArray s = true := fun w h => hts w (List.mem_cons_of_mem _ h)
  have hown : s.vm.findClass RX0 = some m.cls := findClass_of_methodNamed B.named
  have hlocks := B.notSynchronized
  subst hsz
  have hD : ∀ σ, va_D (kAC ad s.heap.size) (wC ad cA cB σ) := fun σ => wC_D hap cA cB σ _
  have hS : va_S (kAC ad s.heap.size) s.heap s.heap [] := va_S.rf
  have hE := hF.1
  have hl := lv_entry ([.ref (ad 1), .int a1, .int a2]) (n := 4) (Nat.le_of_ble_eq_true rfl)
  rw [lg_entry_eq]
  generalize (lg_sl ([.ref (ad 1), .int a1, .int a2]) ++ List.replicate (4 - (lg_sl ([.ref (ad 1), .int a1, .int a2])).length) Slot.unset).toArray = ls at hl ⊢
  have hl : lv_has ls 4 [(0, .ref (ad 1)), (1, .int a1), (2, .int a2)] := hl
  unfold Sp_D_join at h
  obtain ⟨G2, hG2⟩ : ∃ G : Int32 → Int32 → Int32 → S0 → Prop, G = fun (x1 x2 x3 : Int32) (σ : S0) => ∀ (H : Heap) (locs : List Loc) (ls : Array Slot), va_P D vwCl (wC ad cA cB σ) H → va_S (kAC ad s.heap.size) s.heap H locs → lv_has ls 4 [(0, .ref (ad 1)), (1, .int x1), (2, .int x2), (3, .int x3)] → W p l e (headSpec (Cond.code y_D_join c_D_join 4 none :: wsG) ({ frames := 0, cells := 0, slots := 0, locals := 0 } : Room)).room s m ([.ref (ad 1), .int a1, .int a2] : List Value).toArray below meth c H locs 0 0 (MQ below (va_Qv post (kBC D ad cA cB) (kAC ad s.heap.size)) ([.ref (ad 1), .int a1, .int a2] : List Value).toArray s 0 0 (kAC ad s.heap.size)) (F0 m 2 ls []) := ⟨_, rfl⟩
  have h := h G2
  have h := h (by
    intro x1 x2 x3 σ h
    rw [hG2]
    intro H locs ls hP hS hl
    refine lv_iload_n hx hb d_D_join_2 rfl (lv_at hl 3 rfl) ?_
    refine lv_bipush (v := 16) hx hb d_D_join_3 (by decide) ?_
    refine lv_icmp_ge (tgt := 31) hx hb d_D_join_5 (by decide) (fun cn => ?_) (fun cn => ?_)
    · have h := h.1 cn
      exact W.vret hx hb hr (fun t ht hW => ⟨⟨σ, rfl, h, kBC_of ht hP⟩, hS.F ht⟩) hS.2.2 d_D_join_31 hlocks
    · have h := h.2 cn
      refine lv_aload_n hx hb d_D_join_8 rfl (lv_at hl 0 rfl) ?_
      refine va_get (D := D) (ci := 0) (v := .ref (ad 4)) (C := RX0) (T := TX0) (N := 9) hx hb htg inG_X0 hown hK hP 1 rfl rfl 0 (by decide) (htg _ m_81) (fun _ h9 => h9) rfl d_D_join_9 ?_
      refine lv_iload_n hx hb d_D_join_12 rfl (lv_at hl 3 rfl) ?_
      have hi := h.1
      have h := h.2
      refine va_iald hx hb hK hP 4 0 rfl rfl hi d_D_join_13 ?_
      refine lv_iload_n hx hb d_D_join_14 rfl (lv_at hl 2 rfl) ?_
      refine lv_icmp_ne (tgt := 25) hx hb d_D_join_15 (by decide) (fun cn => ?_) (fun cn => ?_)
      · have h := h.1 cn
        refine lv_iinc (v := (x3 + 1)) (lv' := [(3, .int (x3 + 1)), (0, .ref (ad 1)), (1, .int x1), (2, .int x2)]) hx hb d_D_join_25 hl (k := 3) rfl rfl (by decide) rfl (fun ls hl => ?_)
        refine lv_goto (tgt := 2) hx hb d_D_join_28 (by decide) ?_
        rw [hG2] at h
        exact h _ _ _ hP hS (lv_sub hl [1, 2, 3, 0] rfl)
      · have h := h.2 cn
        refine lv_aload_n hx hb d_D_join_18 rfl (lv_at hl 0 rfl) ?_
        refine va_get (D := D) (ci := 0) (v := .ref (ad 4)) (C := RX0) (T := TX0) (N := 9) hx hb htg inG_X0 hown hK hP 1 rfl rfl 0 (by decide) (htg _ m_81) (fun _ h9 => h9) rfl d_D_join_19 ?_
        refine lv_iload_n hx hb d_D_join_22 rfl (lv_at hl 3 rfl) ?_
        refine lv_iload_n hx hb d_D_join_23 rfl (lv_at hl 1 rfl) ?_
        have hi := h.1
        have h := h.2
        refine va_iast hx hb hK hP (hD _) hS 4 0 rfl rfl hi d_D_join_24 (fun H locs hP _ hS => ?_)
        obtain ⟨σ1, eσ1⟩ : ∃ z : S0, z = st σ 4 x3.toNatClampNeg x1 := ⟨_, rfl⟩
        have hP : va_P D vwCl (wC ad cA cB σ1) H := by rw [eσ1]; exact hP
        have h := h σ1 eσ1
        refine lv_iinc (v := (x3 + 1)) (lv' := [(3, .int (x3 + 1)), (0, .ref (ad 1)), (1, .int x1), (2, .int x2)]) hx hb d_D_join_25 hl (k := 3) rfl rfl (by decide) rfl (fun ls hl => ?_)
        refine lv_goto (tgt := 2) hx hb d_D_join_28 (by decide) ?_
        rw [hG2] at h
        exact h _ _ _ hP hS (lv_sub hl [1, 2, 3, 0] rfl))
  obtain ⟨H, eH⟩ : ∃ z, z = s.heap := ⟨_, rfl⟩
  have hP : va_P D vwCl (wC ad cA cB σ) H := by rw [eH]; exact hP
  have hS : va_S (kAC ad s.heap.size) s.heap H [] := by rw [eH]; exact hS
  show W p l e (headSpec (Cond.code y_D_join c_D_join 4 none :: wsG) ({ frames := 0, cells := 0, slots := 0, locals := 0 } : Room)).room s m ([.ref (ad 1), .int a1, .int a2] : List Value).toArray below meth c s.heap [] 0 0 (MQ below (va_Qv post (kBC D ad cA cB) (kAC ad s.heap.size)) ([.ref (ad 1), .int a1, .int a2] : List Value).toArray s 0 0 (kAC ad s.heap.size)) (F0 m 0 ls [])
  suffices k : W p l e (headSpec (Cond.code y_D_join c_D_join 4 none :: wsG) ({ frames := 0, cells := 0, slots := 0, locals := 0 } : Room)).room s m ([.ref (ad 1), .int a1, .int a2] : List Value).toArray below meth c H [] 0 0 (MQ below (va_Qv post (kBC D ad cA cB) (kAC ad s.heap.size)) ([.ref (ad 1), .int a1, .int a2] : List Value).toArray s 0 0 (kAC ad s.heap.size)) (F0 m 0 ls []) by rw [eH] at k; exact k
  refine lv_iconst (v := 0) hx hb d_D_join_0 (by decide) ?_
  refine lv_istore_n (lv' := [(3, .int 0), (0, .ref (ad 1)), (1, .int a1), (2, .int a2)]) hx hb d_D_join_1 rfl hl (by decide) rfl (fun ls hl => ?_)
  rw [hG2] at h
  exact h _ _ _ hP hS (lv_sub hl [1, 2, 3, 0] rfl)
set_option maxHeartbeats 4000000 in
set_option maxRecDepth 100000 in
theorem met_D_tellSame (l : Launch) (D : va_G) (ad : Nat → Nat) (cA cB : ClassId) (hap : kapC ad) (σ : S0) (sz : Nat) (a1 a2 : Int32) (post : Int32 → S0 → Prop) (h : Sp_D_tellSame a1 a2 σ post) : Met l y_D_tellSame (Cond.code y_D_tellSame c_D_tellSame 5 (some .int) :: wsG) ({ frames := 3, cells := 0, slots := 0, locals := 81 } : Room) (kPcC D ad cA cB σ sz [.ref (ad 1), .int a1, .int a2]) (va_Qi post (kBC D ad cA cB) (kAC ad sz)) 0 0 (kAC ad sz) := by
  refine Met.ofW (cc := c_D_tellSame) (maxL := 5) (ret := (some .int)) (by decide) rfl ?_
  intro p e s m args below meth c s₁ B hml hv
  obtain ⟨rfl, hsz, hP, hK, hF⟩ := hv
  have hx := B.exec
  have hb := B.bytes
  have hr := B.returns
  have hts := atoms_spec (ws := (Cond.code y_D_tellSame c_D_tellSame 5 (some .int) :: wsG)) B.pre
  have htg : ∀ w ∈ wsG, w.before ([.ref (ad 1), .int a1, .int a2] : List Value).toArray s = true := fun w h => hts w (List.mem_cons_of_mem _ h)
  have hown : s.vm.findClass RX0 = some m.cls := findClass_of_methodNamed B.named
  have hlocks := B.notSynchronized
  subst hsz
  have hD : ∀ σ, va_D (kAC ad s.heap.size) (wC ad cA cB σ) := fun σ => wC_D hap cA cB σ _
  have hS : va_S (kAC ad s.heap.size) s.heap s.heap [] := va_S.rf
  have hE := hF.1
  have hl := lv_entry ([.ref (ad 1), .int a1, .int a2]) (n := 5) (Nat.le_of_ble_eq_true rfl)
  rw [lg_entry_eq]
  generalize (lg_sl ([.ref (ad 1), .int a1, .int a2]) ++ List.replicate (5 - (lg_sl ([.ref (ad 1), .int a1, .int a2])).length) Slot.unset).toArray = ls at hl ⊢
  have hl : lv_has ls 5 [(0, .ref (ad 1)), (1, .int a1), (2, .int a2)] := hl
  unfold Sp_D_tellSame at h
  obtain ⟨H, eH⟩ : ∃ z, z = s.heap := ⟨_, rfl⟩
  have hP : va_P D vwCl (wC ad cA cB σ) H := by rw [eH]; exact hP
  have hS : va_S (kAC ad s.heap.size) s.heap H [] := by rw [eH]; exact hS
  show W p l e (headSpec (Cond.code y_D_tellSame c_D_tellSame 5 (some .int) :: wsG) ({ frames := 3, cells := 0, slots := 0, locals := 81 } : Room)).room s m ([.ref (ad 1), .int a1, .int a2] : List Value).toArray below meth c s.heap [] 0 0 (MQ below (va_Qi post (kBC D ad cA cB) (kAC ad s.heap.size)) ([.ref (ad 1), .int a1, .int a2] : List Value).toArray s 0 0 (kAC ad s.heap.size)) (F0 m 0 ls [])
  suffices k : W p l e (headSpec (Cond.code y_D_tellSame c_D_tellSame 5 (some .int) :: wsG) ({ frames := 3, cells := 0, slots := 0, locals := 81 } : Room)).room s m ([.ref (ad 1), .int a1, .int a2] : List Value).toArray below meth c H [] 0 0 (MQ below (va_Qi post (kBC D ad cA cB) (kAC ad s.heap.size)) ([.ref (ad 1), .int a1, .int a2] : List Value).toArray s 0 0 (kAC ad s.heap.size)) (F0 m 0 ls []) by rw [eH] at k; exact k
  refine lv_aload_n hx hb d_D_tellSame_0 rfl (lv_at hl 0 rfl) ?_
  refine va_get (D := D) (ci := 0) (v := .ref (ad 4)) (C := RX0) (T := TX0) (N := 9) hx hb htg inG_X0 hown hK hP 1 rfl rfl 0 (by decide) (htg _ m_81) (fun _ h9 => h9) rfl d_D_tellSame_1 ?_
  refine lv_iload_n hx hb d_D_tellSame_4 rfl (lv_at hl 1 rfl) ?_
  have hi := h.1
  have h := h.2
  refine va_iald hx hb hK hP 4 0 rfl rfl hi d_D_tellSame_5 ?_
  refine lv_topi (fun v1 ev1 => ?_)
  have h := h v1 ev1
  refine lv_istore_n (lv' := [(3, .int v1), (0, .ref (ad 1)), (1, .int a1), (2, .int a2)]) hx hb d_D_tellSame_6 rfl hl (by decide) rfl (fun ls hl => ?_)
  refine lv_aload_n hx hb d_D_tellSame_7 rfl (lv_at hl 1 rfl) ?_
  refine va_get (D := D) (ci := 0) (v := .ref (ad 4)) (C := RX0) (T := TX0) (N := 9) hx hb htg inG_X0 hown hK hP 1 rfl rfl 0 (by decide) (htg _ m_81) (fun _ h9 => h9) rfl d_D_tellSame_8 ?_
  refine lv_iload_n hx hb d_D_tellSame_11 rfl (lv_at hl 3 rfl) ?_
  have hi := h.1
  have h := h.2
  refine va_iald hx hb hK hP 4 0 rfl rfl hi d_D_tellSame_12 ?_
  refine lv_topi (fun v2 ev2 => ?_)
  have h := h v2 ev2
  refine lv_istore (lv' := [(4, .int v2), (3, .int v1), (0, .ref (ad 1)), (1, .int a1), (2, .int a2)]) hx hb d_D_tellSame_13 hl (by decide) rfl (fun ls hl => ?_)
  refine lv_iload_n hx hb d_D_tellSame_15 rfl (lv_at hl 1 rfl) ?_
  refine lv_iload hx hb d_D_tellSame_16 (lv_at hl 0 rfl) ?_
  refine lv_icmp_ne (tgt := 23) hx hb d_D_tellSame_18 (by decide) (fun cn => ?_) (fun cn => ?_)
  · have h := h.1 cn
    refine lv_aload_n hx hb d_D_tellSame_23 rfl (lv_at hl 2 rfl) ?_
    refine va_get (D := D) (ci := 0) (v := .ref (ad 9)) (C := RX0) (T := TX0) (N := 9) hx hb htg inG_X0 hown hK hP 1 rfl rfl 8 (by decide) (htg _ m_95) (fun _ h9 => h9) rfl d_D_tellSame_24 ?_
    refine lv_iload_n hx hb d_D_tellSame_27 rfl (lv_at hl 1 rfl) ?_
    have hi := h.1
    have h := h.2
    refine va_iald hx hb hK hP 9 0 rfl rfl hi d_D_tellSame_28 ?_
    refine lv_iload hx hb d_D_tellSame_29 (lv_at hl 0 rfl) ?_
    refine kC_i (va_runSN (As := [.int (σ 9 v1.toNatClampNeg), .int v2]) (rest := []) ⟨hx, hb, hml, hown, htg⟩ (met_M_has l D ad cA cB hap σ H.size (σ 9 v1.toNatClampNeg) v2 _ h) ⟨va_cnB (host := "MatrixSheets") 2 htg (kG (kG_self m_318)) rfl rfl rfl (hE _ me_316) (htg _ m_53) (by decide +kernel) ⟨Nat.le_of_ble_eq_true rfl, Nat.le_of_ble_eq_true rfl⟩, htg _ m_317, trivial⟩ (kC_pre hK hF hP hS _) rfl rfl hl.1 rfl (lv_room (Nat.le_of_ble_eq_true rfl)) d_D_tellSame_31 ⟨Nat.le_of_ble_eq_true rfl, Nat.le_of_ble_eq_true rfl⟩) hS (fun r4 σ3 H locs h hP hS => ?_)
    refine lv_if_ne (tgt := 51) hx hb d_D_tellSame_34 (by decide) (fun cn => ?_) (fun cn => ?_)
    · have h := h.1 cn
      refine lv_iconst (v := (-1)) hx hb d_D_tellSame_51 (by decide) ?_
      exact W.iret (v := (-1)) hx hb hr (fun t ht hW => ⟨⟨_, σ3, rfl, h, kBC_of ht hP⟩, hS.F ht⟩) hS.2.2 d_D_tellSame_52 hlocks
    · have h := h.2 cn
      refine lv_aload_n hx hb d_D_tellSame_37 rfl (lv_at hl 2 rfl) ?_
      refine va_get (D := D) (ci := 0) (v := .ref (ad 9)) (C := RX0) (T := TX0) (N := 9) hx hb htg inG_X0 hown hK hP 1 rfl rfl 8 (by decide) (htg _ m_95) (fun _ h9 => h9) rfl d_D_tellSame_38 ?_
      refine lv_iload hx hb d_D_tellSame_41 (lv_at hl 0 rfl) ?_
      have hi := h.1
      have h := h.2
      refine va_iald hx hb hK hP 9 0 rfl rfl hi d_D_tellSame_43 ?_
      refine lv_iload_n hx hb d_D_tellSame_44 rfl (lv_at hl 1 rfl) ?_
      refine kC_i (va_runSN (As := [.int (σ3 9 v2.toNatClampNeg), .int v1]) (rest := []) ⟨hx, hb, hml, hown, htg⟩ (met_M_has l D ad cA cB hap σ3 H.size (σ3 9 v2.toNatClampNeg) v1 _ h) ⟨va_cnB (host := "MatrixSheets") 2 htg (kG (kG_self m_318)) rfl rfl rfl (hE _ me_316) (htg _ m_53) (by decide +kernel) ⟨Nat.le_of_ble_eq_true rfl, Nat.le_of_ble_eq_true rfl⟩, htg _ m_317, trivial⟩ (kC_pre hK hF hP hS _) rfl rfl hl.1 rfl (lv_room (Nat.le_of_ble_eq_true rfl)) d_D_tellSame_45 ⟨Nat.le_of_ble_eq_true rfl, Nat.le_of_ble_eq_true rfl⟩) hS (fun r6 σ5 H locs h hP hS => ?_)
      refine lv_if_eq (tgt := 53) hx hb d_D_tellSame_48 (by decide) (fun cn => ?_) (fun cn => ?_)
      · have h := h.1 cn
        refine lv_aload_n hx hb d_D_tellSame_53 rfl (lv_at hl 2 rfl) ?_
        refine lv_iload_n hx hb d_D_tellSame_54 rfl (lv_at hl 1 rfl) ?_
        refine lv_iload hx hb d_D_tellSame_55 (lv_at hl 0 rfl) ?_
        refine va_mmin hx hb (hml.trans hl.1.symm) hown (htg _ m_353) (htg _ m_354) (htg _ m_63) (htg _ m_355) (Nat.le_of_ble_eq_true rfl) (Nat.le_of_ble_eq_true rfl) (Nat.zero_le _) (Nat.zero_le _) d_D_tellSame_57 ?_
        refine lv_iload_n hx hb d_D_tellSame_60 rfl (lv_at hl 1 rfl) ?_
        refine lv_iload hx hb d_D_tellSame_61 (lv_at hl 0 rfl) ?_
        refine va_mmax hx hb (hml.trans hl.1.symm) hown (htg _ m_356) (htg _ m_357) (htg _ m_63) (htg _ m_358) (Nat.le_of_ble_eq_true rfl) (Nat.le_of_ble_eq_true rfl) (Nat.zero_le _) (Nat.zero_le _) d_D_tellSame_63 ?_
        refine kC_v (va_runV (As := [.int (jmin v1 v2), .int (jmax v1 v2)]) (rest := []) ⟨hx, hb, hml, hown, htg⟩ (met_D_join l D ad cA cB hap σ5 H.size (jmin v1 v2) (jmax v1 v2) _ h) (cwV 2 htg (kG (kG_V m_359 m_361 m_4 m_54 (kG_self m_362))) rfl rfl rfl (by decide +kernel) ⟨Nat.le_of_ble_eq_true rfl, Nat.le_of_ble_eq_true rfl⟩) (kC_preV hK hF hP hS 1 rfl rfl _) rfl rfl hl.1 rfl (lv_room (Nat.le_of_ble_eq_true rfl)) d_D_tellSame_66 ⟨Nat.le_of_ble_eq_true rfl, Nat.le_of_ble_eq_true rfl⟩) hS (fun σ7 H locs h hP hS => ?_)
        refine lv_aload_n hx hb d_D_tellSame_69 rfl (lv_at hl 2 rfl) ?_
        refine lv_dup hx hb d_D_tellSame_70 rfl ?_
        refine va_get (D := D) (ci := 0) (v := .int (σ7 0 1)) (C := RX0) (T := TX0) (N := 9) hx hb htg inG_X0 hown hK hP 1 rfl rfl 3 (by decide) (htg _ m_87) (fun _ h9 => h9) rfl d_D_tellSame_71 ?_
        refine lv_iconst (v := 1) hx hb d_D_tellSame_74 (by decide) ?_
        refine lv_iload_n hx hb d_D_tellSame_75 rfl (lv_at hl 3 rfl) ?_
        refine lv_ishl hx hb d_D_tellSame_76 ?_
        refine lv_iconst (v := 1) hx hb d_D_tellSame_77 (by decide) ?_
        refine lv_iload_n hx hb d_D_tellSame_78 rfl (lv_at hl 4 rfl) ?_
        refine lv_ishl hx hb d_D_tellSame_79 ?_
        refine lv_ior hx hb d_D_tellSame_80 ?_
        refine lv_ior hx hb d_D_tellSame_81 ?_
        refine va_put (D := D) (ci := 0) (v := .int ((σ7 0 1) ||| ((1 <<< (a1 &&& 31)) ||| (1 <<< (a2 &&& 31))))) (ty := .int) (C := RX0) (T := TX0) (N := 9) hx hb htg inG_X0 tyX0 tyX0_ok nmX0 hown hK hP (hD _) hS 1 rfl rfl 3 (by decide) (htg _ m_87) (fun _ h9 => h9) rfl (by decide +kernel) rfl rfl (Nat.le_of_ble_eq_true rfl) d_D_tellSame_82 (fun H locs hP _ hS => ?_)
        obtain ⟨σ8, eσ8⟩ : ∃ z : S0, z = st σ7 0 1 ((σ7 0 1) ||| ((1 <<< (a1 &&& 31)) ||| (1 <<< (a2 &&& 31)))) := ⟨_, rfl⟩
        have hP : va_P D vwCl (wC ad cA cB σ8) H := by rw [eσ8]; exact hP
        have h := h σ8 eσ8
        refine lv_aload_n hx hb d_D_tellSame_85 rfl (lv_at hl 2 rfl) ?_
        refine kC_v (va_runV (As := []) (rest := []) ⟨hx, hb, hml, hown, htg⟩ (met_D_settle l D ad cA cB hap σ8 H.size _ h) (cwV 0 htg (kG (kG_V m_319 m_321 m_1 m_54 (kG_self m_322))) rfl rfl rfl (by decide +kernel) ⟨Nat.le_of_ble_eq_true rfl, Nat.le_of_ble_eq_true rfl⟩) (kC_preV hK hF hP hS 1 rfl rfl _) rfl rfl hl.1 rfl (lv_room (Nat.le_of_ble_eq_true rfl)) d_D_tellSame_86 ⟨Nat.le_of_ble_eq_true rfl, Nat.le_of_ble_eq_true rfl⟩) hS (fun σ9 H locs h hP hS => ?_)
        refine lv_iconst (v := 1) hx hb d_D_tellSame_89 (by decide) ?_
        exact W.iret (v := 1) hx hb hr (fun t ht hW => ⟨⟨_, σ9, rfl, h, kBC_of ht hP⟩, hS.F ht⟩) hS.2.2 d_D_tellSame_90 hlocks
      · have h := h.2 cn
        refine lv_iconst (v := (-1)) hx hb d_D_tellSame_51 (by decide) ?_
        exact W.iret (v := (-1)) hx hb hr (fun t ht hW => ⟨⟨_, σ5, rfl, h, kBC_of ht hP⟩, hS.F ht⟩) hS.2.2 d_D_tellSame_52 hlocks
  · have h := h.2 cn
    refine lv_iconst (v := 0) hx hb d_D_tellSame_21 (by decide) ?_
    exact W.iret (v := 0) hx hb hr (fun t ht hW => ⟨⟨_, σ, rfl, h, kBC_of ht hP⟩, hS.F ht⟩) hS.2.2 d_D_tellSame_22 hlocks
set_option maxHeartbeats 4000000 in
set_option maxRecDepth 100000 in
theorem met_D_tellPhase (l : Launch) (D : va_G) (ad : Nat → Nat) (cA cB : ClassId) (hap : kapC ad) (σ : S0) (sz : Nat) (a1 a2 : Int32) (post : Int32 → S0 → Prop) (h : Sp_D_tellPhase a1 a2 σ post) : Met l y_D_tellPhase (Cond.code y_D_tellPhase c_D_tellPhase 4 (some .int) :: wsG) ({ frames := 3, cells := 0, slots := 0, locals := 81 } : Room) (kPcC D ad cA cB σ sz [.ref (ad 1), .int a1, .int a2]) (va_Qi post (kBC D ad cA cB) (kAC ad sz)) 0 0 (kAC ad sz) := by
  refine Met.ofW (cc := c_D_tellPhase) (maxL := 4) (ret := (some .int)) (by decide) rfl ?_
  intro p e s m args below meth c s₁ B hml hv
  obtain ⟨rfl, hsz, hP, hK, hF⟩ := hv
  have hx := B.exec
  have hb := B.bytes
  have hr := B.returns
  have hts := atoms_spec (ws := (Cond.code y_D_tellPhase c_D_tellPhase 4 (some .int) :: wsG)) B.pre
  have htg : ∀ w ∈ wsG, w.before ([.ref (ad 1), .int a1, .int a2] : List Value).toArray s = true := fun w h => hts w (List.mem_cons_of_mem _ h)
  have hown : s.vm.findClass RX0 = some m.cls := findClass_of_methodNamed B.named
  have hlocks := B.notSynchronized
  subst hsz
  have hD : ∀ σ, va_D (kAC ad s.heap.size) (wC ad cA cB σ) := fun σ => wC_D hap cA cB σ _
  have hS : va_S (kAC ad s.heap.size) s.heap s.heap [] := va_S.rf
  have hE := hF.1
  have hl := lv_entry ([.ref (ad 1), .int a1, .int a2]) (n := 4) (Nat.le_of_ble_eq_true rfl)
  rw [lg_entry_eq]
  generalize (lg_sl ([.ref (ad 1), .int a1, .int a2]) ++ List.replicate (4 - (lg_sl ([.ref (ad 1), .int a1, .int a2])).length) Slot.unset).toArray = ls at hl ⊢
  have hl : lv_has ls 4 [(0, .ref (ad 1)), (1, .int a1), (2, .int a2)] := hl
  unfold Sp_D_tellPhase at h
  obtain ⟨H, eH⟩ : ∃ z, z = s.heap := ⟨_, rfl⟩
  have hP : va_P D vwCl (wC ad cA cB σ) H := by rw [eH]; exact hP
  have hS : va_S (kAC ad s.heap.size) s.heap H [] := by rw [eH]; exact hS
  show W p l e (headSpec (Cond.code y_D_tellPhase c_D_tellPhase 4 (some .int) :: wsG) ({ frames := 3, cells := 0, slots := 0, locals := 81 } : Room)).room s m ([.ref (ad 1), .int a1, .int a2] : List Value).toArray below meth c s.heap [] 0 0 (MQ below (va_Qi post (kBC D ad cA cB) (kAC ad s.heap.size)) ([.ref (ad 1), .int a1, .int a2] : List Value).toArray s 0 0 (kAC ad s.heap.size)) (F0 m 0 ls [])
  suffices k : W p l e (headSpec (Cond.code y_D_tellPhase c_D_tellPhase 4 (some .int) :: wsG) ({ frames := 3, cells := 0, slots := 0, locals := 81 } : Room)).room s m ([.ref (ad 1), .int a1, .int a2] : List Value).toArray below meth c H [] 0 0 (MQ below (va_Qi post (kBC D ad cA cB) (kAC ad s.heap.size)) ([.ref (ad 1), .int a1, .int a2] : List Value).toArray s 0 0 (kAC ad s.heap.size)) (F0 m 0 ls []) by rw [eH] at k; exact k
  refine lv_aload_n hx hb d_D_tellPhase_0 rfl (lv_at hl 0 rfl) ?_
  refine va_get (D := D) (ci := 0) (v := .ref (ad 8)) (C := RX0) (T := TX0) (N := 9) hx hb htg inG_X0 hown hK hP 1 rfl rfl 7 (by decide) (htg _ m_94) (fun _ h9 => h9) rfl d_D_tellPhase_1 ?_
  refine lv_iload_n hx hb d_D_tellPhase_4 rfl (lv_at hl 1 rfl) ?_
  have hi := h.1
  have h := h.2
  refine va_iald hx hb hK hP 8 0 rfl rfl hi d_D_tellPhase_5 ?_
  refine lv_topi (fun v1 ev1 => ?_)
  have h := h v1 ev1
  refine lv_istore_n (lv' := [(3, .int v1), (0, .ref (ad 1)), (1, .int a1), (2, .int a2)]) hx hb d_D_tellPhase_6 rfl hl (by decide) rfl (fun ls hl => ?_)
  refine lv_aload_n hx hb d_D_tellPhase_7 rfl (lv_at hl 1 rfl) ?_
  refine va_get (D := D) (ci := 0) (v := .ref (ad 8)) (C := RX0) (T := TX0) (N := 9) hx hb htg inG_X0 hown hK hP 1 rfl rfl 7 (by decide) (htg _ m_94) (fun _ h9 => h9) rfl d_D_tellPhase_8 ?_
  refine lv_iload_n hx hb d_D_tellPhase_11 rfl (lv_at hl 2 rfl) ?_
  refine lv_iload_n hx hb d_D_tellPhase_12 rfl (lv_at hl 3 rfl) ?_
  have hi := h.1
  have h := h.2
  refine va_iast hx hb hK hP (hD _) hS 8 0 rfl rfl hi d_D_tellPhase_13 (fun H locs hP _ hS => ?_)
  obtain ⟨σ2, eσ2⟩ : ∃ z : S0, z = st σ 8 a1.toNatClampNeg a2 := ⟨_, rfl⟩
  have hP : va_P D vwCl (wC ad cA cB σ2) H := by rw [eσ2]; exact hP
  have h := h σ2 eσ2
  refine lv_aload_n hx hb d_D_tellPhase_14 rfl (lv_at hl 1 rfl) ?_
  refine lv_dup hx hb d_D_tellPhase_15 rfl ?_
  refine va_get (D := D) (ci := 0) (v := .int (σ2 0 1)) (C := RX0) (T := TX0) (N := 9) hx hb htg inG_X0 hown hK hP 1 rfl rfl 3 (by decide) (htg _ m_87) (fun _ h9 => h9) rfl d_D_tellPhase_16 ?_
  refine lv_iconst (v := 1) hx hb d_D_tellPhase_19 (by decide) ?_
  refine lv_iload_n hx hb d_D_tellPhase_20 rfl (lv_at hl 2 rfl) ?_
  refine lv_ishl hx hb d_D_tellPhase_21 ?_
  refine lv_ior hx hb d_D_tellPhase_22 ?_
  refine va_put (D := D) (ci := 0) (v := .int ((σ2 0 1) ||| (1 <<< (a1 &&& 31)))) (ty := .int) (C := RX0) (T := TX0) (N := 9) hx hb htg inG_X0 tyX0 tyX0_ok nmX0 hown hK hP (hD _) hS 1 rfl rfl 3 (by decide) (htg _ m_87) (fun _ h9 => h9) rfl (by decide +kernel) rfl rfl (Nat.le_of_ble_eq_true rfl) d_D_tellPhase_23 (fun H locs hP _ hS => ?_)
  obtain ⟨σ3, eσ3⟩ : ∃ z : S0, z = st σ2 0 1 ((σ2 0 1) ||| (1 <<< (a1 &&& 31))) := ⟨_, rfl⟩
  have hP : va_P D vwCl (wC ad cA cB σ3) H := by rw [eσ3]; exact hP
  have h := h σ3 eσ3
  refine lv_aload_n hx hb d_D_tellPhase_26 rfl (lv_at hl 1 rfl) ?_
  refine kC_v (va_runV (As := []) (rest := []) ⟨hx, hb, hml, hown, htg⟩ (met_D_settle l D ad cA cB hap σ3 H.size _ h) (cwV 0 htg (kG (kG_V m_319 m_321 m_1 m_54 (kG_self m_322))) rfl rfl rfl (by decide +kernel) ⟨Nat.le_of_ble_eq_true rfl, Nat.le_of_ble_eq_true rfl⟩) (kC_preV hK hF hP hS 1 rfl rfl _) rfl rfl hl.1 rfl (lv_room (Nat.le_of_ble_eq_true rfl)) d_D_tellPhase_27 ⟨Nat.le_of_ble_eq_true rfl, Nat.le_of_ble_eq_true rfl⟩) hS (fun σ4 H locs h hP hS => ?_)
  refine lv_iload_n hx hb d_D_tellPhase_30 rfl (lv_at hl 0 rfl) ?_
  exact W.iret (v := v1) hx hb hr (fun t ht hW => ⟨⟨_, σ4, rfl, h, kBC_of ht hP⟩, hS.F ht⟩) hS.2.2 d_D_tellPhase_31 hlocks
set_option maxHeartbeats 4000000 in
set_option maxRecDepth 100000 in
theorem met_D_tellHidden (l : Launch) (D : va_G) (ad : Nat → Nat) (cA cB : ClassId) (hap : kapC ad) (σ : S0) (sz : Nat) (a1 a2 : Int32) (post : Int32 → S0 → Prop) (h : Sp_D_tellHidden a1 a2 σ post) : Met l y_D_tellHidden (Cond.code y_D_tellHidden c_D_tellHidden 3 (some .boolean) :: wsG) ({ frames := 1, cells := 0, slots := 0, locals := 21 } : Room) (kPcC D ad cA cB σ sz [.ref (ad 1), .int a1, .int a2]) (va_Qi post (kBC D ad cA cB) (kAC ad sz)) 0 0 (kAC ad sz) := by
  refine Met.ofW (cc := c_D_tellHidden) (maxL := 3) (ret := (some .boolean)) (by decide) rfl ?_
  intro p e s m args below meth c s₁ B hml hv
  obtain ⟨rfl, hsz, hP, hK, hF⟩ := hv
  have hx := B.exec
  have hb := B.bytes
  have hr := B.returns
  have hts := atoms_spec (ws := (Cond.code y_D_tellHidden c_D_tellHidden 3 (some .boolean) :: wsG)) B.pre
  have htg : ∀ w ∈ wsG, w.before ([.ref (ad 1), .int a1, .int a2] : List Value).toArray s = true := fun w h => hts w (List.mem_cons_of_mem _ h)
  have hown : s.vm.findClass RX0 = some m.cls := findClass_of_methodNamed B.named
  have hlocks := B.notSynchronized
  subst hsz
  have hD : ∀ σ, va_D (kAC ad s.heap.size) (wC ad cA cB σ) := fun σ => wC_D hap cA cB σ _
  have hS : va_S (kAC ad s.heap.size) s.heap s.heap [] := va_S.rf
  have hE := hF.1
  have hl := lv_entry ([.ref (ad 1), .int a1, .int a2]) (n := 3) (Nat.le_of_ble_eq_true rfl)
  rw [lg_entry_eq]
  generalize (lg_sl ([.ref (ad 1), .int a1, .int a2]) ++ List.replicate (3 - (lg_sl ([.ref (ad 1), .int a1, .int a2])).length) Slot.unset).toArray = ls at hl ⊢
  have hl : lv_has ls 3 [(0, .ref (ad 1)), (1, .int a1), (2, .int a2)] := hl
  unfold Sp_D_tellHidden at h
  obtain ⟨H, eH⟩ : ∃ z, z = s.heap := ⟨_, rfl⟩
  have hP : va_P D vwCl (wC ad cA cB σ) H := by rw [eH]; exact hP
  have hS : va_S (kAC ad s.heap.size) s.heap H [] := by rw [eH]; exact hS
  show W p l e (headSpec (Cond.code y_D_tellHidden c_D_tellHidden 3 (some .boolean) :: wsG) ({ frames := 1, cells := 0, slots := 0, locals := 21 } : Room)).room s m ([.ref (ad 1), .int a1, .int a2] : List Value).toArray below meth c s.heap [] 0 0 (MQ below (va_Qi post (kBC D ad cA cB) (kAC ad s.heap.size)) ([.ref (ad 1), .int a1, .int a2] : List Value).toArray s 0 0 (kAC ad s.heap.size)) (F0 m 0 ls [])
  suffices k : W p l e (headSpec (Cond.code y_D_tellHidden c_D_tellHidden 3 (some .boolean) :: wsG) ({ frames := 1, cells := 0, slots := 0, locals := 21 } : Room)).room s m ([.ref (ad 1), .int a1, .int a2] : List Value).toArray below meth c H [] 0 0 (MQ below (va_Qi post (kBC D ad cA cB) (kAC ad s.heap.size)) ([.ref (ad 1), .int a1, .int a2] : List Value).toArray s 0 0 (kAC ad s.heap.size)) (F0 m 0 ls []) by rw [eH] at k; exact k
  refine lv_aload_n hx hb d_D_tellHidden_0 rfl (lv_at hl 0 rfl) ?_
  refine va_get (D := D) (ci := 0) (v := .int (σ 0 2)) (C := RX0) (T := TX0) (N := 9) hx hb htg inG_X0 hown hK hP 1 rfl rfl 4 (by decide) (htg _ m_90) (fun _ h9 => h9) rfl d_D_tellHidden_1 ?_
  refine lv_iload_n hx hb d_D_tellHidden_4 rfl (lv_at hl 1 rfl) ?_
  refine kC_i (va_runSN (As := [.int (σ 0 2), .int a1]) (rest := []) ⟨hx, hb, hml, hown, htg⟩ (met_M_has l D ad cA cB hap σ H.size (σ 0 2) a1 _ h) ⟨va_cnB (host := "MatrixSheets") 2 htg (kG (kG_self m_318)) rfl rfl rfl (hE _ me_316) (htg _ m_53) (by decide +kernel) ⟨Nat.le_of_ble_eq_true rfl, Nat.le_of_ble_eq_true rfl⟩, htg _ m_317, trivial⟩ (kC_pre hK hF hP hS _) rfl rfl hl.1 rfl (lv_room (Nat.le_of_ble_eq_true rfl)) d_D_tellHidden_5 ⟨Nat.le_of_ble_eq_true rfl, Nat.le_of_ble_eq_true rfl⟩) hS (fun r2 σ1 H locs h hP hS => ?_)
  refine lv_iload_n hx hb d_D_tellHidden_8 rfl (lv_at hl 2 rfl) ?_
  refine lv_icmp_ne (tgt := 14) hx hb d_D_tellHidden_9 (by decide) (fun cn => ?_) (fun cn => ?_)
  · have h := h.1 cn
    refine lv_aload_n hx hb d_D_tellHidden_14 rfl (lv_at hl 0 rfl) ?_
    refine lv_dup hx hb d_D_tellHidden_15 rfl ?_
    refine va_get (D := D) (ci := 0) (v := .int (σ1 0 2)) (C := RX0) (T := TX0) (N := 9) hx hb htg inG_X0 hown hK hP 1 rfl rfl 4 (by decide) (htg _ m_90) (fun _ h9 => h9) rfl d_D_tellHidden_16 ?_
    refine lv_iconst (v := 1) hx hb d_D_tellHidden_19 (by decide) ?_
    refine lv_iload_n hx hb d_D_tellHidden_20 rfl (lv_at hl 1 rfl) ?_
    refine lv_ishl hx hb d_D_tellHidden_21 ?_
    refine lv_ixor hx hb d_D_tellHidden_22 ?_
    refine va_put (D := D) (ci := 0) (v := .int ((σ1 0 2) ^^^ (1 <<< (a1 &&& 31)))) (ty := .int) (C := RX0) (T := TX0) (N := 9) hx hb htg inG_X0 tyX0 tyX0_ok nmX0 hown hK hP (hD _) hS 1 rfl rfl 4 (by decide) (htg _ m_90) (fun _ h9 => h9) rfl (by decide +kernel) rfl rfl (Nat.le_of_ble_eq_true rfl) d_D_tellHidden_23 (fun H locs hP _ hS => ?_)
    obtain ⟨σ3, eσ3⟩ : ∃ z : S0, z = st σ1 0 2 ((σ1 0 2) ^^^ (1 <<< (a1 &&& 31))) := ⟨_, rfl⟩
    have hP : va_P D vwCl (wC ad cA cB σ3) H := by rw [eσ3]; exact hP
    have h := h σ3 eσ3
    refine lv_aload_n hx hb d_D_tellHidden_26 rfl (lv_at hl 0 rfl) ?_
    refine lv_dup hx hb d_D_tellHidden_27 rfl ?_
    refine va_get (D := D) (ci := 0) (v := .int (σ3 0 1)) (C := RX0) (T := TX0) (N := 9) hx hb htg inG_X0 hown hK hP 1 rfl rfl 3 (by decide) (htg _ m_87) (fun _ h9 => h9) rfl d_D_tellHidden_28 ?_
    refine lv_iconst (v := 1) hx hb d_D_tellHidden_31 (by decide) ?_
    refine lv_iload_n hx hb d_D_tellHidden_32 rfl (lv_at hl 1 rfl) ?_
    refine lv_ishl hx hb d_D_tellHidden_33 ?_
    refine lv_ior hx hb d_D_tellHidden_34 ?_
    refine va_put (D := D) (ci := 0) (v := .int ((σ3 0 1) ||| (1 <<< (a1 &&& 31)))) (ty := .int) (C := RX0) (T := TX0) (N := 9) hx hb htg inG_X0 tyX0 tyX0_ok nmX0 hown hK hP (hD _) hS 1 rfl rfl 3 (by decide) (htg _ m_87) (fun _ h9 => h9) rfl (by decide +kernel) rfl rfl (Nat.le_of_ble_eq_true rfl) d_D_tellHidden_35 (fun H locs hP _ hS => ?_)
    obtain ⟨σ4, eσ4⟩ : ∃ z : S0, z = st σ3 0 1 ((σ3 0 1) ||| (1 <<< (a1 &&& 31))) := ⟨_, rfl⟩
    have hP : va_P D vwCl (wC ad cA cB σ4) H := by rw [eσ4]; exact hP
    have h := h σ4 eσ4
    refine lv_iconst (v := 1) hx hb d_D_tellHidden_38 (by decide) ?_
    exact W.zret (v := 1) hx hb hr rfl (fun t ht hW => ⟨⟨_, σ4, rfl, h, kBC_of ht hP⟩, hS.F ht⟩) hS.2.2 d_D_tellHidden_39 hlocks
  · have h := h.2 cn
    refine lv_iconst (v := 0) hx hb d_D_tellHidden_12 (by decide) ?_
    exact W.zret (v := 0) hx hb hr rfl (fun t ht hW => ⟨⟨_, σ1, rfl, h, kBC_of ht hP⟩, hS.F ht⟩) hS.2.2 d_D_tellHidden_13 hlocks
set_option maxHeartbeats 4000000 in
set_option maxRecDepth 100000 in
theorem met_D_isLaterPhase (l : Launch) (D : va_G) (ad : Nat → Nat) (cA cB : ClassId) (hap : kapC ad) (σ : S0) (sz : Nat) (a1 a2 : Int32) (post : Int32 → S0 → Prop) (h : Sp_D_isLaterPhase a1 a2 σ post) : Met l y_D_isLaterPhase (Cond.code y_D_isLaterPhase c_D_isLaterPhase 3 (some .boolean) :: wsG) ({ frames := 0, cells := 0, slots := 0, locals := 0 } : Room) (kPcC D ad cA cB σ sz [.ref (ad 1), .int a1, .int a2]) (va_Qi post (kBC D ad cA cB) (kAC ad sz)) 0 0 (kAC ad sz) := by
  refine Met.ofW (cc := c_D_isLaterPhase) (maxL := 3) (ret := (some .boolean)) (by decide) rfl ?_
  intro p e s m args below meth c s₁ B hml hv
  obtain ⟨rfl, hsz, hP, hK, hF⟩ := hv
  have hx := B.exec
  have hb := B.bytes
  have hr := B.returns
  have hts := atoms_spec (ws := (Cond.code y_D_isLaterPhase c_D_isLaterPhase 3 (some .boolean) :: wsG)) B.pre
  have htg : ∀ w ∈ wsG, w.before ([.ref (ad 1), .int a1, .int a2] : List Value).toArray s = true := fun w h => hts w (List.mem_cons_of_mem _ h)
  have hown : s.vm.findClass RX0 = some m.cls := findClass_of_methodNamed B.named
  have hlocks := B.notSynchronized
  subst hsz
  have hD : ∀ σ, va_D (kAC ad s.heap.size) (wC ad cA cB σ) := fun σ => wC_D hap cA cB σ _
  have hS : va_S (kAC ad s.heap.size) s.heap s.heap [] := va_S.rf
  have hE := hF.1
  have hl := lv_entry ([.ref (ad 1), .int a1, .int a2]) (n := 3) (Nat.le_of_ble_eq_true rfl)
  rw [lg_entry_eq]
  generalize (lg_sl ([.ref (ad 1), .int a1, .int a2]) ++ List.replicate (3 - (lg_sl ([.ref (ad 1), .int a1, .int a2])).length) Slot.unset).toArray = ls at hl ⊢
  have hl : lv_has ls 3 [(0, .ref (ad 1)), (1, .int a1), (2, .int a2)] := hl
  unfold Sp_D_isLaterPhase at h
  obtain ⟨H, eH⟩ : ∃ z, z = s.heap := ⟨_, rfl⟩
  have hP : va_P D vwCl (wC ad cA cB σ) H := by rw [eH]; exact hP
  have hS : va_S (kAC ad s.heap.size) s.heap H [] := by rw [eH]; exact hS
  show W p l e (headSpec (Cond.code y_D_isLaterPhase c_D_isLaterPhase 3 (some .boolean) :: wsG) ({ frames := 0, cells := 0, slots := 0, locals := 0 } : Room)).room s m ([.ref (ad 1), .int a1, .int a2] : List Value).toArray below meth c s.heap [] 0 0 (MQ below (va_Qi post (kBC D ad cA cB) (kAC ad s.heap.size)) ([.ref (ad 1), .int a1, .int a2] : List Value).toArray s 0 0 (kAC ad s.heap.size)) (F0 m 0 ls [])
  suffices k : W p l e (headSpec (Cond.code y_D_isLaterPhase c_D_isLaterPhase 3 (some .boolean) :: wsG) ({ frames := 0, cells := 0, slots := 0, locals := 0 } : Room)).room s m ([.ref (ad 1), .int a1, .int a2] : List Value).toArray below meth c H [] 0 0 (MQ below (va_Qi post (kBC D ad cA cB) (kAC ad s.heap.size)) ([.ref (ad 1), .int a1, .int a2] : List Value).toArray s 0 0 (kAC ad s.heap.size)) (F0 m 0 ls []) by rw [eH] at k; exact k
  refine lv_aload_n hx hb d_D_isLaterPhase_0 rfl (lv_at hl 0 rfl) ?_
  refine va_get (D := D) (ci := 0) (v := .ref (ad 5)) (C := RX0) (T := TX0) (N := 9) hx hb htg inG_X0 hown hK hP 1 rfl rfl 1 (by decide) (htg _ m_83) (fun _ h9 => h9) rfl d_D_isLaterPhase_1 ?_
  refine lv_iload_n hx hb d_D_isLaterPhase_4 rfl (lv_at hl 2 rfl) ?_
  have hi := h.1
  have h := h.2
  refine va_iald hx hb hK hP 5 0 rfl rfl hi d_D_isLaterPhase_5 ?_
  refine lv_iconst (v := (-1)) hx hb d_D_isLaterPhase_6 (by decide) ?_
  refine lv_icmp_eq (tgt := 29) hx hb d_D_isLaterPhase_7 (by decide) (fun cn => ?_) (fun cn => ?_)
  · have h := h.1 cn
    refine lv_iconst (v := 0) hx hb d_D_isLaterPhase_29 (by decide) ?_
    exact W.zret (v := 0) hx hb hr rfl (fun t ht hW => ⟨⟨_, σ, rfl, h, kBC_of ht hP⟩, hS.F ht⟩) hS.2.2 d_D_isLaterPhase_30 hlocks
  · have h := h.2 cn
    refine lv_aload_n hx hb d_D_isLaterPhase_10 rfl (lv_at hl 0 rfl) ?_
    refine va_get (D := D) (ci := 0) (v := .ref (ad 5)) (C := RX0) (T := TX0) (N := 9) hx hb htg inG_X0 hown hK hP 1 rfl rfl 1 (by decide) (htg _ m_83) (fun _ h9 => h9) rfl d_D_isLaterPhase_11 ?_
    refine lv_iload_n hx hb d_D_isLaterPhase_14 rfl (lv_at hl 1 rfl) ?_
    have hi := h.1
    have h := h.2
    refine va_iald hx hb hK hP 5 0 rfl rfl hi d_D_isLaterPhase_15 ?_
    refine lv_aload_n hx hb d_D_isLaterPhase_16 rfl (lv_at hl 0 rfl) ?_
    refine va_get (D := D) (ci := 0) (v := .ref (ad 5)) (C := RX0) (T := TX0) (N := 9) hx hb htg inG_X0 hown hK hP 1 rfl rfl 1 (by decide) (htg _ m_83) (fun _ h9 => h9) rfl d_D_isLaterPhase_17 ?_
    refine lv_iload_n hx hb d_D_isLaterPhase_20 rfl (lv_at hl 2 rfl) ?_
    have hi := h.1
    have h := h.2
    refine va_iald hx hb hK hP 5 0 rfl rfl hi d_D_isLaterPhase_21 ?_
    refine lv_icmp_le (tgt := 29) hx hb d_D_isLaterPhase_22 (by decide) (fun cn => ?_) (fun cn => ?_)
    · have h := h.1 cn
      refine lv_iconst (v := 0) hx hb d_D_isLaterPhase_29 (by decide) ?_
      exact W.zret (v := 0) hx hb hr rfl (fun t ht hW => ⟨⟨_, σ, rfl, h, kBC_of ht hP⟩, hS.F ht⟩) hS.2.2 d_D_isLaterPhase_30 hlocks
    · have h := h.2 cn
      refine lv_iconst (v := 1) hx hb d_D_isLaterPhase_25 (by decide) ?_
      refine lv_goto (tgt := 30) hx hb d_D_isLaterPhase_26 (by decide) ?_
      exact W.zret (v := 1) hx hb hr rfl (fun t ht hW => ⟨⟨_, σ, rfl, h, kBC_of ht hP⟩, hS.F ht⟩) hS.2.2 d_D_isLaterPhase_30 hlocks
set_option maxHeartbeats 4000000 in
set_option maxRecDepth 100000 in
theorem met_D_findMisfit (l : Launch) (D : va_G) (ad : Nat → Nat) (cA cB : ClassId) (hap : kapC ad) (σ : S0) (sz : Nat) (a1 : Int32) (post : Int32 → S0 → Prop) (h : Sp_D_findMisfit a1 σ post) : Met l y_D_findMisfit (Cond.code y_D_findMisfit c_D_findMisfit 5 (some .int) :: wsG) ({ frames := 1, cells := 0, slots := 0, locals := 22 } : Room) (kPcC D ad cA cB σ sz [.ref (ad 1), .int a1]) (va_Qi post (kBC D ad cA cB) (kAC ad sz)) 0 0 (kAC ad sz) := by
  refine Met.ofW (cc := c_D_findMisfit) (maxL := 5) (ret := (some .int)) (by decide) rfl ?_
  intro p e s m args below meth c s₁ B hml hv
  obtain ⟨rfl, hsz, hP, hK, hF⟩ := hv
  have hx := B.exec
  have hb := B.bytes
  have hr := B.returns
  have hts := atoms_spec (ws := (Cond.code y_D_findMisfit c_D_findMisfit 5 (some .int) :: wsG)) B.pre
  have htg : ∀ w ∈ wsG, w.before ([.ref (ad 1), .int a1] : List Value).toArray s = true := fun w h => hts w (List.mem_cons_of_mem _ h)
  have hown : s.vm.findClass RX0 = some m.cls := findClass_of_methodNamed B.named
  have hlocks := B.notSynchronized
  subst hsz
  have hD : ∀ σ, va_D (kAC ad s.heap.size) (wC ad cA cB σ) := fun σ => wC_D hap cA cB σ _
  have hS : va_S (kAC ad s.heap.size) s.heap s.heap [] := va_S.rf
  have hE := hF.1
  have hl := lv_entry ([.ref (ad 1), .int a1]) (n := 5) (Nat.le_of_ble_eq_true rfl)
  rw [lg_entry_eq]
  generalize (lg_sl ([.ref (ad 1), .int a1]) ++ List.replicate (5 - (lg_sl ([.ref (ad 1), .int a1])).length) Slot.unset).toArray = ls at hl ⊢
  have hl : lv_has ls 5 [(0, .ref (ad 1)), (1, .int a1)] := hl
  unfold Sp_D_findMisfit at h
  obtain ⟨G4, hG4⟩ : ∃ G : Int32 → Int32 → S0 → Prop, G = fun (x2 x3 : Int32) (σ : S0) => ∀ (H : Heap) (locs : List Loc) (ls : Array Slot), va_P D vwCl (wC ad cA cB σ) H → va_S (kAC ad s.heap.size) s.heap H locs → lv_has ls 5 [(0, .ref (ad 1)), (2, .int x2), (3, .int x3)] → W p l e (headSpec (Cond.code y_D_findMisfit c_D_findMisfit 5 (some .int) :: wsG) ({ frames := 1, cells := 0, slots := 0, locals := 22 } : Room)).room s m ([.ref (ad 1), .int a1] : List Value).toArray below meth c H locs 0 0 (MQ below (va_Qi post (kBC D ad cA cB) (kAC ad s.heap.size)) ([.ref (ad 1), .int a1] : List Value).toArray s 0 0 (kAC ad s.heap.size)) (F0 m 4 ls []) := ⟨_, rfl⟩
  obtain ⟨G13, hG13⟩ : ∃ G : Int32 → Int32 → Int32 → S0 → Prop, G = fun (x2 x3 x4 : Int32) (σ : S0) => ∀ (H : Heap) (locs : List Loc) (ls : Array Slot), va_P D vwCl (wC ad cA cB σ) H → va_S (kAC ad s.heap.size) s.heap H locs → lv_has ls 5 [(0, .ref (ad 1)), (2, .int x2), (3, .int x3), (4, .int x4)] → W p l e (headSpec (Cond.code y_D_findMisfit c_D_findMisfit 5 (some .int) :: wsG) ({ frames := 1, cells := 0, slots := 0, locals := 22 } : Room)).room s m ([.ref (ad 1), .int a1] : List Value).toArray below meth c H locs 0 0 (MQ below (va_Qi post (kBC D ad cA cB) (kAC ad s.heap.size)) ([.ref (ad 1), .int a1] : List Value).toArray s 0 0 (kAC ad s.heap.size)) (F0 m 13 ls []) := ⟨_, rfl⟩
  have h := h G4 G13
  have h := h (by
    intro x2 x3 σ h
    rw [hG4]
    intro H locs ls hP hS hl
    refine lv_iload_n hx hb d_D_findMisfit_4 rfl (lv_at hl 2 rfl) ?_
    refine lv_bipush (v := 16) hx hb d_D_findMisfit_5 (by decide) ?_
    refine lv_icmp_ge (tgt := 71) hx hb d_D_findMisfit_7 (by decide) (fun cn => ?_) (fun cn => ?_)
    · have h := h.1 cn
      refine lv_iconst (v := (-1)) hx hb d_D_findMisfit_71 (by decide) ?_
      exact W.iret (v := (-1)) hx hb hr (fun t ht hW => ⟨⟨_, σ, rfl, h, kBC_of ht hP⟩, hS.F ht⟩) hS.2.2 d_D_findMisfit_72 hlocks
    · have h := h.2 cn
      refine lv_iconst (v := 0) hx hb d_D_findMisfit_10 (by decide) ?_
      refine lv_istore (lv' := [(4, .int 0), (0, .ref (ad 1)), (2, .int x2), (3, .int x3)]) hx hb d_D_findMisfit_11 hl (by decide) rfl (fun ls hl => ?_)
      rw [hG13] at h
      exact h _ _ _ hP hS (lv_sub hl [1, 2, 3, 0] rfl))
  have h := h (by
    intro x2 x3 x4 σ h
    rw [hG13]
    intro H locs ls hP hS hl
    refine lv_iload hx hb d_D_findMisfit_13 (lv_at hl 3 rfl) ?_
    refine lv_bipush (v := 16) hx hb d_D_findMisfit_15 (by decide) ?_
    refine lv_icmp_ge (tgt := 65) hx hb d_D_findMisfit_17 (by decide) (fun cn => ?_) (fun cn => ?_)
    · have h := h.1 cn
      refine lv_iinc (v := (x3 + 1)) (lv' := [(3, .int (x3 + 1)), (0, .ref (ad 1)), (2, .int x2), (4, .int x4)]) hx hb d_D_findMisfit_65 hl (k := 2) rfl rfl (by decide) rfl (fun ls hl => ?_)
      refine lv_goto (tgt := 4) hx hb d_D_findMisfit_68 (by decide) ?_
      rw [hG4] at h
      exact h _ _ _ hP hS (lv_sub hl [1, 2, 0] rfl)
    · have h := h.2 cn
      refine lv_aload_n hx hb d_D_findMisfit_20 rfl (lv_at hl 0 rfl) ?_
      refine va_get (D := D) (ci := 0) (v := .ref (ad 9)) (C := RX0) (T := TX0) (N := 9) hx hb htg inG_X0 hown hK hP 1 rfl rfl 8 (by decide) (htg _ m_95) (fun _ h9 => h9) rfl d_D_findMisfit_21 ?_
      refine lv_iload_n hx hb d_D_findMisfit_24 rfl (lv_at hl 2 rfl) ?_
      have hi := h.1
      have h := h.2
      refine va_iald hx hb hK hP 9 0 rfl rfl hi d_D_findMisfit_25 ?_
      refine lv_iload hx hb d_D_findMisfit_26 (lv_at hl 3 rfl) ?_
      refine kC_i (va_runSN (As := [.int (σ 9 x3.toNatClampNeg), .int x4]) (rest := []) ⟨hx, hb, hml, hown, htg⟩ (met_M_has l D ad cA cB hap σ H.size (σ 9 x3.toNatClampNeg) x4 _ h) ⟨va_cnB (host := "MatrixSheets") 2 htg (kG (kG_self m_318)) rfl rfl rfl (hE _ me_316) (htg _ m_53) (by decide +kernel) ⟨Nat.le_of_ble_eq_true rfl, Nat.le_of_ble_eq_true rfl⟩, htg _ m_317, trivial⟩ (kC_pre hK hF hP hS _) rfl rfl hl.1 rfl (lv_room (Nat.le_of_ble_eq_true rfl)) d_D_findMisfit_28 ⟨Nat.le_of_ble_eq_true rfl, Nat.le_of_ble_eq_true rfl⟩) hS (fun r2 σ1 H locs h hP hS => ?_)
      refine lv_if_eq (tgt := 59) hx hb d_D_findMisfit_31 (by decide) (fun cn => ?_) (fun cn => ?_)
      · have h := h.1 cn
        refine lv_iinc (v := (x4 + 1)) (lv' := [(4, .int (x4 + 1)), (0, .ref (ad 1)), (2, .int x2), (3, .int x3)]) hx hb d_D_findMisfit_59 hl (k := 3) rfl rfl (by decide) rfl (fun ls hl => ?_)
        refine lv_goto (tgt := 13) hx hb d_D_findMisfit_62 (by decide) ?_
        rw [hG13] at h
        exact h _ _ _ hP hS (lv_sub hl [1, 2, 3, 0] rfl)
      · have h := h.2 cn
        refine lv_aload_n hx hb d_D_findMisfit_34 rfl (lv_at hl 0 rfl) ?_
        refine lv_iload_n hx hb d_D_findMisfit_35 rfl (lv_at hl 2 rfl) ?_
        refine lv_iload hx hb d_D_findMisfit_36 (lv_at hl 3 rfl) ?_
        refine kC_i (va_runV (As := [.int x3, .int x4]) (rest := []) ⟨hx, hb, hml, hown, htg⟩ (met_D_isLaterPhase l D ad cA cB hap σ1 H.size x3 x4 _ h) (cwV 2 htg (kG (kG_V m_420 m_421 m_422 m_54 (kG_self m_423))) rfl rfl rfl (by decide +kernel) ⟨Nat.le_of_ble_eq_true rfl, Nat.le_of_ble_eq_true rfl⟩) (kC_preV hK hF hP hS 1 rfl rfl _) rfl rfl hl.1 rfl (lv_room (Nat.le_of_ble_eq_true rfl)) d_D_findMisfit_38 ⟨Nat.le_of_ble_eq_true rfl, Nat.le_of_ble_eq_true rfl⟩) hS (fun r4 σ3 H locs h hP hS => ?_)
        refine lv_if_eq (tgt := 59) hx hb d_D_findMisfit_41 (by decide) (fun cn => ?_) (fun cn => ?_)
        · have h := h.1 cn
          refine lv_iinc (v := (x4 + 1)) (lv' := [(4, .int (x4 + 1)), (0, .ref (ad 1)), (2, .int x2), (3, .int x3)]) hx hb d_D_findMisfit_59 hl (k := 3) rfl rfl (by decide) rfl (fun ls hl => ?_)
          refine lv_goto (tgt := 13) hx hb d_D_findMisfit_62 (by decide) ?_
          rw [hG13] at h
          exact h _ _ _ hP hS (lv_sub hl [1, 2, 3, 0] rfl)
        · have h := h.2 cn
          refine lv_iload_n hx hb d_D_findMisfit_44 rfl (lv_at hl 1 rfl) ?_
          refine lv_if_ne (tgt := 56) hx hb d_D_findMisfit_45 (by decide) (fun cn => ?_) (fun cn => ?_)
          · have h := h.1 cn
            refine lv_iinc (v := (x2 + (-1))) (lv' := [(2, .int (x2 + (-1))), (0, .ref (ad 1)), (3, .int x3), (4, .int x4)]) hx hb d_D_findMisfit_56 hl (k := 1) rfl rfl (by decide) rfl (fun ls hl => ?_)
            refine lv_iinc (v := (x4 + 1)) (lv' := [(4, .int (x4 + 1)), (2, .int (x2 + (-1))), (0, .ref (ad 1)), (3, .int x3)]) hx hb d_D_findMisfit_59 hl (k := 3) rfl rfl (by decide) rfl (fun ls hl => ?_)
            refine lv_goto (tgt := 13) hx hb d_D_findMisfit_62 (by decide) ?_
            rw [hG13] at h
            exact h _ _ _ hP hS (lv_sub hl [2, 1, 3, 0] rfl)
          · have h := h.2 cn
            refine lv_bipush (v := 16) hx hb d_D_findMisfit_48 (by decide) ?_
            refine lv_iload_n hx hb d_D_findMisfit_50 rfl (lv_at hl 2 rfl) ?_
            refine lv_imul hx hb d_D_findMisfit_51 ?_
            refine lv_iload hx hb d_D_findMisfit_52 (lv_at hl 3 rfl) ?_
            refine lv_iadd hx hb d_D_findMisfit_54 ?_
            exact W.iret (v := ((16 * x3) + x4)) hx hb hr (fun t ht hW => ⟨⟨_, σ3, rfl, h, kBC_of ht hP⟩, hS.F ht⟩) hS.2.2 d_D_findMisfit_55 hlocks)
  obtain ⟨H, eH⟩ : ∃ z, z = s.heap := ⟨_, rfl⟩
  have hP : va_P D vwCl (wC ad cA cB σ) H := by rw [eH]; exact hP
  have hS : va_S (kAC ad s.heap.size) s.heap H [] := by rw [eH]; exact hS
  show W p l e (headSpec (Cond.code y_D_findMisfit c_D_findMisfit 5 (some .int) :: wsG) ({ frames := 1, cells := 0, slots := 0, locals := 22 } : Room)).room s m ([.ref (ad 1), .int a1] : List Value).toArray below meth c s.heap [] 0 0 (MQ below (va_Qi post (kBC D ad cA cB) (kAC ad s.heap.size)) ([.ref (ad 1), .int a1] : List Value).toArray s 0 0 (kAC ad s.heap.size)) (F0 m 0 ls [])
  suffices k : W p l e (headSpec (Cond.code y_D_findMisfit c_D_findMisfit 5 (some .int) :: wsG) ({ frames := 1, cells := 0, slots := 0, locals := 22 } : Room)).room s m ([.ref (ad 1), .int a1] : List Value).toArray below meth c H [] 0 0 (MQ below (va_Qi post (kBC D ad cA cB) (kAC ad s.heap.size)) ([.ref (ad 1), .int a1] : List Value).toArray s 0 0 (kAC ad s.heap.size)) (F0 m 0 ls []) by rw [eH] at k; exact k
  refine lv_iload_n hx hb d_D_findMisfit_0 rfl (lv_at hl 1 rfl) ?_
  refine lv_istore_n (lv' := [(2, .int a1), (0, .ref (ad 1)), (1, .int a1)]) hx hb d_D_findMisfit_1 rfl hl (by decide) rfl (fun ls hl => ?_)
  refine lv_iconst (v := 0) hx hb d_D_findMisfit_2 (by decide) ?_
  refine lv_istore_n (lv' := [(3, .int 0), (2, .int a1), (0, .ref (ad 1)), (1, .int a1)]) hx hb d_D_findMisfit_3 rfl hl (by decide) rfl (fun ls hl => ?_)
  rw [hG4] at h
  exact h _ _ _ hP hS (lv_sub hl [2, 1, 0] rfl)
set_option maxHeartbeats 4000000 in
set_option maxRecDepth 100000 in
theorem met_M_goOn_13 (l : Launch) (D : va_G) (ad : Nat → Nat) (cA cB : ClassId) (hap : kapC ad) (σ : S0) (sz : Nat) (a1 : Int32) (post : S0 → Prop) (h : Sp_M_goOn_13 a1 σ post) : Met l y_M_goOn (Cond.code y_M_goOn c_M_goOn 4 none :: wsG) ({ frames := 1, cells := 0, slots := 0, locals := 21 } : Room) (kPcC D ad cA cB σ sz [.ref (ad 13), .int a1]) (va_Qv post (kBC D ad cA cB) (kAC ad sz)) 0 0 (kAC ad sz) := by
  refine Met.ofW (cc := c_M_goOn) (maxL := 4) (ret := none) (by decide) rfl ?_
  intro p e s m args below meth c s₁ B hml hv
  obtain ⟨rfl, hsz, hP, hK, hF⟩ := hv
  have hx := B.exec
  have hb := B.bytes
  have hr := B.returns
  have hts := atoms_spec (ws := (Cond.code y_M_goOn c_M_goOn 4 none :: wsG)) B.pre
  have htg : ∀ w ∈ wsG, w.before ([.ref (ad 13), .int a1] : List Value).toArray s = true := fun w h => hts w (List.mem_cons_of_mem _ h)
  have hown : s.vm.findClass RX3 = some m.cls := findClass_of_methodNamed B.named
  have hlocks := B.notSynchronized
  subst hsz
  have hD : ∀ σ, va_D (kAC ad s.heap.size) (wC ad cA cB σ) := fun σ => wC_D hap cA cB σ _
  have hS : va_S (kAC ad s.heap.size) s.heap s.heap [] := va_S.rf
  have hE := hF.1
  have hl := lv_entry ([.ref (ad 13), .int a1]) (n := 4) (Nat.le_of_ble_eq_true rfl)
  rw [lg_entry_eq]
  generalize (lg_sl ([.ref (ad 13), .int a1]) ++ List.replicate (4 - (lg_sl ([.ref (ad 13), .int a1])).length) Slot.unset).toArray = ls at hl ⊢
  have hl : lv_has ls 4 [(0, .ref (ad 13)), (1, .int a1)] := hl
  unfold Sp_M_goOn_13 at h
  obtain ⟨G2, hG2⟩ : ∃ G : Int32 → Int32 → S0 → Prop, G = fun (x1 x2 : Int32) (σ : S0) => ∀ (H : Heap) (locs : List Loc) (ls : Array Slot), va_P D vwCl (wC ad cA cB σ) H → va_S (kAC ad s.heap.size) s.heap H locs → lv_has ls 4 [(0, .ref (ad 13)), (1, .int x1), (2, .int x2)] → W p l e (headSpec (Cond.code y_M_goOn c_M_goOn 4 none :: wsG) ({ frames := 1, cells := 0, slots := 0, locals := 21 } : Room)).room s m ([.ref (ad 13), .int a1] : List Value).toArray below meth c H locs 0 0 (MQ below (va_Qv post (kBC D ad cA cB) (kAC ad s.heap.size)) ([.ref (ad 13), .int a1] : List Value).toArray s 0 0 (kAC ad s.heap.size)) (F0 m 2 ls []) := ⟨_, rfl⟩
  obtain ⟨G10, hG10⟩ : ∃ G : Int32 → Int32 → Int32 → S0 → Prop, G = fun (x1 x2 x3 : Int32) (σ : S0) => ∀ (H : Heap) (locs : List Loc) (ls : Array Slot), va_P D vwCl (wC ad cA cB σ) H → va_S (kAC ad s.heap.size) s.heap H locs → lv_has ls 4 [(0, .ref (ad 13)), (1, .int x1), (2, .int x2), (3, .int x3)] → W p l e (headSpec (Cond.code y_M_goOn c_M_goOn 4 none :: wsG) ({ frames := 1, cells := 0, slots := 0, locals := 21 } : Room)).room s m ([.ref (ad 13), .int a1] : List Value).toArray below meth c H locs 0 0 (MQ below (va_Qv post (kBC D ad cA cB) (kAC ad s.heap.size)) ([.ref (ad 13), .int a1] : List Value).toArray s 0 0 (kAC ad s.heap.size)) (F0 m 10 ls []) := ⟨_, rfl⟩
  have h := h G2 G10
  have h := h (by
    intro x1 x2 σ h
    rw [hG2]
    intro H locs ls hP hS hl
    refine lv_iload_n hx hb d_M_goOn_2 rfl (lv_at hl 2 rfl) ?_
    refine lv_bipush (v := 16) hx hb d_M_goOn_3 (by decide) ?_
    refine lv_icmp_ge (tgt := 55) hx hb d_M_goOn_5 (by decide) (fun cn => ?_) (fun cn => ?_)
    · have h := h.1 cn
      exact W.vret hx hb hr (fun t ht hW => ⟨⟨σ, rfl, h, kBC_of ht hP⟩, hS.F ht⟩) hS.2.2 d_M_goOn_55 hlocks
    · have h := h.2 cn
      refine lv_iconst (v := 0) hx hb d_M_goOn_8 (by decide) ?_
      refine lv_istore_n (lv' := [(3, .int 0), (0, .ref (ad 13)), (1, .int x1), (2, .int x2)]) hx hb d_M_goOn_9 rfl hl (by decide) rfl (fun ls hl => ?_)
      rw [hG10] at h
      exact h _ _ _ hP hS (lv_sub hl [1, 2, 3, 0] rfl))
  have h := h (by
    intro x1 x2 x3 σ h
    rw [hG10]
    intro H locs ls hP hS hl
    refine lv_iload_n hx hb d_M_goOn_10 rfl (lv_at hl 3 rfl) ?_
    refine lv_bipush (v := 16) hx hb d_M_goOn_11 (by decide) ?_
    refine lv_icmp_ge (tgt := 49) hx hb d_M_goOn_13 (by decide) (fun cn => ?_) (fun cn => ?_)
    · have h := h.1 cn
      refine lv_iinc (v := (x2 + 1)) (lv' := [(2, .int (x2 + 1)), (0, .ref (ad 13)), (1, .int x1), (3, .int x3)]) hx hb d_M_goOn_49 hl (k := 2) rfl rfl (by decide) rfl (fun ls hl => ?_)
      refine lv_goto (tgt := 2) hx hb d_M_goOn_52 (by decide) ?_
      rw [hG2] at h
      exact h _ _ _ hP hS (lv_sub hl [1, 2, 0] rfl)
    · have h := h.2 cn
      refine lv_iload_n hx hb d_M_goOn_16 rfl (lv_at hl 1 rfl) ?_
      refine lv_iload_n hx hb d_M_goOn_17 rfl (lv_at hl 2 rfl) ?_
      refine kC_i (va_runS (As := [.int x1, .int x2]) (rest := []) ⟨hx, hb, hml, hown, htg⟩ (met_M_has l D ad cA cB hap σ H.size x1 x2 _ h) (cwS 2 htg (kG (kG_S m_337 m_317 m_53 (kG_self m_318))) rfl rfl rfl (by decide +kernel) ⟨Nat.le_of_ble_eq_true rfl, Nat.le_of_ble_eq_true rfl⟩) (kC_pre hK hF hP hS _) rfl rfl hl.1 rfl (lv_room (Nat.le_of_ble_eq_true rfl)) d_M_goOn_18 ⟨Nat.le_of_ble_eq_true rfl, Nat.le_of_ble_eq_true rfl⟩) hS (fun r2 σ1 H locs h hP hS => ?_)
      refine lv_if_eq (tgt := 43) hx hb d_M_goOn_21 (by decide) (fun cn => ?_) (fun cn => ?_)
      · have h := h.1 cn
        refine lv_iinc (v := (x3 + 1)) (lv' := [(3, .int (x3 + 1)), (0, .ref (ad 13)), (1, .int x1), (2, .int x2)]) hx hb d_M_goOn_43 hl (k := 3) rfl rfl (by decide) rfl (fun ls hl => ?_)
        refine lv_goto (tgt := 10) hx hb d_M_goOn_46 (by decide) ?_
        rw [hG10] at h
        exact h _ _ _ hP hS (lv_sub hl [1, 2, 3, 0] rfl)
      · have h := h.2 cn
        refine lv_aload_n hx hb d_M_goOn_24 rfl (lv_at hl 0 rfl) ?_
        refine lv_iload_n hx hb d_M_goOn_25 rfl (lv_at hl 3 rfl) ?_
        have hi := h.1
        have h := h.2
        refine va_iald hx hb hK hP 13 0 rfl rfl hi d_M_goOn_26 ?_
        refine lv_iload_n hx hb d_M_goOn_27 rfl (lv_at hl 2 rfl) ?_
        refine kC_i (va_runS (As := [.int (σ1 13 x3.toNatClampNeg), .int x2]) (rest := []) ⟨hx, hb, hml, hown, htg⟩ (met_M_has l D ad cA cB hap σ1 H.size (σ1 13 x3.toNatClampNeg) x2 _ h) (cwS 2 htg (kG (kG_S m_337 m_317 m_53 (kG_self m_318))) rfl rfl rfl (by decide +kernel) ⟨Nat.le_of_ble_eq_true rfl, Nat.le_of_ble_eq_true rfl⟩) (kC_pre hK hF hP hS _) rfl rfl hl.1 rfl (lv_room (Nat.le_of_ble_eq_true rfl)) d_M_goOn_28 ⟨Nat.le_of_ble_eq_true rfl, Nat.le_of_ble_eq_true rfl⟩) hS (fun r4 σ3 H locs h hP hS => ?_)
        refine lv_if_eq (tgt := 43) hx hb d_M_goOn_31 (by decide) (fun cn => ?_) (fun cn => ?_)
        · have h := h.1 cn
          refine lv_iinc (v := (x3 + 1)) (lv' := [(3, .int (x3 + 1)), (0, .ref (ad 13)), (1, .int x1), (2, .int x2)]) hx hb d_M_goOn_43 hl (k := 3) rfl rfl (by decide) rfl (fun ls hl => ?_)
          refine lv_goto (tgt := 10) hx hb d_M_goOn_46 (by decide) ?_
          rw [hG10] at h
          exact h _ _ _ hP hS (lv_sub hl [1, 2, 3, 0] rfl)
        · have h := h.2 cn
          refine lv_aload_n hx hb d_M_goOn_34 rfl (lv_at hl 0 rfl) ?_
          refine lv_iload_n hx hb d_M_goOn_35 rfl (lv_at hl 3 rfl) ?_
          refine lv_dup2_11 hx hb d_M_goOn_36 rfl rfl ?_
          have hi := h.1
          have h := h.2
          refine va_iald hx hb hK hP 13 0 rfl rfl hi d_M_goOn_37 ?_
          refine lv_aload_n hx hb d_M_goOn_38 rfl (lv_at hl 0 rfl) ?_
          refine lv_iload_n hx hb d_M_goOn_39 rfl (lv_at hl 2 rfl) ?_
          have hi := h.1
          have h := h.2
          refine va_iald hx hb hK hP 13 0 rfl rfl hi d_M_goOn_40 ?_
          refine lv_ior hx hb d_M_goOn_41 ?_
          have hi := h.1
          have h := h.2
          refine va_iast hx hb hK hP (hD _) hS 13 0 rfl rfl hi d_M_goOn_42 (fun H locs hP _ hS => ?_)
          obtain ⟨σ5, eσ5⟩ : ∃ z : S0, z = st σ3 13 x3.toNatClampNeg ((σ3 13 x3.toNatClampNeg) ||| (σ3 13 x2.toNatClampNeg)) := ⟨_, rfl⟩
          have hP : va_P D vwCl (wC ad cA cB σ5) H := by rw [eσ5]; exact hP
          have h := h σ5 eσ5
          refine lv_iinc (v := (x3 + 1)) (lv' := [(3, .int (x3 + 1)), (0, .ref (ad 13)), (1, .int x1), (2, .int x2)]) hx hb d_M_goOn_43 hl (k := 3) rfl rfl (by decide) rfl (fun ls hl => ?_)
          refine lv_goto (tgt := 10) hx hb d_M_goOn_46 (by decide) ?_
          rw [hG10] at h
          exact h _ _ _ hP hS (lv_sub hl [1, 2, 3, 0] rfl))
  obtain ⟨H, eH⟩ : ∃ z, z = s.heap := ⟨_, rfl⟩
  have hP : va_P D vwCl (wC ad cA cB σ) H := by rw [eH]; exact hP
  have hS : va_S (kAC ad s.heap.size) s.heap H [] := by rw [eH]; exact hS
  show W p l e (headSpec (Cond.code y_M_goOn c_M_goOn 4 none :: wsG) ({ frames := 1, cells := 0, slots := 0, locals := 21 } : Room)).room s m ([.ref (ad 13), .int a1] : List Value).toArray below meth c s.heap [] 0 0 (MQ below (va_Qv post (kBC D ad cA cB) (kAC ad s.heap.size)) ([.ref (ad 13), .int a1] : List Value).toArray s 0 0 (kAC ad s.heap.size)) (F0 m 0 ls [])
  suffices k : W p l e (headSpec (Cond.code y_M_goOn c_M_goOn 4 none :: wsG) ({ frames := 1, cells := 0, slots := 0, locals := 21 } : Room)).room s m ([.ref (ad 13), .int a1] : List Value).toArray below meth c H [] 0 0 (MQ below (va_Qv post (kBC D ad cA cB) (kAC ad s.heap.size)) ([.ref (ad 13), .int a1] : List Value).toArray s 0 0 (kAC ad s.heap.size)) (F0 m 0 ls []) by rw [eH] at k; exact k
  refine lv_iconst (v := 0) hx hb d_M_goOn_0 (by decide) ?_
  refine lv_istore_n (lv' := [(2, .int 0), (0, .ref (ad 13)), (1, .int a1)]) hx hb d_M_goOn_1 rfl hl (by decide) rfl (fun ls hl => ?_)
  rw [hG2] at h
  exact h _ _ _ hP hS (lv_sub hl [1, 2, 0] rfl)
set_option maxHeartbeats 4000000 in
set_option maxRecDepth 100000 in
theorem met_P_findLinks (l : Launch) (D : va_G) (ad : Nat → Nat) (cA cB : ClassId) (hap : kapC ad) (σ : S0) (sz : Nat) (post : S0 → Prop) (h : Sp_P_findLinks  σ post) : Met l y_P_findLinks (Cond.code y_P_findLinks c_P_findLinks 5 none :: wsG) ({ frames := 2, cells := 0, slots := 0, locals := 60 } : Room) (kPcC D ad cA cB σ sz [.ref (ad 2), .ref (ad 1)]) (va_Qv post (kBC D ad cA cB) (kAC ad sz)) 0 0 (kAC ad sz) := by
  refine Met.ofW (cc := c_P_findLinks) (maxL := 5) (ret := none) (by decide) rfl ?_
  intro p e s m args below meth c s₁ B hml hv
  obtain ⟨rfl, hsz, hP, hK, hF⟩ := hv
  have hx := B.exec
  have hb := B.bytes
  have hr := B.returns
  have hts := atoms_spec (ws := (Cond.code y_P_findLinks c_P_findLinks 5 none :: wsG)) B.pre
  have htg : ∀ w ∈ wsG, w.before ([.ref (ad 2), .ref (ad 1)] : List Value).toArray s = true := fun w h => hts w (List.mem_cons_of_mem _ h)
  have hown : s.vm.findClass RX2 = some m.cls := findClass_of_methodNamed B.named
  have hlocks := B.notSynchronized
  subst hsz
  have hD : ∀ σ, va_D (kAC ad s.heap.size) (wC ad cA cB σ) := fun σ => wC_D hap cA cB σ _
  have hS : va_S (kAC ad s.heap.size) s.heap s.heap [] := va_S.rf
  have hE := hF.1
  have hl := lv_entry ([.ref (ad 2), .ref (ad 1)]) (n := 5) (Nat.le_of_ble_eq_true rfl)
  rw [lg_entry_eq]
  generalize (lg_sl ([.ref (ad 2), .ref (ad 1)]) ++ List.replicate (5 - (lg_sl ([.ref (ad 2), .ref (ad 1)])).length) Slot.unset).toArray = ls at hl ⊢
  have hl : lv_has ls 5 [(0, .ref (ad 2)), (1, .ref (ad 1))] := hl
  unfold Sp_P_findLinks at h
  obtain ⟨G46, hG46⟩ : ∃ G : Int32 → S0 → Prop, G = fun (x3 : Int32) (σ : S0) => ∀ (H : Heap) (locs : List Loc) (ls : Array Slot), va_P D vwCl (wC ad cA cB σ) H → va_S (kAC ad s.heap.size) s.heap H locs → lv_has ls 5 [(0, .ref (ad 2)), (3, .int x3)] → W p l e (headSpec (Cond.code y_P_findLinks c_P_findLinks 5 none :: wsG) ({ frames := 2, cells := 0, slots := 0, locals := 60 } : Room)).room s m ([.ref (ad 2), .ref (ad 1)] : List Value).toArray below meth c H locs 0 0 (MQ below (va_Qv post (kBC D ad cA cB) (kAC ad s.heap.size)) ([.ref (ad 2), .ref (ad 1)] : List Value).toArray s 0 0 (kAC ad s.heap.size)) (F0 m 46 ls []) := ⟨_, rfl⟩
  obtain ⟨G55, hG55⟩ : ∃ G : Int32 → Int32 → S0 → Prop, G = fun (x3 x4 : Int32) (σ : S0) => ∀ (H : Heap) (locs : List Loc) (ls : Array Slot), va_P D vwCl (wC ad cA cB σ) H → va_S (kAC ad s.heap.size) s.heap H locs → lv_has ls 5 [(0, .ref (ad 2)), (3, .int x3), (4, .int x4)] → W p l e (headSpec (Cond.code y_P_findLinks c_P_findLinks 5 none :: wsG) ({ frames := 2, cells := 0, slots := 0, locals := 60 } : Room)).room s m ([.ref (ad 2), .ref (ad 1)] : List Value).toArray below meth c H locs 0 0 (MQ below (va_Qv post (kBC D ad cA cB) (kAC ad s.heap.size)) ([.ref (ad 2), .ref (ad 1)] : List Value).toArray s 0 0 (kAC ad s.heap.size)) (F0 m 55 ls []) := ⟨_, rfl⟩
  have h := h G46 G55
  have h := h (by
    intro x3 σ h
    rw [hG46]
    intro H locs ls hP hS hl
    refine lv_iload_n hx hb d_P_findLinks_46 rfl (lv_at hl 1 rfl) ?_
    refine lv_bipush (v := 16) hx hb d_P_findLinks_47 (by decide) ?_
    refine lv_icmp_ge (tgt := 135) hx hb d_P_findLinks_49 (by decide) (fun cn => ?_) (fun cn => ?_)
    · have h := h.1 cn
      exact W.vret hx hb hr (fun t ht hW => ⟨⟨σ, rfl, h, kBC_of ht hP⟩, hS.F ht⟩) hS.2.2 d_P_findLinks_135 hlocks
    · have h := h.2 cn
      refine lv_iconst (v := 0) hx hb d_P_findLinks_52 (by decide) ?_
      refine lv_istore (lv' := [(4, .int 0), (0, .ref (ad 2)), (3, .int x3)]) hx hb d_P_findLinks_53 hl (by decide) rfl (fun ls hl => ?_)
      rw [hG55] at h
      exact h _ _ _ hP hS (lv_sub hl [1, 2, 0] rfl))
  have h := h (by
    intro x3 x4 σ h
    rw [hG55]
    intro H locs ls hP hS hl
    refine lv_iload hx hb d_P_findLinks_55 (lv_at hl 2 rfl) ?_
    refine lv_bipush (v := 16) hx hb d_P_findLinks_57 (by decide) ?_
    refine lv_icmp_ge (tgt := 129) hx hb d_P_findLinks_59 (by decide) (fun cn => ?_) (fun cn => ?_)
    · have h := h.1 cn
      refine lv_iinc (v := (x3 + 1)) (lv' := [(3, .int (x3 + 1)), (0, .ref (ad 2)), (4, .int x4)]) hx hb d_P_findLinks_129 hl (k := 1) rfl rfl (by decide) rfl (fun ls hl => ?_)
      refine lv_goto (tgt := 46) hx hb d_P_findLinks_132 (by decide) ?_
      rw [hG46] at h
      exact h _ _ _ hP hS (lv_sub hl [1, 0] rfl)
    · have h := h.2 cn
      refine lv_aload_n hx hb d_P_findLinks_62 rfl (lv_at hl 0 rfl) ?_
      refine va_get (D := D) (ci := 2) (v := .int (σ 0 4)) (C := RX2) (T := TX2) (N := 10) hx hb htg inG_X2 hown hK hP 2 rfl rfl 3 (by decide) (htg _ m_130) (fun _ h9 => h9) rfl d_P_findLinks_63 ?_
      refine lv_iload_n hx hb d_P_findLinks_66 rfl (lv_at hl 1 rfl) ?_
      refine kC_i (va_runSN (As := [.int (σ 0 4), .int x3]) (rest := []) ⟨hx, hb, hml, hown, htg⟩ (met_M_has l D ad cA cB hap σ H.size (σ 0 4) x3 _ h) ⟨va_cnB (host := "MatrixSheets") 2 htg (kG (kG_self m_318)) rfl rfl rfl (hE _ me_443) (htg _ m_53) (by decide +kernel) ⟨Nat.le_of_ble_eq_true rfl, Nat.le_of_ble_eq_true rfl⟩, htg _ m_317, trivial⟩ (kC_pre hK hF hP hS _) rfl rfl hl.1 rfl (lv_room (Nat.le_of_ble_eq_true rfl)) d_P_findLinks_67 ⟨Nat.le_of_ble_eq_true rfl, Nat.le_of_ble_eq_true rfl⟩) hS (fun r8 σ7 H locs h hP hS => ?_)
      refine lv_if_eq (tgt := 123) hx hb d_P_findLinks_70 (by decide) (fun cn => ?_) (fun cn => ?_)
      · have h := h.1 cn
        refine lv_iinc (v := (x4 + 1)) (lv' := [(4, .int (x4 + 1)), (0, .ref (ad 2)), (3, .int x3)]) hx hb d_P_findLinks_123 hl (k := 2) rfl rfl (by decide) rfl (fun ls hl => ?_)
        refine lv_goto (tgt := 55) hx hb d_P_findLinks_126 (by decide) ?_
        rw [hG55] at h
        exact h _ _ _ hP hS (lv_sub hl [1, 2, 0] rfl)
      · have h := h.2 cn
        refine lv_aload_n hx hb d_P_findLinks_73 rfl (lv_at hl 0 rfl) ?_
        refine va_get (D := D) (ci := 2) (v := .ref (ad 13)) (C := RX2) (T := TX2) (N := 10) hx hb htg inG_X2 hown hK hP 2 rfl rfl 7 (by decide) (htg _ m_141) (fun _ h9 => h9) rfl d_P_findLinks_74 ?_
        refine lv_iload_n hx hb d_P_findLinks_77 rfl (lv_at hl 1 rfl) ?_
        have hi := h.1
        have h := h.2
        refine va_iald hx hb hK hP 13 0 rfl rfl hi d_P_findLinks_78 ?_
        refine lv_aload_n hx hb d_P_findLinks_79 rfl (lv_at hl 0 rfl) ?_
        refine va_get (D := D) (ci := 2) (v := .int (σ7 0 4)) (C := RX2) (T := TX2) (N := 10) hx hb htg inG_X2 hown hK hP 2 rfl rfl 3 (by decide) (htg _ m_130) (fun _ h9 => h9) rfl d_P_findLinks_80 ?_
        refine lv_iand hx hb d_P_findLinks_83 ?_
        refine lv_iload hx hb d_P_findLinks_84 (lv_at hl 2 rfl) ?_
        refine kC_i (va_runSN (As := [.int ((σ7 13 x3.toNatClampNeg) &&& (σ7 0 4)), .int x4]) (rest := []) ⟨hx, hb, hml, hown, htg⟩ (met_M_has l D ad cA cB hap σ7 H.size ((σ7 13 x3.toNatClampNeg) &&& (σ7 0 4)) x4 _ h) ⟨va_cnB (host := "MatrixSheets") 2 htg (kG (kG_self m_318)) rfl rfl rfl (hE _ me_443) (htg _ m_53) (by decide +kernel) ⟨Nat.le_of_ble_eq_true rfl, Nat.le_of_ble_eq_true rfl⟩, htg _ m_317, trivial⟩ (kC_pre hK hF hP hS _) rfl rfl hl.1 rfl (lv_room (Nat.le_of_ble_eq_true rfl)) d_P_findLinks_86 ⟨Nat.le_of_ble_eq_true rfl, Nat.le_of_ble_eq_true rfl⟩) hS (fun r10 σ9 H locs h hP hS => ?_)
        refine lv_if_eq (tgt := 123) hx hb d_P_findLinks_89 (by decide) (fun cn => ?_) (fun cn => ?_)
        · have h := h.1 cn
          refine lv_iinc (v := (x4 + 1)) (lv' := [(4, .int (x4 + 1)), (0, .ref (ad 2)), (3, .int x3)]) hx hb d_P_findLinks_123 hl (k := 2) rfl rfl (by decide) rfl (fun ls hl => ?_)
          refine lv_goto (tgt := 55) hx hb d_P_findLinks_126 (by decide) ?_
          rw [hG55] at h
          exact h _ _ _ hP hS (lv_sub hl [1, 2, 0] rfl)
        · have h := h.2 cn
          refine lv_aload_n hx hb d_P_findLinks_92 rfl (lv_at hl 0 rfl) ?_
          refine va_get (D := D) (ci := 2) (v := .ref (ad 11)) (C := RX2) (T := TX2) (N := 10) hx hb htg inG_X2 hown hK hP 2 rfl rfl 1 (by decide) (htg _ m_125) (fun _ h9 => h9) rfl d_P_findLinks_93 ?_
          refine lv_aload_n hx hb d_P_findLinks_96 rfl (lv_at hl 0 rfl) ?_
          refine va_get (D := D) (ci := 2) (v := .int (σ9 0 6)) (C := RX2) (T := TX2) (N := 10) hx hb htg inG_X2 hown hK hP 2 rfl rfl 5 (by decide) (htg _ m_137) (fun _ h9 => h9) rfl d_P_findLinks_97 ?_
          refine lv_iload_n hx hb d_P_findLinks_100 rfl (lv_at hl 1 rfl) ?_
          have hi := h.1
          have h := h.2
          refine va_iast hx hb hK hP (hD _) hS 11 0 rfl rfl hi d_P_findLinks_101 (fun H locs hP _ hS => ?_)
          obtain ⟨σ11, eσ11⟩ : ∃ z : S0, z = st σ9 11 (σ9 0 6).toNatClampNeg x3 := ⟨_, rfl⟩
          have hP : va_P D vwCl (wC ad cA cB σ11) H := by rw [eσ11]; exact hP
          have h := h σ11 eσ11
          refine lv_aload_n hx hb d_P_findLinks_102 rfl (lv_at hl 0 rfl) ?_
          refine va_get (D := D) (ci := 2) (v := .ref (ad 12)) (C := RX2) (T := TX2) (N := 10) hx hb htg inG_X2 hown hK hP 2 rfl rfl 2 (by decide) (htg _ m_128) (fun _ h9 => h9) rfl d_P_findLinks_103 ?_
          refine lv_aload_n hx hb d_P_findLinks_106 rfl (lv_at hl 0 rfl) ?_
          refine va_get (D := D) (ci := 2) (v := .int (σ11 0 6)) (C := RX2) (T := TX2) (N := 10) hx hb htg inG_X2 hown hK hP 2 rfl rfl 5 (by decide) (htg _ m_137) (fun _ h9 => h9) rfl d_P_findLinks_107 ?_
          refine lv_iload hx hb d_P_findLinks_110 (lv_at hl 2 rfl) ?_
          have hi := h.1
          have h := h.2
          refine va_iast hx hb hK hP (hD _) hS 12 0 rfl rfl hi d_P_findLinks_112 (fun H locs hP _ hS => ?_)
          obtain ⟨σ12, eσ12⟩ : ∃ z : S0, z = st σ11 12 (σ11 0 6).toNatClampNeg x4 := ⟨_, rfl⟩
          have hP : va_P D vwCl (wC ad cA cB σ12) H := by rw [eσ12]; exact hP
          have h := h σ12 eσ12
          refine lv_aload_n hx hb d_P_findLinks_113 rfl (lv_at hl 0 rfl) ?_
          refine lv_dup hx hb d_P_findLinks_114 rfl ?_
          refine va_get (D := D) (ci := 2) (v := .int (σ12 0 6)) (C := RX2) (T := TX2) (N := 10) hx hb htg inG_X2 hown hK hP 2 rfl rfl 5 (by decide) (htg _ m_137) (fun _ h9 => h9) rfl d_P_findLinks_115 ?_
          refine lv_iconst (v := 1) hx hb d_P_findLinks_118 (by decide) ?_
          refine lv_iadd hx hb d_P_findLinks_119 ?_
          refine va_put (D := D) (ci := 2) (v := .int ((σ12 0 6) + 1)) (ty := .int) (C := RX2) (T := TX2) (N := 10) hx hb htg inG_X2 tyX2 tyX2_ok nmX2 hown hK hP (hD _) hS 2 rfl rfl 5 (by decide) (htg _ m_137) (fun _ h9 => h9) rfl (by decide +kernel) rfl rfl (Nat.le_of_ble_eq_true rfl) d_P_findLinks_120 (fun H locs hP _ hS => ?_)
          obtain ⟨σ13, eσ13⟩ : ∃ z : S0, z = st σ12 0 6 ((σ12 0 6) + 1) := ⟨_, rfl⟩
          have hP : va_P D vwCl (wC ad cA cB σ13) H := by rw [eσ13]; exact hP
          have h := h σ13 eσ13
          refine lv_iinc (v := (x4 + 1)) (lv' := [(4, .int (x4 + 1)), (0, .ref (ad 2)), (3, .int x3)]) hx hb d_P_findLinks_123 hl (k := 2) rfl rfl (by decide) rfl (fun ls hl => ?_)
          refine lv_goto (tgt := 55) hx hb d_P_findLinks_126 (by decide) ?_
          rw [hG55] at h
          exact h _ _ _ hP hS (lv_sub hl [1, 2, 0] rfl))
  obtain ⟨H, eH⟩ : ∃ z, z = s.heap := ⟨_, rfl⟩
  have hP : va_P D vwCl (wC ad cA cB σ) H := by rw [eH]; exact hP
  have hS : va_S (kAC ad s.heap.size) s.heap H [] := by rw [eH]; exact hS
  show W p l e (headSpec (Cond.code y_P_findLinks c_P_findLinks 5 none :: wsG) ({ frames := 2, cells := 0, slots := 0, locals := 60 } : Room)).room s m ([.ref (ad 2), .ref (ad 1)] : List Value).toArray below meth c s.heap [] 0 0 (MQ below (va_Qv post (kBC D ad cA cB) (kAC ad s.heap.size)) ([.ref (ad 2), .ref (ad 1)] : List Value).toArray s 0 0 (kAC ad s.heap.size)) (F0 m 0 ls [])
  suffices k : W p l e (headSpec (Cond.code y_P_findLinks c_P_findLinks 5 none :: wsG) ({ frames := 2, cells := 0, slots := 0, locals := 60 } : Room)).room s m ([.ref (ad 2), .ref (ad 1)] : List Value).toArray below meth c H [] 0 0 (MQ below (va_Qv post (kBC D ad cA cB) (kAC ad s.heap.size)) ([.ref (ad 2), .ref (ad 1)] : List Value).toArray s 0 0 (kAC ad s.heap.size)) (F0 m 0 ls []) by rw [eH] at k; exact k
  refine lv_aload_n hx hb d_P_findLinks_0 rfl (lv_at hl 1 rfl) ?_
  refine lv_aload_n hx hb d_P_findLinks_1 rfl (lv_at hl 1 rfl) ?_
  refine va_get (D := D) (ci := 0) (v := .int (σ 0 1)) (C := RX0) (T := TX0) (N := 9) hx hb htg inG_X0 hown hK hP 1 rfl rfl 3 (by decide) (htg _ m_86) (fun _ h9 => h9) rfl d_P_findLinks_2 ?_
  refine kC_i (va_runV (As := [.int (σ 0 1)]) (rest := []) ⟨hx, hb, hml, hown, htg⟩ (met_D_leadersOf l D ad cA cB hap σ H.size (σ 0 1) _ h) (cwV 1 htg (kG (kG_V m_436 m_324 m_325 m_54 (kG_self m_326))) rfl rfl rfl (by decide +kernel) ⟨Nat.le_of_ble_eq_true rfl, Nat.le_of_ble_eq_true rfl⟩) (kC_preV hK hF hP hS 1 rfl rfl _) rfl rfl hl.1 rfl (lv_room (Nat.le_of_ble_eq_true rfl)) d_P_findLinks_5 ⟨Nat.le_of_ble_eq_true rfl, Nat.le_of_ble_eq_true rfl⟩) hS (fun r2 σ1 H locs h hP hS => ?_)
  refine lv_aload_n hx hb d_P_findLinks_8 rfl (lv_at hl 0 rfl) ?_
  refine va_get (D := D) (ci := 2) (v := .int (σ1 0 4)) (C := RX2) (T := TX2) (N := 10) hx hb htg inG_X2 hown hK hP 2 rfl rfl 3 (by decide) (htg _ m_130) (fun _ h9 => h9) rfl d_P_findLinks_9 ?_
  refine lv_iconst (v := (-1)) hx hb d_P_findLinks_12 (by decide) ?_
  refine lv_ixor hx hb d_P_findLinks_13 ?_
  refine lv_iand hx hb d_P_findLinks_14 ?_
  refine lv_topi (fun v3 ev3 => ?_)
  have h := h v3 ev3
  refine lv_istore_n (lv' := [(2, .int v3), (0, .ref (ad 2)), (1, .ref (ad 1))]) hx hb d_P_findLinks_15 rfl hl (by decide) rfl (fun ls hl => ?_)
  refine lv_aload_n hx hb d_P_findLinks_16 rfl (lv_at hl 2 rfl) ?_
  refine va_get (D := D) (ci := 0) (v := .ref (ad 6)) (C := RX0) (T := TX0) (N := 9) hx hb htg inG_X0 hown hK hP 1 rfl rfl 2 (by decide) (htg _ m_85) (fun _ h9 => h9) rfl d_P_findLinks_17 ?_
  refine lv_iconst (v := 0) hx hb d_P_findLinks_20 (by decide) ?_
  refine lv_aload_n hx hb d_P_findLinks_21 rfl (lv_at hl 1 rfl) ?_
  refine va_get (D := D) (ci := 2) (v := .ref (ad 13)) (C := RX2) (T := TX2) (N := 10) hx hb htg inG_X2 hown hK hP 2 rfl rfl 7 (by decide) (htg _ m_141) (fun _ h9 => h9) rfl d_P_findLinks_22 ?_
  refine lv_iconst (v := 0) hx hb d_P_findLinks_25 (by decide) ?_
  refine lv_bipush (v := 16) hx hb d_P_findLinks_26 (by decide) ?_
  have hi := h.1
  have h := h.2
  refine va_copyi hx hb (hml.trans hl.1.symm) hown (htg _ m_441) (htg _ m_333) (htg _ m_332) (htg _ m_62) hK hP (hD _) hS 6 13 0 0 rfl rfl rfl rfl rfl (by decide) (by decide) hi.1 (by rw [sb_cl0, Nat.zero_add]; exact hi.2.1) (by rw [sb_cl0, Nat.zero_add]; exact hi.2.2) (fun _ _ => rfl) (Nat.le_of_ble_eq_true rfl) (Nat.le_of_ble_eq_true rfl) d_P_findLinks_28 (fun H locs hP _ hS => ?_)
  obtain ⟨σ4, eσ4⟩ : ∃ z : S0, z = cp σ1 6 13 (16 : Int32).toNatClampNeg := ⟨_, rfl⟩
  have hP : va_P D vwCl (wC ad cA cB σ4) H := by rw [eσ4]; exact hP
  have h := h σ4 eσ4
  refine lv_aload_n hx hb d_P_findLinks_31 rfl (lv_at hl 1 rfl) ?_
  refine va_get (D := D) (ci := 2) (v := .ref (ad 13)) (C := RX2) (T := TX2) (N := 10) hx hb htg inG_X2 hown hK hP 2 rfl rfl 7 (by decide) (htg _ m_141) (fun _ h9 => h9) rfl d_P_findLinks_32 ?_
  refine lv_iload_n hx hb d_P_findLinks_35 rfl (lv_at hl 0 rfl) ?_
  refine kC_v (va_runSN (As := [.ref (ad 13), .int v3]) (rest := []) ⟨hx, hb, hml, hown, htg⟩ (met_M_goOn_13 l D ad cA cB hap σ4 H.size v3 _ h) ⟨va_cnB (host := "MatrixSheets") 2 htg (kG (kG_self m_336)) rfl rfl rfl (hE _ me_442) (htg _ m_53) (by decide +kernel) ⟨Nat.le_of_ble_eq_true rfl, Nat.le_of_ble_eq_true rfl⟩, htg _ m_335, trivial⟩ (kC_pre hK hF hP hS _) rfl rfl hl.1 rfl (lv_room (Nat.le_of_ble_eq_true rfl)) d_P_findLinks_36 ⟨Nat.le_of_ble_eq_true rfl, Nat.le_of_ble_eq_true rfl⟩) hS (fun σ5 H locs h hP hS => ?_)
  refine lv_aload_n hx hb d_P_findLinks_39 rfl (lv_at hl 1 rfl) ?_
  refine lv_iconst (v := 0) hx hb d_P_findLinks_40 (by decide) ?_
  refine va_put (D := D) (ci := 2) (v := .int 0) (ty := .int) (C := RX2) (T := TX2) (N := 10) hx hb htg inG_X2 tyX2 tyX2_ok nmX2 hown hK hP (hD _) hS 2 rfl rfl 5 (by decide) (htg _ m_137) (fun _ h9 => h9) rfl (by decide +kernel) rfl rfl (Nat.le_of_ble_eq_true rfl) d_P_findLinks_41 (fun H locs hP _ hS => ?_)
  obtain ⟨σ6, eσ6⟩ : ∃ z : S0, z = st σ5 0 6 0 := ⟨_, rfl⟩
  have hP : va_P D vwCl (wC ad cA cB σ6) H := by rw [eσ6]; exact hP
  have h := h σ6 eσ6
  refine lv_iconst (v := 0) hx hb d_P_findLinks_44 (by decide) ?_
  refine lv_istore_n (lv' := [(3, .int 0), (2, .int v3), (0, .ref (ad 2)), (1, .ref (ad 1))]) hx hb d_P_findLinks_45 rfl hl (by decide) rfl (fun ls hl => ?_)
  rw [hG46] at h
  exact h _ _ _ hP hS (lv_sub hl [2, 0] rfl)
set_option maxHeartbeats 4000000 in
set_option maxRecDepth 100000 in
theorem met_P_findForerunners (l : Launch) (D : va_G) (ad : Nat → Nat) (cA cB : ClassId) (hap : kapC ad) (σ : S0) (sz : Nat) (post : S0 → Prop) (h : Sp_P_findForerunners  σ post) : Met l y_P_findForerunners (Cond.code y_P_findForerunners c_P_findForerunners 4 none :: wsG) ({ frames := 1, cells := 0, slots := 0, locals := 22 } : Room) (kPcC D ad cA cB σ sz [.ref (ad 2), .ref (ad 1)]) (va_Qv post (kBC D ad cA cB) (kAC ad sz)) 0 0 (kAC ad sz) := by
  refine Met.ofW (cc := c_P_findForerunners) (maxL := 4) (ret := none) (by decide) rfl ?_
  intro p e s m args below meth c s₁ B hml hv
  obtain ⟨rfl, hsz, hP, hK, hF⟩ := hv
  have hx := B.exec
  have hb := B.bytes
  have hr := B.returns
  have hts := atoms_spec (ws := (Cond.code y_P_findForerunners c_P_findForerunners 4 none :: wsG)) B.pre
  have htg : ∀ w ∈ wsG, w.before ([.ref (ad 2), .ref (ad 1)] : List Value).toArray s = true := fun w h => hts w (List.mem_cons_of_mem _ h)
  have hown : s.vm.findClass RX2 = some m.cls := findClass_of_methodNamed B.named
  have hlocks := B.notSynchronized
  subst hsz
  have hD : ∀ σ, va_D (kAC ad s.heap.size) (wC ad cA cB σ) := fun σ => wC_D hap cA cB σ _
  have hS : va_S (kAC ad s.heap.size) s.heap s.heap [] := va_S.rf
  have hE := hF.1
  have hl := lv_entry ([.ref (ad 2), .ref (ad 1)]) (n := 4) (Nat.le_of_ble_eq_true rfl)
  rw [lg_entry_eq]
  generalize (lg_sl ([.ref (ad 2), .ref (ad 1)]) ++ List.replicate (4 - (lg_sl ([.ref (ad 2), .ref (ad 1)])).length) Slot.unset).toArray = ls at hl ⊢
  have hl : lv_has ls 4 [(0, .ref (ad 2)), (1, .ref (ad 1))] := hl
  unfold Sp_P_findForerunners at h
  obtain ⟨G2, hG2⟩ : ∃ G : Int32 → S0 → Prop, G = fun (x2 : Int32) (σ : S0) => ∀ (H : Heap) (locs : List Loc) (ls : Array Slot), va_P D vwCl (wC ad cA cB σ) H → va_S (kAC ad s.heap.size) s.heap H locs → lv_has ls 4 [(0, .ref (ad 2)), (1, .ref (ad 1)), (2, .int x2)] → W p l e (headSpec (Cond.code y_P_findForerunners c_P_findForerunners 4 none :: wsG) ({ frames := 1, cells := 0, slots := 0, locals := 22 } : Room)).room s m ([.ref (ad 2), .ref (ad 1)] : List Value).toArray below meth c H locs 0 0 (MQ below (va_Qv post (kBC D ad cA cB) (kAC ad s.heap.size)) ([.ref (ad 2), .ref (ad 1)] : List Value).toArray s 0 0 (kAC ad s.heap.size)) (F0 m 2 ls []) := ⟨_, rfl⟩
  obtain ⟨G17, hG17⟩ : ∃ G : Int32 → Int32 → S0 → Prop, G = fun (x2 x3 : Int32) (σ : S0) => ∀ (H : Heap) (locs : List Loc) (ls : Array Slot), va_P D vwCl (wC ad cA cB σ) H → va_S (kAC ad s.heap.size) s.heap H locs → lv_has ls 4 [(0, .ref (ad 2)), (1, .ref (ad 1)), (2, .int x2), (3, .int x3)] → W p l e (headSpec (Cond.code y_P_findForerunners c_P_findForerunners 4 none :: wsG) ({ frames := 1, cells := 0, slots := 0, locals := 22 } : Room)).room s m ([.ref (ad 2), .ref (ad 1)] : List Value).toArray below meth c H locs 0 0 (MQ below (va_Qv post (kBC D ad cA cB) (kAC ad s.heap.size)) ([.ref (ad 2), .ref (ad 1)] : List Value).toArray s 0 0 (kAC ad s.heap.size)) (F0 m 17 ls []) := ⟨_, rfl⟩
  obtain ⟨G56, hG56⟩ : ∃ G : Int32 → Int32 → S0 → Prop, G = fun (x2 x3 : Int32) (σ : S0) => ∀ (H : Heap) (locs : List Loc) (ls : Array Slot), va_P D vwCl (wC ad cA cB σ) H → va_S (kAC ad s.heap.size) s.heap H locs → lv_has ls 4 [(0, .ref (ad 2)), (1, .ref (ad 1)), (2, .int x2), (3, .int x3)] → W p l e (headSpec (Cond.code y_P_findForerunners c_P_findForerunners 4 none :: wsG) ({ frames := 1, cells := 0, slots := 0, locals := 22 } : Room)).room s m ([.ref (ad 2), .ref (ad 1)] : List Value).toArray below meth c H locs 0 0 (MQ below (va_Qv post (kBC D ad cA cB) (kAC ad s.heap.size)) ([.ref (ad 2), .ref (ad 1)] : List Value).toArray s 0 0 (kAC ad s.heap.size)) (F0 m 56 ls []) := ⟨_, rfl⟩
  have h := h G2 G17 G56
  have h := h (by
    intro x2 σ h
    rw [hG2]
    intro H locs ls hP hS hl
    refine lv_iload_n hx hb d_P_findForerunners_2 rfl (lv_at hl 2 rfl) ?_
    refine lv_bipush (v := 16) hx hb d_P_findForerunners_3 (by decide) ?_
    refine lv_icmp_ge (tgt := 80) hx hb d_P_findForerunners_5 (by decide) (fun cn => ?_) (fun cn => ?_)
    · have h := h.1 cn
      exact W.vret hx hb hr (fun t ht hW => ⟨⟨σ, rfl, h, kBC_of ht hP⟩, hS.F ht⟩) hS.2.2 d_P_findForerunners_80 hlocks
    · have h := h.2 cn
      refine lv_aload_n hx hb d_P_findForerunners_8 rfl (lv_at hl 0 rfl) ?_
      refine va_get (D := D) (ci := 2) (v := .ref (ad 14)) (C := RX2) (T := TX2) (N := 10) hx hb htg inG_X2 hown hK hP 2 rfl rfl 8 (by decide) (htg _ m_142) (fun _ h9 => h9) rfl d_P_findForerunners_9 ?_
      refine lv_iload_n hx hb d_P_findForerunners_12 rfl (lv_at hl 2 rfl) ?_
      refine lv_iconst (v := 0) hx hb d_P_findForerunners_13 (by decide) ?_
      have hi := h.1
      have h := h.2
      refine va_iast hx hb hK hP (hD _) hS 14 0 rfl rfl hi d_P_findForerunners_14 (fun H locs hP _ hS => ?_)
      obtain ⟨σ1, eσ1⟩ : ∃ z : S0, z = st σ 14 x2.toNatClampNeg 0 := ⟨_, rfl⟩
      have hP : va_P D vwCl (wC ad cA cB σ1) H := by rw [eσ1]; exact hP
      have h := h σ1 eσ1
      refine lv_iconst (v := 0) hx hb d_P_findForerunners_15 (by decide) ?_
      refine lv_istore_n (lv' := [(3, .int 0), (0, .ref (ad 2)), (1, .ref (ad 1)), (2, .int x2)]) hx hb d_P_findForerunners_16 rfl hl (by decide) rfl (fun ls hl => ?_)
      rw [hG17] at h
      exact h _ _ _ hP hS (lv_sub hl [1, 2, 3, 0] rfl))
  have h := h (by
    intro x2 x3 σ h
    rw [hG17]
    intro H locs ls hP hS hl
    refine lv_iload_n hx hb d_P_findForerunners_17 rfl (lv_at hl 3 rfl) ?_
    refine lv_bipush (v := 16) hx hb d_P_findForerunners_18 (by decide) ?_
    refine lv_icmp_ge (tgt := 74) hx hb d_P_findForerunners_20 (by decide) (fun cn => ?_) (fun cn => ?_)
    · have h := h.1 cn
      refine lv_iinc (v := (x2 + 1)) (lv' := [(2, .int (x2 + 1)), (0, .ref (ad 2)), (1, .ref (ad 1)), (3, .int x3)]) hx hb d_P_findForerunners_74 hl (k := 2) rfl rfl (by decide) rfl (fun ls hl => ?_)
      refine lv_goto (tgt := 2) hx hb d_P_findForerunners_77 (by decide) ?_
      rw [hG2] at h
      exact h _ _ _ hP hS (lv_sub hl [1, 2, 0] rfl)
    · have h := h.2 cn
      refine lv_aload_n hx hb d_P_findForerunners_23 rfl (lv_at hl 0 rfl) ?_
      refine va_get (D := D) (ci := 2) (v := .int (σ 0 4)) (C := RX2) (T := TX2) (N := 10) hx hb htg inG_X2 hown hK hP 2 rfl rfl 3 (by decide) (htg _ m_130) (fun _ h9 => h9) rfl d_P_findForerunners_24 ?_
      refine lv_iload_n hx hb d_P_findForerunners_27 rfl (lv_at hl 3 rfl) ?_
      refine kC_i (va_runSN (As := [.int (σ 0 4), .int x3]) (rest := []) ⟨hx, hb, hml, hown, htg⟩ (met_M_has l D ad cA cB hap σ H.size (σ 0 4) x3 _ h) ⟨va_cnB (host := "MatrixSheets") 2 htg (kG (kG_self m_318)) rfl rfl rfl (hE _ me_443) (htg _ m_53) (by decide +kernel) ⟨Nat.le_of_ble_eq_true rfl, Nat.le_of_ble_eq_true rfl⟩, htg _ m_317, trivial⟩ (kC_pre hK hF hP hS _) rfl rfl hl.1 rfl (lv_room (Nat.le_of_ble_eq_true rfl)) d_P_findForerunners_28 ⟨Nat.le_of_ble_eq_true rfl, Nat.le_of_ble_eq_true rfl⟩) hS (fun r3 σ2 H locs h hP hS => ?_)
      refine lv_if_eq (tgt := 68) hx hb d_P_findForerunners_31 (by decide) (fun cn => ?_) (fun cn => ?_)
      · have h := h.1 cn
        refine lv_iinc (v := (x3 + 1)) (lv' := [(3, .int (x3 + 1)), (0, .ref (ad 2)), (1, .ref (ad 1)), (2, .int x2)]) hx hb d_P_findForerunners_68 hl (k := 3) rfl rfl (by decide) rfl (fun ls hl => ?_)
        refine lv_goto (tgt := 17) hx hb d_P_findForerunners_71 (by decide) ?_
        rw [hG17] at h
        exact h _ _ _ hP hS (lv_sub hl [1, 2, 3, 0] rfl)
      · have h := h.2 cn
        refine lv_aload_n hx hb d_P_findForerunners_34 rfl (lv_at hl 0 rfl) ?_
        refine va_get (D := D) (ci := 2) (v := .ref (ad 13)) (C := RX2) (T := TX2) (N := 10) hx hb htg inG_X2 hown hK hP 2 rfl rfl 7 (by decide) (htg _ m_141) (fun _ h9 => h9) rfl d_P_findForerunners_35 ?_
        refine lv_iload_n hx hb d_P_findForerunners_38 rfl (lv_at hl 3 rfl) ?_
        have hi := h.1
        have h := h.2
        refine va_iald hx hb hK hP 13 0 rfl rfl hi d_P_findForerunners_39 ?_
        refine lv_iload_n hx hb d_P_findForerunners_40 rfl (lv_at hl 2 rfl) ?_
        refine kC_i (va_runSN (As := [.int (σ2 13 x3.toNatClampNeg), .int x2]) (rest := []) ⟨hx, hb, hml, hown, htg⟩ (met_M_has l D ad cA cB hap σ2 H.size (σ2 13 x3.toNatClampNeg) x2 _ h) ⟨va_cnB (host := "MatrixSheets") 2 htg (kG (kG_self m_318)) rfl rfl rfl (hE _ me_443) (htg _ m_53) (by decide +kernel) ⟨Nat.le_of_ble_eq_true rfl, Nat.le_of_ble_eq_true rfl⟩, htg _ m_317, trivial⟩ (kC_pre hK hF hP hS _) rfl rfl hl.1 rfl (lv_room (Nat.le_of_ble_eq_true rfl)) d_P_findForerunners_41 ⟨Nat.le_of_ble_eq_true rfl, Nat.le_of_ble_eq_true rfl⟩) hS (fun r5 σ4 H locs h hP hS => ?_)
        refine lv_if_ne (tgt := 56) hx hb d_P_findForerunners_44 (by decide) (fun cn => ?_) (fun cn => ?_)
        · have h := h.1 cn
          rw [hG56] at h
          exact h _ _ _ hP hS (lv_sub hl [0, 1, 2, 3] rfl)
        · have h := h.2 cn
          refine lv_aload_n hx hb d_P_findForerunners_47 rfl (lv_at hl 1 rfl) ?_
          refine lv_iload_n hx hb d_P_findForerunners_48 rfl (lv_at hl 2 rfl) ?_
          refine lv_iload_n hx hb d_P_findForerunners_49 rfl (lv_at hl 3 rfl) ?_
          refine kC_i (va_runV (As := [.int x2, .int x3]) (rest := []) ⟨hx, hb, hml, hown, htg⟩ (met_D_isLaterPhase l D ad cA cB hap σ4 H.size x2 x3 _ h) (cwV 2 htg (kG (kG_V m_448 m_421 m_422 m_54 (kG_self m_423))) rfl rfl rfl (by decide +kernel) ⟨Nat.le_of_ble_eq_true rfl, Nat.le_of_ble_eq_true rfl⟩) (kC_preV hK hF hP hS 1 rfl rfl _) rfl rfl hl.1 rfl (lv_room (Nat.le_of_ble_eq_true rfl)) d_P_findForerunners_50 ⟨Nat.le_of_ble_eq_true rfl, Nat.le_of_ble_eq_true rfl⟩) hS (fun r7 σ6 H locs h hP hS => ?_)
          refine lv_if_eq (tgt := 68) hx hb d_P_findForerunners_53 (by decide) (fun cn => ?_) (fun cn => ?_)
          · have h := h.1 cn
            refine lv_iinc (v := (x3 + 1)) (lv' := [(3, .int (x3 + 1)), (0, .ref (ad 2)), (1, .ref (ad 1)), (2, .int x2)]) hx hb d_P_findForerunners_68 hl (k := 3) rfl rfl (by decide) rfl (fun ls hl => ?_)
            refine lv_goto (tgt := 17) hx hb d_P_findForerunners_71 (by decide) ?_
            rw [hG17] at h
            exact h _ _ _ hP hS (lv_sub hl [1, 2, 3, 0] rfl)
          · have h := h.2 cn
            rw [hG56] at h
            exact h _ _ _ hP hS (lv_sub hl [0, 1, 2, 3] rfl))
  have h := h (by
    intro x2 x3 σ h
    rw [hG56]
    intro H locs ls hP hS hl
    refine lv_aload_n hx hb d_P_findForerunners_56 rfl (lv_at hl 0 rfl) ?_
    refine va_get (D := D) (ci := 2) (v := .ref (ad 14)) (C := RX2) (T := TX2) (N := 10) hx hb htg inG_X2 hown hK hP 2 rfl rfl 8 (by decide) (htg _ m_142) (fun _ h9 => h9) rfl d_P_findForerunners_57 ?_
    refine lv_iload_n hx hb d_P_findForerunners_60 rfl (lv_at hl 2 rfl) ?_
    refine lv_dup2_11 hx hb d_P_findForerunners_61 rfl rfl ?_
    have hi := h.1
    have h := h.2
    refine va_iald hx hb hK hP 14 0 rfl rfl hi d_P_findForerunners_62 ?_
    refine lv_iconst (v := 1) hx hb d_P_findForerunners_63 (by decide) ?_
    refine lv_iload_n hx hb d_P_findForerunners_64 rfl (lv_at hl 3 rfl) ?_
    refine lv_ishl hx hb d_P_findForerunners_65 ?_
    refine lv_ior hx hb d_P_findForerunners_66 ?_
    have hi := h.1
    have h := h.2
    refine va_iast hx hb hK hP (hD _) hS 14 0 rfl rfl hi d_P_findForerunners_67 (fun H locs hP _ hS => ?_)
    obtain ⟨σ8, eσ8⟩ : ∃ z : S0, z = st σ 14 x2.toNatClampNeg ((σ 14 x2.toNatClampNeg) ||| (1 <<< (x3 &&& 31))) := ⟨_, rfl⟩
    have hP : va_P D vwCl (wC ad cA cB σ8) H := by rw [eσ8]; exact hP
    have h := h σ8 eσ8
    refine lv_iinc (v := (x3 + 1)) (lv' := [(3, .int (x3 + 1)), (0, .ref (ad 2)), (1, .ref (ad 1)), (2, .int x2)]) hx hb d_P_findForerunners_68 hl (k := 3) rfl rfl (by decide) rfl (fun ls hl => ?_)
    refine lv_goto (tgt := 17) hx hb d_P_findForerunners_71 (by decide) ?_
    rw [hG17] at h
    exact h _ _ _ hP hS (lv_sub hl [1, 2, 3, 0] rfl))
  obtain ⟨H, eH⟩ : ∃ z, z = s.heap := ⟨_, rfl⟩
  have hP : va_P D vwCl (wC ad cA cB σ) H := by rw [eH]; exact hP
  have hS : va_S (kAC ad s.heap.size) s.heap H [] := by rw [eH]; exact hS
  show W p l e (headSpec (Cond.code y_P_findForerunners c_P_findForerunners 4 none :: wsG) ({ frames := 1, cells := 0, slots := 0, locals := 22 } : Room)).room s m ([.ref (ad 2), .ref (ad 1)] : List Value).toArray below meth c s.heap [] 0 0 (MQ below (va_Qv post (kBC D ad cA cB) (kAC ad s.heap.size)) ([.ref (ad 2), .ref (ad 1)] : List Value).toArray s 0 0 (kAC ad s.heap.size)) (F0 m 0 ls [])
  suffices k : W p l e (headSpec (Cond.code y_P_findForerunners c_P_findForerunners 4 none :: wsG) ({ frames := 1, cells := 0, slots := 0, locals := 22 } : Room)).room s m ([.ref (ad 2), .ref (ad 1)] : List Value).toArray below meth c H [] 0 0 (MQ below (va_Qv post (kBC D ad cA cB) (kAC ad s.heap.size)) ([.ref (ad 2), .ref (ad 1)] : List Value).toArray s 0 0 (kAC ad s.heap.size)) (F0 m 0 ls []) by rw [eH] at k; exact k
  refine lv_iconst (v := 0) hx hb d_P_findForerunners_0 (by decide) ?_
  refine lv_istore_n (lv' := [(2, .int 0), (0, .ref (ad 2)), (1, .ref (ad 1))]) hx hb d_P_findForerunners_1 rfl hl (by decide) rfl (fun ls hl => ?_)
  rw [hG2] at h
  exact h _ _ _ hP hS (lv_sub hl [1, 2, 0] rfl)
set_option maxHeartbeats 4000000 in
set_option maxRecDepth 100000 in
theorem met_P_layRows (l : Launch) (D : va_G) (ad : Nat → Nat) (cA cB : ClassId) (hap : kapC ad) (σ : S0) (sz : Nat) (post : S0 → Prop) (h : Sp_P_layRows  σ post) : Met l y_P_layRows (Cond.code y_P_layRows c_P_layRows 4 none :: wsG) ({ frames := 1, cells := 0, slots := 0, locals := 21 } : Room) (kPcC D ad cA cB σ sz [.ref (ad 2)]) (va_Qv post (kBC D ad cA cB) (kAC ad sz)) 0 0 (kAC ad sz) := by
  refine Met.ofW (cc := c_P_layRows) (maxL := 4) (ret := none) (by decide) rfl ?_
  intro p e s m args below meth c s₁ B hml hv
  obtain ⟨rfl, hsz, hP, hK, hF⟩ := hv
  have hx := B.exec
  have hb := B.bytes
  have hr := B.returns
  have hts := atoms_spec (ws := (Cond.code y_P_layRows c_P_layRows 4 none :: wsG)) B.pre
  have htg : ∀ w ∈ wsG, w.before ([.ref (ad 2)] : List Value).toArray s = true := fun w h => hts w (List.mem_cons_of_mem _ h)
  have hown : s.vm.findClass RX2 = some m.cls := findClass_of_methodNamed B.named
  have hlocks := B.notSynchronized
  subst hsz
  have hD : ∀ σ, va_D (kAC ad s.heap.size) (wC ad cA cB σ) := fun σ => wC_D hap cA cB σ _
  have hS : va_S (kAC ad s.heap.size) s.heap s.heap [] := va_S.rf
  have hE := hF.1
  have hl := lv_entry ([.ref (ad 2)]) (n := 4) (Nat.le_of_ble_eq_true rfl)
  rw [lg_entry_eq]
  generalize (lg_sl ([.ref (ad 2)]) ++ List.replicate (4 - (lg_sl ([.ref (ad 2)])).length) Slot.unset).toArray = ls at hl ⊢
  have hl : lv_has ls 4 [(0, .ref (ad 2))] := hl
  unfold Sp_P_layRows at h
  obtain ⟨G7, hG7⟩ : ∃ G : Int32 → S0 → Prop, G = fun (x1 : Int32) (σ : S0) => ∀ (H : Heap) (locs : List Loc) (ls : Array Slot), va_P D vwCl (wC ad cA cB σ) H → va_S (kAC ad s.heap.size) s.heap H locs → lv_has ls 4 [(0, .ref (ad 2)), (1, .int x1)] → W p l e (headSpec (Cond.code y_P_layRows c_P_layRows 4 none :: wsG) ({ frames := 1, cells := 0, slots := 0, locals := 21 } : Room)).room s m ([.ref (ad 2)] : List Value).toArray below meth c H locs 0 0 (MQ below (va_Qv post (kBC D ad cA cB) (kAC ad s.heap.size)) ([.ref (ad 2)] : List Value).toArray s 0 0 (kAC ad s.heap.size)) (F0 m 7 ls []) := ⟨_, rfl⟩
  obtain ⟨G28, hG28⟩ : ∃ G : Int32 → Int32 → Int32 → S0 → Prop, G = fun (x1 x2 x3 : Int32) (σ : S0) => ∀ (H : Heap) (locs : List Loc) (ls : Array Slot), va_P D vwCl (wC ad cA cB σ) H → va_S (kAC ad s.heap.size) s.heap H locs → lv_has ls 4 [(0, .ref (ad 2)), (1, .int x1), (2, .int x2), (3, .int x3)] → W p l e (headSpec (Cond.code y_P_layRows c_P_layRows 4 none :: wsG) ({ frames := 1, cells := 0, slots := 0, locals := 21 } : Room)).room s m ([.ref (ad 2)] : List Value).toArray below meth c H locs 0 0 (MQ below (va_Qv post (kBC D ad cA cB) (kAC ad s.heap.size)) ([.ref (ad 2)] : List Value).toArray s 0 0 (kAC ad s.heap.size)) (F0 m 28 ls []) := ⟨_, rfl⟩
  have h := h G7 G28
  have h := h (by
    intro x1 σ h
    rw [hG7]
    intro H locs ls hP hS hl
    refine lv_iload_n hx hb d_P_layRows_7 rfl (lv_at hl 1 rfl) ?_
    refine lv_aload_n hx hb d_P_layRows_8 rfl (lv_at hl 0 rfl) ?_
    refine va_get (D := D) (ci := 2) (v := .int (σ 0 4)) (C := RX2) (T := TX2) (N := 10) hx hb htg inG_X2 hown hK hP 2 rfl rfl 3 (by decide) (htg _ m_130) (fun _ h9 => h9) rfl d_P_layRows_9 ?_
    refine lv_icmp_eq (tgt := 101) hx hb d_P_layRows_12 (by decide) (fun cn => ?_) (fun cn => ?_)
    · have h := h.1 cn
      exact W.vret hx hb hr (fun t ht hW => ⟨⟨σ, rfl, h, kBC_of ht hP⟩, hS.F ht⟩) hS.2.2 d_P_layRows_101 hlocks
    · have h := h.2 cn
      refine lv_aload_n hx hb d_P_layRows_15 rfl (lv_at hl 0 rfl) ?_
      refine va_get (D := D) (ci := 2) (v := .int (σ 0 5)) (C := RX2) (T := TX2) (N := 10) hx hb htg inG_X2 hown hK hP 2 rfl rfl 4 (by decide) (htg _ m_134) (fun _ h9 => h9) rfl d_P_layRows_16 ?_
      refine lv_bipush (v := 16) hx hb d_P_layRows_19 (by decide) ?_
      refine lv_icmp_ge (tgt := 101) hx hb d_P_layRows_21 (by decide) (fun cn => ?_) (fun cn => ?_)
      · have h := h.1 cn
        exact W.vret hx hb hr (fun t ht hW => ⟨⟨σ, rfl, h, kBC_of ht hP⟩, hS.F ht⟩) hS.2.2 d_P_layRows_101 hlocks
      · have h := h.2 cn
        refine lv_iconst (v := 0) hx hb d_P_layRows_24 (by decide) ?_
        refine lv_istore_n (lv' := [(2, .int 0), (0, .ref (ad 2)), (1, .int x1)]) hx hb d_P_layRows_25 rfl hl (by decide) rfl (fun ls hl => ?_)
        refine lv_iconst (v := 0) hx hb d_P_layRows_26 (by decide) ?_
        refine lv_istore_n (lv' := [(3, .int 0), (2, .int 0), (0, .ref (ad 2)), (1, .int x1)]) hx hb d_P_layRows_27 rfl hl (by decide) rfl (fun ls hl => ?_)
        rw [hG28] at h
        exact h _ _ _ hP hS (lv_sub hl [2, 3, 1, 0] rfl))
  have h := h (by
    intro x1 x2 x3 σ h
    rw [hG28]
    intro H locs ls hP hS hl
    refine lv_iload_n hx hb d_P_layRows_28 rfl (lv_at hl 3 rfl) ?_
    refine lv_bipush (v := 16) hx hb d_P_layRows_29 (by decide) ?_
    refine lv_icmp_ge (tgt := 84) hx hb d_P_layRows_31 (by decide) (fun cn => ?_) (fun cn => ?_)
    · have h := h.1 cn
      refine lv_iload_n hx hb d_P_layRows_84 rfl (lv_at hl 1 rfl) ?_
      refine lv_iload_n hx hb d_P_layRows_85 rfl (lv_at hl 2 rfl) ?_
      refine lv_ior hx hb d_P_layRows_86 ?_
      refine lv_topi (fun v2 ev2 => ?_)
      have h := h v2 ev2
      refine lv_istore_n (lv' := [(1, .int v2), (0, .ref (ad 2)), (2, .int x2), (3, .int x3)]) hx hb d_P_layRows_87 rfl hl (by decide) rfl (fun ls hl => ?_)
      refine lv_aload_n hx hb d_P_layRows_88 rfl (lv_at hl 1 rfl) ?_
      refine lv_dup hx hb d_P_layRows_89 rfl ?_
      refine va_get (D := D) (ci := 2) (v := .int (σ 0 5)) (C := RX2) (T := TX2) (N := 10) hx hb htg inG_X2 hown hK hP 2 rfl rfl 4 (by decide) (htg _ m_134) (fun _ h9 => h9) rfl d_P_layRows_90 ?_
      refine lv_iconst (v := 1) hx hb d_P_layRows_93 (by decide) ?_
      refine lv_iadd hx hb d_P_layRows_94 ?_
      refine va_put (D := D) (ci := 2) (v := .int ((σ 0 5) + 1)) (ty := .int) (C := RX2) (T := TX2) (N := 10) hx hb htg inG_X2 tyX2 tyX2_ok nmX2 hown hK hP (hD _) hS 2 rfl rfl 4 (by decide) (htg _ m_134) (fun _ h9 => h9) rfl (by decide +kernel) rfl rfl (Nat.le_of_ble_eq_true rfl) d_P_layRows_95 (fun H locs hP _ hS => ?_)
      obtain ⟨σ3, eσ3⟩ : ∃ z : S0, z = st σ 0 5 ((σ 0 5) + 1) := ⟨_, rfl⟩
      have hP : va_P D vwCl (wC ad cA cB σ3) H := by rw [eσ3]; exact hP
      have h := h σ3 eσ3
      refine lv_goto (tgt := 7) hx hb d_P_layRows_98 (by decide) ?_
      rw [hG7] at h
      exact h _ _ _ hP hS (lv_sub hl [1, 0] rfl)
    · have h := h.2 cn
      refine lv_aload_n hx hb d_P_layRows_34 rfl (lv_at hl 0 rfl) ?_
      refine va_get (D := D) (ci := 2) (v := .int (σ 0 4)) (C := RX2) (T := TX2) (N := 10) hx hb htg inG_X2 hown hK hP 2 rfl rfl 3 (by decide) (htg _ m_130) (fun _ h9 => h9) rfl d_P_layRows_35 ?_
      refine lv_iload_n hx hb d_P_layRows_38 rfl (lv_at hl 1 rfl) ?_
      refine lv_iconst (v := (-1)) hx hb d_P_layRows_39 (by decide) ?_
      refine lv_ixor hx hb d_P_layRows_40 ?_
      refine lv_iand hx hb d_P_layRows_41 ?_
      refine lv_iload_n hx hb d_P_layRows_42 rfl (lv_at hl 3 rfl) ?_
      refine kC_i (va_runSN (As := [.int ((σ 0 4) &&& (x1 ^^^ (-1))), .int x3]) (rest := []) ⟨hx, hb, hml, hown, htg⟩ (met_M_has l D ad cA cB hap σ H.size ((σ 0 4) &&& (x1 ^^^ (-1))) x3 _ h) ⟨va_cnB (host := "MatrixSheets") 2 htg (kG (kG_self m_318)) rfl rfl rfl (hE _ me_443) (htg _ m_53) (by decide +kernel) ⟨Nat.le_of_ble_eq_true rfl, Nat.le_of_ble_eq_true rfl⟩, htg _ m_317, trivial⟩ (kC_pre hK hF hP hS _) rfl rfl hl.1 rfl (lv_room (Nat.le_of_ble_eq_true rfl)) d_P_layRows_43 ⟨Nat.le_of_ble_eq_true rfl, Nat.le_of_ble_eq_true rfl⟩) hS (fun r5 σ4 H locs h hP hS => ?_)
      refine lv_if_eq (tgt := 78) hx hb d_P_layRows_46 (by decide) (fun cn => ?_) (fun cn => ?_)
      · have h := h.1 cn
        refine lv_iinc (v := (x3 + 1)) (lv' := [(3, .int (x3 + 1)), (0, .ref (ad 2)), (1, .int x1), (2, .int x2)]) hx hb d_P_layRows_78 hl (k := 3) rfl rfl (by decide) rfl (fun ls hl => ?_)
        refine lv_goto (tgt := 28) hx hb d_P_layRows_81 (by decide) ?_
        rw [hG28] at h
        exact h _ _ _ hP hS (lv_sub hl [1, 2, 3, 0] rfl)
      · have h := h.2 cn
        refine lv_aload_n hx hb d_P_layRows_49 rfl (lv_at hl 0 rfl) ?_
        refine va_get (D := D) (ci := 2) (v := .ref (ad 14)) (C := RX2) (T := TX2) (N := 10) hx hb htg inG_X2 hown hK hP 2 rfl rfl 8 (by decide) (htg _ m_142) (fun _ h9 => h9) rfl d_P_layRows_50 ?_
        refine lv_iload_n hx hb d_P_layRows_53 rfl (lv_at hl 3 rfl) ?_
        have hi := h.1
        have h := h.2
        refine va_iald hx hb hK hP 14 0 rfl rfl hi d_P_layRows_54 ?_
        refine lv_iload_n hx hb d_P_layRows_55 rfl (lv_at hl 1 rfl) ?_
        refine lv_iconst (v := (-1)) hx hb d_P_layRows_56 (by decide) ?_
        refine lv_ixor hx hb d_P_layRows_57 ?_
        refine lv_iand hx hb d_P_layRows_58 ?_
        refine lv_if_ne (tgt := 78) hx hb d_P_layRows_59 (by decide) (fun cn => ?_) (fun cn => ?_)
        · have h := h.1 cn
          refine lv_iinc (v := (x3 + 1)) (lv' := [(3, .int (x3 + 1)), (0, .ref (ad 2)), (1, .int x1), (2, .int x2)]) hx hb d_P_layRows_78 hl (k := 3) rfl rfl (by decide) rfl (fun ls hl => ?_)
          refine lv_goto (tgt := 28) hx hb d_P_layRows_81 (by decide) ?_
          rw [hG28] at h
          exact h _ _ _ hP hS (lv_sub hl [1, 2, 3, 0] rfl)
        · have h := h.2 cn
          refine lv_aload_n hx hb d_P_layRows_62 rfl (lv_at hl 0 rfl) ?_
          refine va_get (D := D) (ci := 2) (v := .ref (ad 10)) (C := RX2) (T := TX2) (N := 10) hx hb htg inG_X2 hown hK hP 2 rfl rfl 0 (by decide) (htg _ m_122) (fun _ h9 => h9) rfl d_P_layRows_63 ?_
          refine lv_iload_n hx hb d_P_layRows_66 rfl (lv_at hl 3 rfl) ?_
          refine lv_aload_n hx hb d_P_layRows_67 rfl (lv_at hl 0 rfl) ?_
          refine va_get (D := D) (ci := 2) (v := .int (σ4 0 5)) (C := RX2) (T := TX2) (N := 10) hx hb htg inG_X2 hown hK hP 2 rfl rfl 4 (by decide) (htg _ m_134) (fun _ h9 => h9) rfl d_P_layRows_68 ?_
          have hi := h.1
          have h := h.2
          refine va_iast hx hb hK hP (hD _) hS 10 0 rfl rfl hi d_P_layRows_71 (fun H locs hP _ hS => ?_)
          obtain ⟨σ6, eσ6⟩ : ∃ z : S0, z = st σ4 10 x3.toNatClampNeg (σ4 0 5) := ⟨_, rfl⟩
          have hP : va_P D vwCl (wC ad cA cB σ6) H := by rw [eσ6]; exact hP
          have h := h σ6 eσ6
          refine lv_iload_n hx hb d_P_layRows_72 rfl (lv_at hl 2 rfl) ?_
          refine lv_iconst (v := 1) hx hb d_P_layRows_73 (by decide) ?_
          refine lv_iload_n hx hb d_P_layRows_74 rfl (lv_at hl 3 rfl) ?_
          refine lv_ishl hx hb d_P_layRows_75 ?_
          refine lv_ior hx hb d_P_layRows_76 ?_
          refine lv_topi (fun v7 ev7 => ?_)
          have h := h v7 ev7
          refine lv_istore_n (lv' := [(2, .int v7), (0, .ref (ad 2)), (1, .int x1), (3, .int x3)]) hx hb d_P_layRows_77 rfl hl (by decide) rfl (fun ls hl => ?_)
          refine lv_iinc (v := (x3 + 1)) (lv' := [(3, .int (x3 + 1)), (2, .int v7), (0, .ref (ad 2)), (1, .int x1)]) hx hb d_P_layRows_78 hl (k := 3) rfl rfl (by decide) rfl (fun ls hl => ?_)
          refine lv_goto (tgt := 28) hx hb d_P_layRows_81 (by decide) ?_
          rw [hG28] at h
          exact h _ _ _ hP hS (lv_sub hl [2, 3, 1, 0] rfl))
  obtain ⟨H, eH⟩ : ∃ z, z = s.heap := ⟨_, rfl⟩
  have hP : va_P D vwCl (wC ad cA cB σ) H := by rw [eH]; exact hP
  have hS : va_S (kAC ad s.heap.size) s.heap H [] := by rw [eH]; exact hS
  show W p l e (headSpec (Cond.code y_P_layRows c_P_layRows 4 none :: wsG) ({ frames := 1, cells := 0, slots := 0, locals := 21 } : Room)).room s m ([.ref (ad 2)] : List Value).toArray below meth c s.heap [] 0 0 (MQ below (va_Qv post (kBC D ad cA cB) (kAC ad s.heap.size)) ([.ref (ad 2)] : List Value).toArray s 0 0 (kAC ad s.heap.size)) (F0 m 0 ls [])
  suffices k : W p l e (headSpec (Cond.code y_P_layRows c_P_layRows 4 none :: wsG) ({ frames := 1, cells := 0, slots := 0, locals := 21 } : Room)).room s m ([.ref (ad 2)] : List Value).toArray below meth c H [] 0 0 (MQ below (va_Qv post (kBC D ad cA cB) (kAC ad s.heap.size)) ([.ref (ad 2)] : List Value).toArray s 0 0 (kAC ad s.heap.size)) (F0 m 0 ls []) by rw [eH] at k; exact k
  refine lv_iconst (v := 0) hx hb d_P_layRows_0 (by decide) ?_
  refine lv_istore_n (lv' := [(1, .int 0), (0, .ref (ad 2))]) hx hb d_P_layRows_1 rfl hl (by decide) rfl (fun ls hl => ?_)
  refine lv_aload_n hx hb d_P_layRows_2 rfl (lv_at hl 1 rfl) ?_
  refine lv_iconst (v := 0) hx hb d_P_layRows_3 (by decide) ?_
  refine va_put (D := D) (ci := 2) (v := .int 0) (ty := .int) (C := RX2) (T := TX2) (N := 10) hx hb htg inG_X2 tyX2 tyX2_ok nmX2 hown hK hP (hD _) hS 2 rfl rfl 4 (by decide) (htg _ m_134) (fun _ h9 => h9) rfl (by decide +kernel) rfl rfl (Nat.le_of_ble_eq_true rfl) d_P_layRows_4 (fun H locs hP _ hS => ?_)
  obtain ⟨σ1, eσ1⟩ : ∃ z : S0, z = st σ 0 5 0 := ⟨_, rfl⟩
  have hP : va_P D vwCl (wC ad cA cB σ1) H := by rw [eσ1]; exact hP
  have h := h σ1 eσ1
  rw [hG7] at h
  exact h _ _ _ hP hS (lv_sub hl [1, 0] rfl)
set_option maxHeartbeats 4000000 in
set_option maxRecDepth 100000 in
theorem met_P_bendsOf (l : Launch) (D : va_G) (ad : Nat → Nat) (cA cB : ClassId) (hap : kapC ad) (σ : S0) (sz : Nat) (a1 : Int32) (post : Int32 → S0 → Prop) (h : Sp_P_bendsOf a1 σ post) : Met l y_P_bendsOf (Cond.code y_P_bendsOf c_P_bendsOf 2 (some .int) :: wsG) ({ frames := 0, cells := 0, slots := 0, locals := 0 } : Room) (kPcC D ad cA cB σ sz [.ref (ad 2), .int a1]) (va_Qi post (kBC D ad cA cB) (kAC ad sz)) 0 0 (kAC ad sz) := by
  refine Met.ofW (cc := c_P_bendsOf) (maxL := 2) (ret := (some .int)) (by decide) rfl ?_
  intro p e s m args below meth c s₁ B hml hv
  obtain ⟨rfl, hsz, hP, hK, hF⟩ := hv
  have hx := B.exec
  have hb := B.bytes
  have hr := B.returns
  have hts := atoms_spec (ws := (Cond.code y_P_bendsOf c_P_bendsOf 2 (some .int) :: wsG)) B.pre
  have htg : ∀ w ∈ wsG, w.before ([.ref (ad 2), .int a1] : List Value).toArray s = true := fun w h => hts w (List.mem_cons_of_mem _ h)
  have hown : s.vm.findClass RX2 = some m.cls := findClass_of_methodNamed B.named
  have hlocks := B.notSynchronized
  subst hsz
  have hD : ∀ σ, va_D (kAC ad s.heap.size) (wC ad cA cB σ) := fun σ => wC_D hap cA cB σ _
  have hS : va_S (kAC ad s.heap.size) s.heap s.heap [] := va_S.rf
  have hE := hF.1
  have hl := lv_entry ([.ref (ad 2), .int a1]) (n := 2) (Nat.le_of_ble_eq_true rfl)
  rw [lg_entry_eq]
  generalize (lg_sl ([.ref (ad 2), .int a1]) ++ List.replicate (2 - (lg_sl ([.ref (ad 2), .int a1])).length) Slot.unset).toArray = ls at hl ⊢
  have hl : lv_has ls 2 [(0, .ref (ad 2)), (1, .int a1)] := hl
  unfold Sp_P_bendsOf at h
  obtain ⟨H, eH⟩ : ∃ z, z = s.heap := ⟨_, rfl⟩
  have hP : va_P D vwCl (wC ad cA cB σ) H := by rw [eH]; exact hP
  have hS : va_S (kAC ad s.heap.size) s.heap H [] := by rw [eH]; exact hS
  show W p l e (headSpec (Cond.code y_P_bendsOf c_P_bendsOf 2 (some .int) :: wsG) ({ frames := 0, cells := 0, slots := 0, locals := 0 } : Room)).room s m ([.ref (ad 2), .int a1] : List Value).toArray below meth c s.heap [] 0 0 (MQ below (va_Qi post (kBC D ad cA cB) (kAC ad s.heap.size)) ([.ref (ad 2), .int a1] : List Value).toArray s 0 0 (kAC ad s.heap.size)) (F0 m 0 ls [])
  suffices k : W p l e (headSpec (Cond.code y_P_bendsOf c_P_bendsOf 2 (some .int) :: wsG) ({ frames := 0, cells := 0, slots := 0, locals := 0 } : Room)).room s m ([.ref (ad 2), .int a1] : List Value).toArray below meth c H [] 0 0 (MQ below (va_Qi post (kBC D ad cA cB) (kAC ad s.heap.size)) ([.ref (ad 2), .int a1] : List Value).toArray s 0 0 (kAC ad s.heap.size)) (F0 m 0 ls []) by rw [eH] at k; exact k
  refine lv_aload_n hx hb d_P_bendsOf_0 rfl (lv_at hl 0 rfl) ?_
  refine va_get (D := D) (ci := 2) (v := .ref (ad 10)) (C := RX2) (T := TX2) (N := 10) hx hb htg inG_X2 hown hK hP 2 rfl rfl 0 (by decide) (htg _ m_122) (fun _ h9 => h9) rfl d_P_bendsOf_1 ?_
  refine lv_aload_n hx hb d_P_bendsOf_4 rfl (lv_at hl 0 rfl) ?_
  refine va_get (D := D) (ci := 2) (v := .ref (ad 12)) (C := RX2) (T := TX2) (N := 10) hx hb htg inG_X2 hown hK hP 2 rfl rfl 2 (by decide) (htg _ m_128) (fun _ h9 => h9) rfl d_P_bendsOf_5 ?_
  refine lv_iload_n hx hb d_P_bendsOf_8 rfl (lv_at hl 1 rfl) ?_
  have hi := h.1
  have h := h.2
  refine va_iald hx hb hK hP 12 0 rfl rfl hi d_P_bendsOf_9 ?_
  have hi := h.1
  have h := h.2
  refine va_iald hx hb hK hP 10 0 rfl rfl hi d_P_bendsOf_10 ?_
  refine lv_aload_n hx hb d_P_bendsOf_11 rfl (lv_at hl 0 rfl) ?_
  refine va_get (D := D) (ci := 2) (v := .ref (ad 10)) (C := RX2) (T := TX2) (N := 10) hx hb htg inG_X2 hown hK hP 2 rfl rfl 0 (by decide) (htg _ m_122) (fun _ h9 => h9) rfl d_P_bendsOf_12 ?_
  refine lv_aload_n hx hb d_P_bendsOf_15 rfl (lv_at hl 0 rfl) ?_
  refine va_get (D := D) (ci := 2) (v := .ref (ad 11)) (C := RX2) (T := TX2) (N := 10) hx hb htg inG_X2 hown hK hP 2 rfl rfl 1 (by decide) (htg _ m_125) (fun _ h9 => h9) rfl d_P_bendsOf_16 ?_
  refine lv_iload_n hx hb d_P_bendsOf_19 rfl (lv_at hl 1 rfl) ?_
  have hi := h.1
  have h := h.2
  refine va_iald hx hb hK hP 11 0 rfl rfl hi d_P_bendsOf_20 ?_
  have hi := h.1
  have h := h.2
  refine va_iald hx hb hK hP 10 0 rfl rfl hi d_P_bendsOf_21 ?_
  refine lv_isub hx hb d_P_bendsOf_22 ?_
  refine lv_iconst (v := 1) hx hb d_P_bendsOf_23 (by decide) ?_
  refine lv_isub hx hb d_P_bendsOf_24 ?_
  exact W.iret (v := (((σ 10 (σ 12 a1.toNatClampNeg).toNatClampNeg) - (σ 10 (σ 11 a1.toNatClampNeg).toNatClampNeg)) - 1)) hx hb hr (fun t ht hW => ⟨⟨_, σ, rfl, h, kBC_of ht hP⟩, hS.F ht⟩) hS.2.2 d_P_bendsOf_25 hlocks
set_option maxHeartbeats 4000000 in
set_option maxRecDepth 100000 in
theorem met_P_layBends (l : Launch) (D : va_G) (ad : Nat → Nat) (cA cB : ClassId) (hap : kapC ad) (σ : S0) (sz : Nat) (post : S0 → Prop) (h : Sp_P_layBends  σ post) : Met l y_P_layBends (Cond.code y_P_layBends c_P_layBends 2 none :: wsG) ({ frames := 1, cells := 0, slots := 0, locals := 21 } : Room) (kPcC D ad cA cB σ sz [.ref (ad 2)]) (va_Qv post (kBC D ad cA cB) (kAC ad sz)) 0 0 (kAC ad sz) := by
  refine Met.ofW (cc := c_P_layBends) (maxL := 2) (ret := none) (by decide) rfl ?_
  intro p e s m args below meth c s₁ B hml hv
  obtain ⟨rfl, hsz, hP, hK, hF⟩ := hv
  have hx := B.exec
  have hb := B.bytes
  have hr := B.returns
  have hts := atoms_spec (ws := (Cond.code y_P_layBends c_P_layBends 2 none :: wsG)) B.pre
  have htg : ∀ w ∈ wsG, w.before ([.ref (ad 2)] : List Value).toArray s = true := fun w h => hts w (List.mem_cons_of_mem _ h)
  have hown : s.vm.findClass RX2 = some m.cls := findClass_of_methodNamed B.named
  have hlocks := B.notSynchronized
  subst hsz
  have hD : ∀ σ, va_D (kAC ad s.heap.size) (wC ad cA cB σ) := fun σ => wC_D hap cA cB σ _
  have hS : va_S (kAC ad s.heap.size) s.heap s.heap [] := va_S.rf
  have hE := hF.1
  have hl := lv_entry ([.ref (ad 2)]) (n := 2) (Nat.le_of_ble_eq_true rfl)
  rw [lg_entry_eq]
  generalize (lg_sl ([.ref (ad 2)]) ++ List.replicate (2 - (lg_sl ([.ref (ad 2)])).length) Slot.unset).toArray = ls at hl ⊢
  have hl : lv_has ls 2 [(0, .ref (ad 2))] := hl
  unfold Sp_P_layBends at h
  obtain ⟨G7, hG7⟩ : ∃ G : Int32 → S0 → Prop, G = fun (x1 : Int32) (σ : S0) => ∀ (H : Heap) (locs : List Loc) (ls : Array Slot), va_P D vwCl (wC ad cA cB σ) H → va_S (kAC ad s.heap.size) s.heap H locs → lv_has ls 2 [(0, .ref (ad 2)), (1, .int x1)] → W p l e (headSpec (Cond.code y_P_layBends c_P_layBends 2 none :: wsG) ({ frames := 1, cells := 0, slots := 0, locals := 21 } : Room)).room s m ([.ref (ad 2)] : List Value).toArray below meth c H locs 0 0 (MQ below (va_Qv post (kBC D ad cA cB) (kAC ad s.heap.size)) ([.ref (ad 2)] : List Value).toArray s 0 0 (kAC ad s.heap.size)) (F0 m 7 ls []) := ⟨_, rfl⟩
  have h := h G7
  have h := h (by
    intro x1 σ h
    rw [hG7]
    intro H locs ls hP hS hl
    refine lv_iload_n hx hb d_P_layBends_7 rfl (lv_at hl 1 rfl) ?_
    refine lv_aload_n hx hb d_P_layBends_8 rfl (lv_at hl 0 rfl) ?_
    refine va_get (D := D) (ci := 2) (v := .int (σ 0 6)) (C := RX2) (T := TX2) (N := 10) hx hb htg inG_X2 hown hK hP 2 rfl rfl 5 (by decide) (htg _ m_137) (fun _ h9 => h9) rfl d_P_layBends_9 ?_
    refine lv_icmp_ge (tgt := 45) hx hb d_P_layBends_12 (by decide) (fun cn => ?_) (fun cn => ?_)
    · have h := h.1 cn
      exact W.vret hx hb hr (fun t ht hW => ⟨⟨σ, rfl, h, kBC_of ht hP⟩, hS.F ht⟩) hS.2.2 d_P_layBends_45 hlocks
    · have h := h.2 cn
      refine lv_aload_n hx hb d_P_layBends_15 rfl (lv_at hl 0 rfl) ?_
      refine va_get (D := D) (ci := 2) (v := .ref (ad 15)) (C := RX2) (T := TX2) (N := 10) hx hb htg inG_X2 hown hK hP 2 rfl rfl 9 (by decide) (htg _ m_143) (fun _ h9 => h9) rfl d_P_layBends_16 ?_
      refine lv_iload_n hx hb d_P_layBends_19 rfl (lv_at hl 1 rfl) ?_
      refine lv_aload_n hx hb d_P_layBends_20 rfl (lv_at hl 0 rfl) ?_
      refine va_get (D := D) (ci := 2) (v := .int (σ 0 7)) (C := RX2) (T := TX2) (N := 10) hx hb htg inG_X2 hown hK hP 2 rfl rfl 6 (by decide) (htg _ m_139) (fun _ h9 => h9) rfl d_P_layBends_21 ?_
      have hi := h.1
      have h := h.2
      refine va_iast hx hb hK hP (hD _) hS 15 0 rfl rfl hi d_P_layBends_24 (fun H locs hP _ hS => ?_)
      obtain ⟨σ2, eσ2⟩ : ∃ z : S0, z = st σ 15 x1.toNatClampNeg (σ 0 7) := ⟨_, rfl⟩
      have hP : va_P D vwCl (wC ad cA cB σ2) H := by rw [eσ2]; exact hP
      have h := h σ2 eσ2
      refine lv_aload_n hx hb d_P_layBends_25 rfl (lv_at hl 0 rfl) ?_
      refine lv_dup hx hb d_P_layBends_26 rfl ?_
      refine va_get (D := D) (ci := 2) (v := .int (σ2 0 7)) (C := RX2) (T := TX2) (N := 10) hx hb htg inG_X2 hown hK hP 2 rfl rfl 6 (by decide) (htg _ m_139) (fun _ h9 => h9) rfl d_P_layBends_27 ?_
      refine lv_aload_n hx hb d_P_layBends_30 rfl (lv_at hl 0 rfl) ?_
      refine lv_iload_n hx hb d_P_layBends_31 rfl (lv_at hl 1 rfl) ?_
      refine kC_i (va_runV (As := [.int x1]) (rest := [.int (σ2 0 7), .ref (ad 2)]) ⟨hx, hb, hml, hown, htg⟩ (met_P_bendsOf l D ad cA cB hap σ2 H.size x1 _ h) (cwV 1 htg (kG (kG_V m_457 m_458 m_459 m_55 (kG_self m_460))) rfl rfl rfl (by decide +kernel) ⟨Nat.le_of_ble_eq_true rfl, Nat.le_of_ble_eq_true rfl⟩) (kC_preV hK hF hP hS 2 rfl rfl _) rfl rfl hl.1 rfl (lv_room (Nat.le_of_ble_eq_true rfl)) d_P_layBends_32 ⟨Nat.le_of_ble_eq_true rfl, Nat.le_of_ble_eq_true rfl⟩) hS (fun r4 σ3 H locs h hP hS => ?_)
      refine lv_iadd hx hb d_P_layBends_35 ?_
      refine va_put (D := D) (ci := 2) (v := .int ((σ2 0 7) + r4)) (ty := .int) (C := RX2) (T := TX2) (N := 10) hx hb htg inG_X2 tyX2 tyX2_ok nmX2 hown hK hP (hD _) hS 2 rfl rfl 6 (by decide) (htg _ m_139) (fun _ h9 => h9) rfl (by decide +kernel) rfl rfl (Nat.le_of_ble_eq_true rfl) d_P_layBends_36 (fun H locs hP _ hS => ?_)
      obtain ⟨σ5, eσ5⟩ : ∃ z : S0, z = st σ3 0 7 ((σ2 0 7) + r4) := ⟨_, rfl⟩
      have hP : va_P D vwCl (wC ad cA cB σ5) H := by rw [eσ5]; exact hP
      have h := h σ5 eσ5
      refine lv_iinc (v := (x1 + 1)) (lv' := [(1, .int (x1 + 1)), (0, .ref (ad 2))]) hx hb d_P_layBends_39 hl (k := 1) rfl rfl (by decide) rfl (fun ls hl => ?_)
      refine lv_goto (tgt := 7) hx hb d_P_layBends_42 (by decide) ?_
      rw [hG7] at h
      exact h _ _ _ hP hS (lv_sub hl [1, 0] rfl))
  obtain ⟨H, eH⟩ : ∃ z, z = s.heap := ⟨_, rfl⟩
  have hP : va_P D vwCl (wC ad cA cB σ) H := by rw [eH]; exact hP
  have hS : va_S (kAC ad s.heap.size) s.heap H [] := by rw [eH]; exact hS
  show W p l e (headSpec (Cond.code y_P_layBends c_P_layBends 2 none :: wsG) ({ frames := 1, cells := 0, slots := 0, locals := 21 } : Room)).room s m ([.ref (ad 2)] : List Value).toArray below meth c s.heap [] 0 0 (MQ below (va_Qv post (kBC D ad cA cB) (kAC ad s.heap.size)) ([.ref (ad 2)] : List Value).toArray s 0 0 (kAC ad s.heap.size)) (F0 m 0 ls [])
  suffices k : W p l e (headSpec (Cond.code y_P_layBends c_P_layBends 2 none :: wsG) ({ frames := 1, cells := 0, slots := 0, locals := 21 } : Room)).room s m ([.ref (ad 2)] : List Value).toArray below meth c H [] 0 0 (MQ below (va_Qv post (kBC D ad cA cB) (kAC ad s.heap.size)) ([.ref (ad 2)] : List Value).toArray s 0 0 (kAC ad s.heap.size)) (F0 m 0 ls []) by rw [eH] at k; exact k
  refine lv_aload_n hx hb d_P_layBends_0 rfl (lv_at hl 0 rfl) ?_
  refine lv_iconst (v := 0) hx hb d_P_layBends_1 (by decide) ?_
  refine va_put (D := D) (ci := 2) (v := .int 0) (ty := .int) (C := RX2) (T := TX2) (N := 10) hx hb htg inG_X2 tyX2 tyX2_ok nmX2 hown hK hP (hD _) hS 2 rfl rfl 6 (by decide) (htg _ m_139) (fun _ h9 => h9) rfl (by decide +kernel) rfl rfl (Nat.le_of_ble_eq_true rfl) d_P_layBends_2 (fun H locs hP _ hS => ?_)
  obtain ⟨σ1, eσ1⟩ : ∃ z : S0, z = st σ 0 7 0 := ⟨_, rfl⟩
  have hP : va_P D vwCl (wC ad cA cB σ1) H := by rw [eσ1]; exact hP
  have h := h σ1 eσ1
  refine lv_iconst (v := 0) hx hb d_P_layBends_5 (by decide) ?_
  refine lv_istore_n (lv' := [(1, .int 0), (0, .ref (ad 2))]) hx hb d_P_layBends_6 rfl hl (by decide) rfl (fun ls hl => ?_)
  rw [hG7] at h
  exact h _ _ _ hP hS (lv_sub hl [1, 0] rfl)
set_option maxHeartbeats 4000000 in
set_option maxRecDepth 100000 in
theorem met_P_make (l : Launch) (D : va_G) (ad : Nat → Nat) (cA cB : ClassId) (hap : kapC ad) (σ : S0) (sz : Nat) (post : S0 → Prop) (h : Sp_P_make  σ post) : Met l y_P_make (Cond.code y_P_make c_P_make 2 none :: wsG) ({ frames := 3, cells := 0, slots := 0, locals := 84 } : Room) (kPcC D ad cA cB σ sz [.ref (ad 2), .ref (ad 1)]) (va_Qv post (kBC D ad cA cB) (kAC ad sz)) 0 0 (kAC ad sz) := by
  refine Met.ofW (cc := c_P_make) (maxL := 2) (ret := none) (by decide) rfl ?_
  intro p e s m args below meth c s₁ B hml hv
  obtain ⟨rfl, hsz, hP, hK, hF⟩ := hv
  have hx := B.exec
  have hb := B.bytes
  have hr := B.returns
  have hts := atoms_spec (ws := (Cond.code y_P_make c_P_make 2 none :: wsG)) B.pre
  have htg : ∀ w ∈ wsG, w.before ([.ref (ad 2), .ref (ad 1)] : List Value).toArray s = true := fun w h => hts w (List.mem_cons_of_mem _ h)
  have hown : s.vm.findClass RX2 = some m.cls := findClass_of_methodNamed B.named
  have hlocks := B.notSynchronized
  subst hsz
  have hD : ∀ σ, va_D (kAC ad s.heap.size) (wC ad cA cB σ) := fun σ => wC_D hap cA cB σ _
  have hS : va_S (kAC ad s.heap.size) s.heap s.heap [] := va_S.rf
  have hE := hF.1
  have hl := lv_entry ([.ref (ad 2), .ref (ad 1)]) (n := 2) (Nat.le_of_ble_eq_true rfl)
  rw [lg_entry_eq]
  generalize (lg_sl ([.ref (ad 2), .ref (ad 1)]) ++ List.replicate (2 - (lg_sl ([.ref (ad 2), .ref (ad 1)])).length) Slot.unset).toArray = ls at hl ⊢
  have hl : lv_has ls 2 [(0, .ref (ad 2)), (1, .ref (ad 1))] := hl
  unfold Sp_P_make at h
  obtain ⟨H, eH⟩ : ∃ z, z = s.heap := ⟨_, rfl⟩
  have hP : va_P D vwCl (wC ad cA cB σ) H := by rw [eH]; exact hP
  have hS : va_S (kAC ad s.heap.size) s.heap H [] := by rw [eH]; exact hS
  show W p l e (headSpec (Cond.code y_P_make c_P_make 2 none :: wsG) ({ frames := 3, cells := 0, slots := 0, locals := 84 } : Room)).room s m ([.ref (ad 2), .ref (ad 1)] : List Value).toArray below meth c s.heap [] 0 0 (MQ below (va_Qv post (kBC D ad cA cB) (kAC ad s.heap.size)) ([.ref (ad 2), .ref (ad 1)] : List Value).toArray s 0 0 (kAC ad s.heap.size)) (F0 m 0 ls [])
  suffices k : W p l e (headSpec (Cond.code y_P_make c_P_make 2 none :: wsG) ({ frames := 3, cells := 0, slots := 0, locals := 84 } : Room)).room s m ([.ref (ad 2), .ref (ad 1)] : List Value).toArray below meth c H [] 0 0 (MQ below (va_Qv post (kBC D ad cA cB) (kAC ad s.heap.size)) ([.ref (ad 2), .ref (ad 1)] : List Value).toArray s 0 0 (kAC ad s.heap.size)) (F0 m 0 ls []) by rw [eH] at k; exact k
  refine lv_aload_n hx hb d_P_make_0 rfl (lv_at hl 0 rfl) ?_
  refine lv_aload_n hx hb d_P_make_1 rfl (lv_at hl 1 rfl) ?_
  refine lv_aload_n hx hb d_P_make_2 rfl (lv_at hl 1 rfl) ?_
  refine va_get (D := D) (ci := 0) (v := .int (σ 0 1)) (C := RX0) (T := TX0) (N := 9) hx hb htg inG_X0 hown hK hP 1 rfl rfl 3 (by decide) (htg _ m_86) (fun _ h9 => h9) rfl d_P_make_3 ?_
  refine lv_aload_n hx hb d_P_make_6 rfl (lv_at hl 1 rfl) ?_
  refine va_get (D := D) (ci := 0) (v := .int (σ 0 2)) (C := RX0) (T := TX0) (N := 9) hx hb htg inG_X0 hown hK hP 1 rfl rfl 4 (by decide) (htg _ m_89) (fun _ h9 => h9) rfl d_P_make_7 ?_
  refine lv_iconst (v := (-1)) hx hb d_P_make_10 (by decide) ?_
  refine lv_ixor hx hb d_P_make_11 ?_
  refine lv_iand hx hb d_P_make_12 ?_
  refine kC_i (va_runV (As := [.int ((σ 0 1) &&& ((σ 0 2) ^^^ (-1)))]) (rest := [.ref (ad 2)]) ⟨hx, hb, hml, hown, htg⟩ (met_D_leadersOf l D ad cA cB hap σ H.size ((σ 0 1) &&& ((σ 0 2) ^^^ (-1))) _ h) (cwV 1 htg (kG (kG_V m_436 m_324 m_325 m_54 (kG_self m_326))) rfl rfl rfl (by decide +kernel) ⟨Nat.le_of_ble_eq_true rfl, Nat.le_of_ble_eq_true rfl⟩) (kC_preV hK hF hP hS 1 rfl rfl _) rfl rfl hl.1 rfl (lv_room (Nat.le_of_ble_eq_true rfl)) d_P_make_13 ⟨Nat.le_of_ble_eq_true rfl, Nat.le_of_ble_eq_true rfl⟩) hS (fun r2 σ1 H locs h hP hS => ?_)
  refine va_put (D := D) (ci := 2) (v := .int r2) (ty := .int) (C := RX2) (T := TX2) (N := 10) hx hb htg inG_X2 tyX2 tyX2_ok nmX2 hown hK hP (hD _) hS 2 rfl rfl 3 (by decide) (htg _ m_130) (fun _ h9 => h9) rfl (by decide +kernel) rfl rfl (Nat.le_of_ble_eq_true rfl) d_P_make_16 (fun H locs hP _ hS => ?_)
  obtain ⟨σ3, eσ3⟩ : ∃ z : S0, z = st σ1 0 4 r2 := ⟨_, rfl⟩
  have hP : va_P D vwCl (wC ad cA cB σ3) H := by rw [eσ3]; exact hP
  have h := h σ3 eσ3
  refine lv_aload_n hx hb d_P_make_19 rfl (lv_at hl 0 rfl) ?_
  refine lv_aload_n hx hb d_P_make_20 rfl (lv_at hl 1 rfl) ?_
  refine kC_v (va_runV (As := [.ref (ad 1)]) (rest := []) ⟨hx, hb, hml, hown, htg⟩ (met_P_findLinks l D ad cA cB hap σ3 H.size _ h) (cwV 1 htg (kG (kG_V m_437 m_439 m_5 m_55 (kG_self m_440))) rfl rfl rfl (by decide +kernel) ⟨Nat.le_of_ble_eq_true rfl, Nat.le_of_ble_eq_true rfl⟩) (kC_preV hK hF hP hS 2 rfl rfl _) rfl rfl hl.1 rfl (lv_room (Nat.le_of_ble_eq_true rfl)) d_P_make_21 ⟨Nat.le_of_ble_eq_true rfl, Nat.le_of_ble_eq_true rfl⟩) hS (fun σ4 H locs h hP hS => ?_)
  refine lv_aload_n hx hb d_P_make_24 rfl (lv_at hl 0 rfl) ?_
  refine lv_aload_n hx hb d_P_make_25 rfl (lv_at hl 1 rfl) ?_
  refine kC_v (va_runV (As := [.ref (ad 1)]) (rest := []) ⟨hx, hb, hml, hown, htg⟩ (met_P_findForerunners l D ad cA cB hap σ4 H.size _ h) (cwV 1 htg (kG (kG_V m_444 m_446 m_6 m_55 (kG_self m_447))) rfl rfl rfl (by decide +kernel) ⟨Nat.le_of_ble_eq_true rfl, Nat.le_of_ble_eq_true rfl⟩) (kC_preV hK hF hP hS 2 rfl rfl _) rfl rfl hl.1 rfl (lv_room (Nat.le_of_ble_eq_true rfl)) d_P_make_26 ⟨Nat.le_of_ble_eq_true rfl, Nat.le_of_ble_eq_true rfl⟩) hS (fun σ5 H locs h hP hS => ?_)
  refine lv_aload_n hx hb d_P_make_29 rfl (lv_at hl 0 rfl) ?_
  refine kC_v (va_runV (As := []) (rest := []) ⟨hx, hb, hml, hown, htg⟩ (met_P_layRows l D ad cA cB hap σ5 H.size _ h) (cwV 0 htg (kG (kG_V m_449 m_451 m_7 m_55 (kG_self m_452))) rfl rfl rfl (by decide +kernel) ⟨Nat.le_of_ble_eq_true rfl, Nat.le_of_ble_eq_true rfl⟩) (kC_preV hK hF hP hS 2 rfl rfl _) rfl rfl hl.1 rfl (lv_room (Nat.le_of_ble_eq_true rfl)) d_P_make_30 ⟨Nat.le_of_ble_eq_true rfl, Nat.le_of_ble_eq_true rfl⟩) hS (fun σ6 H locs h hP hS => ?_)
  refine lv_aload_n hx hb d_P_make_33 rfl (lv_at hl 0 rfl) ?_
  refine kC_v (va_runV (As := []) (rest := []) ⟨hx, hb, hml, hown, htg⟩ (met_P_layBends l D ad cA cB hap σ6 H.size _ h) (cwV 0 htg (kG (kG_V m_453 m_455 m_8 m_55 (kG_self m_456))) rfl rfl rfl (by decide +kernel) ⟨Nat.le_of_ble_eq_true rfl, Nat.le_of_ble_eq_true rfl⟩) (kC_preV hK hF hP hS 2 rfl rfl _) rfl rfl hl.1 rfl (lv_room (Nat.le_of_ble_eq_true rfl)) d_P_make_34 ⟨Nat.le_of_ble_eq_true rfl, Nat.le_of_ble_eq_true rfl⟩) hS (fun σ7 H locs h hP hS => ?_)
  exact W.vret hx hb hr (fun t ht hW => ⟨⟨σ7, rfl, h, kBC_of ht hP⟩, hS.F ht⟩) hS.2.2 d_P_make_37 hlocks
set_option maxHeartbeats 4000000 in
set_option maxRecDepth 100000 in
theorem met_O_layMark (l : Launch) (D : va_G) (ad : Nat → Nat) (cA cB : ClassId) (hap : kapC ad) (σ : S0) (sz : Nat) (a1 : Int32) (post : S0 → Prop) (h : Sp_O_layMark a1 σ post) : Met l y_O_layMark (Cond.code y_O_layMark c_O_layMark 2 none :: wsG) ({ frames := 0, cells := 0, slots := 0, locals := 0 } : Room) (kPcC D ad cA cB σ sz [.ref (ad 3), .int a1]) (va_Qv post (kBC D ad cA cB) (kAC ad sz)) 0 0 (kAC ad sz) := by
  refine Met.ofW (cc := c_O_layMark) (maxL := 2) (ret := none) (by decide) rfl ?_
  intro p e s m args below meth c s₁ B hml hv
  obtain ⟨rfl, hsz, hP, hK, hF⟩ := hv
  have hx := B.exec
  have hb := B.bytes
  have hr := B.returns
  have hts := atoms_spec (ws := (Cond.code y_O_layMark c_O_layMark 2 none :: wsG)) B.pre
  have htg : ∀ w ∈ wsG, w.before ([.ref (ad 3), .int a1] : List Value).toArray s = true := fun w h => hts w (List.mem_cons_of_mem _ h)
  have hown : s.vm.findClass RX1 = some m.cls := findClass_of_methodNamed B.named
  have hlocks := B.notSynchronized
  subst hsz
  have hD : ∀ σ, va_D (kAC ad s.heap.size) (wC ad cA cB σ) := fun σ => wC_D hap cA cB σ _
  have hS : va_S (kAC ad s.heap.size) s.heap s.heap [] := va_S.rf
  have hE := hF.1
  have hl := lv_entry ([.ref (ad 3), .int a1]) (n := 2) (Nat.le_of_ble_eq_true rfl)
  rw [lg_entry_eq]
  generalize (lg_sl ([.ref (ad 3), .int a1]) ++ List.replicate (2 - (lg_sl ([.ref (ad 3), .int a1])).length) Slot.unset).toArray = ls at hl ⊢
  have hl : lv_has ls 2 [(0, .ref (ad 3)), (1, .int a1)] := hl
  unfold Sp_O_layMark at h
  obtain ⟨H, eH⟩ : ∃ z, z = s.heap := ⟨_, rfl⟩
  have hP : va_P D vwCl (wC ad cA cB σ) H := by rw [eH]; exact hP
  have hS : va_S (kAC ad s.heap.size) s.heap H [] := by rw [eH]; exact hS
  show W p l e (headSpec (Cond.code y_O_layMark c_O_layMark 2 none :: wsG) ({ frames := 0, cells := 0, slots := 0, locals := 0 } : Room)).room s m ([.ref (ad 3), .int a1] : List Value).toArray below meth c s.heap [] 0 0 (MQ below (va_Qv post (kBC D ad cA cB) (kAC ad s.heap.size)) ([.ref (ad 3), .int a1] : List Value).toArray s 0 0 (kAC ad s.heap.size)) (F0 m 0 ls [])
  suffices k : W p l e (headSpec (Cond.code y_O_layMark c_O_layMark 2 none :: wsG) ({ frames := 0, cells := 0, slots := 0, locals := 0 } : Room)).room s m ([.ref (ad 3), .int a1] : List Value).toArray below meth c H [] 0 0 (MQ below (va_Qv post (kBC D ad cA cB) (kAC ad s.heap.size)) ([.ref (ad 3), .int a1] : List Value).toArray s 0 0 (kAC ad s.heap.size)) (F0 m 0 ls []) by rw [eH] at k; exact k
  refine lv_aload_n hx hb d_O_layMark_0 rfl (lv_at hl 0 rfl) ?_
  refine va_get (D := D) (ci := 1) (v := .ref (ad 18)) (C := RX1) (T := TX1) (N := 14) hx hb htg inG_X1 hown hK hP 3 rfl rfl 3 (by decide) (htg _ m_177) (fun _ h9 => h9) rfl d_O_layMark_1 ?_
  refine lv_aload_n hx hb d_O_layMark_4 rfl (lv_at hl 0 rfl) ?_
  refine va_get (D := D) (ci := 1) (v := .int (σ 0 10)) (C := RX1) (T := TX1) (N := 14) hx hb htg inG_X1 hown hK hP 3 rfl rfl 12 (by decide) (htg _ m_186) (fun _ h9 => h9) rfl d_O_layMark_5 ?_
  refine lv_iload_n hx hb d_O_layMark_8 rfl (lv_at hl 1 rfl) ?_
  have hi := h.1
  have h := h.2
  refine va_iast hx hb hK hP (hD _) hS 18 0 rfl rfl hi d_O_layMark_9 (fun H locs hP _ hS => ?_)
  obtain ⟨σ1, eσ1⟩ : ∃ z : S0, z = st σ 18 (σ 0 10).toNatClampNeg a1 := ⟨_, rfl⟩
  have hP : va_P D vwCl (wC ad cA cB σ1) H := by rw [eσ1]; exact hP
  have h := h σ1 eσ1
  refine lv_aload_n hx hb d_O_layMark_10 rfl (lv_at hl 0 rfl) ?_
  refine lv_dup hx hb d_O_layMark_11 rfl ?_
  refine va_get (D := D) (ci := 1) (v := .int (σ1 0 10)) (C := RX1) (T := TX1) (N := 14) hx hb htg inG_X1 hown hK hP 3 rfl rfl 12 (by decide) (htg _ m_186) (fun _ h9 => h9) rfl d_O_layMark_12 ?_
  refine lv_iconst (v := 1) hx hb d_O_layMark_15 (by decide) ?_
  refine lv_iadd hx hb d_O_layMark_16 ?_
  refine va_put (D := D) (ci := 1) (v := .int ((σ1 0 10) + 1)) (ty := .int) (C := RX1) (T := TX1) (N := 14) hx hb htg inG_X1 tyX1 tyX1_ok nmX1 hown hK hP (hD _) hS 3 rfl rfl 12 (by decide) (htg _ m_186) (fun _ h9 => h9) rfl (by decide +kernel) rfl rfl (Nat.le_of_ble_eq_true rfl) d_O_layMark_17 (fun H locs hP _ hS => ?_)
  obtain ⟨σ2, eσ2⟩ : ∃ z : S0, z = st σ1 0 10 ((σ1 0 10) + 1) := ⟨_, rfl⟩
  have hP : va_P D vwCl (wC ad cA cB σ2) H := by rw [eσ2]; exact hP
  have h := h σ2 eσ2
  exact W.vret hx hb hr (fun t ht hW => ⟨⟨σ2, rfl, h, kBC_of ht hP⟩, hS.F ht⟩) hS.2.2 d_O_layMark_20 hlocks
set_option maxHeartbeats 4000000 in
set_option maxRecDepth 100000 in
theorem met_O_numberPlaces (l : Launch) (D : va_G) (ad : Nat → Nat) (cA cB : ClassId) (hap : kapC ad) (σ : S0) (sz : Nat) (a1 a2 : Int32) (post : S0 → Prop) (h : Sp_O_numberPlaces a1 a2 σ post) : Met l y_O_numberPlaces (Cond.code y_O_numberPlaces c_O_numberPlaces 4 none :: wsG) ({ frames := 0, cells := 0, slots := 0, locals := 0 } : Room) (kPcC D ad cA cB σ sz [.ref (ad 3), .int a1, .int a2]) (va_Qv post (kBC D ad cA cB) (kAC ad sz)) 0 0 (kAC ad sz) := by
  refine Met.ofW (cc := c_O_numberPlaces) (maxL := 4) (ret := none) (by decide) rfl ?_
  intro p e s m args below meth c s₁ B hml hv
  obtain ⟨rfl, hsz, hP, hK, hF⟩ := hv
  have hx := B.exec
  have hb := B.bytes
  have hr := B.returns
  have hts := atoms_spec (ws := (Cond.code y_O_numberPlaces c_O_numberPlaces 4 none :: wsG)) B.pre
  have htg : ∀ w ∈ wsG, w.before ([.ref (ad 3), .int a1, .int a2] : List Value).toArray s = true := fun w h => hts w (List.mem_cons_of_mem _ h)
  have hown : s.vm.findClass RX1 = some m.cls := findClass_of_methodNamed B.named
  have hlocks := B.notSynchronized
  subst hsz
  have hD : ∀ σ, va_D (kAC ad s.heap.size) (wC ad cA cB σ) := fun σ => wC_D hap cA cB σ _
  have hS : va_S (kAC ad s.heap.size) s.heap s.heap [] := va_S.rf
  have hE := hF.1
  have hl := lv_entry ([.ref (ad 3), .int a1, .int a2]) (n := 4) (Nat.le_of_ble_eq_true rfl)
  rw [lg_entry_eq]
  generalize (lg_sl ([.ref (ad 3), .int a1, .int a2]) ++ List.replicate (4 - (lg_sl ([.ref (ad 3), .int a1, .int a2])).length) Slot.unset).toArray = ls at hl ⊢
  have hl : lv_has ls 4 [(0, .ref (ad 3)), (1, .int a1), (2, .int a2)] := hl
  unfold Sp_O_numberPlaces at h
  obtain ⟨G7, hG7⟩ : ∃ G : Int32 → Int32 → Int32 → S0 → Prop, G = fun (x1 x2 x3 : Int32) (σ : S0) => ∀ (H : Heap) (locs : List Loc) (ls : Array Slot), va_P D vwCl (wC ad cA cB σ) H → va_S (kAC ad s.heap.size) s.heap H locs → lv_has ls 4 [(0, .ref (ad 3)), (1, .int x1), (2, .int x2), (3, .int x3)] → W p l e (headSpec (Cond.code y_O_numberPlaces c_O_numberPlaces 4 none :: wsG) ({ frames := 0, cells := 0, slots := 0, locals := 0 } : Room)).room s m ([.ref (ad 3), .int a1, .int a2] : List Value).toArray below meth c H locs 0 0 (MQ below (va_Qv post (kBC D ad cA cB) (kAC ad s.heap.size)) ([.ref (ad 3), .int a1, .int a2] : List Value).toArray s 0 0 (kAC ad s.heap.size)) (F0 m 7 ls []) := ⟨_, rfl⟩
  have h := h G7
  have h := h (by
    intro x1 x2 x3 σ h
    rw [hG7]
    intro H locs ls hP hS hl
    refine lv_iload_n hx hb d_O_numberPlaces_7 rfl (lv_at hl 3 rfl) ?_
    refine lv_iload_n hx hb d_O_numberPlaces_8 rfl (lv_at hl 2 rfl) ?_
    refine lv_icmp_ge (tgt := 37) hx hb d_O_numberPlaces_9 (by decide) (fun cn => ?_) (fun cn => ?_)
    · have h := h.1 cn
      exact W.vret hx hb hr (fun t ht hW => ⟨⟨σ, rfl, h, kBC_of ht hP⟩, hS.F ht⟩) hS.2.2 d_O_numberPlaces_37 hlocks
    · have h := h.2 cn
      refine lv_aload_n hx hb d_O_numberPlaces_12 rfl (lv_at hl 0 rfl) ?_
      refine va_get (D := D) (ci := 1) (v := .ref (ad 16)) (C := RX1) (T := TX1) (N := 14) hx hb htg inG_X1 hown hK hP 3 rfl rfl 0 (by decide) (htg _ m_171) (fun _ h9 => h9) rfl d_O_numberPlaces_13 ?_
      refine lv_aload_n hx hb d_O_numberPlaces_16 rfl (lv_at hl 0 rfl) ?_
      refine va_get (D := D) (ci := 1) (v := .ref (ad 18)) (C := RX1) (T := TX1) (N := 14) hx hb htg inG_X1 hown hK hP 3 rfl rfl 3 (by decide) (htg _ m_177) (fun _ h9 => h9) rfl d_O_numberPlaces_17 ?_
      refine lv_iload_n hx hb d_O_numberPlaces_20 rfl (lv_at hl 3 rfl) ?_
      have hi := h.1
      have h := h.2
      refine va_iald hx hb hK hP 18 0 rfl rfl hi d_O_numberPlaces_21 ?_
      refine lv_iload_n hx hb d_O_numberPlaces_22 rfl (lv_at hl 3 rfl) ?_
      refine lv_aload_n hx hb d_O_numberPlaces_23 rfl (lv_at hl 0 rfl) ?_
      refine va_get (D := D) (ci := 1) (v := .ref (ad 20)) (C := RX1) (T := TX1) (N := 14) hx hb htg inG_X1 hown hK hP 3 rfl rfl 5 (by decide) (htg _ m_179) (fun _ h9 => h9) rfl d_O_numberPlaces_24 ?_
      refine lv_iload_n hx hb d_O_numberPlaces_27 rfl (lv_at hl 1 rfl) ?_
      have hi := h.1
      have h := h.2
      refine va_iald hx hb hK hP 20 0 rfl rfl hi d_O_numberPlaces_28 ?_
      refine lv_isub hx hb d_O_numberPlaces_29 ?_
      have hi := h.1
      have h := h.2
      refine va_iast hx hb hK hP (hD _) hS 16 0 rfl rfl hi d_O_numberPlaces_30 (fun H locs hP _ hS => ?_)
      obtain ⟨σ2, eσ2⟩ : ∃ z : S0, z = st σ 16 (σ 18 x3.toNatClampNeg).toNatClampNeg (x3 - (σ 20 x1.toNatClampNeg)) := ⟨_, rfl⟩
      have hP : va_P D vwCl (wC ad cA cB σ2) H := by rw [eσ2]; exact hP
      have h := h σ2 eσ2
      refine lv_iinc (v := (x3 + 1)) (lv' := [(3, .int (x3 + 1)), (0, .ref (ad 3)), (1, .int x1), (2, .int x2)]) hx hb d_O_numberPlaces_31 hl (k := 3) rfl rfl (by decide) rfl (fun ls hl => ?_)
      refine lv_goto (tgt := 7) hx hb d_O_numberPlaces_34 (by decide) ?_
      rw [hG7] at h
      exact h _ _ _ hP hS (lv_sub hl [1, 2, 3, 0] rfl))
  obtain ⟨H, eH⟩ : ∃ z, z = s.heap := ⟨_, rfl⟩
  have hP : va_P D vwCl (wC ad cA cB σ) H := by rw [eH]; exact hP
  have hS : va_S (kAC ad s.heap.size) s.heap H [] := by rw [eH]; exact hS
  show W p l e (headSpec (Cond.code y_O_numberPlaces c_O_numberPlaces 4 none :: wsG) ({ frames := 0, cells := 0, slots := 0, locals := 0 } : Room)).room s m ([.ref (ad 3), .int a1, .int a2] : List Value).toArray below meth c s.heap [] 0 0 (MQ below (va_Qv post (kBC D ad cA cB) (kAC ad s.heap.size)) ([.ref (ad 3), .int a1, .int a2] : List Value).toArray s 0 0 (kAC ad s.heap.size)) (F0 m 0 ls [])
  suffices k : W p l e (headSpec (Cond.code y_O_numberPlaces c_O_numberPlaces 4 none :: wsG) ({ frames := 0, cells := 0, slots := 0, locals := 0 } : Room)).room s m ([.ref (ad 3), .int a1, .int a2] : List Value).toArray below meth c H [] 0 0 (MQ below (va_Qv post (kBC D ad cA cB) (kAC ad s.heap.size)) ([.ref (ad 3), .int a1, .int a2] : List Value).toArray s 0 0 (kAC ad s.heap.size)) (F0 m 0 ls []) by rw [eH] at k; exact k
  refine lv_aload_n hx hb d_O_numberPlaces_0 rfl (lv_at hl 0 rfl) ?_
  refine va_get (D := D) (ci := 1) (v := .ref (ad 20)) (C := RX1) (T := TX1) (N := 14) hx hb htg inG_X1 hown hK hP 3 rfl rfl 5 (by decide) (htg _ m_179) (fun _ h9 => h9) rfl d_O_numberPlaces_1 ?_
  refine lv_iload_n hx hb d_O_numberPlaces_4 rfl (lv_at hl 1 rfl) ?_
  have hi := h.1
  have h := h.2
  refine va_iald hx hb hK hP 20 0 rfl rfl hi d_O_numberPlaces_5 ?_
  refine lv_topi (fun v1 ev1 => ?_)
  have h := h v1 ev1
  refine lv_istore_n (lv' := [(3, .int v1), (0, .ref (ad 3)), (1, .int a1), (2, .int a2)]) hx hb d_O_numberPlaces_6 rfl hl (by decide) rfl (fun ls hl => ?_)
  rw [hG7] at h
  exact h _ _ _ hP hS (lv_sub hl [1, 2, 3, 0] rfl)
set_option maxHeartbeats 4000000 in
set_option maxRecDepth 100000 in
theorem met_P_pointOf (l : Launch) (D : va_G) (ad : Nat → Nat) (cA cB : ClassId) (hap : kapC ad) (σ : S0) (sz : Nat) (a1 a2 : Int32) (post : Int32 → S0 → Prop) (h : Sp_P_pointOf a1 a2 σ post) : Met l y_P_pointOf (Cond.code y_P_pointOf c_P_pointOf 3 (some .int) :: wsG) ({ frames := 1, cells := 0, slots := 0, locals := 21 } : Room) (kPcC D ad cA cB σ sz [.ref (ad 2), .int a1, .int a2]) (va_Qi post (kBC D ad cA cB) (kAC ad sz)) 0 0 (kAC ad sz) := by
  refine Met.ofW (cc := c_P_pointOf) (maxL := 3) (ret := (some .int)) (by decide) rfl ?_
  intro p e s m args below meth c s₁ B hml hv
  obtain ⟨rfl, hsz, hP, hK, hF⟩ := hv
  have hx := B.exec
  have hb := B.bytes
  have hr := B.returns
  have hts := atoms_spec (ws := (Cond.code y_P_pointOf c_P_pointOf 3 (some .int) :: wsG)) B.pre
  have htg : ∀ w ∈ wsG, w.before ([.ref (ad 2), .int a1, .int a2] : List Value).toArray s = true := fun w h => hts w (List.mem_cons_of_mem _ h)
  have hown : s.vm.findClass RX2 = some m.cls := findClass_of_methodNamed B.named
  have hlocks := B.notSynchronized
  subst hsz
  have hD : ∀ σ, va_D (kAC ad s.heap.size) (wC ad cA cB σ) := fun σ => wC_D hap cA cB σ _
  have hS : va_S (kAC ad s.heap.size) s.heap s.heap [] := va_S.rf
  have hE := hF.1
  have hl := lv_entry ([.ref (ad 2), .int a1, .int a2]) (n := 3) (Nat.le_of_ble_eq_true rfl)
  rw [lg_entry_eq]
  generalize (lg_sl ([.ref (ad 2), .int a1, .int a2]) ++ List.replicate (3 - (lg_sl ([.ref (ad 2), .int a1, .int a2])).length) Slot.unset).toArray = ls at hl ⊢
  have hl : lv_has ls 3 [(0, .ref (ad 2)), (1, .int a1), (2, .int a2)] := hl
  unfold Sp_P_pointOf at h
  obtain ⟨H, eH⟩ : ∃ z, z = s.heap := ⟨_, rfl⟩
  have hP : va_P D vwCl (wC ad cA cB σ) H := by rw [eH]; exact hP
  have hS : va_S (kAC ad s.heap.size) s.heap H [] := by rw [eH]; exact hS
  show W p l e (headSpec (Cond.code y_P_pointOf c_P_pointOf 3 (some .int) :: wsG) ({ frames := 1, cells := 0, slots := 0, locals := 21 } : Room)).room s m ([.ref (ad 2), .int a1, .int a2] : List Value).toArray below meth c s.heap [] 0 0 (MQ below (va_Qi post (kBC D ad cA cB) (kAC ad s.heap.size)) ([.ref (ad 2), .int a1, .int a2] : List Value).toArray s 0 0 (kAC ad s.heap.size)) (F0 m 0 ls [])
  suffices k : W p l e (headSpec (Cond.code y_P_pointOf c_P_pointOf 3 (some .int) :: wsG) ({ frames := 1, cells := 0, slots := 0, locals := 21 } : Room)).room s m ([.ref (ad 2), .int a1, .int a2] : List Value).toArray below meth c H [] 0 0 (MQ below (va_Qi post (kBC D ad cA cB) (kAC ad s.heap.size)) ([.ref (ad 2), .int a1, .int a2] : List Value).toArray s 0 0 (kAC ad s.heap.size)) (F0 m 0 ls []) by rw [eH] at k; exact k
  refine lv_iload_n hx hb d_P_pointOf_0 rfl (lv_at hl 2 rfl) ?_
  refine lv_if_gt (tgt := 11) hx hb d_P_pointOf_1 (by decide) (fun cn => ?_) (fun cn => ?_)
  · have h := h.1 cn
    refine lv_iload_n hx hb d_P_pointOf_11 rfl (lv_at hl 2 rfl) ?_
    refine lv_aload_n hx hb d_P_pointOf_12 rfl (lv_at hl 0 rfl) ?_
    refine lv_iload_n hx hb d_P_pointOf_13 rfl (lv_at hl 1 rfl) ?_
    refine kC_i (va_runV (As := [.int a1]) (rest := [.int a2]) ⟨hx, hb, hml, hown, htg⟩ (met_P_bendsOf l D ad cA cB hap σ H.size a1 _ h) (cwV 1 htg (kG (kG_V m_457 m_458 m_459 m_55 (kG_self m_460))) rfl rfl rfl (by decide +kernel) ⟨Nat.le_of_ble_eq_true rfl, Nat.le_of_ble_eq_true rfl⟩) (kC_preV hK hF hP hS 2 rfl rfl _) rfl rfl hl.1 rfl (lv_room (Nat.le_of_ble_eq_true rfl)) d_P_pointOf_14 ⟨Nat.le_of_ble_eq_true rfl, Nat.le_of_ble_eq_true rfl⟩) hS (fun r2 σ1 H locs h hP hS => ?_)
    refine lv_icmp_le (tgt := 29) hx hb d_P_pointOf_17 (by decide) (fun cn => ?_) (fun cn => ?_)
    · have h := h.1 cn
      refine lv_bipush (v := 16) hx hb d_P_pointOf_29 (by decide) ?_
      refine lv_aload_n hx hb d_P_pointOf_31 rfl (lv_at hl 0 rfl) ?_
      refine va_get (D := D) (ci := 2) (v := .ref (ad 15)) (C := RX2) (T := TX2) (N := 10) hx hb htg inG_X2 hown hK hP 2 rfl rfl 9 (by decide) (htg _ m_143) (fun _ h9 => h9) rfl d_P_pointOf_32 ?_
      refine lv_iload_n hx hb d_P_pointOf_35 rfl (lv_at hl 1 rfl) ?_
      have hi := h.1
      have h := h.2
      refine va_iald hx hb hK hP 15 0 rfl rfl hi d_P_pointOf_36 ?_
      refine lv_iadd hx hb d_P_pointOf_37 ?_
      refine lv_iload_n hx hb d_P_pointOf_38 rfl (lv_at hl 2 rfl) ?_
      refine lv_iadd hx hb d_P_pointOf_39 ?_
      refine lv_iconst (v := 1) hx hb d_P_pointOf_40 (by decide) ?_
      refine lv_isub hx hb d_P_pointOf_41 ?_
      exact W.iret (v := (((16 + (σ1 15 a1.toNatClampNeg)) + a2) - 1)) hx hb hr (fun t ht hW => ⟨⟨_, σ1, rfl, h, kBC_of ht hP⟩, hS.F ht⟩) hS.2.2 d_P_pointOf_42 hlocks
    · have h := h.2 cn
      refine lv_aload_n hx hb d_P_pointOf_20 rfl (lv_at hl 0 rfl) ?_
      refine va_get (D := D) (ci := 2) (v := .ref (ad 12)) (C := RX2) (T := TX2) (N := 10) hx hb htg inG_X2 hown hK hP 2 rfl rfl 2 (by decide) (htg _ m_128) (fun _ h9 => h9) rfl d_P_pointOf_21 ?_
      refine lv_iload_n hx hb d_P_pointOf_24 rfl (lv_at hl 1 rfl) ?_
      have hi := h.1
      have h := h.2
      refine va_iald hx hb hK hP 12 0 rfl rfl hi d_P_pointOf_25 ?_
      refine lv_goto (tgt := 42) hx hb d_P_pointOf_26 (by decide) ?_
      exact W.iret (v := (σ1 12 a1.toNatClampNeg)) hx hb hr (fun t ht hW => ⟨⟨_, σ1, rfl, h, kBC_of ht hP⟩, hS.F ht⟩) hS.2.2 d_P_pointOf_42 hlocks
  · have h := h.2 cn
    refine lv_aload_n hx hb d_P_pointOf_4 rfl (lv_at hl 0 rfl) ?_
    refine va_get (D := D) (ci := 2) (v := .ref (ad 11)) (C := RX2) (T := TX2) (N := 10) hx hb htg inG_X2 hown hK hP 2 rfl rfl 1 (by decide) (htg _ m_125) (fun _ h9 => h9) rfl d_P_pointOf_5 ?_
    refine lv_iload_n hx hb d_P_pointOf_8 rfl (lv_at hl 1 rfl) ?_
    have hi := h.1
    have h := h.2
    refine va_iald hx hb hK hP 11 0 rfl rfl hi d_P_pointOf_9 ?_
    exact W.iret (v := (σ 11 a1.toNatClampNeg)) hx hb hr (fun t ht hW => ⟨⟨_, σ, rfl, h, kBC_of ht hP⟩, hS.F ht⟩) hS.2.2 d_P_pointOf_10 hlocks
set_option maxHeartbeats 4000000 in
set_option maxRecDepth 100000 in
theorem met_O_layMarks (l : Launch) (D : va_G) (ad : Nat → Nat) (cA cB : ClassId) (hap : kapC ad) (σ : S0) (sz : Nat) (post : S0 → Prop) (h : Sp_O_layMarks  σ post) : Met l y_O_layMarks (Cond.code y_O_layMarks c_O_layMarks 5 none :: wsG) ({ frames := 2, cells := 0, slots := 0, locals := 43 } : Room) (kPcC D ad cA cB σ sz [.ref (ad 3), .ref (ad 2)]) (va_Qv post (kBC D ad cA cB) (kAC ad sz)) 0 0 (kAC ad sz) := by
  refine Met.ofW (cc := c_O_layMarks) (maxL := 5) (ret := none) (by decide) rfl ?_
  intro p e s m args below meth c s₁ B hml hv
  obtain ⟨rfl, hsz, hP, hK, hF⟩ := hv
  have hx := B.exec
  have hb := B.bytes
  have hr := B.returns
  have hts := atoms_spec (ws := (Cond.code y_O_layMarks c_O_layMarks 5 none :: wsG)) B.pre
  have htg : ∀ w ∈ wsG, w.before ([.ref (ad 3), .ref (ad 2)] : List Value).toArray s = true := fun w h => hts w (List.mem_cons_of_mem _ h)
  have hown : s.vm.findClass RX1 = some m.cls := findClass_of_methodNamed B.named
  have hlocks := B.notSynchronized
  subst hsz
  have hD : ∀ σ, va_D (kAC ad s.heap.size) (wC ad cA cB σ) := fun σ => wC_D hap cA cB σ _
  have hS : va_S (kAC ad s.heap.size) s.heap s.heap [] := va_S.rf
  have hE := hF.1
  have hl := lv_entry ([.ref (ad 3), .ref (ad 2)]) (n := 5) (Nat.le_of_ble_eq_true rfl)
  rw [lg_entry_eq]
  generalize (lg_sl ([.ref (ad 3), .ref (ad 2)]) ++ List.replicate (5 - (lg_sl ([.ref (ad 3), .ref (ad 2)])).length) Slot.unset).toArray = ls at hl ⊢
  have hl : lv_has ls 5 [(0, .ref (ad 3)), (1, .ref (ad 2))] := hl
  unfold Sp_O_layMarks at h
  obtain ⟨G7, hG7⟩ : ∃ G : Int32 → S0 → Prop, G = fun (x2 : Int32) (σ : S0) => ∀ (H : Heap) (locs : List Loc) (ls : Array Slot), va_P D vwCl (wC ad cA cB σ) H → va_S (kAC ad s.heap.size) s.heap H locs → lv_has ls 5 [(0, .ref (ad 3)), (1, .ref (ad 2)), (2, .int x2)] → W p l e (headSpec (Cond.code y_O_layMarks c_O_layMarks 5 none :: wsG) ({ frames := 2, cells := 0, slots := 0, locals := 43 } : Room)).room s m ([.ref (ad 3), .ref (ad 2)] : List Value).toArray below meth c H locs 0 0 (MQ below (va_Qv post (kBC D ad cA cB) (kAC ad s.heap.size)) ([.ref (ad 3), .ref (ad 2)] : List Value).toArray s 0 0 (kAC ad s.heap.size)) (F0 m 7 ls []) := ⟨_, rfl⟩
  obtain ⟨G27, hG27⟩ : ∃ G : Int32 → Int32 → S0 → Prop, G = fun (x2 x3 : Int32) (σ : S0) => ∀ (H : Heap) (locs : List Loc) (ls : Array Slot), va_P D vwCl (wC ad cA cB σ) H → va_S (kAC ad s.heap.size) s.heap H locs → lv_has ls 5 [(0, .ref (ad 3)), (1, .ref (ad 2)), (2, .int x2), (3, .int x3)] → W p l e (headSpec (Cond.code y_O_layMarks c_O_layMarks 5 none :: wsG) ({ frames := 2, cells := 0, slots := 0, locals := 43 } : Room)).room s m ([.ref (ad 3), .ref (ad 2)] : List Value).toArray below meth c H locs 0 0 (MQ below (va_Qv post (kBC D ad cA cB) (kAC ad s.heap.size)) ([.ref (ad 3), .ref (ad 2)] : List Value).toArray s 0 0 (kAC ad s.heap.size)) (F0 m 27 ls []) := ⟨_, rfl⟩
  obtain ⟨G67, hG67⟩ : ∃ G : Int32 → Int32 → S0 → Prop, G = fun (x2 x3 : Int32) (σ : S0) => ∀ (H : Heap) (locs : List Loc) (ls : Array Slot), va_P D vwCl (wC ad cA cB σ) H → va_S (kAC ad s.heap.size) s.heap H locs → lv_has ls 5 [(0, .ref (ad 3)), (1, .ref (ad 2)), (2, .int x2), (3, .int x3)] → W p l e (headSpec (Cond.code y_O_layMarks c_O_layMarks 5 none :: wsG) ({ frames := 2, cells := 0, slots := 0, locals := 43 } : Room)).room s m ([.ref (ad 3), .ref (ad 2)] : List Value).toArray below meth c H locs 0 0 (MQ below (va_Qv post (kBC D ad cA cB) (kAC ad s.heap.size)) ([.ref (ad 3), .ref (ad 2)] : List Value).toArray s 0 0 (kAC ad s.heap.size)) (F0 m 67 ls []) := ⟨_, rfl⟩
  have h := h G7 G27 G67
  have h := h (by
    intro x2 σ h
    rw [hG7]
    intro H locs ls hP hS hl
    refine lv_iload_n hx hb d_O_layMarks_7 rfl (lv_at hl 2 rfl) ?_
    refine lv_aload_n hx hb d_O_layMarks_8 rfl (lv_at hl 0 rfl) ?_
    refine va_get (D := D) (ci := 1) (v := .int (σ 0 9)) (C := RX1) (T := TX1) (N := 14) hx hb htg inG_X1 hown hK hP 3 rfl rfl 11 (by decide) (htg _ m_185) (fun _ h9 => h9) rfl d_O_layMarks_9 ?_
    refine lv_icmp_ge (tgt := 137) hx hb d_O_layMarks_12 (by decide) (fun cn => ?_) (fun cn => ?_)
    · have h := h.1 cn
      refine lv_aload_n hx hb d_O_layMarks_137 rfl (lv_at hl 0 rfl) ?_
      refine va_get (D := D) (ci := 1) (v := .ref (ad 20)) (C := RX1) (T := TX1) (N := 14) hx hb htg inG_X1 hown hK hP 3 rfl rfl 5 (by decide) (htg _ m_179) (fun _ h9 => h9) rfl d_O_layMarks_138 ?_
      refine lv_aload_n hx hb d_O_layMarks_141 rfl (lv_at hl 0 rfl) ?_
      refine va_get (D := D) (ci := 1) (v := .int (σ 0 9)) (C := RX1) (T := TX1) (N := 14) hx hb htg inG_X1 hown hK hP 3 rfl rfl 11 (by decide) (htg _ m_185) (fun _ h9 => h9) rfl d_O_layMarks_142 ?_
      refine lv_aload_n hx hb d_O_layMarks_145 rfl (lv_at hl 0 rfl) ?_
      refine va_get (D := D) (ci := 1) (v := .int (σ 0 10)) (C := RX1) (T := TX1) (N := 14) hx hb htg inG_X1 hown hK hP 3 rfl rfl 12 (by decide) (htg _ m_186) (fun _ h9 => h9) rfl d_O_layMarks_146 ?_
      have hi := h.1
      have h := h.2
      refine va_iast hx hb hK hP (hD _) hS 20 0 rfl rfl hi d_O_layMarks_149 (fun H locs hP _ hS => ?_)
      obtain ⟨σ2, eσ2⟩ : ∃ z : S0, z = st σ 20 (σ 0 9).toNatClampNeg (σ 0 10) := ⟨_, rfl⟩
      have hP : va_P D vwCl (wC ad cA cB σ2) H := by rw [eσ2]; exact hP
      have h := h σ2 eσ2
      exact W.vret hx hb hr (fun t ht hW => ⟨⟨σ2, rfl, h, kBC_of ht hP⟩, hS.F ht⟩) hS.2.2 d_O_layMarks_150 hlocks
    · have h := h.2 cn
      refine lv_aload_n hx hb d_O_layMarks_15 rfl (lv_at hl 0 rfl) ?_
      refine va_get (D := D) (ci := 1) (v := .ref (ad 20)) (C := RX1) (T := TX1) (N := 14) hx hb htg inG_X1 hown hK hP 3 rfl rfl 5 (by decide) (htg _ m_179) (fun _ h9 => h9) rfl d_O_layMarks_16 ?_
      refine lv_iload_n hx hb d_O_layMarks_19 rfl (lv_at hl 2 rfl) ?_
      refine lv_aload_n hx hb d_O_layMarks_20 rfl (lv_at hl 0 rfl) ?_
      refine va_get (D := D) (ci := 1) (v := .int (σ 0 10)) (C := RX1) (T := TX1) (N := 14) hx hb htg inG_X1 hown hK hP 3 rfl rfl 12 (by decide) (htg _ m_186) (fun _ h9 => h9) rfl d_O_layMarks_21 ?_
      have hi := h.1
      have h := h.2
      refine va_iast hx hb hK hP (hD _) hS 20 0 rfl rfl hi d_O_layMarks_24 (fun H locs hP _ hS => ?_)
      obtain ⟨σ3, eσ3⟩ : ∃ z : S0, z = st σ 20 x2.toNatClampNeg (σ 0 10) := ⟨_, rfl⟩
      have hP : va_P D vwCl (wC ad cA cB σ3) H := by rw [eσ3]; exact hP
      have h := h σ3 eσ3
      refine lv_iconst (v := 0) hx hb d_O_layMarks_25 (by decide) ?_
      refine lv_istore_n (lv' := [(3, .int 0), (0, .ref (ad 3)), (1, .ref (ad 2)), (2, .int x2)]) hx hb d_O_layMarks_26 rfl hl (by decide) rfl (fun ls hl => ?_)
      rw [hG27] at h
      exact h _ _ _ hP hS (lv_sub hl [1, 2, 3, 0] rfl))
  have h := h (by
    intro x2 x3 σ h
    rw [hG27]
    intro H locs ls hP hS hl
    refine lv_iload_n hx hb d_O_layMarks_27 rfl (lv_at hl 3 rfl) ?_
    refine lv_bipush (v := 16) hx hb d_O_layMarks_28 (by decide) ?_
    refine lv_icmp_ge (tgt := 65) hx hb d_O_layMarks_30 (by decide) (fun cn => ?_) (fun cn => ?_)
    · have h := h.1 cn
      refine lv_iconst (v := 0) hx hb d_O_layMarks_65 (by decide) ?_
      refine lv_istore_n (lv' := [(3, .int 0), (0, .ref (ad 3)), (1, .ref (ad 2)), (2, .int x2)]) hx hb d_O_layMarks_66 rfl hl (by decide) rfl (fun ls hl => ?_)
      rw [hG67] at h
      exact h _ _ _ hP hS (lv_sub hl [1, 2, 3, 0] rfl)
    · have h := h.2 cn
      refine lv_aload_n hx hb d_O_layMarks_33 rfl (lv_at hl 1 rfl) ?_
      refine va_get (D := D) (ci := 2) (v := .int (σ 0 4)) (C := RX2) (T := TX2) (N := 10) hx hb htg inG_X2 hown hK hP 2 rfl rfl 3 (by decide) (htg _ m_131) (fun _ h9 => h9) rfl d_O_layMarks_34 ?_
      refine lv_iload_n hx hb d_O_layMarks_37 rfl (lv_at hl 3 rfl) ?_
      refine kC_i (va_runSN (As := [.int (σ 0 4), .int x3]) (rest := []) ⟨hx, hb, hml, hown, htg⟩ (met_M_has l D ad cA cB hap σ H.size (σ 0 4) x3 _ h) ⟨va_cnB (host := "MatrixSheets") 2 htg (kG (kG_self m_318)) rfl rfl rfl (hE _ me_469) (htg _ m_53) (by decide +kernel) ⟨Nat.le_of_ble_eq_true rfl, Nat.le_of_ble_eq_true rfl⟩, htg _ m_317, trivial⟩ (kC_pre hK hF hP hS _) rfl rfl hl.1 rfl (lv_room (Nat.le_of_ble_eq_true rfl)) d_O_layMarks_38 ⟨Nat.le_of_ble_eq_true rfl, Nat.le_of_ble_eq_true rfl⟩) hS (fun r5 σ4 H locs h hP hS => ?_)
      refine lv_if_eq (tgt := 59) hx hb d_O_layMarks_41 (by decide) (fun cn => ?_) (fun cn => ?_)
      · have h := h.1 cn
        refine lv_iinc (v := (x3 + 1)) (lv' := [(3, .int (x3 + 1)), (0, .ref (ad 3)), (1, .ref (ad 2)), (2, .int x2)]) hx hb d_O_layMarks_59 hl (k := 3) rfl rfl (by decide) rfl (fun ls hl => ?_)
        refine lv_goto (tgt := 27) hx hb d_O_layMarks_62 (by decide) ?_
        rw [hG27] at h
        exact h _ _ _ hP hS (lv_sub hl [1, 2, 3, 0] rfl)
      · have h := h.2 cn
        refine lv_aload_n hx hb d_O_layMarks_44 rfl (lv_at hl 1 rfl) ?_
        refine va_get (D := D) (ci := 2) (v := .ref (ad 10)) (C := RX2) (T := TX2) (N := 10) hx hb htg inG_X2 hown hK hP 2 rfl rfl 0 (by decide) (htg _ m_123) (fun _ h9 => h9) rfl d_O_layMarks_45 ?_
        refine lv_iload_n hx hb d_O_layMarks_48 rfl (lv_at hl 3 rfl) ?_
        have hi := h.1
        have h := h.2
        refine va_iald hx hb hK hP 10 0 rfl rfl hi d_O_layMarks_49 ?_
        refine lv_iload_n hx hb d_O_layMarks_50 rfl (lv_at hl 2 rfl) ?_
        refine lv_icmp_ne (tgt := 59) hx hb d_O_layMarks_51 (by decide) (fun cn => ?_) (fun cn => ?_)
        · have h := h.1 cn
          refine lv_iinc (v := (x3 + 1)) (lv' := [(3, .int (x3 + 1)), (0, .ref (ad 3)), (1, .ref (ad 2)), (2, .int x2)]) hx hb d_O_layMarks_59 hl (k := 3) rfl rfl (by decide) rfl (fun ls hl => ?_)
          refine lv_goto (tgt := 27) hx hb d_O_layMarks_62 (by decide) ?_
          rw [hG27] at h
          exact h _ _ _ hP hS (lv_sub hl [1, 2, 3, 0] rfl)
        · have h := h.2 cn
          refine lv_aload_n hx hb d_O_layMarks_54 rfl (lv_at hl 0 rfl) ?_
          refine lv_iload_n hx hb d_O_layMarks_55 rfl (lv_at hl 3 rfl) ?_
          refine kC_v (va_runV (As := [.int x3]) (rest := []) ⟨hx, hb, hml, hown, htg⟩ (met_O_layMark l D ad cA cB hap σ4 H.size x3 _ h) (cwV 1 htg (kG (kG_V m_470 m_472 m_10 m_56 (kG_self m_473))) rfl rfl rfl (by decide +kernel) ⟨Nat.le_of_ble_eq_true rfl, Nat.le_of_ble_eq_true rfl⟩) (kC_preV hK hF hP hS 3 rfl rfl _) rfl rfl hl.1 rfl (lv_room (Nat.le_of_ble_eq_true rfl)) d_O_layMarks_56 ⟨Nat.le_of_ble_eq_true rfl, Nat.le_of_ble_eq_true rfl⟩) hS (fun σ6 H locs h hP hS => ?_)
          refine lv_iinc (v := (x3 + 1)) (lv' := [(3, .int (x3 + 1)), (0, .ref (ad 3)), (1, .ref (ad 2)), (2, .int x2)]) hx hb d_O_layMarks_59 hl (k := 3) rfl rfl (by decide) rfl (fun ls hl => ?_)
          refine lv_goto (tgt := 27) hx hb d_O_layMarks_62 (by decide) ?_
          rw [hG27] at h
          exact h _ _ _ hP hS (lv_sub hl [1, 2, 3, 0] rfl))
  have h := h (by
    intro x2 x3 σ h
    rw [hG67]
    intro H locs ls hP hS hl
    refine lv_iload_n hx hb d_O_layMarks_67 rfl (lv_at hl 3 rfl) ?_
    refine lv_aload_n hx hb d_O_layMarks_68 rfl (lv_at hl 1 rfl) ?_
    refine va_get (D := D) (ci := 2) (v := .int (σ 0 6)) (C := RX2) (T := TX2) (N := 10) hx hb htg inG_X2 hown hK hP 2 rfl rfl 5 (by decide) (htg _ m_136) (fun _ h9 => h9) rfl d_O_layMarks_69 ?_
    refine lv_icmp_ge (tgt := 122) hx hb d_O_layMarks_72 (by decide) (fun cn => ?_) (fun cn => ?_)
    · have h := h.1 cn
      refine lv_aload_n hx hb d_O_layMarks_122 rfl (lv_at hl 0 rfl) ?_
      refine lv_iload_n hx hb d_O_layMarks_123 rfl (lv_at hl 2 rfl) ?_
      refine lv_aload_n hx hb d_O_layMarks_124 rfl (lv_at hl 0 rfl) ?_
      refine va_get (D := D) (ci := 1) (v := .int (σ 0 10)) (C := RX1) (T := TX1) (N := 14) hx hb htg inG_X1 hown hK hP 3 rfl rfl 12 (by decide) (htg _ m_186) (fun _ h9 => h9) rfl d_O_layMarks_125 ?_
      refine kC_v (va_runV (As := [.int x2, .int (σ 0 10)]) (rest := []) ⟨hx, hb, hml, hown, htg⟩ (met_O_numberPlaces l D ad cA cB hap σ H.size x2 (σ 0 10) _ h) (cwV 2 htg (kG (kG_V m_479 m_481 m_11 m_56 (kG_self m_482))) rfl rfl rfl (by decide +kernel) ⟨Nat.le_of_ble_eq_true rfl, Nat.le_of_ble_eq_true rfl⟩) (kC_preV hK hF hP hS 3 rfl rfl _) rfl rfl hl.1 rfl (lv_room (Nat.le_of_ble_eq_true rfl)) d_O_layMarks_128 ⟨Nat.le_of_ble_eq_true rfl, Nat.le_of_ble_eq_true rfl⟩) hS (fun σ7 H locs h hP hS => ?_)
      refine lv_iinc (v := (x2 + 1)) (lv' := [(2, .int (x2 + 1)), (0, .ref (ad 3)), (1, .ref (ad 2)), (3, .int x3)]) hx hb d_O_layMarks_131 hl (k := 2) rfl rfl (by decide) rfl (fun ls hl => ?_)
      refine lv_goto (tgt := 7) hx hb d_O_layMarks_134 (by decide) ?_
      rw [hG7] at h
      exact h _ _ _ hP hS (lv_sub hl [1, 2, 0] rfl)
    · have h := h.2 cn
      refine lv_iload_n hx hb d_O_layMarks_75 rfl (lv_at hl 2 rfl) ?_
      refine lv_aload_n hx hb d_O_layMarks_76 rfl (lv_at hl 1 rfl) ?_
      refine va_get (D := D) (ci := 2) (v := .ref (ad 10)) (C := RX2) (T := TX2) (N := 10) hx hb htg inG_X2 hown hK hP 2 rfl rfl 0 (by decide) (htg _ m_123) (fun _ h9 => h9) rfl d_O_layMarks_77 ?_
      refine lv_aload_n hx hb d_O_layMarks_80 rfl (lv_at hl 1 rfl) ?_
      refine va_get (D := D) (ci := 2) (v := .ref (ad 11)) (C := RX2) (T := TX2) (N := 10) hx hb htg inG_X2 hown hK hP 2 rfl rfl 1 (by decide) (htg _ m_126) (fun _ h9 => h9) rfl d_O_layMarks_81 ?_
      refine lv_iload_n hx hb d_O_layMarks_84 rfl (lv_at hl 3 rfl) ?_
      have hi := h.1
      have h := h.2
      refine va_iald hx hb hK hP 11 0 rfl rfl hi d_O_layMarks_85 ?_
      have hi := h.1
      have h := h.2
      refine va_iald hx hb hK hP 10 0 rfl rfl hi d_O_layMarks_86 ?_
      refine lv_isub hx hb d_O_layMarks_87 ?_
      refine lv_topi (fun v8 ev8 => ?_)
      have h := h v8 ev8
      refine lv_istore (lv' := [(4, .int v8), (0, .ref (ad 3)), (1, .ref (ad 2)), (2, .int x2), (3, .int x3)]) hx hb d_O_layMarks_88 hl (by decide) rfl (fun ls hl => ?_)
      refine lv_iload hx hb d_O_layMarks_90 (lv_at hl 0 rfl) ?_
      refine lv_if_le (tgt := 116) hx hb d_O_layMarks_92 (by decide) (fun cn => ?_) (fun cn => ?_)
      · have h := h.1 cn
        refine lv_iinc (v := (x3 + 1)) (lv' := [(3, .int (x3 + 1)), (4, .int v8), (0, .ref (ad 3)), (1, .ref (ad 2)), (2, .int x2)]) hx hb d_O_layMarks_116 hl (k := 4) rfl rfl (by decide) rfl (fun ls hl => ?_)
        refine lv_goto (tgt := 67) hx hb d_O_layMarks_119 (by decide) ?_
        rw [hG67] at h
        exact h _ _ _ hP hS (lv_sub hl [2, 3, 4, 0] rfl)
      · have h := h.2 cn
        refine lv_iload hx hb d_O_layMarks_95 (lv_at hl 0 rfl) ?_
        refine lv_aload_n hx hb d_O_layMarks_97 rfl (lv_at hl 2 rfl) ?_
        refine lv_iload_n hx hb d_O_layMarks_98 rfl (lv_at hl 4 rfl) ?_
        refine kC_i (va_runV (As := [.int x3]) (rest := [.int v8]) ⟨hx, hb, hml, hown, htg⟩ (met_P_bendsOf l D ad cA cB hap σ H.size x3 _ h) (cwV 1 htg (kG (kG_V m_474 m_458 m_459 m_55 (kG_self m_460))) rfl rfl rfl (by decide +kernel) ⟨Nat.le_of_ble_eq_true rfl, Nat.le_of_ble_eq_true rfl⟩) (kC_preV hK hF hP hS 2 rfl rfl _) rfl rfl hl.1 rfl (lv_room (Nat.le_of_ble_eq_true rfl)) d_O_layMarks_99 ⟨Nat.le_of_ble_eq_true rfl, Nat.le_of_ble_eq_true rfl⟩) hS (fun r10 σ9 H locs h hP hS => ?_)
        refine lv_icmp_gt (tgt := 116) hx hb d_O_layMarks_102 (by decide) (fun cn => ?_) (fun cn => ?_)
        · have h := h.1 cn
          refine lv_iinc (v := (x3 + 1)) (lv' := [(3, .int (x3 + 1)), (4, .int v8), (0, .ref (ad 3)), (1, .ref (ad 2)), (2, .int x2)]) hx hb d_O_layMarks_116 hl (k := 4) rfl rfl (by decide) rfl (fun ls hl => ?_)
          refine lv_goto (tgt := 67) hx hb d_O_layMarks_119 (by decide) ?_
          rw [hG67] at h
          exact h _ _ _ hP hS (lv_sub hl [2, 3, 4, 0] rfl)
        · have h := h.2 cn
          refine lv_aload_n hx hb d_O_layMarks_105 rfl (lv_at hl 1 rfl) ?_
          refine lv_aload_n hx hb d_O_layMarks_106 rfl (lv_at hl 2 rfl) ?_
          refine lv_iload_n hx hb d_O_layMarks_107 rfl (lv_at hl 4 rfl) ?_
          refine lv_iload hx hb d_O_layMarks_108 (lv_at hl 0 rfl) ?_
          refine kC_i (va_runV (As := [.int x3, .int v8]) (rest := [.ref (ad 3)]) ⟨hx, hb, hml, hown, htg⟩ (met_P_pointOf l D ad cA cB hap σ9 H.size x3 v8 _ h) (cwV 2 htg (kG (kG_V m_475 m_476 m_477 m_55 (kG_self m_478))) rfl rfl rfl (by decide +kernel) ⟨Nat.le_of_ble_eq_true rfl, Nat.le_of_ble_eq_true rfl⟩) (kC_preV hK hF hP hS 2 rfl rfl _) rfl rfl hl.1 rfl (lv_room (Nat.le_of_ble_eq_true rfl)) d_O_layMarks_110 ⟨Nat.le_of_ble_eq_true rfl, Nat.le_of_ble_eq_true rfl⟩) hS (fun r12 σ11 H locs h hP hS => ?_)
          refine kC_v (va_runV (As := [.int r12]) (rest := []) ⟨hx, hb, hml, hown, htg⟩ (met_O_layMark l D ad cA cB hap σ11 H.size r12 _ h) (cwV 1 htg (kG (kG_V m_470 m_472 m_10 m_56 (kG_self m_473))) rfl rfl rfl (by decide +kernel) ⟨Nat.le_of_ble_eq_true rfl, Nat.le_of_ble_eq_true rfl⟩) (kC_preV hK hF hP hS 3 rfl rfl _) rfl rfl hl.1 rfl (lv_room (Nat.le_of_ble_eq_true rfl)) d_O_layMarks_113 ⟨Nat.le_of_ble_eq_true rfl, Nat.le_of_ble_eq_true rfl⟩) hS (fun σ13 H locs h hP hS => ?_)
          refine lv_iinc (v := (x3 + 1)) (lv' := [(3, .int (x3 + 1)), (4, .int v8), (0, .ref (ad 3)), (1, .ref (ad 2)), (2, .int x2)]) hx hb d_O_layMarks_116 hl (k := 4) rfl rfl (by decide) rfl (fun ls hl => ?_)
          refine lv_goto (tgt := 67) hx hb d_O_layMarks_119 (by decide) ?_
          rw [hG67] at h
          exact h _ _ _ hP hS (lv_sub hl [2, 3, 4, 0] rfl))
  obtain ⟨H, eH⟩ : ∃ z, z = s.heap := ⟨_, rfl⟩
  have hP : va_P D vwCl (wC ad cA cB σ) H := by rw [eH]; exact hP
  have hS : va_S (kAC ad s.heap.size) s.heap H [] := by rw [eH]; exact hS
  show W p l e (headSpec (Cond.code y_O_layMarks c_O_layMarks 5 none :: wsG) ({ frames := 2, cells := 0, slots := 0, locals := 43 } : Room)).room s m ([.ref (ad 3), .ref (ad 2)] : List Value).toArray below meth c s.heap [] 0 0 (MQ below (va_Qv post (kBC D ad cA cB) (kAC ad s.heap.size)) ([.ref (ad 3), .ref (ad 2)] : List Value).toArray s 0 0 (kAC ad s.heap.size)) (F0 m 0 ls [])
  suffices k : W p l e (headSpec (Cond.code y_O_layMarks c_O_layMarks 5 none :: wsG) ({ frames := 2, cells := 0, slots := 0, locals := 43 } : Room)).room s m ([.ref (ad 3), .ref (ad 2)] : List Value).toArray below meth c H [] 0 0 (MQ below (va_Qv post (kBC D ad cA cB) (kAC ad s.heap.size)) ([.ref (ad 3), .ref (ad 2)] : List Value).toArray s 0 0 (kAC ad s.heap.size)) (F0 m 0 ls []) by rw [eH] at k; exact k
  refine lv_aload_n hx hb d_O_layMarks_0 rfl (lv_at hl 0 rfl) ?_
  refine lv_iconst (v := 0) hx hb d_O_layMarks_1 (by decide) ?_
  refine va_put (D := D) (ci := 1) (v := .int 0) (ty := .int) (C := RX1) (T := TX1) (N := 14) hx hb htg inG_X1 tyX1 tyX1_ok nmX1 hown hK hP (hD _) hS 3 rfl rfl 12 (by decide) (htg _ m_186) (fun _ h9 => h9) rfl (by decide +kernel) rfl rfl (Nat.le_of_ble_eq_true rfl) d_O_layMarks_2 (fun H locs hP _ hS => ?_)
  obtain ⟨σ1, eσ1⟩ : ∃ z : S0, z = st σ 0 10 0 := ⟨_, rfl⟩
  have hP : va_P D vwCl (wC ad cA cB σ1) H := by rw [eσ1]; exact hP
  have h := h σ1 eσ1
  refine lv_iconst (v := 0) hx hb d_O_layMarks_5 (by decide) ?_
  refine lv_istore_n (lv' := [(2, .int 0), (0, .ref (ad 3)), (1, .ref (ad 2))]) hx hb d_O_layMarks_6 rfl hl (by decide) rfl (fun ls hl => ?_)
  rw [hG7] at h
  exact h _ _ _ hP hS (lv_sub hl [1, 2, 0] rfl)
set_option maxHeartbeats 4000000 in
set_option maxRecDepth 100000 in
theorem met_O_layPieces (l : Launch) (D : va_G) (ad : Nat → Nat) (cA cB : ClassId) (hap : kapC ad) (σ : S0) (sz : Nat) (post : S0 → Prop) (h : Sp_O_layPieces  σ post) : Met l y_O_layPieces (Cond.code y_O_layPieces c_O_layPieces 5 none :: wsG) ({ frames := 2, cells := 0, slots := 0, locals := 43 } : Room) (kPcC D ad cA cB σ sz [.ref (ad 3), .ref (ad 2)]) (va_Qv post (kBC D ad cA cB) (kAC ad sz)) 0 0 (kAC ad sz) := by
  refine Met.ofW (cc := c_O_layPieces) (maxL := 5) (ret := none) (by decide) rfl ?_
  intro p e s m args below meth c s₁ B hml hv
  obtain ⟨rfl, hsz, hP, hK, hF⟩ := hv
  have hx := B.exec
  have hb := B.bytes
  have hr := B.returns
  have hts := atoms_spec (ws := (Cond.code y_O_layPieces c_O_layPieces 5 none :: wsG)) B.pre
  have htg : ∀ w ∈ wsG, w.before ([.ref (ad 3), .ref (ad 2)] : List Value).toArray s = true := fun w h => hts w (List.mem_cons_of_mem _ h)
  have hown : s.vm.findClass RX1 = some m.cls := findClass_of_methodNamed B.named
  have hlocks := B.notSynchronized
  subst hsz
  have hD : ∀ σ, va_D (kAC ad s.heap.size) (wC ad cA cB σ) := fun σ => wC_D hap cA cB σ _
  have hS : va_S (kAC ad s.heap.size) s.heap s.heap [] := va_S.rf
  have hE := hF.1
  have hl := lv_entry ([.ref (ad 3), .ref (ad 2)]) (n := 5) (Nat.le_of_ble_eq_true rfl)
  rw [lg_entry_eq]
  generalize (lg_sl ([.ref (ad 3), .ref (ad 2)]) ++ List.replicate (5 - (lg_sl ([.ref (ad 3), .ref (ad 2)])).length) Slot.unset).toArray = ls at hl ⊢
  have hl : lv_has ls 5 [(0, .ref (ad 3)), (1, .ref (ad 2))] := hl
  unfold Sp_O_layPieces at h
  obtain ⟨G7, hG7⟩ : ∃ G : Int32 → S0 → Prop, G = fun (x2 : Int32) (σ : S0) => ∀ (H : Heap) (locs : List Loc) (ls : Array Slot), va_P D vwCl (wC ad cA cB σ) H → va_S (kAC ad s.heap.size) s.heap H locs → lv_has ls 5 [(0, .ref (ad 3)), (1, .ref (ad 2)), (2, .int x2)] → W p l e (headSpec (Cond.code y_O_layPieces c_O_layPieces 5 none :: wsG) ({ frames := 2, cells := 0, slots := 0, locals := 43 } : Room)).room s m ([.ref (ad 3), .ref (ad 2)] : List Value).toArray below meth c H locs 0 0 (MQ below (va_Qv post (kBC D ad cA cB) (kAC ad s.heap.size)) ([.ref (ad 3), .ref (ad 2)] : List Value).toArray s 0 0 (kAC ad s.heap.size)) (F0 m 7 ls []) := ⟨_, rfl⟩
  obtain ⟨G27, hG27⟩ : ∃ G : Int32 → Int32 → S0 → Prop, G = fun (x2 x3 : Int32) (σ : S0) => ∀ (H : Heap) (locs : List Loc) (ls : Array Slot), va_P D vwCl (wC ad cA cB σ) H → va_S (kAC ad s.heap.size) s.heap H locs → lv_has ls 5 [(0, .ref (ad 3)), (1, .ref (ad 2)), (2, .int x2), (3, .int x3)] → W p l e (headSpec (Cond.code y_O_layPieces c_O_layPieces 5 none :: wsG) ({ frames := 2, cells := 0, slots := 0, locals := 43 } : Room)).room s m ([.ref (ad 3), .ref (ad 2)] : List Value).toArray below meth c H locs 0 0 (MQ below (va_Qv post (kBC D ad cA cB) (kAC ad s.heap.size)) ([.ref (ad 3), .ref (ad 2)] : List Value).toArray s 0 0 (kAC ad s.heap.size)) (F0 m 27 ls []) := ⟨_, rfl⟩
  have h := h G7 G27
  have h := h (by
    intro x2 σ h
    rw [hG7]
    intro H locs ls hP hS hl
    refine lv_iload_n hx hb d_O_layPieces_7 rfl (lv_at hl 2 rfl) ?_
    refine lv_aload_n hx hb d_O_layPieces_8 rfl (lv_at hl 0 rfl) ?_
    refine va_get (D := D) (ci := 1) (v := .int (σ 0 9)) (C := RX1) (T := TX1) (N := 14) hx hb htg inG_X1 hown hK hP 3 rfl rfl 11 (by decide) (htg _ m_185) (fun _ h9 => h9) rfl d_O_layPieces_9 ?_
    refine lv_icmp_ge (tgt := 121) hx hb d_O_layPieces_12 (by decide) (fun cn => ?_) (fun cn => ?_)
    · have h := h.1 cn
      refine lv_aload_n hx hb d_O_layPieces_121 rfl (lv_at hl 0 rfl) ?_
      refine va_get (D := D) (ci := 1) (v := .ref (ad 23)) (C := RX1) (T := TX1) (N := 14) hx hb htg inG_X1 hown hK hP 3 rfl rfl 8 (by decide) (htg _ m_182) (fun _ h9 => h9) rfl d_O_layPieces_122 ?_
      refine lv_aload_n hx hb d_O_layPieces_125 rfl (lv_at hl 0 rfl) ?_
      refine va_get (D := D) (ci := 1) (v := .int (σ 0 9)) (C := RX1) (T := TX1) (N := 14) hx hb htg inG_X1 hown hK hP 3 rfl rfl 11 (by decide) (htg _ m_185) (fun _ h9 => h9) rfl d_O_layPieces_126 ?_
      refine lv_aload_n hx hb d_O_layPieces_129 rfl (lv_at hl 0 rfl) ?_
      refine va_get (D := D) (ci := 1) (v := .int (σ 0 11)) (C := RX1) (T := TX1) (N := 14) hx hb htg inG_X1 hown hK hP 3 rfl rfl 13 (by decide) (htg _ m_187) (fun _ h9 => h9) rfl d_O_layPieces_130 ?_
      have hi := h.1
      have h := h.2
      refine va_iast hx hb hK hP (hD _) hS 23 0 rfl rfl hi d_O_layPieces_133 (fun H locs hP _ hS => ?_)
      obtain ⟨σ2, eσ2⟩ : ∃ z : S0, z = st σ 23 (σ 0 9).toNatClampNeg (σ 0 11) := ⟨_, rfl⟩
      have hP : va_P D vwCl (wC ad cA cB σ2) H := by rw [eσ2]; exact hP
      have h := h σ2 eσ2
      exact W.vret hx hb hr (fun t ht hW => ⟨⟨σ2, rfl, h, kBC_of ht hP⟩, hS.F ht⟩) hS.2.2 d_O_layPieces_134 hlocks
    · have h := h.2 cn
      refine lv_aload_n hx hb d_O_layPieces_15 rfl (lv_at hl 0 rfl) ?_
      refine va_get (D := D) (ci := 1) (v := .ref (ad 23)) (C := RX1) (T := TX1) (N := 14) hx hb htg inG_X1 hown hK hP 3 rfl rfl 8 (by decide) (htg _ m_182) (fun _ h9 => h9) rfl d_O_layPieces_16 ?_
      refine lv_iload_n hx hb d_O_layPieces_19 rfl (lv_at hl 2 rfl) ?_
      refine lv_aload_n hx hb d_O_layPieces_20 rfl (lv_at hl 0 rfl) ?_
      refine va_get (D := D) (ci := 1) (v := .int (σ 0 11)) (C := RX1) (T := TX1) (N := 14) hx hb htg inG_X1 hown hK hP 3 rfl rfl 13 (by decide) (htg _ m_187) (fun _ h9 => h9) rfl d_O_layPieces_21 ?_
      have hi := h.1
      have h := h.2
      refine va_iast hx hb hK hP (hD _) hS 23 0 rfl rfl hi d_O_layPieces_24 (fun H locs hP _ hS => ?_)
      obtain ⟨σ3, eσ3⟩ : ∃ z : S0, z = st σ 23 x2.toNatClampNeg (σ 0 11) := ⟨_, rfl⟩
      have hP : va_P D vwCl (wC ad cA cB σ3) H := by rw [eσ3]; exact hP
      have h := h σ3 eσ3
      refine lv_iconst (v := 0) hx hb d_O_layPieces_25 (by decide) ?_
      refine lv_istore_n (lv' := [(3, .int 0), (0, .ref (ad 3)), (1, .ref (ad 2)), (2, .int x2)]) hx hb d_O_layPieces_26 rfl hl (by decide) rfl (fun ls hl => ?_)
      rw [hG27] at h
      exact h _ _ _ hP hS (lv_sub hl [1, 2, 3, 0] rfl))
  have h := h (by
    intro x2 x3 σ h
    rw [hG27]
    intro H locs ls hP hS hl
    refine lv_iload_n hx hb d_O_layPieces_27 rfl (lv_at hl 3 rfl) ?_
    refine lv_aload_n hx hb d_O_layPieces_28 rfl (lv_at hl 1 rfl) ?_
    refine va_get (D := D) (ci := 2) (v := .int (σ 0 6)) (C := RX2) (T := TX2) (N := 10) hx hb htg inG_X2 hown hK hP 2 rfl rfl 5 (by decide) (htg _ m_136) (fun _ h9 => h9) rfl d_O_layPieces_29 ?_
    refine lv_icmp_ge (tgt := 115) hx hb d_O_layPieces_32 (by decide) (fun cn => ?_) (fun cn => ?_)
    · have h := h.1 cn
      refine lv_iinc (v := (x2 + 1)) (lv' := [(2, .int (x2 + 1)), (0, .ref (ad 3)), (1, .ref (ad 2)), (3, .int x3)]) hx hb d_O_layPieces_115 hl (k := 2) rfl rfl (by decide) rfl (fun ls hl => ?_)
      refine lv_goto (tgt := 7) hx hb d_O_layPieces_118 (by decide) ?_
      rw [hG7] at h
      exact h _ _ _ hP hS (lv_sub hl [1, 2, 0] rfl)
    · have h := h.2 cn
      refine lv_iload_n hx hb d_O_layPieces_35 rfl (lv_at hl 2 rfl) ?_
      refine lv_aload_n hx hb d_O_layPieces_36 rfl (lv_at hl 1 rfl) ?_
      refine va_get (D := D) (ci := 2) (v := .ref (ad 10)) (C := RX2) (T := TX2) (N := 10) hx hb htg inG_X2 hown hK hP 2 rfl rfl 0 (by decide) (htg _ m_123) (fun _ h9 => h9) rfl d_O_layPieces_37 ?_
      refine lv_aload_n hx hb d_O_layPieces_40 rfl (lv_at hl 1 rfl) ?_
      refine va_get (D := D) (ci := 2) (v := .ref (ad 11)) (C := RX2) (T := TX2) (N := 10) hx hb htg inG_X2 hown hK hP 2 rfl rfl 1 (by decide) (htg _ m_126) (fun _ h9 => h9) rfl d_O_layPieces_41 ?_
      refine lv_iload_n hx hb d_O_layPieces_44 rfl (lv_at hl 3 rfl) ?_
      have hi := h.1
      have h := h.2
      refine va_iald hx hb hK hP 11 0 rfl rfl hi d_O_layPieces_45 ?_
      have hi := h.1
      have h := h.2
      refine va_iald hx hb hK hP 10 0 rfl rfl hi d_O_layPieces_46 ?_
      refine lv_isub hx hb d_O_layPieces_47 ?_
      refine lv_topi (fun v4 ev4 => ?_)
      have h := h v4 ev4
      refine lv_istore (lv' := [(4, .int v4), (0, .ref (ad 3)), (1, .ref (ad 2)), (2, .int x2), (3, .int x3)]) hx hb d_O_layPieces_48 hl (by decide) rfl (fun ls hl => ?_)
      refine lv_iload hx hb d_O_layPieces_50 (lv_at hl 0 rfl) ?_
      refine lv_if_lt (tgt := 109) hx hb d_O_layPieces_52 (by decide) (fun cn => ?_) (fun cn => ?_)
      · have h := h.1 cn
        refine lv_iinc (v := (x3 + 1)) (lv' := [(3, .int (x3 + 1)), (4, .int v4), (0, .ref (ad 3)), (1, .ref (ad 2)), (2, .int x2)]) hx hb d_O_layPieces_109 hl (k := 4) rfl rfl (by decide) rfl (fun ls hl => ?_)
        refine lv_goto (tgt := 27) hx hb d_O_layPieces_112 (by decide) ?_
        rw [hG27] at h
        exact h _ _ _ hP hS (lv_sub hl [2, 3, 4, 0] rfl)
      · have h := h.2 cn
        refine lv_iload hx hb d_O_layPieces_55 (lv_at hl 0 rfl) ?_
        refine lv_aload_n hx hb d_O_layPieces_57 rfl (lv_at hl 2 rfl) ?_
        refine lv_iload_n hx hb d_O_layPieces_58 rfl (lv_at hl 4 rfl) ?_
        refine kC_i (va_runV (As := [.int x3]) (rest := [.int v4]) ⟨hx, hb, hml, hown, htg⟩ (met_P_bendsOf l D ad cA cB hap σ H.size x3 _ h) (cwV 1 htg (kG (kG_V m_474 m_458 m_459 m_55 (kG_self m_460))) rfl rfl rfl (by decide +kernel) ⟨Nat.le_of_ble_eq_true rfl, Nat.le_of_ble_eq_true rfl⟩) (kC_preV hK hF hP hS 2 rfl rfl _) rfl rfl hl.1 rfl (lv_room (Nat.le_of_ble_eq_true rfl)) d_O_layPieces_59 ⟨Nat.le_of_ble_eq_true rfl, Nat.le_of_ble_eq_true rfl⟩) hS (fun r6 σ5 H locs h hP hS => ?_)
        refine lv_icmp_gt (tgt := 109) hx hb d_O_layPieces_62 (by decide) (fun cn => ?_) (fun cn => ?_)
        · have h := h.1 cn
          refine lv_iinc (v := (x3 + 1)) (lv' := [(3, .int (x3 + 1)), (4, .int v4), (0, .ref (ad 3)), (1, .ref (ad 2)), (2, .int x2)]) hx hb d_O_layPieces_109 hl (k := 4) rfl rfl (by decide) rfl (fun ls hl => ?_)
          refine lv_goto (tgt := 27) hx hb d_O_layPieces_112 (by decide) ?_
          rw [hG27] at h
          exact h _ _ _ hP hS (lv_sub hl [2, 3, 4, 0] rfl)
        · have h := h.2 cn
          refine lv_aload_n hx hb d_O_layPieces_65 rfl (lv_at hl 1 rfl) ?_
          refine va_get (D := D) (ci := 1) (v := .ref (ad 21)) (C := RX1) (T := TX1) (N := 14) hx hb htg inG_X1 hown hK hP 3 rfl rfl 6 (by decide) (htg _ m_180) (fun _ h9 => h9) rfl d_O_layPieces_66 ?_
          refine lv_aload_n hx hb d_O_layPieces_69 rfl (lv_at hl 1 rfl) ?_
          refine va_get (D := D) (ci := 1) (v := .int (σ5 0 11)) (C := RX1) (T := TX1) (N := 14) hx hb htg inG_X1 hown hK hP 3 rfl rfl 13 (by decide) (htg _ m_187) (fun _ h9 => h9) rfl d_O_layPieces_70 ?_
          refine lv_aload_n hx hb d_O_layPieces_73 rfl (lv_at hl 2 rfl) ?_
          refine lv_iload_n hx hb d_O_layPieces_74 rfl (lv_at hl 4 rfl) ?_
          refine lv_iload hx hb d_O_layPieces_75 (lv_at hl 0 rfl) ?_
          refine kC_i (va_runV (As := [.int x3, .int v4]) (rest := [.int (σ5 0 11), .ref (ad 21)]) ⟨hx, hb, hml, hown, htg⟩ (met_P_pointOf l D ad cA cB hap σ5 H.size x3 v4 _ h) (cwV 2 htg (kG (kG_V m_475 m_476 m_477 m_55 (kG_self m_478))) rfl rfl rfl (by decide +kernel) ⟨Nat.le_of_ble_eq_true rfl, Nat.le_of_ble_eq_true rfl⟩) (kC_preV hK hF hP hS 2 rfl rfl _) rfl rfl hl.1 rfl (lv_room (Nat.le_of_ble_eq_true rfl)) d_O_layPieces_77 ⟨Nat.le_of_ble_eq_true rfl, Nat.le_of_ble_eq_true rfl⟩) hS (fun r8 σ7 H locs h hP hS => ?_)
          have hi := h.1
          have h := h.2
          refine va_iast hx hb hK hP (hD _) hS 21 0 rfl rfl hi d_O_layPieces_80 (fun H locs hP _ hS => ?_)
          obtain ⟨σ9, eσ9⟩ : ∃ z : S0, z = st σ7 21 (σ5 0 11).toNatClampNeg r8 := ⟨_, rfl⟩
          have hP : va_P D vwCl (wC ad cA cB σ9) H := by rw [eσ9]; exact hP
          have h := h σ9 eσ9
          refine lv_aload_n hx hb d_O_layPieces_81 rfl (lv_at hl 1 rfl) ?_
          refine va_get (D := D) (ci := 1) (v := .ref (ad 22)) (C := RX1) (T := TX1) (N := 14) hx hb htg inG_X1 hown hK hP 3 rfl rfl 7 (by decide) (htg _ m_181) (fun _ h9 => h9) rfl d_O_layPieces_82 ?_
          refine lv_aload_n hx hb d_O_layPieces_85 rfl (lv_at hl 1 rfl) ?_
          refine va_get (D := D) (ci := 1) (v := .int (σ9 0 11)) (C := RX1) (T := TX1) (N := 14) hx hb htg inG_X1 hown hK hP 3 rfl rfl 13 (by decide) (htg _ m_187) (fun _ h9 => h9) rfl d_O_layPieces_86 ?_
          refine lv_aload_n hx hb d_O_layPieces_89 rfl (lv_at hl 2 rfl) ?_
          refine lv_iload_n hx hb d_O_layPieces_90 rfl (lv_at hl 4 rfl) ?_
          refine lv_iload hx hb d_O_layPieces_91 (lv_at hl 0 rfl) ?_
          refine lv_iconst (v := 1) hx hb d_O_layPieces_93 (by decide) ?_
          refine lv_iadd hx hb d_O_layPieces_94 ?_
          refine kC_i (va_runV (As := [.int x3, .int (v4 + 1)]) (rest := [.int (σ9 0 11), .ref (ad 22)]) ⟨hx, hb, hml, hown, htg⟩ (met_P_pointOf l D ad cA cB hap σ9 H.size x3 (v4 + 1) _ h) (cwV 2 htg (kG (kG_V m_475 m_476 m_477 m_55 (kG_self m_478))) rfl rfl rfl (by decide +kernel) ⟨Nat.le_of_ble_eq_true rfl, Nat.le_of_ble_eq_true rfl⟩) (kC_preV hK hF hP hS 2 rfl rfl _) rfl rfl hl.1 rfl (lv_room (Nat.le_of_ble_eq_true rfl)) d_O_layPieces_95 ⟨Nat.le_of_ble_eq_true rfl, Nat.le_of_ble_eq_true rfl⟩) hS (fun r11 σ10 H locs h hP hS => ?_)
          have hi := h.1
          have h := h.2
          refine va_iast hx hb hK hP (hD _) hS 22 0 rfl rfl hi d_O_layPieces_98 (fun H locs hP _ hS => ?_)
          obtain ⟨σ12, eσ12⟩ : ∃ z : S0, z = st σ10 22 (σ9 0 11).toNatClampNeg r11 := ⟨_, rfl⟩
          have hP : va_P D vwCl (wC ad cA cB σ12) H := by rw [eσ12]; exact hP
          have h := h σ12 eσ12
          refine lv_aload_n hx hb d_O_layPieces_99 rfl (lv_at hl 1 rfl) ?_
          refine lv_dup hx hb d_O_layPieces_100 rfl ?_
          refine va_get (D := D) (ci := 1) (v := .int (σ12 0 11)) (C := RX1) (T := TX1) (N := 14) hx hb htg inG_X1 hown hK hP 3 rfl rfl 13 (by decide) (htg _ m_187) (fun _ h9 => h9) rfl d_O_layPieces_101 ?_
          refine lv_iconst (v := 1) hx hb d_O_layPieces_104 (by decide) ?_
          refine lv_iadd hx hb d_O_layPieces_105 ?_
          refine va_put (D := D) (ci := 1) (v := .int ((σ12 0 11) + 1)) (ty := .int) (C := RX1) (T := TX1) (N := 14) hx hb htg inG_X1 tyX1 tyX1_ok nmX1 hown hK hP (hD _) hS 3 rfl rfl 13 (by decide) (htg _ m_187) (fun _ h9 => h9) rfl (by decide +kernel) rfl rfl (Nat.le_of_ble_eq_true rfl) d_O_layPieces_106 (fun H locs hP _ hS => ?_)
          obtain ⟨σ13, eσ13⟩ : ∃ z : S0, z = st σ12 0 11 ((σ12 0 11) + 1) := ⟨_, rfl⟩
          have hP : va_P D vwCl (wC ad cA cB σ13) H := by rw [eσ13]; exact hP
          have h := h σ13 eσ13
          refine lv_iinc (v := (x3 + 1)) (lv' := [(3, .int (x3 + 1)), (4, .int v4), (0, .ref (ad 3)), (1, .ref (ad 2)), (2, .int x2)]) hx hb d_O_layPieces_109 hl (k := 4) rfl rfl (by decide) rfl (fun ls hl => ?_)
          refine lv_goto (tgt := 27) hx hb d_O_layPieces_112 (by decide) ?_
          rw [hG27] at h
          exact h _ _ _ hP hS (lv_sub hl [2, 3, 4, 0] rfl))
  obtain ⟨H, eH⟩ : ∃ z, z = s.heap := ⟨_, rfl⟩
  have hP : va_P D vwCl (wC ad cA cB σ) H := by rw [eH]; exact hP
  have hS : va_S (kAC ad s.heap.size) s.heap H [] := by rw [eH]; exact hS
  show W p l e (headSpec (Cond.code y_O_layPieces c_O_layPieces 5 none :: wsG) ({ frames := 2, cells := 0, slots := 0, locals := 43 } : Room)).room s m ([.ref (ad 3), .ref (ad 2)] : List Value).toArray below meth c s.heap [] 0 0 (MQ below (va_Qv post (kBC D ad cA cB) (kAC ad s.heap.size)) ([.ref (ad 3), .ref (ad 2)] : List Value).toArray s 0 0 (kAC ad s.heap.size)) (F0 m 0 ls [])
  suffices k : W p l e (headSpec (Cond.code y_O_layPieces c_O_layPieces 5 none :: wsG) ({ frames := 2, cells := 0, slots := 0, locals := 43 } : Room)).room s m ([.ref (ad 3), .ref (ad 2)] : List Value).toArray below meth c H [] 0 0 (MQ below (va_Qv post (kBC D ad cA cB) (kAC ad s.heap.size)) ([.ref (ad 3), .ref (ad 2)] : List Value).toArray s 0 0 (kAC ad s.heap.size)) (F0 m 0 ls []) by rw [eH] at k; exact k
  refine lv_aload_n hx hb d_O_layPieces_0 rfl (lv_at hl 0 rfl) ?_
  refine lv_iconst (v := 0) hx hb d_O_layPieces_1 (by decide) ?_
  refine va_put (D := D) (ci := 1) (v := .int 0) (ty := .int) (C := RX1) (T := TX1) (N := 14) hx hb htg inG_X1 tyX1 tyX1_ok nmX1 hown hK hP (hD _) hS 3 rfl rfl 13 (by decide) (htg _ m_187) (fun _ h9 => h9) rfl (by decide +kernel) rfl rfl (Nat.le_of_ble_eq_true rfl) d_O_layPieces_2 (fun H locs hP _ hS => ?_)
  obtain ⟨σ1, eσ1⟩ : ∃ z : S0, z = st σ 0 11 0 := ⟨_, rfl⟩
  have hP : va_P D vwCl (wC ad cA cB σ1) H := by rw [eσ1]; exact hP
  have h := h σ1 eσ1
  refine lv_iconst (v := 0) hx hb d_O_layPieces_5 (by decide) ?_
  refine lv_istore_n (lv' := [(2, .int 0), (0, .ref (ad 3)), (1, .ref (ad 2))]) hx hb d_O_layPieces_6 rfl hl (by decide) rfl (fun ls hl => ?_)
  rw [hG7] at h
  exact h _ _ _ hP hS (lv_sub hl [1, 2, 0] rfl)
set_option maxHeartbeats 4000000 in
set_option maxRecDepth 100000 in
theorem met_O_countCrossed (l : Launch) (D : va_G) (ad : Nat → Nat) (cA cB : ClassId) (hap : kapC ad) (σ : S0) (sz : Nat) (a1 a2 : Int32) (post : Int32 → S0 → Prop) (h : Sp_O_countCrossed a1 a2 σ post) : Met l y_O_countCrossed (Cond.code y_O_countCrossed c_O_countCrossed 7 (some .int) :: wsG) ({ frames := 0, cells := 0, slots := 0, locals := 0 } : Room) (kPcC D ad cA cB σ sz [.ref (ad 3), .int a1, .int a2]) (va_Qi post (kBC D ad cA cB) (kAC ad sz)) 0 0 (kAC ad sz) := by
  refine Met.ofW (cc := c_O_countCrossed) (maxL := 7) (ret := (some .int)) (by decide) rfl ?_
  intro p e s m args below meth c s₁ B hml hv
  obtain ⟨rfl, hsz, hP, hK, hF⟩ := hv
  have hx := B.exec
  have hb := B.bytes
  have hr := B.returns
  have hts := atoms_spec (ws := (Cond.code y_O_countCrossed c_O_countCrossed 7 (some .int) :: wsG)) B.pre
  have htg : ∀ w ∈ wsG, w.before ([.ref (ad 3), .int a1, .int a2] : List Value).toArray s = true := fun w h => hts w (List.mem_cons_of_mem _ h)
  have hown : s.vm.findClass RX1 = some m.cls := findClass_of_methodNamed B.named
  have hlocks := B.notSynchronized
  subst hsz
  have hD : ∀ σ, va_D (kAC ad s.heap.size) (wC ad cA cB σ) := fun σ => wC_D hap cA cB σ _
  have hS : va_S (kAC ad s.heap.size) s.heap s.heap [] := va_S.rf
  have hE := hF.1
  have hl := lv_entry ([.ref (ad 3), .int a1, .int a2]) (n := 7) (Nat.le_of_ble_eq_true rfl)
  rw [lg_entry_eq]
  generalize (lg_sl ([.ref (ad 3), .int a1, .int a2]) ++ List.replicate (7 - (lg_sl ([.ref (ad 3), .int a1, .int a2])).length) Slot.unset).toArray = ls at hl ⊢
  have hl : lv_has ls 7 [(0, .ref (ad 3)), (1, .int a1), (2, .int a2)] := hl
  unfold Sp_O_countCrossed at h
  obtain ⟨G33, hG33⟩ : ∃ G : Int32 → Int32 → Int32 → Int32 → Int32 → S0 → Prop, G = fun (x2 x3 x4 x5 x6 : Int32) (σ : S0) => ∀ (H : Heap) (locs : List Loc) (ls : Array Slot), va_P D vwCl (wC ad cA cB σ) H → va_S (kAC ad s.heap.size) s.heap H locs → lv_has ls 7 [(0, .ref (ad 3)), (2, .int x2), (3, .int x3), (4, .int x4), (5, .int x5), (6, .int x6)] → W p l e (headSpec (Cond.code y_O_countCrossed c_O_countCrossed 7 (some .int) :: wsG) ({ frames := 0, cells := 0, slots := 0, locals := 0 } : Room)).room s m ([.ref (ad 3), .int a1, .int a2] : List Value).toArray below meth c H locs 0 0 (MQ below (va_Qi post (kBC D ad cA cB) (kAC ad s.heap.size)) ([.ref (ad 3), .int a1, .int a2] : List Value).toArray s 0 0 (kAC ad s.heap.size)) (F0 m 33 ls []) := ⟨_, rfl⟩
  have h := h G33
  have h := h (by
    intro x2 x3 x4 x5 x6 σ h
    rw [hG33]
    intro H locs ls hP hS hl
    refine lv_iload hx hb d_O_countCrossed_33 (lv_at hl 5 rfl) ?_
    refine lv_iload_n hx hb d_O_countCrossed_35 rfl (lv_at hl 1 rfl) ?_
    refine lv_icmp_ge (tgt := 81) hx hb d_O_countCrossed_36 (by decide) (fun cn => ?_) (fun cn => ?_)
    · have h := h.1 cn
      refine lv_iload hx hb d_O_countCrossed_81 (lv_at hl 4 rfl) ?_
      exact W.iret (v := x5) hx hb hr (fun t ht hW => ⟨⟨_, σ, rfl, h, kBC_of ht hP⟩, hS.F ht⟩) hS.2.2 d_O_countCrossed_83 hlocks
    · have h := h.2 cn
      refine lv_aload_n hx hb d_O_countCrossed_39 rfl (lv_at hl 0 rfl) ?_
      refine va_get (D := D) (ci := 1) (v := .ref (ad 16)) (C := RX1) (T := TX1) (N := 14) hx hb htg inG_X1 hown hK hP 3 rfl rfl 0 (by decide) (htg _ m_171) (fun _ h9 => h9) rfl d_O_countCrossed_40 ?_
      refine lv_aload_n hx hb d_O_countCrossed_43 rfl (lv_at hl 0 rfl) ?_
      refine va_get (D := D) (ci := 1) (v := .ref (ad 21)) (C := RX1) (T := TX1) (N := 14) hx hb htg inG_X1 hown hK hP 3 rfl rfl 6 (by decide) (htg _ m_180) (fun _ h9 => h9) rfl d_O_countCrossed_44 ?_
      refine lv_iload hx hb d_O_countCrossed_47 (lv_at hl 5 rfl) ?_
      have hi := h.1
      have h := h.2
      refine va_iald hx hb hK hP 21 0 rfl rfl hi d_O_countCrossed_49 ?_
      have hi := h.1
      have h := h.2
      refine va_iald hx hb hK hP 16 0 rfl rfl hi d_O_countCrossed_50 ?_
      refine lv_iload_n hx hb d_O_countCrossed_51 rfl (lv_at hl 2 rfl) ?_
      refine lv_isub hx hb d_O_countCrossed_52 ?_
      refine lv_aload_n hx hb d_O_countCrossed_53 rfl (lv_at hl 0 rfl) ?_
      refine va_get (D := D) (ci := 1) (v := .ref (ad 16)) (C := RX1) (T := TX1) (N := 14) hx hb htg inG_X1 hown hK hP 3 rfl rfl 0 (by decide) (htg _ m_171) (fun _ h9 => h9) rfl d_O_countCrossed_54 ?_
      refine lv_aload_n hx hb d_O_countCrossed_57 rfl (lv_at hl 0 rfl) ?_
      refine va_get (D := D) (ci := 1) (v := .ref (ad 22)) (C := RX1) (T := TX1) (N := 14) hx hb htg inG_X1 hown hK hP 3 rfl rfl 7 (by decide) (htg _ m_181) (fun _ h9 => h9) rfl d_O_countCrossed_58 ?_
      refine lv_iload hx hb d_O_countCrossed_61 (lv_at hl 5 rfl) ?_
      have hi := h.1
      have h := h.2
      refine va_iald hx hb hK hP 22 0 rfl rfl hi d_O_countCrossed_63 ?_
      have hi := h.1
      have h := h.2
      refine va_iald hx hb hK hP 16 0 rfl rfl hi d_O_countCrossed_64 ?_
      refine lv_iload hx hb d_O_countCrossed_65 (lv_at hl 3 rfl) ?_
      refine lv_isub hx hb d_O_countCrossed_67 ?_
      refine lv_imul hx hb d_O_countCrossed_68 ?_
      refine lv_if_ge (tgt := 75) hx hb d_O_countCrossed_69 (by decide) (fun cn => ?_) (fun cn => ?_)
      · have h := h.1 cn
        refine lv_iinc (v := (x6 + 1)) (lv' := [(6, .int (x6 + 1)), (0, .ref (ad 3)), (2, .int x2), (3, .int x3), (4, .int x4), (5, .int x5)]) hx hb d_O_countCrossed_75 hl (k := 5) rfl rfl (by decide) rfl (fun ls hl => ?_)
        refine lv_goto (tgt := 33) hx hb d_O_countCrossed_78 (by decide) ?_
        rw [hG33] at h
        exact h _ _ _ hP hS (lv_sub hl [1, 2, 3, 4, 5, 0] rfl)
      · have h := h.2 cn
        refine lv_iinc (v := (x5 + 1)) (lv' := [(5, .int (x5 + 1)), (0, .ref (ad 3)), (2, .int x2), (3, .int x3), (4, .int x4), (6, .int x6)]) hx hb d_O_countCrossed_72 hl (k := 4) rfl rfl (by decide) rfl (fun ls hl => ?_)
        refine lv_iinc (v := (x6 + 1)) (lv' := [(6, .int (x6 + 1)), (5, .int (x5 + 1)), (0, .ref (ad 3)), (2, .int x2), (3, .int x3), (4, .int x4)]) hx hb d_O_countCrossed_75 hl (k := 5) rfl rfl (by decide) rfl (fun ls hl => ?_)
        refine lv_goto (tgt := 33) hx hb d_O_countCrossed_78 (by decide) ?_
        rw [hG33] at h
        exact h _ _ _ hP hS (lv_sub hl [2, 3, 4, 5, 1, 0] rfl))
  obtain ⟨H, eH⟩ : ∃ z, z = s.heap := ⟨_, rfl⟩
  have hP : va_P D vwCl (wC ad cA cB σ) H := by rw [eH]; exact hP
  have hS : va_S (kAC ad s.heap.size) s.heap H [] := by rw [eH]; exact hS
  show W p l e (headSpec (Cond.code y_O_countCrossed c_O_countCrossed 7 (some .int) :: wsG) ({ frames := 0, cells := 0, slots := 0, locals := 0 } : Room)).room s m ([.ref (ad 3), .int a1, .int a2] : List Value).toArray below meth c s.heap [] 0 0 (MQ below (va_Qi post (kBC D ad cA cB) (kAC ad s.heap.size)) ([.ref (ad 3), .int a1, .int a2] : List Value).toArray s 0 0 (kAC ad s.heap.size)) (F0 m 0 ls [])
  suffices k : W p l e (headSpec (Cond.code y_O_countCrossed c_O_countCrossed 7 (some .int) :: wsG) ({ frames := 0, cells := 0, slots := 0, locals := 0 } : Room)).room s m ([.ref (ad 3), .int a1, .int a2] : List Value).toArray below meth c H [] 0 0 (MQ below (va_Qi post (kBC D ad cA cB) (kAC ad s.heap.size)) ([.ref (ad 3), .int a1, .int a2] : List Value).toArray s 0 0 (kAC ad s.heap.size)) (F0 m 0 ls []) by rw [eH] at k; exact k
  refine lv_aload_n hx hb d_O_countCrossed_0 rfl (lv_at hl 0 rfl) ?_
  refine va_get (D := D) (ci := 1) (v := .ref (ad 16)) (C := RX1) (T := TX1) (N := 14) hx hb htg inG_X1 hown hK hP 3 rfl rfl 0 (by decide) (htg _ m_171) (fun _ h9 => h9) rfl d_O_countCrossed_1 ?_
  refine lv_aload_n hx hb d_O_countCrossed_4 rfl (lv_at hl 0 rfl) ?_
  refine va_get (D := D) (ci := 1) (v := .ref (ad 21)) (C := RX1) (T := TX1) (N := 14) hx hb htg inG_X1 hown hK hP 3 rfl rfl 6 (by decide) (htg _ m_180) (fun _ h9 => h9) rfl d_O_countCrossed_5 ?_
  refine lv_iload_n hx hb d_O_countCrossed_8 rfl (lv_at hl 1 rfl) ?_
  have hi := h.1
  have h := h.2
  refine va_iald hx hb hK hP 21 0 rfl rfl hi d_O_countCrossed_9 ?_
  have hi := h.1
  have h := h.2
  refine va_iald hx hb hK hP 16 0 rfl rfl hi d_O_countCrossed_10 ?_
  refine lv_topi (fun v1 ev1 => ?_)
  have h := h v1 ev1
  refine lv_istore_n (lv' := [(3, .int v1), (0, .ref (ad 3)), (1, .int a1), (2, .int a2)]) hx hb d_O_countCrossed_11 rfl hl (by decide) rfl (fun ls hl => ?_)
  refine lv_aload_n hx hb d_O_countCrossed_12 rfl (lv_at hl 1 rfl) ?_
  refine va_get (D := D) (ci := 1) (v := .ref (ad 16)) (C := RX1) (T := TX1) (N := 14) hx hb htg inG_X1 hown hK hP 3 rfl rfl 0 (by decide) (htg _ m_171) (fun _ h9 => h9) rfl d_O_countCrossed_13 ?_
  refine lv_aload_n hx hb d_O_countCrossed_16 rfl (lv_at hl 1 rfl) ?_
  refine va_get (D := D) (ci := 1) (v := .ref (ad 22)) (C := RX1) (T := TX1) (N := 14) hx hb htg inG_X1 hown hK hP 3 rfl rfl 7 (by decide) (htg _ m_181) (fun _ h9 => h9) rfl d_O_countCrossed_17 ?_
  refine lv_iload_n hx hb d_O_countCrossed_20 rfl (lv_at hl 2 rfl) ?_
  have hi := h.1
  have h := h.2
  refine va_iald hx hb hK hP 22 0 rfl rfl hi d_O_countCrossed_21 ?_
  have hi := h.1
  have h := h.2
  refine va_iald hx hb hK hP 16 0 rfl rfl hi d_O_countCrossed_22 ?_
  refine lv_topi (fun v2 ev2 => ?_)
  have h := h v2 ev2
  refine lv_istore (lv' := [(4, .int v2), (3, .int v1), (0, .ref (ad 3)), (1, .int a1), (2, .int a2)]) hx hb d_O_countCrossed_23 hl (by decide) rfl (fun ls hl => ?_)
  refine lv_iconst (v := 0) hx hb d_O_countCrossed_25 (by decide) ?_
  refine lv_istore (lv' := [(5, .int 0), (4, .int v2), (3, .int v1), (0, .ref (ad 3)), (1, .int a1), (2, .int a2)]) hx hb d_O_countCrossed_26 hl (by decide) rfl (fun ls hl => ?_)
  refine lv_iload_n hx hb d_O_countCrossed_28 rfl (lv_at hl 4 rfl) ?_
  refine lv_iconst (v := 1) hx hb d_O_countCrossed_29 (by decide) ?_
  refine lv_iadd hx hb d_O_countCrossed_30 ?_
  refine lv_topi (fun v3 ev3 => ?_)
  have h := h v3 ev3
  refine lv_istore (lv' := [(6, .int v3), (5, .int 0), (4, .int v2), (3, .int v1), (0, .ref (ad 3)), (1, .int a1), (2, .int a2)]) hx hb d_O_countCrossed_31 hl (by decide) rfl (fun ls hl => ?_)
  rw [hG33] at h
  exact h _ _ _ hP hS (lv_sub hl [4, 6, 3, 2, 1, 0] rfl)
set_option maxHeartbeats 4000000 in
set_option maxRecDepth 100000 in
theorem met_O_countCrossings (l : Launch) (D : va_G) (ad : Nat → Nat) (cA cB : ClassId) (hap : kapC ad) (σ : S0) (sz : Nat) (post : Int32 → S0 → Prop) (h : Sp_O_countCrossings  σ post) : Met l y_O_countCrossings (Cond.code y_O_countCrossings c_O_countCrossings 4 (some .int) :: wsG) ({ frames := 1, cells := 0, slots := 0, locals := 26 } : Room) (kPcC D ad cA cB σ sz [.ref (ad 3)]) (va_Qi post (kBC D ad cA cB) (kAC ad sz)) 0 0 (kAC ad sz) := by
  refine Met.ofW (cc := c_O_countCrossings) (maxL := 4) (ret := (some .int)) (by decide) rfl ?_
  intro p e s m args below meth c s₁ B hml hv
  obtain ⟨rfl, hsz, hP, hK, hF⟩ := hv
  have hx := B.exec
  have hb := B.bytes
  have hr := B.returns
  have hts := atoms_spec (ws := (Cond.code y_O_countCrossings c_O_countCrossings 4 (some .int) :: wsG)) B.pre
  have htg : ∀ w ∈ wsG, w.before ([.ref (ad 3)] : List Value).toArray s = true := fun w h => hts w (List.mem_cons_of_mem _ h)
  have hown : s.vm.findClass RX1 = some m.cls := findClass_of_methodNamed B.named
  have hlocks := B.notSynchronized
  subst hsz
  have hD : ∀ σ, va_D (kAC ad s.heap.size) (wC ad cA cB σ) := fun σ => wC_D hap cA cB σ _
  have hS : va_S (kAC ad s.heap.size) s.heap s.heap [] := va_S.rf
  have hE := hF.1
  have hl := lv_entry ([.ref (ad 3)]) (n := 4) (Nat.le_of_ble_eq_true rfl)
  rw [lg_entry_eq]
  generalize (lg_sl ([.ref (ad 3)]) ++ List.replicate (4 - (lg_sl ([.ref (ad 3)])).length) Slot.unset).toArray = ls at hl ⊢
  have hl : lv_has ls 4 [(0, .ref (ad 3))] := hl
  unfold Sp_O_countCrossings at h
  obtain ⟨G4, hG4⟩ : ∃ G : Int32 → Int32 → S0 → Prop, G = fun (x1 x2 : Int32) (σ : S0) => ∀ (H : Heap) (locs : List Loc) (ls : Array Slot), va_P D vwCl (wC ad cA cB σ) H → va_S (kAC ad s.heap.size) s.heap H locs → lv_has ls 4 [(0, .ref (ad 3)), (1, .int x1), (2, .int x2)] → W p l e (headSpec (Cond.code y_O_countCrossings c_O_countCrossings 4 (some .int) :: wsG) ({ frames := 1, cells := 0, slots := 0, locals := 26 } : Room)).room s m ([.ref (ad 3)] : List Value).toArray below meth c H locs 0 0 (MQ below (va_Qi post (kBC D ad cA cB) (kAC ad s.heap.size)) ([.ref (ad 3)] : List Value).toArray s 0 0 (kAC ad s.heap.size)) (F0 m 4 ls []) := ⟨_, rfl⟩
  obtain ⟨G19, hG19⟩ : ∃ G : Int32 → Int32 → Int32 → S0 → Prop, G = fun (x1 x2 x3 : Int32) (σ : S0) => ∀ (H : Heap) (locs : List Loc) (ls : Array Slot), va_P D vwCl (wC ad cA cB σ) H → va_S (kAC ad s.heap.size) s.heap H locs → lv_has ls 4 [(0, .ref (ad 3)), (1, .int x1), (2, .int x2), (3, .int x3)] → W p l e (headSpec (Cond.code y_O_countCrossings c_O_countCrossings 4 (some .int) :: wsG) ({ frames := 1, cells := 0, slots := 0, locals := 26 } : Room)).room s m ([.ref (ad 3)] : List Value).toArray below meth c H locs 0 0 (MQ below (va_Qi post (kBC D ad cA cB) (kAC ad s.heap.size)) ([.ref (ad 3)] : List Value).toArray s 0 0 (kAC ad s.heap.size)) (F0 m 19 ls []) := ⟨_, rfl⟩
  have h := h G4 G19
  have h := h (by
    intro x1 x2 σ h
    rw [hG4]
    intro H locs ls hP hS hl
    refine lv_iload_n hx hb d_O_countCrossings_4 rfl (lv_at hl 2 rfl) ?_
    refine lv_aload_n hx hb d_O_countCrossings_5 rfl (lv_at hl 0 rfl) ?_
    refine va_get (D := D) (ci := 1) (v := .int (σ 0 9)) (C := RX1) (T := TX1) (N := 14) hx hb htg inG_X1 hown hK hP 3 rfl rfl 11 (by decide) (htg _ m_185) (fun _ h9 => h9) rfl d_O_countCrossings_6 ?_
    refine lv_icmp_ge (tgt := 59) hx hb d_O_countCrossings_9 (by decide) (fun cn => ?_) (fun cn => ?_)
    · have h := h.1 cn
      refine lv_iload_n hx hb d_O_countCrossings_59 rfl (lv_at hl 1 rfl) ?_
      exact W.iret (v := x1) hx hb hr (fun t ht hW => ⟨⟨_, σ, rfl, h, kBC_of ht hP⟩, hS.F ht⟩) hS.2.2 d_O_countCrossings_60 hlocks
    · have h := h.2 cn
      refine lv_aload_n hx hb d_O_countCrossings_12 rfl (lv_at hl 0 rfl) ?_
      refine va_get (D := D) (ci := 1) (v := .ref (ad 23)) (C := RX1) (T := TX1) (N := 14) hx hb htg inG_X1 hown hK hP 3 rfl rfl 8 (by decide) (htg _ m_182) (fun _ h9 => h9) rfl d_O_countCrossings_13 ?_
      refine lv_iload_n hx hb d_O_countCrossings_16 rfl (lv_at hl 2 rfl) ?_
      have hi := h.1
      have h := h.2
      refine va_iald hx hb hK hP 23 0 rfl rfl hi d_O_countCrossings_17 ?_
      refine lv_topi (fun v1 ev1 => ?_)
      have h := h v1 ev1
      refine lv_istore_n (lv' := [(3, .int v1), (0, .ref (ad 3)), (1, .int x1), (2, .int x2)]) hx hb d_O_countCrossings_18 rfl hl (by decide) rfl (fun ls hl => ?_)
      rw [hG19] at h
      exact h _ _ _ hP hS (lv_sub hl [1, 2, 3, 0] rfl))
  have h := h (by
    intro x1 x2 x3 σ h
    rw [hG19]
    intro H locs ls hP hS hl
    refine lv_iload_n hx hb d_O_countCrossings_19 rfl (lv_at hl 3 rfl) ?_
    refine lv_aload_n hx hb d_O_countCrossings_20 rfl (lv_at hl 0 rfl) ?_
    refine va_get (D := D) (ci := 1) (v := .ref (ad 23)) (C := RX1) (T := TX1) (N := 14) hx hb htg inG_X1 hown hK hP 3 rfl rfl 8 (by decide) (htg _ m_182) (fun _ h9 => h9) rfl d_O_countCrossings_21 ?_
    refine lv_iload_n hx hb d_O_countCrossings_24 rfl (lv_at hl 2 rfl) ?_
    refine lv_iconst (v := 1) hx hb d_O_countCrossings_25 (by decide) ?_
    refine lv_iadd hx hb d_O_countCrossings_26 ?_
    have hi := h.1
    have h := h.2
    refine va_iald hx hb hK hP 23 0 rfl rfl hi d_O_countCrossings_27 ?_
    refine lv_icmp_ge (tgt := 53) hx hb d_O_countCrossings_28 (by decide) (fun cn => ?_) (fun cn => ?_)
    · have h := h.1 cn
      refine lv_iinc (v := (x2 + 1)) (lv' := [(2, .int (x2 + 1)), (0, .ref (ad 3)), (1, .int x1), (3, .int x3)]) hx hb d_O_countCrossings_53 hl (k := 2) rfl rfl (by decide) rfl (fun ls hl => ?_)
      refine lv_goto (tgt := 4) hx hb d_O_countCrossings_56 (by decide) ?_
      rw [hG4] at h
      exact h _ _ _ hP hS (lv_sub hl [1, 2, 0] rfl)
    · have h := h.2 cn
      refine lv_iload_n hx hb d_O_countCrossings_31 rfl (lv_at hl 1 rfl) ?_
      refine lv_aload_n hx hb d_O_countCrossings_32 rfl (lv_at hl 0 rfl) ?_
      refine lv_iload_n hx hb d_O_countCrossings_33 rfl (lv_at hl 3 rfl) ?_
      refine lv_aload_n hx hb d_O_countCrossings_34 rfl (lv_at hl 0 rfl) ?_
      refine va_get (D := D) (ci := 1) (v := .ref (ad 23)) (C := RX1) (T := TX1) (N := 14) hx hb htg inG_X1 hown hK hP 3 rfl rfl 8 (by decide) (htg _ m_182) (fun _ h9 => h9) rfl d_O_countCrossings_35 ?_
      refine lv_iload_n hx hb d_O_countCrossings_38 rfl (lv_at hl 2 rfl) ?_
      refine lv_iconst (v := 1) hx hb d_O_countCrossings_39 (by decide) ?_
      refine lv_iadd hx hb d_O_countCrossings_40 ?_
      have hi := h.1
      have h := h.2
      refine va_iald hx hb hK hP 23 0 rfl rfl hi d_O_countCrossings_41 ?_
      refine kC_i (va_runV (As := [.int x3, .int (σ 23 (x2 + 1).toNatClampNeg)]) (rest := [.int x1]) ⟨hx, hb, hml, hown, htg⟩ (met_O_countCrossed l D ad cA cB hap σ H.size x3 (σ 23 (x2 + 1).toNatClampNeg) _ h) (cwV 2 htg (kG (kG_V m_491 m_493 m_14 m_56 (kG_self m_494))) rfl rfl rfl (by decide +kernel) ⟨Nat.le_of_ble_eq_true rfl, Nat.le_of_ble_eq_true rfl⟩) (kC_preV hK hF hP hS 3 rfl rfl _) rfl rfl hl.1 rfl (lv_room (Nat.le_of_ble_eq_true rfl)) d_O_countCrossings_42 ⟨Nat.le_of_ble_eq_true rfl, Nat.le_of_ble_eq_true rfl⟩) hS (fun r3 σ2 H locs h hP hS => ?_)
      refine lv_iadd hx hb d_O_countCrossings_45 ?_
      refine lv_topi (fun v4 ev4 => ?_)
      have h := h v4 ev4
      refine lv_istore_n (lv' := [(1, .int v4), (0, .ref (ad 3)), (2, .int x2), (3, .int x3)]) hx hb d_O_countCrossings_46 rfl hl (by decide) rfl (fun ls hl => ?_)
      refine lv_iinc (v := (x3 + 1)) (lv' := [(3, .int (x3 + 1)), (1, .int v4), (0, .ref (ad 3)), (2, .int x2)]) hx hb d_O_countCrossings_47 hl (k := 3) rfl rfl (by decide) rfl (fun ls hl => ?_)
      refine lv_goto (tgt := 19) hx hb d_O_countCrossings_50 (by decide) ?_
      rw [hG19] at h
      exact h _ _ _ hP hS (lv_sub hl [2, 1, 3, 0] rfl))
  obtain ⟨H, eH⟩ : ∃ z, z = s.heap := ⟨_, rfl⟩
  have hP : va_P D vwCl (wC ad cA cB σ) H := by rw [eH]; exact hP
  have hS : va_S (kAC ad s.heap.size) s.heap H [] := by rw [eH]; exact hS
  show W p l e (headSpec (Cond.code y_O_countCrossings c_O_countCrossings 4 (some .int) :: wsG) ({ frames := 1, cells := 0, slots := 0, locals := 26 } : Room)).room s m ([.ref (ad 3)] : List Value).toArray below meth c s.heap [] 0 0 (MQ below (va_Qi post (kBC D ad cA cB) (kAC ad s.heap.size)) ([.ref (ad 3)] : List Value).toArray s 0 0 (kAC ad s.heap.size)) (F0 m 0 ls [])
  suffices k : W p l e (headSpec (Cond.code y_O_countCrossings c_O_countCrossings 4 (some .int) :: wsG) ({ frames := 1, cells := 0, slots := 0, locals := 26 } : Room)).room s m ([.ref (ad 3)] : List Value).toArray below meth c H [] 0 0 (MQ below (va_Qi post (kBC D ad cA cB) (kAC ad s.heap.size)) ([.ref (ad 3)] : List Value).toArray s 0 0 (kAC ad s.heap.size)) (F0 m 0 ls []) by rw [eH] at k; exact k
  refine lv_iconst (v := 0) hx hb d_O_countCrossings_0 (by decide) ?_
  refine lv_istore_n (lv' := [(1, .int 0), (0, .ref (ad 3))]) hx hb d_O_countCrossings_1 rfl hl (by decide) rfl (fun ls hl => ?_)
  refine lv_iconst (v := 0) hx hb d_O_countCrossings_2 (by decide) ?_
  refine lv_istore_n (lv' := [(2, .int 0), (1, .int 0), (0, .ref (ad 3))]) hx hb d_O_countCrossings_3 rfl hl (by decide) rfl (fun ls hl => ?_)
  rw [hG4] at h
  exact h _ _ _ hP hS (lv_sub hl [2, 1, 0] rfl)
set_option maxHeartbeats 4000000 in
set_option maxRecDepth 100000 in
theorem met_O_keepBest (l : Launch) (D : va_G) (ad : Nat → Nat) (cA cB : ClassId) (hap : kapC ad) (σ : S0) (sz : Nat) (post : S0 → Prop) (h : Sp_O_keepBest  σ post) : Met l y_O_keepBest (Cond.code y_O_keepBest c_O_keepBest 1 none :: wsG) ({ frames := 1, cells := 0, slots := 0, locals := 60 } : Room) (kPcC D ad cA cB σ sz [.ref (ad 3)]) (va_Qv post (kBC D ad cA cB) (kAC ad sz)) 0 0 (kAC ad sz) := by
  refine Met.ofW (cc := c_O_keepBest) (maxL := 1) (ret := none) (by decide) rfl ?_
  intro p e s m args below meth c s₁ B hml hv
  obtain ⟨rfl, hsz, hP, hK, hF⟩ := hv
  have hx := B.exec
  have hb := B.bytes
  have hr := B.returns
  have hts := atoms_spec (ws := (Cond.code y_O_keepBest c_O_keepBest 1 none :: wsG)) B.pre
  have htg : ∀ w ∈ wsG, w.before ([.ref (ad 3)] : List Value).toArray s = true := fun w h => hts w (List.mem_cons_of_mem _ h)
  have hown : s.vm.findClass RX1 = some m.cls := findClass_of_methodNamed B.named
  have hlocks := B.notSynchronized
  subst hsz
  have hD : ∀ σ, va_D (kAC ad s.heap.size) (wC ad cA cB σ) := fun σ => wC_D hap cA cB σ _
  have hS : va_S (kAC ad s.heap.size) s.heap s.heap [] := va_S.rf
  have hE := hF.1
  have hl := lv_entry ([.ref (ad 3)]) (n := 1) (Nat.le_of_ble_eq_true rfl)
  rw [lg_entry_eq]
  generalize (lg_sl ([.ref (ad 3)]) ++ List.replicate (1 - (lg_sl ([.ref (ad 3)])).length) Slot.unset).toArray = ls at hl ⊢
  have hl : lv_has ls 1 [(0, .ref (ad 3))] := hl
  unfold Sp_O_keepBest at h
  obtain ⟨H, eH⟩ : ∃ z, z = s.heap := ⟨_, rfl⟩
  have hP : va_P D vwCl (wC ad cA cB σ) H := by rw [eH]; exact hP
  have hS : va_S (kAC ad s.heap.size) s.heap H [] := by rw [eH]; exact hS
  show W p l e (headSpec (Cond.code y_O_keepBest c_O_keepBest 1 none :: wsG) ({ frames := 1, cells := 0, slots := 0, locals := 60 } : Room)).room s m ([.ref (ad 3)] : List Value).toArray below meth c s.heap [] 0 0 (MQ below (va_Qv post (kBC D ad cA cB) (kAC ad s.heap.size)) ([.ref (ad 3)] : List Value).toArray s 0 0 (kAC ad s.heap.size)) (F0 m 0 ls [])
  suffices k : W p l e (headSpec (Cond.code y_O_keepBest c_O_keepBest 1 none :: wsG) ({ frames := 1, cells := 0, slots := 0, locals := 60 } : Room)).room s m ([.ref (ad 3)] : List Value).toArray below meth c H [] 0 0 (MQ below (va_Qv post (kBC D ad cA cB) (kAC ad s.heap.size)) ([.ref (ad 3)] : List Value).toArray s 0 0 (kAC ad s.heap.size)) (F0 m 0 ls []) by rw [eH] at k; exact k
  refine lv_aload_n hx hb d_O_keepBest_0 rfl (lv_at hl 0 rfl) ?_
  refine va_get (D := D) (ci := 1) (v := .ref (ad 18)) (C := RX1) (T := TX1) (N := 14) hx hb htg inG_X1 hown hK hP 3 rfl rfl 3 (by decide) (htg _ m_177) (fun _ h9 => h9) rfl d_O_keepBest_1 ?_
  refine lv_iconst (v := 0) hx hb d_O_keepBest_4 (by decide) ?_
  refine lv_aload_n hx hb d_O_keepBest_5 rfl (lv_at hl 0 rfl) ?_
  refine va_get (D := D) (ci := 1) (v := .ref (ad 19)) (C := RX1) (T := TX1) (N := 14) hx hb htg inG_X1 hown hK hP 3 rfl rfl 4 (by decide) (htg _ m_178) (fun _ h9 => h9) rfl d_O_keepBest_6 ?_
  refine lv_iconst (v := 0) hx hb d_O_keepBest_9 (by decide) ?_
  refine lv_aload_n hx hb d_O_keepBest_10 rfl (lv_at hl 0 rfl) ?_
  refine va_get (D := D) (ci := 1) (v := .int (σ 0 10)) (C := RX1) (T := TX1) (N := 14) hx hb htg inG_X1 hown hK hP 3 rfl rfl 12 (by decide) (htg _ m_186) (fun _ h9 => h9) rfl d_O_keepBest_11 ?_
  have hi := h.1
  have h := h.2
  refine va_copyi hx hb (hml.trans hl.1.symm) hown (htg _ m_499) (htg _ m_333) (htg _ m_332) (htg _ m_62) hK hP (hD _) hS 18 19 0 0 rfl rfl rfl rfl rfl (by decide) (by decide) hi.1 (by rw [sb_cl0, Nat.zero_add]; exact hi.2.1) (by rw [sb_cl0, Nat.zero_add]; exact hi.2.2) (fun _ _ => rfl) (Nat.le_of_ble_eq_true rfl) (Nat.le_of_ble_eq_true rfl) d_O_keepBest_14 (fun H locs hP _ hS => ?_)
  obtain ⟨σ1, eσ1⟩ : ∃ z : S0, z = cp σ 18 19 (σ 0 10).toNatClampNeg := ⟨_, rfl⟩
  have hP : va_P D vwCl (wC ad cA cB σ1) H := by rw [eσ1]; exact hP
  have h := h σ1 eσ1
  exact W.vret hx hb hr (fun t ht hW => ⟨⟨σ1, rfl, h, kBC_of ht hP⟩, hS.F ht⟩) hS.2.2 d_O_keepBest_17 hlocks
set_option maxHeartbeats 4000000 in
set_option maxRecDepth 100000 in
theorem met_O_takeBest (l : Launch) (D : va_G) (ad : Nat → Nat) (cA cB : ClassId) (hap : kapC ad) (σ : S0) (sz : Nat) (post : S0 → Prop) (h : Sp_O_takeBest  σ post) : Met l y_O_takeBest (Cond.code y_O_takeBest c_O_takeBest 2 none :: wsG) ({ frames := 1, cells := 0, slots := 0, locals := 60 } : Room) (kPcC D ad cA cB σ sz [.ref (ad 3)]) (va_Qv post (kBC D ad cA cB) (kAC ad sz)) 0 0 (kAC ad sz) := by
  refine Met.ofW (cc := c_O_takeBest) (maxL := 2) (ret := none) (by decide) rfl ?_
  intro p e s m args below meth c s₁ B hml hv
  obtain ⟨rfl, hsz, hP, hK, hF⟩ := hv
  have hx := B.exec
  have hb := B.bytes
  have hr := B.returns
  have hts := atoms_spec (ws := (Cond.code y_O_takeBest c_O_takeBest 2 none :: wsG)) B.pre
  have htg : ∀ w ∈ wsG, w.before ([.ref (ad 3)] : List Value).toArray s = true := fun w h => hts w (List.mem_cons_of_mem _ h)
  have hown : s.vm.findClass RX1 = some m.cls := findClass_of_methodNamed B.named
  have hlocks := B.notSynchronized
  subst hsz
  have hD : ∀ σ, va_D (kAC ad s.heap.size) (wC ad cA cB σ) := fun σ => wC_D hap cA cB σ _
  have hS : va_S (kAC ad s.heap.size) s.heap s.heap [] := va_S.rf
  have hE := hF.1
  have hl := lv_entry ([.ref (ad 3)]) (n := 2) (Nat.le_of_ble_eq_true rfl)
  rw [lg_entry_eq]
  generalize (lg_sl ([.ref (ad 3)]) ++ List.replicate (2 - (lg_sl ([.ref (ad 3)])).length) Slot.unset).toArray = ls at hl ⊢
  have hl : lv_has ls 2 [(0, .ref (ad 3))] := hl
  unfold Sp_O_takeBest at h
  obtain ⟨G19, hG19⟩ : ∃ G : Int32 → S0 → Prop, G = fun (x1 : Int32) (σ : S0) => ∀ (H : Heap) (locs : List Loc) (ls : Array Slot), va_P D vwCl (wC ad cA cB σ) H → va_S (kAC ad s.heap.size) s.heap H locs → lv_has ls 2 [(0, .ref (ad 3)), (1, .int x1)] → W p l e (headSpec (Cond.code y_O_takeBest c_O_takeBest 2 none :: wsG) ({ frames := 1, cells := 0, slots := 0, locals := 60 } : Room)).room s m ([.ref (ad 3)] : List Value).toArray below meth c H locs 0 0 (MQ below (va_Qv post (kBC D ad cA cB) (kAC ad s.heap.size)) ([.ref (ad 3)] : List Value).toArray s 0 0 (kAC ad s.heap.size)) (F0 m 19 ls []) := ⟨_, rfl⟩
  have h := h G19
  have h := h (by
    intro x1 σ h
    rw [hG19]
    intro H locs ls hP hS hl
    refine lv_iload_n hx hb d_O_takeBest_19 rfl (lv_at hl 1 rfl) ?_
    refine lv_aload_n hx hb d_O_takeBest_20 rfl (lv_at hl 0 rfl) ?_
    refine va_get (D := D) (ci := 1) (v := .int (σ 0 9)) (C := RX1) (T := TX1) (N := 14) hx hb htg inG_X1 hown hK hP 3 rfl rfl 11 (by decide) (htg _ m_185) (fun _ h9 => h9) rfl d_O_takeBest_21 ?_
    refine lv_icmp_ge (tgt := 46) hx hb d_O_takeBest_24 (by decide) (fun cn => ?_) (fun cn => ?_)
    · have h := h.1 cn
      exact W.vret hx hb hr (fun t ht hW => ⟨⟨σ, rfl, h, kBC_of ht hP⟩, hS.F ht⟩) hS.2.2 d_O_takeBest_46 hlocks
    · have h := h.2 cn
      refine lv_aload_n hx hb d_O_takeBest_27 rfl (lv_at hl 0 rfl) ?_
      refine lv_iload_n hx hb d_O_takeBest_28 rfl (lv_at hl 1 rfl) ?_
      refine lv_aload_n hx hb d_O_takeBest_29 rfl (lv_at hl 0 rfl) ?_
      refine va_get (D := D) (ci := 1) (v := .ref (ad 20)) (C := RX1) (T := TX1) (N := 14) hx hb htg inG_X1 hown hK hP 3 rfl rfl 5 (by decide) (htg _ m_179) (fun _ h9 => h9) rfl d_O_takeBest_30 ?_
      refine lv_iload_n hx hb d_O_takeBest_33 rfl (lv_at hl 1 rfl) ?_
      refine lv_iconst (v := 1) hx hb d_O_takeBest_34 (by decide) ?_
      refine lv_iadd hx hb d_O_takeBest_35 ?_
      have hi := h.1
      have h := h.2
      refine va_iald hx hb hK hP 20 0 rfl rfl hi d_O_takeBest_36 ?_
      refine kC_v (va_runV (As := [.int x1, .int (σ 20 (x1 + 1).toNatClampNeg)]) (rest := []) ⟨hx, hb, hml, hown, htg⟩ (met_O_numberPlaces l D ad cA cB hap σ H.size x1 (σ 20 (x1 + 1).toNatClampNeg) _ h) (cwV 2 htg (kG (kG_V m_479 m_481 m_11 m_56 (kG_self m_482))) rfl rfl rfl (by decide +kernel) ⟨Nat.le_of_ble_eq_true rfl, Nat.le_of_ble_eq_true rfl⟩) (kC_preV hK hF hP hS 3 rfl rfl _) rfl rfl hl.1 rfl (lv_room (Nat.le_of_ble_eq_true rfl)) d_O_takeBest_37 ⟨Nat.le_of_ble_eq_true rfl, Nat.le_of_ble_eq_true rfl⟩) hS (fun σ2 H locs h hP hS => ?_)
      refine lv_iinc (v := (x1 + 1)) (lv' := [(1, .int (x1 + 1)), (0, .ref (ad 3))]) hx hb d_O_takeBest_40 hl (k := 1) rfl rfl (by decide) rfl (fun ls hl => ?_)
      refine lv_goto (tgt := 19) hx hb d_O_takeBest_43 (by decide) ?_
      rw [hG19] at h
      exact h _ _ _ hP hS (lv_sub hl [1, 0] rfl))
  obtain ⟨H, eH⟩ : ∃ z, z = s.heap := ⟨_, rfl⟩
  have hP : va_P D vwCl (wC ad cA cB σ) H := by rw [eH]; exact hP
  have hS : va_S (kAC ad s.heap.size) s.heap H [] := by rw [eH]; exact hS
  show W p l e (headSpec (Cond.code y_O_takeBest c_O_takeBest 2 none :: wsG) ({ frames := 1, cells := 0, slots := 0, locals := 60 } : Room)).room s m ([.ref (ad 3)] : List Value).toArray below meth c s.heap [] 0 0 (MQ below (va_Qv post (kBC D ad cA cB) (kAC ad s.heap.size)) ([.ref (ad 3)] : List Value).toArray s 0 0 (kAC ad s.heap.size)) (F0 m 0 ls [])
  suffices k : W p l e (headSpec (Cond.code y_O_takeBest c_O_takeBest 2 none :: wsG) ({ frames := 1, cells := 0, slots := 0, locals := 60 } : Room)).room s m ([.ref (ad 3)] : List Value).toArray below meth c H [] 0 0 (MQ below (va_Qv post (kBC D ad cA cB) (kAC ad s.heap.size)) ([.ref (ad 3)] : List Value).toArray s 0 0 (kAC ad s.heap.size)) (F0 m 0 ls []) by rw [eH] at k; exact k
  refine lv_aload_n hx hb d_O_takeBest_0 rfl (lv_at hl 0 rfl) ?_
  refine va_get (D := D) (ci := 1) (v := .ref (ad 19)) (C := RX1) (T := TX1) (N := 14) hx hb htg inG_X1 hown hK hP 3 rfl rfl 4 (by decide) (htg _ m_178) (fun _ h9 => h9) rfl d_O_takeBest_1 ?_
  refine lv_iconst (v := 0) hx hb d_O_takeBest_4 (by decide) ?_
  refine lv_aload_n hx hb d_O_takeBest_5 rfl (lv_at hl 0 rfl) ?_
  refine va_get (D := D) (ci := 1) (v := .ref (ad 18)) (C := RX1) (T := TX1) (N := 14) hx hb htg inG_X1 hown hK hP 3 rfl rfl 3 (by decide) (htg _ m_177) (fun _ h9 => h9) rfl d_O_takeBest_6 ?_
  refine lv_iconst (v := 0) hx hb d_O_takeBest_9 (by decide) ?_
  refine lv_aload_n hx hb d_O_takeBest_10 rfl (lv_at hl 0 rfl) ?_
  refine va_get (D := D) (ci := 1) (v := .int (σ 0 10)) (C := RX1) (T := TX1) (N := 14) hx hb htg inG_X1 hown hK hP 3 rfl rfl 12 (by decide) (htg _ m_186) (fun _ h9 => h9) rfl d_O_takeBest_11 ?_
  have hi := h.1
  have h := h.2
  refine va_copyi hx hb (hml.trans hl.1.symm) hown (htg _ m_499) (htg _ m_333) (htg _ m_332) (htg _ m_62) hK hP (hD _) hS 19 18 0 0 rfl rfl rfl rfl rfl (by decide) (by decide) hi.1 (by rw [sb_cl0, Nat.zero_add]; exact hi.2.1) (by rw [sb_cl0, Nat.zero_add]; exact hi.2.2) (fun _ _ => rfl) (Nat.le_of_ble_eq_true rfl) (Nat.le_of_ble_eq_true rfl) d_O_takeBest_14 (fun H locs hP _ hS => ?_)
  obtain ⟨σ1, eσ1⟩ : ∃ z : S0, z = cp σ 19 18 (σ 0 10).toNatClampNeg := ⟨_, rfl⟩
  have hP : va_P D vwCl (wC ad cA cB σ1) H := by rw [eσ1]; exact hP
  have h := h σ1 eσ1
  refine lv_iconst (v := 0) hx hb d_O_takeBest_17 (by decide) ?_
  refine lv_istore_n (lv' := [(1, .int 0), (0, .ref (ad 3))]) hx hb d_O_takeBest_18 rfl hl (by decide) rfl (fun ls hl => ?_)
  rw [hG19] at h
  exact h _ _ _ hP hS (lv_sub hl [1, 0] rfl)
set_option maxHeartbeats 4000000 in
set_option maxRecDepth 100000 in
theorem met_O_weigh_22_21 (l : Launch) (D : va_G) (ad : Nat → Nat) (cA cB : ClassId) (hap : kapC ad) (σ : S0) (sz : Nat) (a1 a2 : Int32) (post : S0 → Prop) (h : Sp_O_weigh_22_21 a1 a2 σ post) : Met l y_O_weigh (Cond.code y_O_weigh c_O_weigh 6 none :: wsG) ({ frames := 0, cells := 0, slots := 0, locals := 0 } : Room) (kPcC D ad cA cB σ sz [.ref (ad 3), .int a1, .int a2, .ref (ad 22), .ref (ad 21)]) (va_Qv post (kBC D ad cA cB) (kAC ad sz)) 0 0 (kAC ad sz) := by
  refine Met.ofW (cc := c_O_weigh) (maxL := 6) (ret := none) (by decide) rfl ?_
  intro p e s m args below meth c s₁ B hml hv
  obtain ⟨rfl, hsz, hP, hK, hF⟩ := hv
  have hx := B.exec
  have hb := B.bytes
  have hr := B.returns
  have hts := atoms_spec (ws := (Cond.code y_O_weigh c_O_weigh 6 none :: wsG)) B.pre
  have htg : ∀ w ∈ wsG, w.before ([.ref (ad 3), .int a1, .int a2, .ref (ad 22), .ref (ad 21)] : List Value).toArray s = true := fun w h => hts w (List.mem_cons_of_mem _ h)
  have hown : s.vm.findClass RX1 = some m.cls := findClass_of_methodNamed B.named
  have hlocks := B.notSynchronized
  subst hsz
  have hD : ∀ σ, va_D (kAC ad s.heap.size) (wC ad cA cB σ) := fun σ => wC_D hap cA cB σ _
  have hS : va_S (kAC ad s.heap.size) s.heap s.heap [] := va_S.rf
  have hE := hF.1
  have hl := lv_entry ([.ref (ad 3), .int a1, .int a2, .ref (ad 22), .ref (ad 21)]) (n := 6) (Nat.le_of_ble_eq_true rfl)
  rw [lg_entry_eq]
  generalize (lg_sl ([.ref (ad 3), .int a1, .int a2, .ref (ad 22), .ref (ad 21)]) ++ List.replicate (6 - (lg_sl ([.ref (ad 3), .int a1, .int a2, .ref (ad 22), .ref (ad 21)])).length) Slot.unset).toArray = ls at hl ⊢
  have hl : lv_has ls 6 [(0, .ref (ad 3)), (1, .int a1), (2, .int a2), (3, .ref (ad 22)), (4, .ref (ad 21))] := hl
  unfold Sp_O_weigh_22_21 at h
  obtain ⟨G8, hG8⟩ : ∃ G : Int32 → Int32 → Int32 → S0 → Prop, G = fun (x1 x2 x5 : Int32) (σ : S0) => ∀ (H : Heap) (locs : List Loc) (ls : Array Slot), va_P D vwCl (wC ad cA cB σ) H → va_S (kAC ad s.heap.size) s.heap H locs → lv_has ls 6 [(0, .ref (ad 3)), (1, .int x1), (2, .int x2), (3, .ref (ad 22)), (4, .ref (ad 21)), (5, .int x5)] → W p l e (headSpec (Cond.code y_O_weigh c_O_weigh 6 none :: wsG) ({ frames := 0, cells := 0, slots := 0, locals := 0 } : Room)).room s m ([.ref (ad 3), .int a1, .int a2, .ref (ad 22), .ref (ad 21)] : List Value).toArray below meth c H locs 0 0 (MQ below (va_Qv post (kBC D ad cA cB) (kAC ad s.heap.size)) ([.ref (ad 3), .int a1, .int a2, .ref (ad 22), .ref (ad 21)] : List Value).toArray s 0 0 (kAC ad s.heap.size)) (F0 m 8 ls []) := ⟨_, rfl⟩
  obtain ⟨G61, hG61⟩ : ∃ G : Int32 → Int32 → Int32 → S0 → Prop, G = fun (x1 x2 x5 : Int32) (σ : S0) => ∀ (H : Heap) (locs : List Loc) (ls : Array Slot), va_P D vwCl (wC ad cA cB σ) H → va_S (kAC ad s.heap.size) s.heap H locs → lv_has ls 6 [(0, .ref (ad 3)), (1, .int x1), (2, .int x2), (3, .ref (ad 22)), (4, .ref (ad 21)), (5, .int x5)] → W p l e (headSpec (Cond.code y_O_weigh c_O_weigh 6 none :: wsG) ({ frames := 0, cells := 0, slots := 0, locals := 0 } : Room)).room s m ([.ref (ad 3), .int a1, .int a2, .ref (ad 22), .ref (ad 21)] : List Value).toArray below meth c H locs 0 0 (MQ below (va_Qv post (kBC D ad cA cB) (kAC ad s.heap.size)) ([.ref (ad 3), .int a1, .int a2, .ref (ad 22), .ref (ad 21)] : List Value).toArray s 0 0 (kAC ad s.heap.size)) (F0 m 61 ls []) := ⟨_, rfl⟩
  obtain ⟨G123, hG123⟩ : ∃ G : Int32 → Int32 → S0 → Prop, G = fun (x1 x5 : Int32) (σ : S0) => ∀ (H : Heap) (locs : List Loc) (ls : Array Slot), va_P D vwCl (wC ad cA cB σ) H → va_S (kAC ad s.heap.size) s.heap H locs → lv_has ls 6 [(0, .ref (ad 3)), (1, .int x1), (5, .int x5)] → W p l e (headSpec (Cond.code y_O_weigh c_O_weigh 6 none :: wsG) ({ frames := 0, cells := 0, slots := 0, locals := 0 } : Room)).room s m ([.ref (ad 3), .int a1, .int a2, .ref (ad 22), .ref (ad 21)] : List Value).toArray below meth c H locs 0 0 (MQ below (va_Qv post (kBC D ad cA cB) (kAC ad s.heap.size)) ([.ref (ad 3), .int a1, .int a2, .ref (ad 22), .ref (ad 21)] : List Value).toArray s 0 0 (kAC ad s.heap.size)) (F0 m 123 ls []) := ⟨_, rfl⟩
  have h := h G8 G61 G123
  have h := h (by
    intro x1 x2 x5 σ h
    rw [hG8]
    intro H locs ls hP hS hl
    refine lv_iload hx hb d_O_weigh_8 (lv_at hl 5 rfl) ?_
    refine lv_aload_n hx hb d_O_weigh_10 rfl (lv_at hl 0 rfl) ?_
    refine va_get (D := D) (ci := 1) (v := .ref (ad 20)) (C := RX1) (T := TX1) (N := 14) hx hb htg inG_X1 hown hK hP 3 rfl rfl 5 (by decide) (htg _ m_179) (fun _ h9 => h9) rfl d_O_weigh_11 ?_
    refine lv_iload_n hx hb d_O_weigh_14 rfl (lv_at hl 1 rfl) ?_
    refine lv_iconst (v := 1) hx hb d_O_weigh_15 (by decide) ?_
    refine lv_iadd hx hb d_O_weigh_16 ?_
    have hi := h.1
    have h := h.2
    refine va_iald hx hb hK hP 20 0 rfl rfl hi d_O_weigh_17 ?_
    refine lv_icmp_ge (tgt := 53) hx hb d_O_weigh_18 (by decide) (fun cn => ?_) (fun cn => ?_)
    · have h := h.1 cn
      refine lv_aload_n hx hb d_O_weigh_53 rfl (lv_at hl 0 rfl) ?_
      refine va_get (D := D) (ci := 1) (v := .ref (ad 23)) (C := RX1) (T := TX1) (N := 14) hx hb htg inG_X1 hown hK hP 3 rfl rfl 8 (by decide) (htg _ m_182) (fun _ h9 => h9) rfl d_O_weigh_54 ?_
      refine lv_iload_n hx hb d_O_weigh_57 rfl (lv_at hl 2 rfl) ?_
      have hi := h.1
      have h := h.2
      refine va_iald hx hb hK hP 23 0 rfl rfl hi d_O_weigh_58 ?_
      refine lv_topi (fun v2 ev2 => ?_)
      have h := h v2 ev2
      refine lv_istore (lv' := [(5, .int v2), (0, .ref (ad 3)), (1, .int x1), (2, .int x2), (3, .ref (ad 22)), (4, .ref (ad 21))]) hx hb d_O_weigh_59 hl (by decide) rfl (fun ls hl => ?_)
      rw [hG61] at h
      exact h _ _ _ hP hS (lv_sub hl [1, 2, 3, 4, 5, 0] rfl)
    · have h := h.2 cn
      refine lv_aload_n hx hb d_O_weigh_21 rfl (lv_at hl 0 rfl) ?_
      refine va_get (D := D) (ci := 1) (v := .ref (ad 24)) (C := RX1) (T := TX1) (N := 14) hx hb htg inG_X1 hown hK hP 3 rfl rfl 9 (by decide) (htg _ m_183) (fun _ h9 => h9) rfl d_O_weigh_22 ?_
      refine lv_aload_n hx hb d_O_weigh_25 rfl (lv_at hl 0 rfl) ?_
      refine va_get (D := D) (ci := 1) (v := .ref (ad 18)) (C := RX1) (T := TX1) (N := 14) hx hb htg inG_X1 hown hK hP 3 rfl rfl 3 (by decide) (htg _ m_177) (fun _ h9 => h9) rfl d_O_weigh_26 ?_
      refine lv_iload hx hb d_O_weigh_29 (lv_at hl 5 rfl) ?_
      have hi := h.1
      have h := h.2
      refine va_iald hx hb hK hP 18 0 rfl rfl hi d_O_weigh_31 ?_
      refine lv_iconst (v := 0) hx hb d_O_weigh_32 (by decide) ?_
      have hi := h.1
      have h := h.2
      refine va_iast hx hb hK hP (hD _) hS 24 0 rfl rfl hi d_O_weigh_33 (fun H locs hP _ hS => ?_)
      obtain ⟨σ3, eσ3⟩ : ∃ z : S0, z = st σ 24 (σ 18 x5.toNatClampNeg).toNatClampNeg 0 := ⟨_, rfl⟩
      have hP : va_P D vwCl (wC ad cA cB σ3) H := by rw [eσ3]; exact hP
      have h := h σ3 eσ3
      refine lv_aload_n hx hb d_O_weigh_34 rfl (lv_at hl 0 rfl) ?_
      refine va_get (D := D) (ci := 1) (v := .ref (ad 25)) (C := RX1) (T := TX1) (N := 14) hx hb htg inG_X1 hown hK hP 3 rfl rfl 10 (by decide) (htg _ m_184) (fun _ h9 => h9) rfl d_O_weigh_35 ?_
      refine lv_aload_n hx hb d_O_weigh_38 rfl (lv_at hl 0 rfl) ?_
      refine va_get (D := D) (ci := 1) (v := .ref (ad 18)) (C := RX1) (T := TX1) (N := 14) hx hb htg inG_X1 hown hK hP 3 rfl rfl 3 (by decide) (htg _ m_177) (fun _ h9 => h9) rfl d_O_weigh_39 ?_
      refine lv_iload hx hb d_O_weigh_42 (lv_at hl 5 rfl) ?_
      have hi := h.1
      have h := h.2
      refine va_iald hx hb hK hP 18 0 rfl rfl hi d_O_weigh_44 ?_
      refine lv_iconst (v := 0) hx hb d_O_weigh_45 (by decide) ?_
      have hi := h.1
      have h := h.2
      refine va_iast hx hb hK hP (hD _) hS 25 0 rfl rfl hi d_O_weigh_46 (fun H locs hP _ hS => ?_)
      obtain ⟨σ4, eσ4⟩ : ∃ z : S0, z = st σ3 25 (σ3 18 x5.toNatClampNeg).toNatClampNeg 0 := ⟨_, rfl⟩
      have hP : va_P D vwCl (wC ad cA cB σ4) H := by rw [eσ4]; exact hP
      have h := h σ4 eσ4
      refine lv_iinc (v := (x5 + 1)) (lv' := [(5, .int (x5 + 1)), (0, .ref (ad 3)), (1, .int x1), (2, .int x2), (3, .ref (ad 22)), (4, .ref (ad 21))]) hx hb d_O_weigh_47 hl (k := 5) rfl rfl (by decide) rfl (fun ls hl => ?_)
      refine lv_goto (tgt := 8) hx hb d_O_weigh_50 (by decide) ?_
      rw [hG8] at h
      exact h _ _ _ hP hS (lv_sub hl [1, 2, 3, 4, 5, 0] rfl))
  have h := h (by
    intro x1 x2 x5 σ h
    rw [hG61]
    intro H locs ls hP hS hl
    refine lv_iload hx hb d_O_weigh_61 (lv_at hl 5 rfl) ?_
    refine lv_aload_n hx hb d_O_weigh_63 rfl (lv_at hl 0 rfl) ?_
    refine va_get (D := D) (ci := 1) (v := .ref (ad 23)) (C := RX1) (T := TX1) (N := 14) hx hb htg inG_X1 hown hK hP 3 rfl rfl 8 (by decide) (htg _ m_182) (fun _ h9 => h9) rfl d_O_weigh_64 ?_
    refine lv_iload_n hx hb d_O_weigh_67 rfl (lv_at hl 2 rfl) ?_
    refine lv_iconst (v := 1) hx hb d_O_weigh_68 (by decide) ?_
    refine lv_iadd hx hb d_O_weigh_69 ?_
    have hi := h.1
    have h := h.2
    refine va_iald hx hb hK hP 23 0 rfl rfl hi d_O_weigh_70 ?_
    refine lv_icmp_ge (tgt := 115) hx hb d_O_weigh_71 (by decide) (fun cn => ?_) (fun cn => ?_)
    · have h := h.1 cn
      refine lv_aload_n hx hb d_O_weigh_115 rfl (lv_at hl 0 rfl) ?_
      refine va_get (D := D) (ci := 1) (v := .ref (ad 20)) (C := RX1) (T := TX1) (N := 14) hx hb htg inG_X1 hown hK hP 3 rfl rfl 5 (by decide) (htg _ m_179) (fun _ h9 => h9) rfl d_O_weigh_116 ?_
      refine lv_iload_n hx hb d_O_weigh_119 rfl (lv_at hl 1 rfl) ?_
      have hi := h.1
      have h := h.2
      refine va_iald hx hb hK hP 20 0 rfl rfl hi d_O_weigh_120 ?_
      refine lv_topi (fun v5 ev5 => ?_)
      have h := h v5 ev5
      refine lv_istore (lv' := [(5, .int v5), (0, .ref (ad 3)), (1, .int x1), (2, .int x2), (3, .ref (ad 22)), (4, .ref (ad 21))]) hx hb d_O_weigh_121 hl (by decide) rfl (fun ls hl => ?_)
      rw [hG123] at h
      exact h _ _ _ hP hS (lv_sub hl [1, 2, 0] rfl)
    · have h := h.2 cn
      refine lv_aload_n hx hb d_O_weigh_74 rfl (lv_at hl 0 rfl) ?_
      refine va_get (D := D) (ci := 1) (v := .ref (ad 24)) (C := RX1) (T := TX1) (N := 14) hx hb htg inG_X1 hown hK hP 3 rfl rfl 9 (by decide) (htg _ m_183) (fun _ h9 => h9) rfl d_O_weigh_75 ?_
      refine lv_aload_n hx hb d_O_weigh_78 rfl (lv_at hl 3 rfl) ?_
      refine lv_iload hx hb d_O_weigh_79 (lv_at hl 5 rfl) ?_
      have hi := h.1
      have h := h.2
      refine va_iald hx hb hK hP 22 0 rfl rfl hi d_O_weigh_81 ?_
      refine lv_dup2_11 hx hb d_O_weigh_82 rfl rfl ?_
      have hi := h.1
      have h := h.2
      refine va_iald hx hb hK hP 24 0 rfl rfl hi d_O_weigh_83 ?_
      refine lv_aload_n hx hb d_O_weigh_84 rfl (lv_at hl 0 rfl) ?_
      refine va_get (D := D) (ci := 1) (v := .ref (ad 16)) (C := RX1) (T := TX1) (N := 14) hx hb htg inG_X1 hown hK hP 3 rfl rfl 0 (by decide) (htg _ m_171) (fun _ h9 => h9) rfl d_O_weigh_85 ?_
      refine lv_aload hx hb d_O_weigh_88 (lv_at hl 4 rfl) ?_
      refine lv_iload hx hb d_O_weigh_90 (lv_at hl 5 rfl) ?_
      have hi := h.1
      have h := h.2
      refine va_iald hx hb hK hP 21 0 rfl rfl hi d_O_weigh_92 ?_
      have hi := h.1
      have h := h.2
      refine va_iald hx hb hK hP 16 0 rfl rfl hi d_O_weigh_93 ?_
      refine lv_iadd hx hb d_O_weigh_94 ?_
      have hi := h.1
      have h := h.2
      refine va_iast hx hb hK hP (hD _) hS 24 0 rfl rfl hi d_O_weigh_95 (fun H locs hP _ hS => ?_)
      obtain ⟨σ6, eσ6⟩ : ∃ z : S0, z = st σ 24 (σ 22 x5.toNatClampNeg).toNatClampNeg ((σ 24 (σ 22 x5.toNatClampNeg).toNatClampNeg) + (σ 16 (σ 21 x5.toNatClampNeg).toNatClampNeg)) := ⟨_, rfl⟩
      have hP : va_P D vwCl (wC ad cA cB σ6) H := by rw [eσ6]; exact hP
      have h := h σ6 eσ6
      refine lv_aload_n hx hb d_O_weigh_96 rfl (lv_at hl 0 rfl) ?_
      refine va_get (D := D) (ci := 1) (v := .ref (ad 25)) (C := RX1) (T := TX1) (N := 14) hx hb htg inG_X1 hown hK hP 3 rfl rfl 10 (by decide) (htg _ m_184) (fun _ h9 => h9) rfl d_O_weigh_97 ?_
      refine lv_aload_n hx hb d_O_weigh_100 rfl (lv_at hl 3 rfl) ?_
      refine lv_iload hx hb d_O_weigh_101 (lv_at hl 5 rfl) ?_
      have hi := h.1
      have h := h.2
      refine va_iald hx hb hK hP 22 0 rfl rfl hi d_O_weigh_103 ?_
      refine lv_dup2_11 hx hb d_O_weigh_104 rfl rfl ?_
      have hi := h.1
      have h := h.2
      refine va_iald hx hb hK hP 25 0 rfl rfl hi d_O_weigh_105 ?_
      refine lv_iconst (v := 1) hx hb d_O_weigh_106 (by decide) ?_
      refine lv_iadd hx hb d_O_weigh_107 ?_
      have hi := h.1
      have h := h.2
      refine va_iast hx hb hK hP (hD _) hS 25 0 rfl rfl hi d_O_weigh_108 (fun H locs hP _ hS => ?_)
      obtain ⟨σ7, eσ7⟩ : ∃ z : S0, z = st σ6 25 (σ6 22 x5.toNatClampNeg).toNatClampNeg ((σ6 25 (σ6 22 x5.toNatClampNeg).toNatClampNeg) + 1) := ⟨_, rfl⟩
      have hP : va_P D vwCl (wC ad cA cB σ7) H := by rw [eσ7]; exact hP
      have h := h σ7 eσ7
      refine lv_iinc (v := (x5 + 1)) (lv' := [(5, .int (x5 + 1)), (0, .ref (ad 3)), (1, .int x1), (2, .int x2), (3, .ref (ad 22)), (4, .ref (ad 21))]) hx hb d_O_weigh_109 hl (k := 5) rfl rfl (by decide) rfl (fun ls hl => ?_)
      refine lv_goto (tgt := 61) hx hb d_O_weigh_112 (by decide) ?_
      rw [hG61] at h
      exact h _ _ _ hP hS (lv_sub hl [1, 2, 3, 4, 5, 0] rfl))
  have h := h (by
    intro x1 x5 σ h
    rw [hG123]
    intro H locs ls hP hS hl
    refine lv_iload hx hb d_O_weigh_123 (lv_at hl 2 rfl) ?_
    refine lv_aload_n hx hb d_O_weigh_125 rfl (lv_at hl 0 rfl) ?_
    refine va_get (D := D) (ci := 1) (v := .ref (ad 20)) (C := RX1) (T := TX1) (N := 14) hx hb htg inG_X1 hown hK hP 3 rfl rfl 5 (by decide) (htg _ m_179) (fun _ h9 => h9) rfl d_O_weigh_126 ?_
    refine lv_iload_n hx hb d_O_weigh_129 rfl (lv_at hl 1 rfl) ?_
    refine lv_iconst (v := 1) hx hb d_O_weigh_130 (by decide) ?_
    refine lv_iadd hx hb d_O_weigh_131 ?_
    have hi := h.1
    have h := h.2
    refine va_iald hx hb hK hP 20 0 rfl rfl hi d_O_weigh_132 ?_
    refine lv_icmp_ge (tgt := 194) hx hb d_O_weigh_133 (by decide) (fun cn => ?_) (fun cn => ?_)
    · have h := h.1 cn
      exact W.vret hx hb hr (fun t ht hW => ⟨⟨σ, rfl, h, kBC_of ht hP⟩, hS.F ht⟩) hS.2.2 d_O_weigh_194 hlocks
    · have h := h.2 cn
      refine lv_aload_n hx hb d_O_weigh_136 rfl (lv_at hl 0 rfl) ?_
      refine va_get (D := D) (ci := 1) (v := .ref (ad 25)) (C := RX1) (T := TX1) (N := 14) hx hb htg inG_X1 hown hK hP 3 rfl rfl 10 (by decide) (htg _ m_184) (fun _ h9 => h9) rfl d_O_weigh_137 ?_
      refine lv_aload_n hx hb d_O_weigh_140 rfl (lv_at hl 0 rfl) ?_
      refine va_get (D := D) (ci := 1) (v := .ref (ad 18)) (C := RX1) (T := TX1) (N := 14) hx hb htg inG_X1 hown hK hP 3 rfl rfl 3 (by decide) (htg _ m_177) (fun _ h9 => h9) rfl d_O_weigh_141 ?_
      refine lv_iload hx hb d_O_weigh_144 (lv_at hl 2 rfl) ?_
      have hi := h.1
      have h := h.2
      refine va_iald hx hb hK hP 18 0 rfl rfl hi d_O_weigh_146 ?_
      have hi := h.1
      have h := h.2
      refine va_iald hx hb hK hP 25 0 rfl rfl hi d_O_weigh_147 ?_
      refine lv_if_ne (tgt := 188) hx hb d_O_weigh_148 (by decide) (fun cn => ?_) (fun cn => ?_)
      · have h := h.1 cn
        refine lv_iinc (v := (x5 + 1)) (lv' := [(5, .int (x5 + 1)), (0, .ref (ad 3)), (1, .int x1)]) hx hb d_O_weigh_188 hl (k := 2) rfl rfl (by decide) rfl (fun ls hl => ?_)
        refine lv_goto (tgt := 123) hx hb d_O_weigh_191 (by decide) ?_
        rw [hG123] at h
        exact h _ _ _ hP hS (lv_sub hl [1, 2, 0] rfl)
      · have h := h.2 cn
        refine lv_aload_n hx hb d_O_weigh_151 rfl (lv_at hl 0 rfl) ?_
        refine va_get (D := D) (ci := 1) (v := .ref (ad 24)) (C := RX1) (T := TX1) (N := 14) hx hb htg inG_X1 hown hK hP 3 rfl rfl 9 (by decide) (htg _ m_183) (fun _ h9 => h9) rfl d_O_weigh_152 ?_
        refine lv_aload_n hx hb d_O_weigh_155 rfl (lv_at hl 0 rfl) ?_
        refine va_get (D := D) (ci := 1) (v := .ref (ad 18)) (C := RX1) (T := TX1) (N := 14) hx hb htg inG_X1 hown hK hP 3 rfl rfl 3 (by decide) (htg _ m_177) (fun _ h9 => h9) rfl d_O_weigh_156 ?_
        refine lv_iload hx hb d_O_weigh_159 (lv_at hl 2 rfl) ?_
        have hi := h.1
        have h := h.2
        refine va_iald hx hb hK hP 18 0 rfl rfl hi d_O_weigh_161 ?_
        refine lv_aload_n hx hb d_O_weigh_162 rfl (lv_at hl 0 rfl) ?_
        refine va_get (D := D) (ci := 1) (v := .ref (ad 16)) (C := RX1) (T := TX1) (N := 14) hx hb htg inG_X1 hown hK hP 3 rfl rfl 0 (by decide) (htg _ m_171) (fun _ h9 => h9) rfl d_O_weigh_163 ?_
        refine lv_aload_n hx hb d_O_weigh_166 rfl (lv_at hl 0 rfl) ?_
        refine va_get (D := D) (ci := 1) (v := .ref (ad 18)) (C := RX1) (T := TX1) (N := 14) hx hb htg inG_X1 hown hK hP 3 rfl rfl 3 (by decide) (htg _ m_177) (fun _ h9 => h9) rfl d_O_weigh_167 ?_
        refine lv_iload hx hb d_O_weigh_170 (lv_at hl 2 rfl) ?_
        have hi := h.1
        have h := h.2
        refine va_iald hx hb hK hP 18 0 rfl rfl hi d_O_weigh_172 ?_
        have hi := h.1
        have h := h.2
        refine va_iald hx hb hK hP 16 0 rfl rfl hi d_O_weigh_173 ?_
        have hi := h.1
        have h := h.2
        refine va_iast hx hb hK hP (hD _) hS 24 0 rfl rfl hi d_O_weigh_174 (fun H locs hP _ hS => ?_)
        obtain ⟨σ8, eσ8⟩ : ∃ z : S0, z = st σ 24 (σ 18 x5.toNatClampNeg).toNatClampNeg (σ 16 (σ 18 x5.toNatClampNeg).toNatClampNeg) := ⟨_, rfl⟩
        have hP : va_P D vwCl (wC ad cA cB σ8) H := by rw [eσ8]; exact hP
        have h := h σ8 eσ8
        refine lv_aload_n hx hb d_O_weigh_175 rfl (lv_at hl 0 rfl) ?_
        refine va_get (D := D) (ci := 1) (v := .ref (ad 25)) (C := RX1) (T := TX1) (N := 14) hx hb htg inG_X1 hown hK hP 3 rfl rfl 10 (by decide) (htg _ m_184) (fun _ h9 => h9) rfl d_O_weigh_176 ?_
        refine lv_aload_n hx hb d_O_weigh_179 rfl (lv_at hl 0 rfl) ?_
        refine va_get (D := D) (ci := 1) (v := .ref (ad 18)) (C := RX1) (T := TX1) (N := 14) hx hb htg inG_X1 hown hK hP 3 rfl rfl 3 (by decide) (htg _ m_177) (fun _ h9 => h9) rfl d_O_weigh_180 ?_
        refine lv_iload hx hb d_O_weigh_183 (lv_at hl 2 rfl) ?_
        have hi := h.1
        have h := h.2
        refine va_iald hx hb hK hP 18 0 rfl rfl hi d_O_weigh_185 ?_
        refine lv_iconst (v := 1) hx hb d_O_weigh_186 (by decide) ?_
        have hi := h.1
        have h := h.2
        refine va_iast hx hb hK hP (hD _) hS 25 0 rfl rfl hi d_O_weigh_187 (fun H locs hP _ hS => ?_)
        obtain ⟨σ9, eσ9⟩ : ∃ z : S0, z = st σ8 25 (σ8 18 x5.toNatClampNeg).toNatClampNeg 1 := ⟨_, rfl⟩
        have hP : va_P D vwCl (wC ad cA cB σ9) H := by rw [eσ9]; exact hP
        have h := h σ9 eσ9
        refine lv_iinc (v := (x5 + 1)) (lv' := [(5, .int (x5 + 1)), (0, .ref (ad 3)), (1, .int x1)]) hx hb d_O_weigh_188 hl (k := 2) rfl rfl (by decide) rfl (fun ls hl => ?_)
        refine lv_goto (tgt := 123) hx hb d_O_weigh_191 (by decide) ?_
        rw [hG123] at h
        exact h _ _ _ hP hS (lv_sub hl [1, 2, 0] rfl))
  obtain ⟨H, eH⟩ : ∃ z, z = s.heap := ⟨_, rfl⟩
  have hP : va_P D vwCl (wC ad cA cB σ) H := by rw [eH]; exact hP
  have hS : va_S (kAC ad s.heap.size) s.heap H [] := by rw [eH]; exact hS
  show W p l e (headSpec (Cond.code y_O_weigh c_O_weigh 6 none :: wsG) ({ frames := 0, cells := 0, slots := 0, locals := 0 } : Room)).room s m ([.ref (ad 3), .int a1, .int a2, .ref (ad 22), .ref (ad 21)] : List Value).toArray below meth c s.heap [] 0 0 (MQ below (va_Qv post (kBC D ad cA cB) (kAC ad s.heap.size)) ([.ref (ad 3), .int a1, .int a2, .ref (ad 22), .ref (ad 21)] : List Value).toArray s 0 0 (kAC ad s.heap.size)) (F0 m 0 ls [])
  suffices k : W p l e (headSpec (Cond.code y_O_weigh c_O_weigh 6 none :: wsG) ({ frames := 0, cells := 0, slots := 0, locals := 0 } : Room)).room s m ([.ref (ad 3), .int a1, .int a2, .ref (ad 22), .ref (ad 21)] : List Value).toArray below meth c H [] 0 0 (MQ below (va_Qv post (kBC D ad cA cB) (kAC ad s.heap.size)) ([.ref (ad 3), .int a1, .int a2, .ref (ad 22), .ref (ad 21)] : List Value).toArray s 0 0 (kAC ad s.heap.size)) (F0 m 0 ls []) by rw [eH] at k; exact k
  refine lv_aload_n hx hb d_O_weigh_0 rfl (lv_at hl 0 rfl) ?_
  refine va_get (D := D) (ci := 1) (v := .ref (ad 20)) (C := RX1) (T := TX1) (N := 14) hx hb htg inG_X1 hown hK hP 3 rfl rfl 5 (by decide) (htg _ m_179) (fun _ h9 => h9) rfl d_O_weigh_1 ?_
  refine lv_iload_n hx hb d_O_weigh_4 rfl (lv_at hl 1 rfl) ?_
  have hi := h.1
  have h := h.2
  refine va_iald hx hb hK hP 20 0 rfl rfl hi d_O_weigh_5 ?_
  refine lv_topi (fun v1 ev1 => ?_)
  have h := h v1 ev1
  refine lv_istore (lv' := [(5, .int v1), (0, .ref (ad 3)), (1, .int a1), (2, .int a2), (3, .ref (ad 22)), (4, .ref (ad 21))]) hx hb d_O_weigh_6 hl (by decide) rfl (fun ls hl => ?_)
  rw [hG8] at h
  exact h _ _ _ hP hS (lv_sub hl [1, 2, 3, 4, 5, 0] rfl)
set_option maxHeartbeats 4000000 in
set_option maxRecDepth 100000 in
theorem met_O_hasLesserKey (l : Launch) (D : va_G) (ad : Nat → Nat) (cA cB : ClassId) (hap : kapC ad) (σ : S0) (sz : Nat) (a1 a2 : Int32) (post : Int32 → S0 → Prop) (h : Sp_O_hasLesserKey a1 a2 σ post) : Met l y_O_hasLesserKey (Cond.code y_O_hasLesserKey c_O_hasLesserKey 3 (some .boolean) :: wsG) ({ frames := 0, cells := 0, slots := 0, locals := 0 } : Room) (kPcC D ad cA cB σ sz [.ref (ad 3), .int a1, .int a2]) (va_Qi post (kBC D ad cA cB) (kAC ad sz)) 0 0 (kAC ad sz) := by
  refine Met.ofW (cc := c_O_hasLesserKey) (maxL := 3) (ret := (some .boolean)) (by decide) rfl ?_
  intro p e s m args below meth c s₁ B hml hv
  obtain ⟨rfl, hsz, hP, hK, hF⟩ := hv
  have hx := B.exec
  have hb := B.bytes
  have hr := B.returns
  have hts := atoms_spec (ws := (Cond.code y_O_hasLesserKey c_O_hasLesserKey 3 (some .boolean) :: wsG)) B.pre
  have htg : ∀ w ∈ wsG, w.before ([.ref (ad 3), .int a1, .int a2] : List Value).toArray s = true := fun w h => hts w (List.mem_cons_of_mem _ h)
  have hown : s.vm.findClass RX1 = some m.cls := findClass_of_methodNamed B.named
  have hlocks := B.notSynchronized
  subst hsz
  have hD : ∀ σ, va_D (kAC ad s.heap.size) (wC ad cA cB σ) := fun σ => wC_D hap cA cB σ _
  have hS : va_S (kAC ad s.heap.size) s.heap s.heap [] := va_S.rf
  have hE := hF.1
  have hl := lv_entry ([.ref (ad 3), .int a1, .int a2]) (n := 3) (Nat.le_of_ble_eq_true rfl)
  rw [lg_entry_eq]
  generalize (lg_sl ([.ref (ad 3), .int a1, .int a2]) ++ List.replicate (3 - (lg_sl ([.ref (ad 3), .int a1, .int a2])).length) Slot.unset).toArray = ls at hl ⊢
  have hl : lv_has ls 3 [(0, .ref (ad 3)), (1, .int a1), (2, .int a2)] := hl
  unfold Sp_O_hasLesserKey at h
  obtain ⟨H, eH⟩ : ∃ z, z = s.heap := ⟨_, rfl⟩
  have hP : va_P D vwCl (wC ad cA cB σ) H := by rw [eH]; exact hP
  have hS : va_S (kAC ad s.heap.size) s.heap H [] := by rw [eH]; exact hS
  show W p l e (headSpec (Cond.code y_O_hasLesserKey c_O_hasLesserKey 3 (some .boolean) :: wsG) ({ frames := 0, cells := 0, slots := 0, locals := 0 } : Room)).room s m ([.ref (ad 3), .int a1, .int a2] : List Value).toArray below meth c s.heap [] 0 0 (MQ below (va_Qi post (kBC D ad cA cB) (kAC ad s.heap.size)) ([.ref (ad 3), .int a1, .int a2] : List Value).toArray s 0 0 (kAC ad s.heap.size)) (F0 m 0 ls [])
  suffices k : W p l e (headSpec (Cond.code y_O_hasLesserKey c_O_hasLesserKey 3 (some .boolean) :: wsG) ({ frames := 0, cells := 0, slots := 0, locals := 0 } : Room)).room s m ([.ref (ad 3), .int a1, .int a2] : List Value).toArray below meth c H [] 0 0 (MQ below (va_Qi post (kBC D ad cA cB) (kAC ad s.heap.size)) ([.ref (ad 3), .int a1, .int a2] : List Value).toArray s 0 0 (kAC ad s.heap.size)) (F0 m 0 ls []) by rw [eH] at k; exact k
  refine lv_aload_n hx hb d_O_hasLesserKey_0 rfl (lv_at hl 0 rfl) ?_
  refine va_get (D := D) (ci := 1) (v := .ref (ad 24)) (C := RX1) (T := TX1) (N := 14) hx hb htg inG_X1 hown hK hP 3 rfl rfl 9 (by decide) (htg _ m_183) (fun _ h9 => h9) rfl d_O_hasLesserKey_1 ?_
  refine lv_iload_n hx hb d_O_hasLesserKey_4 rfl (lv_at hl 1 rfl) ?_
  have hi := h.1
  have h := h.2
  refine va_iald hx hb hK hP 24 0 rfl rfl hi d_O_hasLesserKey_5 ?_
  refine lv_aload_n hx hb d_O_hasLesserKey_6 rfl (lv_at hl 0 rfl) ?_
  refine va_get (D := D) (ci := 1) (v := .ref (ad 25)) (C := RX1) (T := TX1) (N := 14) hx hb htg inG_X1 hown hK hP 3 rfl rfl 10 (by decide) (htg _ m_184) (fun _ h9 => h9) rfl d_O_hasLesserKey_7 ?_
  refine lv_iload_n hx hb d_O_hasLesserKey_10 rfl (lv_at hl 2 rfl) ?_
  have hi := h.1
  have h := h.2
  refine va_iald hx hb hK hP 25 0 rfl rfl hi d_O_hasLesserKey_11 ?_
  refine lv_imul hx hb d_O_hasLesserKey_12 ?_
  refine lv_aload_n hx hb d_O_hasLesserKey_13 rfl (lv_at hl 0 rfl) ?_
  refine va_get (D := D) (ci := 1) (v := .ref (ad 24)) (C := RX1) (T := TX1) (N := 14) hx hb htg inG_X1 hown hK hP 3 rfl rfl 9 (by decide) (htg _ m_183) (fun _ h9 => h9) rfl d_O_hasLesserKey_14 ?_
  refine lv_iload_n hx hb d_O_hasLesserKey_17 rfl (lv_at hl 2 rfl) ?_
  have hi := h.1
  have h := h.2
  refine va_iald hx hb hK hP 24 0 rfl rfl hi d_O_hasLesserKey_18 ?_
  refine lv_aload_n hx hb d_O_hasLesserKey_19 rfl (lv_at hl 0 rfl) ?_
  refine va_get (D := D) (ci := 1) (v := .ref (ad 25)) (C := RX1) (T := TX1) (N := 14) hx hb htg inG_X1 hown hK hP 3 rfl rfl 10 (by decide) (htg _ m_184) (fun _ h9 => h9) rfl d_O_hasLesserKey_20 ?_
  refine lv_iload_n hx hb d_O_hasLesserKey_23 rfl (lv_at hl 1 rfl) ?_
  have hi := h.1
  have h := h.2
  refine va_iald hx hb hK hP 25 0 rfl rfl hi d_O_hasLesserKey_24 ?_
  refine lv_imul hx hb d_O_hasLesserKey_25 ?_
  refine lv_icmp_ge (tgt := 33) hx hb d_O_hasLesserKey_26 (by decide) (fun cn => ?_) (fun cn => ?_)
  · have h := h.1 cn
    refine lv_iconst (v := 0) hx hb d_O_hasLesserKey_33 (by decide) ?_
    exact W.zret (v := 0) hx hb hr rfl (fun t ht hW => ⟨⟨_, σ, rfl, h, kBC_of ht hP⟩, hS.F ht⟩) hS.2.2 d_O_hasLesserKey_34 hlocks
  · have h := h.2 cn
    refine lv_iconst (v := 1) hx hb d_O_hasLesserKey_29 (by decide) ?_
    refine lv_goto (tgt := 34) hx hb d_O_hasLesserKey_30 (by decide) ?_
    exact W.zret (v := 1) hx hb hr rfl (fun t ht hW => ⟨⟨_, σ, rfl, h, kBC_of ht hP⟩, hS.F ht⟩) hS.2.2 d_O_hasLesserKey_34 hlocks
set_option maxHeartbeats 4000000 in
set_option maxRecDepth 100000 in
theorem met_O_sort (l : Launch) (D : va_G) (ad : Nat → Nat) (cA cB : ClassId) (hap : kapC ad) (σ : S0) (sz : Nat) (a1 a2 : Int32) (post : S0 → Prop) (h : Sp_O_sort a1 a2 σ post) : Met l y_O_sort (Cond.code y_O_sort c_O_sort 6 none :: wsG) ({ frames := 1, cells := 0, slots := 0, locals := 22 } : Room) (kPcC D ad cA cB σ sz [.ref (ad 3), .int a1, .int a2]) (va_Qv post (kBC D ad cA cB) (kAC ad sz)) 0 0 (kAC ad sz) := by
  refine Met.ofW (cc := c_O_sort) (maxL := 6) (ret := none) (by decide) rfl ?_
  intro p e s m args below meth c s₁ B hml hv
  obtain ⟨rfl, hsz, hP, hK, hF⟩ := hv
  have hx := B.exec
  have hb := B.bytes
  have hr := B.returns
  have hts := atoms_spec (ws := (Cond.code y_O_sort c_O_sort 6 none :: wsG)) B.pre
  have htg : ∀ w ∈ wsG, w.before ([.ref (ad 3), .int a1, .int a2] : List Value).toArray s = true := fun w h => hts w (List.mem_cons_of_mem _ h)
  have hown : s.vm.findClass RX1 = some m.cls := findClass_of_methodNamed B.named
  have hlocks := B.notSynchronized
  subst hsz
  have hD : ∀ σ, va_D (kAC ad s.heap.size) (wC ad cA cB σ) := fun σ => wC_D hap cA cB σ _
  have hS : va_S (kAC ad s.heap.size) s.heap s.heap [] := va_S.rf
  have hE := hF.1
  have hl := lv_entry ([.ref (ad 3), .int a1, .int a2]) (n := 6) (Nat.le_of_ble_eq_true rfl)
  rw [lg_entry_eq]
  generalize (lg_sl ([.ref (ad 3), .int a1, .int a2]) ++ List.replicate (6 - (lg_sl ([.ref (ad 3), .int a1, .int a2])).length) Slot.unset).toArray = ls at hl ⊢
  have hl : lv_has ls 6 [(0, .ref (ad 3)), (1, .int a1), (2, .int a2)] := hl
  unfold Sp_O_sort at h
  obtain ⟨G4, hG4⟩ : ∃ G : Int32 → Int32 → Int32 → S0 → Prop, G = fun (x1 x2 x3 : Int32) (σ : S0) => ∀ (H : Heap) (locs : List Loc) (ls : Array Slot), va_P D vwCl (wC ad cA cB σ) H → va_S (kAC ad s.heap.size) s.heap H locs → lv_has ls 6 [(0, .ref (ad 3)), (1, .int x1), (2, .int x2), (3, .int x3)] → W p l e (headSpec (Cond.code y_O_sort c_O_sort 6 none :: wsG) ({ frames := 1, cells := 0, slots := 0, locals := 22 } : Room)).room s m ([.ref (ad 3), .int a1, .int a2] : List Value).toArray below meth c H locs 0 0 (MQ below (va_Qv post (kBC D ad cA cB) (kAC ad s.heap.size)) ([.ref (ad 3), .int a1, .int a2] : List Value).toArray s 0 0 (kAC ad s.heap.size)) (F0 m 4 ls []) := ⟨_, rfl⟩
  obtain ⟨G20, hG20⟩ : ∃ G : Int32 → Int32 → Int32 → Int32 → Int32 → S0 → Prop, G = fun (x1 x2 x3 x4 x5 : Int32) (σ : S0) => ∀ (H : Heap) (locs : List Loc) (ls : Array Slot), va_P D vwCl (wC ad cA cB σ) H → va_S (kAC ad s.heap.size) s.heap H locs → lv_has ls 6 [(0, .ref (ad 3)), (1, .int x1), (2, .int x2), (3, .int x3), (4, .int x4), (5, .int x5)] → W p l e (headSpec (Cond.code y_O_sort c_O_sort 6 none :: wsG) ({ frames := 1, cells := 0, slots := 0, locals := 22 } : Room)).room s m ([.ref (ad 3), .int a1, .int a2] : List Value).toArray below meth c H locs 0 0 (MQ below (va_Qv post (kBC D ad cA cB) (kAC ad s.heap.size)) ([.ref (ad 3), .int a1, .int a2] : List Value).toArray s 0 0 (kAC ad s.heap.size)) (F0 m 20 ls []) := ⟨_, rfl⟩
  obtain ⟨G66, hG66⟩ : ∃ G : Int32 → Int32 → Int32 → Int32 → Int32 → S0 → Prop, G = fun (x1 x2 x3 x4 x5 : Int32) (σ : S0) => ∀ (H : Heap) (locs : List Loc) (ls : Array Slot), va_P D vwCl (wC ad cA cB σ) H → va_S (kAC ad s.heap.size) s.heap H locs → lv_has ls 6 [(0, .ref (ad 3)), (1, .int x1), (2, .int x2), (3, .int x3), (4, .int x4), (5, .int x5)] → W p l e (headSpec (Cond.code y_O_sort c_O_sort 6 none :: wsG) ({ frames := 1, cells := 0, slots := 0, locals := 22 } : Room)).room s m ([.ref (ad 3), .int a1, .int a2] : List Value).toArray below meth c H locs 0 0 (MQ below (va_Qv post (kBC D ad cA cB) (kAC ad s.heap.size)) ([.ref (ad 3), .int a1, .int a2] : List Value).toArray s 0 0 (kAC ad s.heap.size)) (F0 m 66 ls []) := ⟨_, rfl⟩
  have h := h G4 G20 G66
  have h := h (by
    intro x1 x2 x3 σ h
    rw [hG4]
    intro H locs ls hP hS hl
    refine lv_iload_n hx hb d_O_sort_4 rfl (lv_at hl 3 rfl) ?_
    refine lv_iload_n hx hb d_O_sort_5 rfl (lv_at hl 2 rfl) ?_
    refine lv_icmp_ge (tgt := 81) hx hb d_O_sort_6 (by decide) (fun cn => ?_) (fun cn => ?_)
    · have h := h.1 cn
      exact W.vret hx hb hr (fun t ht hW => ⟨⟨σ, rfl, h, kBC_of ht hP⟩, hS.F ht⟩) hS.2.2 d_O_sort_81 hlocks
    · have h := h.2 cn
      refine lv_aload_n hx hb d_O_sort_9 rfl (lv_at hl 0 rfl) ?_
      refine va_get (D := D) (ci := 1) (v := .ref (ad 18)) (C := RX1) (T := TX1) (N := 14) hx hb htg inG_X1 hown hK hP 3 rfl rfl 3 (by decide) (htg _ m_177) (fun _ h9 => h9) rfl d_O_sort_10 ?_
      refine lv_iload_n hx hb d_O_sort_13 rfl (lv_at hl 3 rfl) ?_
      have hi := h.1
      have h := h.2
      refine va_iald hx hb hK hP 18 0 rfl rfl hi d_O_sort_14 ?_
      refine lv_topi (fun v2 ev2 => ?_)
      have h := h v2 ev2
      refine lv_istore (lv' := [(4, .int v2), (0, .ref (ad 3)), (1, .int x1), (2, .int x2), (3, .int x3)]) hx hb d_O_sort_15 hl (by decide) rfl (fun ls hl => ?_)
      refine lv_iload_n hx hb d_O_sort_17 rfl (lv_at hl 4 rfl) ?_
      refine lv_istore (lv' := [(5, .int x3), (4, .int v2), (0, .ref (ad 3)), (1, .int x1), (2, .int x2), (3, .int x3)]) hx hb d_O_sort_18 hl (by decide) rfl (fun ls hl => ?_)
      rw [hG20] at h
      exact h _ _ _ hP hS (lv_sub hl [2, 3, 4, 5, 1, 0] rfl))
  have h := h (by
    intro x1 x2 x3 x4 x5 σ h
    rw [hG20]
    intro H locs ls hP hS hl
    refine lv_iload hx hb d_O_sort_20 (lv_at hl 5 rfl) ?_
    refine lv_iload_n hx hb d_O_sort_22 rfl (lv_at hl 1 rfl) ?_
    refine lv_icmp_le (tgt := 66) hx hb d_O_sort_23 (by decide) (fun cn => ?_) (fun cn => ?_)
    · have h := h.1 cn
      rw [hG66] at h
      exact h _ _ _ hP hS (lv_sub hl [0, 1, 2, 3, 4, 5] rfl)
    · have h := h.2 cn
      refine lv_aload_n hx hb d_O_sort_26 rfl (lv_at hl 0 rfl) ?_
      refine lv_iload hx hb d_O_sort_27 (lv_at hl 4 rfl) ?_
      refine lv_aload_n hx hb d_O_sort_29 rfl (lv_at hl 0 rfl) ?_
      refine va_get (D := D) (ci := 1) (v := .ref (ad 18)) (C := RX1) (T := TX1) (N := 14) hx hb htg inG_X1 hown hK hP 3 rfl rfl 3 (by decide) (htg _ m_177) (fun _ h9 => h9) rfl d_O_sort_30 ?_
      refine lv_iload hx hb d_O_sort_33 (lv_at hl 5 rfl) ?_
      refine lv_iconst (v := 1) hx hb d_O_sort_35 (by decide) ?_
      refine lv_isub hx hb d_O_sort_36 ?_
      have hi := h.1
      have h := h.2
      refine va_iald hx hb hK hP 18 0 rfl rfl hi d_O_sort_37 ?_
      refine kC_i (va_runV (As := [.int x4, .int (σ 18 (x5 - 1).toNatClampNeg)]) (rest := []) ⟨hx, hb, hml, hown, htg⟩ (met_O_hasLesserKey l D ad cA cB hap σ H.size x4 (σ 18 (x5 - 1).toNatClampNeg) _ h) (cwV 2 htg (kG (kG_V m_516 m_518 m_20 m_56 (kG_self m_519))) rfl rfl rfl (by decide +kernel) ⟨Nat.le_of_ble_eq_true rfl, Nat.le_of_ble_eq_true rfl⟩) (kC_preV hK hF hP hS 3 rfl rfl _) rfl rfl hl.1 rfl (lv_room (Nat.le_of_ble_eq_true rfl)) d_O_sort_38 ⟨Nat.le_of_ble_eq_true rfl, Nat.le_of_ble_eq_true rfl⟩) hS (fun r4 σ3 H locs h hP hS => ?_)
      refine lv_if_eq (tgt := 66) hx hb d_O_sort_41 (by decide) (fun cn => ?_) (fun cn => ?_)
      · have h := h.1 cn
        rw [hG66] at h
        exact h _ _ _ hP hS (lv_sub hl [0, 1, 2, 3, 4, 5] rfl)
      · have h := h.2 cn
        refine lv_aload_n hx hb d_O_sort_44 rfl (lv_at hl 0 rfl) ?_
        refine va_get (D := D) (ci := 1) (v := .ref (ad 18)) (C := RX1) (T := TX1) (N := 14) hx hb htg inG_X1 hown hK hP 3 rfl rfl 3 (by decide) (htg _ m_177) (fun _ h9 => h9) rfl d_O_sort_45 ?_
        refine lv_iload hx hb d_O_sort_48 (lv_at hl 5 rfl) ?_
        refine lv_aload_n hx hb d_O_sort_50 rfl (lv_at hl 0 rfl) ?_
        refine va_get (D := D) (ci := 1) (v := .ref (ad 18)) (C := RX1) (T := TX1) (N := 14) hx hb htg inG_X1 hown hK hP 3 rfl rfl 3 (by decide) (htg _ m_177) (fun _ h9 => h9) rfl d_O_sort_51 ?_
        refine lv_iload hx hb d_O_sort_54 (lv_at hl 5 rfl) ?_
        refine lv_iconst (v := 1) hx hb d_O_sort_56 (by decide) ?_
        refine lv_isub hx hb d_O_sort_57 ?_
        have hi := h.1
        have h := h.2
        refine va_iald hx hb hK hP 18 0 rfl rfl hi d_O_sort_58 ?_
        have hi := h.1
        have h := h.2
        refine va_iast hx hb hK hP (hD _) hS 18 0 rfl rfl hi d_O_sort_59 (fun H locs hP _ hS => ?_)
        obtain ⟨σ5, eσ5⟩ : ∃ z : S0, z = st σ3 18 x5.toNatClampNeg (σ3 18 (x5 - 1).toNatClampNeg) := ⟨_, rfl⟩
        have hP : va_P D vwCl (wC ad cA cB σ5) H := by rw [eσ5]; exact hP
        have h := h σ5 eσ5
        refine lv_iinc (v := (x5 + (-1))) (lv' := [(5, .int (x5 + (-1))), (0, .ref (ad 3)), (1, .int x1), (2, .int x2), (3, .int x3), (4, .int x4)]) hx hb d_O_sort_60 hl (k := 5) rfl rfl (by decide) rfl (fun ls hl => ?_)
        refine lv_goto (tgt := 20) hx hb d_O_sort_63 (by decide) ?_
        rw [hG20] at h
        exact h _ _ _ hP hS (lv_sub hl [1, 2, 3, 4, 5, 0] rfl))
  have h := h (by
    intro x1 x2 x3 x4 x5 σ h
    rw [hG66]
    intro H locs ls hP hS hl
    refine lv_aload_n hx hb d_O_sort_66 rfl (lv_at hl 0 rfl) ?_
    refine va_get (D := D) (ci := 1) (v := .ref (ad 18)) (C := RX1) (T := TX1) (N := 14) hx hb htg inG_X1 hown hK hP 3 rfl rfl 3 (by decide) (htg _ m_177) (fun _ h9 => h9) rfl d_O_sort_67 ?_
    refine lv_iload hx hb d_O_sort_70 (lv_at hl 5 rfl) ?_
    refine lv_iload hx hb d_O_sort_72 (lv_at hl 4 rfl) ?_
    have hi := h.1
    have h := h.2
    refine va_iast hx hb hK hP (hD _) hS 18 0 rfl rfl hi d_O_sort_74 (fun H locs hP _ hS => ?_)
    obtain ⟨σ6, eσ6⟩ : ∃ z : S0, z = st σ 18 x5.toNatClampNeg x4 := ⟨_, rfl⟩
    have hP : va_P D vwCl (wC ad cA cB σ6) H := by rw [eσ6]; exact hP
    have h := h σ6 eσ6
    refine lv_iinc (v := (x3 + 1)) (lv' := [(3, .int (x3 + 1)), (0, .ref (ad 3)), (1, .int x1), (2, .int x2), (4, .int x4), (5, .int x5)]) hx hb d_O_sort_75 hl (k := 3) rfl rfl (by decide) rfl (fun ls hl => ?_)
    refine lv_goto (tgt := 4) hx hb d_O_sort_78 (by decide) ?_
    rw [hG4] at h
    exact h _ _ _ hP hS (lv_sub hl [1, 2, 3, 0] rfl))
  obtain ⟨H, eH⟩ : ∃ z, z = s.heap := ⟨_, rfl⟩
  have hP : va_P D vwCl (wC ad cA cB σ) H := by rw [eH]; exact hP
  have hS : va_S (kAC ad s.heap.size) s.heap H [] := by rw [eH]; exact hS
  show W p l e (headSpec (Cond.code y_O_sort c_O_sort 6 none :: wsG) ({ frames := 1, cells := 0, slots := 0, locals := 22 } : Room)).room s m ([.ref (ad 3), .int a1, .int a2] : List Value).toArray below meth c s.heap [] 0 0 (MQ below (va_Qv post (kBC D ad cA cB) (kAC ad s.heap.size)) ([.ref (ad 3), .int a1, .int a2] : List Value).toArray s 0 0 (kAC ad s.heap.size)) (F0 m 0 ls [])
  suffices k : W p l e (headSpec (Cond.code y_O_sort c_O_sort 6 none :: wsG) ({ frames := 1, cells := 0, slots := 0, locals := 22 } : Room)).room s m ([.ref (ad 3), .int a1, .int a2] : List Value).toArray below meth c H [] 0 0 (MQ below (va_Qv post (kBC D ad cA cB) (kAC ad s.heap.size)) ([.ref (ad 3), .int a1, .int a2] : List Value).toArray s 0 0 (kAC ad s.heap.size)) (F0 m 0 ls []) by rw [eH] at k; exact k
  refine lv_iload_n hx hb d_O_sort_0 rfl (lv_at hl 1 rfl) ?_
  refine lv_iconst (v := 1) hx hb d_O_sort_1 (by decide) ?_
  refine lv_iadd hx hb d_O_sort_2 ?_
  refine lv_topi (fun v1 ev1 => ?_)
  have h := h v1 ev1
  refine lv_istore_n (lv' := [(3, .int v1), (0, .ref (ad 3)), (1, .int a1), (2, .int a2)]) hx hb d_O_sort_3 rfl hl (by decide) rfl (fun ls hl => ?_)
  rw [hG4] at h
  exact h _ _ _ hP hS (lv_sub hl [1, 2, 3, 0] rfl)
set_option maxHeartbeats 4000000 in
set_option maxRecDepth 100000 in
theorem met_O_arrange_22_21 (l : Launch) (D : va_G) (ad : Nat → Nat) (cA cB : ClassId) (hap : kapC ad) (σ : S0) (sz : Nat) (a1 a2 : Int32) (post : S0 → Prop) (h : Sp_O_arrange_22_21 a1 a2 σ post) : Met l y_O_arrange (Cond.code y_O_arrange c_O_arrange 5 none :: wsG) ({ frames := 2, cells := 0, slots := 0, locals := 47 } : Room) (kPcC D ad cA cB σ sz [.ref (ad 3), .int a1, .int a2, .ref (ad 22), .ref (ad 21)]) (va_Qv post (kBC D ad cA cB) (kAC ad sz)) 0 0 (kAC ad sz) := by
  refine Met.ofW (cc := c_O_arrange) (maxL := 5) (ret := none) (by decide) rfl ?_
  intro p e s m args below meth c s₁ B hml hv
  obtain ⟨rfl, hsz, hP, hK, hF⟩ := hv
  have hx := B.exec
  have hb := B.bytes
  have hr := B.returns
  have hts := atoms_spec (ws := (Cond.code y_O_arrange c_O_arrange 5 none :: wsG)) B.pre
  have htg : ∀ w ∈ wsG, w.before ([.ref (ad 3), .int a1, .int a2, .ref (ad 22), .ref (ad 21)] : List Value).toArray s = true := fun w h => hts w (List.mem_cons_of_mem _ h)
  have hown : s.vm.findClass RX1 = some m.cls := findClass_of_methodNamed B.named
  have hlocks := B.notSynchronized
  subst hsz
  have hD : ∀ σ, va_D (kAC ad s.heap.size) (wC ad cA cB σ) := fun σ => wC_D hap cA cB σ _
  have hS : va_S (kAC ad s.heap.size) s.heap s.heap [] := va_S.rf
  have hE := hF.1
  have hl := lv_entry ([.ref (ad 3), .int a1, .int a2, .ref (ad 22), .ref (ad 21)]) (n := 5) (Nat.le_of_ble_eq_true rfl)
  rw [lg_entry_eq]
  generalize (lg_sl ([.ref (ad 3), .int a1, .int a2, .ref (ad 22), .ref (ad 21)]) ++ List.replicate (5 - (lg_sl ([.ref (ad 3), .int a1, .int a2, .ref (ad 22), .ref (ad 21)])).length) Slot.unset).toArray = ls at hl ⊢
  have hl : lv_has ls 5 [(0, .ref (ad 3)), (1, .int a1), (2, .int a2), (3, .ref (ad 22)), (4, .ref (ad 21))] := hl
  unfold Sp_O_arrange_22_21 at h
  obtain ⟨H, eH⟩ : ∃ z, z = s.heap := ⟨_, rfl⟩
  have hP : va_P D vwCl (wC ad cA cB σ) H := by rw [eH]; exact hP
  have hS : va_S (kAC ad s.heap.size) s.heap H [] := by rw [eH]; exact hS
  show W p l e (headSpec (Cond.code y_O_arrange c_O_arrange 5 none :: wsG) ({ frames := 2, cells := 0, slots := 0, locals := 47 } : Room)).room s m ([.ref (ad 3), .int a1, .int a2, .ref (ad 22), .ref (ad 21)] : List Value).toArray below meth c s.heap [] 0 0 (MQ below (va_Qv post (kBC D ad cA cB) (kAC ad s.heap.size)) ([.ref (ad 3), .int a1, .int a2, .ref (ad 22), .ref (ad 21)] : List Value).toArray s 0 0 (kAC ad s.heap.size)) (F0 m 0 ls [])
  suffices k : W p l e (headSpec (Cond.code y_O_arrange c_O_arrange 5 none :: wsG) ({ frames := 2, cells := 0, slots := 0, locals := 47 } : Room)).room s m ([.ref (ad 3), .int a1, .int a2, .ref (ad 22), .ref (ad 21)] : List Value).toArray below meth c H [] 0 0 (MQ below (va_Qv post (kBC D ad cA cB) (kAC ad s.heap.size)) ([.ref (ad 3), .int a1, .int a2, .ref (ad 22), .ref (ad 21)] : List Value).toArray s 0 0 (kAC ad s.heap.size)) (F0 m 0 ls []) by rw [eH] at k; exact k
  refine lv_aload_n hx hb d_O_arrange_0 rfl (lv_at hl 0 rfl) ?_
  refine lv_iload_n hx hb d_O_arrange_1 rfl (lv_at hl 1 rfl) ?_
  refine lv_iload_n hx hb d_O_arrange_2 rfl (lv_at hl 2 rfl) ?_
  refine lv_aload_n hx hb d_O_arrange_3 rfl (lv_at hl 3 rfl) ?_
  refine lv_aload hx hb d_O_arrange_4 (lv_at hl 4 rfl) ?_
  refine kC_v (va_runV (As := [.int a1, .int a2, .ref (ad 22), .ref (ad 21)]) (rest := []) ⟨hx, hb, hml, hown, htg⟩ (met_O_weigh_22_21 l D ad cA cB hap σ H.size a1 a2 _ h) (cwV 4 htg (kG (kG_V m_508 m_510 m_18 m_56 (kG_self m_511))) rfl rfl rfl (by decide +kernel) ⟨Nat.le_of_ble_eq_true rfl, Nat.le_of_ble_eq_true rfl⟩) (kC_preV hK hF hP hS 3 rfl rfl _) rfl rfl hl.1 rfl (lv_room (Nat.le_of_ble_eq_true rfl)) d_O_arrange_6 ⟨Nat.le_of_ble_eq_true rfl, Nat.le_of_ble_eq_true rfl⟩) hS (fun σ1 H locs h hP hS => ?_)
  refine lv_aload_n hx hb d_O_arrange_9 rfl (lv_at hl 0 rfl) ?_
  refine lv_aload_n hx hb d_O_arrange_10 rfl (lv_at hl 0 rfl) ?_
  refine va_get (D := D) (ci := 1) (v := .ref (ad 20)) (C := RX1) (T := TX1) (N := 14) hx hb htg inG_X1 hown hK hP 3 rfl rfl 5 (by decide) (htg _ m_179) (fun _ h9 => h9) rfl d_O_arrange_11 ?_
  refine lv_iload_n hx hb d_O_arrange_14 rfl (lv_at hl 1 rfl) ?_
  have hi := h.1
  have h := h.2
  refine va_iald hx hb hK hP 20 0 rfl rfl hi d_O_arrange_15 ?_
  refine lv_aload_n hx hb d_O_arrange_16 rfl (lv_at hl 0 rfl) ?_
  refine va_get (D := D) (ci := 1) (v := .ref (ad 20)) (C := RX1) (T := TX1) (N := 14) hx hb htg inG_X1 hown hK hP 3 rfl rfl 5 (by decide) (htg _ m_179) (fun _ h9 => h9) rfl d_O_arrange_17 ?_
  refine lv_iload_n hx hb d_O_arrange_20 rfl (lv_at hl 1 rfl) ?_
  refine lv_iconst (v := 1) hx hb d_O_arrange_21 (by decide) ?_
  refine lv_iadd hx hb d_O_arrange_22 ?_
  have hi := h.1
  have h := h.2
  refine va_iald hx hb hK hP 20 0 rfl rfl hi d_O_arrange_23 ?_
  refine kC_v (va_runV (As := [.int (σ1 20 a1.toNatClampNeg), .int (σ1 20 (a1 + 1).toNatClampNeg)]) (rest := []) ⟨hx, hb, hml, hown, htg⟩ (met_O_sort l D ad cA cB hap σ1 H.size (σ1 20 a1.toNatClampNeg) (σ1 20 (a1 + 1).toNatClampNeg) _ h) (cwV 2 htg (kG (kG_V m_512 m_514 m_19 m_56 (kG_self m_515))) rfl rfl rfl (by decide +kernel) ⟨Nat.le_of_ble_eq_true rfl, Nat.le_of_ble_eq_true rfl⟩) (kC_preV hK hF hP hS 3 rfl rfl _) rfl rfl hl.1 rfl (lv_room (Nat.le_of_ble_eq_true rfl)) d_O_arrange_24 ⟨Nat.le_of_ble_eq_true rfl, Nat.le_of_ble_eq_true rfl⟩) hS (fun σ2 H locs h hP hS => ?_)
  refine lv_aload_n hx hb d_O_arrange_27 rfl (lv_at hl 0 rfl) ?_
  refine lv_iload_n hx hb d_O_arrange_28 rfl (lv_at hl 1 rfl) ?_
  refine lv_aload_n hx hb d_O_arrange_29 rfl (lv_at hl 0 rfl) ?_
  refine va_get (D := D) (ci := 1) (v := .ref (ad 20)) (C := RX1) (T := TX1) (N := 14) hx hb htg inG_X1 hown hK hP 3 rfl rfl 5 (by decide) (htg _ m_179) (fun _ h9 => h9) rfl d_O_arrange_30 ?_
  refine lv_iload_n hx hb d_O_arrange_33 rfl (lv_at hl 1 rfl) ?_
  refine lv_iconst (v := 1) hx hb d_O_arrange_34 (by decide) ?_
  refine lv_iadd hx hb d_O_arrange_35 ?_
  have hi := h.1
  have h := h.2
  refine va_iald hx hb hK hP 20 0 rfl rfl hi d_O_arrange_36 ?_
  refine kC_v (va_runV (As := [.int a1, .int (σ2 20 (a1 + 1).toNatClampNeg)]) (rest := []) ⟨hx, hb, hml, hown, htg⟩ (met_O_numberPlaces l D ad cA cB hap σ2 H.size a1 (σ2 20 (a1 + 1).toNatClampNeg) _ h) (cwV 2 htg (kG (kG_V m_479 m_481 m_11 m_56 (kG_self m_482))) rfl rfl rfl (by decide +kernel) ⟨Nat.le_of_ble_eq_true rfl, Nat.le_of_ble_eq_true rfl⟩) (kC_preV hK hF hP hS 3 rfl rfl _) rfl rfl hl.1 rfl (lv_room (Nat.le_of_ble_eq_true rfl)) d_O_arrange_37 ⟨Nat.le_of_ble_eq_true rfl, Nat.le_of_ble_eq_true rfl⟩) hS (fun σ3 H locs h hP hS => ?_)
  exact W.vret hx hb hr (fun t ht hW => ⟨⟨σ3, rfl, h, kBC_of ht hP⟩, hS.F ht⟩) hS.2.2 d_O_arrange_40 hlocks
set_option maxHeartbeats 4000000 in
set_option maxRecDepth 100000 in
theorem met_O_weigh_21_22 (l : Launch) (D : va_G) (ad : Nat → Nat) (cA cB : ClassId) (hap : kapC ad) (σ : S0) (sz : Nat) (a1 a2 : Int32) (post : S0 → Prop) (h : Sp_O_weigh_21_22 a1 a2 σ post) : Met l y_O_weigh (Cond.code y_O_weigh c_O_weigh 6 none :: wsG) ({ frames := 0, cells := 0, slots := 0, locals := 0 } : Room) (kPcC D ad cA cB σ sz [.ref (ad 3), .int a1, .int a2, .ref (ad 21), .ref (ad 22)]) (va_Qv post (kBC D ad cA cB) (kAC ad sz)) 0 0 (kAC ad sz) := by
  refine Met.ofW (cc := c_O_weigh) (maxL := 6) (ret := none) (by decide) rfl ?_
  intro p e s m args below meth c s₁ B hml hv
  obtain ⟨rfl, hsz, hP, hK, hF⟩ := hv
  have hx := B.exec
  have hb := B.bytes
  have hr := B.returns
  have hts := atoms_spec (ws := (Cond.code y_O_weigh c_O_weigh 6 none :: wsG)) B.pre
  have htg : ∀ w ∈ wsG, w.before ([.ref (ad 3), .int a1, .int a2, .ref (ad 21), .ref (ad 22)] : List Value).toArray s = true := fun w h => hts w (List.mem_cons_of_mem _ h)
  have hown : s.vm.findClass RX1 = some m.cls := findClass_of_methodNamed B.named
  have hlocks := B.notSynchronized
  subst hsz
  have hD : ∀ σ, va_D (kAC ad s.heap.size) (wC ad cA cB σ) := fun σ => wC_D hap cA cB σ _
  have hS : va_S (kAC ad s.heap.size) s.heap s.heap [] := va_S.rf
  have hE := hF.1
  have hl := lv_entry ([.ref (ad 3), .int a1, .int a2, .ref (ad 21), .ref (ad 22)]) (n := 6) (Nat.le_of_ble_eq_true rfl)
  rw [lg_entry_eq]
  generalize (lg_sl ([.ref (ad 3), .int a1, .int a2, .ref (ad 21), .ref (ad 22)]) ++ List.replicate (6 - (lg_sl ([.ref (ad 3), .int a1, .int a2, .ref (ad 21), .ref (ad 22)])).length) Slot.unset).toArray = ls at hl ⊢
  have hl : lv_has ls 6 [(0, .ref (ad 3)), (1, .int a1), (2, .int a2), (3, .ref (ad 21)), (4, .ref (ad 22))] := hl
  unfold Sp_O_weigh_21_22 at h
  obtain ⟨G8, hG8⟩ : ∃ G : Int32 → Int32 → Int32 → S0 → Prop, G = fun (x1 x2 x5 : Int32) (σ : S0) => ∀ (H : Heap) (locs : List Loc) (ls : Array Slot), va_P D vwCl (wC ad cA cB σ) H → va_S (kAC ad s.heap.size) s.heap H locs → lv_has ls 6 [(0, .ref (ad 3)), (1, .int x1), (2, .int x2), (3, .ref (ad 21)), (4, .ref (ad 22)), (5, .int x5)] → W p l e (headSpec (Cond.code y_O_weigh c_O_weigh 6 none :: wsG) ({ frames := 0, cells := 0, slots := 0, locals := 0 } : Room)).room s m ([.ref (ad 3), .int a1, .int a2, .ref (ad 21), .ref (ad 22)] : List Value).toArray below meth c H locs 0 0 (MQ below (va_Qv post (kBC D ad cA cB) (kAC ad s.heap.size)) ([.ref (ad 3), .int a1, .int a2, .ref (ad 21), .ref (ad 22)] : List Value).toArray s 0 0 (kAC ad s.heap.size)) (F0 m 8 ls []) := ⟨_, rfl⟩
  obtain ⟨G61, hG61⟩ : ∃ G : Int32 → Int32 → Int32 → S0 → Prop, G = fun (x1 x2 x5 : Int32) (σ : S0) => ∀ (H : Heap) (locs : List Loc) (ls : Array Slot), va_P D vwCl (wC ad cA cB σ) H → va_S (kAC ad s.heap.size) s.heap H locs → lv_has ls 6 [(0, .ref (ad 3)), (1, .int x1), (2, .int x2), (3, .ref (ad 21)), (4, .ref (ad 22)), (5, .int x5)] → W p l e (headSpec (Cond.code y_O_weigh c_O_weigh 6 none :: wsG) ({ frames := 0, cells := 0, slots := 0, locals := 0 } : Room)).room s m ([.ref (ad 3), .int a1, .int a2, .ref (ad 21), .ref (ad 22)] : List Value).toArray below meth c H locs 0 0 (MQ below (va_Qv post (kBC D ad cA cB) (kAC ad s.heap.size)) ([.ref (ad 3), .int a1, .int a2, .ref (ad 21), .ref (ad 22)] : List Value).toArray s 0 0 (kAC ad s.heap.size)) (F0 m 61 ls []) := ⟨_, rfl⟩
  obtain ⟨G123, hG123⟩ : ∃ G : Int32 → Int32 → S0 → Prop, G = fun (x1 x5 : Int32) (σ : S0) => ∀ (H : Heap) (locs : List Loc) (ls : Array Slot), va_P D vwCl (wC ad cA cB σ) H → va_S (kAC ad s.heap.size) s.heap H locs → lv_has ls 6 [(0, .ref (ad 3)), (1, .int x1), (5, .int x5)] → W p l e (headSpec (Cond.code y_O_weigh c_O_weigh 6 none :: wsG) ({ frames := 0, cells := 0, slots := 0, locals := 0 } : Room)).room s m ([.ref (ad 3), .int a1, .int a2, .ref (ad 21), .ref (ad 22)] : List Value).toArray below meth c H locs 0 0 (MQ below (va_Qv post (kBC D ad cA cB) (kAC ad s.heap.size)) ([.ref (ad 3), .int a1, .int a2, .ref (ad 21), .ref (ad 22)] : List Value).toArray s 0 0 (kAC ad s.heap.size)) (F0 m 123 ls []) := ⟨_, rfl⟩
  have h := h G8 G61 G123
  have h := h (by
    intro x1 x2 x5 σ h
    rw [hG8]
    intro H locs ls hP hS hl
    refine lv_iload hx hb d_O_weigh_8 (lv_at hl 5 rfl) ?_
    refine lv_aload_n hx hb d_O_weigh_10 rfl (lv_at hl 0 rfl) ?_
    refine va_get (D := D) (ci := 1) (v := .ref (ad 20)) (C := RX1) (T := TX1) (N := 14) hx hb htg inG_X1 hown hK hP 3 rfl rfl 5 (by decide) (htg _ m_179) (fun _ h9 => h9) rfl d_O_weigh_11 ?_
    refine lv_iload_n hx hb d_O_weigh_14 rfl (lv_at hl 1 rfl) ?_
    refine lv_iconst (v := 1) hx hb d_O_weigh_15 (by decide) ?_
    refine lv_iadd hx hb d_O_weigh_16 ?_
    have hi := h.1
    have h := h.2
    refine va_iald hx hb hK hP 20 0 rfl rfl hi d_O_weigh_17 ?_
    refine lv_icmp_ge (tgt := 53) hx hb d_O_weigh_18 (by decide) (fun cn => ?_) (fun cn => ?_)
    · have h := h.1 cn
      refine lv_aload_n hx hb d_O_weigh_53 rfl (lv_at hl 0 rfl) ?_
      refine va_get (D := D) (ci := 1) (v := .ref (ad 23)) (C := RX1) (T := TX1) (N := 14) hx hb htg inG_X1 hown hK hP 3 rfl rfl 8 (by decide) (htg _ m_182) (fun _ h9 => h9) rfl d_O_weigh_54 ?_
      refine lv_iload_n hx hb d_O_weigh_57 rfl (lv_at hl 2 rfl) ?_
      have hi := h.1
      have h := h.2
      refine va_iald hx hb hK hP 23 0 rfl rfl hi d_O_weigh_58 ?_
      refine lv_topi (fun v2 ev2 => ?_)
      have h := h v2 ev2
      refine lv_istore (lv' := [(5, .int v2), (0, .ref (ad 3)), (1, .int x1), (2, .int x2), (3, .ref (ad 21)), (4, .ref (ad 22))]) hx hb d_O_weigh_59 hl (by decide) rfl (fun ls hl => ?_)
      rw [hG61] at h
      exact h _ _ _ hP hS (lv_sub hl [1, 2, 3, 4, 5, 0] rfl)
    · have h := h.2 cn
      refine lv_aload_n hx hb d_O_weigh_21 rfl (lv_at hl 0 rfl) ?_
      refine va_get (D := D) (ci := 1) (v := .ref (ad 24)) (C := RX1) (T := TX1) (N := 14) hx hb htg inG_X1 hown hK hP 3 rfl rfl 9 (by decide) (htg _ m_183) (fun _ h9 => h9) rfl d_O_weigh_22 ?_
      refine lv_aload_n hx hb d_O_weigh_25 rfl (lv_at hl 0 rfl) ?_
      refine va_get (D := D) (ci := 1) (v := .ref (ad 18)) (C := RX1) (T := TX1) (N := 14) hx hb htg inG_X1 hown hK hP 3 rfl rfl 3 (by decide) (htg _ m_177) (fun _ h9 => h9) rfl d_O_weigh_26 ?_
      refine lv_iload hx hb d_O_weigh_29 (lv_at hl 5 rfl) ?_
      have hi := h.1
      have h := h.2
      refine va_iald hx hb hK hP 18 0 rfl rfl hi d_O_weigh_31 ?_
      refine lv_iconst (v := 0) hx hb d_O_weigh_32 (by decide) ?_
      have hi := h.1
      have h := h.2
      refine va_iast hx hb hK hP (hD _) hS 24 0 rfl rfl hi d_O_weigh_33 (fun H locs hP _ hS => ?_)
      obtain ⟨σ3, eσ3⟩ : ∃ z : S0, z = st σ 24 (σ 18 x5.toNatClampNeg).toNatClampNeg 0 := ⟨_, rfl⟩
      have hP : va_P D vwCl (wC ad cA cB σ3) H := by rw [eσ3]; exact hP
      have h := h σ3 eσ3
      refine lv_aload_n hx hb d_O_weigh_34 rfl (lv_at hl 0 rfl) ?_
      refine va_get (D := D) (ci := 1) (v := .ref (ad 25)) (C := RX1) (T := TX1) (N := 14) hx hb htg inG_X1 hown hK hP 3 rfl rfl 10 (by decide) (htg _ m_184) (fun _ h9 => h9) rfl d_O_weigh_35 ?_
      refine lv_aload_n hx hb d_O_weigh_38 rfl (lv_at hl 0 rfl) ?_
      refine va_get (D := D) (ci := 1) (v := .ref (ad 18)) (C := RX1) (T := TX1) (N := 14) hx hb htg inG_X1 hown hK hP 3 rfl rfl 3 (by decide) (htg _ m_177) (fun _ h9 => h9) rfl d_O_weigh_39 ?_
      refine lv_iload hx hb d_O_weigh_42 (lv_at hl 5 rfl) ?_
      have hi := h.1
      have h := h.2
      refine va_iald hx hb hK hP 18 0 rfl rfl hi d_O_weigh_44 ?_
      refine lv_iconst (v := 0) hx hb d_O_weigh_45 (by decide) ?_
      have hi := h.1
      have h := h.2
      refine va_iast hx hb hK hP (hD _) hS 25 0 rfl rfl hi d_O_weigh_46 (fun H locs hP _ hS => ?_)
      obtain ⟨σ4, eσ4⟩ : ∃ z : S0, z = st σ3 25 (σ3 18 x5.toNatClampNeg).toNatClampNeg 0 := ⟨_, rfl⟩
      have hP : va_P D vwCl (wC ad cA cB σ4) H := by rw [eσ4]; exact hP
      have h := h σ4 eσ4
      refine lv_iinc (v := (x5 + 1)) (lv' := [(5, .int (x5 + 1)), (0, .ref (ad 3)), (1, .int x1), (2, .int x2), (3, .ref (ad 21)), (4, .ref (ad 22))]) hx hb d_O_weigh_47 hl (k := 5) rfl rfl (by decide) rfl (fun ls hl => ?_)
      refine lv_goto (tgt := 8) hx hb d_O_weigh_50 (by decide) ?_
      rw [hG8] at h
      exact h _ _ _ hP hS (lv_sub hl [1, 2, 3, 4, 5, 0] rfl))
  have h := h (by
    intro x1 x2 x5 σ h
    rw [hG61]
    intro H locs ls hP hS hl
    refine lv_iload hx hb d_O_weigh_61 (lv_at hl 5 rfl) ?_
    refine lv_aload_n hx hb d_O_weigh_63 rfl (lv_at hl 0 rfl) ?_
    refine va_get (D := D) (ci := 1) (v := .ref (ad 23)) (C := RX1) (T := TX1) (N := 14) hx hb htg inG_X1 hown hK hP 3 rfl rfl 8 (by decide) (htg _ m_182) (fun _ h9 => h9) rfl d_O_weigh_64 ?_
    refine lv_iload_n hx hb d_O_weigh_67 rfl (lv_at hl 2 rfl) ?_
    refine lv_iconst (v := 1) hx hb d_O_weigh_68 (by decide) ?_
    refine lv_iadd hx hb d_O_weigh_69 ?_
    have hi := h.1
    have h := h.2
    refine va_iald hx hb hK hP 23 0 rfl rfl hi d_O_weigh_70 ?_
    refine lv_icmp_ge (tgt := 115) hx hb d_O_weigh_71 (by decide) (fun cn => ?_) (fun cn => ?_)
    · have h := h.1 cn
      refine lv_aload_n hx hb d_O_weigh_115 rfl (lv_at hl 0 rfl) ?_
      refine va_get (D := D) (ci := 1) (v := .ref (ad 20)) (C := RX1) (T := TX1) (N := 14) hx hb htg inG_X1 hown hK hP 3 rfl rfl 5 (by decide) (htg _ m_179) (fun _ h9 => h9) rfl d_O_weigh_116 ?_
      refine lv_iload_n hx hb d_O_weigh_119 rfl (lv_at hl 1 rfl) ?_
      have hi := h.1
      have h := h.2
      refine va_iald hx hb hK hP 20 0 rfl rfl hi d_O_weigh_120 ?_
      refine lv_topi (fun v5 ev5 => ?_)
      have h := h v5 ev5
      refine lv_istore (lv' := [(5, .int v5), (0, .ref (ad 3)), (1, .int x1), (2, .int x2), (3, .ref (ad 21)), (4, .ref (ad 22))]) hx hb d_O_weigh_121 hl (by decide) rfl (fun ls hl => ?_)
      rw [hG123] at h
      exact h _ _ _ hP hS (lv_sub hl [1, 2, 0] rfl)
    · have h := h.2 cn
      refine lv_aload_n hx hb d_O_weigh_74 rfl (lv_at hl 0 rfl) ?_
      refine va_get (D := D) (ci := 1) (v := .ref (ad 24)) (C := RX1) (T := TX1) (N := 14) hx hb htg inG_X1 hown hK hP 3 rfl rfl 9 (by decide) (htg _ m_183) (fun _ h9 => h9) rfl d_O_weigh_75 ?_
      refine lv_aload_n hx hb d_O_weigh_78 rfl (lv_at hl 3 rfl) ?_
      refine lv_iload hx hb d_O_weigh_79 (lv_at hl 5 rfl) ?_
      have hi := h.1
      have h := h.2
      refine va_iald hx hb hK hP 21 0 rfl rfl hi d_O_weigh_81 ?_
      refine lv_dup2_11 hx hb d_O_weigh_82 rfl rfl ?_
      have hi := h.1
      have h := h.2
      refine va_iald hx hb hK hP 24 0 rfl rfl hi d_O_weigh_83 ?_
      refine lv_aload_n hx hb d_O_weigh_84 rfl (lv_at hl 0 rfl) ?_
      refine va_get (D := D) (ci := 1) (v := .ref (ad 16)) (C := RX1) (T := TX1) (N := 14) hx hb htg inG_X1 hown hK hP 3 rfl rfl 0 (by decide) (htg _ m_171) (fun _ h9 => h9) rfl d_O_weigh_85 ?_
      refine lv_aload hx hb d_O_weigh_88 (lv_at hl 4 rfl) ?_
      refine lv_iload hx hb d_O_weigh_90 (lv_at hl 5 rfl) ?_
      have hi := h.1
      have h := h.2
      refine va_iald hx hb hK hP 22 0 rfl rfl hi d_O_weigh_92 ?_
      have hi := h.1
      have h := h.2
      refine va_iald hx hb hK hP 16 0 rfl rfl hi d_O_weigh_93 ?_
      refine lv_iadd hx hb d_O_weigh_94 ?_
      have hi := h.1
      have h := h.2
      refine va_iast hx hb hK hP (hD _) hS 24 0 rfl rfl hi d_O_weigh_95 (fun H locs hP _ hS => ?_)
      obtain ⟨σ6, eσ6⟩ : ∃ z : S0, z = st σ 24 (σ 21 x5.toNatClampNeg).toNatClampNeg ((σ 24 (σ 21 x5.toNatClampNeg).toNatClampNeg) + (σ 16 (σ 22 x5.toNatClampNeg).toNatClampNeg)) := ⟨_, rfl⟩
      have hP : va_P D vwCl (wC ad cA cB σ6) H := by rw [eσ6]; exact hP
      have h := h σ6 eσ6
      refine lv_aload_n hx hb d_O_weigh_96 rfl (lv_at hl 0 rfl) ?_
      refine va_get (D := D) (ci := 1) (v := .ref (ad 25)) (C := RX1) (T := TX1) (N := 14) hx hb htg inG_X1 hown hK hP 3 rfl rfl 10 (by decide) (htg _ m_184) (fun _ h9 => h9) rfl d_O_weigh_97 ?_
      refine lv_aload_n hx hb d_O_weigh_100 rfl (lv_at hl 3 rfl) ?_
      refine lv_iload hx hb d_O_weigh_101 (lv_at hl 5 rfl) ?_
      have hi := h.1
      have h := h.2
      refine va_iald hx hb hK hP 21 0 rfl rfl hi d_O_weigh_103 ?_
      refine lv_dup2_11 hx hb d_O_weigh_104 rfl rfl ?_
      have hi := h.1
      have h := h.2
      refine va_iald hx hb hK hP 25 0 rfl rfl hi d_O_weigh_105 ?_
      refine lv_iconst (v := 1) hx hb d_O_weigh_106 (by decide) ?_
      refine lv_iadd hx hb d_O_weigh_107 ?_
      have hi := h.1
      have h := h.2
      refine va_iast hx hb hK hP (hD _) hS 25 0 rfl rfl hi d_O_weigh_108 (fun H locs hP _ hS => ?_)
      obtain ⟨σ7, eσ7⟩ : ∃ z : S0, z = st σ6 25 (σ6 21 x5.toNatClampNeg).toNatClampNeg ((σ6 25 (σ6 21 x5.toNatClampNeg).toNatClampNeg) + 1) := ⟨_, rfl⟩
      have hP : va_P D vwCl (wC ad cA cB σ7) H := by rw [eσ7]; exact hP
      have h := h σ7 eσ7
      refine lv_iinc (v := (x5 + 1)) (lv' := [(5, .int (x5 + 1)), (0, .ref (ad 3)), (1, .int x1), (2, .int x2), (3, .ref (ad 21)), (4, .ref (ad 22))]) hx hb d_O_weigh_109 hl (k := 5) rfl rfl (by decide) rfl (fun ls hl => ?_)
      refine lv_goto (tgt := 61) hx hb d_O_weigh_112 (by decide) ?_
      rw [hG61] at h
      exact h _ _ _ hP hS (lv_sub hl [1, 2, 3, 4, 5, 0] rfl))
  have h := h (by
    intro x1 x5 σ h
    rw [hG123]
    intro H locs ls hP hS hl
    refine lv_iload hx hb d_O_weigh_123 (lv_at hl 2 rfl) ?_
    refine lv_aload_n hx hb d_O_weigh_125 rfl (lv_at hl 0 rfl) ?_
    refine va_get (D := D) (ci := 1) (v := .ref (ad 20)) (C := RX1) (T := TX1) (N := 14) hx hb htg inG_X1 hown hK hP 3 rfl rfl 5 (by decide) (htg _ m_179) (fun _ h9 => h9) rfl d_O_weigh_126 ?_
    refine lv_iload_n hx hb d_O_weigh_129 rfl (lv_at hl 1 rfl) ?_
    refine lv_iconst (v := 1) hx hb d_O_weigh_130 (by decide) ?_
    refine lv_iadd hx hb d_O_weigh_131 ?_
    have hi := h.1
    have h := h.2
    refine va_iald hx hb hK hP 20 0 rfl rfl hi d_O_weigh_132 ?_
    refine lv_icmp_ge (tgt := 194) hx hb d_O_weigh_133 (by decide) (fun cn => ?_) (fun cn => ?_)
    · have h := h.1 cn
      exact W.vret hx hb hr (fun t ht hW => ⟨⟨σ, rfl, h, kBC_of ht hP⟩, hS.F ht⟩) hS.2.2 d_O_weigh_194 hlocks
    · have h := h.2 cn
      refine lv_aload_n hx hb d_O_weigh_136 rfl (lv_at hl 0 rfl) ?_
      refine va_get (D := D) (ci := 1) (v := .ref (ad 25)) (C := RX1) (T := TX1) (N := 14) hx hb htg inG_X1 hown hK hP 3 rfl rfl 10 (by decide) (htg _ m_184) (fun _ h9 => h9) rfl d_O_weigh_137 ?_
      refine lv_aload_n hx hb d_O_weigh_140 rfl (lv_at hl 0 rfl) ?_
      refine va_get (D := D) (ci := 1) (v := .ref (ad 18)) (C := RX1) (T := TX1) (N := 14) hx hb htg inG_X1 hown hK hP 3 rfl rfl 3 (by decide) (htg _ m_177) (fun _ h9 => h9) rfl d_O_weigh_141 ?_
      refine lv_iload hx hb d_O_weigh_144 (lv_at hl 2 rfl) ?_
      have hi := h.1
      have h := h.2
      refine va_iald hx hb hK hP 18 0 rfl rfl hi d_O_weigh_146 ?_
      have hi := h.1
      have h := h.2
      refine va_iald hx hb hK hP 25 0 rfl rfl hi d_O_weigh_147 ?_
      refine lv_if_ne (tgt := 188) hx hb d_O_weigh_148 (by decide) (fun cn => ?_) (fun cn => ?_)
      · have h := h.1 cn
        refine lv_iinc (v := (x5 + 1)) (lv' := [(5, .int (x5 + 1)), (0, .ref (ad 3)), (1, .int x1)]) hx hb d_O_weigh_188 hl (k := 2) rfl rfl (by decide) rfl (fun ls hl => ?_)
        refine lv_goto (tgt := 123) hx hb d_O_weigh_191 (by decide) ?_
        rw [hG123] at h
        exact h _ _ _ hP hS (lv_sub hl [1, 2, 0] rfl)
      · have h := h.2 cn
        refine lv_aload_n hx hb d_O_weigh_151 rfl (lv_at hl 0 rfl) ?_
        refine va_get (D := D) (ci := 1) (v := .ref (ad 24)) (C := RX1) (T := TX1) (N := 14) hx hb htg inG_X1 hown hK hP 3 rfl rfl 9 (by decide) (htg _ m_183) (fun _ h9 => h9) rfl d_O_weigh_152 ?_
        refine lv_aload_n hx hb d_O_weigh_155 rfl (lv_at hl 0 rfl) ?_
        refine va_get (D := D) (ci := 1) (v := .ref (ad 18)) (C := RX1) (T := TX1) (N := 14) hx hb htg inG_X1 hown hK hP 3 rfl rfl 3 (by decide) (htg _ m_177) (fun _ h9 => h9) rfl d_O_weigh_156 ?_
        refine lv_iload hx hb d_O_weigh_159 (lv_at hl 2 rfl) ?_
        have hi := h.1
        have h := h.2
        refine va_iald hx hb hK hP 18 0 rfl rfl hi d_O_weigh_161 ?_
        refine lv_aload_n hx hb d_O_weigh_162 rfl (lv_at hl 0 rfl) ?_
        refine va_get (D := D) (ci := 1) (v := .ref (ad 16)) (C := RX1) (T := TX1) (N := 14) hx hb htg inG_X1 hown hK hP 3 rfl rfl 0 (by decide) (htg _ m_171) (fun _ h9 => h9) rfl d_O_weigh_163 ?_
        refine lv_aload_n hx hb d_O_weigh_166 rfl (lv_at hl 0 rfl) ?_
        refine va_get (D := D) (ci := 1) (v := .ref (ad 18)) (C := RX1) (T := TX1) (N := 14) hx hb htg inG_X1 hown hK hP 3 rfl rfl 3 (by decide) (htg _ m_177) (fun _ h9 => h9) rfl d_O_weigh_167 ?_
        refine lv_iload hx hb d_O_weigh_170 (lv_at hl 2 rfl) ?_
        have hi := h.1
        have h := h.2
        refine va_iald hx hb hK hP 18 0 rfl rfl hi d_O_weigh_172 ?_
        have hi := h.1
        have h := h.2
        refine va_iald hx hb hK hP 16 0 rfl rfl hi d_O_weigh_173 ?_
        have hi := h.1
        have h := h.2
        refine va_iast hx hb hK hP (hD _) hS 24 0 rfl rfl hi d_O_weigh_174 (fun H locs hP _ hS => ?_)
        obtain ⟨σ8, eσ8⟩ : ∃ z : S0, z = st σ 24 (σ 18 x5.toNatClampNeg).toNatClampNeg (σ 16 (σ 18 x5.toNatClampNeg).toNatClampNeg) := ⟨_, rfl⟩
        have hP : va_P D vwCl (wC ad cA cB σ8) H := by rw [eσ8]; exact hP
        have h := h σ8 eσ8
        refine lv_aload_n hx hb d_O_weigh_175 rfl (lv_at hl 0 rfl) ?_
        refine va_get (D := D) (ci := 1) (v := .ref (ad 25)) (C := RX1) (T := TX1) (N := 14) hx hb htg inG_X1 hown hK hP 3 rfl rfl 10 (by decide) (htg _ m_184) (fun _ h9 => h9) rfl d_O_weigh_176 ?_
        refine lv_aload_n hx hb d_O_weigh_179 rfl (lv_at hl 0 rfl) ?_
        refine va_get (D := D) (ci := 1) (v := .ref (ad 18)) (C := RX1) (T := TX1) (N := 14) hx hb htg inG_X1 hown hK hP 3 rfl rfl 3 (by decide) (htg _ m_177) (fun _ h9 => h9) rfl d_O_weigh_180 ?_
        refine lv_iload hx hb d_O_weigh_183 (lv_at hl 2 rfl) ?_
        have hi := h.1
        have h := h.2
        refine va_iald hx hb hK hP 18 0 rfl rfl hi d_O_weigh_185 ?_
        refine lv_iconst (v := 1) hx hb d_O_weigh_186 (by decide) ?_
        have hi := h.1
        have h := h.2
        refine va_iast hx hb hK hP (hD _) hS 25 0 rfl rfl hi d_O_weigh_187 (fun H locs hP _ hS => ?_)
        obtain ⟨σ9, eσ9⟩ : ∃ z : S0, z = st σ8 25 (σ8 18 x5.toNatClampNeg).toNatClampNeg 1 := ⟨_, rfl⟩
        have hP : va_P D vwCl (wC ad cA cB σ9) H := by rw [eσ9]; exact hP
        have h := h σ9 eσ9
        refine lv_iinc (v := (x5 + 1)) (lv' := [(5, .int (x5 + 1)), (0, .ref (ad 3)), (1, .int x1)]) hx hb d_O_weigh_188 hl (k := 2) rfl rfl (by decide) rfl (fun ls hl => ?_)
        refine lv_goto (tgt := 123) hx hb d_O_weigh_191 (by decide) ?_
        rw [hG123] at h
        exact h _ _ _ hP hS (lv_sub hl [1, 2, 0] rfl))
  obtain ⟨H, eH⟩ : ∃ z, z = s.heap := ⟨_, rfl⟩
  have hP : va_P D vwCl (wC ad cA cB σ) H := by rw [eH]; exact hP
  have hS : va_S (kAC ad s.heap.size) s.heap H [] := by rw [eH]; exact hS
  show W p l e (headSpec (Cond.code y_O_weigh c_O_weigh 6 none :: wsG) ({ frames := 0, cells := 0, slots := 0, locals := 0 } : Room)).room s m ([.ref (ad 3), .int a1, .int a2, .ref (ad 21), .ref (ad 22)] : List Value).toArray below meth c s.heap [] 0 0 (MQ below (va_Qv post (kBC D ad cA cB) (kAC ad s.heap.size)) ([.ref (ad 3), .int a1, .int a2, .ref (ad 21), .ref (ad 22)] : List Value).toArray s 0 0 (kAC ad s.heap.size)) (F0 m 0 ls [])
  suffices k : W p l e (headSpec (Cond.code y_O_weigh c_O_weigh 6 none :: wsG) ({ frames := 0, cells := 0, slots := 0, locals := 0 } : Room)).room s m ([.ref (ad 3), .int a1, .int a2, .ref (ad 21), .ref (ad 22)] : List Value).toArray below meth c H [] 0 0 (MQ below (va_Qv post (kBC D ad cA cB) (kAC ad s.heap.size)) ([.ref (ad 3), .int a1, .int a2, .ref (ad 21), .ref (ad 22)] : List Value).toArray s 0 0 (kAC ad s.heap.size)) (F0 m 0 ls []) by rw [eH] at k; exact k
  refine lv_aload_n hx hb d_O_weigh_0 rfl (lv_at hl 0 rfl) ?_
  refine va_get (D := D) (ci := 1) (v := .ref (ad 20)) (C := RX1) (T := TX1) (N := 14) hx hb htg inG_X1 hown hK hP 3 rfl rfl 5 (by decide) (htg _ m_179) (fun _ h9 => h9) rfl d_O_weigh_1 ?_
  refine lv_iload_n hx hb d_O_weigh_4 rfl (lv_at hl 1 rfl) ?_
  have hi := h.1
  have h := h.2
  refine va_iald hx hb hK hP 20 0 rfl rfl hi d_O_weigh_5 ?_
  refine lv_topi (fun v1 ev1 => ?_)
  have h := h v1 ev1
  refine lv_istore (lv' := [(5, .int v1), (0, .ref (ad 3)), (1, .int a1), (2, .int a2), (3, .ref (ad 21)), (4, .ref (ad 22))]) hx hb d_O_weigh_6 hl (by decide) rfl (fun ls hl => ?_)
  rw [hG8] at h
  exact h _ _ _ hP hS (lv_sub hl [1, 2, 3, 4, 5, 0] rfl)
set_option maxHeartbeats 4000000 in
set_option maxRecDepth 100000 in
theorem met_O_arrange_21_22 (l : Launch) (D : va_G) (ad : Nat → Nat) (cA cB : ClassId) (hap : kapC ad) (σ : S0) (sz : Nat) (a1 a2 : Int32) (post : S0 → Prop) (h : Sp_O_arrange_21_22 a1 a2 σ post) : Met l y_O_arrange (Cond.code y_O_arrange c_O_arrange 5 none :: wsG) ({ frames := 2, cells := 0, slots := 0, locals := 47 } : Room) (kPcC D ad cA cB σ sz [.ref (ad 3), .int a1, .int a2, .ref (ad 21), .ref (ad 22)]) (va_Qv post (kBC D ad cA cB) (kAC ad sz)) 0 0 (kAC ad sz) := by
  refine Met.ofW (cc := c_O_arrange) (maxL := 5) (ret := none) (by decide) rfl ?_
  intro p e s m args below meth c s₁ B hml hv
  obtain ⟨rfl, hsz, hP, hK, hF⟩ := hv
  have hx := B.exec
  have hb := B.bytes
  have hr := B.returns
  have hts := atoms_spec (ws := (Cond.code y_O_arrange c_O_arrange 5 none :: wsG)) B.pre
  have htg : ∀ w ∈ wsG, w.before ([.ref (ad 3), .int a1, .int a2, .ref (ad 21), .ref (ad 22)] : List Value).toArray s = true := fun w h => hts w (List.mem_cons_of_mem _ h)
  have hown : s.vm.findClass RX1 = some m.cls := findClass_of_methodNamed B.named
  have hlocks := B.notSynchronized
  subst hsz
  have hD : ∀ σ, va_D (kAC ad s.heap.size) (wC ad cA cB σ) := fun σ => wC_D hap cA cB σ _
  have hS : va_S (kAC ad s.heap.size) s.heap s.heap [] := va_S.rf
  have hE := hF.1
  have hl := lv_entry ([.ref (ad 3), .int a1, .int a2, .ref (ad 21), .ref (ad 22)]) (n := 5) (Nat.le_of_ble_eq_true rfl)
  rw [lg_entry_eq]
  generalize (lg_sl ([.ref (ad 3), .int a1, .int a2, .ref (ad 21), .ref (ad 22)]) ++ List.replicate (5 - (lg_sl ([.ref (ad 3), .int a1, .int a2, .ref (ad 21), .ref (ad 22)])).length) Slot.unset).toArray = ls at hl ⊢
  have hl : lv_has ls 5 [(0, .ref (ad 3)), (1, .int a1), (2, .int a2), (3, .ref (ad 21)), (4, .ref (ad 22))] := hl
  unfold Sp_O_arrange_21_22 at h
  obtain ⟨H, eH⟩ : ∃ z, z = s.heap := ⟨_, rfl⟩
  have hP : va_P D vwCl (wC ad cA cB σ) H := by rw [eH]; exact hP
  have hS : va_S (kAC ad s.heap.size) s.heap H [] := by rw [eH]; exact hS
  show W p l e (headSpec (Cond.code y_O_arrange c_O_arrange 5 none :: wsG) ({ frames := 2, cells := 0, slots := 0, locals := 47 } : Room)).room s m ([.ref (ad 3), .int a1, .int a2, .ref (ad 21), .ref (ad 22)] : List Value).toArray below meth c s.heap [] 0 0 (MQ below (va_Qv post (kBC D ad cA cB) (kAC ad s.heap.size)) ([.ref (ad 3), .int a1, .int a2, .ref (ad 21), .ref (ad 22)] : List Value).toArray s 0 0 (kAC ad s.heap.size)) (F0 m 0 ls [])
  suffices k : W p l e (headSpec (Cond.code y_O_arrange c_O_arrange 5 none :: wsG) ({ frames := 2, cells := 0, slots := 0, locals := 47 } : Room)).room s m ([.ref (ad 3), .int a1, .int a2, .ref (ad 21), .ref (ad 22)] : List Value).toArray below meth c H [] 0 0 (MQ below (va_Qv post (kBC D ad cA cB) (kAC ad s.heap.size)) ([.ref (ad 3), .int a1, .int a2, .ref (ad 21), .ref (ad 22)] : List Value).toArray s 0 0 (kAC ad s.heap.size)) (F0 m 0 ls []) by rw [eH] at k; exact k
  refine lv_aload_n hx hb d_O_arrange_0 rfl (lv_at hl 0 rfl) ?_
  refine lv_iload_n hx hb d_O_arrange_1 rfl (lv_at hl 1 rfl) ?_
  refine lv_iload_n hx hb d_O_arrange_2 rfl (lv_at hl 2 rfl) ?_
  refine lv_aload_n hx hb d_O_arrange_3 rfl (lv_at hl 3 rfl) ?_
  refine lv_aload hx hb d_O_arrange_4 (lv_at hl 4 rfl) ?_
  refine kC_v (va_runV (As := [.int a1, .int a2, .ref (ad 21), .ref (ad 22)]) (rest := []) ⟨hx, hb, hml, hown, htg⟩ (met_O_weigh_21_22 l D ad cA cB hap σ H.size a1 a2 _ h) (cwV 4 htg (kG (kG_V m_508 m_510 m_18 m_56 (kG_self m_511))) rfl rfl rfl (by decide +kernel) ⟨Nat.le_of_ble_eq_true rfl, Nat.le_of_ble_eq_true rfl⟩) (kC_preV hK hF hP hS 3 rfl rfl _) rfl rfl hl.1 rfl (lv_room (Nat.le_of_ble_eq_true rfl)) d_O_arrange_6 ⟨Nat.le_of_ble_eq_true rfl, Nat.le_of_ble_eq_true rfl⟩) hS (fun σ1 H locs h hP hS => ?_)
  refine lv_aload_n hx hb d_O_arrange_9 rfl (lv_at hl 0 rfl) ?_
  refine lv_aload_n hx hb d_O_arrange_10 rfl (lv_at hl 0 rfl) ?_
  refine va_get (D := D) (ci := 1) (v := .ref (ad 20)) (C := RX1) (T := TX1) (N := 14) hx hb htg inG_X1 hown hK hP 3 rfl rfl 5 (by decide) (htg _ m_179) (fun _ h9 => h9) rfl d_O_arrange_11 ?_
  refine lv_iload_n hx hb d_O_arrange_14 rfl (lv_at hl 1 rfl) ?_
  have hi := h.1
  have h := h.2
  refine va_iald hx hb hK hP 20 0 rfl rfl hi d_O_arrange_15 ?_
  refine lv_aload_n hx hb d_O_arrange_16 rfl (lv_at hl 0 rfl) ?_
  refine va_get (D := D) (ci := 1) (v := .ref (ad 20)) (C := RX1) (T := TX1) (N := 14) hx hb htg inG_X1 hown hK hP 3 rfl rfl 5 (by decide) (htg _ m_179) (fun _ h9 => h9) rfl d_O_arrange_17 ?_
  refine lv_iload_n hx hb d_O_arrange_20 rfl (lv_at hl 1 rfl) ?_
  refine lv_iconst (v := 1) hx hb d_O_arrange_21 (by decide) ?_
  refine lv_iadd hx hb d_O_arrange_22 ?_
  have hi := h.1
  have h := h.2
  refine va_iald hx hb hK hP 20 0 rfl rfl hi d_O_arrange_23 ?_
  refine kC_v (va_runV (As := [.int (σ1 20 a1.toNatClampNeg), .int (σ1 20 (a1 + 1).toNatClampNeg)]) (rest := []) ⟨hx, hb, hml, hown, htg⟩ (met_O_sort l D ad cA cB hap σ1 H.size (σ1 20 a1.toNatClampNeg) (σ1 20 (a1 + 1).toNatClampNeg) _ h) (cwV 2 htg (kG (kG_V m_512 m_514 m_19 m_56 (kG_self m_515))) rfl rfl rfl (by decide +kernel) ⟨Nat.le_of_ble_eq_true rfl, Nat.le_of_ble_eq_true rfl⟩) (kC_preV hK hF hP hS 3 rfl rfl _) rfl rfl hl.1 rfl (lv_room (Nat.le_of_ble_eq_true rfl)) d_O_arrange_24 ⟨Nat.le_of_ble_eq_true rfl, Nat.le_of_ble_eq_true rfl⟩) hS (fun σ2 H locs h hP hS => ?_)
  refine lv_aload_n hx hb d_O_arrange_27 rfl (lv_at hl 0 rfl) ?_
  refine lv_iload_n hx hb d_O_arrange_28 rfl (lv_at hl 1 rfl) ?_
  refine lv_aload_n hx hb d_O_arrange_29 rfl (lv_at hl 0 rfl) ?_
  refine va_get (D := D) (ci := 1) (v := .ref (ad 20)) (C := RX1) (T := TX1) (N := 14) hx hb htg inG_X1 hown hK hP 3 rfl rfl 5 (by decide) (htg _ m_179) (fun _ h9 => h9) rfl d_O_arrange_30 ?_
  refine lv_iload_n hx hb d_O_arrange_33 rfl (lv_at hl 1 rfl) ?_
  refine lv_iconst (v := 1) hx hb d_O_arrange_34 (by decide) ?_
  refine lv_iadd hx hb d_O_arrange_35 ?_
  have hi := h.1
  have h := h.2
  refine va_iald hx hb hK hP 20 0 rfl rfl hi d_O_arrange_36 ?_
  refine kC_v (va_runV (As := [.int a1, .int (σ2 20 (a1 + 1).toNatClampNeg)]) (rest := []) ⟨hx, hb, hml, hown, htg⟩ (met_O_numberPlaces l D ad cA cB hap σ2 H.size a1 (σ2 20 (a1 + 1).toNatClampNeg) _ h) (cwV 2 htg (kG (kG_V m_479 m_481 m_11 m_56 (kG_self m_482))) rfl rfl rfl (by decide +kernel) ⟨Nat.le_of_ble_eq_true rfl, Nat.le_of_ble_eq_true rfl⟩) (kC_preV hK hF hP hS 3 rfl rfl _) rfl rfl hl.1 rfl (lv_room (Nat.le_of_ble_eq_true rfl)) d_O_arrange_37 ⟨Nat.le_of_ble_eq_true rfl, Nat.le_of_ble_eq_true rfl⟩) hS (fun σ3 H locs h hP hS => ?_)
  exact W.vret hx hb hr (fun t ht hW => ⟨⟨σ3, rfl, h, kBC_of ht hP⟩, hS.F ht⟩) hS.2.2 d_O_arrange_40 hlocks
set_option maxHeartbeats 4000000 in
set_option maxRecDepth 100000 in
theorem met_O_runRound (l : Launch) (D : va_G) (ad : Nat → Nat) (cA cB : ClassId) (hap : kapC ad) (σ : S0) (sz : Nat) (post : S0 → Prop) (h : Sp_O_runRound  σ post) : Met l y_O_runRound (Cond.code y_O_runRound c_O_runRound 2 none :: wsG) ({ frames := 3, cells := 0, slots := 0, locals := 71 } : Room) (kPcC D ad cA cB σ sz [.ref (ad 3)]) (va_Qv post (kBC D ad cA cB) (kAC ad sz)) 0 0 (kAC ad sz) := by
  refine Met.ofW (cc := c_O_runRound) (maxL := 2) (ret := none) (by decide) rfl ?_
  intro p e s m args below meth c s₁ B hml hv
  obtain ⟨rfl, hsz, hP, hK, hF⟩ := hv
  have hx := B.exec
  have hb := B.bytes
  have hr := B.returns
  have hts := atoms_spec (ws := (Cond.code y_O_runRound c_O_runRound 2 none :: wsG)) B.pre
  have htg : ∀ w ∈ wsG, w.before ([.ref (ad 3)] : List Value).toArray s = true := fun w h => hts w (List.mem_cons_of_mem _ h)
  have hown : s.vm.findClass RX1 = some m.cls := findClass_of_methodNamed B.named
  have hlocks := B.notSynchronized
  subst hsz
  have hD : ∀ σ, va_D (kAC ad s.heap.size) (wC ad cA cB σ) := fun σ => wC_D hap cA cB σ _
  have hS : va_S (kAC ad s.heap.size) s.heap s.heap [] := va_S.rf
  have hE := hF.1
  have hl := lv_entry ([.ref (ad 3)]) (n := 2) (Nat.le_of_ble_eq_true rfl)
  rw [lg_entry_eq]
  generalize (lg_sl ([.ref (ad 3)]) ++ List.replicate (2 - (lg_sl ([.ref (ad 3)])).length) Slot.unset).toArray = ls at hl ⊢
  have hl : lv_has ls 2 [(0, .ref (ad 3))] := hl
  unfold Sp_O_runRound at h
  obtain ⟨G2, hG2⟩ : ∃ G : Int32 → S0 → Prop, G = fun (x1 : Int32) (σ : S0) => ∀ (H : Heap) (locs : List Loc) (ls : Array Slot), va_P D vwCl (wC ad cA cB σ) H → va_S (kAC ad s.heap.size) s.heap H locs → lv_has ls 2 [(0, .ref (ad 3)), (1, .int x1)] → W p l e (headSpec (Cond.code y_O_runRound c_O_runRound 2 none :: wsG) ({ frames := 3, cells := 0, slots := 0, locals := 71 } : Room)).room s m ([.ref (ad 3)] : List Value).toArray below meth c H locs 0 0 (MQ below (va_Qv post (kBC D ad cA cB) (kAC ad s.heap.size)) ([.ref (ad 3)] : List Value).toArray s 0 0 (kAC ad s.heap.size)) (F0 m 2 ls []) := ⟨_, rfl⟩
  obtain ⟨G39, hG39⟩ : ∃ G : Int32 → S0 → Prop, G = fun (x1 : Int32) (σ : S0) => ∀ (H : Heap) (locs : List Loc) (ls : Array Slot), va_P D vwCl (wC ad cA cB σ) H → va_S (kAC ad s.heap.size) s.heap H locs → lv_has ls 2 [(0, .ref (ad 3)), (1, .int x1)] → W p l e (headSpec (Cond.code y_O_runRound c_O_runRound 2 none :: wsG) ({ frames := 3, cells := 0, slots := 0, locals := 71 } : Room)).room s m ([.ref (ad 3)] : List Value).toArray below meth c H locs 0 0 (MQ below (va_Qv post (kBC D ad cA cB) (kAC ad s.heap.size)) ([.ref (ad 3)] : List Value).toArray s 0 0 (kAC ad s.heap.size)) (F0 m 39 ls []) := ⟨_, rfl⟩
  have h := h G2 G39
  have h := h (by
    intro x1 σ h
    rw [hG2]
    intro H locs ls hP hS hl
    refine lv_iload_n hx hb d_O_runRound_2 rfl (lv_at hl 1 rfl) ?_
    refine lv_aload_n hx hb d_O_runRound_3 rfl (lv_at hl 0 rfl) ?_
    refine va_get (D := D) (ci := 1) (v := .int (σ 0 9)) (C := RX1) (T := TX1) (N := 14) hx hb htg inG_X1 hown hK hP 3 rfl rfl 11 (by decide) (htg _ m_185) (fun _ h9 => h9) rfl d_O_runRound_4 ?_
    refine lv_icmp_ge (tgt := 32) hx hb d_O_runRound_7 (by decide) (fun cn => ?_) (fun cn => ?_)
    · have h := h.1 cn
      refine lv_aload_n hx hb d_O_runRound_32 rfl (lv_at hl 0 rfl) ?_
      refine va_get (D := D) (ci := 1) (v := .int (σ 0 9)) (C := RX1) (T := TX1) (N := 14) hx hb htg inG_X1 hown hK hP 3 rfl rfl 11 (by decide) (htg _ m_185) (fun _ h9 => h9) rfl d_O_runRound_33 ?_
      refine lv_iconst (v := 2) hx hb d_O_runRound_36 (by decide) ?_
      refine lv_isub hx hb d_O_runRound_37 ?_
      refine lv_topi (fun v1 ev1 => ?_)
      have h := h v1 ev1
      refine lv_istore_n (lv' := [(1, .int v1), (0, .ref (ad 3))]) hx hb d_O_runRound_38 rfl hl (by decide) rfl (fun ls hl => ?_)
      rw [hG39] at h
      exact h _ _ _ hP hS (lv_sub hl [1, 0] rfl)
    · have h := h.2 cn
      refine lv_aload_n hx hb d_O_runRound_10 rfl (lv_at hl 0 rfl) ?_
      refine lv_iload_n hx hb d_O_runRound_11 rfl (lv_at hl 1 rfl) ?_
      refine lv_iload_n hx hb d_O_runRound_12 rfl (lv_at hl 1 rfl) ?_
      refine lv_iconst (v := 1) hx hb d_O_runRound_13 (by decide) ?_
      refine lv_isub hx hb d_O_runRound_14 ?_
      refine lv_aload_n hx hb d_O_runRound_15 rfl (lv_at hl 0 rfl) ?_
      refine va_get (D := D) (ci := 1) (v := .ref (ad 22)) (C := RX1) (T := TX1) (N := 14) hx hb htg inG_X1 hown hK hP 3 rfl rfl 7 (by decide) (htg _ m_181) (fun _ h9 => h9) rfl d_O_runRound_16 ?_
      refine lv_aload_n hx hb d_O_runRound_19 rfl (lv_at hl 0 rfl) ?_
      refine va_get (D := D) (ci := 1) (v := .ref (ad 21)) (C := RX1) (T := TX1) (N := 14) hx hb htg inG_X1 hown hK hP 3 rfl rfl 6 (by decide) (htg _ m_180) (fun _ h9 => h9) rfl d_O_runRound_20 ?_
      refine kC_v (va_runV (As := [.int x1, .int (x1 - 1), .ref (ad 22), .ref (ad 21)]) (rest := []) ⟨hx, hb, hml, hown, htg⟩ (met_O_arrange_22_21 l D ad cA cB hap σ H.size x1 (x1 - 1) _ h) (cwV 4 htg (kG (kG_V m_504 m_506 m_17 m_56 (kG_self m_507))) rfl rfl rfl (by decide +kernel) ⟨Nat.le_of_ble_eq_true rfl, Nat.le_of_ble_eq_true rfl⟩) (kC_preV hK hF hP hS 3 rfl rfl _) rfl rfl hl.1 rfl (lv_room (Nat.le_of_ble_eq_true rfl)) d_O_runRound_23 ⟨Nat.le_of_ble_eq_true rfl, Nat.le_of_ble_eq_true rfl⟩) hS (fun σ2 H locs h hP hS => ?_)
      refine lv_iinc (v := (x1 + 1)) (lv' := [(1, .int (x1 + 1)), (0, .ref (ad 3))]) hx hb d_O_runRound_26 hl (k := 1) rfl rfl (by decide) rfl (fun ls hl => ?_)
      refine lv_goto (tgt := 2) hx hb d_O_runRound_29 (by decide) ?_
      rw [hG2] at h
      exact h _ _ _ hP hS (lv_sub hl [1, 0] rfl))
  have h := h (by
    intro x1 σ h
    rw [hG39]
    intro H locs ls hP hS hl
    refine lv_iload_n hx hb d_O_runRound_39 rfl (lv_at hl 1 rfl) ?_
    refine lv_if_lt (tgt := 63) hx hb d_O_runRound_40 (by decide) (fun cn => ?_) (fun cn => ?_)
    · have h := h.1 cn
      exact W.vret hx hb hr (fun t ht hW => ⟨⟨σ, rfl, h, kBC_of ht hP⟩, hS.F ht⟩) hS.2.2 d_O_runRound_63 hlocks
    · have h := h.2 cn
      refine lv_aload_n hx hb d_O_runRound_43 rfl (lv_at hl 0 rfl) ?_
      refine lv_iload_n hx hb d_O_runRound_44 rfl (lv_at hl 1 rfl) ?_
      refine lv_iload_n hx hb d_O_runRound_45 rfl (lv_at hl 1 rfl) ?_
      refine lv_aload_n hx hb d_O_runRound_46 rfl (lv_at hl 0 rfl) ?_
      refine va_get (D := D) (ci := 1) (v := .ref (ad 21)) (C := RX1) (T := TX1) (N := 14) hx hb htg inG_X1 hown hK hP 3 rfl rfl 6 (by decide) (htg _ m_180) (fun _ h9 => h9) rfl d_O_runRound_47 ?_
      refine lv_aload_n hx hb d_O_runRound_50 rfl (lv_at hl 0 rfl) ?_
      refine va_get (D := D) (ci := 1) (v := .ref (ad 22)) (C := RX1) (T := TX1) (N := 14) hx hb htg inG_X1 hown hK hP 3 rfl rfl 7 (by decide) (htg _ m_181) (fun _ h9 => h9) rfl d_O_runRound_51 ?_
      refine kC_v (va_runV (As := [.int x1, .int x1, .ref (ad 21), .ref (ad 22)]) (rest := []) ⟨hx, hb, hml, hown, htg⟩ (met_O_arrange_21_22 l D ad cA cB hap σ H.size x1 x1 _ h) (cwV 4 htg (kG (kG_V m_504 m_506 m_17 m_56 (kG_self m_507))) rfl rfl rfl (by decide +kernel) ⟨Nat.le_of_ble_eq_true rfl, Nat.le_of_ble_eq_true rfl⟩) (kC_preV hK hF hP hS 3 rfl rfl _) rfl rfl hl.1 rfl (lv_room (Nat.le_of_ble_eq_true rfl)) d_O_runRound_54 ⟨Nat.le_of_ble_eq_true rfl, Nat.le_of_ble_eq_true rfl⟩) hS (fun σ3 H locs h hP hS => ?_)
      refine lv_iinc (v := (x1 + (-1))) (lv' := [(1, .int (x1 + (-1))), (0, .ref (ad 3))]) hx hb d_O_runRound_57 hl (k := 1) rfl rfl (by decide) rfl (fun ls hl => ?_)
      refine lv_goto (tgt := 39) hx hb d_O_runRound_60 (by decide) ?_
      rw [hG39] at h
      exact h _ _ _ hP hS (lv_sub hl [1, 0] rfl))
  obtain ⟨H, eH⟩ : ∃ z, z = s.heap := ⟨_, rfl⟩
  have hP : va_P D vwCl (wC ad cA cB σ) H := by rw [eH]; exact hP
  have hS : va_S (kAC ad s.heap.size) s.heap H [] := by rw [eH]; exact hS
  show W p l e (headSpec (Cond.code y_O_runRound c_O_runRound 2 none :: wsG) ({ frames := 3, cells := 0, slots := 0, locals := 71 } : Room)).room s m ([.ref (ad 3)] : List Value).toArray below meth c s.heap [] 0 0 (MQ below (va_Qv post (kBC D ad cA cB) (kAC ad s.heap.size)) ([.ref (ad 3)] : List Value).toArray s 0 0 (kAC ad s.heap.size)) (F0 m 0 ls [])
  suffices k : W p l e (headSpec (Cond.code y_O_runRound c_O_runRound 2 none :: wsG) ({ frames := 3, cells := 0, slots := 0, locals := 71 } : Room)).room s m ([.ref (ad 3)] : List Value).toArray below meth c H [] 0 0 (MQ below (va_Qv post (kBC D ad cA cB) (kAC ad s.heap.size)) ([.ref (ad 3)] : List Value).toArray s 0 0 (kAC ad s.heap.size)) (F0 m 0 ls []) by rw [eH] at k; exact k
  refine lv_iconst (v := 1) hx hb d_O_runRound_0 (by decide) ?_
  refine lv_istore_n (lv' := [(1, .int 1), (0, .ref (ad 3))]) hx hb d_O_runRound_1 rfl hl (by decide) rfl (fun ls hl => ?_)
  rw [hG2] at h
  exact h _ _ _ hP hS (lv_sub hl [1, 0] rfl)
set_option maxHeartbeats 4000000 in
set_option maxRecDepth 100000 in
theorem met_O_make (l : Launch) (D : va_G) (ad : Nat → Nat) (cA cB : ClassId) (hap : kapC ad) (σ : S0) (sz : Nat) (a2 : Int32) (post : Int32 → S0 → Prop) (h : Sp_O_make a2 σ post) : Met l y_O_make (Cond.code y_O_make c_O_make 5 (some .int) :: wsG) ({ frames := 4, cells := 0, slots := 0, locals := 92 } : Room) (kPcC D ad cA cB σ sz [.ref (ad 3), .ref (ad 2), .int a2]) (va_Qi post (kBC D ad cA cB) (kAC ad sz)) 0 0 (kAC ad sz) := by
  refine Met.ofW (cc := c_O_make) (maxL := 5) (ret := (some .int)) (by decide) rfl ?_
  intro p e s m args below meth c s₁ B hml hv
  obtain ⟨rfl, hsz, hP, hK, hF⟩ := hv
  have hx := B.exec
  have hb := B.bytes
  have hr := B.returns
  have hts := atoms_spec (ws := (Cond.code y_O_make c_O_make 5 (some .int) :: wsG)) B.pre
  have htg : ∀ w ∈ wsG, w.before ([.ref (ad 3), .ref (ad 2), .int a2] : List Value).toArray s = true := fun w h => hts w (List.mem_cons_of_mem _ h)
  have hown : s.vm.findClass RX1 = some m.cls := findClass_of_methodNamed B.named
  have hlocks := B.notSynchronized
  subst hsz
  have hD : ∀ σ, va_D (kAC ad s.heap.size) (wC ad cA cB σ) := fun σ => wC_D hap cA cB σ _
  have hS : va_S (kAC ad s.heap.size) s.heap s.heap [] := va_S.rf
  have hE := hF.1
  have hl := lv_entry ([.ref (ad 3), .ref (ad 2), .int a2]) (n := 5) (Nat.le_of_ble_eq_true rfl)
  rw [lg_entry_eq]
  generalize (lg_sl ([.ref (ad 3), .ref (ad 2), .int a2]) ++ List.replicate (5 - (lg_sl ([.ref (ad 3), .ref (ad 2), .int a2])).length) Slot.unset).toArray = ls at hl ⊢
  have hl : lv_has ls 5 [(0, .ref (ad 3)), (1, .ref (ad 2)), (2, .int a2)] := hl
  unfold Sp_O_make at h
  obtain ⟨G42, hG42⟩ : ∃ G : Int32 → Int32 → S0 → Prop, G = fun (x3 x4 : Int32) (σ : S0) => ∀ (H : Heap) (locs : List Loc) (ls : Array Slot), va_P D vwCl (wC ad cA cB σ) H → va_S (kAC ad s.heap.size) s.heap H locs → lv_has ls 5 [(0, .ref (ad 3)), (3, .int x3), (4, .int x4)] → W p l e (headSpec (Cond.code y_O_make c_O_make 5 (some .int) :: wsG) ({ frames := 4, cells := 0, slots := 0, locals := 92 } : Room)).room s m ([.ref (ad 3), .ref (ad 2), .int a2] : List Value).toArray below meth c H locs 0 0 (MQ below (va_Qi post (kBC D ad cA cB) (kAC ad s.heap.size)) ([.ref (ad 3), .ref (ad 2), .int a2] : List Value).toArray s 0 0 (kAC ad s.heap.size)) (F0 m 42 ls []) := ⟨_, rfl⟩
  have h := h G42
  have h := h (by
    intro x3 x4 σ h
    rw [hG42]
    intro H locs ls hP hS hl
    refine lv_iload hx hb d_O_make_42 (lv_at hl 2 rfl) ?_
    refine lv_aload_n hx hb d_O_make_44 rfl (lv_at hl 0 rfl) ?_
    refine va_get (D := D) (ci := 1) (v := .int (σ 0 8)) (C := RX1) (T := TX1) (N := 14) hx hb htg inG_X1 hown hK hP 3 rfl rfl 2 (by decide) (htg _ m_175) (fun _ h9 => h9) rfl d_O_make_45 ?_
    refine lv_icmp_gt (tgt := 95) hx hb d_O_make_48 (by decide) (fun cn => ?_) (fun cn => ?_)
    · have h := h.1 cn
      refine lv_aload_n hx hb d_O_make_95 rfl (lv_at hl 0 rfl) ?_
      refine kC_v (va_runV (As := []) (rest := []) ⟨hx, hb, hml, hown, htg⟩ (met_O_takeBest l D ad cA cB hap σ H.size _ h) (cwV 0 htg (kG (kG_V m_520 m_522 m_21 m_56 (kG_self m_523))) rfl rfl rfl (by decide +kernel) ⟨Nat.le_of_ble_eq_true rfl, Nat.le_of_ble_eq_true rfl⟩) (kC_preV hK hF hP hS 3 rfl rfl _) rfl rfl hl.1 rfl (lv_room (Nat.le_of_ble_eq_true rfl)) d_O_make_96 ⟨Nat.le_of_ble_eq_true rfl, Nat.le_of_ble_eq_true rfl⟩) hS (fun σ9 H locs h hP hS => ?_)
      refine lv_iload_n hx hb d_O_make_99 rfl (lv_at hl 1 rfl) ?_
      exact W.iret (v := x3) hx hb hr (fun t ht hW => ⟨⟨_, σ9, rfl, h, kBC_of ht hP⟩, hS.F ht⟩) hS.2.2 d_O_make_100 hlocks
    · have h := h.2 cn
      refine lv_aload_n hx hb d_O_make_51 rfl (lv_at hl 0 rfl) ?_
      refine kC_v (va_runV (As := []) (rest := []) ⟨hx, hb, hml, hown, htg⟩ (met_O_runRound l D ad cA cB hap σ H.size _ h) (cwV 0 htg (kG (kG_V m_500 m_502 m_16 m_56 (kG_self m_503))) rfl rfl rfl (by decide +kernel) ⟨Nat.le_of_ble_eq_true rfl, Nat.le_of_ble_eq_true rfl⟩) (kC_preV hK hF hP hS 3 rfl rfl _) rfl rfl hl.1 rfl (lv_room (Nat.le_of_ble_eq_true rfl)) d_O_make_52 ⟨Nat.le_of_ble_eq_true rfl, Nat.le_of_ble_eq_true rfl⟩) hS (fun σ10 H locs h hP hS => ?_)
      refine lv_aload_n hx hb d_O_make_55 rfl (lv_at hl 0 rfl) ?_
      refine va_get (D := D) (ci := 1) (v := .ref (ad 17)) (C := RX1) (T := TX1) (N := 14) hx hb htg inG_X1 hown hK hP 3 rfl rfl 1 (by decide) (htg _ m_173) (fun _ h9 => h9) rfl d_O_make_56 ?_
      refine lv_iload hx hb d_O_make_59 (lv_at hl 2 rfl) ?_
      refine lv_aload_n hx hb d_O_make_61 rfl (lv_at hl 0 rfl) ?_
      refine kC_i (va_runV (As := []) (rest := [.int x4, .ref (ad 17)]) ⟨hx, hb, hml, hown, htg⟩ (met_O_countCrossings l D ad cA cB hap σ10 H.size _ h) (cwV 0 htg (kG (kG_V m_487 m_489 m_13 m_56 (kG_self m_490))) rfl rfl rfl (by decide +kernel) ⟨Nat.le_of_ble_eq_true rfl, Nat.le_of_ble_eq_true rfl⟩) (kC_preV hK hF hP hS 3 rfl rfl _) rfl rfl hl.1 rfl (lv_room (Nat.le_of_ble_eq_true rfl)) d_O_make_62 ⟨Nat.le_of_ble_eq_true rfl, Nat.le_of_ble_eq_true rfl⟩) hS (fun r12 σ11 H locs h hP hS => ?_)
      have hi := h.1
      have h := h.2
      refine va_iast hx hb hK hP (hD _) hS 17 0 rfl rfl hi d_O_make_65 (fun H locs hP _ hS => ?_)
      obtain ⟨σ13, eσ13⟩ : ∃ z : S0, z = st σ11 17 x4.toNatClampNeg r12 := ⟨_, rfl⟩
      have hP : va_P D vwCl (wC ad cA cB σ13) H := by rw [eσ13]; exact hP
      have h := h σ13 eσ13
      refine lv_aload_n hx hb d_O_make_66 rfl (lv_at hl 0 rfl) ?_
      refine va_get (D := D) (ci := 1) (v := .ref (ad 17)) (C := RX1) (T := TX1) (N := 14) hx hb htg inG_X1 hown hK hP 3 rfl rfl 1 (by decide) (htg _ m_173) (fun _ h9 => h9) rfl d_O_make_67 ?_
      refine lv_iload hx hb d_O_make_70 (lv_at hl 2 rfl) ?_
      have hi := h.1
      have h := h.2
      refine va_iald hx hb hK hP 17 0 rfl rfl hi d_O_make_72 ?_
      refine lv_iload_n hx hb d_O_make_73 rfl (lv_at hl 1 rfl) ?_
      refine lv_icmp_ge (tgt := 89) hx hb d_O_make_74 (by decide) (fun cn => ?_) (fun cn => ?_)
      · have h := h.1 cn
        refine lv_iinc (v := (x4 + 1)) (lv' := [(4, .int (x4 + 1)), (0, .ref (ad 3)), (3, .int x3)]) hx hb d_O_make_89 hl (k := 2) rfl rfl (by decide) rfl (fun ls hl => ?_)
        refine lv_goto (tgt := 42) hx hb d_O_make_92 (by decide) ?_
        rw [hG42] at h
        exact h _ _ _ hP hS (lv_sub hl [1, 2, 0] rfl)
      · have h := h.2 cn
        refine lv_aload_n hx hb d_O_make_77 rfl (lv_at hl 0 rfl) ?_
        refine va_get (D := D) (ci := 1) (v := .ref (ad 17)) (C := RX1) (T := TX1) (N := 14) hx hb htg inG_X1 hown hK hP 3 rfl rfl 1 (by decide) (htg _ m_173) (fun _ h9 => h9) rfl d_O_make_78 ?_
        refine lv_iload hx hb d_O_make_81 (lv_at hl 2 rfl) ?_
        have hi := h.1
        have h := h.2
        refine va_iald hx hb hK hP 17 0 rfl rfl hi d_O_make_83 ?_
        refine lv_topi (fun v14 ev14 => ?_)
        have h := h v14 ev14
        refine lv_istore_n (lv' := [(3, .int v14), (0, .ref (ad 3)), (4, .int x4)]) hx hb d_O_make_84 rfl hl (by decide) rfl (fun ls hl => ?_)
        refine lv_aload_n hx hb d_O_make_85 rfl (lv_at hl 1 rfl) ?_
        refine kC_v (va_runV (As := []) (rest := []) ⟨hx, hb, hml, hown, htg⟩ (met_O_keepBest l D ad cA cB hap σ13 H.size _ h) (cwV 0 htg (kG (kG_V m_495 m_497 m_15 m_56 (kG_self m_498))) rfl rfl rfl (by decide +kernel) ⟨Nat.le_of_ble_eq_true rfl, Nat.le_of_ble_eq_true rfl⟩) (kC_preV hK hF hP hS 3 rfl rfl _) rfl rfl hl.1 rfl (lv_room (Nat.le_of_ble_eq_true rfl)) d_O_make_86 ⟨Nat.le_of_ble_eq_true rfl, Nat.le_of_ble_eq_true rfl⟩) hS (fun σ15 H locs h hP hS => ?_)
        refine lv_iinc (v := (x4 + 1)) (lv' := [(4, .int (x4 + 1)), (3, .int v14), (0, .ref (ad 3))]) hx hb d_O_make_89 hl (k := 2) rfl rfl (by decide) rfl (fun ls hl => ?_)
        refine lv_goto (tgt := 42) hx hb d_O_make_92 (by decide) ?_
        rw [hG42] at h
        exact h _ _ _ hP hS (lv_sub hl [2, 1, 0] rfl))
  obtain ⟨H, eH⟩ : ∃ z, z = s.heap := ⟨_, rfl⟩
  have hP : va_P D vwCl (wC ad cA cB σ) H := by rw [eH]; exact hP
  have hS : va_S (kAC ad s.heap.size) s.heap H [] := by rw [eH]; exact hS
  show W p l e (headSpec (Cond.code y_O_make c_O_make 5 (some .int) :: wsG) ({ frames := 4, cells := 0, slots := 0, locals := 92 } : Room)).room s m ([.ref (ad 3), .ref (ad 2), .int a2] : List Value).toArray below meth c s.heap [] 0 0 (MQ below (va_Qi post (kBC D ad cA cB) (kAC ad s.heap.size)) ([.ref (ad 3), .ref (ad 2), .int a2] : List Value).toArray s 0 0 (kAC ad s.heap.size)) (F0 m 0 ls [])
  suffices k : W p l e (headSpec (Cond.code y_O_make c_O_make 5 (some .int) :: wsG) ({ frames := 4, cells := 0, slots := 0, locals := 92 } : Room)).room s m ([.ref (ad 3), .ref (ad 2), .int a2] : List Value).toArray below meth c H [] 0 0 (MQ below (va_Qi post (kBC D ad cA cB) (kAC ad s.heap.size)) ([.ref (ad 3), .ref (ad 2), .int a2] : List Value).toArray s 0 0 (kAC ad s.heap.size)) (F0 m 0 ls []) by rw [eH] at k; exact k
  refine lv_aload_n hx hb d_O_make_0 rfl (lv_at hl 0 rfl) ?_
  refine lv_iload_n hx hb d_O_make_1 rfl (lv_at hl 2 rfl) ?_
  refine va_put (D := D) (ci := 1) (v := .int a2) (ty := .int) (C := RX1) (T := TX1) (N := 14) hx hb htg inG_X1 tyX1 tyX1_ok nmX1 hown hK hP (hD _) hS 3 rfl rfl 2 (by decide) (htg _ m_175) (fun _ h9 => h9) rfl (by decide +kernel) rfl rfl (Nat.le_of_ble_eq_true rfl) d_O_make_2 (fun H locs hP _ hS => ?_)
  obtain ⟨σ1, eσ1⟩ : ∃ z : S0, z = st σ 0 8 a2 := ⟨_, rfl⟩
  have hP : va_P D vwCl (wC ad cA cB σ1) H := by rw [eσ1]; exact hP
  have h := h σ1 eσ1
  refine lv_aload_n hx hb d_O_make_5 rfl (lv_at hl 0 rfl) ?_
  refine lv_aload_n hx hb d_O_make_6 rfl (lv_at hl 1 rfl) ?_
  refine va_get (D := D) (ci := 2) (v := .int (σ1 0 5)) (C := RX2) (T := TX2) (N := 10) hx hb htg inG_X2 hown hK hP 2 rfl rfl 4 (by decide) (htg _ m_133) (fun _ h9 => h9) rfl d_O_make_7 ?_
  refine va_put (D := D) (ci := 1) (v := .int (σ1 0 5)) (ty := .int) (C := RX1) (T := TX1) (N := 14) hx hb htg inG_X1 tyX1 tyX1_ok nmX1 hown hK hP (hD _) hS 3 rfl rfl 11 (by decide) (htg _ m_185) (fun _ h9 => h9) rfl (by decide +kernel) rfl rfl (Nat.le_of_ble_eq_true rfl) d_O_make_10 (fun H locs hP _ hS => ?_)
  obtain ⟨σ2, eσ2⟩ : ∃ z : S0, z = st σ1 0 9 (σ1 0 5) := ⟨_, rfl⟩
  have hP : va_P D vwCl (wC ad cA cB σ2) H := by rw [eσ2]; exact hP
  have h := h σ2 eσ2
  refine lv_aload_n hx hb d_O_make_13 rfl (lv_at hl 0 rfl) ?_
  refine lv_aload_n hx hb d_O_make_14 rfl (lv_at hl 1 rfl) ?_
  refine kC_v (va_runV (As := [.ref (ad 2)]) (rest := []) ⟨hx, hb, hml, hown, htg⟩ (met_O_layMarks l D ad cA cB hap σ2 H.size _ h) (cwV 1 htg (kG (kG_V m_465 m_467 m_9 m_56 (kG_self m_468))) rfl rfl rfl (by decide +kernel) ⟨Nat.le_of_ble_eq_true rfl, Nat.le_of_ble_eq_true rfl⟩) (kC_preV hK hF hP hS 3 rfl rfl _) rfl rfl hl.1 rfl (lv_room (Nat.le_of_ble_eq_true rfl)) d_O_make_15 ⟨Nat.le_of_ble_eq_true rfl, Nat.le_of_ble_eq_true rfl⟩) hS (fun σ3 H locs h hP hS => ?_)
  refine lv_aload_n hx hb d_O_make_18 rfl (lv_at hl 0 rfl) ?_
  refine lv_aload_n hx hb d_O_make_19 rfl (lv_at hl 1 rfl) ?_
  refine kC_v (va_runV (As := [.ref (ad 2)]) (rest := []) ⟨hx, hb, hml, hown, htg⟩ (met_O_layPieces l D ad cA cB hap σ3 H.size _ h) (cwV 1 htg (kG (kG_V m_483 m_485 m_12 m_56 (kG_self m_486))) rfl rfl rfl (by decide +kernel) ⟨Nat.le_of_ble_eq_true rfl, Nat.le_of_ble_eq_true rfl⟩) (kC_preV hK hF hP hS 3 rfl rfl _) rfl rfl hl.1 rfl (lv_room (Nat.le_of_ble_eq_true rfl)) d_O_make_20 ⟨Nat.le_of_ble_eq_true rfl, Nat.le_of_ble_eq_true rfl⟩) hS (fun σ4 H locs h hP hS => ?_)
  refine lv_aload_n hx hb d_O_make_23 rfl (lv_at hl 0 rfl) ?_
  refine kC_i (va_runV (As := []) (rest := []) ⟨hx, hb, hml, hown, htg⟩ (met_O_countCrossings l D ad cA cB hap σ4 H.size _ h) (cwV 0 htg (kG (kG_V m_487 m_489 m_13 m_56 (kG_self m_490))) rfl rfl rfl (by decide +kernel) ⟨Nat.le_of_ble_eq_true rfl, Nat.le_of_ble_eq_true rfl⟩) (kC_preV hK hF hP hS 3 rfl rfl _) rfl rfl hl.1 rfl (lv_room (Nat.le_of_ble_eq_true rfl)) d_O_make_24 ⟨Nat.le_of_ble_eq_true rfl, Nat.le_of_ble_eq_true rfl⟩) hS (fun r6 σ5 H locs h hP hS => ?_)
  refine lv_istore_n (lv' := [(3, .int r6), (0, .ref (ad 3)), (1, .ref (ad 2)), (2, .int a2)]) hx hb d_O_make_27 rfl hl (by decide) rfl (fun ls hl => ?_)
  refine lv_aload_n hx hb d_O_make_28 rfl (lv_at hl 1 rfl) ?_
  refine va_get (D := D) (ci := 1) (v := .ref (ad 17)) (C := RX1) (T := TX1) (N := 14) hx hb htg inG_X1 hown hK hP 3 rfl rfl 1 (by decide) (htg _ m_173) (fun _ h9 => h9) rfl d_O_make_29 ?_
  refine lv_iconst (v := 0) hx hb d_O_make_32 (by decide) ?_
  refine lv_iload_n hx hb d_O_make_33 rfl (lv_at hl 0 rfl) ?_
  have hi := h.1
  have h := h.2
  refine va_iast hx hb hK hP (hD _) hS 17 0 rfl rfl hi d_O_make_34 (fun H locs hP _ hS => ?_)
  obtain ⟨σ7, eσ7⟩ : ∃ z : S0, z = st σ5 17 (0 : Int32).toNatClampNeg r6 := ⟨_, rfl⟩
  have hP : va_P D vwCl (wC ad cA cB σ7) H := by rw [eσ7]; exact hP
  have h := h σ7 eσ7
  refine lv_aload_n hx hb d_O_make_35 rfl (lv_at hl 1 rfl) ?_
  refine kC_v (va_runV (As := []) (rest := []) ⟨hx, hb, hml, hown, htg⟩ (met_O_keepBest l D ad cA cB hap σ7 H.size _ h) (cwV 0 htg (kG (kG_V m_495 m_497 m_15 m_56 (kG_self m_498))) rfl rfl rfl (by decide +kernel) ⟨Nat.le_of_ble_eq_true rfl, Nat.le_of_ble_eq_true rfl⟩) (kC_preV hK hF hP hS 3 rfl rfl _) rfl rfl hl.1 rfl (lv_room (Nat.le_of_ble_eq_true rfl)) d_O_make_36 ⟨Nat.le_of_ble_eq_true rfl, Nat.le_of_ble_eq_true rfl⟩) hS (fun σ8 H locs h hP hS => ?_)
  refine lv_iconst (v := 1) hx hb d_O_make_39 (by decide) ?_
  refine lv_istore (lv' := [(4, .int 1), (3, .int r6), (0, .ref (ad 3)), (1, .ref (ad 2)), (2, .int a2)]) hx hb d_O_make_40 hl (by decide) rfl (fun ls hl => ?_)
  rw [hG42] at h
  exact h _ _ _ hP hS (lv_sub hl [2, 1, 0] rfl)
set_option maxHeartbeats 4000000 in
set_option maxRecDepth 100000 in
theorem met_J_bitCount (l : Launch) (D : va_G) (ad : Nat → Nat) (cA cB : ClassId) (hap : kapC ad) (σ : S0) (sz : Nat) (a0 : Int32) (post : Int32 → S0 → Prop) (h : Sp_J_bitCount a0 σ post) : Met l y_J_bitCount (Cond.code y_J_bitCount c_J_bitCount 1 (some .int) :: wsG) ({ frames := 0, cells := 0, slots := 0, locals := 0 } : Room) (kPcC D ad cA cB σ sz [.int a0]) (va_Qi post (kBC D ad cA cB) (kAC ad sz)) 0 0 (kAC ad sz) := by
  refine Met.ofW (cc := c_J_bitCount) (maxL := 1) (ret := (some .int)) (by decide) rfl ?_
  intro p e s m args below meth c s₁ B hml hv
  obtain ⟨rfl, hsz, hP, hK, hF⟩ := hv
  have hx := B.exec
  have hb := B.bytes
  have hr := B.returns
  have hts := atoms_spec (ws := (Cond.code y_J_bitCount c_J_bitCount 1 (some .int) :: wsG)) B.pre
  have htg : ∀ w ∈ wsG, w.before ([.int a0] : List Value).toArray s = true := fun w h => hts w (List.mem_cons_of_mem _ h)
  have hown : s.vm.findClass "java/lang/Integer" = some m.cls := findClass_of_methodNamed B.named
  have hlocks := B.notSynchronized
  subst hsz
  have hD : ∀ σ, va_D (kAC ad s.heap.size) (wC ad cA cB σ) := fun σ => wC_D hap cA cB σ _
  have hS : va_S (kAC ad s.heap.size) s.heap s.heap [] := va_S.rf
  have hE := hF.1
  have hl := lv_entry ([.int a0]) (n := 1) (Nat.le_of_ble_eq_true rfl)
  rw [lg_entry_eq]
  generalize (lg_sl ([.int a0]) ++ List.replicate (1 - (lg_sl ([.int a0])).length) Slot.unset).toArray = ls at hl ⊢
  have hl : lv_has ls 1 [(0, .int a0)] := hl
  unfold Sp_J_bitCount at h
  obtain ⟨H, eH⟩ : ∃ z, z = s.heap := ⟨_, rfl⟩
  have hP : va_P D vwCl (wC ad cA cB σ) H := by rw [eH]; exact hP
  have hS : va_S (kAC ad s.heap.size) s.heap H [] := by rw [eH]; exact hS
  show W p l e (headSpec (Cond.code y_J_bitCount c_J_bitCount 1 (some .int) :: wsG) ({ frames := 0, cells := 0, slots := 0, locals := 0 } : Room)).room s m ([.int a0] : List Value).toArray below meth c s.heap [] 0 0 (MQ below (va_Qi post (kBC D ad cA cB) (kAC ad s.heap.size)) ([.int a0] : List Value).toArray s 0 0 (kAC ad s.heap.size)) (F0 m 0 ls [])
  suffices k : W p l e (headSpec (Cond.code y_J_bitCount c_J_bitCount 1 (some .int) :: wsG) ({ frames := 0, cells := 0, slots := 0, locals := 0 } : Room)).room s m ([.int a0] : List Value).toArray below meth c H [] 0 0 (MQ below (va_Qi post (kBC D ad cA cB) (kAC ad s.heap.size)) ([.int a0] : List Value).toArray s 0 0 (kAC ad s.heap.size)) (F0 m 0 ls []) by rw [eH] at k; exact k
  refine lv_iload_n hx hb d_J_bitCount_0 rfl (lv_at hl 0 rfl) ?_
  refine lv_iload_n hx hb d_J_bitCount_1 rfl (lv_at hl 0 rfl) ?_
  refine lv_iconst (v := 1) hx hb d_J_bitCount_2 (by decide) ?_
  refine lv_iushr (v := ((a0.toUInt32 >>> (Int32.toUInt32 1 &&& Int32.toUInt32 31)).toInt32)) hx hb d_J_bitCount_3 rfl ?_
  refine lv_ldcw (v := 1431655765) hx hb hown (htg _ m_585) d_J_bitCount_4 ?_
  refine lv_iand hx hb d_J_bitCount_7 ?_
  refine lv_isub hx hb d_J_bitCount_8 ?_
  refine lv_topi (fun v1 ev1 => ?_)
  have h := h v1 ev1
  refine lv_istore_n (lv' := [(0, .int v1)]) hx hb d_J_bitCount_9 rfl hl (by decide) rfl (fun ls hl => ?_)
  refine lv_iload_n hx hb d_J_bitCount_10 rfl (lv_at hl 0 rfl) ?_
  refine lv_ldcw (v := 858993459) hx hb hown (htg _ m_586) d_J_bitCount_11 ?_
  refine lv_iand hx hb d_J_bitCount_14 ?_
  refine lv_iload_n hx hb d_J_bitCount_15 rfl (lv_at hl 0 rfl) ?_
  refine lv_iconst (v := 2) hx hb d_J_bitCount_16 (by decide) ?_
  refine lv_iushr (v := ((v1.toUInt32 >>> (Int32.toUInt32 2 &&& Int32.toUInt32 31)).toInt32)) hx hb d_J_bitCount_17 rfl ?_
  refine lv_ldcw (v := 858993459) hx hb hown (htg _ m_586) d_J_bitCount_18 ?_
  refine lv_iand hx hb d_J_bitCount_21 ?_
  refine lv_iadd hx hb d_J_bitCount_22 ?_
  refine lv_topi (fun v2 ev2 => ?_)
  have h := h v2 ev2
  refine lv_istore_n (lv' := [(0, .int v2)]) hx hb d_J_bitCount_23 rfl hl (by decide) rfl (fun ls hl => ?_)
  refine lv_iload_n hx hb d_J_bitCount_24 rfl (lv_at hl 0 rfl) ?_
  refine lv_iload_n hx hb d_J_bitCount_25 rfl (lv_at hl 0 rfl) ?_
  refine lv_iconst (v := 4) hx hb d_J_bitCount_26 (by decide) ?_
  refine lv_iushr (v := ((v2.toUInt32 >>> (Int32.toUInt32 4 &&& Int32.toUInt32 31)).toInt32)) hx hb d_J_bitCount_27 rfl ?_
  refine lv_iadd hx hb d_J_bitCount_28 ?_
  refine lv_ldcw (v := 252645135) hx hb hown (htg _ m_587) d_J_bitCount_29 ?_
  refine lv_iand hx hb d_J_bitCount_32 ?_
  refine lv_topi (fun v3 ev3 => ?_)
  have h := h v3 ev3
  refine lv_istore_n (lv' := [(0, .int v3)]) hx hb d_J_bitCount_33 rfl hl (by decide) rfl (fun ls hl => ?_)
  refine lv_iload_n hx hb d_J_bitCount_34 rfl (lv_at hl 0 rfl) ?_
  refine lv_iload_n hx hb d_J_bitCount_35 rfl (lv_at hl 0 rfl) ?_
  refine lv_bipush (v := 8) hx hb d_J_bitCount_36 (by decide) ?_
  refine lv_iushr (v := ((v3.toUInt32 >>> (Int32.toUInt32 8 &&& Int32.toUInt32 31)).toInt32)) hx hb d_J_bitCount_38 rfl ?_
  refine lv_iadd hx hb d_J_bitCount_39 ?_
  refine lv_topi (fun v4 ev4 => ?_)
  have h := h v4 ev4
  refine lv_istore_n (lv' := [(0, .int v4)]) hx hb d_J_bitCount_40 rfl hl (by decide) rfl (fun ls hl => ?_)
  refine lv_iload_n hx hb d_J_bitCount_41 rfl (lv_at hl 0 rfl) ?_
  refine lv_iload_n hx hb d_J_bitCount_42 rfl (lv_at hl 0 rfl) ?_
  refine lv_bipush (v := 16) hx hb d_J_bitCount_43 (by decide) ?_
  refine lv_iushr (v := ((v4.toUInt32 >>> (Int32.toUInt32 16 &&& Int32.toUInt32 31)).toInt32)) hx hb d_J_bitCount_45 rfl ?_
  refine lv_iadd hx hb d_J_bitCount_46 ?_
  refine lv_topi (fun v5 ev5 => ?_)
  have h := h v5 ev5
  refine lv_istore_n (lv' := [(0, .int v5)]) hx hb d_J_bitCount_47 rfl hl (by decide) rfl (fun ls hl => ?_)
  refine lv_iload_n hx hb d_J_bitCount_48 rfl (lv_at hl 0 rfl) ?_
  refine lv_bipush (v := 63) hx hb d_J_bitCount_49 (by decide) ?_
  refine lv_iand hx hb d_J_bitCount_51 ?_
  exact W.iret (v := (v5 &&& 63)) hx hb hr (fun t ht hW => ⟨⟨_, σ, rfl, h, kBC_of ht hP⟩, hS.F ht⟩) hS.2.2 d_J_bitCount_52 hlocks
set_option maxHeartbeats 4000000 in
set_option maxRecDepth 100000 in
theorem met_M_numbersOf (l : Launch) (D : va_G) (ad : Nat → Nat) (cA cB : ClassId) (hap : kapC ad) (σ : S0) (sz : Nat) (a1 : Int32) (post : Int32 → S0 → Prop) (h : Sp_M_numbersOf a1 σ post) : Met l y_M_numbersOf (Cond.code y_M_numbersOf c_M_numbersOf 2 (some .int) :: wsG) ({ frames := 1, cells := 0, slots := 0, locals := 21 } : Room) (kPcC D ad cA cB σ sz [.ref (ad 0), .int a1]) (va_Qi post (kBC D ad cA cB) (kAC ad sz)) 0 0 (kAC ad sz) := by
  refine Met.ofW (cc := c_M_numbersOf) (maxL := 2) (ret := (some .int)) (by decide) rfl ?_
  intro p e s m args below meth c s₁ B hml hv
  obtain ⟨rfl, hsz, hP, hK, hF⟩ := hv
  have hx := B.exec
  have hb := B.bytes
  have hr := B.returns
  have hts := atoms_spec (ws := (Cond.code y_M_numbersOf c_M_numbersOf 2 (some .int) :: wsG)) B.pre
  have htg : ∀ w ∈ wsG, w.before ([.ref (ad 0), .int a1] : List Value).toArray s = true := fun w h => hts w (List.mem_cons_of_mem _ h)
  have hown : s.vm.findClass RX3 = some m.cls := findClass_of_methodNamed B.named
  have hlocks := B.notSynchronized
  subst hsz
  have hD : ∀ σ, va_D (kAC ad s.heap.size) (wC ad cA cB σ) := fun σ => wC_D hap cA cB σ _
  have hS : va_S (kAC ad s.heap.size) s.heap s.heap [] := va_S.rf
  have hE := hF.1
  have hl := lv_entry ([.ref (ad 0), .int a1]) (n := 2) (Nat.le_of_ble_eq_true rfl)
  rw [lg_entry_eq]
  generalize (lg_sl ([.ref (ad 0), .int a1]) ++ List.replicate (2 - (lg_sl ([.ref (ad 0), .int a1])).length) Slot.unset).toArray = ls at hl ⊢
  have hl : lv_has ls 2 [(0, .ref (ad 0)), (1, .int a1)] := hl
  unfold Sp_M_numbersOf at h
  obtain ⟨H, eH⟩ : ∃ z, z = s.heap := ⟨_, rfl⟩
  have hP : va_P D vwCl (wC ad cA cB σ) H := by rw [eH]; exact hP
  have hS : va_S (kAC ad s.heap.size) s.heap H [] := by rw [eH]; exact hS
  show W p l e (headSpec (Cond.code y_M_numbersOf c_M_numbersOf 2 (some .int) :: wsG) ({ frames := 1, cells := 0, slots := 0, locals := 21 } : Room)).room s m ([.ref (ad 0), .int a1] : List Value).toArray below meth c s.heap [] 0 0 (MQ below (va_Qi post (kBC D ad cA cB) (kAC ad s.heap.size)) ([.ref (ad 0), .int a1] : List Value).toArray s 0 0 (kAC ad s.heap.size)) (F0 m 0 ls [])
  suffices k : W p l e (headSpec (Cond.code y_M_numbersOf c_M_numbersOf 2 (some .int) :: wsG) ({ frames := 1, cells := 0, slots := 0, locals := 21 } : Room)).room s m ([.ref (ad 0), .int a1] : List Value).toArray below meth c H [] 0 0 (MQ below (va_Qi post (kBC D ad cA cB) (kAC ad s.heap.size)) ([.ref (ad 0), .int a1] : List Value).toArray s 0 0 (kAC ad s.heap.size)) (F0 m 0 ls []) by rw [eH] at k; exact k
  refine lv_iconst (v := 2) hx hb d_M_numbersOf_0 (by decide) ?_
  refine lv_iconst (v := 2) hx hb d_M_numbersOf_1 (by decide) ?_
  refine lv_aload_n hx hb d_M_numbersOf_2 rfl (lv_at hl 0 rfl) ?_
  refine va_get (D := D) (ci := 3) (v := .ref (ad 2)) (C := RX3) (T := TX3) (N := 4) hx hb htg inG_X3 hown hK hP 0 rfl rfl 1 (by decide) (htg _ m_218) (fun _ h9 => h9) rfl d_M_numbersOf_3 ?_
  refine lv_iload_n hx hb d_M_numbersOf_6 rfl (lv_at hl 1 rfl) ?_
  refine kC_i (va_runV (As := [.int a1]) (rest := [.int 2, .int 2]) ⟨hx, hb, hml, hown, htg⟩ (met_P_bendsOf l D ad cA cB hap σ H.size a1 _ h) (cwV 1 htg (kG (kG_V m_573 m_458 m_459 m_55 (kG_self m_460))) rfl rfl rfl (by decide +kernel) ⟨Nat.le_of_ble_eq_true rfl, Nat.le_of_ble_eq_true rfl⟩) (kC_preV hK hF hP hS 2 rfl rfl _) rfl rfl hl.1 rfl (lv_room (Nat.le_of_ble_eq_true rfl)) d_M_numbersOf_7 ⟨Nat.le_of_ble_eq_true rfl, Nat.le_of_ble_eq_true rfl⟩) hS (fun r2 σ1 H locs h hP hS => ?_)
  refine lv_iconst (v := 2) hx hb d_M_numbersOf_10 (by decide) ?_
  refine lv_iadd hx hb d_M_numbersOf_11 ?_
  refine lv_imul hx hb d_M_numbersOf_12 ?_
  refine lv_iadd hx hb d_M_numbersOf_13 ?_
  exact W.iret (v := (2 + (2 * (r2 + 2)))) hx hb hr (fun t ht hW => ⟨⟨_, σ1, rfl, h, kBC_of ht hP⟩, hS.F ht⟩) hS.2.2 d_M_numbersOf_14 hlocks
set_option maxHeartbeats 4000000 in
set_option maxRecDepth 100000 in
theorem met_M_numberOfLinks (l : Launch) (D : va_G) (ad : Nat → Nat) (cA cB : ClassId) (hap : kapC ad) (σ : S0) (sz : Nat) (a1 : Int32) (post : Int32 → S0 → Prop) (h : Sp_M_numberOfLinks a1 σ post) : Met l y_M_numberOfLinks (Cond.code y_M_numberOfLinks c_M_numberOfLinks 5 (some .int) :: wsG) ({ frames := 2, cells := 0, slots := 0, locals := 43 } : Room) (kPcC D ad cA cB σ sz [.ref (ad 0), .int a1]) (va_Qi post (kBC D ad cA cB) (kAC ad sz)) 0 0 (kAC ad sz) := by
  refine Met.ofW (cc := c_M_numberOfLinks) (maxL := 5) (ret := (some .int)) (by decide) rfl ?_
  intro p e s m args below meth c s₁ B hml hv
  obtain ⟨rfl, hsz, hP, hK, hF⟩ := hv
  have hx := B.exec
  have hb := B.bytes
  have hr := B.returns
  have hts := atoms_spec (ws := (Cond.code y_M_numberOfLinks c_M_numberOfLinks 5 (some .int) :: wsG)) B.pre
  have htg : ∀ w ∈ wsG, w.before ([.ref (ad 0), .int a1] : List Value).toArray s = true := fun w h => hts w (List.mem_cons_of_mem _ h)
  have hown : s.vm.findClass RX3 = some m.cls := findClass_of_methodNamed B.named
  have hlocks := B.notSynchronized
  subst hsz
  have hD : ∀ σ, va_D (kAC ad s.heap.size) (wC ad cA cB σ) := fun σ => wC_D hap cA cB σ _
  have hS : va_S (kAC ad s.heap.size) s.heap s.heap [] := va_S.rf
  have hE := hF.1
  have hl := lv_entry ([.ref (ad 0), .int a1]) (n := 5) (Nat.le_of_ble_eq_true rfl)
  rw [lg_entry_eq]
  generalize (lg_sl ([.ref (ad 0), .int a1]) ++ List.replicate (5 - (lg_sl ([.ref (ad 0), .int a1])).length) Slot.unset).toArray = ls at hl ⊢
  have hl : lv_has ls 5 [(0, .ref (ad 0)), (1, .int a1)] := hl
  unfold Sp_M_numberOfLinks at h
  obtain ⟨G4, hG4⟩ : ∃ G : Int32 → Int32 → S0 → Prop, G = fun (x2 x3 : Int32) (σ : S0) => ∀ (H : Heap) (locs : List Loc) (ls : Array Slot), va_P D vwCl (wC ad cA cB σ) H → va_S (kAC ad s.heap.size) s.heap H locs → lv_has ls 5 [(0, .ref (ad 0)), (2, .int x2), (3, .int x3)] → W p l e (headSpec (Cond.code y_M_numberOfLinks c_M_numberOfLinks 5 (some .int) :: wsG) ({ frames := 2, cells := 0, slots := 0, locals := 43 } : Room)).room s m ([.ref (ad 0), .int a1] : List Value).toArray below meth c H locs 0 0 (MQ below (va_Qi post (kBC D ad cA cB) (kAC ad s.heap.size)) ([.ref (ad 0), .int a1] : List Value).toArray s 0 0 (kAC ad s.heap.size)) (F0 m 4 ls []) := ⟨_, rfl⟩
  obtain ⟨G40, hG40⟩ : ∃ G : Int32 → Int32 → S0 → Prop, G = fun (x2 x3 : Int32) (σ : S0) => ∀ (H : Heap) (locs : List Loc) (ls : Array Slot), va_P D vwCl (wC ad cA cB σ) H → va_S (kAC ad s.heap.size) s.heap H locs → lv_has ls 5 [(0, .ref (ad 0)), (2, .int x2), (3, .int x3)] → W p l e (headSpec (Cond.code y_M_numberOfLinks c_M_numberOfLinks 5 (some .int) :: wsG) ({ frames := 2, cells := 0, slots := 0, locals := 43 } : Room)).room s m ([.ref (ad 0), .int a1] : List Value).toArray below meth c H locs 0 0 (MQ below (va_Qi post (kBC D ad cA cB) (kAC ad s.heap.size)) ([.ref (ad 0), .int a1] : List Value).toArray s 0 0 (kAC ad s.heap.size)) (F0 m 40 ls []) := ⟨_, rfl⟩
  have h := h G4 G40
  have h := h (by
    intro x2 x3 σ h
    rw [hG4]
    intro H locs ls hP hS hl
    refine lv_iload_n hx hb d_M_numberOfLinks_4 rfl (lv_at hl 2 rfl) ?_
    refine lv_aload_n hx hb d_M_numberOfLinks_5 rfl (lv_at hl 0 rfl) ?_
    refine va_get (D := D) (ci := 3) (v := .ref (ad 2)) (C := RX3) (T := TX3) (N := 4) hx hb htg inG_X3 hown hK hP 0 rfl rfl 1 (by decide) (htg _ m_218) (fun _ h9 => h9) rfl d_M_numberOfLinks_6 ?_
    refine va_get (D := D) (ci := 2) (v := .int (σ 0 6)) (C := RX2) (T := TX2) (N := 10) hx hb htg inG_X2 hown hK hP 2 rfl rfl 5 (by decide) (htg _ m_138) (fun _ h9 => h9) rfl d_M_numberOfLinks_9 ?_
    refine lv_iconst (v := 1) hx hb d_M_numberOfLinks_12 (by decide) ?_
    refine lv_isub hx hb d_M_numberOfLinks_13 ?_
    refine lv_icmp_ge (tgt := 40) hx hb d_M_numberOfLinks_14 (by decide) (fun cn => ?_) (fun cn => ?_)
    · have h := h.1 cn
      rw [hG40] at h
      exact h _ _ _ hP hS (lv_sub hl [0, 1, 2] rfl)
    · have h := h.2 cn
      refine lv_iload_n hx hb d_M_numberOfLinks_17 rfl (lv_at hl 1 rfl) ?_
      refine lv_aload_n hx hb d_M_numberOfLinks_18 rfl (lv_at hl 0 rfl) ?_
      refine lv_iload_n hx hb d_M_numberOfLinks_19 rfl (lv_at hl 2 rfl) ?_
      refine kC_i (va_runV (As := [.int x3]) (rest := [.int x2]) ⟨hx, hb, hml, hown, htg⟩ (met_M_numbersOf l D ad cA cB hap σ H.size x3 _ h) (cwV 1 htg (kG (kG_V m_600 m_602 m_25 m_53 (kG_self m_603))) rfl rfl rfl (by decide +kernel) ⟨Nat.le_of_ble_eq_true rfl, Nat.le_of_ble_eq_true rfl⟩) (kC_preV hK hF hP hS 0 rfl rfl _) rfl rfl hl.1 rfl (lv_room (Nat.le_of_ble_eq_true rfl)) d_M_numberOfLinks_20 ⟨Nat.le_of_ble_eq_true rfl, Nat.le_of_ble_eq_true rfl⟩) hS (fun r2 σ1 H locs h hP hS => ?_)
      refine lv_icmp_lt (tgt := 40) hx hb d_M_numberOfLinks_23 (by decide) (fun cn => ?_) (fun cn => ?_)
      · have h := h.1 cn
        rw [hG40] at h
        exact h _ _ _ hP hS (lv_sub hl [0, 1, 2] rfl)
      · have h := h.2 cn
        refine lv_iload_n hx hb d_M_numberOfLinks_26 rfl (lv_at hl 1 rfl) ?_
        refine lv_aload_n hx hb d_M_numberOfLinks_27 rfl (lv_at hl 0 rfl) ?_
        refine lv_iload_n hx hb d_M_numberOfLinks_28 rfl (lv_at hl 2 rfl) ?_
        refine kC_i (va_runV (As := [.int x3]) (rest := [.int x2]) ⟨hx, hb, hml, hown, htg⟩ (met_M_numbersOf l D ad cA cB hap σ1 H.size x3 _ h) (cwV 1 htg (kG (kG_V m_600 m_602 m_25 m_53 (kG_self m_603))) rfl rfl rfl (by decide +kernel) ⟨Nat.le_of_ble_eq_true rfl, Nat.le_of_ble_eq_true rfl⟩) (kC_preV hK hF hP hS 0 rfl rfl _) rfl rfl hl.1 rfl (lv_room (Nat.le_of_ble_eq_true rfl)) d_M_numberOfLinks_29 ⟨Nat.le_of_ble_eq_true rfl, Nat.le_of_ble_eq_true rfl⟩) hS (fun r4 σ3 H locs h hP hS => ?_)
        refine lv_isub hx hb d_M_numberOfLinks_32 ?_
        refine lv_topi (fun v5 ev5 => ?_)
        have h := h v5 ev5
        refine lv_istore_n (lv' := [(2, .int v5), (0, .ref (ad 0)), (3, .int x3)]) hx hb d_M_numberOfLinks_33 rfl hl (by decide) rfl (fun ls hl => ?_)
        refine lv_iinc (v := (x3 + 1)) (lv' := [(3, .int (x3 + 1)), (2, .int v5), (0, .ref (ad 0))]) hx hb d_M_numberOfLinks_34 hl (k := 2) rfl rfl (by decide) rfl (fun ls hl => ?_)
        refine lv_goto (tgt := 4) hx hb d_M_numberOfLinks_37 (by decide) ?_
        rw [hG4] at h
        exact h _ _ _ hP hS (lv_sub hl [2, 1, 0] rfl))
  have h := h (by
    intro x2 x3 σ h
    rw [hG40]
    intro H locs ls hP hS hl
    refine lv_iload_n hx hb d_M_numberOfLinks_40 rfl (lv_at hl 1 rfl) ?_
    refine lv_if_ne (tgt := 46) hx hb d_M_numberOfLinks_41 (by decide) (fun cn => ?_) (fun cn => ?_)
    · have h := h.1 cn
      refine lv_iload_n hx hb d_M_numberOfLinks_46 rfl (lv_at hl 1 rfl) ?_
      refine lv_iconst (v := 1) hx hb d_M_numberOfLinks_47 (by decide) ?_
      refine lv_icmp_ne (tgt := 62) hx hb d_M_numberOfLinks_48 (by decide) (fun cn => ?_) (fun cn => ?_)
      · have h := h.1 cn
        refine lv_iload_n hx hb d_M_numberOfLinks_62 rfl (lv_at hl 1 rfl) ?_
        refine lv_iconst (v := 2) hx hb d_M_numberOfLinks_63 (by decide) ?_
        refine lv_isub hx hb d_M_numberOfLinks_64 ?_
        refine lv_iconst (v := 2) hx hb d_M_numberOfLinks_65 (by decide) ?_
        refine lv_idiv hx hb d_M_numberOfLinks_66 (by decide) ?_
        refine lv_topi (fun v6 ev6 => ?_)
        have h := h v6 ev6
        refine lv_istore (lv' := [(4, .int v6), (0, .ref (ad 0)), (2, .int x2), (3, .int x3)]) hx hb d_M_numberOfLinks_67 hl (by decide) rfl (fun ls hl => ?_)
        refine lv_iload_n hx hb d_M_numberOfLinks_69 rfl (lv_at hl 2 rfl) ?_
        refine lv_iconst (v := 2) hx hb d_M_numberOfLinks_70 (by decide) ?_
        refine lv_irem hx hb d_M_numberOfLinks_71 (by decide) ?_
        refine lv_if_ne (tgt := 97) hx hb d_M_numberOfLinks_72 (by decide) (fun cn => ?_) (fun cn => ?_)
        · have h := h.1 cn
          refine lv_bipush (v := 16) hx hb d_M_numberOfLinks_97 (by decide) ?_
          refine lv_aload_n hx hb d_M_numberOfLinks_99 rfl (lv_at hl 1 rfl) ?_
          refine va_get (D := D) (ci := 3) (v := .ref (ad 2)) (C := RX3) (T := TX3) (N := 4) hx hb htg inG_X3 hown hK hP 0 rfl rfl 1 (by decide) (htg _ m_218) (fun _ h9 => h9) rfl d_M_numberOfLinks_100 ?_
          refine va_get (D := D) (ci := 2) (v := .ref (ad 10)) (C := RX2) (T := TX2) (N := 10) hx hb htg inG_X2 hown hK hP 2 rfl rfl 0 (by decide) (htg _ m_124) (fun _ h9 => h9) rfl d_M_numberOfLinks_103 ?_
          refine lv_aload_n hx hb d_M_numberOfLinks_106 rfl (lv_at hl 1 rfl) ?_
          refine va_get (D := D) (ci := 3) (v := .ref (ad 2)) (C := RX3) (T := TX3) (N := 4) hx hb htg inG_X3 hown hK hP 0 rfl rfl 1 (by decide) (htg _ m_218) (fun _ h9 => h9) rfl d_M_numberOfLinks_107 ?_
          refine va_get (D := D) (ci := 2) (v := .ref (ad 11)) (C := RX2) (T := TX2) (N := 10) hx hb htg inG_X2 hown hK hP 2 rfl rfl 1 (by decide) (htg _ m_127) (fun _ h9 => h9) rfl d_M_numberOfLinks_110 ?_
          refine lv_iload_n hx hb d_M_numberOfLinks_113 rfl (lv_at hl 3 rfl) ?_
          have hi := h.1
          have h := h.2
          refine va_iald hx hb hK hP 11 0 rfl rfl hi d_M_numberOfLinks_114 ?_
          have hi := h.1
          have h := h.2
          refine va_iald hx hb hK hP 10 0 rfl rfl hi d_M_numberOfLinks_115 ?_
          refine lv_iload hx hb d_M_numberOfLinks_116 (lv_at hl 0 rfl) ?_
          refine lv_iadd hx hb d_M_numberOfLinks_118 ?_
          refine lv_imul hx hb d_M_numberOfLinks_119 ?_
          exact W.iret (v := (16 * ((σ 10 (σ 11 x3.toNatClampNeg).toNatClampNeg) + v6))) hx hb hr (fun t ht hW => ⟨⟨_, σ, rfl, h, kBC_of ht hP⟩, hS.F ht⟩) hS.2.2 d_M_numberOfLinks_120 hlocks
        · have h := h.2 cn
          refine lv_bipush (v := 16) hx hb d_M_numberOfLinks_75 (by decide) ?_
          refine lv_aload_n hx hb d_M_numberOfLinks_77 rfl (lv_at hl 1 rfl) ?_
          refine va_get (D := D) (ci := 3) (v := .ref (ad 3)) (C := RX3) (T := TX3) (N := 4) hx hb htg inG_X3 hown hK hP 0 rfl rfl 2 (by decide) (htg _ m_219) (fun _ h9 => h9) rfl d_M_numberOfLinks_78 ?_
          refine va_get (D := D) (ci := 1) (v := .ref (ad 16)) (C := RX1) (T := TX1) (N := 14) hx hb htg inG_X1 hown hK hP 3 rfl rfl 0 (by decide) (htg _ m_172) (fun _ h9 => h9) rfl d_M_numberOfLinks_81 ?_
          refine lv_aload_n hx hb d_M_numberOfLinks_84 rfl (lv_at hl 1 rfl) ?_
          refine va_get (D := D) (ci := 3) (v := .ref (ad 2)) (C := RX3) (T := TX3) (N := 4) hx hb htg inG_X3 hown hK hP 0 rfl rfl 1 (by decide) (htg _ m_218) (fun _ h9 => h9) rfl d_M_numberOfLinks_85 ?_
          refine lv_iload_n hx hb d_M_numberOfLinks_88 rfl (lv_at hl 3 rfl) ?_
          refine lv_iload hx hb d_M_numberOfLinks_89 (lv_at hl 0 rfl) ?_
          refine kC_i (va_runV (As := [.int x3, .int v6]) (rest := [.ref (ad 16), .int 16]) ⟨hx, hb, hml, hown, htg⟩ (met_P_pointOf l D ad cA cB hap σ H.size x3 v6 _ h) (cwV 2 htg (kG (kG_V m_574 m_476 m_477 m_55 (kG_self m_478))) rfl rfl rfl (by decide +kernel) ⟨Nat.le_of_ble_eq_true rfl, Nat.le_of_ble_eq_true rfl⟩) (kC_preV hK hF hP hS 2 rfl rfl _) rfl rfl hl.1 rfl (lv_room (Nat.le_of_ble_eq_true rfl)) d_M_numberOfLinks_91 ⟨Nat.le_of_ble_eq_true rfl, Nat.le_of_ble_eq_true rfl⟩) hS (fun r8 σ7 H locs h hP hS => ?_)
          have hi := h.1
          have h := h.2
          refine va_iald hx hb hK hP 16 0 rfl rfl hi d_M_numberOfLinks_94 ?_
          refine lv_imul hx hb d_M_numberOfLinks_95 ?_
          exact W.iret (v := (16 * (σ7 16 r8.toNatClampNeg))) hx hb hr (fun t ht hW => ⟨⟨_, σ7, rfl, h, kBC_of ht hP⟩, hS.F ht⟩) hS.2.2 d_M_numberOfLinks_96 hlocks
      · have h := h.2 cn
        refine lv_aload_n hx hb d_M_numberOfLinks_51 rfl (lv_at hl 0 rfl) ?_
        refine va_get (D := D) (ci := 3) (v := .ref (ad 2)) (C := RX3) (T := TX3) (N := 4) hx hb htg inG_X3 hown hK hP 0 rfl rfl 1 (by decide) (htg _ m_218) (fun _ h9 => h9) rfl d_M_numberOfLinks_52 ?_
        refine lv_iload_n hx hb d_M_numberOfLinks_55 rfl (lv_at hl 2 rfl) ?_
        refine kC_i (va_runV (As := [.int x3]) (rest := []) ⟨hx, hb, hml, hown, htg⟩ (met_P_bendsOf l D ad cA cB hap σ H.size x3 _ h) (cwV 1 htg (kG (kG_V m_573 m_458 m_459 m_55 (kG_self m_460))) rfl rfl rfl (by decide +kernel) ⟨Nat.le_of_ble_eq_true rfl, Nat.le_of_ble_eq_true rfl⟩) (kC_preV hK hF hP hS 2 rfl rfl _) rfl rfl hl.1 rfl (lv_room (Nat.le_of_ble_eq_true rfl)) d_M_numberOfLinks_56 ⟨Nat.le_of_ble_eq_true rfl, Nat.le_of_ble_eq_true rfl⟩) hS (fun r10 σ9 H locs h hP hS => ?_)
        refine lv_iconst (v := 2) hx hb d_M_numberOfLinks_59 (by decide) ?_
        refine lv_iadd hx hb d_M_numberOfLinks_60 ?_
        exact W.iret (v := (r10 + 2)) hx hb hr (fun t ht hW => ⟨⟨_, σ9, rfl, h, kBC_of ht hP⟩, hS.F ht⟩) hS.2.2 d_M_numberOfLinks_61 hlocks
    · have h := h.2 cn
      refine lv_iconst (v := 2) hx hb d_M_numberOfLinks_44 (by decide) ?_
      exact W.iret (v := 2) hx hb hr (fun t ht hW => ⟨⟨_, σ, rfl, h, kBC_of ht hP⟩, hS.F ht⟩) hS.2.2 d_M_numberOfLinks_45 hlocks)
  obtain ⟨H, eH⟩ : ∃ z, z = s.heap := ⟨_, rfl⟩
  have hP : va_P D vwCl (wC ad cA cB σ) H := by rw [eH]; exact hP
  have hS : va_S (kAC ad s.heap.size) s.heap H [] := by rw [eH]; exact hS
  show W p l e (headSpec (Cond.code y_M_numberOfLinks c_M_numberOfLinks 5 (some .int) :: wsG) ({ frames := 2, cells := 0, slots := 0, locals := 43 } : Room)).room s m ([.ref (ad 0), .int a1] : List Value).toArray below meth c s.heap [] 0 0 (MQ below (va_Qi post (kBC D ad cA cB) (kAC ad s.heap.size)) ([.ref (ad 0), .int a1] : List Value).toArray s 0 0 (kAC ad s.heap.size)) (F0 m 0 ls [])
  suffices k : W p l e (headSpec (Cond.code y_M_numberOfLinks c_M_numberOfLinks 5 (some .int) :: wsG) ({ frames := 2, cells := 0, slots := 0, locals := 43 } : Room)).room s m ([.ref (ad 0), .int a1] : List Value).toArray below meth c H [] 0 0 (MQ below (va_Qi post (kBC D ad cA cB) (kAC ad s.heap.size)) ([.ref (ad 0), .int a1] : List Value).toArray s 0 0 (kAC ad s.heap.size)) (F0 m 0 ls []) by rw [eH] at k; exact k
  refine lv_iload_n hx hb d_M_numberOfLinks_0 rfl (lv_at hl 1 rfl) ?_
  refine lv_istore_n (lv' := [(2, .int a1), (0, .ref (ad 0)), (1, .int a1)]) hx hb d_M_numberOfLinks_1 rfl hl (by decide) rfl (fun ls hl => ?_)
  refine lv_iconst (v := 0) hx hb d_M_numberOfLinks_2 (by decide) ?_
  refine lv_istore_n (lv' := [(3, .int 0), (2, .int a1), (0, .ref (ad 0)), (1, .int a1)]) hx hb d_M_numberOfLinks_3 rfl hl (by decide) rfl (fun ls hl => ?_)
  rw [hG4] at h
  exact h _ _ _ hP hS (lv_sub hl [2, 1, 0] rfl)
set_option maxHeartbeats 4000000 in
set_option maxRecDepth 100000 in
theorem met_O_groupAt (l : Launch) (D : va_G) (ad : Nat → Nat) (cA cB : ClassId) (hap : kapC ad) (σ : S0) (sz : Nat) (a1 : Int32) (post : Int32 → S0 → Prop) (h : Sp_O_groupAt a1 σ post) : Met l y_O_groupAt (Cond.code y_O_groupAt c_O_groupAt 4 (some .int) :: wsG) ({ frames := 0, cells := 0, slots := 0, locals := 0 } : Room) (kPcC D ad cA cB σ sz [.ref (ad 3), .int a1]) (va_Qi post (kBC D ad cA cB) (kAC ad sz)) 0 0 (kAC ad sz) := by
  refine Met.ofW (cc := c_O_groupAt) (maxL := 4) (ret := (some .int)) (by decide) rfl ?_
  intro p e s m args below meth c s₁ B hml hv
  obtain ⟨rfl, hsz, hP, hK, hF⟩ := hv
  have hx := B.exec
  have hb := B.bytes
  have hr := B.returns
  have hts := atoms_spec (ws := (Cond.code y_O_groupAt c_O_groupAt 4 (some .int) :: wsG)) B.pre
  have htg : ∀ w ∈ wsG, w.before ([.ref (ad 3), .int a1] : List Value).toArray s = true := fun w h => hts w (List.mem_cons_of_mem _ h)
  have hown : s.vm.findClass RX1 = some m.cls := findClass_of_methodNamed B.named
  have hlocks := B.notSynchronized
  subst hsz
  have hD : ∀ σ, va_D (kAC ad s.heap.size) (wC ad cA cB σ) := fun σ => wC_D hap cA cB σ _
  have hS : va_S (kAC ad s.heap.size) s.heap s.heap [] := va_S.rf
  have hE := hF.1
  have hl := lv_entry ([.ref (ad 3), .int a1]) (n := 4) (Nat.le_of_ble_eq_true rfl)
  rw [lg_entry_eq]
  generalize (lg_sl ([.ref (ad 3), .int a1]) ++ List.replicate (4 - (lg_sl ([.ref (ad 3), .int a1])).length) Slot.unset).toArray = ls at hl ⊢
  have hl : lv_has ls 4 [(0, .ref (ad 3)), (1, .int a1)] := hl
  unfold Sp_O_groupAt at h
  obtain ⟨G4, hG4⟩ : ∃ G : Int32 → Int32 → S0 → Prop, G = fun (x2 x3 : Int32) (σ : S0) => ∀ (H : Heap) (locs : List Loc) (ls : Array Slot), va_P D vwCl (wC ad cA cB σ) H → va_S (kAC ad s.heap.size) s.heap H locs → lv_has ls 4 [(0, .ref (ad 3)), (2, .int x2), (3, .int x3)] → W p l e (headSpec (Cond.code y_O_groupAt c_O_groupAt 4 (some .int) :: wsG) ({ frames := 0, cells := 0, slots := 0, locals := 0 } : Room)).room s m ([.ref (ad 3), .int a1] : List Value).toArray below meth c H locs 0 0 (MQ below (va_Qi post (kBC D ad cA cB) (kAC ad s.heap.size)) ([.ref (ad 3), .int a1] : List Value).toArray s 0 0 (kAC ad s.heap.size)) (F0 m 4 ls []) := ⟨_, rfl⟩
  have h := h G4
  have h := h (by
    intro x2 x3 σ h
    rw [hG4]
    intro H locs ls hP hS hl
    refine lv_iload_n hx hb d_O_groupAt_4 rfl (lv_at hl 2 rfl) ?_
    refine lv_aload_n hx hb d_O_groupAt_5 rfl (lv_at hl 0 rfl) ?_
    refine va_get (D := D) (ci := 1) (v := .int (σ 0 10)) (C := RX1) (T := TX1) (N := 14) hx hb htg inG_X1 hown hK hP 3 rfl rfl 12 (by decide) (htg _ m_186) (fun _ h9 => h9) rfl d_O_groupAt_6 ?_
    refine lv_icmp_ge (tgt := 43) hx hb d_O_groupAt_9 (by decide) (fun cn => ?_) (fun cn => ?_)
    · have h := h.1 cn
      refine lv_iconst (v := 0) hx hb d_O_groupAt_43 (by decide) ?_
      exact W.iret (v := 0) hx hb hr (fun t ht hW => ⟨⟨_, σ, rfl, h, kBC_of ht hP⟩, hS.F ht⟩) hS.2.2 d_O_groupAt_44 hlocks
    · have h := h.2 cn
      refine lv_aload_n hx hb d_O_groupAt_12 rfl (lv_at hl 0 rfl) ?_
      refine va_get (D := D) (ci := 1) (v := .ref (ad 18)) (C := RX1) (T := TX1) (N := 14) hx hb htg inG_X1 hown hK hP 3 rfl rfl 3 (by decide) (htg _ m_177) (fun _ h9 => h9) rfl d_O_groupAt_13 ?_
      refine lv_iload_n hx hb d_O_groupAt_16 rfl (lv_at hl 2 rfl) ?_
      have hi := h.1
      have h := h.2
      refine va_iald hx hb hK hP 18 0 rfl rfl hi d_O_groupAt_17 ?_
      refine lv_bipush (v := 16) hx hb d_O_groupAt_18 (by decide) ?_
      refine lv_icmp_ge (tgt := 37) hx hb d_O_groupAt_20 (by decide) (fun cn => ?_) (fun cn => ?_)
      · have h := h.1 cn
        refine lv_iinc (v := (x3 + 1)) (lv' := [(3, .int (x3 + 1)), (0, .ref (ad 3)), (2, .int x2)]) hx hb d_O_groupAt_37 hl (k := 2) rfl rfl (by decide) rfl (fun ls hl => ?_)
        refine lv_goto (tgt := 4) hx hb d_O_groupAt_40 (by decide) ?_
        rw [hG4] at h
        exact h _ _ _ hP hS (lv_sub hl [1, 2, 0] rfl)
      · have h := h.2 cn
        refine lv_iload_n hx hb d_O_groupAt_23 rfl (lv_at hl 1 rfl) ?_
        refine lv_if_ne (tgt := 34) hx hb d_O_groupAt_24 (by decide) (fun cn => ?_) (fun cn => ?_)
        · have h := h.1 cn
          refine lv_iinc (v := (x2 + (-1))) (lv' := [(2, .int (x2 + (-1))), (0, .ref (ad 3)), (3, .int x3)]) hx hb d_O_groupAt_34 hl (k := 1) rfl rfl (by decide) rfl (fun ls hl => ?_)
          refine lv_iinc (v := (x3 + 1)) (lv' := [(3, .int (x3 + 1)), (2, .int (x2 + (-1))), (0, .ref (ad 3))]) hx hb d_O_groupAt_37 hl (k := 2) rfl rfl (by decide) rfl (fun ls hl => ?_)
          refine lv_goto (tgt := 4) hx hb d_O_groupAt_40 (by decide) ?_
          rw [hG4] at h
          exact h _ _ _ hP hS (lv_sub hl [2, 1, 0] rfl)
        · have h := h.2 cn
          refine lv_aload_n hx hb d_O_groupAt_27 rfl (lv_at hl 0 rfl) ?_
          refine va_get (D := D) (ci := 1) (v := .ref (ad 18)) (C := RX1) (T := TX1) (N := 14) hx hb htg inG_X1 hown hK hP 3 rfl rfl 3 (by decide) (htg _ m_177) (fun _ h9 => h9) rfl d_O_groupAt_28 ?_
          refine lv_iload_n hx hb d_O_groupAt_31 rfl (lv_at hl 2 rfl) ?_
          have hi := h.1
          have h := h.2
          refine va_iald hx hb hK hP 18 0 rfl rfl hi d_O_groupAt_32 ?_
          exact W.iret (v := (σ 18 x3.toNatClampNeg)) hx hb hr (fun t ht hW => ⟨⟨_, σ, rfl, h, kBC_of ht hP⟩, hS.F ht⟩) hS.2.2 d_O_groupAt_33 hlocks)
  obtain ⟨H, eH⟩ : ∃ z, z = s.heap := ⟨_, rfl⟩
  have hP : va_P D vwCl (wC ad cA cB σ) H := by rw [eH]; exact hP
  have hS : va_S (kAC ad s.heap.size) s.heap H [] := by rw [eH]; exact hS
  show W p l e (headSpec (Cond.code y_O_groupAt c_O_groupAt 4 (some .int) :: wsG) ({ frames := 0, cells := 0, slots := 0, locals := 0 } : Room)).room s m ([.ref (ad 3), .int a1] : List Value).toArray below meth c s.heap [] 0 0 (MQ below (va_Qi post (kBC D ad cA cB) (kAC ad s.heap.size)) ([.ref (ad 3), .int a1] : List Value).toArray s 0 0 (kAC ad s.heap.size)) (F0 m 0 ls [])
  suffices k : W p l e (headSpec (Cond.code y_O_groupAt c_O_groupAt 4 (some .int) :: wsG) ({ frames := 0, cells := 0, slots := 0, locals := 0 } : Room)).room s m ([.ref (ad 3), .int a1] : List Value).toArray below meth c H [] 0 0 (MQ below (va_Qi post (kBC D ad cA cB) (kAC ad s.heap.size)) ([.ref (ad 3), .int a1] : List Value).toArray s 0 0 (kAC ad s.heap.size)) (F0 m 0 ls []) by rw [eH] at k; exact k
  refine lv_iload_n hx hb d_O_groupAt_0 rfl (lv_at hl 1 rfl) ?_
  refine lv_istore_n (lv' := [(2, .int a1), (0, .ref (ad 3)), (1, .int a1)]) hx hb d_O_groupAt_1 rfl hl (by decide) rfl (fun ls hl => ?_)
  refine lv_iconst (v := 0) hx hb d_O_groupAt_2 (by decide) ?_
  refine lv_istore_n (lv' := [(3, .int 0), (2, .int a1), (0, .ref (ad 3)), (1, .int a1)]) hx hb d_O_groupAt_3 rfl hl (by decide) rfl (fun ls hl => ?_)
  rw [hG4] at h
  exact h _ _ _ hP hS (lv_sub hl [2, 1, 0] rfl)
set_option maxHeartbeats 4000000 in
set_option maxRecDepth 100000 in
theorem met_M_numberOfGroups (l : Launch) (D : va_G) (ad : Nat → Nat) (cA cB : ClassId) (hap : kapC ad) (σ : S0) (sz : Nat) (a1 : Int32) (post : Int32 → S0 → Prop) (h : Sp_M_numberOfGroups a1 σ post) : Met l y_M_numberOfGroups (Cond.code y_M_numberOfGroups c_M_numberOfGroups 3 (some .int) :: wsG) ({ frames := 1, cells := 0, slots := 0, locals := 23 } : Room) (kPcC D ad cA cB σ sz [.ref (ad 0), .int a1]) (va_Qi post (kBC D ad cA cB) (kAC ad sz)) 0 0 (kAC ad sz) := by
  refine Met.ofW (cc := c_M_numberOfGroups) (maxL := 3) (ret := (some .int)) (by decide) rfl ?_
  intro p e s m args below meth c s₁ B hml hv
  obtain ⟨rfl, hsz, hP, hK, hF⟩ := hv
  have hx := B.exec
  have hb := B.bytes
  have hr := B.returns
  have hts := atoms_spec (ws := (Cond.code y_M_numberOfGroups c_M_numberOfGroups 3 (some .int) :: wsG)) B.pre
  have htg : ∀ w ∈ wsG, w.before ([.ref (ad 0), .int a1] : List Value).toArray s = true := fun w h => hts w (List.mem_cons_of_mem _ h)
  have hown : s.vm.findClass RX3 = some m.cls := findClass_of_methodNamed B.named
  have hlocks := B.notSynchronized
  subst hsz
  have hD : ∀ σ, va_D (kAC ad s.heap.size) (wC ad cA cB σ) := fun σ => wC_D hap cA cB σ _
  have hS : va_S (kAC ad s.heap.size) s.heap s.heap [] := va_S.rf
  have hE := hF.1
  have hl := lv_entry ([.ref (ad 0), .int a1]) (n := 3) (Nat.le_of_ble_eq_true rfl)
  rw [lg_entry_eq]
  generalize (lg_sl ([.ref (ad 0), .int a1]) ++ List.replicate (3 - (lg_sl ([.ref (ad 0), .int a1])).length) Slot.unset).toArray = ls at hl ⊢
  have hl : lv_has ls 3 [(0, .ref (ad 0)), (1, .int a1)] := hl
  unfold Sp_M_numberOfGroups at h
  obtain ⟨H, eH⟩ : ∃ z, z = s.heap := ⟨_, rfl⟩
  have hP : va_P D vwCl (wC ad cA cB σ) H := by rw [eH]; exact hP
  have hS : va_S (kAC ad s.heap.size) s.heap H [] := by rw [eH]; exact hS
  show W p l e (headSpec (Cond.code y_M_numberOfGroups c_M_numberOfGroups 3 (some .int) :: wsG) ({ frames := 1, cells := 0, slots := 0, locals := 23 } : Room)).room s m ([.ref (ad 0), .int a1] : List Value).toArray below meth c s.heap [] 0 0 (MQ below (va_Qi post (kBC D ad cA cB) (kAC ad s.heap.size)) ([.ref (ad 0), .int a1] : List Value).toArray s 0 0 (kAC ad s.heap.size)) (F0 m 0 ls [])
  suffices k : W p l e (headSpec (Cond.code y_M_numberOfGroups c_M_numberOfGroups 3 (some .int) :: wsG) ({ frames := 1, cells := 0, slots := 0, locals := 23 } : Room)).room s m ([.ref (ad 0), .int a1] : List Value).toArray below meth c H [] 0 0 (MQ below (va_Qi post (kBC D ad cA cB) (kAC ad s.heap.size)) ([.ref (ad 0), .int a1] : List Value).toArray s 0 0 (kAC ad s.heap.size)) (F0 m 0 ls []) by rw [eH] at k; exact k
  refine lv_aload_n hx hb d_M_numberOfGroups_0 rfl (lv_at hl 0 rfl) ?_
  refine va_get (D := D) (ci := 3) (v := .ref (ad 3)) (C := RX3) (T := TX3) (N := 4) hx hb htg inG_X3 hown hK hP 0 rfl rfl 2 (by decide) (htg _ m_219) (fun _ h9 => h9) rfl d_M_numberOfGroups_1 ?_
  refine lv_iload_n hx hb d_M_numberOfGroups_4 rfl (lv_at hl 1 rfl) ?_
  refine lv_iconst (v := 4) hx hb d_M_numberOfGroups_5 (by decide) ?_
  refine lv_idiv hx hb d_M_numberOfGroups_6 (by decide) ?_
  refine kC_i (va_runV (As := [.int (a1 / 4)]) (rest := []) ⟨hx, hb, hml, hown, htg⟩ (met_O_groupAt l D ad cA cB hap σ H.size (a1 / 4) _ h) (cwV 1 htg (kG (kG_V m_592 m_593 m_594 m_56 (kG_self m_595))) rfl rfl rfl (by decide +kernel) ⟨Nat.le_of_ble_eq_true rfl, Nat.le_of_ble_eq_true rfl⟩) (kC_preV hK hF hP hS 3 rfl rfl _) rfl rfl hl.1 rfl (lv_room (Nat.le_of_ble_eq_true rfl)) d_M_numberOfGroups_7 ⟨Nat.le_of_ble_eq_true rfl, Nat.le_of_ble_eq_true rfl⟩) hS (fun r2 σ1 H locs h hP hS => ?_)
  refine lv_istore_n (lv' := [(2, .int r2), (0, .ref (ad 0)), (1, .int a1)]) hx hb d_M_numberOfGroups_10 rfl hl (by decide) rfl (fun ls hl => ?_)
  refine lv_iload_n hx hb d_M_numberOfGroups_11 rfl (lv_at hl 2 rfl) ?_
  refine lv_iconst (v := 4) hx hb d_M_numberOfGroups_12 (by decide) ?_
  refine lv_irem hx hb d_M_numberOfGroups_13 (by decide) ?_
  by_cases cn0 : (a1 - a1 / 4 * 4) = 0
  · have h := h.1.1 cn0
    refine lv_tableIn (tgt := 40) hx hb d_M_numberOfGroups_14 (by rw [cn0]; decide) (by rw [cn0]; decide) (by rw [cn0]; rfl) (by decide) ?_
    refine lv_iconst (v := 1) hx hb d_M_numberOfGroups_40 (by decide) ?_
    exact W.iret (v := 1) hx hb hr (fun t ht hW => ⟨⟨_, σ1, rfl, h, kBC_of ht hP⟩, hS.F ht⟩) hS.2.2 d_M_numberOfGroups_41 hlocks
  by_cases cn1 : (a1 - a1 / 4 * 4) = 1
  · have h := h.1.2.1 cn1
    refine lv_tableIn (tgt := 42) hx hb d_M_numberOfGroups_14 (by rw [cn1]; decide) (by rw [cn1]; decide) (by rw [cn1]; rfl) (by decide) ?_
    refine lv_iload_n hx hb d_M_numberOfGroups_42 rfl (lv_at hl 0 rfl) ?_
    exact W.iret (v := r2) hx hb hr (fun t ht hW => ⟨⟨_, σ1, rfl, h, kBC_of ht hP⟩, hS.F ht⟩) hS.2.2 d_M_numberOfGroups_43 hlocks
  by_cases cn2 : (a1 - a1 / 4 * 4) = 2
  · have h := h.1.2.2 cn2
    refine lv_tableIn (tgt := 44) hx hb d_M_numberOfGroups_14 (by rw [cn2]; decide) (by rw [cn2]; decide) (by rw [cn2]; rfl) (by decide) ?_
    refine lv_bipush (v := 16) hx hb d_M_numberOfGroups_44 (by decide) ?_
    refine lv_aload_n hx hb d_M_numberOfGroups_46 rfl (lv_at hl 1 rfl) ?_
    refine va_get (D := D) (ci := 3) (v := .ref (ad 3)) (C := RX3) (T := TX3) (N := 4) hx hb htg inG_X3 hown hK hP 0 rfl rfl 2 (by decide) (htg _ m_219) (fun _ h9 => h9) rfl d_M_numberOfGroups_47 ?_
    refine va_get (D := D) (ci := 1) (v := .ref (ad 16)) (C := RX1) (T := TX1) (N := 14) hx hb htg inG_X1 hown hK hP 3 rfl rfl 0 (by decide) (htg _ m_172) (fun _ h9 => h9) rfl d_M_numberOfGroups_50 ?_
    refine lv_iload_n hx hb d_M_numberOfGroups_53 rfl (lv_at hl 0 rfl) ?_
    have hi := h.1
    have h := h.2
    refine va_iald hx hb hK hP 16 0 rfl rfl hi d_M_numberOfGroups_54 ?_
    refine lv_imul hx hb d_M_numberOfGroups_55 ?_
    exact W.iret (v := (16 * (σ1 16 r2.toNatClampNeg))) hx hb hr (fun t ht hW => ⟨⟨_, σ1, rfl, h, kBC_of ht hP⟩, hS.F ht⟩) hS.2.2 d_M_numberOfGroups_56 hlocks
  have h := h.2 ⟨cn0, cn1, cn2⟩
  refine lv_tableOut (tgt := 57) hx hb d_M_numberOfGroups_14 (sw_out 2 (by decide) (fun j hj => by rcases Nat.lt_or_ge j 1 with q | q; (have : j = 0 := by omega); subst this; exact cn0; rcases Nat.lt_or_ge j 2 with q | q; (have : j = 1 := by omega); subst this; exact cn1; rcases Nat.lt_or_ge j 3 with q | q; (have : j = 2 := by omega); subst this; exact cn2; omega)) (by decide) ?_
  refine lv_bipush (v := 16) hx hb d_M_numberOfGroups_57 (by decide) ?_
  refine lv_aload_n hx hb d_M_numberOfGroups_59 rfl (lv_at hl 1 rfl) ?_
  refine va_get (D := D) (ci := 3) (v := .ref (ad 2)) (C := RX3) (T := TX3) (N := 4) hx hb htg inG_X3 hown hK hP 0 rfl rfl 1 (by decide) (htg _ m_218) (fun _ h9 => h9) rfl d_M_numberOfGroups_60 ?_
  refine va_get (D := D) (ci := 2) (v := .ref (ad 10)) (C := RX2) (T := TX2) (N := 10) hx hb htg inG_X2 hown hK hP 2 rfl rfl 0 (by decide) (htg _ m_124) (fun _ h9 => h9) rfl d_M_numberOfGroups_63 ?_
  refine lv_iload_n hx hb d_M_numberOfGroups_66 rfl (lv_at hl 0 rfl) ?_
  have hi := h.1
  have h := h.2
  refine va_iald hx hb hK hP 10 0 rfl rfl hi d_M_numberOfGroups_67 ?_
  refine lv_imul hx hb d_M_numberOfGroups_68 ?_
  exact W.iret (v := (16 * (σ1 10 r2.toNatClampNeg))) hx hb hr (fun t ht hW => ⟨⟨_, σ1, rfl, h, kBC_of ht hP⟩, hS.F ht⟩) hS.2.2 d_M_numberOfGroups_69 hlocks
