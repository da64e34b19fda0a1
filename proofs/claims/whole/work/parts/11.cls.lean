set_option maxHeartbeats 4000000 in
set_option maxRecDepth 100000 in
theorem met_M_has (l : Launch) (D : va_G) (ad : Nat → Nat) (cA cB : ClassId) (hap : kapC ad) (σ : S0) (sz : Nat) (a0 a1 : Int32) (post : Int32 → S0 → Prop) (h : Sp_M_has a0 a1 σ post) : Met l y_M_has (Cond.code y_M_has c_M_has 2 (some .boolean) :: wsG) ({ frames := 0, cells := 0, slots := 0, locals := 0 } : Room) (kPcC D ad cA cB σ sz [.int a0, .int a1]) (va_Qi post (kBC D ad cA cB) (kAC ad sz)) 0 0 (kAC ad sz) := by
  refine Met.ofW (cc := c_M_has) (maxL := 2) (ret := (some .boolean)) (by decide) rfl ?_
  intro p e s m args below meth c s₁ B hml hv
  obtain ⟨rfl, hsz, hP, hK, hF⟩ := hv
  have hx := B.exec
  have hb := B.bytes
  have hr := B.returns
  have hts := atoms_spec (ws := (Cond.code y_M_has c_M_has 2 (some .boolean) :: wsG)) B.pre
  have htg : ∀ w ∈ wsG, w.before ([.int a0, .int a1] : List Value).toArray s = true := fun w h => hts w (List.mem_cons_of_mem _ h)
  have hown : s.vm.findClass RX3 = some m.cls := findClass_of_methodNamed B.named
  have hlocks := B.notSynchronized
  subst hsz
  have hD : ∀ σ, va_D (kAC ad s.heap.size) (wC ad cA cB σ) := fun σ => wC_D hap cA cB σ _
  have hS : va_S (kAC ad s.heap.size) s.heap s.heap [] := va_S.rf
  have hE := hF.1
  have hl := lv_entry ([.int a0, .int a1]) (n := 2) (Nat.le_of_ble_eq_true rfl)
  rw [lg_entry_eq]
  generalize (lg_sl ([.int a0, .int a1]) ++ List.replicate (2 - (lg_sl ([.int a0, .int a1])).length) Slot.unset).toArray = ls at hl ⊢
  have hl : lv_has ls 2 [(0, .int a0), (1, .int a1)] := hl
  unfold Sp_M_has at h
  obtain ⟨H, eH⟩ : ∃ z, z = s.heap := ⟨_, rfl⟩
  have hP : va_P D vwCl (wC ad cA cB σ) H := by rw [eH]; exact hP
  have hS : va_S (kAC ad s.heap.size) s.heap H [] := by rw [eH]; exact hS
  show W p l e (headSpec (Cond.code y_M_has c_M_has 2 (some .boolean) :: wsG) ({ frames := 0, cells := 0, slots := 0, locals := 0 } : Room)).room s m ([.int a0, .int a1] : List Value).toArray below meth c s.heap [] 0 0 (MQ below (va_Qi post (kBC D ad cA cB) (kAC ad s.heap.size)) ([.int a0, .int a1] : List Value).toArray s 0 0 (kAC ad s.heap.size)) (F0 m 0 ls [])
  suffices k : W p l e (headSpec (Cond.code y_M_has c_M_has 2 (some .boolean) :: wsG) ({ frames := 0, cells := 0, slots := 0, locals := 0 } : Room)).room s m ([.int a0, .int a1] : List Value).toArray below meth c H [] 0 0 (MQ below (va_Qi post (kBC D ad cA cB) (kAC ad s.heap.size)) ([.int a0, .int a1] : List Value).toArray s 0 0 (kAC ad s.heap.size)) (F0 m 0 ls []) by rw [eH] at k; exact k
  refine lv_iload_n hx hb d_M_has_0 rfl (lv_at hl 0 rfl) ?_
  refine lv_iload_n hx hb d_M_has_1 rfl (lv_at hl 1 rfl) ?_
  refine lv_ishr hx hb d_M_has_2 ?_
  refine lv_iconst (v := 1) hx hb d_M_has_3 (by decide) ?_
  refine lv_iand hx hb d_M_has_4 ?_
  refine lv_if_eq (tgt := 12) hx hb d_M_has_5 (by decide) (fun cn => ?_) (fun cn => ?_)
  · have h := h.1 cn
    refine lv_iconst (v := 0) hx hb d_M_has_12 (by decide) ?_
    exact W.zret (v := 0) hx hb hr rfl (fun t ht hW => ⟨⟨_, σ, rfl, h, kBC_of ht hP⟩, hS.F ht⟩) hS.2.2 d_M_has_13 hlocks
  · have h := h.2 cn
    refine lv_iconst (v := 1) hx hb d_M_has_8 (by decide) ?_
    refine lv_goto (tgt := 13) hx hb d_M_has_9 (by decide) ?_
    exact W.zret (v := 1) hx hb hr rfl (fun t ht hW => ⟨⟨_, σ, rfl, h, kBC_of ht hP⟩, hS.F ht⟩) hS.2.2 d_M_has_13 hlocks
set_option maxHeartbeats 4000000 in
set_option maxRecDepth 100000 in
theorem met_D_leadersOf (l : Launch) (D : va_G) (ad : Nat → Nat) (cA cB : ClassId) (hap : kapC ad) (σ : S0) (sz : Nat) (a1 : Int32) (post : Int32 → S0 → Prop) (h : Sp_D_leadersOf a1 σ post) : Met l y_D_leadersOf (Cond.code y_D_leadersOf c_D_leadersOf 4 (some .int) :: wsG) ({ frames := 1, cells := 0, slots := 0, locals := 21 } : Room) (kPcC D ad cA cB σ sz [.ref (ad 1), .int a1]) (va_Qi post (kBC D ad cA cB) (kAC ad sz)) 0 0 (kAC ad sz) := by
  refine Met.ofW (cc := c_D_leadersOf) (maxL := 4) (ret := (some .int)) (by decide) rfl ?_
  intro p e s m args below meth c s₁ B hml hv
  obtain ⟨rfl, hsz, hP, hK, hF⟩ := hv
  have hx := B.exec
  have hb := B.bytes
  have hr := B.returns
  have hts := atoms_spec (ws := (Cond.code y_D_leadersOf c_D_leadersOf 4 (some .int) :: wsG)) B.pre
  have htg : ∀ w ∈ wsG, w.before ([.ref (ad 1), .int a1] : List Value).toArray s = true := fun w h => hts w (List.mem_cons_of_mem _ h)
  have hown : s.vm.findClass RX0 = some m.cls := findClass_of_methodNamed B.named
  have hlocks := B.notSynchronized
  subst hsz
  have hD : ∀ σ, va_D (kAC ad s.heap.size) (wC ad cA cB σ) := fun σ => wC_D hap cA cB σ _
  have hS : va_S (kAC ad s.heap.size) s.heap s.heap [] := va_S.rf
  have hE := hF.1
  have hl := lv_entry ([.ref (ad 1), .int a1]) (n := 4) (Nat.le_of_ble_eq_true rfl)
  rw [lg_entry_eq]
  generalize (lg_sl ([.ref (ad 1), .int a1]) ++ List.replicate (4 - (lg_sl ([.ref (ad 1), .int a1])).length) Slot.unset).toArray = ls at hl ⊢
  have hl : lv_has ls 4 [(0, .ref (ad 1)), (1, .int a1)] := hl
  unfold Sp_D_leadersOf at h
  obtain ⟨G4, hG4⟩ : ∃ G : Int32 → Int32 → Int32 → S0 → Prop, G = fun (x1 x2 x3 : Int32) (σ : S0) => ∀ (H : Heap) (locs : List Loc) (ls : Array Slot), va_P D vwCl (wC ad cA cB σ) H → va_S (kAC ad s.heap.size) s.heap H locs → lv_has ls 4 [(0, .ref (ad 1)), (1, .int x1), (2, .int x2), (3, .int x3)] → W p l e (headSpec (Cond.code y_D_leadersOf c_D_leadersOf 4 (some .int) :: wsG) ({ frames := 1, cells := 0, slots := 0, locals := 21 } : Room)).room s m ([.ref (ad 1), .int a1] : List Value).toArray below meth c H locs 0 0 (MQ below (va_Qi post (kBC D ad cA cB) (kAC ad s.heap.size)) ([.ref (ad 1), .int a1] : List Value).toArray s 0 0 (kAC ad s.heap.size)) (F0 m 4 ls []) := ⟨_, rfl⟩
  have h := h G4
  have h := h (by
    intro x1 x2 x3 σ h
    rw [hG4]
    intro H locs ls hP hS hl
    refine lv_iload_n hx hb d_D_leadersOf_4 rfl (lv_at hl 3 rfl) ?_
    refine lv_bipush (v := 16) hx hb d_D_leadersOf_5 (by decide) ?_
    refine lv_icmp_ge (tgt := 35) hx hb d_D_leadersOf_7 (by decide) (fun cn => ?_) (fun cn => ?_)
    · have h := h.1 cn
      refine lv_iload_n hx hb d_D_leadersOf_35 rfl (lv_at hl 2 rfl) ?_
      exact W.iret (v := x2) hx hb hr (fun t ht hW => ⟨⟨_, σ, rfl, h, kBC_of ht hP⟩, hS.F ht⟩) hS.2.2 d_D_leadersOf_36 hlocks
    · have h := h.2 cn
      refine lv_iload_n hx hb d_D_leadersOf_10 rfl (lv_at hl 1 rfl) ?_
      refine lv_iload_n hx hb d_D_leadersOf_11 rfl (lv_at hl 3 rfl) ?_
      refine kC_i (va_runSN (As := [.int x1, .int x3]) (rest := []) ⟨hx, hb, hml, hown, htg⟩ (met_M_has l D ad cA cB hap σ H.size x1 x3 _ h) ⟨va_cnB (host := "MatrixSheets") 2 htg (kG (kG_self m_318)) rfl rfl rfl (hE _ me_316) (htg _ m_53) (by decide +kernel) ⟨Nat.le_of_ble_eq_true rfl, Nat.le_of_ble_eq_true rfl⟩, htg _ m_317, trivial⟩ (kC_pre hK hF hP hS _) rfl rfl hl.1 rfl (lv_room (Nat.le_of_ble_eq_true rfl)) d_D_leadersOf_12 ⟨Nat.le_of_ble_eq_true rfl, Nat.le_of_ble_eq_true rfl⟩) hS (fun r2 σ1 H locs h hP hS => ?_)
      refine lv_if_eq (tgt := 29) hx hb d_D_leadersOf_15 (by decide) (fun cn => ?_) (fun cn => ?_)
      · have h := h.1 cn
        refine lv_iinc (v := (x3 + 1)) (lv' := [(3, .int (x3 + 1)), (0, .ref (ad 1)), (1, .int x1), (2, .int x2)]) hx hb d_D_leadersOf_29 hl (k := 3) rfl rfl (by decide) rfl (fun ls hl => ?_)
        refine lv_goto (tgt := 4) hx hb d_D_leadersOf_32 (by decide) ?_
        rw [hG4] at h
        exact h _ _ _ hP hS (lv_sub hl [1, 2, 3, 0] rfl)
      · have h := h.2 cn
        refine lv_iload_n hx hb d_D_leadersOf_18 rfl (lv_at hl 2 rfl) ?_
        refine lv_iconst (v := 1) hx hb d_D_leadersOf_19 (by decide) ?_
        refine lv_aload_n hx hb d_D_leadersOf_20 rfl (lv_at hl 0 rfl) ?_
        refine va_get (D := D) (ci := 0) (v := .ref (ad 4)) (C := RX0) (T := TX0) (N := 9) hx hb htg inG_X0 hown hK hP 1 rfl rfl 0 (by decide) (htg _ m_81) (fun _ h9 => h9) rfl d_D_leadersOf_21 ?_
        refine lv_iload_n hx hb d_D_leadersOf_24 rfl (lv_at hl 3 rfl) ?_
        have hi := h.1
        have h := h.2
        refine va_iald hx hb hK hP 4 0 rfl rfl hi d_D_leadersOf_25 ?_
        refine lv_ishl hx hb d_D_leadersOf_26 ?_
        refine lv_ior hx hb d_D_leadersOf_27 ?_
        refine lv_topi (fun v3 ev3 => ?_)
        have h := h v3 ev3
        refine lv_istore_n (lv' := [(2, .int v3), (0, .ref (ad 1)), (1, .int x1), (3, .int x3)]) hx hb d_D_leadersOf_28 rfl hl (by decide) rfl (fun ls hl => ?_)
        refine lv_iinc (v := (x3 + 1)) (lv' := [(3, .int (x3 + 1)), (2, .int v3), (0, .ref (ad 1)), (1, .int x1)]) hx hb d_D_leadersOf_29 hl (k := 3) rfl rfl (by decide) rfl (fun ls hl => ?_)
        refine lv_goto (tgt := 4) hx hb d_D_leadersOf_32 (by decide) ?_
        rw [hG4] at h
        exact h _ _ _ hP hS (lv_sub hl [2, 3, 1, 0] rfl))
  obtain ⟨H, eH⟩ : ∃ z, z = s.heap := ⟨_, rfl⟩
  have hP : va_P D vwCl (wC ad cA cB σ) H := by rw [eH]; exact hP
  have hS : va_S (kAC ad s.heap.size) s.heap H [] := by rw [eH]; exact hS
  show W p l e (headSpec (Cond.code y_D_leadersOf c_D_leadersOf 4 (some .int) :: wsG) ({ frames := 1, cells := 0, slots := 0, locals := 21 } : Room)).room s m ([.ref (ad 1), .int a1] : List Value).toArray below meth c s.heap [] 0 0 (MQ below (va_Qi post (kBC D ad cA cB) (kAC ad s.heap.size)) ([.ref (ad 1), .int a1] : List Value).toArray s 0 0 (kAC ad s.heap.size)) (F0 m 0 ls [])
  suffices k : W p l e (headSpec (Cond.code y_D_leadersOf c_D_leadersOf 4 (some .int) :: wsG) ({ frames := 1, cells := 0, slots := 0, locals := 21 } : Room)).room s m ([.ref (ad 1), .int a1] : List Value).toArray below meth c H [] 0 0 (MQ below (va_Qi post (kBC D ad cA cB) (kAC ad s.heap.size)) ([.ref (ad 1), .int a1] : List Value).toArray s 0 0 (kAC ad s.heap.size)) (F0 m 0 ls []) by rw [eH] at k; exact k
  refine lv_iconst (v := 0) hx hb d_D_leadersOf_0 (by decide) ?_
  refine lv_istore_n (lv' := [(2, .int 0), (0, .ref (ad 1)), (1, .int a1)]) hx hb d_D_leadersOf_1 rfl hl (by decide) rfl (fun ls hl => ?_)
  refine lv_iconst (v := 0) hx hb d_D_leadersOf_2 (by decide) ?_
  refine lv_istore_n (lv' := [(3, .int 0), (2, .int 0), (0, .ref (ad 1)), (1, .int a1)]) hx hb d_D_leadersOf_3 rfl hl (by decide) rfl (fun ls hl => ?_)
  rw [hG4] at h
  exact h _ _ _ hP hS (lv_sub hl [2, 3, 1, 0] rfl)
set_option maxHeartbeats 4000000 in
set_option maxRecDepth 100000 in
theorem met_M_goOn_9 (l : Launch) (D : va_G) (ad : Nat → Nat) (cA cB : ClassId) (hap : kapC ad) (σ : S0) (sz : Nat) (a1 : Int32) (post : S0 → Prop) (h : Sp_M_goOn_9 a1 σ post) : Met l y_M_goOn (Cond.code y_M_goOn c_M_goOn 4 none :: wsG) ({ frames := 1, cells := 0, slots := 0, locals := 21 } : Room) (kPcC D ad cA cB σ sz [.ref (ad 9), .int a1]) (va_Qv post (kBC D ad cA cB) (kAC ad sz)) 0 0 (kAC ad sz) := by
  refine Met.ofW (cc := c_M_goOn) (maxL := 4) (ret := none) (by decide) rfl ?_
  intro p e s m args below meth c s₁ B hml hv
  obtain ⟨rfl, hsz, hP, hK, hF⟩ := hv
  have hx := B.exec
  have hb := B.bytes
  have hr := B.returns
  have hts := atoms_spec (ws := (Cond.code y_M_goOn c_M_goOn 4 none :: wsG)) B.pre
  have htg : ∀ w ∈ wsG, w.before ([.ref (ad 9), .int a1] : List Value).toArray s = true := fun w h => hts w (List.mem_cons_of_mem _ h)
  have hown : s.vm.findClass RX3 = some m.cls := findClass_of_methodNamed B.named
  have hlocks := B.notSynchronized
  subst hsz
  have hD : ∀ σ, va_D (kAC ad s.heap.size) (wC ad cA cB σ) := fun σ => wC_D hap cA cB σ _
  have hS : va_S (kAC ad s.heap.size) s.heap s.heap [] := va_S.rf
  have hE := hF.1
  have hl := lv_entry ([.ref (ad 9), .int a1]) (n := 4) (Nat.le_of_ble_eq_true rfl)
  rw [lg_entry_eq]
  generalize (lg_sl ([.ref (ad 9), .int a1]) ++ List.replicate (4 - (lg_sl ([.ref (ad 9), .int a1])).length) Slot.unset).toArray = ls at hl ⊢
  have hl : lv_has ls 4 [(0, .ref (ad 9)), (1, .int a1)] := hl
  unfold Sp_M_goOn_9 at h
  obtain ⟨G2, hG2⟩ : ∃ G : Int32 → Int32 → S0 → Prop, G = fun (x1 x2 : Int32) (σ : S0) => ∀ (H : Heap) (locs : List Loc) (ls : Array Slot), va_P D vwCl (wC ad cA cB σ) H → va_S (kAC ad s.heap.size) s.heap H locs → lv_has ls 4 [(0, .ref (ad 9)), (1, .int x1), (2, .int x2)] → W p l e (headSpec (Cond.code y_M_goOn c_M_goOn 4 none :: wsG) ({ frames := 1, cells := 0, slots := 0, locals := 21 } : Room)).room s m ([.ref (ad 9), .int a1] : List Value).toArray below meth c H locs 0 0 (MQ below (va_Qv post (kBC D ad cA cB) (kAC ad s.heap.size)) ([.ref (ad 9), .int a1] : List Value).toArray s 0 0 (kAC ad s.heap.size)) (F0 m 2 ls []) := ⟨_, rfl⟩
  obtain ⟨G10, hG10⟩ : ∃ G : Int32 → Int32 → Int32 → S0 → Prop, G = fun (x1 x2 x3 : Int32) (σ : S0) => ∀ (H : Heap) (locs : List Loc) (ls : Array Slot), va_P D vwCl (wC ad cA cB σ) H → va_S (kAC ad s.heap.size) s.heap H locs → lv_has ls 4 [(0, .ref (ad 9)), (1, .int x1), (2, .int x2), (3, .int x3)] → W p l e (headSpec (Cond.code y_M_goOn c_M_goOn 4 none :: wsG) ({ frames := 1, cells := 0, slots := 0, locals := 21 } : Room)).room s m ([.ref (ad 9), .int a1] : List Value).toArray below meth c H locs 0 0 (MQ below (va_Qv post (kBC D ad cA cB) (kAC ad s.heap.size)) ([.ref (ad 9), .int a1] : List Value).toArray s 0 0 (kAC ad s.heap.size)) (F0 m 10 ls []) := ⟨_, rfl⟩
  have h := h G2 G10
  have h := h (by
    intro x1 x2 σ h
    rw [hG2]
    intro H locs ls hP hS hl
    refine lv_iload_n hx hb d_M_goOn_2 rfl (lv_at hl 2 rfl) ?_
    refine lv_bipush (v := 16) hx hb d_M_goOn_3 (by decide) ?_
    refine lv_icmp_ge (tgt := 55) hx hb d_M_goOn_5 (by decide) (fun cn => ?_) (fun cn => ?_)
    · have h := h.1 cn
      exact W.vret hx hb hr (fun t ht hW => ⟨⟨σ, rfl, h, kBC_of ht hP⟩, hS.F ht⟩) hS.2.2 d_M_goOn_55 hlocks
    · have h := h.2 cn
      refine lv_iconst (v := 0) hx hb d_M_goOn_8 (by decide) ?_
      refine lv_istore_n (lv' := [(3, .int 0), (0, .ref (ad 9)), (1, .int x1), (2, .int x2)]) hx hb d_M_goOn_9 rfl hl (by decide) rfl (fun ls hl => ?_)
      rw [hG10] at h
      exact h _ _ _ hP hS (lv_sub hl [1, 2, 3, 0] rfl))
  have h := h (by
    intro x1 x2 x3 σ h
    rw [hG10]
    intro H locs ls hP hS hl
    refine lv_iload_n hx hb d_M_goOn_10 rfl (lv_at hl 3 rfl) ?_
    refine lv_bipush (v := 16) hx hb d_M_goOn_11 (by decide) ?_
    refine lv_icmp_ge (tgt := 49) hx hb d_M_goOn_13 (by decide) (fun cn => ?_) (fun cn => ?_)
    · have h := h.1 cn
      refine lv_iinc (v := (x2 + 1)) (lv' := [(2, .int (x2 + 1)), (0, .ref (ad 9)), (1, .int x1), (3, .int x3)]) hx hb d_M_goOn_49 hl (k := 2) rfl rfl (by decide) rfl (fun ls hl => ?_)
      refine lv_goto (tgt := 2) hx hb d_M_goOn_52 (by decide) ?_
      rw [hG2] at h
      exact h _ _ _ hP hS (lv_sub hl [1, 2, 0] rfl)
    · have h := h.2 cn
      refine lv_iload_n hx hb d_M_goOn_16 rfl (lv_at hl 1 rfl) ?_
      refine lv_iload_n hx hb d_M_goOn_17 rfl (lv_at hl 2 rfl) ?_
      refine kC_i (va_runS (As := [.int x1, .int x2]) (rest := []) ⟨hx, hb, hml, hown, htg⟩ (met_M_has l D ad cA cB hap σ H.size x1 x2 _ h) (cwS 2 htg (kG (kG_S m_337 m_317 m_53 (kG_self m_318))) rfl rfl rfl (by decide +kernel) ⟨Nat.le_of_ble_eq_true rfl, Nat.le_of_ble_eq_true rfl⟩) (kC_pre hK hF hP hS _) rfl rfl hl.1 rfl (lv_room (Nat.le_of_ble_eq_true rfl)) d_M_goOn_18 ⟨Nat.le_of_ble_eq_true rfl, Nat.le_of_ble_eq_true rfl⟩) hS (fun r2 σ1 H locs h hP hS => ?_)
      refine lv_if_eq (tgt := 43) hx hb d_M_goOn_21 (by decide) (fun cn => ?_) (fun cn => ?_)
      · have h := h.1 cn
        refine lv_iinc (v := (x3 + 1)) (lv' := [(3, .int (x3 + 1)), (0, .ref (ad 9)), (1, .int x1), (2, .int x2)]) hx hb d_M_goOn_43 hl (k := 3) rfl rfl (by decide) rfl (fun ls hl => ?_)
        refine lv_goto (tgt := 10) hx hb d_M_goOn_46 (by decide) ?_
        rw [hG10] at h
        exact h _ _ _ hP hS (lv_sub hl [1, 2, 3, 0] rfl)
      · have h := h.2 cn
        refine lv_aload_n hx hb d_M_goOn_24 rfl (lv_at hl 0 rfl) ?_
        refine lv_iload_n hx hb d_M_goOn_25 rfl (lv_at hl 3 rfl) ?_
        have hi := h.1
        have h := h.2
        refine va_iald hx hb hK hP 9 0 rfl rfl hi d_M_goOn_26 ?_
        refine lv_iload_n hx hb d_M_goOn_27 rfl (lv_at hl 2 rfl) ?_
        refine kC_i (va_runS (As := [.int (σ1 9 x3.toNatClampNeg), .int x2]) (rest := []) ⟨hx, hb, hml, hown, htg⟩ (met_M_has l D ad cA cB hap σ1 H.size (σ1 9 x3.toNatClampNeg) x2 _ h) (cwS 2 htg (kG (kG_S m_337 m_317 m_53 (kG_self m_318))) rfl rfl rfl (by decide +kernel) ⟨Nat.le_of_ble_eq_true rfl, Nat.le_of_ble_eq_true rfl⟩) (kC_pre hK hF hP hS _) rfl rfl hl.1 rfl (lv_room (Nat.le_of_ble_eq_true rfl)) d_M_goOn_28 ⟨Nat.le_of_ble_eq_true rfl, Nat.le_of_ble_eq_true rfl⟩) hS (fun r4 σ3 H locs h hP hS => ?_)
        refine lv_if_eq (tgt := 43) hx hb d_M_goOn_31 (by decide) (fun cn => ?_) (fun cn => ?_)
        · have h := h.1 cn
          refine lv_iinc (v := (x3 + 1)) (lv' := [(3, .int (x3 + 1)), (0, .ref (ad 9)), (1, .int x1), (2, .int x2)]) hx hb d_M_goOn_43 hl (k := 3) rfl rfl (by decide) rfl (fun ls hl => ?_)
          refine lv_goto (tgt := 10) hx hb d_M_goOn_46 (by decide) ?_
          rw [hG10] at h
          exact h _ _ _ hP hS (lv_sub hl [1, 2, 3, 0] rfl)
        · have h := h.2 cn
          refine lv_aload_n hx hb d_M_goOn_34 rfl (lv_at hl 0 rfl) ?_
          refine lv_iload_n hx hb d_M_goOn_35 rfl (lv_at hl 3 rfl) ?_
          refine lv_dup2_11 hx hb d_M_goOn_36 rfl rfl ?_
          have hi := h.1
          have h := h.2
          refine va_iald hx hb hK hP 9 0 rfl rfl hi d_M_goOn_37 ?_
          refine lv_aload_n hx hb d_M_goOn_38 rfl (lv_at hl 0 rfl) ?_
          refine lv_iload_n hx hb d_M_goOn_39 rfl (lv_at hl 2 rfl) ?_
          have hi := h.1
          have h := h.2
          refine va_iald hx hb hK hP 9 0 rfl rfl hi d_M_goOn_40 ?_
          refine lv_ior hx hb d_M_goOn_41 ?_
          have hi := h.1
          have h := h.2
          refine va_iast hx hb hK hP (hD _) hS 9 0 rfl rfl hi d_M_goOn_42 (fun H locs hP _ hS => ?_)
          obtain ⟨σ5, eσ5⟩ : ∃ z : S0, z = st σ3 9 x3.toNatClampNeg ((σ3 9 x3.toNatClampNeg) ||| (σ3 9 x2.toNatClampNeg)) := ⟨_, rfl⟩
          have hP : va_P D vwCl (wC ad cA cB σ5) H := by rw [eσ5]; exact hP
          have h := h σ5 eσ5
          refine lv_iinc (v := (x3 + 1)) (lv' := [(3, .int (x3 + 1)), (0, .ref (ad 9)), (1, .int x1), (2, .int x2)]) hx hb d_M_goOn_43 hl (k := 3) rfl rfl (by decide) rfl (fun ls hl => ?_)
          refine lv_goto (tgt := 10) hx hb d_M_goOn_46 (by decide) ?_
          rw [hG10] at h
          exact h _ _ _ hP hS (lv_sub hl [1, 2, 3, 0] rfl))
  obtain ⟨H, eH⟩ : ∃ z, z = s.heap := ⟨_, rfl⟩
  have hP : va_P D vwCl (wC ad cA cB σ) H := by rw [eH]; exact hP
  have hS : va_S (kAC ad s.heap.size) s.heap H [] := by rw [eH]; exact hS
  show W p l e (headSpec (Cond.code y_M_goOn c_M_goOn 4 none :: wsG) ({ frames := 1, cells := 0, slots := 0, locals := 21 } : Room)).room s m ([.ref (ad 9), .int a1] : List Value).toArray below meth c s.heap [] 0 0 (MQ below (va_Qv post (kBC D ad cA cB) (kAC ad s.heap.size)) ([.ref (ad 9), .int a1] : List Value).toArray s 0 0 (kAC ad s.heap.size)) (F0 m 0 ls [])
  suffices k : W p l e (headSpec (Cond.code y_M_goOn c_M_goOn 4 none :: wsG) ({ frames := 1, cells := 0, slots := 0, locals := 21 } : Room)).room s m ([.ref (ad 9), .int a1] : List Value).toArray below meth c H [] 0 0 (MQ below (va_Qv post (kBC D ad cA cB) (kAC ad s.heap.size)) ([.ref (ad 9), .int a1] : List Value).toArray s 0 0 (kAC ad s.heap.size)) (F0 m 0 ls []) by rw [eH] at k; exact k
  refine lv_iconst (v := 0) hx hb d_M_goOn_0 (by decide) ?_
  refine lv_istore_n (lv' := [(2, .int 0), (0, .ref (ad 9)), (1, .int a1)]) hx hb d_M_goOn_1 rfl hl (by decide) rfl (fun ls hl => ?_)
  rw [hG2] at h
  exact h _ _ _ hP hS (lv_sub hl [1, 2, 0] rfl)
set_option maxHeartbeats 4000000 in
set_option maxRecDepth 100000 in
theorem met_D_join (l : Launch) (D : va_G) (ad : Nat → Nat) (cA cB : ClassId) (hap : kapC ad) (σ : S0) (sz : Nat) (a1 a2 : Int32) (post : S0 → Prop) (h : Sp_D_join a1 a2 σ post) : Met l y_D_join (Cond.code y_D_join c_D_join 4 none :: wsG) ({ frames := 0, cells := 0, slots := 0, locals := 0 } : Room) (kPcC D ad cA cB σ sz [.ref (ad 1), .int a1, .int a2]) (va_Qv post (kBC D ad cA cB) (kAC ad sz)) 0 0 (kAC ad sz) := by
  refine Met.ofW (cc := c_D_join) (maxL := 4) (ret := none) (by decide) rfl ?_
  intro p e s m args below meth c s₁ B hml hv
  obtain ⟨rfl, hsz, hP, hK, hF⟩ := hv
  have hx := B.exec
  have hb := B.bytes
  have hr := B.returns
  have hts := atoms_spec (ws := (Cond.code y_D_join c_D_join 4 none :: wsG)) B.pre
  have htg : ∀ w ∈ wsG, w.before ([.ref (ad 1), .int a1, .int a2] : List Value).toArray s = true := fun w h => hts w (List.mem_cons_of_mem _ h)
  have hown : s.vm.findClass RX0 = some m.cls := findClass_of_methodNamed B.named
  have hlocks := B.notSynchronized
  subst hsz
  have hD : ∀ σ, va_D (kAC ad s.heap.size) (wC ad cA cB σ) := fun σ => wC_D hap cA cB σ _
  have hS : va_S (kAC ad s.heap.size) s.heap s.heap [] := va_S.rf
  have hE := hF.1
  have hl := lv_entry ([.ref (ad 1), .int a1, .int a2]) (n := 4) (Nat.le_of_ble_eq_true rfl)
  rw [lg_entry_eq]
  generalize (lg_sl ([.ref (ad 1), .int a1, .int a2]) ++ List.replicate (4 - (lg_sl ([.ref (ad 1), .int a1, .int a2])).length) Slot.unset).toArray = ls at hl ⊢
  have hl : lv_has ls 4 [(0, .ref (ad 1)), (1, .int a1), (2, .int a2)] := hl
  unfold Sp_D_join at h
  obtain ⟨G2, hG2⟩ : ∃ G : Int32 → Int32 → Int32 → S0 → Prop, G = fun (x1 x2 x3 : Int32) (σ : S0) => ∀ (H : Heap) (locs : List Loc) (ls : Array Slot), va_P D vwCl (wC ad cA cB σ) H → va_S (kAC ad s.heap.size) s.heap H locs → lv_has ls 4 [(0, .ref (ad 1)), (1, .int x1), (2, .int x2), (3, .int x3)] → W p l e (headSpec (Cond.code y_D_join c_D_join 4 none :: wsG) ({ frames := 0, cells := 0, slots := 0, locals := 0 } : Room)).room s m ([.ref (ad 1), .int a1, .int a2] : List Value).toArray below meth c H locs 0 0 (MQ below (va_Qv post (kBC D ad cA cB) (kAC ad s.heap.size)) ([.ref (ad 1), .int a1, .int a2] : List Value).toArray s 0 0 (kAC ad s.heap.size)) (F0 m 2 ls []) := ⟨_, rfl⟩
  have h := h G2
  have h := h (by
    intro x1 x2 x3 σ h
    rw [hG2]
    intro H locs ls hP hS hl
    refine lv_iload_n hx hb d_D_join_2 rfl (lv_at hl 3 rfl) ?_
    refine lv_bipush (v := 16) hx hb d_D_join_3 (by decide) ?_
    refine lv_icmp_ge (tgt := 31) hx hb d_D_join_5 (by decide) (fun cn => ?_) (fun cn => ?_)
    · have h := h.1 cn
      exact W.vret hx hb hr (fun t ht hW => ⟨⟨σ, rfl, h, kBC_of ht hP⟩, hS.F ht⟩) hS.2.2 d_D_join_31 hlocks
    · have h := h.2 cn
      refine lv_aload_n hx hb d_D_join_8 rfl (lv_at hl 0 rfl) ?_
      refine va_get (D := D) (ci := 0) (v := .ref (ad 4)) (C := RX0) (T := TX0) (N := 9) hx hb htg inG_X0 hown hK hP 1 rfl rfl 0 (by decide) (htg _ m_81) (fun _ h9 => h9) rfl d_D_join_9 ?_
      refine lv_iload_n hx hb d_D_join_12 rfl (lv_at hl 3 rfl) ?_
      have hi := h.1
      have h := h.2
      refine va_iald hx hb hK hP 4 0 rfl rfl hi d_D_join_13 ?_
      refine lv_iload_n hx hb d_D_join_14 rfl (lv_at hl 2 rfl) ?_
      refine lv_icmp_ne (tgt := 25) hx hb d_D_join_15 (by decide) (fun cn => ?_) (fun cn => ?_)
      · have h := h.1 cn
        refine lv_iinc (v := (x3 + 1)) (lv' := [(3, .int (x3 + 1)), (0, .ref (ad 1)), (1, .int x1), (2, .int x2)]) hx hb d_D_join_25 hl (k := 3) rfl rfl (by decide) rfl (fun ls hl => ?_)
        refine lv_goto (tgt := 2) hx hb d_D_join_28 (by decide) ?_
        rw [hG2] at h
        exact h _ _ _ hP hS (lv_sub hl [1, 2, 3, 0] rfl)
      · have h := h.2 cn
        refine lv_aload_n hx hb d_D_join_18 rfl (lv_at hl 0 rfl) ?_
        refine va_get (D := D) (ci := 0) (v := .ref (ad 4)) (C := RX0) (T := TX0) (N := 9) hx hb htg inG_X0 hown hK hP 1 rfl rfl 0 (by decide) (htg _ m_81) (fun _ h9 => h9) rfl d_D_join_19 ?_
        refine lv_iload_n hx hb d_D_join_22 rfl (lv_at hl 3 rfl) ?_
        refine lv_iload_n hx hb d_D_join_23 rfl (lv_at hl 1 rfl) ?_
        have hi := h.1
        have h := h.2
        refine va_iast hx hb hK hP (hD _) hS 4 0 rfl rfl hi d_D_join_24 (fun H locs hP _ hS => ?_)
        obtain ⟨σ1, eσ1⟩ : ∃ z : S0, z = st σ 4 x3.toNatClampNeg x1 := ⟨_, rfl⟩
        have hP : va_P D vwCl (wC ad cA cB σ1) H := by rw [eσ1]; exact hP
        have h := h σ1 eσ1
        refine lv_iinc (v := (x3 + 1)) (lv' := [(3, .int (x3 + 1)), (0, .ref (ad 1)), (1, .int x1), (2, .int x2)]) hx hb d_D_join_25 hl (k := 3) rfl rfl (by decide) rfl (fun ls hl => ?_)
        refine lv_goto (tgt := 2) hx hb d_D_join_28 (by decide) ?_
        rw [hG2] at h
        exact h _ _ _ hP hS (lv_sub hl [1, 2, 3, 0] rfl))
  obtain ⟨H, eH⟩ : ∃ z, z = s.heap := ⟨_, rfl⟩
  have hP : va_P D vwCl (wC ad cA cB σ) H := by rw [eH]; exact hP
  have hS : va_S (kAC ad s.heap.size) s.heap H [] := by rw [eH]; exact hS
  show W p l e (headSpec (Cond.code y_D_join c_D_join 4 none :: wsG) ({ frames := 0, cells := 0, slots := 0, locals := 0 } : Room)).room s m ([.ref (ad 1), .int a1, .int a2] : List Value).toArray below meth c s.heap [] 0 0 (MQ below (va_Qv post (kBC D ad cA cB) (kAC ad s.heap.size)) ([.ref (ad 1), .int a1, .int a2] : List Value).toArray s 0 0 (kAC ad s.heap.size)) (F0 m 0 ls [])
  suffices k : W p l e (headSpec (Cond.code y_D_join c_D_join 4 none :: wsG) ({ frames := 0, cells := 0, slots := 0, locals := 0 } : Room)).room s m ([.ref (ad 1), .int a1, .int a2] : List Value).toArray below meth c H [] 0 0 (MQ below (va_Qv post (kBC D ad cA cB) (kAC ad s.heap.size)) ([.ref (ad 1), .int a1, .int a2] : List Value).toArray s 0 0 (kAC ad s.heap.size)) (F0 m 0 ls []) by rw [eH] at k; exact k
  refine lv_iconst (v := 0) hx hb d_D_join_0 (by decide) ?_
  refine lv_istore_n (lv' := [(3, .int 0), (0, .ref (ad 1)), (1, .int a1), (2, .int a2)]) hx hb d_D_join_1 rfl hl (by decide) rfl (fun ls hl => ?_)
  rw [hG2] at h
  exact h _ _ _ hP hS (lv_sub hl [1, 2, 3, 0] rfl)
set_option maxHeartbeats 4000000 in
set_option maxRecDepth 100000 in
theorem met_D_isLaterPhase (l : Launch) (D : va_G) (ad : Nat → Nat) (cA cB : ClassId) (hap : kapC ad) (σ : S0) (sz : Nat) (a1 a2 : Int32) (post : Int32 → S0 → Prop) (h : Sp_D_isLaterPhase a1 a2 σ post) : Met l y_D_isLaterPhase (Cond.code y_D_isLaterPhase c_D_isLaterPhase 3 (some .boolean) :: wsG) ({ frames := 0, cells := 0, slots := 0, locals := 0 } : Room) (kPcC D ad cA cB σ sz [.ref (ad 1), .int a1, .int a2]) (va_Qi post (kBC D ad cA cB) (kAC ad sz)) 0 0 (kAC ad sz) := by
  refine Met.ofW (cc := c_D_isLaterPhase) (maxL := 3) (ret := (some .boolean)) (by decide) rfl ?_
  intro p e s m args below meth c s₁ B hml hv
  obtain ⟨rfl, hsz, hP, hK, hF⟩ := hv
  have hx := B.exec
  have hb := B.bytes
  have hr := B.returns
  have hts := atoms_spec (ws := (Cond.code y_D_isLaterPhase c_D_isLaterPhase 3 (some .boolean) :: wsG)) B.pre
  have htg : ∀ w ∈ wsG, w.before ([.ref (ad 1), .int a1, .int a2] : List Value).toArray s = true := fun w h => hts w (List.mem_cons_of_mem _ h)
  have hown : s.vm.findClass RX0 = some m.cls := findClass_of_methodNamed B.named
  have hlocks := B.notSynchronized
  subst hsz
  have hD : ∀ σ, va_D (kAC ad s.heap.size) (wC ad cA cB σ) := fun σ => wC_D hap cA cB σ _
  have hS : va_S (kAC ad s.heap.size) s.heap s.heap [] := va_S.rf
  have hE := hF.1
  have hl := lv_entry ([.ref (ad 1), .int a1, .int a2]) (n := 3) (Nat.le_of_ble_eq_true rfl)
  rw [lg_entry_eq]
  generalize (lg_sl ([.ref (ad 1), .int a1, .int a2]) ++ List.replicate (3 - (lg_sl ([.ref (ad 1), .int a1, .int a2])).length) Slot.unset).toArray = ls at hl ⊢
  have hl : lv_has ls 3 [(0, .ref (ad 1)), (1, .int a1), (2, .int a2)] := hl
  unfold Sp_D_isLaterPhase at h
  obtain ⟨H, eH⟩ : ∃ z, z = s.heap := ⟨_, rfl⟩
  have hP : va_P D vwCl (wC ad cA cB σ) H := by rw [eH]; exact hP
  have hS : va_S (kAC ad s.heap.size) s.heap H [] := by rw [eH]; exact hS
  show W p l e (headSpec (Cond.code y_D_isLaterPhase c_D_isLaterPhase 3 (some .boolean) :: wsG) ({ frames := 0, cells := 0, slots := 0, locals := 0 } : Room)).room s m ([.ref (ad 1), .int a1, .int a2] : List Value).toArray below meth c s.heap [] 0 0 (MQ below (va_Qi post (kBC D ad cA cB) (kAC ad s.heap.size)) ([.ref (ad 1), .int a1, .int a2] : List Value).toArray s 0 0 (kAC ad s.heap.size)) (F0 m 0 ls [])
  suffices k : W p l e (headSpec (Cond.code y_D_isLaterPhase c_D_isLaterPhase 3 (some .boolean) :: wsG) ({ frames := 0, cells := 0, slots := 0, locals := 0 } : Room)).room s m ([.ref (ad 1), .int a1, .int a2] : List Value).toArray below meth c H [] 0 0 (MQ below (va_Qi post (kBC D ad cA cB) (kAC ad s.heap.size)) ([.ref (ad 1), .int a1, .int a2] : List Value).toArray s 0 0 (kAC ad s.heap.size)) (F0 m 0 ls []) by rw [eH] at k; exact k
  refine lv_aload_n hx hb d_D_isLaterPhase_0 rfl (lv_at hl 0 rfl) ?_
  refine va_get (D := D) (ci := 0) (v := .ref (ad 5)) (C := RX0) (T := TX0) (N := 9) hx hb htg inG_X0 hown hK hP 1 rfl rfl 1 (by decide) (htg _ m_83) (fun _ h9 => h9) rfl d_D_isLaterPhase_1 ?_
  refine lv_iload_n hx hb d_D_isLaterPhase_4 rfl (lv_at hl 2 rfl) ?_
  have hi := h.1
  have h := h.2
  refine va_iald hx hb hK hP 5 0 rfl rfl hi d_D_isLaterPhase_5 ?_
  refine lv_iconst (v := (-1)) hx hb d_D_isLaterPhase_6 (by decide) ?_
  refine lv_icmp_eq (tgt := 29) hx hb d_D_isLaterPhase_7 (by decide) (fun cn => ?_) (fun cn => ?_)
  · have h := h.1 cn
    refine lv_iconst (v := 0) hx hb d_D_isLaterPhase_29 (by decide) ?_
    exact W.zret (v := 0) hx hb hr rfl (fun t ht hW => ⟨⟨_, σ, rfl, h, kBC_of ht hP⟩, hS.F ht⟩) hS.2.2 d_D_isLaterPhase_30 hlocks
  · have h := h.2 cn
    refine lv_aload_n hx hb d_D_isLaterPhase_10 rfl (lv_at hl 0 rfl) ?_
    refine va_get (D := D) (ci := 0) (v := .ref (ad 5)) (C := RX0) (T := TX0) (N := 9) hx hb htg inG_X0 hown hK hP 1 rfl rfl 1 (by decide) (htg _ m_83) (fun _ h9 => h9) rfl d_D_isLaterPhase_11 ?_
    refine lv_iload_n hx hb d_D_isLaterPhase_14 rfl (lv_at hl 1 rfl) ?_
    have hi := h.1
    have h := h.2
    refine va_iald hx hb hK hP 5 0 rfl rfl hi d_D_isLaterPhase_15 ?_
    refine lv_aload_n hx hb d_D_isLaterPhase_16 rfl (lv_at hl 0 rfl) ?_
    refine va_get (D := D) (ci := 0) (v := .ref (ad 5)) (C := RX0) (T := TX0) (N := 9) hx hb htg inG_X0 hown hK hP 1 rfl rfl 1 (by decide) (htg _ m_83) (fun _ h9 => h9) rfl d_D_isLaterPhase_17 ?_
    refine lv_iload_n hx hb d_D_isLaterPhase_20 rfl (lv_at hl 2 rfl) ?_
    have hi := h.1
    have h := h.2
    refine va_iald hx hb hK hP 5 0 rfl rfl hi d_D_isLaterPhase_21 ?_
    refine lv_icmp_le (tgt := 29) hx hb d_D_isLaterPhase_22 (by decide) (fun cn => ?_) (fun cn => ?_)
    · have h := h.1 cn
      refine lv_iconst (v := 0) hx hb d_D_isLaterPhase_29 (by decide) ?_
      exact W.zret (v := 0) hx hb hr rfl (fun t ht hW => ⟨⟨_, σ, rfl, h, kBC_of ht hP⟩, hS.F ht⟩) hS.2.2 d_D_isLaterPhase_30 hlocks
    · have h := h.2 cn
      refine lv_iconst (v := 1) hx hb d_D_isLaterPhase_25 (by decide) ?_
      refine lv_goto (tgt := 30) hx hb d_D_isLaterPhase_26 (by decide) ?_
      exact W.zret (v := 1) hx hb hr rfl (fun t ht hW => ⟨⟨_, σ, rfl, h, kBC_of ht hP⟩, hS.F ht⟩) hS.2.2 d_D_isLaterPhase_30 hlocks
