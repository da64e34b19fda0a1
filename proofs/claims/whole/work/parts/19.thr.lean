set_option maxHeartbeats 4000000 in
set_option maxRecDepth 100000 in
theorem met_M_need (l : Launch) (D : va_G) (ad : Nat → Nat) (cA cB : ClassId) (hap : kapC ad) (σ : S0) (sz : Nat) (a0 : Int32) (post : S0 → Prop) (h : Sp_M_need a0 σ post (fun _ _ => False)) : Met l y_M_need (Cond.code y_M_need c_M_need 1 none :: wsG) ({ frames := 6, cells := 0, slots := 0, locals := 90 } : Room) (kPcC D ad cA cB σ sz [.int a0]) (va_Qv post (kBC D ad cA cB) (kAC ad sz)) 0 0 (kAC ad sz) := by
  refine Met.ofW (cc := c_M_need) (maxL := 1) (ret := none) (by decide) rfl ?_
  intro p e s m args below meth c s₁ B hml hv
  obtain ⟨rfl, hsz, hP, hK, hF⟩ := hv
  have hx := B.exec
  have hb := B.bytes
  have hr := B.returns
  have hts := atoms_spec (ws := (Cond.code y_M_need c_M_need 1 none :: wsG)) B.pre
  have htg : ∀ w ∈ wsG, w.before ([.int a0] : List Value).toArray s = true := fun w h => hts w (List.mem_cons_of_mem _ h)
  have hown : s.vm.findClass RX3 = some m.cls := findClass_of_methodNamed B.named
  have hlocks := B.notSynchronized
  subst hsz
  have hD : ∀ σ, va_D (kAC ad s.heap.size) (wC ad cA cB σ) := fun σ => wC_D hap cA cB σ _
  have hS : va_S (kAC ad s.heap.size) s.heap s.heap [] := va_S.rf
  have hE := hF.1
  have hl := lv_entry ([.int a0]) (n := 1) (Nat.le_of_ble_eq_true rfl)
  rw [lg_entry_eq]
  generalize (lg_sl ([.int a0]) ++ List.replicate (1 - (lg_sl ([.int a0])).length) Slot.unset).toArray = ls at hl ⊢
  have hl : lv_has ls 1 [(0, .int a0)] := hl
  unfold Sp_M_need at h
  obtain ⟨H, eH⟩ : ∃ z, z = s.heap := ⟨_, rfl⟩
  have hP : va_P D vwCl (wC ad cA cB σ) H := by rw [eH]; exact hP
  have hS : va_S (kAC ad s.heap.size) s.heap H [] := by rw [eH]; exact hS
  show W p l e (headSpec (Cond.code y_M_need c_M_need 1 none :: wsG) ({ frames := 6, cells := 0, slots := 0, locals := 90 } : Room)).room s m ([.int a0] : List Value).toArray below meth c s.heap [] 0 0 (MQ below (va_Qv post (kBC D ad cA cB) (kAC ad s.heap.size)) ([.int a0] : List Value).toArray s 0 0 (kAC ad s.heap.size)) (F0 m 0 ls [])
  suffices k : W p l e (headSpec (Cond.code y_M_need c_M_need 1 none :: wsG) ({ frames := 6, cells := 0, slots := 0, locals := 90 } : Room)).room s m ([.int a0] : List Value).toArray below meth c H [] 0 0 (MQ below (va_Qv post (kBC D ad cA cB) (kAC ad s.heap.size)) ([.int a0] : List Value).toArray s 0 0 (kAC ad s.heap.size)) (F0 m 0 ls []) by rw [eH] at k; exact k
  refine lv_iload_n hx hb d_M_need_0 rfl (lv_at hl 0 rfl) ?_
  refine lv_if_ne (tgt := 14) hx hb d_M_need_1 (by decide) (fun cn => ?_) (fun cn => ?_)
  · have h := h.1 cn
    exact W.vret hx hb hr (fun t ht hW => ⟨⟨σ, rfl, h, kBC_of ht hP⟩, hS.F ht⟩) hS.2.2 d_M_need_14 hlocks
  · have h := h.2 cn
    exact (h : False).elim
set_option maxHeartbeats 4000000 in
set_option maxRecDepth 100000 in
theorem metx_M_need (l : Launch) (hl0 : l.stackTraces = false) (D : va_G) (ad : Nat → Nat) (cA cB : ClassId) (hap : kapC ad) (σ : S0) (sz : Nat) (a0 : Int32) (post : S0 → Prop) (px : Nat → S0 → Prop) (h : Sp_M_need a0 σ post px) : vx_Met l y_M_need (Cond.code y_M_need c_M_need 1 none :: wsG) ({ frames := 6, cells := 1, slots := 6, locals := 90 } : Room) (kPcC D ad cA cB σ sz [.int a0]) (va_Qv post (kBC D ad cA cB) (kAC ad sz)) (kX D ad cA cB px sz) 1 6 (kAC ad sz) := by
  refine vx_ofW (cc := c_M_need) (maxL := 1) (ret := none) (by decide) rfl ?_
  intro p e s m args below meth c s₁ B hml hnx hv
  obtain ⟨rfl, hsz, hP, hK, hF⟩ := hv
  have hx := B.exec
  have hb := B.bytes
  have hr := B.returns
  have hts := atoms_spec (ws := (Cond.code y_M_need c_M_need 1 none :: wsG)) B.pre
  have htg : ∀ w ∈ wsG, w.before ([.int a0] : List Value).toArray s = true := fun w h => hts w (List.mem_cons_of_mem _ h)
  have hown : s.vm.findClass RX3 = some m.cls := findClass_of_methodNamed B.named
  have hlocks := B.notSynchronized
  subst hsz
  have hD : ∀ σ, va_D (kAC ad s.heap.size) (wC ad cA cB σ) := fun σ => wC_D hap cA cB σ _
  have hS : va_S (kAC ad s.heap.size) s.heap s.heap [] := va_S.rf
  have hE := hF.1
  have hl := lv_entry ([.int a0]) (n := 1) (Nat.le_of_ble_eq_true rfl)
  rw [lg_entry_eq]
  generalize (lg_sl ([.int a0]) ++ List.replicate (1 - (lg_sl ([.int a0])).length) Slot.unset).toArray = ls at hl ⊢
  have hl : lv_has ls 1 [(0, .int a0)] := hl
  unfold Sp_M_need at h
  obtain ⟨H, eH⟩ : ∃ z, z = s.heap := ⟨_, rfl⟩
  have hP : va_P D vwCl (wC ad cA cB σ) H := by rw [eH]; exact hP
  have hS : va_S (kAC ad s.heap.size) s.heap H [] := by rw [eH]; exact hS
  show W p l e (headSpec (Cond.code y_M_need c_M_need 1 none :: wsG) ({ frames := 6, cells := 1, slots := 6, locals := 90 } : Room)).room s m ([.int a0] : List Value).toArray below meth c s.heap [] 0 0 (vx_MQ below (va_Qv post (kBC D ad cA cB) (kAC ad s.heap.size)) (kX D ad cA cB px s.heap.size) ([.int a0] : List Value).toArray s 1 6 (kAC ad s.heap.size)) (F0 m 0 ls [])
  suffices k : W p l e (headSpec (Cond.code y_M_need c_M_need 1 none :: wsG) ({ frames := 6, cells := 1, slots := 6, locals := 90 } : Room)).room s m ([.int a0] : List Value).toArray below meth c H [] 0 0 (vx_MQ below (va_Qv post (kBC D ad cA cB) (kAC ad s.heap.size)) (kX D ad cA cB px s.heap.size) ([.int a0] : List Value).toArray s 1 6 (kAC ad s.heap.size)) (F0 m 0 ls []) by rw [eH] at k; exact k
  refine lv_iload_n hx hb d_M_need_0 rfl (lv_at hl 0 rfl) ?_
  refine lv_if_ne (tgt := 14) hx hb d_M_need_1 (by decide) (fun cn => ?_) (fun cn => ?_)
  · have h := h.1 cn
    refine W.widen (k := 1) (n := 6) (by omega) (by omega) ?_
    refine vx_ret ?_
    exact W.vret hx hb hr (fun t ht hW => ⟨⟨σ, rfl, h, kBC_of ht hP⟩, hS.F ht⟩) hS.2.2 d_M_need_14 hlocks
  · have h := h.2 cn
    obtain ⟨sa, hstr⟩ := hF.2.2.2 (163, "there is no such one") (by decide)
    exact vx_throwS (names := kch) hx hb hl0 hown (by decide +kernel) (by decide +kernel) (htg _ m_244) (htg _ m_61) hstr (at_151_ok htg hE) (at_151_ot) hF.2.1 hF.2.2.1 hS (hl.1.trans hml.symm) d_M_need_4 d_M_need_7 d_M_need_8 d_M_need_10 d_M_need_13 (fun x hx => (hnx x hx).elim) (Nat.le_of_ble_eq_true rfl) (Nat.le_of_ble_eq_true rfl) (Nat.le_of_ble_eq_true rfl) (Nat.le_of_ble_eq_true rfl) hlocks (kX_thrown 0 h hP hS) hS.2.2 (Nat.le_of_ble_eq_true rfl) (Nat.le_of_ble_eq_true rfl)
set_option maxHeartbeats 4000000 in
set_option maxRecDepth 100000 in
theorem met_M_needContext (l : Launch) (D : va_G) (ad : Nat → Nat) (cA cB : ClassId) (hap : kapC ad) (σ : S0) (sz : Nat) (a0 : Int32) (post : S0 → Prop) (h : Sp_M_needContext a0 σ post (fun _ _ => False)) : Met l y_M_needContext (Cond.code y_M_needContext c_M_needContext 1 none :: wsG) ({ frames := 7, cells := 0, slots := 0, locals := 110 } : Room) (kPcC D ad cA cB σ sz [.int a0]) (va_Qv post (kBC D ad cA cB) (kAC ad sz)) 0 0 (kAC ad sz) := by
  refine Met.ofW (cc := c_M_needContext) (maxL := 1) (ret := none) (by decide) rfl ?_
  intro p e s m args below meth c s₁ B hml hv
  obtain ⟨rfl, hsz, hP, hK, hF⟩ := hv
  have hx := B.exec
  have hb := B.bytes
  have hr := B.returns
  have hts := atoms_spec (ws := (Cond.code y_M_needContext c_M_needContext 1 none :: wsG)) B.pre
  have htg : ∀ w ∈ wsG, w.before ([.int a0] : List Value).toArray s = true := fun w h => hts w (List.mem_cons_of_mem _ h)
  have hown : s.vm.findClass RX3 = some m.cls := findClass_of_methodNamed B.named
  have hlocks := B.notSynchronized
  subst hsz
  have hD : ∀ σ, va_D (kAC ad s.heap.size) (wC ad cA cB σ) := fun σ => wC_D hap cA cB σ _
  have hS : va_S (kAC ad s.heap.size) s.heap s.heap [] := va_S.rf
  have hE := hF.1
  have hl := lv_entry ([.int a0]) (n := 1) (Nat.le_of_ble_eq_true rfl)
  rw [lg_entry_eq]
  generalize (lg_sl ([.int a0]) ++ List.replicate (1 - (lg_sl ([.int a0])).length) Slot.unset).toArray = ls at hl ⊢
  have hl : lv_has ls 1 [(0, .int a0)] := hl
  unfold Sp_M_needContext at h
  obtain ⟨G15, hG15⟩ : ∃ G : Int32 → S0 → Prop, G = fun (t0 : Int32) (σ : S0) => ∀ (H : Heap) (locs : List Loc) (ls : Array Slot), va_P D vwCl (wC ad cA cB σ) H → va_S (kAC ad s.heap.size) s.heap H locs → lv_has ls 1 [] → W p l e (headSpec (Cond.code y_M_needContext c_M_needContext 1 none :: wsG) ({ frames := 7, cells := 0, slots := 0, locals := 110 } : Room)).room s m ([.int a0] : List Value).toArray below meth c H locs 0 0 (MQ below (va_Qv post (kBC D ad cA cB) (kAC ad s.heap.size)) ([.int a0] : List Value).toArray s 0 0 (kAC ad s.heap.size)) (F0 m 15 ls [.int t0]) := ⟨_, rfl⟩
  have h := h G15
  have h := h (by
    intro t0 σ h
    rw [hG15]
    intro H locs ls hP hS hl
    refine kC_v (va_runS (As := [.int t0]) (rest := []) ⟨hx, hb, hml, hown, htg⟩ (met_M_need l D ad cA cB hap σ H.size t0 _ h) (cwS 1 htg (kG (kG_S m_241 m_242 m_53 (kG_self m_243))) rfl rfl rfl (by decide +kernel) ⟨Nat.le_of_ble_eq_true rfl, Nat.le_of_ble_eq_true rfl⟩) (kC_pre hK hF hP hS _) rfl rfl hl.1 rfl (lv_room (Nat.le_of_ble_eq_true rfl)) d_M_needContext_15 ⟨Nat.le_of_ble_eq_true rfl, Nat.le_of_ble_eq_true rfl⟩) hS (fun σ1 H locs h hP hS => ?_)
    exact W.vret hx hb hr (fun t ht hW => ⟨⟨σ1, rfl, h, kBC_of ht hP⟩, hS.F ht⟩) hS.2.2 d_M_needContext_18 hlocks)
  obtain ⟨H, eH⟩ : ∃ z, z = s.heap := ⟨_, rfl⟩
  have hP : va_P D vwCl (wC ad cA cB σ) H := by rw [eH]; exact hP
  have hS : va_S (kAC ad s.heap.size) s.heap H [] := by rw [eH]; exact hS
  show W p l e (headSpec (Cond.code y_M_needContext c_M_needContext 1 none :: wsG) ({ frames := 7, cells := 0, slots := 0, locals := 110 } : Room)).room s m ([.int a0] : List Value).toArray below meth c s.heap [] 0 0 (MQ below (va_Qv post (kBC D ad cA cB) (kAC ad s.heap.size)) ([.int a0] : List Value).toArray s 0 0 (kAC ad s.heap.size)) (F0 m 0 ls [])
  suffices k : W p l e (headSpec (Cond.code y_M_needContext c_M_needContext 1 none :: wsG) ({ frames := 7, cells := 0, slots := 0, locals := 110 } : Room)).room s m ([.int a0] : List Value).toArray below meth c H [] 0 0 (MQ below (va_Qv post (kBC D ad cA cB) (kAC ad s.heap.size)) ([.int a0] : List Value).toArray s 0 0 (kAC ad s.heap.size)) (F0 m 0 ls []) by rw [eH] at k; exact k
  refine lv_iload_n hx hb d_M_needContext_0 rfl (lv_at hl 0 rfl) ?_
  refine lv_if_lt (tgt := 14) hx hb d_M_needContext_1 (by decide) (fun cn => ?_) (fun cn => ?_)
  · have h := h.1 cn
    refine lv_iconst (v := 0) hx hb d_M_needContext_14 (by decide) ?_
    rw [hG15] at h
    exact h _ _ _ hP hS (lv_sub hl [] rfl)
  · have h := h.2 cn
    refine lv_iload_n hx hb d_M_needContext_4 rfl (lv_at hl 0 rfl) ?_
    refine lv_bipush (v := 16) hx hb d_M_needContext_5 (by decide) ?_
    refine lv_icmp_ge (tgt := 14) hx hb d_M_needContext_7 (by decide) (fun cn => ?_) (fun cn => ?_)
    · have h := h.1 cn
      refine lv_iconst (v := 0) hx hb d_M_needContext_14 (by decide) ?_
      rw [hG15] at h
      exact h _ _ _ hP hS (lv_sub hl [] rfl)
    · have h := h.2 cn
      refine lv_iconst (v := 1) hx hb d_M_needContext_10 (by decide) ?_
      refine lv_goto (tgt := 15) hx hb d_M_needContext_11 (by decide) ?_
      rw [hG15] at h
      exact h _ _ _ hP hS (lv_sub hl [] rfl)
set_option maxHeartbeats 4000000 in
set_option maxRecDepth 100000 in
theorem metx_M_needContext (l : Launch) (hl0 : l.stackTraces = false) (D : va_G) (ad : Nat → Nat) (cA cB : ClassId) (hap : kapC ad) (σ : S0) (sz : Nat) (a0 : Int32) (post : S0 → Prop) (px : Nat → S0 → Prop) (h : Sp_M_needContext a0 σ post px) : vx_Met l y_M_needContext (Cond.code y_M_needContext c_M_needContext 1 none :: wsG) ({ frames := 7, cells := 1, slots := 6, locals := 110 } : Room) (kPcC D ad cA cB σ sz [.int a0]) (va_Qv post (kBC D ad cA cB) (kAC ad sz)) (kX D ad cA cB px sz) 1 6 (kAC ad sz) := by
  refine vx_ofW (cc := c_M_needContext) (maxL := 1) (ret := none) (by decide) rfl ?_
  intro p e s m args below meth c s₁ B hml hnx hv
  obtain ⟨rfl, hsz, hP, hK, hF⟩ := hv
  have hx := B.exec
  have hb := B.bytes
  have hr := B.returns
  have hts := atoms_spec (ws := (Cond.code y_M_needContext c_M_needContext 1 none :: wsG)) B.pre
  have htg : ∀ w ∈ wsG, w.before ([.int a0] : List Value).toArray s = true := fun w h => hts w (List.mem_cons_of_mem _ h)
  have hown : s.vm.findClass RX3 = some m.cls := findClass_of_methodNamed B.named
  have hlocks := B.notSynchronized
  subst hsz
  have hD : ∀ σ, va_D (kAC ad s.heap.size) (wC ad cA cB σ) := fun σ => wC_D hap cA cB σ _
  have hS : va_S (kAC ad s.heap.size) s.heap s.heap [] := va_S.rf
  have hE := hF.1
  have hl := lv_entry ([.int a0]) (n := 1) (Nat.le_of_ble_eq_true rfl)
  rw [lg_entry_eq]
  generalize (lg_sl ([.int a0]) ++ List.replicate (1 - (lg_sl ([.int a0])).length) Slot.unset).toArray = ls at hl ⊢
  have hl : lv_has ls 1 [(0, .int a0)] := hl
  unfold Sp_M_needContext at h
  obtain ⟨G15, hG15⟩ : ∃ G : Int32 → S0 → Prop, G = fun (t0 : Int32) (σ : S0) => ∀ (H : Heap) (locs : List Loc) (ls : Array Slot), va_P D vwCl (wC ad cA cB σ) H → va_S (kAC ad s.heap.size) s.heap H locs → lv_has ls 1 [] → W p l e (headSpec (Cond.code y_M_needContext c_M_needContext 1 none :: wsG) ({ frames := 7, cells := 1, slots := 6, locals := 110 } : Room)).room s m ([.int a0] : List Value).toArray below meth c H locs 0 0 (vx_MQ below (va_Qv post (kBC D ad cA cB) (kAC ad s.heap.size)) (kX D ad cA cB px s.heap.size) ([.int a0] : List Value).toArray s 1 6 (kAC ad s.heap.size)) (F0 m 15 ls [.int t0]) := ⟨_, rfl⟩
  have h := h G15
  have h := h (by
    intro t0 σ h
    rw [hG15]
    intro H locs ls hP hS hl
    refine Or.elim (or_M_need h) (fun h => ?_) (fun h => kX_v (vx_runS (As := [.int t0]) (rest := []) ⟨hx, hb, hml, hown, htg⟩ (metx_M_need l hl0 D ad cA cB hap σ H.size t0 _ _ h) (cwS 1 htg (kG (kG_S m_241 m_242 m_53 (kG_self m_243))) rfl rfl rfl (by decide +kernel) ⟨Nat.le_of_ble_eq_true rfl, Nat.le_of_ble_eq_true rfl⟩) (kC_pre hK hF hP hS _) rfl rfl hl.1 rfl (lv_room (Nat.le_of_ble_eq_true rfl)) d_M_needContext_15 ⟨Nat.le_of_ble_eq_true rfl, Nat.le_of_ble_eq_true rfl⟩) hS (fun _ h => h) hnx hlocks (Nat.le_of_ble_eq_true rfl) (Nat.le_of_ble_eq_true rfl))
    refine kC_v (va_runS (As := [.int t0]) (rest := []) ⟨hx, hb, hml, hown, htg⟩ (met_M_need l D ad cA cB hap σ H.size t0 _ h) (cwS 1 htg (kG (kG_S m_241 m_242 m_53 (kG_self m_243))) rfl rfl rfl (by decide +kernel) ⟨Nat.le_of_ble_eq_true rfl, Nat.le_of_ble_eq_true rfl⟩) (kC_pre hK hF hP hS _) rfl rfl hl.1 rfl (lv_room (Nat.le_of_ble_eq_true rfl)) d_M_needContext_15 ⟨Nat.le_of_ble_eq_true rfl, Nat.le_of_ble_eq_true rfl⟩) hS (fun σ1 H locs h hP hS => ?_)
    refine W.widen (k := 1) (n := 6) (by omega) (by omega) ?_
    refine vx_ret ?_
    exact W.vret hx hb hr (fun t ht hW => ⟨⟨σ1, rfl, h, kBC_of ht hP⟩, hS.F ht⟩) hS.2.2 d_M_needContext_18 hlocks)
  obtain ⟨H, eH⟩ : ∃ z, z = s.heap := ⟨_, rfl⟩
  have hP : va_P D vwCl (wC ad cA cB σ) H := by rw [eH]; exact hP
  have hS : va_S (kAC ad s.heap.size) s.heap H [] := by rw [eH]; exact hS
  show W p l e (headSpec (Cond.code y_M_needContext c_M_needContext 1 none :: wsG) ({ frames := 7, cells := 1, slots := 6, locals := 110 } : Room)).room s m ([.int a0] : List Value).toArray below meth c s.heap [] 0 0 (vx_MQ below (va_Qv post (kBC D ad cA cB) (kAC ad s.heap.size)) (kX D ad cA cB px s.heap.size) ([.int a0] : List Value).toArray s 1 6 (kAC ad s.heap.size)) (F0 m 0 ls [])
  suffices k : W p l e (headSpec (Cond.code y_M_needContext c_M_needContext 1 none :: wsG) ({ frames := 7, cells := 1, slots := 6, locals := 110 } : Room)).room s m ([.int a0] : List Value).toArray below meth c H [] 0 0 (vx_MQ below (va_Qv post (kBC D ad cA cB) (kAC ad s.heap.size)) (kX D ad cA cB px s.heap.size) ([.int a0] : List Value).toArray s 1 6 (kAC ad s.heap.size)) (F0 m 0 ls []) by rw [eH] at k; exact k
  refine lv_iload_n hx hb d_M_needContext_0 rfl (lv_at hl 0 rfl) ?_
  refine lv_if_lt (tgt := 14) hx hb d_M_needContext_1 (by decide) (fun cn => ?_) (fun cn => ?_)
  · have h := h.1 cn
    refine lv_iconst (v := 0) hx hb d_M_needContext_14 (by decide) ?_
    rw [hG15] at h
    exact h _ _ _ hP hS (lv_sub hl [] rfl)
  · have h := h.2 cn
    refine lv_iload_n hx hb d_M_needContext_4 rfl (lv_at hl 0 rfl) ?_
    refine lv_bipush (v := 16) hx hb d_M_needContext_5 (by decide) ?_
    refine lv_icmp_ge (tgt := 14) hx hb d_M_needContext_7 (by decide) (fun cn => ?_) (fun cn => ?_)
    · have h := h.1 cn
      refine lv_iconst (v := 0) hx hb d_M_needContext_14 (by decide) ?_
      rw [hG15] at h
      exact h _ _ _ hP hS (lv_sub hl [] rfl)
    · have h := h.2 cn
      refine lv_iconst (v := 1) hx hb d_M_needContext_10 (by decide) ?_
      refine lv_goto (tgt := 15) hx hb d_M_needContext_11 (by decide) ?_
      rw [hG15] at h
      exact h _ _ _ hP hS (lv_sub hl [] rfl)
set_option maxHeartbeats 4000000 in
set_option maxRecDepth 100000 in
theorem metx_M_above (l : Launch) (hl0 : l.stackTraces = false) (D : va_G) (ad : Nat → Nat) (cA cB : ClassId) (hap : kapC ad) (σ : S0) (sz : Nat) (a1 a2 : Int32) (post : Int32 → S0 → Prop) (px : Nat → S0 → Prop) (h : Sp_M_above a1 a2 σ post px) : vx_Met l y_M_above (Cond.code y_M_above c_M_above 3 (some .int) :: wsG) ({ frames := 8, cells := 1, slots := 6, locals := 130 } : Room) (kPcC D ad cA cB σ sz [.ref (ad 0), .int a1, .int a2]) (va_Qi post (kBC D ad cA cB) (kAC ad sz)) (kX D ad cA cB px sz) 1 6 (kAC ad sz) := by
  refine vx_ofW (cc := c_M_above) (maxL := 3) (ret := (some .int)) (by decide) rfl ?_
  intro p e s m args below meth c s₁ B hml hnx hv
  obtain ⟨rfl, hsz, hP, hK, hF⟩ := hv
  have hx := B.exec
  have hb := B.bytes
  have hr := B.returns
  have hts := atoms_spec (ws := (Cond.code y_M_above c_M_above 3 (some .int) :: wsG)) B.pre
  have htg : ∀ w ∈ wsG, w.before ([.ref (ad 0), .int a1, .int a2] : List Value).toArray s = true := fun w h => hts w (List.mem_cons_of_mem _ h)
  have hown : s.vm.findClass RX3 = some m.cls := findClass_of_methodNamed B.named
  have hlocks := B.notSynchronized
  subst hsz
  have hD : ∀ σ, va_D (kAC ad s.heap.size) (wC ad cA cB σ) := fun σ => wC_D hap cA cB σ _
  have hS : va_S (kAC ad s.heap.size) s.heap s.heap [] := va_S.rf
  have hE := hF.1
  have hl := lv_entry ([.ref (ad 0), .int a1, .int a2]) (n := 3) (Nat.le_of_ble_eq_true rfl)
  rw [lg_entry_eq]
  generalize (lg_sl ([.ref (ad 0), .int a1, .int a2]) ++ List.replicate (3 - (lg_sl ([.ref (ad 0), .int a1, .int a2])).length) Slot.unset).toArray = ls at hl ⊢
  have hl : lv_has ls 3 [(0, .ref (ad 0)), (1, .int a1), (2, .int a2)] := hl
  unfold Sp_M_above at h
  obtain ⟨H, eH⟩ : ∃ z, z = s.heap := ⟨_, rfl⟩
  have hP : va_P D vwCl (wC ad cA cB σ) H := by rw [eH]; exact hP
  have hS : va_S (kAC ad s.heap.size) s.heap H [] := by rw [eH]; exact hS
  show W p l e (headSpec (Cond.code y_M_above c_M_above 3 (some .int) :: wsG) ({ frames := 8, cells := 1, slots := 6, locals := 130 } : Room)).room s m ([.ref (ad 0), .int a1, .int a2] : List Value).toArray below meth c s.heap [] 0 0 (vx_MQ below (va_Qi post (kBC D ad cA cB) (kAC ad s.heap.size)) (kX D ad cA cB px s.heap.size) ([.ref (ad 0), .int a1, .int a2] : List Value).toArray s 1 6 (kAC ad s.heap.size)) (F0 m 0 ls [])
  suffices k : W p l e (headSpec (Cond.code y_M_above c_M_above 3 (some .int) :: wsG) ({ frames := 8, cells := 1, slots := 6, locals := 130 } : Room)).room s m ([.ref (ad 0), .int a1, .int a2] : List Value).toArray below meth c H [] 0 0 (vx_MQ below (va_Qi post (kBC D ad cA cB) (kAC ad s.heap.size)) (kX D ad cA cB px s.heap.size) ([.ref (ad 0), .int a1, .int a2] : List Value).toArray s 1 6 (kAC ad s.heap.size)) (F0 m 0 ls []) by rw [eH] at k; exact k
  refine lv_iload_n hx hb d_M_above_0 rfl (lv_at hl 1 rfl) ?_
  refine Or.elim (or_M_needContext h) (fun h => ?_) (fun h => kX_v (vx_runS (As := [.int a1]) (rest := []) ⟨hx, hb, hml, hown, htg⟩ (metx_M_needContext l hl0 D ad cA cB hap σ H.size a1 _ _ h) (cwS 1 htg (kG (kG_S m_238 m_239 m_53 (kG_self m_240))) rfl rfl rfl (by decide +kernel) ⟨Nat.le_of_ble_eq_true rfl, Nat.le_of_ble_eq_true rfl⟩) (kC_pre hK hF hP hS _) rfl rfl hl.1 rfl (lv_room (Nat.le_of_ble_eq_true rfl)) d_M_above_1 ⟨Nat.le_of_ble_eq_true rfl, Nat.le_of_ble_eq_true rfl⟩) hS (fun _ h => h) hnx hlocks (Nat.le_of_ble_eq_true rfl) (Nat.le_of_ble_eq_true rfl))
  refine kC_v (va_runS (As := [.int a1]) (rest := []) ⟨hx, hb, hml, hown, htg⟩ (met_M_needContext l D ad cA cB hap σ H.size a1 _ h) (cwS 1 htg (kG (kG_S m_238 m_239 m_53 (kG_self m_240))) rfl rfl rfl (by decide +kernel) ⟨Nat.le_of_ble_eq_true rfl, Nat.le_of_ble_eq_true rfl⟩) (kC_pre hK hF hP hS _) rfl rfl hl.1 rfl (lv_room (Nat.le_of_ble_eq_true rfl)) d_M_above_1 ⟨Nat.le_of_ble_eq_true rfl, Nat.le_of_ble_eq_true rfl⟩) hS (fun σ1 H locs h hP hS => ?_)
  refine lv_iload_n hx hb d_M_above_4 rfl (lv_at hl 2 rfl) ?_
  refine Or.elim (or_M_needContext h) (fun h => ?_) (fun h => kX_v (vx_runS (As := [.int a2]) (rest := []) ⟨hx, hb, hml, hown, htg⟩ (metx_M_needContext l hl0 D ad cA cB hap σ1 H.size a2 _ _ h) (cwS 1 htg (kG (kG_S m_238 m_239 m_53 (kG_self m_240))) rfl rfl rfl (by decide +kernel) ⟨Nat.le_of_ble_eq_true rfl, Nat.le_of_ble_eq_true rfl⟩) (kC_pre hK hF hP hS _) rfl rfl hl.1 rfl (lv_room (Nat.le_of_ble_eq_true rfl)) d_M_above_5 ⟨Nat.le_of_ble_eq_true rfl, Nat.le_of_ble_eq_true rfl⟩) hS (fun _ h => h) hnx hlocks (Nat.le_of_ble_eq_true rfl) (Nat.le_of_ble_eq_true rfl))
  refine kC_v (va_runS (As := [.int a2]) (rest := []) ⟨hx, hb, hml, hown, htg⟩ (met_M_needContext l D ad cA cB hap σ1 H.size a2 _ h) (cwS 1 htg (kG (kG_S m_238 m_239 m_53 (kG_self m_240))) rfl rfl rfl (by decide +kernel) ⟨Nat.le_of_ble_eq_true rfl, Nat.le_of_ble_eq_true rfl⟩) (kC_pre hK hF hP hS _) rfl rfl hl.1 rfl (lv_room (Nat.le_of_ble_eq_true rfl)) d_M_above_5 ⟨Nat.le_of_ble_eq_true rfl, Nat.le_of_ble_eq_true rfl⟩) hS (fun σ2 H locs h hP hS => ?_)
  refine lv_aload_n hx hb d_M_above_8 rfl (lv_at hl 0 rfl) ?_
  refine lv_aload_n hx hb d_M_above_9 rfl (lv_at hl 0 rfl) ?_
  refine va_get (D := D) (ci := 3) (v := .ref (ad 1)) (C := RX3) (T := TX3) (N := 4) hx hb htg inG_X3 hown hK hP 0 rfl rfl 0 (by decide) (htg _ m_217) (fun _ h9 => h9) rfl d_M_above_10 ?_
  refine lv_iload_n hx hb d_M_above_13 rfl (lv_at hl 1 rfl) ?_
  refine lv_iload_n hx hb d_M_above_14 rfl (lv_at hl 2 rfl) ?_
  refine kC_i (va_runV (As := [.int a1, .int a2]) (rest := [.ref (ad 0)]) ⟨hx, hb, hml, hown, htg⟩ (met_D_tellAbove l D ad cA cB hap σ2 H.size a1 a2 _ h) (cwV 2 htg (kG (kG_V m_312 m_313 m_314 m_54 (kG_self m_315))) rfl rfl rfl (by decide +kernel) ⟨Nat.le_of_ble_eq_true rfl, Nat.le_of_ble_eq_true rfl⟩) (kC_preV hK hF hP hS 1 rfl rfl _) rfl rfl hl.1 rfl (lv_room (Nat.le_of_ble_eq_true rfl)) d_M_above_15 ⟨Nat.le_of_ble_eq_true rfl, Nat.le_of_ble_eq_true rfl⟩) hS (fun r4 σ3 H locs h hP hS => ?_)
  refine kC_i (va_runV (As := [.int r4]) (rest := []) ⟨hx, hb, hml, hown, htg⟩ (met_M_changed l D ad cA cB hap σ3 H.size r4 _ h) (cwV 1 htg (kG (kG_V m_338 m_340 m_3 m_53 (kG_self m_341))) rfl rfl rfl (by decide +kernel) ⟨Nat.le_of_ble_eq_true rfl, Nat.le_of_ble_eq_true rfl⟩) (kC_preV hK hF hP hS 0 rfl rfl _) rfl rfl hl.1 rfl (lv_room (Nat.le_of_ble_eq_true rfl)) d_M_above_18 ⟨Nat.le_of_ble_eq_true rfl, Nat.le_of_ble_eq_true rfl⟩) hS (fun r6 σ5 H locs h hP hS => ?_)
  refine W.widen (k := 1) (n := 6) (by omega) (by omega) ?_
  refine vx_ret ?_
  exact W.iret (v := r6) hx hb hr (fun t ht hW => ⟨⟨_, σ5, rfl, h, kBC_of ht hP⟩, hS.F ht⟩) hS.2.2 d_M_above_21 hlocks
set_option maxHeartbeats 4000000 in
set_option maxRecDepth 100000 in
theorem metx_M_same (l : Launch) (hl0 : l.stackTraces = false) (D : va_G) (ad : Nat → Nat) (cA cB : ClassId) (hap : kapC ad) (σ : S0) (sz : Nat) (a1 a2 : Int32) (post : Int32 → S0 → Prop) (px : Nat → S0 → Prop) (h : Sp_M_same a1 a2 σ post px) : vx_Met l y_M_same (Cond.code y_M_same c_M_same 3 (some .int) :: wsG) ({ frames := 8, cells := 1, slots := 6, locals := 130 } : Room) (kPcC D ad cA cB σ sz [.ref (ad 0), .int a1, .int a2]) (va_Qi post (kBC D ad cA cB) (kAC ad sz)) (kX D ad cA cB px sz) 1 6 (kAC ad sz) := by
  refine vx_ofW (cc := c_M_same) (maxL := 3) (ret := (some .int)) (by decide) rfl ?_
  intro p e s m args below meth c s₁ B hml hnx hv
  obtain ⟨rfl, hsz, hP, hK, hF⟩ := hv
  have hx := B.exec
  have hb := B.bytes
  have hr := B.returns
  have hts := atoms_spec (ws := (Cond.code y_M_same c_M_same 3 (some .int) :: wsG)) B.pre
  have htg : ∀ w ∈ wsG, w.before ([.ref (ad 0), .int a1, .int a2] : List Value).toArray s = true := fun w h => hts w (List.mem_cons_of_mem _ h)
  have hown : s.vm.findClass RX3 = some m.cls := findClass_of_methodNamed B.named
  have hlocks := B.notSynchronized
  subst hsz
  have hD : ∀ σ, va_D (kAC ad s.heap.size) (wC ad cA cB σ) := fun σ => wC_D hap cA cB σ _
  have hS : va_S (kAC ad s.heap.size) s.heap s.heap [] := va_S.rf
  have hE := hF.1
  have hl := lv_entry ([.ref (ad 0), .int a1, .int a2]) (n := 3) (Nat.le_of_ble_eq_true rfl)
  rw [lg_entry_eq]
  generalize (lg_sl ([.ref (ad 0), .int a1, .int a2]) ++ List.replicate (3 - (lg_sl ([.ref (ad 0), .int a1, .int a2])).length) Slot.unset).toArray = ls at hl ⊢
  have hl : lv_has ls 3 [(0, .ref (ad 0)), (1, .int a1), (2, .int a2)] := hl
  unfold Sp_M_same at h
  obtain ⟨H, eH⟩ : ∃ z, z = s.heap := ⟨_, rfl⟩
  have hP : va_P D vwCl (wC ad cA cB σ) H := by rw [eH]; exact hP
  have hS : va_S (kAC ad s.heap.size) s.heap H [] := by rw [eH]; exact hS
  show W p l e (headSpec (Cond.code y_M_same c_M_same 3 (some .int) :: wsG) ({ frames := 8, cells := 1, slots := 6, locals := 130 } : Room)).room s m ([.ref (ad 0), .int a1, .int a2] : List Value).toArray below meth c s.heap [] 0 0 (vx_MQ below (va_Qi post (kBC D ad cA cB) (kAC ad s.heap.size)) (kX D ad cA cB px s.heap.size) ([.ref (ad 0), .int a1, .int a2] : List Value).toArray s 1 6 (kAC ad s.heap.size)) (F0 m 0 ls [])
  suffices k : W p l e (headSpec (Cond.code y_M_same c_M_same 3 (some .int) :: wsG) ({ frames := 8, cells := 1, slots := 6, locals := 130 } : Room)).room s m ([.ref (ad 0), .int a1, .int a2] : List Value).toArray below meth c H [] 0 0 (vx_MQ below (va_Qi post (kBC D ad cA cB) (kAC ad s.heap.size)) (kX D ad cA cB px s.heap.size) ([.ref (ad 0), .int a1, .int a2] : List Value).toArray s 1 6 (kAC ad s.heap.size)) (F0 m 0 ls []) by rw [eH] at k; exact k
  refine lv_iload_n hx hb d_M_same_0 rfl (lv_at hl 1 rfl) ?_
  refine Or.elim (or_M_needContext h) (fun h => ?_) (fun h => kX_v (vx_runS (As := [.int a1]) (rest := []) ⟨hx, hb, hml, hown, htg⟩ (metx_M_needContext l hl0 D ad cA cB hap σ H.size a1 _ _ h) (cwS 1 htg (kG (kG_S m_238 m_239 m_53 (kG_self m_240))) rfl rfl rfl (by decide +kernel) ⟨Nat.le_of_ble_eq_true rfl, Nat.le_of_ble_eq_true rfl⟩) (kC_pre hK hF hP hS _) rfl rfl hl.1 rfl (lv_room (Nat.le_of_ble_eq_true rfl)) d_M_same_1 ⟨Nat.le_of_ble_eq_true rfl, Nat.le_of_ble_eq_true rfl⟩) hS (fun _ h => h) hnx hlocks (Nat.le_of_ble_eq_true rfl) (Nat.le_of_ble_eq_true rfl))
  refine kC_v (va_runS (As := [.int a1]) (rest := []) ⟨hx, hb, hml, hown, htg⟩ (met_M_needContext l D ad cA cB hap σ H.size a1 _ h) (cwS 1 htg (kG (kG_S m_238 m_239 m_53 (kG_self m_240))) rfl rfl rfl (by decide +kernel) ⟨Nat.le_of_ble_eq_true rfl, Nat.le_of_ble_eq_true rfl⟩) (kC_pre hK hF hP hS _) rfl rfl hl.1 rfl (lv_room (Nat.le_of_ble_eq_true rfl)) d_M_same_1 ⟨Nat.le_of_ble_eq_true rfl, Nat.le_of_ble_eq_true rfl⟩) hS (fun σ1 H locs h hP hS => ?_)
  refine lv_iload_n hx hb d_M_same_4 rfl (lv_at hl 2 rfl) ?_
  refine Or.elim (or_M_needContext h) (fun h => ?_) (fun h => kX_v (vx_runS (As := [.int a2]) (rest := []) ⟨hx, hb, hml, hown, htg⟩ (metx_M_needContext l hl0 D ad cA cB hap σ1 H.size a2 _ _ h) (cwS 1 htg (kG (kG_S m_238 m_239 m_53 (kG_self m_240))) rfl rfl rfl (by decide +kernel) ⟨Nat.le_of_ble_eq_true rfl, Nat.le_of_ble_eq_true rfl⟩) (kC_pre hK hF hP hS _) rfl rfl hl.1 rfl (lv_room (Nat.le_of_ble_eq_true rfl)) d_M_same_5 ⟨Nat.le_of_ble_eq_true rfl, Nat.le_of_ble_eq_true rfl⟩) hS (fun _ h => h) hnx hlocks (Nat.le_of_ble_eq_true rfl) (Nat.le_of_ble_eq_true rfl))
  refine kC_v (va_runS (As := [.int a2]) (rest := []) ⟨hx, hb, hml, hown, htg⟩ (met_M_needContext l D ad cA cB hap σ1 H.size a2 _ h) (cwS 1 htg (kG (kG_S m_238 m_239 m_53 (kG_self m_240))) rfl rfl rfl (by decide +kernel) ⟨Nat.le_of_ble_eq_true rfl, Nat.le_of_ble_eq_true rfl⟩) (kC_pre hK hF hP hS _) rfl rfl hl.1 rfl (lv_room (Nat.le_of_ble_eq_true rfl)) d_M_same_5 ⟨Nat.le_of_ble_eq_true rfl, Nat.le_of_ble_eq_true rfl⟩) hS (fun σ2 H locs h hP hS => ?_)
  refine lv_aload_n hx hb d_M_same_8 rfl (lv_at hl 0 rfl) ?_
  refine lv_aload_n hx hb d_M_same_9 rfl (lv_at hl 0 rfl) ?_
  refine va_get (D := D) (ci := 3) (v := .ref (ad 1)) (C := RX3) (T := TX3) (N := 4) hx hb htg inG_X3 hown hK hP 0 rfl rfl 0 (by decide) (htg _ m_217) (fun _ h9 => h9) rfl d_M_same_10 ?_
  refine lv_iload_n hx hb d_M_same_13 rfl (lv_at hl 1 rfl) ?_
  refine lv_iload_n hx hb d_M_same_14 rfl (lv_at hl 2 rfl) ?_
  refine kC_i (va_runV (As := [.int a1, .int a2]) (rest := [.ref (ad 0)]) ⟨hx, hb, hml, hown, htg⟩ (met_D_tellSame l D ad cA cB hap σ2 H.size a1 a2 _ h) (cwV 2 htg (kG (kG_V m_349 m_350 m_351 m_54 (kG_self m_352))) rfl rfl rfl (by decide +kernel) ⟨Nat.le_of_ble_eq_true rfl, Nat.le_of_ble_eq_true rfl⟩) (kC_preV hK hF hP hS 1 rfl rfl _) rfl rfl hl.1 rfl (lv_room (Nat.le_of_ble_eq_true rfl)) d_M_same_15 ⟨Nat.le_of_ble_eq_true rfl, Nat.le_of_ble_eq_true rfl⟩) hS (fun r4 σ3 H locs h hP hS => ?_)
  refine kC_i (va_runV (As := [.int r4]) (rest := []) ⟨hx, hb, hml, hown, htg⟩ (met_M_changed l D ad cA cB hap σ3 H.size r4 _ h) (cwV 1 htg (kG (kG_V m_338 m_340 m_3 m_53 (kG_self m_341))) rfl rfl rfl (by decide +kernel) ⟨Nat.le_of_ble_eq_true rfl, Nat.le_of_ble_eq_true rfl⟩) (kC_preV hK hF hP hS 0 rfl rfl _) rfl rfl hl.1 rfl (lv_room (Nat.le_of_ble_eq_true rfl)) d_M_same_18 ⟨Nat.le_of_ble_eq_true rfl, Nat.le_of_ble_eq_true rfl⟩) hS (fun r6 σ5 H locs h hP hS => ?_)
  refine W.widen (k := 1) (n := 6) (by omega) (by omega) ?_
  refine vx_ret ?_
  exact W.iret (v := r6) hx hb hr (fun t ht hW => ⟨⟨_, σ5, rfl, h, kBC_of ht hP⟩, hS.F ht⟩) hS.2.2 d_M_same_21 hlocks
set_option maxHeartbeats 4000000 in
set_option maxRecDepth 100000 in
theorem metx_M_phase (l : Launch) (hl0 : l.stackTraces = false) (D : va_G) (ad : Nat → Nat) (cA cB : ClassId) (hap : kapC ad) (σ : S0) (sz : Nat) (a1 a2 : Int32) (post : Int32 → S0 → Prop) (px : Nat → S0 → Prop) (h : Sp_M_phase a1 a2 σ post px) : vx_Met l y_M_phase (Cond.code y_M_phase c_M_phase 3 (some .int) :: wsG) ({ frames := 8, cells := 1, slots := 6, locals := 130 } : Room) (kPcC D ad cA cB σ sz [.ref (ad 0), .int a1, .int a2]) (va_Qi post (kBC D ad cA cB) (kAC ad sz)) (kX D ad cA cB px sz) 1 6 (kAC ad sz) := by
  refine vx_ofW (cc := c_M_phase) (maxL := 3) (ret := (some .int)) (by decide) rfl ?_
  intro p e s m args below meth c s₁ B hml hnx hv
  obtain ⟨rfl, hsz, hP, hK, hF⟩ := hv
  have hx := B.exec
  have hb := B.bytes
  have hr := B.returns
  have hts := atoms_spec (ws := (Cond.code y_M_phase c_M_phase 3 (some .int) :: wsG)) B.pre
  have htg : ∀ w ∈ wsG, w.before ([.ref (ad 0), .int a1, .int a2] : List Value).toArray s = true := fun w h => hts w (List.mem_cons_of_mem _ h)
  have hown : s.vm.findClass RX3 = some m.cls := findClass_of_methodNamed B.named
  have hlocks := B.notSynchronized
  subst hsz
  have hD : ∀ σ, va_D (kAC ad s.heap.size) (wC ad cA cB σ) := fun σ => wC_D hap cA cB σ _
  have hS : va_S (kAC ad s.heap.size) s.heap s.heap [] := va_S.rf
  have hE := hF.1
  have hl := lv_entry ([.ref (ad 0), .int a1, .int a2]) (n := 3) (Nat.le_of_ble_eq_true rfl)
  rw [lg_entry_eq]
  generalize (lg_sl ([.ref (ad 0), .int a1, .int a2]) ++ List.replicate (3 - (lg_sl ([.ref (ad 0), .int a1, .int a2])).length) Slot.unset).toArray = ls at hl ⊢
  have hl : lv_has ls 3 [(0, .ref (ad 0)), (1, .int a1), (2, .int a2)] := hl
  unfold Sp_M_phase at h
  obtain ⟨G19, hG19⟩ : ∃ G : S0 → Prop, G = fun (σ : S0) => ∀ (H : Heap) (locs : List Loc) (ls : Array Slot), va_P D vwCl (wC ad cA cB σ) H → va_S (kAC ad s.heap.size) s.heap H locs → lv_has ls 3 [] → W p l e (headSpec (Cond.code y_M_phase c_M_phase 3 (some .int) :: wsG) ({ frames := 8, cells := 1, slots := 6, locals := 130 } : Room)).room s m ([.ref (ad 0), .int a1, .int a2] : List Value).toArray below meth c H locs 0 0 (vx_MQ below (va_Qi post (kBC D ad cA cB) (kAC ad s.heap.size)) (kX D ad cA cB px s.heap.size) ([.ref (ad 0), .int a1, .int a2] : List Value).toArray s 1 6 (kAC ad s.heap.size)) (F0 m 19 ls []) := ⟨_, rfl⟩
  obtain ⟨G29, hG29⟩ : ∃ G : Int32 → Int32 → S0 → Prop, G = fun (x1 x2 : Int32) (σ : S0) => ∀ (H : Heap) (locs : List Loc) (ls : Array Slot), va_P D vwCl (wC ad cA cB σ) H → va_S (kAC ad s.heap.size) s.heap H locs → lv_has ls 3 [(0, .ref (ad 0)), (1, .int x1), (2, .int x2)] → W p l e (headSpec (Cond.code y_M_phase c_M_phase 3 (some .int) :: wsG) ({ frames := 8, cells := 1, slots := 6, locals := 130 } : Room)).room s m ([.ref (ad 0), .int a1, .int a2] : List Value).toArray below meth c H locs 0 0 (vx_MQ below (va_Qi post (kBC D ad cA cB) (kAC ad s.heap.size)) (kX D ad cA cB px s.heap.size) ([.ref (ad 0), .int a1, .int a2] : List Value).toArray s 1 6 (kAC ad s.heap.size)) (F0 m 29 ls []) := ⟨_, rfl⟩
  have h := h G19 G29
  have h := h (by
    intro  σ h
    rw [hG19]
    intro H locs ls hP hS hl
    obtain ⟨sa, hstr⟩ := hF.2.2.2 (51, "no such phase") (by decide)
    exact vx_throwS (names := kch) hx hb hl0 hown (by decide +kernel) (by decide +kernel) (htg _ m_371) (htg _ m_64) hstr (at_53_ok htg hE) (at_53_ot) hF.2.1 hF.2.2.1 hS (hl.1.trans hml.symm) d_M_phase_19 d_M_phase_22 d_M_phase_23 d_M_phase_25 d_M_phase_28 (fun x hx => (hnx x hx).elim) (Nat.le_of_ble_eq_true rfl) (Nat.le_of_ble_eq_true rfl) (Nat.le_of_ble_eq_true rfl) (Nat.le_of_ble_eq_true rfl) hlocks (kX_thrown 2 h hP hS) hS.2.2 (Nat.le_of_ble_eq_true rfl) (Nat.le_of_ble_eq_true rfl))
  have h := h (by
    intro x1 x2 σ h
    rw [hG29]
    intro H locs ls hP hS hl
    refine lv_aload_n hx hb d_M_phase_29 rfl (lv_at hl 0 rfl) ?_
    refine lv_iconst (v := 0) hx hb d_M_phase_30 (by decide) ?_
    refine va_put (D := D) (ci := 3) (v := .int 0) (ty := .boolean) (C := RX3) (T := TX3) (N := 4) hx hb htg inG_X3 tyX3 tyX3_ok nmX3 hown hK hP (hD _) hS 0 rfl rfl 3 (by decide) (htg _ m_220) (fun _ h9 => h9) rfl (by decide +kernel) rfl rfl (Nat.le_of_ble_eq_true rfl) d_M_phase_31 (fun H locs hP _ hS => ?_)
    obtain ⟨σ2, eσ2⟩ : ∃ z : S0, z = st σ 0 0 0 := ⟨_, rfl⟩
    have hP : va_P D vwCl (wC ad cA cB σ2) H := by rw [eσ2]; exact hP
    have h := h σ2 eσ2
    refine lv_aload_n hx hb d_M_phase_34 rfl (lv_at hl 0 rfl) ?_
    refine va_get (D := D) (ci := 3) (v := .ref (ad 1)) (C := RX3) (T := TX3) (N := 4) hx hb htg inG_X3 hown hK hP 0 rfl rfl 0 (by decide) (htg _ m_217) (fun _ h9 => h9) rfl d_M_phase_35 ?_
    refine lv_iload_n hx hb d_M_phase_38 rfl (lv_at hl 1 rfl) ?_
    refine lv_iload_n hx hb d_M_phase_39 rfl (lv_at hl 2 rfl) ?_
    refine kC_i (va_runV (As := [.int x1, .int x2]) (rest := []) ⟨hx, hb, hml, hown, htg⟩ (met_D_tellPhase l D ad cA cB hap σ2 H.size x1 x2 _ h) (cwV 2 htg (kG (kG_V m_387 m_388 m_389 m_54 (kG_self m_390))) rfl rfl rfl (by decide +kernel) ⟨Nat.le_of_ble_eq_true rfl, Nat.le_of_ble_eq_true rfl⟩) (kC_preV hK hF hP hS 1 rfl rfl _) rfl rfl hl.1 rfl (lv_room (Nat.le_of_ble_eq_true rfl)) d_M_phase_40 ⟨Nat.le_of_ble_eq_true rfl, Nat.le_of_ble_eq_true rfl⟩) hS (fun r4 σ3 H locs h hP hS => ?_)
    refine W.widen (k := 1) (n := 6) (by omega) (by omega) ?_
    refine vx_ret ?_
    exact W.iret (v := r4) hx hb hr (fun t ht hW => ⟨⟨_, σ3, rfl, h, kBC_of ht hP⟩, hS.F ht⟩) hS.2.2 d_M_phase_43 hlocks)
  obtain ⟨H, eH⟩ : ∃ z, z = s.heap := ⟨_, rfl⟩
  have hP : va_P D vwCl (wC ad cA cB σ) H := by rw [eH]; exact hP
  have hS : va_S (kAC ad s.heap.size) s.heap H [] := by rw [eH]; exact hS
  show W p l e (headSpec (Cond.code y_M_phase c_M_phase 3 (some .int) :: wsG) ({ frames := 8, cells := 1, slots := 6, locals := 130 } : Room)).room s m ([.ref (ad 0), .int a1, .int a2] : List Value).toArray below meth c s.heap [] 0 0 (vx_MQ below (va_Qi post (kBC D ad cA cB) (kAC ad s.heap.size)) (kX D ad cA cB px s.heap.size) ([.ref (ad 0), .int a1, .int a2] : List Value).toArray s 1 6 (kAC ad s.heap.size)) (F0 m 0 ls [])
  suffices k : W p l e (headSpec (Cond.code y_M_phase c_M_phase 3 (some .int) :: wsG) ({ frames := 8, cells := 1, slots := 6, locals := 130 } : Room)).room s m ([.ref (ad 0), .int a1, .int a2] : List Value).toArray below meth c H [] 0 0 (vx_MQ below (va_Qi post (kBC D ad cA cB) (kAC ad s.heap.size)) (kX D ad cA cB px s.heap.size) ([.ref (ad 0), .int a1, .int a2] : List Value).toArray s 1 6 (kAC ad s.heap.size)) (F0 m 0 ls []) by rw [eH] at k; exact k
  refine lv_iload_n hx hb d_M_phase_0 rfl (lv_at hl 1 rfl) ?_
  refine Or.elim (or_M_needContext h) (fun h => ?_) (fun h => kX_v (vx_runS (As := [.int a1]) (rest := []) ⟨hx, hb, hml, hown, htg⟩ (metx_M_needContext l hl0 D ad cA cB hap σ H.size a1 _ _ h) (cwS 1 htg (kG (kG_S m_238 m_239 m_53 (kG_self m_240))) rfl rfl rfl (by decide +kernel) ⟨Nat.le_of_ble_eq_true rfl, Nat.le_of_ble_eq_true rfl⟩) (kC_pre hK hF hP hS _) rfl rfl hl.1 rfl (lv_room (Nat.le_of_ble_eq_true rfl)) d_M_phase_1 ⟨Nat.le_of_ble_eq_true rfl, Nat.le_of_ble_eq_true rfl⟩) hS (fun _ h => h) hnx hlocks (Nat.le_of_ble_eq_true rfl) (Nat.le_of_ble_eq_true rfl))
  refine kC_v (va_runS (As := [.int a1]) (rest := []) ⟨hx, hb, hml, hown, htg⟩ (met_M_needContext l D ad cA cB hap σ H.size a1 _ h) (cwS 1 htg (kG (kG_S m_238 m_239 m_53 (kG_self m_240))) rfl rfl rfl (by decide +kernel) ⟨Nat.le_of_ble_eq_true rfl, Nat.le_of_ble_eq_true rfl⟩) (kC_pre hK hF hP hS _) rfl rfl hl.1 rfl (lv_room (Nat.le_of_ble_eq_true rfl)) d_M_phase_1 ⟨Nat.le_of_ble_eq_true rfl, Nat.le_of_ble_eq_true rfl⟩) hS (fun σ1 H locs h hP hS => ?_)
  refine lv_iload_n hx hb d_M_phase_4 rfl (lv_at hl 2 rfl) ?_
  refine lv_iconst (v := (-1)) hx hb d_M_phase_5 (by decide) ?_
  refine lv_icmp_eq (tgt := 29) hx hb d_M_phase_6 (by decide) (fun cn => ?_) (fun cn => ?_)
  · have h := h.1 cn
    rw [hG29] at h
    exact h _ _ _ hP hS (lv_sub hl [0, 1, 2] rfl)
  · have h := h.2 cn
    refine lv_iload_n hx hb d_M_phase_9 rfl (lv_at hl 2 rfl) ?_
    refine lv_if_lt (tgt := 19) hx hb d_M_phase_10 (by decide) (fun cn => ?_) (fun cn => ?_)
    · have h := h.1 cn
      rw [hG19] at h
      exact h _ _ _ hP hS (lv_sub hl [] rfl)
    · have h := h.2 cn
      refine lv_iload_n hx hb d_M_phase_13 rfl (lv_at hl 2 rfl) ?_
      refine lv_bipush (v := 6) hx hb d_M_phase_14 (by decide) ?_
      refine lv_icmp_lt (tgt := 29) hx hb d_M_phase_16 (by decide) (fun cn => ?_) (fun cn => ?_)
      · have h := h.1 cn
        rw [hG29] at h
        exact h _ _ _ hP hS (lv_sub hl [0, 1, 2] rfl)
      · have h := h.2 cn
        rw [hG19] at h
        exact h _ _ _ hP hS (lv_sub hl [] rfl)
set_option maxHeartbeats 4000000 in
set_option maxRecDepth 100000 in
theorem metx_M_hide (l : Launch) (hl0 : l.stackTraces = false) (D : va_G) (ad : Nat → Nat) (cA cB : ClassId) (hap : kapC ad) (σ : S0) (sz : Nat) (a1 a2 : Int32) (post : Int32 → S0 → Prop) (px : Nat → S0 → Prop) (h : Sp_M_hide a1 a2 σ post px) : vx_Met l y_M_hide (Cond.code y_M_hide c_M_hide 3 (some .boolean) :: wsG) ({ frames := 8, cells := 1, slots := 6, locals := 130 } : Room) (kPcC D ad cA cB σ sz [.ref (ad 0), .int a1, .int a2]) (va_Qi post (kBC D ad cA cB) (kAC ad sz)) (kX D ad cA cB px sz) 1 6 (kAC ad sz) := by
  refine vx_ofW (cc := c_M_hide) (maxL := 3) (ret := (some .boolean)) (by decide) rfl ?_
  intro p e s m args below meth c s₁ B hml hnx hv
  obtain ⟨rfl, hsz, hP, hK, hF⟩ := hv
  have hx := B.exec
  have hb := B.bytes
  have hr := B.returns
  have hts := atoms_spec (ws := (Cond.code y_M_hide c_M_hide 3 (some .boolean) :: wsG)) B.pre
  have htg : ∀ w ∈ wsG, w.before ([.ref (ad 0), .int a1, .int a2] : List Value).toArray s = true := fun w h => hts w (List.mem_cons_of_mem _ h)
  have hown : s.vm.findClass RX3 = some m.cls := findClass_of_methodNamed B.named
  have hlocks := B.notSynchronized
  subst hsz
  have hD : ∀ σ, va_D (kAC ad s.heap.size) (wC ad cA cB σ) := fun σ => wC_D hap cA cB σ _
  have hS : va_S (kAC ad s.heap.size) s.heap s.heap [] := va_S.rf
  have hE := hF.1
  have hl := lv_entry ([.ref (ad 0), .int a1, .int a2]) (n := 3) (Nat.le_of_ble_eq_true rfl)
  rw [lg_entry_eq]
  generalize (lg_sl ([.ref (ad 0), .int a1, .int a2]) ++ List.replicate (3 - (lg_sl ([.ref (ad 0), .int a1, .int a2])).length) Slot.unset).toArray = ls at hl ⊢
  have hl : lv_has ls 3 [(0, .ref (ad 0)), (1, .int a1), (2, .int a2)] := hl
  unfold Sp_M_hide at h
  obtain ⟨H, eH⟩ : ∃ z, z = s.heap := ⟨_, rfl⟩
  have hP : va_P D vwCl (wC ad cA cB σ) H := by rw [eH]; exact hP
  have hS : va_S (kAC ad s.heap.size) s.heap H [] := by rw [eH]; exact hS
  show W p l e (headSpec (Cond.code y_M_hide c_M_hide 3 (some .boolean) :: wsG) ({ frames := 8, cells := 1, slots := 6, locals := 130 } : Room)).room s m ([.ref (ad 0), .int a1, .int a2] : List Value).toArray below meth c s.heap [] 0 0 (vx_MQ below (va_Qi post (kBC D ad cA cB) (kAC ad s.heap.size)) (kX D ad cA cB px s.heap.size) ([.ref (ad 0), .int a1, .int a2] : List Value).toArray s 1 6 (kAC ad s.heap.size)) (F0 m 0 ls [])
  suffices k : W p l e (headSpec (Cond.code y_M_hide c_M_hide 3 (some .boolean) :: wsG) ({ frames := 8, cells := 1, slots := 6, locals := 130 } : Room)).room s m ([.ref (ad 0), .int a1, .int a2] : List Value).toArray below meth c H [] 0 0 (vx_MQ below (va_Qi post (kBC D ad cA cB) (kAC ad s.heap.size)) (kX D ad cA cB px s.heap.size) ([.ref (ad 0), .int a1, .int a2] : List Value).toArray s 1 6 (kAC ad s.heap.size)) (F0 m 0 ls []) by rw [eH] at k; exact k
  refine lv_iload_n hx hb d_M_hide_0 rfl (lv_at hl 1 rfl) ?_
  refine Or.elim (or_M_needContext h) (fun h => ?_) (fun h => kX_v (vx_runS (As := [.int a1]) (rest := []) ⟨hx, hb, hml, hown, htg⟩ (metx_M_needContext l hl0 D ad cA cB hap σ H.size a1 _ _ h) (cwS 1 htg (kG (kG_S m_238 m_239 m_53 (kG_self m_240))) rfl rfl rfl (by decide +kernel) ⟨Nat.le_of_ble_eq_true rfl, Nat.le_of_ble_eq_true rfl⟩) (kC_pre hK hF hP hS _) rfl rfl hl.1 rfl (lv_room (Nat.le_of_ble_eq_true rfl)) d_M_hide_1 ⟨Nat.le_of_ble_eq_true rfl, Nat.le_of_ble_eq_true rfl⟩) hS (fun _ h => h) hnx hlocks (Nat.le_of_ble_eq_true rfl) (Nat.le_of_ble_eq_true rfl))
  refine kC_v (va_runS (As := [.int a1]) (rest := []) ⟨hx, hb, hml, hown, htg⟩ (met_M_needContext l D ad cA cB hap σ H.size a1 _ h) (cwS 1 htg (kG (kG_S m_238 m_239 m_53 (kG_self m_240))) rfl rfl rfl (by decide +kernel) ⟨Nat.le_of_ble_eq_true rfl, Nat.le_of_ble_eq_true rfl⟩) (kC_pre hK hF hP hS _) rfl rfl hl.1 rfl (lv_room (Nat.le_of_ble_eq_true rfl)) d_M_hide_1 ⟨Nat.le_of_ble_eq_true rfl, Nat.le_of_ble_eq_true rfl⟩) hS (fun σ1 H locs h hP hS => ?_)
  refine lv_aload_n hx hb d_M_hide_4 rfl (lv_at hl 0 rfl) ?_
  refine lv_iconst (v := 0) hx hb d_M_hide_5 (by decide) ?_
  refine va_put (D := D) (ci := 3) (v := .int 0) (ty := .boolean) (C := RX3) (T := TX3) (N := 4) hx hb htg inG_X3 tyX3 tyX3_ok nmX3 hown hK hP (hD _) hS 0 rfl rfl 3 (by decide) (htg _ m_220) (fun _ h9 => h9) rfl (by decide +kernel) rfl rfl (Nat.le_of_ble_eq_true rfl) d_M_hide_6 (fun H locs hP _ hS => ?_)
  obtain ⟨σ2, eσ2⟩ : ∃ z : S0, z = st σ1 0 0 0 := ⟨_, rfl⟩
  have hP : va_P D vwCl (wC ad cA cB σ2) H := by rw [eσ2]; exact hP
  have h := h σ2 eσ2
  refine lv_aload_n hx hb d_M_hide_9 rfl (lv_at hl 0 rfl) ?_
  refine va_get (D := D) (ci := 3) (v := .ref (ad 1)) (C := RX3) (T := TX3) (N := 4) hx hb htg inG_X3 hown hK hP 0 rfl rfl 0 (by decide) (htg _ m_217) (fun _ h9 => h9) rfl d_M_hide_10 ?_
  refine lv_iload_n hx hb d_M_hide_13 rfl (lv_at hl 1 rfl) ?_
  refine lv_iload_n hx hb d_M_hide_14 rfl (lv_at hl 2 rfl) ?_
  refine kC_i (va_runV (As := [.int a1, .int a2]) (rest := []) ⟨hx, hb, hml, hown, htg⟩ (met_D_tellHidden l D ad cA cB hap σ2 H.size a1 a2 _ h) (cwV 2 htg (kG (kG_V m_398 m_399 m_400 m_54 (kG_self m_401))) rfl rfl rfl (by decide +kernel) ⟨Nat.le_of_ble_eq_true rfl, Nat.le_of_ble_eq_true rfl⟩) (kC_preV hK hF hP hS 1 rfl rfl _) rfl rfl hl.1 rfl (lv_room (Nat.le_of_ble_eq_true rfl)) d_M_hide_15 ⟨Nat.le_of_ble_eq_true rfl, Nat.le_of_ble_eq_true rfl⟩) hS (fun r4 σ3 H locs h hP hS => ?_)
  have hi := h.1
  have h := h.2
  refine W.widen (k := 1) (n := 6) (by omega) (by omega) ?_
  refine vx_ret ?_
  exact W.zret (v := r4) hx hb hr (bo_n hi) (fun t ht hW => ⟨⟨_, σ3, rfl, h, kBC_of ht hP⟩, hS.F ht⟩) hS.2.2 d_M_hide_18 hlocks
set_option maxHeartbeats 4000000 in
set_option maxRecDepth 100000 in
theorem metx_M_group (l : Launch) (hl0 : l.stackTraces = false) (D : va_G) (ad : Nat → Nat) (cA cB : ClassId) (hap : kapC ad) (σ : S0) (sz : Nat) (a1 : Int32) (post : Int32 → S0 → Prop) (px : Nat → S0 → Prop) (h : Sp_M_group a1 σ post px) : vx_Met l y_M_group (Cond.code y_M_group c_M_group 2 (some .int) :: wsG) ({ frames := 8, cells := 1, slots := 6, locals := 130 } : Room) (kPcC D ad cA cB σ sz [.ref (ad 0), .int a1]) (va_Qi post (kBC D ad cA cB) (kAC ad sz)) (kX D ad cA cB px sz) 1 6 (kAC ad sz) := by
  refine vx_ofW (cc := c_M_group) (maxL := 2) (ret := (some .int)) (by decide) rfl ?_
  intro p e s m args below meth c s₁ B hml hnx hv
  obtain ⟨rfl, hsz, hP, hK, hF⟩ := hv
  have hx := B.exec
  have hb := B.bytes
  have hr := B.returns
  have hts := atoms_spec (ws := (Cond.code y_M_group c_M_group 2 (some .int) :: wsG)) B.pre
  have htg : ∀ w ∈ wsG, w.before ([.ref (ad 0), .int a1] : List Value).toArray s = true := fun w h => hts w (List.mem_cons_of_mem _ h)
  have hown : s.vm.findClass RX3 = some m.cls := findClass_of_methodNamed B.named
  have hlocks := B.notSynchronized
  subst hsz
  have hD : ∀ σ, va_D (kAC ad s.heap.size) (wC ad cA cB σ) := fun σ => wC_D hap cA cB σ _
  have hS : va_S (kAC ad s.heap.size) s.heap s.heap [] := va_S.rf
  have hE := hF.1
  have hl := lv_entry ([.ref (ad 0), .int a1]) (n := 2) (Nat.le_of_ble_eq_true rfl)
  rw [lg_entry_eq]
  generalize (lg_sl ([.ref (ad 0), .int a1]) ++ List.replicate (2 - (lg_sl ([.ref (ad 0), .int a1])).length) Slot.unset).toArray = ls at hl ⊢
  have hl : lv_has ls 2 [(0, .ref (ad 0)), (1, .int a1)] := hl
  unfold Sp_M_group at h
  obtain ⟨H, eH⟩ : ∃ z, z = s.heap := ⟨_, rfl⟩
  have hP : va_P D vwCl (wC ad cA cB σ) H := by rw [eH]; exact hP
  have hS : va_S (kAC ad s.heap.size) s.heap H [] := by rw [eH]; exact hS
  show W p l e (headSpec (Cond.code y_M_group c_M_group 2 (some .int) :: wsG) ({ frames := 8, cells := 1, slots := 6, locals := 130 } : Room)).room s m ([.ref (ad 0), .int a1] : List Value).toArray below meth c s.heap [] 0 0 (vx_MQ below (va_Qi post (kBC D ad cA cB) (kAC ad s.heap.size)) (kX D ad cA cB px s.heap.size) ([.ref (ad 0), .int a1] : List Value).toArray s 1 6 (kAC ad s.heap.size)) (F0 m 0 ls [])
  suffices k : W p l e (headSpec (Cond.code y_M_group c_M_group 2 (some .int) :: wsG) ({ frames := 8, cells := 1, slots := 6, locals := 130 } : Room)).room s m ([.ref (ad 0), .int a1] : List Value).toArray below meth c H [] 0 0 (vx_MQ below (va_Qi post (kBC D ad cA cB) (kAC ad s.heap.size)) (kX D ad cA cB px s.heap.size) ([.ref (ad 0), .int a1] : List Value).toArray s 1 6 (kAC ad s.heap.size)) (F0 m 0 ls []) by rw [eH] at k; exact k
  refine lv_iload_n hx hb d_M_group_0 rfl (lv_at hl 1 rfl) ?_
  refine Or.elim (or_M_needContext h) (fun h => ?_) (fun h => kX_v (vx_runS (As := [.int a1]) (rest := []) ⟨hx, hb, hml, hown, htg⟩ (metx_M_needContext l hl0 D ad cA cB hap σ H.size a1 _ _ h) (cwS 1 htg (kG (kG_S m_238 m_239 m_53 (kG_self m_240))) rfl rfl rfl (by decide +kernel) ⟨Nat.le_of_ble_eq_true rfl, Nat.le_of_ble_eq_true rfl⟩) (kC_pre hK hF hP hS _) rfl rfl hl.1 rfl (lv_room (Nat.le_of_ble_eq_true rfl)) d_M_group_1 ⟨Nat.le_of_ble_eq_true rfl, Nat.le_of_ble_eq_true rfl⟩) hS (fun _ h => h) hnx hlocks (Nat.le_of_ble_eq_true rfl) (Nat.le_of_ble_eq_true rfl))
  refine kC_v (va_runS (As := [.int a1]) (rest := []) ⟨hx, hb, hml, hown, htg⟩ (met_M_needContext l D ad cA cB hap σ H.size a1 _ h) (cwS 1 htg (kG (kG_S m_238 m_239 m_53 (kG_self m_240))) rfl rfl rfl (by decide +kernel) ⟨Nat.le_of_ble_eq_true rfl, Nat.le_of_ble_eq_true rfl⟩) (kC_pre hK hF hP hS _) rfl rfl hl.1 rfl (lv_room (Nat.le_of_ble_eq_true rfl)) d_M_group_1 ⟨Nat.le_of_ble_eq_true rfl, Nat.le_of_ble_eq_true rfl⟩) hS (fun σ1 H locs h hP hS => ?_)
  refine lv_aload_n hx hb d_M_group_4 rfl (lv_at hl 0 rfl) ?_
  refine va_get (D := D) (ci := 3) (v := .ref (ad 1)) (C := RX3) (T := TX3) (N := 4) hx hb htg inG_X3 hown hK hP 0 rfl rfl 0 (by decide) (htg _ m_217) (fun _ h9 => h9) rfl d_M_group_5 ?_
  refine va_get (D := D) (ci := 0) (v := .ref (ad 4)) (C := RX0) (T := TX0) (N := 9) hx hb htg inG_X0 hown hK hP 1 rfl rfl 0 (by decide) (htg _ m_82) (fun _ h9 => h9) rfl d_M_group_8 ?_
  refine lv_iload_n hx hb d_M_group_11 rfl (lv_at hl 1 rfl) ?_
  have hi := h.1
  have h := h.2
  refine va_iald hx hb hK hP 4 0 rfl rfl hi d_M_group_12 ?_
  refine W.widen (k := 1) (n := 6) (by omega) (by omega) ?_
  refine vx_ret ?_
  exact W.iret (v := (σ1 4 a1.toNatClampNeg)) hx hb hr (fun t ht hW => ⟨⟨_, σ1, rfl, h, kBC_of ht hP⟩, hS.F ht⟩) hS.2.2 d_M_group_13 hlocks
set_option maxHeartbeats 4000000 in
set_option maxRecDepth 100000 in
theorem metx_M_misfit (l : Launch) (hl0 : l.stackTraces = false) (D : va_G) (ad : Nat → Nat) (cA cB : ClassId) (hap : kapC ad) (σ : S0) (sz : Nat) (a1 a2 : Int32) (post : Int32 → S0 → Prop) (px : Nat → S0 → Prop) (h : Sp_M_misfit a1 a2 σ post px) : vx_Met l y_M_misfit (Cond.code y_M_misfit c_M_misfit 4 (some .int) :: wsG) ({ frames := 7, cells := 1, slots := 6, locals := 110 } : Room) (kPcC D ad cA cB σ sz [.ref (ad 0), .int a1, .int a2]) (va_Qi post (kBC D ad cA cB) (kAC ad sz)) (kX D ad cA cB px sz) 1 6 (kAC ad sz) := by
  refine vx_ofW (cc := c_M_misfit) (maxL := 4) (ret := (some .int)) (by decide) rfl ?_
  intro p e s m args below meth c s₁ B hml hnx hv
  obtain ⟨rfl, hsz, hP, hK, hF⟩ := hv
  have hx := B.exec
  have hb := B.bytes
  have hr := B.returns
  have hts := atoms_spec (ws := (Cond.code y_M_misfit c_M_misfit 4 (some .int) :: wsG)) B.pre
  have htg : ∀ w ∈ wsG, w.before ([.ref (ad 0), .int a1, .int a2] : List Value).toArray s = true := fun w h => hts w (List.mem_cons_of_mem _ h)
  have hown : s.vm.findClass RX3 = some m.cls := findClass_of_methodNamed B.named
  have hlocks := B.notSynchronized
  subst hsz
  have hD : ∀ σ, va_D (kAC ad s.heap.size) (wC ad cA cB σ) := fun σ => wC_D hap cA cB σ _
  have hS : va_S (kAC ad s.heap.size) s.heap s.heap [] := va_S.rf
  have hE := hF.1
  have hl := lv_entry ([.ref (ad 0), .int a1, .int a2]) (n := 4) (Nat.le_of_ble_eq_true rfl)
  rw [lg_entry_eq]
  generalize (lg_sl ([.ref (ad 0), .int a1, .int a2]) ++ List.replicate (4 - (lg_sl ([.ref (ad 0), .int a1, .int a2])).length) Slot.unset).toArray = ls at hl ⊢
  have hl : lv_has ls 4 [(0, .ref (ad 0)), (1, .int a1), (2, .int a2)] := hl
  unfold Sp_M_misfit at h
  obtain ⟨G18, hG18⟩ : ∃ G : Int32 → Int32 → Int32 → S0 → Prop, G = fun (x1 x2 t0 : Int32) (σ : S0) => ∀ (H : Heap) (locs : List Loc) (ls : Array Slot), va_P D vwCl (wC ad cA cB σ) H → va_S (kAC ad s.heap.size) s.heap H locs → lv_has ls 4 [(0, .ref (ad 0)), (1, .int x1), (2, .int x2)] → W p l e (headSpec (Cond.code y_M_misfit c_M_misfit 4 (some .int) :: wsG) ({ frames := 7, cells := 1, slots := 6, locals := 110 } : Room)).room s m ([.ref (ad 0), .int a1, .int a2] : List Value).toArray below meth c H locs 0 0 (vx_MQ below (va_Qi post (kBC D ad cA cB) (kAC ad s.heap.size)) (kX D ad cA cB px s.heap.size) ([.ref (ad 0), .int a1, .int a2] : List Value).toArray s 1 6 (kAC ad s.heap.size)) (F0 m 18 ls [.int t0]) := ⟨_, rfl⟩
  have h := h G18
  have h := h (by
    intro x1 x2 t0 σ h
    rw [hG18]
    intro H locs ls hP hS hl
    refine Or.elim (or_M_need h) (fun h => ?_) (fun h => kX_v (vx_runS (As := [.int t0]) (rest := []) ⟨hx, hb, hml, hown, htg⟩ (metx_M_need l hl0 D ad cA cB hap σ H.size t0 _ _ h) (cwS 1 htg (kG (kG_S m_241 m_242 m_53 (kG_self m_243))) rfl rfl rfl (by decide +kernel) ⟨Nat.le_of_ble_eq_true rfl, Nat.le_of_ble_eq_true rfl⟩) (kC_pre hK hF hP hS _) rfl rfl hl.1 rfl (lv_room (Nat.le_of_ble_eq_true rfl)) d_M_misfit_18 ⟨Nat.le_of_ble_eq_true rfl, Nat.le_of_ble_eq_true rfl⟩) hS (fun _ h => h) hnx hlocks (Nat.le_of_ble_eq_true rfl) (Nat.le_of_ble_eq_true rfl))
    refine kC_v (va_runS (As := [.int t0]) (rest := []) ⟨hx, hb, hml, hown, htg⟩ (met_M_need l D ad cA cB hap σ H.size t0 _ h) (cwS 1 htg (kG (kG_S m_241 m_242 m_53 (kG_self m_243))) rfl rfl rfl (by decide +kernel) ⟨Nat.le_of_ble_eq_true rfl, Nat.le_of_ble_eq_true rfl⟩) (kC_pre hK hF hP hS _) rfl rfl hl.1 rfl (lv_room (Nat.le_of_ble_eq_true rfl)) d_M_misfit_18 ⟨Nat.le_of_ble_eq_true rfl, Nat.le_of_ble_eq_true rfl⟩) hS (fun σ1 H locs h hP hS => ?_)
    refine lv_aload_n hx hb d_M_misfit_21 rfl (lv_at hl 0 rfl) ?_
    refine va_get (D := D) (ci := 3) (v := .ref (ad 1)) (C := RX3) (T := TX3) (N := 4) hx hb htg inG_X3 hown hK hP 0 rfl rfl 0 (by decide) (htg _ m_217) (fun _ h9 => h9) rfl d_M_misfit_22 ?_
    refine lv_iload_n hx hb d_M_misfit_25 rfl (lv_at hl 1 rfl) ?_
    refine kC_i (va_runV (As := [.int x1]) (rest := []) ⟨hx, hb, hml, hown, htg⟩ (met_D_findMisfit l D ad cA cB hap σ1 H.size x1 _ h) (cwV 1 htg (kG (kG_V m_416 m_417 m_418 m_54 (kG_self m_419))) rfl rfl rfl (by decide +kernel) ⟨Nat.le_of_ble_eq_true rfl, Nat.le_of_ble_eq_true rfl⟩) (kC_preV hK hF hP hS 1 rfl rfl _) rfl rfl hl.1 rfl (lv_room (Nat.le_of_ble_eq_true rfl)) d_M_misfit_26 ⟨Nat.le_of_ble_eq_true rfl, Nat.le_of_ble_eq_true rfl⟩) hS (fun r3 σ2 H locs h hP hS => ?_)
    refine lv_istore_n (lv' := [(3, .int r3), (0, .ref (ad 0)), (1, .int x1), (2, .int x2)]) hx hb d_M_misfit_29 rfl hl (by decide) rfl (fun ls hl => ?_)
    refine lv_iload_n hx hb d_M_misfit_30 rfl (lv_at hl 0 rfl) ?_
    refine lv_iconst (v := (-1)) hx hb d_M_misfit_31 (by decide) ?_
    refine lv_icmp_ne (tgt := 37) hx hb d_M_misfit_32 (by decide) (fun cn => ?_) (fun cn => ?_)
    · have h := h.1 cn
      refine lv_iload_n hx hb d_M_misfit_37 rfl (lv_at hl 3 rfl) ?_
      refine lv_if_ne (tgt := 48) hx hb d_M_misfit_38 (by decide) (fun cn => ?_) (fun cn => ?_)
      · have h := h.1 cn
        refine lv_iload_n hx hb d_M_misfit_48 rfl (lv_at hl 0 rfl) ?_
        refine lv_bipush (v := 16) hx hb d_M_misfit_49 (by decide) ?_
        refine lv_irem hx hb d_M_misfit_51 (by decide) ?_
        refine W.widen (k := 1) (n := 6) (by omega) (by omega) ?_
        refine vx_ret ?_
        exact W.iret (v := (r3 - r3 / 16 * 16)) hx hb hr (fun t ht hW => ⟨⟨_, σ2, rfl, h, kBC_of ht hP⟩, hS.F ht⟩) hS.2.2 d_M_misfit_52 hlocks
      · have h := h.2 cn
        refine lv_iload_n hx hb d_M_misfit_41 rfl (lv_at hl 0 rfl) ?_
        refine lv_bipush (v := 16) hx hb d_M_misfit_42 (by decide) ?_
        refine lv_idiv hx hb d_M_misfit_44 (by decide) ?_
        refine lv_goto (tgt := 52) hx hb d_M_misfit_45 (by decide) ?_
        refine W.widen (k := 1) (n := 6) (by omega) (by omega) ?_
        refine vx_ret ?_
        exact W.iret (v := (r3 / 16)) hx hb hr (fun t ht hW => ⟨⟨_, σ2, rfl, h, kBC_of ht hP⟩, hS.F ht⟩) hS.2.2 d_M_misfit_52 hlocks
    · have h := h.2 cn
      refine lv_iconst (v := (-1)) hx hb d_M_misfit_35 (by decide) ?_
      refine W.widen (k := 1) (n := 6) (by omega) (by omega) ?_
      refine vx_ret ?_
      exact W.iret (v := (-1)) hx hb hr (fun t ht hW => ⟨⟨_, σ2, rfl, h, kBC_of ht hP⟩, hS.F ht⟩) hS.2.2 d_M_misfit_36 hlocks)
  obtain ⟨H, eH⟩ : ∃ z, z = s.heap := ⟨_, rfl⟩
  have hP : va_P D vwCl (wC ad cA cB σ) H := by rw [eH]; exact hP
  have hS : va_S (kAC ad s.heap.size) s.heap H [] := by rw [eH]; exact hS
  show W p l e (headSpec (Cond.code y_M_misfit c_M_misfit 4 (some .int) :: wsG) ({ frames := 7, cells := 1, slots := 6, locals := 110 } : Room)).room s m ([.ref (ad 0), .int a1, .int a2] : List Value).toArray below meth c s.heap [] 0 0 (vx_MQ below (va_Qi post (kBC D ad cA cB) (kAC ad s.heap.size)) (kX D ad cA cB px s.heap.size) ([.ref (ad 0), .int a1, .int a2] : List Value).toArray s 1 6 (kAC ad s.heap.size)) (F0 m 0 ls [])
  suffices k : W p l e (headSpec (Cond.code y_M_misfit c_M_misfit 4 (some .int) :: wsG) ({ frames := 7, cells := 1, slots := 6, locals := 110 } : Room)).room s m ([.ref (ad 0), .int a1, .int a2] : List Value).toArray below meth c H [] 0 0 (vx_MQ below (va_Qi post (kBC D ad cA cB) (kAC ad s.heap.size)) (kX D ad cA cB px s.heap.size) ([.ref (ad 0), .int a1, .int a2] : List Value).toArray s 1 6 (kAC ad s.heap.size)) (F0 m 0 ls []) by rw [eH] at k; exact k
  refine lv_iload_n hx hb d_M_misfit_0 rfl (lv_at hl 1 rfl) ?_
  refine lv_if_lt (tgt := 17) hx hb d_M_misfit_1 (by decide) (fun cn => ?_) (fun cn => ?_)
  · have h := h.1 cn
    refine lv_iconst (v := 0) hx hb d_M_misfit_17 (by decide) ?_
    rw [hG18] at h
    exact h _ _ _ hP hS (lv_sub hl [0, 1, 2] rfl)
  · have h := h.2 cn
    refine lv_iload_n hx hb d_M_misfit_4 rfl (lv_at hl 2 rfl) ?_
    refine lv_if_eq (tgt := 13) hx hb d_M_misfit_5 (by decide) (fun cn => ?_) (fun cn => ?_)
    · have h := h.1 cn
      refine lv_iconst (v := 1) hx hb d_M_misfit_13 (by decide) ?_
      refine lv_goto (tgt := 18) hx hb d_M_misfit_14 (by decide) ?_
      rw [hG18] at h
      exact h _ _ _ hP hS (lv_sub hl [0, 1, 2] rfl)
    · have h := h.2 cn
      refine lv_iload_n hx hb d_M_misfit_8 rfl (lv_at hl 2 rfl) ?_
      refine lv_iconst (v := 1) hx hb d_M_misfit_9 (by decide) ?_
      refine lv_icmp_ne (tgt := 17) hx hb d_M_misfit_10 (by decide) (fun cn => ?_) (fun cn => ?_)
      · have h := h.1 cn
        refine lv_iconst (v := 0) hx hb d_M_misfit_17 (by decide) ?_
        rw [hG18] at h
        exact h _ _ _ hP hS (lv_sub hl [0, 1, 2] rfl)
      · have h := h.2 cn
        refine lv_iconst (v := 1) hx hb d_M_misfit_13 (by decide) ?_
        refine lv_goto (tgt := 18) hx hb d_M_misfit_14 (by decide) ?_
        rw [hG18] at h
        exact h _ _ _ hP hS (lv_sub hl [0, 1, 2] rfl)
set_option maxHeartbeats 4000000 in
set_option maxRecDepth 100000 in
theorem metx_M_draw (l : Launch) (hl0 : l.stackTraces = false) (D : va_G) (ad : Nat → Nat) (cA cB : ClassId) (hap : kapC ad) (σ : S0) (sz : Nat) (a1 : Int32) (post : Int32 → S0 → Prop) (px : Nat → S0 → Prop) (h : Sp_M_draw a1 σ post px) : vx_Met l y_M_draw (Cond.code y_M_draw c_M_draw 3 (some .int) :: wsG) ({ frames := 6, cells := 1, slots := 6, locals := 116 } : Room) (kPcC D ad cA cB σ sz [.ref (ad 0), .int a1]) (va_Qi post (kBC D ad cA cB) (kAC ad sz)) (kX D ad cA cB px sz) 1 6 (kAC ad sz) := by
  refine vx_ofW (cc := c_M_draw) (maxL := 3) (ret := (some .int)) (by decide) rfl ?_
  intro p e s m args below meth c s₁ B hml hnx hv
  obtain ⟨rfl, hsz, hP, hK, hF⟩ := hv
  have hx := B.exec
  have hb := B.bytes
  have hr := B.returns
  have hts := atoms_spec (ws := (Cond.code y_M_draw c_M_draw 3 (some .int) :: wsG)) B.pre
  have htg : ∀ w ∈ wsG, w.before ([.ref (ad 0), .int a1] : List Value).toArray s = true := fun w h => hts w (List.mem_cons_of_mem _ h)
  have hown : s.vm.findClass RX3 = some m.cls := findClass_of_methodNamed B.named
  have hlocks := B.notSynchronized
  subst hsz
  have hD : ∀ σ, va_D (kAC ad s.heap.size) (wC ad cA cB σ) := fun σ => wC_D hap cA cB σ _
  have hS : va_S (kAC ad s.heap.size) s.heap s.heap [] := va_S.rf
  have hE := hF.1
  have hl := lv_entry ([.ref (ad 0), .int a1]) (n := 3) (Nat.le_of_ble_eq_true rfl)
  rw [lg_entry_eq]
  generalize (lg_sl ([.ref (ad 0), .int a1]) ++ List.replicate (3 - (lg_sl ([.ref (ad 0), .int a1])).length) Slot.unset).toArray = ls at hl ⊢
  have hl : lv_has ls 3 [(0, .ref (ad 0)), (1, .int a1)] := hl
  unfold Sp_M_draw at h
  obtain ⟨G10, hG10⟩ : ∃ G : S0 → Prop, G = fun (σ : S0) => ∀ (H : Heap) (locs : List Loc) (ls : Array Slot), va_P D vwCl (wC ad cA cB σ) H → va_S (kAC ad s.heap.size) s.heap H locs → lv_has ls 3 [] → W p l e (headSpec (Cond.code y_M_draw c_M_draw 3 (some .int) :: wsG) ({ frames := 6, cells := 1, slots := 6, locals := 116 } : Room)).room s m ([.ref (ad 0), .int a1] : List Value).toArray below meth c H locs 0 0 (vx_MQ below (va_Qi post (kBC D ad cA cB) (kAC ad s.heap.size)) (kX D ad cA cB px s.heap.size) ([.ref (ad 0), .int a1] : List Value).toArray s 1 6 (kAC ad s.heap.size)) (F0 m 10 ls []) := ⟨_, rfl⟩
  have h := h G10
  have h := h (by
    intro  σ h
    rw [hG10]
    intro H locs ls hP hS hl
    obtain ⟨sa, hstr⟩ := hF.2.2.2 (74, "rounds are 0 to 12") (by decide)
    exact vx_throwS (names := kch) hx hb hl0 hown (by decide +kernel) (by decide +kernel) (htg _ m_371) (htg _ m_64) hstr (at_53_ok htg hE) (at_53_ot) hF.2.1 hF.2.2.1 hS (hl.1.trans hml.symm) d_M_draw_10 d_M_draw_13 d_M_draw_14 d_M_draw_16 d_M_draw_19 (fun x hx => (hnx x hx).elim) (Nat.le_of_ble_eq_true rfl) (Nat.le_of_ble_eq_true rfl) (Nat.le_of_ble_eq_true rfl) (Nat.le_of_ble_eq_true rfl) hlocks (kX_thrown 2 h hP hS) hS.2.2 (Nat.le_of_ble_eq_true rfl) (Nat.le_of_ble_eq_true rfl))
  obtain ⟨H, eH⟩ : ∃ z, z = s.heap := ⟨_, rfl⟩
  have hP : va_P D vwCl (wC ad cA cB σ) H := by rw [eH]; exact hP
  have hS : va_S (kAC ad s.heap.size) s.heap H [] := by rw [eH]; exact hS
  show W p l e (headSpec (Cond.code y_M_draw c_M_draw 3 (some .int) :: wsG) ({ frames := 6, cells := 1, slots := 6, locals := 116 } : Room)).room s m ([.ref (ad 0), .int a1] : List Value).toArray below meth c s.heap [] 0 0 (vx_MQ below (va_Qi post (kBC D ad cA cB) (kAC ad s.heap.size)) (kX D ad cA cB px s.heap.size) ([.ref (ad 0), .int a1] : List Value).toArray s 1 6 (kAC ad s.heap.size)) (F0 m 0 ls [])
  suffices k : W p l e (headSpec (Cond.code y_M_draw c_M_draw 3 (some .int) :: wsG) ({ frames := 6, cells := 1, slots := 6, locals := 116 } : Room)).room s m ([.ref (ad 0), .int a1] : List Value).toArray below meth c H [] 0 0 (vx_MQ below (va_Qi post (kBC D ad cA cB) (kAC ad s.heap.size)) (kX D ad cA cB px s.heap.size) ([.ref (ad 0), .int a1] : List Value).toArray s 1 6 (kAC ad s.heap.size)) (F0 m 0 ls []) by rw [eH] at k; exact k
  refine lv_iload_n hx hb d_M_draw_0 rfl (lv_at hl 1 rfl) ?_
  refine lv_if_lt (tgt := 10) hx hb d_M_draw_1 (by decide) (fun cn => ?_) (fun cn => ?_)
  · have h := h.1 cn
    rw [hG10] at h
    exact h _ _ _ hP hS (lv_sub hl [] rfl)
  · have h := h.2 cn
    refine lv_iload_n hx hb d_M_draw_4 rfl (lv_at hl 1 rfl) ?_
    refine lv_bipush (v := 12) hx hb d_M_draw_5 (by decide) ?_
    refine lv_icmp_le (tgt := 20) hx hb d_M_draw_7 (by decide) (fun cn => ?_) (fun cn => ?_)
    · have h := h.1 cn
      refine lv_aload_n hx hb d_M_draw_20 rfl (lv_at hl 0 rfl) ?_
      refine lv_iconst (v := 0) hx hb d_M_draw_21 (by decide) ?_
      refine va_put (D := D) (ci := 3) (v := .int 0) (ty := .boolean) (C := RX3) (T := TX3) (N := 4) hx hb htg inG_X3 tyX3 tyX3_ok nmX3 hown hK hP (hD _) hS 0 rfl rfl 3 (by decide) (htg _ m_220) (fun _ h9 => h9) rfl (by decide +kernel) rfl rfl (Nat.le_of_ble_eq_true rfl) d_M_draw_22 (fun H locs hP _ hS => ?_)
      obtain ⟨σ1, eσ1⟩ : ∃ z : S0, z = st σ 0 0 0 := ⟨_, rfl⟩
      have hP : va_P D vwCl (wC ad cA cB σ1) H := by rw [eσ1]; exact hP
      have h := h σ1 eσ1
      refine lv_aload_n hx hb d_M_draw_25 rfl (lv_at hl 0 rfl) ?_
      refine va_get (D := D) (ci := 3) (v := .ref (ad 1)) (C := RX3) (T := TX3) (N := 4) hx hb htg inG_X3 hown hK hP 0 rfl rfl 0 (by decide) (htg _ m_217) (fun _ h9 => h9) rfl d_M_draw_26 ?_
      refine lv_iconst (v := 0) hx hb d_M_draw_29 (by decide) ?_
      refine kC_i (va_runV (As := [.int 0]) (rest := []) ⟨hx, hb, hml, hown, htg⟩ (met_D_findMisfit l D ad cA cB hap σ1 H.size 0 _ h) (cwV 1 htg (kG (kG_V m_416 m_417 m_418 m_54 (kG_self m_419))) rfl rfl rfl (by decide +kernel) ⟨Nat.le_of_ble_eq_true rfl, Nat.le_of_ble_eq_true rfl⟩) (kC_preV hK hF hP hS 1 rfl rfl _) rfl rfl hl.1 rfl (lv_room (Nat.le_of_ble_eq_true rfl)) d_M_draw_30 ⟨Nat.le_of_ble_eq_true rfl, Nat.le_of_ble_eq_true rfl⟩) hS (fun r3 σ2 H locs h hP hS => ?_)
      refine lv_iconst (v := (-1)) hx hb d_M_draw_33 (by decide) ?_
      refine lv_icmp_eq (tgt := 40) hx hb d_M_draw_34 (by decide) (fun cn => ?_) (fun cn => ?_)
      · have h := h.1 cn
        refine lv_aload_n hx hb d_M_draw_40 rfl (lv_at hl 0 rfl) ?_
        refine va_get (D := D) (ci := 3) (v := .ref (ad 2)) (C := RX3) (T := TX3) (N := 4) hx hb htg inG_X3 hown hK hP 0 rfl rfl 1 (by decide) (htg _ m_218) (fun _ h9 => h9) rfl d_M_draw_41 ?_
        refine lv_aload_n hx hb d_M_draw_44 rfl (lv_at hl 0 rfl) ?_
        refine va_get (D := D) (ci := 3) (v := .ref (ad 1)) (C := RX3) (T := TX3) (N := 4) hx hb htg inG_X3 hown hK hP 0 rfl rfl 0 (by decide) (htg _ m_217) (fun _ h9 => h9) rfl d_M_draw_45 ?_
        refine kC_v (va_runV (As := [.ref (ad 1)]) (rest := []) ⟨hx, hb, hml, hown, htg⟩ (met_P_make l D ad cA cB hap σ2 H.size _ h) (cwV 1 htg (kG (kG_V m_432 m_433 m_434 m_55 (kG_self m_435))) rfl rfl rfl (by decide +kernel) ⟨Nat.le_of_ble_eq_true rfl, Nat.le_of_ble_eq_true rfl⟩) (kC_preV hK hF hP hS 2 rfl rfl _) rfl rfl hl.1 rfl (lv_room (Nat.le_of_ble_eq_true rfl)) d_M_draw_48 ⟨Nat.le_of_ble_eq_true rfl, Nat.le_of_ble_eq_true rfl⟩) hS (fun σ4 H locs h hP hS => ?_)
        refine lv_aload_n hx hb d_M_draw_51 rfl (lv_at hl 0 rfl) ?_
        refine va_get (D := D) (ci := 3) (v := .ref (ad 2)) (C := RX3) (T := TX3) (N := 4) hx hb htg inG_X3 hown hK hP 0 rfl rfl 1 (by decide) (htg _ m_218) (fun _ h9 => h9) rfl d_M_draw_52 ?_
        refine va_get (D := D) (ci := 2) (v := .int (σ4 0 7)) (C := RX2) (T := TX2) (N := 10) hx hb htg inG_X2 hown hK hP 2 rfl rfl 6 (by decide) (htg _ m_140) (fun _ h9 => h9) rfl d_M_draw_55 ?_
        refine lv_sipush (v := 150) hx hb d_M_draw_58 (by decide) ?_
        refine lv_icmp_le (tgt := 67) hx hb d_M_draw_61 (by decide) (fun cn => ?_) (fun cn => ?_)
        · have h := h.1 cn
          refine lv_aload_n hx hb d_M_draw_67 rfl (lv_at hl 0 rfl) ?_
          refine va_get (D := D) (ci := 3) (v := .ref (ad 3)) (C := RX3) (T := TX3) (N := 4) hx hb htg inG_X3 hown hK hP 0 rfl rfl 2 (by decide) (htg _ m_219) (fun _ h9 => h9) rfl d_M_draw_68 ?_
          refine lv_aload_n hx hb d_M_draw_71 rfl (lv_at hl 0 rfl) ?_
          refine va_get (D := D) (ci := 3) (v := .ref (ad 2)) (C := RX3) (T := TX3) (N := 4) hx hb htg inG_X3 hown hK hP 0 rfl rfl 1 (by decide) (htg _ m_218) (fun _ h9 => h9) rfl d_M_draw_72 ?_
          refine lv_iload_n hx hb d_M_draw_75 rfl (lv_at hl 1 rfl) ?_
          refine kC_i (va_runV (As := [.ref (ad 2), .int a1]) (rest := []) ⟨hx, hb, hml, hown, htg⟩ (met_O_make l D ad cA cB hap σ4 H.size a1 _ h) (cwV 2 htg (kG (kG_V m_461 m_462 m_463 m_56 (kG_self m_464))) rfl rfl rfl (by decide +kernel) ⟨Nat.le_of_ble_eq_true rfl, Nat.le_of_ble_eq_true rfl⟩) (kC_preV hK hF hP hS 3 rfl rfl _) rfl rfl hl.1 rfl (lv_room (Nat.le_of_ble_eq_true rfl)) d_M_draw_76 ⟨Nat.le_of_ble_eq_true rfl, Nat.le_of_ble_eq_true rfl⟩) hS (fun r6 σ5 H locs h hP hS => ?_)
          refine lv_istore_n (lv' := [(2, .int r6), (0, .ref (ad 0)), (1, .int a1)]) hx hb d_M_draw_79 rfl hl (by decide) rfl (fun ls hl => ?_)
          refine lv_aload_n hx hb d_M_draw_80 rfl (lv_at hl 1 rfl) ?_
          refine lv_iconst (v := 1) hx hb d_M_draw_81 (by decide) ?_
          refine va_put (D := D) (ci := 3) (v := .int 1) (ty := .boolean) (C := RX3) (T := TX3) (N := 4) hx hb htg inG_X3 tyX3 tyX3_ok nmX3 hown hK hP (hD _) hS 0 rfl rfl 3 (by decide) (htg _ m_220) (fun _ h9 => h9) rfl (by decide +kernel) rfl rfl (Nat.le_of_ble_eq_true rfl) d_M_draw_82 (fun H locs hP _ hS => ?_)
          obtain ⟨σ7, eσ7⟩ : ∃ z : S0, z = st σ5 0 0 1 := ⟨_, rfl⟩
          have hP : va_P D vwCl (wC ad cA cB σ7) H := by rw [eσ7]; exact hP
          have h := h σ7 eσ7
          refine lv_iload_n hx hb d_M_draw_85 rfl (lv_at hl 0 rfl) ?_
          refine W.widen (k := 1) (n := 6) (by omega) (by omega) ?_
          refine vx_ret ?_
          exact W.iret (v := r6) hx hb hr (fun t ht hW => ⟨⟨_, σ7, rfl, h, kBC_of ht hP⟩, hS.F ht⟩) hS.2.2 d_M_draw_86 hlocks
        · have h := h.2 cn
          refine lv_bipush (v := (-3)) hx hb d_M_draw_64 (by decide) ?_
          refine W.widen (k := 1) (n := 6) (by omega) (by omega) ?_
          refine vx_ret ?_
          exact W.iret (v := (-3)) hx hb hr (fun t ht hW => ⟨⟨_, σ4, rfl, h, kBC_of ht hP⟩, hS.F ht⟩) hS.2.2 d_M_draw_66 hlocks
      · have h := h.2 cn
        refine lv_bipush (v := (-2)) hx hb d_M_draw_37 (by decide) ?_
        refine W.widen (k := 1) (n := 6) (by omega) (by omega) ?_
        refine vx_ret ?_
        exact W.iret (v := (-2)) hx hb hr (fun t ht hW => ⟨⟨_, σ2, rfl, h, kBC_of ht hP⟩, hS.F ht⟩) hS.2.2 d_M_draw_39 hlocks
    · have h := h.2 cn
      rw [hG10] at h
      exact h _ _ _ hP hS (lv_sub hl [] rfl)
set_option maxHeartbeats 4000000 in
set_option maxRecDepth 100000 in
theorem met_M_needSheet (l : Launch) (D : va_G) (ad : Nat → Nat) (cA cB : ClassId) (hap : kapC ad) (σ : S0) (sz : Nat) (post : S0 → Prop) (h : Sp_M_needSheet  σ post (fun _ _ => False)) : Met l y_M_needSheet (Cond.code y_M_needSheet c_M_needSheet 1 none :: wsG) ({ frames := 6, cells := 0, slots := 0, locals := 90 } : Room) (kPcC D ad cA cB σ sz [.ref (ad 0)]) (va_Qv post (kBC D ad cA cB) (kAC ad sz)) 0 0 (kAC ad sz) := by
  refine Met.ofW (cc := c_M_needSheet) (maxL := 1) (ret := none) (by decide) rfl ?_
  intro p e s m args below meth c s₁ B hml hv
  obtain ⟨rfl, hsz, hP, hK, hF⟩ := hv
  have hx := B.exec
  have hb := B.bytes
  have hr := B.returns
  have hts := atoms_spec (ws := (Cond.code y_M_needSheet c_M_needSheet 1 none :: wsG)) B.pre
  have htg : ∀ w ∈ wsG, w.before ([.ref (ad 0)] : List Value).toArray s = true := fun w h => hts w (List.mem_cons_of_mem _ h)
  have hown : s.vm.findClass RX3 = some m.cls := findClass_of_methodNamed B.named
  have hlocks := B.notSynchronized
  subst hsz
  have hD : ∀ σ, va_D (kAC ad s.heap.size) (wC ad cA cB σ) := fun σ => wC_D hap cA cB σ _
  have hS : va_S (kAC ad s.heap.size) s.heap s.heap [] := va_S.rf
  have hE := hF.1
  have hl := lv_entry ([.ref (ad 0)]) (n := 1) (Nat.le_of_ble_eq_true rfl)
  rw [lg_entry_eq]
  generalize (lg_sl ([.ref (ad 0)]) ++ List.replicate (1 - (lg_sl ([.ref (ad 0)])).length) Slot.unset).toArray = ls at hl ⊢
  have hl : lv_has ls 1 [(0, .ref (ad 0))] := hl
  unfold Sp_M_needSheet at h
  obtain ⟨H, eH⟩ : ∃ z, z = s.heap := ⟨_, rfl⟩
  have hP : va_P D vwCl (wC ad cA cB σ) H := by rw [eH]; exact hP
  have hS : va_S (kAC ad s.heap.size) s.heap H [] := by rw [eH]; exact hS
  show W p l e (headSpec (Cond.code y_M_needSheet c_M_needSheet 1 none :: wsG) ({ frames := 6, cells := 0, slots := 0, locals := 90 } : Room)).room s m ([.ref (ad 0)] : List Value).toArray below meth c s.heap [] 0 0 (MQ below (va_Qv post (kBC D ad cA cB) (kAC ad s.heap.size)) ([.ref (ad 0)] : List Value).toArray s 0 0 (kAC ad s.heap.size)) (F0 m 0 ls [])
  suffices k : W p l e (headSpec (Cond.code y_M_needSheet c_M_needSheet 1 none :: wsG) ({ frames := 6, cells := 0, slots := 0, locals := 90 } : Room)).room s m ([.ref (ad 0)] : List Value).toArray below meth c H [] 0 0 (MQ below (va_Qv post (kBC D ad cA cB) (kAC ad s.heap.size)) ([.ref (ad 0)] : List Value).toArray s 0 0 (kAC ad s.heap.size)) (F0 m 0 ls []) by rw [eH] at k; exact k
  refine lv_aload_n hx hb d_M_needSheet_0 rfl (lv_at hl 0 rfl) ?_
  refine va_get (D := D) (ci := 3) (v := .int (σ 0 0)) (C := RX3) (T := TX3) (N := 4) hx hb htg inG_X3 hown hK hP 0 rfl rfl 3 (by decide) (htg _ m_220) (fun _ h9 => h9) rfl d_M_needSheet_1 ?_
  refine lv_if_ne (tgt := 17) hx hb d_M_needSheet_4 (by decide) (fun cn => ?_) (fun cn => ?_)
  · have h := h.1 cn
    exact W.vret hx hb hr (fun t ht hW => ⟨⟨σ, rfl, h, kBC_of ht hP⟩, hS.F ht⟩) hS.2.2 d_M_needSheet_17 hlocks
  · have h := h.2 cn
    exact (h : False).elim
set_option maxHeartbeats 4000000 in
set_option maxRecDepth 100000 in
theorem metx_M_needSheet (l : Launch) (hl0 : l.stackTraces = false) (D : va_G) (ad : Nat → Nat) (cA cB : ClassId) (hap : kapC ad) (σ : S0) (sz : Nat) (post : S0 → Prop) (px : Nat → S0 → Prop) (h : Sp_M_needSheet  σ post px) : vx_Met l y_M_needSheet (Cond.code y_M_needSheet c_M_needSheet 1 none :: wsG) ({ frames := 6, cells := 1, slots := 6, locals := 90 } : Room) (kPcC D ad cA cB σ sz [.ref (ad 0)]) (va_Qv post (kBC D ad cA cB) (kAC ad sz)) (kX D ad cA cB px sz) 1 6 (kAC ad sz) := by
  refine vx_ofW (cc := c_M_needSheet) (maxL := 1) (ret := none) (by decide) rfl ?_
  intro p e s m args below meth c s₁ B hml hnx hv
  obtain ⟨rfl, hsz, hP, hK, hF⟩ := hv
  have hx := B.exec
  have hb := B.bytes
  have hr := B.returns
  have hts := atoms_spec (ws := (Cond.code y_M_needSheet c_M_needSheet 1 none :: wsG)) B.pre
  have htg : ∀ w ∈ wsG, w.before ([.ref (ad 0)] : List Value).toArray s = true := fun w h => hts w (List.mem_cons_of_mem _ h)
  have hown : s.vm.findClass RX3 = some m.cls := findClass_of_methodNamed B.named
  have hlocks := B.notSynchronized
  subst hsz
  have hD : ∀ σ, va_D (kAC ad s.heap.size) (wC ad cA cB σ) := fun σ => wC_D hap cA cB σ _
  have hS : va_S (kAC ad s.heap.size) s.heap s.heap [] := va_S.rf
  have hE := hF.1
  have hl := lv_entry ([.ref (ad 0)]) (n := 1) (Nat.le_of_ble_eq_true rfl)
  rw [lg_entry_eq]
  generalize (lg_sl ([.ref (ad 0)]) ++ List.replicate (1 - (lg_sl ([.ref (ad 0)])).length) Slot.unset).toArray = ls at hl ⊢
  have hl : lv_has ls 1 [(0, .ref (ad 0))] := hl
  unfold Sp_M_needSheet at h
  obtain ⟨H, eH⟩ : ∃ z, z = s.heap := ⟨_, rfl⟩
  have hP : va_P D vwCl (wC ad cA cB σ) H := by rw [eH]; exact hP
  have hS : va_S (kAC ad s.heap.size) s.heap H [] := by rw [eH]; exact hS
  show W p l e (headSpec (Cond.code y_M_needSheet c_M_needSheet 1 none :: wsG) ({ frames := 6, cells := 1, slots := 6, locals := 90 } : Room)).room s m ([.ref (ad 0)] : List Value).toArray below meth c s.heap [] 0 0 (vx_MQ below (va_Qv post (kBC D ad cA cB) (kAC ad s.heap.size)) (kX D ad cA cB px s.heap.size) ([.ref (ad 0)] : List Value).toArray s 1 6 (kAC ad s.heap.size)) (F0 m 0 ls [])
  suffices k : W p l e (headSpec (Cond.code y_M_needSheet c_M_needSheet 1 none :: wsG) ({ frames := 6, cells := 1, slots := 6, locals := 90 } : Room)).room s m ([.ref (ad 0)] : List Value).toArray below meth c H [] 0 0 (vx_MQ below (va_Qv post (kBC D ad cA cB) (kAC ad s.heap.size)) (kX D ad cA cB px s.heap.size) ([.ref (ad 0)] : List Value).toArray s 1 6 (kAC ad s.heap.size)) (F0 m 0 ls []) by rw [eH] at k; exact k
  refine lv_aload_n hx hb d_M_needSheet_0 rfl (lv_at hl 0 rfl) ?_
  refine va_get (D := D) (ci := 3) (v := .int (σ 0 0)) (C := RX3) (T := TX3) (N := 4) hx hb htg inG_X3 hown hK hP 0 rfl rfl 3 (by decide) (htg _ m_220) (fun _ h9 => h9) rfl d_M_needSheet_1 ?_
  refine lv_if_ne (tgt := 17) hx hb d_M_needSheet_4 (by decide) (fun cn => ?_) (fun cn => ?_)
  · have h := h.1 cn
    refine W.widen (k := 1) (n := 6) (by omega) (by omega) ?_
    refine vx_ret ?_
    exact W.vret hx hb hr (fun t ht hW => ⟨⟨σ, rfl, h, kBC_of ht hP⟩, hS.F ht⟩) hS.2.2 d_M_needSheet_17 hlocks
  · have h := h.2 cn
    obtain ⟨sa, hstr⟩ := hF.2.2.2 (160, "there is no sheet") (by decide)
    exact vx_throwS (names := kch) hx hb hl0 hown (by decide +kernel) (by decide +kernel) (htg _ m_536) (htg _ m_65) hstr (at_162_ok htg hE) (at_162_ot) hF.2.1 hF.2.2.1 hS (hl.1.trans hml.symm) d_M_needSheet_7 d_M_needSheet_10 d_M_needSheet_11 d_M_needSheet_13 d_M_needSheet_16 (fun x hx => (hnx x hx).elim) (Nat.le_of_ble_eq_true rfl) (Nat.le_of_ble_eq_true rfl) (Nat.le_of_ble_eq_true rfl) (Nat.le_of_ble_eq_true rfl) hlocks (kX_thrown 1 h hP hS) hS.2.2 (Nat.le_of_ble_eq_true rfl) (Nat.le_of_ble_eq_true rfl)
set_option maxHeartbeats 4000000 in
set_option maxRecDepth 100000 in
theorem metx_M_crossings (l : Launch) (hl0 : l.stackTraces = false) (D : va_G) (ad : Nat → Nat) (cA cB : ClassId) (hap : kapC ad) (σ : S0) (sz : Nat) (a1 : Int32) (post : Int32 → S0 → Prop) (px : Nat → S0 → Prop) (h : Sp_M_crossings a1 σ post px) : vx_Met l y_M_crossings (Cond.code y_M_crossings c_M_crossings 2 (some .int) :: wsG) ({ frames := 7, cells := 1, slots := 6, locals := 110 } : Room) (kPcC D ad cA cB σ sz [.ref (ad 0), .int a1]) (va_Qi post (kBC D ad cA cB) (kAC ad sz)) (kX D ad cA cB px sz) 1 6 (kAC ad sz) := by
  refine vx_ofW (cc := c_M_crossings) (maxL := 2) (ret := (some .int)) (by decide) rfl ?_
  intro p e s m args below meth c s₁ B hml hnx hv
  obtain ⟨rfl, hsz, hP, hK, hF⟩ := hv
  have hx := B.exec
  have hb := B.bytes
  have hr := B.returns
  have hts := atoms_spec (ws := (Cond.code y_M_crossings c_M_crossings 2 (some .int) :: wsG)) B.pre
  have htg : ∀ w ∈ wsG, w.before ([.ref (ad 0), .int a1] : List Value).toArray s = true := fun w h => hts w (List.mem_cons_of_mem _ h)
  have hown : s.vm.findClass RX3 = some m.cls := findClass_of_methodNamed B.named
  have hlocks := B.notSynchronized
  subst hsz
  have hD : ∀ σ, va_D (kAC ad s.heap.size) (wC ad cA cB σ) := fun σ => wC_D hap cA cB σ _
  have hS : va_S (kAC ad s.heap.size) s.heap s.heap [] := va_S.rf
  have hE := hF.1
  have hl := lv_entry ([.ref (ad 0), .int a1]) (n := 2) (Nat.le_of_ble_eq_true rfl)
  rw [lg_entry_eq]
  generalize (lg_sl ([.ref (ad 0), .int a1]) ++ List.replicate (2 - (lg_sl ([.ref (ad 0), .int a1])).length) Slot.unset).toArray = ls at hl ⊢
  have hl : lv_has ls 2 [(0, .ref (ad 0)), (1, .int a1)] := hl
  unfold Sp_M_crossings at h
  obtain ⟨G9, hG9⟩ : ∃ G : Int32 → Int32 → S0 → Prop, G = fun (x1 t0 : Int32) (σ : S0) => ∀ (H : Heap) (locs : List Loc) (ls : Array Slot), va_P D vwCl (wC ad cA cB σ) H → va_S (kAC ad s.heap.size) s.heap H locs → lv_has ls 2 [(0, .ref (ad 0)), (1, .int x1)] → W p l e (headSpec (Cond.code y_M_crossings c_M_crossings 2 (some .int) :: wsG) ({ frames := 7, cells := 1, slots := 6, locals := 110 } : Room)).room s m ([.ref (ad 0), .int a1] : List Value).toArray below meth c H locs 0 0 (vx_MQ below (va_Qi post (kBC D ad cA cB) (kAC ad s.heap.size)) (kX D ad cA cB px s.heap.size) ([.ref (ad 0), .int a1] : List Value).toArray s 1 6 (kAC ad s.heap.size)) (F0 m 9 ls [.int t0]) := ⟨_, rfl⟩
  obtain ⟨G32, hG32⟩ : ∃ G : Int32 → Int32 → S0 → Prop, G = fun (x1 t0 : Int32) (σ : S0) => ∀ (H : Heap) (locs : List Loc) (ls : Array Slot), va_P D vwCl (wC ad cA cB σ) H → va_S (kAC ad s.heap.size) s.heap H locs → lv_has ls 2 [(0, .ref (ad 0)), (1, .int x1)] → W p l e (headSpec (Cond.code y_M_crossings c_M_crossings 2 (some .int) :: wsG) ({ frames := 7, cells := 1, slots := 6, locals := 110 } : Room)).room s m ([.ref (ad 0), .int a1] : List Value).toArray below meth c H locs 0 0 (vx_MQ below (va_Qi post (kBC D ad cA cB) (kAC ad s.heap.size)) (kX D ad cA cB px s.heap.size) ([.ref (ad 0), .int a1] : List Value).toArray s 1 6 (kAC ad s.heap.size)) (F0 m 32 ls [.int t0]) := ⟨_, rfl⟩
  have h := h G9 G32
  have h := h (by
    intro x1 t0 σ h
    rw [hG9]
    intro H locs ls hP hS hl
    refine Or.elim (or_M_need h) (fun h => ?_) (fun h => kX_v (vx_runS (As := [.int t0]) (rest := []) ⟨hx, hb, hml, hown, htg⟩ (metx_M_need l hl0 D ad cA cB hap σ H.size t0 _ _ h) (cwS 1 htg (kG (kG_S m_241 m_242 m_53 (kG_self m_243))) rfl rfl rfl (by decide +kernel) ⟨Nat.le_of_ble_eq_true rfl, Nat.le_of_ble_eq_true rfl⟩) (kC_pre hK hF hP hS _) rfl rfl hl.1 rfl (lv_room (Nat.le_of_ble_eq_true rfl)) d_M_crossings_9 ⟨Nat.le_of_ble_eq_true rfl, Nat.le_of_ble_eq_true rfl⟩) hS (fun _ h => h) hnx hlocks (Nat.le_of_ble_eq_true rfl) (Nat.le_of_ble_eq_true rfl))
    refine kC_v (va_runS (As := [.int t0]) (rest := []) ⟨hx, hb, hml, hown, htg⟩ (met_M_need l D ad cA cB hap σ H.size t0 _ h) (cwS 1 htg (kG (kG_S m_241 m_242 m_53 (kG_self m_243))) rfl rfl rfl (by decide +kernel) ⟨Nat.le_of_ble_eq_true rfl, Nat.le_of_ble_eq_true rfl⟩) (kC_pre hK hF hP hS _) rfl rfl hl.1 rfl (lv_room (Nat.le_of_ble_eq_true rfl)) d_M_crossings_9 ⟨Nat.le_of_ble_eq_true rfl, Nat.le_of_ble_eq_true rfl⟩) hS (fun σ1 H locs h hP hS => ?_)
    refine lv_aload_n hx hb d_M_crossings_12 rfl (lv_at hl 0 rfl) ?_
    refine Or.elim (or_M_needSheet h) (fun h => ?_) (fun h => kX_v (vx_runV (As := []) (rest := []) ⟨hx, hb, hml, hown, htg⟩ (metx_M_needSheet l hl0 D ad cA cB hap σ1 H.size _ _ h) (cwV 0 htg (kG (kG_V m_532 m_534 m_22 m_53 (kG_self m_535))) rfl rfl rfl (by decide +kernel) ⟨Nat.le_of_ble_eq_true rfl, Nat.le_of_ble_eq_true rfl⟩) (kC_preV hK hF hP hS 0 rfl rfl _) rfl rfl hl.1 rfl (lv_room (Nat.le_of_ble_eq_true rfl)) d_M_crossings_13 ⟨Nat.le_of_ble_eq_true rfl, Nat.le_of_ble_eq_true rfl⟩) hS (fun _ h => h) hnx hlocks (Nat.le_of_ble_eq_true rfl) (Nat.le_of_ble_eq_true rfl))
    refine kC_v (va_runV (As := []) (rest := []) ⟨hx, hb, hml, hown, htg⟩ (met_M_needSheet l D ad cA cB hap σ1 H.size _ h) (cwV 0 htg (kG (kG_V m_532 m_534 m_22 m_53 (kG_self m_535))) rfl rfl rfl (by decide +kernel) ⟨Nat.le_of_ble_eq_true rfl, Nat.le_of_ble_eq_true rfl⟩) (kC_preV hK hF hP hS 0 rfl rfl _) rfl rfl hl.1 rfl (lv_room (Nat.le_of_ble_eq_true rfl)) d_M_crossings_13 ⟨Nat.le_of_ble_eq_true rfl, Nat.le_of_ble_eq_true rfl⟩) hS (fun σ2 H locs h hP hS => ?_)
    refine lv_iload_n hx hb d_M_crossings_16 rfl (lv_at hl 1 rfl) ?_
    refine lv_aload_n hx hb d_M_crossings_17 rfl (lv_at hl 0 rfl) ?_
    refine va_get (D := D) (ci := 3) (v := .ref (ad 3)) (C := RX3) (T := TX3) (N := 4) hx hb htg inG_X3 hown hK hP 0 rfl rfl 2 (by decide) (htg _ m_219) (fun _ h9 => h9) rfl d_M_crossings_18 ?_
    refine va_get (D := D) (ci := 1) (v := .int (σ2 0 8)) (C := RX1) (T := TX1) (N := 14) hx hb htg inG_X1 hown hK hP 3 rfl rfl 2 (by decide) (htg _ m_176) (fun _ h9 => h9) rfl d_M_crossings_21 ?_
    refine lv_icmp_gt (tgt := 31) hx hb d_M_crossings_24 (by decide) (fun cn => ?_) (fun cn => ?_)
    · have h := h.1 cn
      refine lv_iconst (v := 0) hx hb d_M_crossings_31 (by decide) ?_
      rw [hG32] at h
      exact h _ _ _ hP hS (lv_sub hl [0, 1] rfl)
    · have h := h.2 cn
      refine lv_iconst (v := 1) hx hb d_M_crossings_27 (by decide) ?_
      refine lv_goto (tgt := 32) hx hb d_M_crossings_28 (by decide) ?_
      rw [hG32] at h
      exact h _ _ _ hP hS (lv_sub hl [0, 1] rfl))
  have h := h (by
    intro x1 t0 σ h
    rw [hG32]
    intro H locs ls hP hS hl
    refine Or.elim (or_M_need h) (fun h => ?_) (fun h => kX_v (vx_runS (As := [.int t0]) (rest := []) ⟨hx, hb, hml, hown, htg⟩ (metx_M_need l hl0 D ad cA cB hap σ H.size t0 _ _ h) (cwS 1 htg (kG (kG_S m_241 m_242 m_53 (kG_self m_243))) rfl rfl rfl (by decide +kernel) ⟨Nat.le_of_ble_eq_true rfl, Nat.le_of_ble_eq_true rfl⟩) (kC_pre hK hF hP hS _) rfl rfl hl.1 rfl (lv_room (Nat.le_of_ble_eq_true rfl)) d_M_crossings_32 ⟨Nat.le_of_ble_eq_true rfl, Nat.le_of_ble_eq_true rfl⟩) hS (fun _ h => h) hnx hlocks (Nat.le_of_ble_eq_true rfl) (Nat.le_of_ble_eq_true rfl))
    refine kC_v (va_runS (As := [.int t0]) (rest := []) ⟨hx, hb, hml, hown, htg⟩ (met_M_need l D ad cA cB hap σ H.size t0 _ h) (cwS 1 htg (kG (kG_S m_241 m_242 m_53 (kG_self m_243))) rfl rfl rfl (by decide +kernel) ⟨Nat.le_of_ble_eq_true rfl, Nat.le_of_ble_eq_true rfl⟩) (kC_pre hK hF hP hS _) rfl rfl hl.1 rfl (lv_room (Nat.le_of_ble_eq_true rfl)) d_M_crossings_32 ⟨Nat.le_of_ble_eq_true rfl, Nat.le_of_ble_eq_true rfl⟩) hS (fun σ3 H locs h hP hS => ?_)
    refine lv_aload_n hx hb d_M_crossings_35 rfl (lv_at hl 0 rfl) ?_
    refine va_get (D := D) (ci := 3) (v := .ref (ad 3)) (C := RX3) (T := TX3) (N := 4) hx hb htg inG_X3 hown hK hP 0 rfl rfl 2 (by decide) (htg _ m_219) (fun _ h9 => h9) rfl d_M_crossings_36 ?_
    refine va_get (D := D) (ci := 1) (v := .ref (ad 17)) (C := RX1) (T := TX1) (N := 14) hx hb htg inG_X1 hown hK hP 3 rfl rfl 1 (by decide) (htg _ m_174) (fun _ h9 => h9) rfl d_M_crossings_39 ?_
    refine lv_iload_n hx hb d_M_crossings_42 rfl (lv_at hl 1 rfl) ?_
    have hi := h.1
    have h := h.2
    refine va_iald hx hb hK hP 17 0 rfl rfl hi d_M_crossings_43 ?_
    refine W.widen (k := 1) (n := 6) (by omega) (by omega) ?_
    refine vx_ret ?_
    exact W.iret (v := (σ3 17 x1.toNatClampNeg)) hx hb hr (fun t ht hW => ⟨⟨_, σ3, rfl, h, kBC_of ht hP⟩, hS.F ht⟩) hS.2.2 d_M_crossings_44 hlocks)
  obtain ⟨H, eH⟩ : ∃ z, z = s.heap := ⟨_, rfl⟩
  have hP : va_P D vwCl (wC ad cA cB σ) H := by rw [eH]; exact hP
  have hS : va_S (kAC ad s.heap.size) s.heap H [] := by rw [eH]; exact hS
  show W p l e (headSpec (Cond.code y_M_crossings c_M_crossings 2 (some .int) :: wsG) ({ frames := 7, cells := 1, slots := 6, locals := 110 } : Room)).room s m ([.ref (ad 0), .int a1] : List Value).toArray below meth c s.heap [] 0 0 (vx_MQ below (va_Qi post (kBC D ad cA cB) (kAC ad s.heap.size)) (kX D ad cA cB px s.heap.size) ([.ref (ad 0), .int a1] : List Value).toArray s 1 6 (kAC ad s.heap.size)) (F0 m 0 ls [])
  suffices k : W p l e (headSpec (Cond.code y_M_crossings c_M_crossings 2 (some .int) :: wsG) ({ frames := 7, cells := 1, slots := 6, locals := 110 } : Room)).room s m ([.ref (ad 0), .int a1] : List Value).toArray below meth c H [] 0 0 (vx_MQ below (va_Qi post (kBC D ad cA cB) (kAC ad s.heap.size)) (kX D ad cA cB px s.heap.size) ([.ref (ad 0), .int a1] : List Value).toArray s 1 6 (kAC ad s.heap.size)) (F0 m 0 ls []) by rw [eH] at k; exact k
  refine lv_iload_n hx hb d_M_crossings_0 rfl (lv_at hl 1 rfl) ?_
  refine lv_if_lt (tgt := 8) hx hb d_M_crossings_1 (by decide) (fun cn => ?_) (fun cn => ?_)
  · have h := h.1 cn
    refine lv_iconst (v := 0) hx hb d_M_crossings_8 (by decide) ?_
    rw [hG9] at h
    exact h _ _ _ hP hS (lv_sub hl [0, 1] rfl)
  · have h := h.2 cn
    refine lv_iconst (v := 1) hx hb d_M_crossings_4 (by decide) ?_
    refine lv_goto (tgt := 9) hx hb d_M_crossings_5 (by decide) ?_
    rw [hG9] at h
    exact h _ _ _ hP hS (lv_sub hl [0, 1] rfl)
set_option maxHeartbeats 4000000 in
set_option maxRecDepth 100000 in
theorem metx_M_at (l : Launch) (hl0 : l.stackTraces = false) (D : va_G) (ad : Nat → Nat) (cA cB : ClassId) (hap : kapC ad) (σ : S0) (sz : Nat) (a1 a2 : Int32) (post : Int32 → S0 → Prop) (px : Nat → S0 → Prop) (h : Sp_M_at a1 a2 σ post px) : vx_Met l y_M_at (Cond.code y_M_at c_M_at 4 (some .int) :: wsG) ({ frames := 8, cells := 1, slots := 6, locals := 130 } : Room) (kPcC D ad cA cB σ sz [.ref (ad 0), .int a1, .int a2]) (va_Qi post (kBC D ad cA cB) (kAC ad sz)) (kX D ad cA cB px sz) 1 6 (kAC ad sz) := by
  refine vx_ofW (cc := c_M_at) (maxL := 4) (ret := (some .int)) (by decide) rfl ?_
  intro p e s m args below meth c s₁ B hml hnx hv
  obtain ⟨rfl, hsz, hP, hK, hF⟩ := hv
  have hx := B.exec
  have hb := B.bytes
  have hr := B.returns
  have hts := atoms_spec (ws := (Cond.code y_M_at c_M_at 4 (some .int) :: wsG)) B.pre
  have htg : ∀ w ∈ wsG, w.before ([.ref (ad 0), .int a1, .int a2] : List Value).toArray s = true := fun w h => hts w (List.mem_cons_of_mem _ h)
  have hown : s.vm.findClass RX3 = some m.cls := findClass_of_methodNamed B.named
  have hlocks := B.notSynchronized
  subst hsz
  have hD : ∀ σ, va_D (kAC ad s.heap.size) (wC ad cA cB σ) := fun σ => wC_D hap cA cB σ _
  have hS : va_S (kAC ad s.heap.size) s.heap s.heap [] := va_S.rf
  have hE := hF.1
  have hl := lv_entry ([.ref (ad 0), .int a1, .int a2]) (n := 4) (Nat.le_of_ble_eq_true rfl)
  rw [lg_entry_eq]
  generalize (lg_sl ([.ref (ad 0), .int a1, .int a2]) ++ List.replicate (4 - (lg_sl ([.ref (ad 0), .int a1, .int a2])).length) Slot.unset).toArray = ls at hl ⊢
  have hl : lv_has ls 4 [(0, .ref (ad 0)), (1, .int a1), (2, .int a2)] := hl
  unfold Sp_M_at at h
  obtain ⟨G18, hG18⟩ : ∃ G : Int32 → Int32 → Int32 → S0 → Prop, G = fun (x1 x2 t0 : Int32) (σ : S0) => ∀ (H : Heap) (locs : List Loc) (ls : Array Slot), va_P D vwCl (wC ad cA cB σ) H → va_S (kAC ad s.heap.size) s.heap H locs → lv_has ls 4 [(0, .ref (ad 0)), (1, .int x1), (2, .int x2)] → W p l e (headSpec (Cond.code y_M_at c_M_at 4 (some .int) :: wsG) ({ frames := 8, cells := 1, slots := 6, locals := 130 } : Room)).room s m ([.ref (ad 0), .int a1, .int a2] : List Value).toArray below meth c H locs 0 0 (vx_MQ below (va_Qi post (kBC D ad cA cB) (kAC ad s.heap.size)) (kX D ad cA cB px s.heap.size) ([.ref (ad 0), .int a1, .int a2] : List Value).toArray s 1 6 (kAC ad s.heap.size)) (F0 m 18 ls [.int t0]) := ⟨_, rfl⟩
  have h := h G18
  have h := h (by
    intro x1 x2 t0 σ h
    rw [hG18]
    intro H locs ls hP hS hl
    refine Or.elim (or_M_need h) (fun h => ?_) (fun h => kX_v (vx_runS (As := [.int t0]) (rest := []) ⟨hx, hb, hml, hown, htg⟩ (metx_M_need l hl0 D ad cA cB hap σ H.size t0 _ _ h) (cwS 1 htg (kG (kG_S m_241 m_242 m_53 (kG_self m_243))) rfl rfl rfl (by decide +kernel) ⟨Nat.le_of_ble_eq_true rfl, Nat.le_of_ble_eq_true rfl⟩) (kC_pre hK hF hP hS _) rfl rfl hl.1 rfl (lv_room (Nat.le_of_ble_eq_true rfl)) d_M_at_18 ⟨Nat.le_of_ble_eq_true rfl, Nat.le_of_ble_eq_true rfl⟩) hS (fun _ h => h) hnx hlocks (Nat.le_of_ble_eq_true rfl) (Nat.le_of_ble_eq_true rfl))
    refine kC_v (va_runS (As := [.int t0]) (rest := []) ⟨hx, hb, hml, hown, htg⟩ (met_M_need l D ad cA cB hap σ H.size t0 _ h) (cwS 1 htg (kG (kG_S m_241 m_242 m_53 (kG_self m_243))) rfl rfl rfl (by decide +kernel) ⟨Nat.le_of_ble_eq_true rfl, Nat.le_of_ble_eq_true rfl⟩) (kC_pre hK hF hP hS _) rfl rfl hl.1 rfl (lv_room (Nat.le_of_ble_eq_true rfl)) d_M_at_18 ⟨Nat.le_of_ble_eq_true rfl, Nat.le_of_ble_eq_true rfl⟩) hS (fun σ2 H locs h hP hS => ?_)
    refine lv_aload_n hx hb d_M_at_21 rfl (lv_at hl 0 rfl) ?_
    refine Or.elim (or_M_needSheet h) (fun h => ?_) (fun h => kX_v (vx_runV (As := []) (rest := []) ⟨hx, hb, hml, hown, htg⟩ (metx_M_needSheet l hl0 D ad cA cB hap σ2 H.size _ _ h) (cwV 0 htg (kG (kG_V m_532 m_534 m_22 m_53 (kG_self m_535))) rfl rfl rfl (by decide +kernel) ⟨Nat.le_of_ble_eq_true rfl, Nat.le_of_ble_eq_true rfl⟩) (kC_preV hK hF hP hS 0 rfl rfl _) rfl rfl hl.1 rfl (lv_room (Nat.le_of_ble_eq_true rfl)) d_M_at_22 ⟨Nat.le_of_ble_eq_true rfl, Nat.le_of_ble_eq_true rfl⟩) hS (fun _ h => h) hnx hlocks (Nat.le_of_ble_eq_true rfl) (Nat.le_of_ble_eq_true rfl))
    refine kC_v (va_runV (As := []) (rest := []) ⟨hx, hb, hml, hown, htg⟩ (met_M_needSheet l D ad cA cB hap σ2 H.size _ h) (cwV 0 htg (kG (kG_V m_532 m_534 m_22 m_53 (kG_self m_535))) rfl rfl rfl (by decide +kernel) ⟨Nat.le_of_ble_eq_true rfl, Nat.le_of_ble_eq_true rfl⟩) (kC_preV hK hF hP hS 0 rfl rfl _) rfl rfl hl.1 rfl (lv_room (Nat.le_of_ble_eq_true rfl)) d_M_at_22 ⟨Nat.le_of_ble_eq_true rfl, Nat.le_of_ble_eq_true rfl⟩) hS (fun σ3 H locs h hP hS => ?_)
    refine lv_aload_n hx hb d_M_at_25 rfl (lv_at hl 0 rfl) ?_
    refine va_get (D := D) (ci := 3) (v := .ref (ad 1)) (C := RX3) (T := TX3) (N := 4) hx hb htg inG_X3 hown hK hP 0 rfl rfl 0 (by decide) (htg _ m_217) (fun _ h9 => h9) rfl d_M_at_26 ?_
    refine va_get (D := D) (ci := 0) (v := .ref (ad 4)) (C := RX0) (T := TX0) (N := 9) hx hb htg inG_X0 hown hK hP 1 rfl rfl 0 (by decide) (htg _ m_82) (fun _ h9 => h9) rfl d_M_at_29 ?_
    refine lv_iload_n hx hb d_M_at_32 rfl (lv_at hl 1 rfl) ?_
    have hi := h.1
    have h := h.2
    refine va_iald hx hb hK hP 4 0 rfl rfl hi d_M_at_33 ?_
    refine lv_topi (fun v4 ev4 => ?_)
    have h := h v4 ev4
    refine lv_istore_n (lv' := [(3, .int v4), (0, .ref (ad 0)), (1, .int x1), (2, .int x2)]) hx hb d_M_at_34 rfl hl (by decide) rfl (fun ls hl => ?_)
    refine lv_aload_n hx hb d_M_at_35 rfl (lv_at hl 1 rfl) ?_
    refine va_get (D := D) (ci := 3) (v := .ref (ad 2)) (C := RX3) (T := TX3) (N := 4) hx hb htg inG_X3 hown hK hP 0 rfl rfl 1 (by decide) (htg _ m_218) (fun _ h9 => h9) rfl d_M_at_36 ?_
    refine va_get (D := D) (ci := 2) (v := .int (σ3 0 4)) (C := RX2) (T := TX2) (N := 10) hx hb htg inG_X2 hown hK hP 2 rfl rfl 3 (by decide) (htg _ m_132) (fun _ h9 => h9) rfl d_M_at_39 ?_
    refine lv_iload_n hx hb d_M_at_42 rfl (lv_at hl 0 rfl) ?_
    refine kC_i (va_runS (As := [.int (σ3 0 4), .int v4]) (rest := []) ⟨hx, hb, hml, hown, htg⟩ (met_M_has l D ad cA cB hap σ3 H.size (σ3 0 4) v4 _ h) (cwS 2 htg (kG (kG_S m_337 m_317 m_53 (kG_self m_318))) rfl rfl rfl (by decide +kernel) ⟨Nat.le_of_ble_eq_true rfl, Nat.le_of_ble_eq_true rfl⟩) (kC_pre hK hF hP hS _) rfl rfl hl.1 rfl (lv_room (Nat.le_of_ble_eq_true rfl)) d_M_at_43 ⟨Nat.le_of_ble_eq_true rfl, Nat.le_of_ble_eq_true rfl⟩) hS (fun r6 σ5 H locs h hP hS => ?_)
    refine lv_if_ne (tgt := 51) hx hb d_M_at_46 (by decide) (fun cn => ?_) (fun cn => ?_)
    · have h := h.1 cn
      refine lv_iload_n hx hb d_M_at_51 rfl (lv_at hl 3 rfl) ?_
      refine lv_if_ne (tgt := 67) hx hb d_M_at_52 (by decide) (fun cn => ?_) (fun cn => ?_)
      · have h := h.1 cn
        refine lv_aload_n hx hb d_M_at_67 rfl (lv_at hl 1 rfl) ?_
        refine va_get (D := D) (ci := 3) (v := .ref (ad 3)) (C := RX3) (T := TX3) (N := 4) hx hb htg inG_X3 hown hK hP 0 rfl rfl 2 (by decide) (htg _ m_219) (fun _ h9 => h9) rfl d_M_at_68 ?_
        refine va_get (D := D) (ci := 1) (v := .ref (ad 16)) (C := RX1) (T := TX1) (N := 14) hx hb htg inG_X1 hown hK hP 3 rfl rfl 0 (by decide) (htg _ m_172) (fun _ h9 => h9) rfl d_M_at_71 ?_
        refine lv_iload_n hx hb d_M_at_74 rfl (lv_at hl 0 rfl) ?_
        have hi := h.1
        have h := h.2
        refine va_iald hx hb hK hP 16 0 rfl rfl hi d_M_at_75 ?_
        refine W.widen (k := 1) (n := 6) (by omega) (by omega) ?_
        refine vx_ret ?_
        exact W.iret (v := (σ5 16 v4.toNatClampNeg)) hx hb hr (fun t ht hW => ⟨⟨_, σ5, rfl, h, kBC_of ht hP⟩, hS.F ht⟩) hS.2.2 d_M_at_76 hlocks
      · have h := h.2 cn
        refine lv_aload_n hx hb d_M_at_55 rfl (lv_at hl 1 rfl) ?_
        refine va_get (D := D) (ci := 3) (v := .ref (ad 2)) (C := RX3) (T := TX3) (N := 4) hx hb htg inG_X3 hown hK hP 0 rfl rfl 1 (by decide) (htg _ m_218) (fun _ h9 => h9) rfl d_M_at_56 ?_
        refine va_get (D := D) (ci := 2) (v := .ref (ad 10)) (C := RX2) (T := TX2) (N := 10) hx hb htg inG_X2 hown hK hP 2 rfl rfl 0 (by decide) (htg _ m_124) (fun _ h9 => h9) rfl d_M_at_59 ?_
        refine lv_iload_n hx hb d_M_at_62 rfl (lv_at hl 0 rfl) ?_
        have hi := h.1
        have h := h.2
        refine va_iald hx hb hK hP 10 0 rfl rfl hi d_M_at_63 ?_
        refine lv_goto (tgt := 76) hx hb d_M_at_64 (by decide) ?_
        refine W.widen (k := 1) (n := 6) (by omega) (by omega) ?_
        refine vx_ret ?_
        exact W.iret (v := (σ5 10 v4.toNatClampNeg)) hx hb hr (fun t ht hW => ⟨⟨_, σ5, rfl, h, kBC_of ht hP⟩, hS.F ht⟩) hS.2.2 d_M_at_76 hlocks
    · have h := h.2 cn
      refine lv_iconst (v := (-1)) hx hb d_M_at_49 (by decide) ?_
      refine W.widen (k := 1) (n := 6) (by omega) (by omega) ?_
      refine vx_ret ?_
      exact W.iret (v := (-1)) hx hb hr (fun t ht hW => ⟨⟨_, σ5, rfl, h, kBC_of ht hP⟩, hS.F ht⟩) hS.2.2 d_M_at_50 hlocks)
  obtain ⟨H, eH⟩ : ∃ z, z = s.heap := ⟨_, rfl⟩
  have hP : va_P D vwCl (wC ad cA cB σ) H := by rw [eH]; exact hP
  have hS : va_S (kAC ad s.heap.size) s.heap H [] := by rw [eH]; exact hS
  show W p l e (headSpec (Cond.code y_M_at c_M_at 4 (some .int) :: wsG) ({ frames := 8, cells := 1, slots := 6, locals := 130 } : Room)).room s m ([.ref (ad 0), .int a1, .int a2] : List Value).toArray below meth c s.heap [] 0 0 (vx_MQ below (va_Qi post (kBC D ad cA cB) (kAC ad s.heap.size)) (kX D ad cA cB px s.heap.size) ([.ref (ad 0), .int a1, .int a2] : List Value).toArray s 1 6 (kAC ad s.heap.size)) (F0 m 0 ls [])
  suffices k : W p l e (headSpec (Cond.code y_M_at c_M_at 4 (some .int) :: wsG) ({ frames := 8, cells := 1, slots := 6, locals := 130 } : Room)).room s m ([.ref (ad 0), .int a1, .int a2] : List Value).toArray below meth c H [] 0 0 (vx_MQ below (va_Qi post (kBC D ad cA cB) (kAC ad s.heap.size)) (kX D ad cA cB px s.heap.size) ([.ref (ad 0), .int a1, .int a2] : List Value).toArray s 1 6 (kAC ad s.heap.size)) (F0 m 0 ls []) by rw [eH] at k; exact k
  refine lv_iload_n hx hb d_M_at_0 rfl (lv_at hl 1 rfl) ?_
  refine Or.elim (or_M_needContext h) (fun h => ?_) (fun h => kX_v (vx_runS (As := [.int a1]) (rest := []) ⟨hx, hb, hml, hown, htg⟩ (metx_M_needContext l hl0 D ad cA cB hap σ H.size a1 _ _ h) (cwS 1 htg (kG (kG_S m_238 m_239 m_53 (kG_self m_240))) rfl rfl rfl (by decide +kernel) ⟨Nat.le_of_ble_eq_true rfl, Nat.le_of_ble_eq_true rfl⟩) (kC_pre hK hF hP hS _) rfl rfl hl.1 rfl (lv_room (Nat.le_of_ble_eq_true rfl)) d_M_at_1 ⟨Nat.le_of_ble_eq_true rfl, Nat.le_of_ble_eq_true rfl⟩) hS (fun _ h => h) hnx hlocks (Nat.le_of_ble_eq_true rfl) (Nat.le_of_ble_eq_true rfl))
  refine kC_v (va_runS (As := [.int a1]) (rest := []) ⟨hx, hb, hml, hown, htg⟩ (met_M_needContext l D ad cA cB hap σ H.size a1 _ h) (cwS 1 htg (kG (kG_S m_238 m_239 m_53 (kG_self m_240))) rfl rfl rfl (by decide +kernel) ⟨Nat.le_of_ble_eq_true rfl, Nat.le_of_ble_eq_true rfl⟩) (kC_pre hK hF hP hS _) rfl rfl hl.1 rfl (lv_room (Nat.le_of_ble_eq_true rfl)) d_M_at_1 ⟨Nat.le_of_ble_eq_true rfl, Nat.le_of_ble_eq_true rfl⟩) hS (fun σ1 H locs h hP hS => ?_)
  refine lv_iload_n hx hb d_M_at_4 rfl (lv_at hl 2 rfl) ?_
  refine lv_if_eq (tgt := 13) hx hb d_M_at_5 (by decide) (fun cn => ?_) (fun cn => ?_)
  · have h := h.1 cn
    refine lv_iconst (v := 1) hx hb d_M_at_13 (by decide) ?_
    refine lv_goto (tgt := 18) hx hb d_M_at_14 (by decide) ?_
    rw [hG18] at h
    exact h _ _ _ hP hS (lv_sub hl [0, 1, 2] rfl)
  · have h := h.2 cn
    refine lv_iload_n hx hb d_M_at_8 rfl (lv_at hl 2 rfl) ?_
    refine lv_iconst (v := 1) hx hb d_M_at_9 (by decide) ?_
    refine lv_icmp_ne (tgt := 17) hx hb d_M_at_10 (by decide) (fun cn => ?_) (fun cn => ?_)
    · have h := h.1 cn
      refine lv_iconst (v := 0) hx hb d_M_at_17 (by decide) ?_
      rw [hG18] at h
      exact h _ _ _ hP hS (lv_sub hl [0, 1, 2] rfl)
    · have h := h.2 cn
      refine lv_iconst (v := 1) hx hb d_M_at_13 (by decide) ?_
      refine lv_goto (tgt := 18) hx hb d_M_at_14 (by decide) ?_
      rw [hG18] at h
      exact h _ _ _ hP hS (lv_sub hl [0, 1, 2] rfl)
set_option maxHeartbeats 4000000 in
set_option maxRecDepth 100000 in
theorem metx_M_links (l : Launch) (hl0 : l.stackTraces = false) (D : va_G) (ad : Nat → Nat) (cA cB : ClassId) (hap : kapC ad) (σ : S0) (sz : Nat) (post : Int32 → S0 → Prop) (px : Nat → S0 → Prop) (h : Sp_M_links  σ post px) : vx_Met l y_M_links (Cond.code y_M_links c_M_links 1 (some .int) :: wsG) ({ frames := 7, cells := 1, slots := 6, locals := 110 } : Room) (kPcC D ad cA cB σ sz [.ref (ad 0)]) (va_Qi post (kBC D ad cA cB) (kAC ad sz)) (kX D ad cA cB px sz) 1 6 (kAC ad sz) := by
  refine vx_ofW (cc := c_M_links) (maxL := 1) (ret := (some .int)) (by decide) rfl ?_
  intro p e s m args below meth c s₁ B hml hnx hv
  obtain ⟨rfl, hsz, hP, hK, hF⟩ := hv
  have hx := B.exec
  have hb := B.bytes
  have hr := B.returns
  have hts := atoms_spec (ws := (Cond.code y_M_links c_M_links 1 (some .int) :: wsG)) B.pre
  have htg : ∀ w ∈ wsG, w.before ([.ref (ad 0)] : List Value).toArray s = true := fun w h => hts w (List.mem_cons_of_mem _ h)
  have hown : s.vm.findClass RX3 = some m.cls := findClass_of_methodNamed B.named
  have hlocks := B.notSynchronized
  subst hsz
  have hD : ∀ σ, va_D (kAC ad s.heap.size) (wC ad cA cB σ) := fun σ => wC_D hap cA cB σ _
  have hS : va_S (kAC ad s.heap.size) s.heap s.heap [] := va_S.rf
  have hE := hF.1
  have hl := lv_entry ([.ref (ad 0)]) (n := 1) (Nat.le_of_ble_eq_true rfl)
  rw [lg_entry_eq]
  generalize (lg_sl ([.ref (ad 0)]) ++ List.replicate (1 - (lg_sl ([.ref (ad 0)])).length) Slot.unset).toArray = ls at hl ⊢
  have hl : lv_has ls 1 [(0, .ref (ad 0))] := hl
  unfold Sp_M_links at h
  obtain ⟨H, eH⟩ : ∃ z, z = s.heap := ⟨_, rfl⟩
  have hP : va_P D vwCl (wC ad cA cB σ) H := by rw [eH]; exact hP
  have hS : va_S (kAC ad s.heap.size) s.heap H [] := by rw [eH]; exact hS
  show W p l e (headSpec (Cond.code y_M_links c_M_links 1 (some .int) :: wsG) ({ frames := 7, cells := 1, slots := 6, locals := 110 } : Room)).room s m ([.ref (ad 0)] : List Value).toArray below meth c s.heap [] 0 0 (vx_MQ below (va_Qi post (kBC D ad cA cB) (kAC ad s.heap.size)) (kX D ad cA cB px s.heap.size) ([.ref (ad 0)] : List Value).toArray s 1 6 (kAC ad s.heap.size)) (F0 m 0 ls [])
  suffices k : W p l e (headSpec (Cond.code y_M_links c_M_links 1 (some .int) :: wsG) ({ frames := 7, cells := 1, slots := 6, locals := 110 } : Room)).room s m ([.ref (ad 0)] : List Value).toArray below meth c H [] 0 0 (vx_MQ below (va_Qi post (kBC D ad cA cB) (kAC ad s.heap.size)) (kX D ad cA cB px s.heap.size) ([.ref (ad 0)] : List Value).toArray s 1 6 (kAC ad s.heap.size)) (F0 m 0 ls []) by rw [eH] at k; exact k
  refine lv_aload_n hx hb d_M_links_0 rfl (lv_at hl 0 rfl) ?_
  refine Or.elim (or_M_needSheet h) (fun h => ?_) (fun h => kX_v (vx_runV (As := []) (rest := []) ⟨hx, hb, hml, hown, htg⟩ (metx_M_needSheet l hl0 D ad cA cB hap σ H.size _ _ h) (cwV 0 htg (kG (kG_V m_532 m_534 m_22 m_53 (kG_self m_535))) rfl rfl rfl (by decide +kernel) ⟨Nat.le_of_ble_eq_true rfl, Nat.le_of_ble_eq_true rfl⟩) (kC_preV hK hF hP hS 0 rfl rfl _) rfl rfl hl.1 rfl (lv_room (Nat.le_of_ble_eq_true rfl)) d_M_links_1 ⟨Nat.le_of_ble_eq_true rfl, Nat.le_of_ble_eq_true rfl⟩) hS (fun _ h => h) hnx hlocks (Nat.le_of_ble_eq_true rfl) (Nat.le_of_ble_eq_true rfl))
  refine kC_v (va_runV (As := []) (rest := []) ⟨hx, hb, hml, hown, htg⟩ (met_M_needSheet l D ad cA cB hap σ H.size _ h) (cwV 0 htg (kG (kG_V m_532 m_534 m_22 m_53 (kG_self m_535))) rfl rfl rfl (by decide +kernel) ⟨Nat.le_of_ble_eq_true rfl, Nat.le_of_ble_eq_true rfl⟩) (kC_preV hK hF hP hS 0 rfl rfl _) rfl rfl hl.1 rfl (lv_room (Nat.le_of_ble_eq_true rfl)) d_M_links_1 ⟨Nat.le_of_ble_eq_true rfl, Nat.le_of_ble_eq_true rfl⟩) hS (fun σ1 H locs h hP hS => ?_)
  refine lv_aload_n hx hb d_M_links_4 rfl (lv_at hl 0 rfl) ?_
  refine va_get (D := D) (ci := 3) (v := .ref (ad 2)) (C := RX3) (T := TX3) (N := 4) hx hb htg inG_X3 hown hK hP 0 rfl rfl 1 (by decide) (htg _ m_218) (fun _ h9 => h9) rfl d_M_links_5 ?_
  refine va_get (D := D) (ci := 2) (v := .int (σ1 0 6)) (C := RX2) (T := TX2) (N := 10) hx hb htg inG_X2 hown hK hP 2 rfl rfl 5 (by decide) (htg _ m_138) (fun _ h9 => h9) rfl d_M_links_8 ?_
  refine W.widen (k := 1) (n := 6) (by omega) (by omega) ?_
  refine vx_ret ?_
  exact W.iret (v := (σ1 0 6)) hx hb hr (fun t ht hW => ⟨⟨_, σ1, rfl, h, kBC_of ht hP⟩, hS.F ht⟩) hS.2.2 d_M_links_11 hlocks
set_option maxHeartbeats 4000000 in
set_option maxRecDepth 100000 in
theorem metx_M_link (l : Launch) (hl0 : l.stackTraces = false) (D : va_G) (ad : Nat → Nat) (cA cB : ClassId) (hap : kapC ad) (σ : S0) (sz : Nat) (a1 a2 : Int32) (post : Int32 → S0 → Prop) (px : Nat → S0 → Prop) (h : Sp_M_link a1 a2 σ post px) : vx_Met l y_M_link (Cond.code y_M_link c_M_link 3 (some .int) :: wsG) ({ frames := 7, cells := 1, slots := 6, locals := 110 } : Room) (kPcC D ad cA cB σ sz [.ref (ad 0), .int a1, .int a2]) (va_Qi post (kBC D ad cA cB) (kAC ad sz)) (kX D ad cA cB px sz) 1 6 (kAC ad sz) := by
  refine vx_ofW (cc := c_M_link) (maxL := 3) (ret := (some .int)) (by decide) rfl ?_
  intro p e s m args below meth c s₁ B hml hnx hv
  obtain ⟨rfl, hsz, hP, hK, hF⟩ := hv
  have hx := B.exec
  have hb := B.bytes
  have hr := B.returns
  have hts := atoms_spec (ws := (Cond.code y_M_link c_M_link 3 (some .int) :: wsG)) B.pre
  have htg : ∀ w ∈ wsG, w.before ([.ref (ad 0), .int a1, .int a2] : List Value).toArray s = true := fun w h => hts w (List.mem_cons_of_mem _ h)
  have hown : s.vm.findClass RX3 = some m.cls := findClass_of_methodNamed B.named
  have hlocks := B.notSynchronized
  subst hsz
  have hD : ∀ σ, va_D (kAC ad s.heap.size) (wC ad cA cB σ) := fun σ => wC_D hap cA cB σ _
  have hS : va_S (kAC ad s.heap.size) s.heap s.heap [] := va_S.rf
  have hE := hF.1
  have hl := lv_entry ([.ref (ad 0), .int a1, .int a2]) (n := 3) (Nat.le_of_ble_eq_true rfl)
  rw [lg_entry_eq]
  generalize (lg_sl ([.ref (ad 0), .int a1, .int a2]) ++ List.replicate (3 - (lg_sl ([.ref (ad 0), .int a1, .int a2])).length) Slot.unset).toArray = ls at hl ⊢
  have hl : lv_has ls 3 [(0, .ref (ad 0)), (1, .int a1), (2, .int a2)] := hl
  unfold Sp_M_link at h
  obtain ⟨G13, hG13⟩ : ∃ G : Int32 → Int32 → Int32 → S0 → Prop, G = fun (x1 x2 t0 : Int32) (σ : S0) => ∀ (H : Heap) (locs : List Loc) (ls : Array Slot), va_P D vwCl (wC ad cA cB σ) H → va_S (kAC ad s.heap.size) s.heap H locs → lv_has ls 3 [(0, .ref (ad 0)), (1, .int x1), (2, .int x2)] → W p l e (headSpec (Cond.code y_M_link c_M_link 3 (some .int) :: wsG) ({ frames := 7, cells := 1, slots := 6, locals := 110 } : Room)).room s m ([.ref (ad 0), .int a1, .int a2] : List Value).toArray below meth c H locs 0 0 (vx_MQ below (va_Qi post (kBC D ad cA cB) (kAC ad s.heap.size)) (kX D ad cA cB px s.heap.size) ([.ref (ad 0), .int a1, .int a2] : List Value).toArray s 1 6 (kAC ad s.heap.size)) (F0 m 13 ls [.int t0]) := ⟨_, rfl⟩
  obtain ⟨G50, hG50⟩ : ∃ G : Int32 → Int32 → Int32 → S0 → Prop, G = fun (x1 x2 t0 : Int32) (σ : S0) => ∀ (H : Heap) (locs : List Loc) (ls : Array Slot), va_P D vwCl (wC ad cA cB σ) H → va_S (kAC ad s.heap.size) s.heap H locs → lv_has ls 3 [(0, .ref (ad 0)), (1, .int x1), (2, .int x2)] → W p l e (headSpec (Cond.code y_M_link c_M_link 3 (some .int) :: wsG) ({ frames := 7, cells := 1, slots := 6, locals := 110 } : Room)).room s m ([.ref (ad 0), .int a1, .int a2] : List Value).toArray below meth c H locs 0 0 (vx_MQ below (va_Qi post (kBC D ad cA cB) (kAC ad s.heap.size)) (kX D ad cA cB px s.heap.size) ([.ref (ad 0), .int a1, .int a2] : List Value).toArray s 1 6 (kAC ad s.heap.size)) (F0 m 50 ls [.int t0]) := ⟨_, rfl⟩
  have h := h G13 G50
  have h := h (by
    intro x1 x2 t0 σ h
    rw [hG13]
    intro H locs ls hP hS hl
    refine Or.elim (or_M_need h) (fun h => ?_) (fun h => kX_v (vx_runS (As := [.int t0]) (rest := []) ⟨hx, hb, hml, hown, htg⟩ (metx_M_need l hl0 D ad cA cB hap σ H.size t0 _ _ h) (cwS 1 htg (kG (kG_S m_241 m_242 m_53 (kG_self m_243))) rfl rfl rfl (by decide +kernel) ⟨Nat.le_of_ble_eq_true rfl, Nat.le_of_ble_eq_true rfl⟩) (kC_pre hK hF hP hS _) rfl rfl hl.1 rfl (lv_room (Nat.le_of_ble_eq_true rfl)) d_M_link_13 ⟨Nat.le_of_ble_eq_true rfl, Nat.le_of_ble_eq_true rfl⟩) hS (fun _ h => h) hnx hlocks (Nat.le_of_ble_eq_true rfl) (Nat.le_of_ble_eq_true rfl))
    refine kC_v (va_runS (As := [.int t0]) (rest := []) ⟨hx, hb, hml, hown, htg⟩ (met_M_need l D ad cA cB hap σ H.size t0 _ h) (cwS 1 htg (kG (kG_S m_241 m_242 m_53 (kG_self m_243))) rfl rfl rfl (by decide +kernel) ⟨Nat.le_of_ble_eq_true rfl, Nat.le_of_ble_eq_true rfl⟩) (kC_pre hK hF hP hS _) rfl rfl hl.1 rfl (lv_room (Nat.le_of_ble_eq_true rfl)) d_M_link_13 ⟨Nat.le_of_ble_eq_true rfl, Nat.le_of_ble_eq_true rfl⟩) hS (fun σ1 H locs h hP hS => ?_)
    refine lv_aload_n hx hb d_M_link_16 rfl (lv_at hl 0 rfl) ?_
    refine Or.elim (or_M_needSheet h) (fun h => ?_) (fun h => kX_v (vx_runV (As := []) (rest := []) ⟨hx, hb, hml, hown, htg⟩ (metx_M_needSheet l hl0 D ad cA cB hap σ1 H.size _ _ h) (cwV 0 htg (kG (kG_V m_532 m_534 m_22 m_53 (kG_self m_535))) rfl rfl rfl (by decide +kernel) ⟨Nat.le_of_ble_eq_true rfl, Nat.le_of_ble_eq_true rfl⟩) (kC_preV hK hF hP hS 0 rfl rfl _) rfl rfl hl.1 rfl (lv_room (Nat.le_of_ble_eq_true rfl)) d_M_link_17 ⟨Nat.le_of_ble_eq_true rfl, Nat.le_of_ble_eq_true rfl⟩) hS (fun _ h => h) hnx hlocks (Nat.le_of_ble_eq_true rfl) (Nat.le_of_ble_eq_true rfl))
    refine kC_v (va_runV (As := []) (rest := []) ⟨hx, hb, hml, hown, htg⟩ (met_M_needSheet l D ad cA cB hap σ1 H.size _ h) (cwV 0 htg (kG (kG_V m_532 m_534 m_22 m_53 (kG_self m_535))) rfl rfl rfl (by decide +kernel) ⟨Nat.le_of_ble_eq_true rfl, Nat.le_of_ble_eq_true rfl⟩) (kC_preV hK hF hP hS 0 rfl rfl _) rfl rfl hl.1 rfl (lv_room (Nat.le_of_ble_eq_true rfl)) d_M_link_17 ⟨Nat.le_of_ble_eq_true rfl, Nat.le_of_ble_eq_true rfl⟩) hS (fun σ2 H locs h hP hS => ?_)
    refine lv_iload_n hx hb d_M_link_20 rfl (lv_at hl 1 rfl) ?_
    refine lv_aload_n hx hb d_M_link_21 rfl (lv_at hl 0 rfl) ?_
    refine va_get (D := D) (ci := 3) (v := .ref (ad 2)) (C := RX3) (T := TX3) (N := 4) hx hb htg inG_X3 hown hK hP 0 rfl rfl 1 (by decide) (htg _ m_218) (fun _ h9 => h9) rfl d_M_link_22 ?_
    refine va_get (D := D) (ci := 2) (v := .int (σ2 0 6)) (C := RX2) (T := TX2) (N := 10) hx hb htg inG_X2 hown hK hP 2 rfl rfl 5 (by decide) (htg _ m_138) (fun _ h9 => h9) rfl d_M_link_25 ?_
    refine lv_icmp_ge (tgt := 49) hx hb d_M_link_28 (by decide) (fun cn => ?_) (fun cn => ?_)
    · have h := h.1 cn
      refine lv_iconst (v := 0) hx hb d_M_link_49 (by decide) ?_
      rw [hG50] at h
      exact h _ _ _ hP hS (lv_sub hl [0, 1, 2] rfl)
    · have h := h.2 cn
      refine lv_iload_n hx hb d_M_link_31 rfl (lv_at hl 2 rfl) ?_
      refine lv_iconst (v := 3) hx hb d_M_link_32 (by decide) ?_
      refine lv_aload_n hx hb d_M_link_33 rfl (lv_at hl 0 rfl) ?_
      refine va_get (D := D) (ci := 3) (v := .ref (ad 2)) (C := RX3) (T := TX3) (N := 4) hx hb htg inG_X3 hown hK hP 0 rfl rfl 1 (by decide) (htg _ m_218) (fun _ h9 => h9) rfl d_M_link_34 ?_
      refine lv_iload_n hx hb d_M_link_37 rfl (lv_at hl 1 rfl) ?_
      refine kC_i (va_runV (As := [.int x1]) (rest := [.int 3, .int x2]) ⟨hx, hb, hml, hown, htg⟩ (met_P_bendsOf l D ad cA cB hap σ2 H.size x1 _ h) (cwV 1 htg (kG (kG_V m_573 m_458 m_459 m_55 (kG_self m_460))) rfl rfl rfl (by decide +kernel) ⟨Nat.le_of_ble_eq_true rfl, Nat.le_of_ble_eq_true rfl⟩) (kC_preV hK hF hP hS 2 rfl rfl _) rfl rfl hl.1 rfl (lv_room (Nat.le_of_ble_eq_true rfl)) d_M_link_38 ⟨Nat.le_of_ble_eq_true rfl, Nat.le_of_ble_eq_true rfl⟩) hS (fun r4 σ3 H locs h hP hS => ?_)
      refine lv_iadd hx hb d_M_link_41 ?_
      refine lv_icmp_ge (tgt := 49) hx hb d_M_link_42 (by decide) (fun cn => ?_) (fun cn => ?_)
      · have h := h.1 cn
        refine lv_iconst (v := 0) hx hb d_M_link_49 (by decide) ?_
        rw [hG50] at h
        exact h _ _ _ hP hS (lv_sub hl [0, 1, 2] rfl)
      · have h := h.2 cn
        refine lv_iconst (v := 1) hx hb d_M_link_45 (by decide) ?_
        refine lv_goto (tgt := 50) hx hb d_M_link_46 (by decide) ?_
        rw [hG50] at h
        exact h _ _ _ hP hS (lv_sub hl [0, 1, 2] rfl))
  have h := h (by
    intro x1 x2 t0 σ h
    rw [hG50]
    intro H locs ls hP hS hl
    refine Or.elim (or_M_need h) (fun h => ?_) (fun h => kX_v (vx_runS (As := [.int t0]) (rest := []) ⟨hx, hb, hml, hown, htg⟩ (metx_M_need l hl0 D ad cA cB hap σ H.size t0 _ _ h) (cwS 1 htg (kG (kG_S m_241 m_242 m_53 (kG_self m_243))) rfl rfl rfl (by decide +kernel) ⟨Nat.le_of_ble_eq_true rfl, Nat.le_of_ble_eq_true rfl⟩) (kC_pre hK hF hP hS _) rfl rfl hl.1 rfl (lv_room (Nat.le_of_ble_eq_true rfl)) d_M_link_50 ⟨Nat.le_of_ble_eq_true rfl, Nat.le_of_ble_eq_true rfl⟩) hS (fun _ h => h) hnx hlocks (Nat.le_of_ble_eq_true rfl) (Nat.le_of_ble_eq_true rfl))
    refine kC_v (va_runS (As := [.int t0]) (rest := []) ⟨hx, hb, hml, hown, htg⟩ (met_M_need l D ad cA cB hap σ H.size t0 _ h) (cwS 1 htg (kG (kG_S m_241 m_242 m_53 (kG_self m_243))) rfl rfl rfl (by decide +kernel) ⟨Nat.le_of_ble_eq_true rfl, Nat.le_of_ble_eq_true rfl⟩) (kC_pre hK hF hP hS _) rfl rfl hl.1 rfl (lv_room (Nat.le_of_ble_eq_true rfl)) d_M_link_50 ⟨Nat.le_of_ble_eq_true rfl, Nat.le_of_ble_eq_true rfl⟩) hS (fun σ5 H locs h hP hS => ?_)
    refine lv_iload_n hx hb d_M_link_53 rfl (lv_at hl 2 rfl) ?_
    by_cases cn0 : x2 = 0
    · have h := h.1.1 cn0
      refine lv_tableIn (tgt := 80) hx hb d_M_link_54 (by rw [cn0]; decide) (by rw [cn0]; decide) (by rw [cn0]; rfl) (by decide) ?_
      refine lv_aload_n hx hb d_M_link_80 rfl (lv_at hl 0 rfl) ?_
      refine va_get (D := D) (ci := 3) (v := .ref (ad 2)) (C := RX3) (T := TX3) (N := 4) hx hb htg inG_X3 hown hK hP 0 rfl rfl 1 (by decide) (htg _ m_218) (fun _ h9 => h9) rfl d_M_link_81 ?_
      refine va_get (D := D) (ci := 2) (v := .ref (ad 11)) (C := RX2) (T := TX2) (N := 10) hx hb htg inG_X2 hown hK hP 2 rfl rfl 1 (by decide) (htg _ m_127) (fun _ h9 => h9) rfl d_M_link_84 ?_
      refine lv_iload_n hx hb d_M_link_87 rfl (lv_at hl 1 rfl) ?_
      have hi := h.1
      have h := h.2
      refine va_iald hx hb hK hP 11 0 rfl rfl hi d_M_link_88 ?_
      refine W.widen (k := 1) (n := 6) (by omega) (by omega) ?_
      refine vx_ret ?_
      exact W.iret (v := (σ5 11 x1.toNatClampNeg)) hx hb hr (fun t ht hW => ⟨⟨_, σ5, rfl, h, kBC_of ht hP⟩, hS.F ht⟩) hS.2.2 d_M_link_89 hlocks
    by_cases cn1 : x2 = 1
    · have h := h.1.2.1 cn1
      refine lv_tableIn (tgt := 90) hx hb d_M_link_54 (by rw [cn1]; decide) (by rw [cn1]; decide) (by rw [cn1]; rfl) (by decide) ?_
      refine lv_aload_n hx hb d_M_link_90 rfl (lv_at hl 0 rfl) ?_
      refine va_get (D := D) (ci := 3) (v := .ref (ad 2)) (C := RX3) (T := TX3) (N := 4) hx hb htg inG_X3 hown hK hP 0 rfl rfl 1 (by decide) (htg _ m_218) (fun _ h9 => h9) rfl d_M_link_91 ?_
      refine va_get (D := D) (ci := 2) (v := .ref (ad 12)) (C := RX2) (T := TX2) (N := 10) hx hb htg inG_X2 hown hK hP 2 rfl rfl 2 (by decide) (htg _ m_129) (fun _ h9 => h9) rfl d_M_link_94 ?_
      refine lv_iload_n hx hb d_M_link_97 rfl (lv_at hl 1 rfl) ?_
      have hi := h.1
      have h := h.2
      refine va_iald hx hb hK hP 12 0 rfl rfl hi d_M_link_98 ?_
      refine W.widen (k := 1) (n := 6) (by omega) (by omega) ?_
      refine vx_ret ?_
      exact W.iret (v := (σ5 12 x1.toNatClampNeg)) hx hb hr (fun t ht hW => ⟨⟨_, σ5, rfl, h, kBC_of ht hP⟩, hS.F ht⟩) hS.2.2 d_M_link_99 hlocks
    by_cases cn2 : x2 = 2
    · have h := h.1.2.2 cn2
      refine lv_tableIn (tgt := 100) hx hb d_M_link_54 (by rw [cn2]; decide) (by rw [cn2]; decide) (by rw [cn2]; rfl) (by decide) ?_
      refine lv_aload_n hx hb d_M_link_100 rfl (lv_at hl 0 rfl) ?_
      refine va_get (D := D) (ci := 3) (v := .ref (ad 2)) (C := RX3) (T := TX3) (N := 4) hx hb htg inG_X3 hown hK hP 0 rfl rfl 1 (by decide) (htg _ m_218) (fun _ h9 => h9) rfl d_M_link_101 ?_
      refine lv_iload_n hx hb d_M_link_104 rfl (lv_at hl 1 rfl) ?_
      refine kC_i (va_runV (As := [.int x1]) (rest := []) ⟨hx, hb, hml, hown, htg⟩ (met_P_bendsOf l D ad cA cB hap σ5 H.size x1 _ h) (cwV 1 htg (kG (kG_V m_573 m_458 m_459 m_55 (kG_self m_460))) rfl rfl rfl (by decide +kernel) ⟨Nat.le_of_ble_eq_true rfl, Nat.le_of_ble_eq_true rfl⟩) (kC_preV hK hF hP hS 2 rfl rfl _) rfl rfl hl.1 rfl (lv_room (Nat.le_of_ble_eq_true rfl)) d_M_link_105 ⟨Nat.le_of_ble_eq_true rfl, Nat.le_of_ble_eq_true rfl⟩) hS (fun r7 σ6 H locs h hP hS => ?_)
      refine W.widen (k := 1) (n := 6) (by omega) (by omega) ?_
      refine vx_ret ?_
      exact W.iret (v := r7) hx hb hr (fun t ht hW => ⟨⟨_, σ6, rfl, h, kBC_of ht hP⟩, hS.F ht⟩) hS.2.2 d_M_link_108 hlocks
    have h := h.2 ⟨cn0, cn1, cn2⟩
    refine lv_tableOut (tgt := 109) hx hb d_M_link_54 (sw_out 2 (by decide) (fun j hj => by rcases Nat.lt_or_ge j 1 with q | q; (have : j = 0 := by omega); subst this; exact cn0; rcases Nat.lt_or_ge j 2 with q | q; (have : j = 1 := by omega); subst this; exact cn1; rcases Nat.lt_or_ge j 3 with q | q; (have : j = 2 := by omega); subst this; exact cn2; omega)) (by decide) ?_
    refine lv_aload_n hx hb d_M_link_109 rfl (lv_at hl 0 rfl) ?_
    refine va_get (D := D) (ci := 3) (v := .ref (ad 3)) (C := RX3) (T := TX3) (N := 4) hx hb htg inG_X3 hown hK hP 0 rfl rfl 2 (by decide) (htg _ m_219) (fun _ h9 => h9) rfl d_M_link_110 ?_
    refine va_get (D := D) (ci := 1) (v := .ref (ad 16)) (C := RX1) (T := TX1) (N := 14) hx hb htg inG_X1 hown hK hP 3 rfl rfl 0 (by decide) (htg _ m_172) (fun _ h9 => h9) rfl d_M_link_113 ?_
    refine lv_aload_n hx hb d_M_link_116 rfl (lv_at hl 0 rfl) ?_
    refine va_get (D := D) (ci := 3) (v := .ref (ad 2)) (C := RX3) (T := TX3) (N := 4) hx hb htg inG_X3 hown hK hP 0 rfl rfl 1 (by decide) (htg _ m_218) (fun _ h9 => h9) rfl d_M_link_117 ?_
    refine lv_iload_n hx hb d_M_link_120 rfl (lv_at hl 1 rfl) ?_
    refine lv_iload_n hx hb d_M_link_121 rfl (lv_at hl 2 rfl) ?_
    refine lv_iconst (v := 2) hx hb d_M_link_122 (by decide) ?_
    refine lv_isub hx hb d_M_link_123 ?_
    refine kC_i (va_runV (As := [.int x1, .int (x2 - 2)]) (rest := [.ref (ad 16)]) ⟨hx, hb, hml, hown, htg⟩ (met_P_pointOf l D ad cA cB hap σ5 H.size x1 (x2 - 2) _ h) (cwV 2 htg (kG (kG_V m_574 m_476 m_477 m_55 (kG_self m_478))) rfl rfl rfl (by decide +kernel) ⟨Nat.le_of_ble_eq_true rfl, Nat.le_of_ble_eq_true rfl⟩) (kC_preV hK hF hP hS 2 rfl rfl _) rfl rfl hl.1 rfl (lv_room (Nat.le_of_ble_eq_true rfl)) d_M_link_124 ⟨Nat.le_of_ble_eq_true rfl, Nat.le_of_ble_eq_true rfl⟩) hS (fun r9 σ8 H locs h hP hS => ?_)
    have hi := h.1
    have h := h.2
    refine va_iald hx hb hK hP 16 0 rfl rfl hi d_M_link_127 ?_
    refine W.widen (k := 1) (n := 6) (by omega) (by omega) ?_
    refine vx_ret ?_
    exact W.iret (v := (σ8 16 r9.toNatClampNeg)) hx hb hr (fun t ht hW => ⟨⟨_, σ8, rfl, h, kBC_of ht hP⟩, hS.F ht⟩) hS.2.2 d_M_link_128 hlocks)
  obtain ⟨H, eH⟩ : ∃ z, z = s.heap := ⟨_, rfl⟩
  have hP : va_P D vwCl (wC ad cA cB σ) H := by rw [eH]; exact hP
  have hS : va_S (kAC ad s.heap.size) s.heap H [] := by rw [eH]; exact hS
  show W p l e (headSpec (Cond.code y_M_link c_M_link 3 (some .int) :: wsG) ({ frames := 7, cells := 1, slots := 6, locals := 110 } : Room)).room s m ([.ref (ad 0), .int a1, .int a2] : List Value).toArray below meth c s.heap [] 0 0 (vx_MQ below (va_Qi post (kBC D ad cA cB) (kAC ad s.heap.size)) (kX D ad cA cB px s.heap.size) ([.ref (ad 0), .int a1, .int a2] : List Value).toArray s 1 6 (kAC ad s.heap.size)) (F0 m 0 ls [])
  suffices k : W p l e (headSpec (Cond.code y_M_link c_M_link 3 (some .int) :: wsG) ({ frames := 7, cells := 1, slots := 6, locals := 110 } : Room)).room s m ([.ref (ad 0), .int a1, .int a2] : List Value).toArray below meth c H [] 0 0 (vx_MQ below (va_Qi post (kBC D ad cA cB) (kAC ad s.heap.size)) (kX D ad cA cB px s.heap.size) ([.ref (ad 0), .int a1, .int a2] : List Value).toArray s 1 6 (kAC ad s.heap.size)) (F0 m 0 ls []) by rw [eH] at k; exact k
  refine lv_iload_n hx hb d_M_link_0 rfl (lv_at hl 1 rfl) ?_
  refine lv_if_lt (tgt := 12) hx hb d_M_link_1 (by decide) (fun cn => ?_) (fun cn => ?_)
  · have h := h.1 cn
    refine lv_iconst (v := 0) hx hb d_M_link_12 (by decide) ?_
    rw [hG13] at h
    exact h _ _ _ hP hS (lv_sub hl [0, 1, 2] rfl)
  · have h := h.2 cn
    refine lv_iload_n hx hb d_M_link_4 rfl (lv_at hl 2 rfl) ?_
    refine lv_if_lt (tgt := 12) hx hb d_M_link_5 (by decide) (fun cn => ?_) (fun cn => ?_)
    · have h := h.1 cn
      refine lv_iconst (v := 0) hx hb d_M_link_12 (by decide) ?_
      rw [hG13] at h
      exact h _ _ _ hP hS (lv_sub hl [0, 1, 2] rfl)
    · have h := h.2 cn
      refine lv_iconst (v := 1) hx hb d_M_link_8 (by decide) ?_
      refine lv_goto (tgt := 13) hx hb d_M_link_9 (by decide) ?_
      rw [hG13] at h
      exact h _ _ _ hP hS (lv_sub hl [0, 1, 2] rfl)
set_option maxHeartbeats 4000000 in
set_option maxRecDepth 100000 in
theorem metx_M_command (l : Launch) (hl0 : l.stackTraces = false) (D : va_G) (ad : Nat → Nat) (cA cB : ClassId) (hap : kapC ad) (σ : S0) (sz : Nat) (a1 : Int32) (post : Int32 → S0 → Prop) (px : Nat → S0 → Prop) (h : Sp_M_command a1 σ post px) : vx_Met l y_M_command (Cond.code y_M_command c_M_command 4 (some .int) :: wsG) ({ frames := 7, cells := 1, slots := 6, locals := 110 } : Room) (kPcC D ad cA cB σ sz [.ref (ad 0), .int a1]) (va_Qi post (kBC D ad cA cB) (kAC ad sz)) (kX D ad cA cB px sz) 1 6 (kAC ad sz) := by
  refine vx_ofW (cc := c_M_command) (maxL := 4) (ret := (some .int)) (by decide) rfl ?_
  intro p e s m args below meth c s₁ B hml hnx hv
  obtain ⟨rfl, hsz, hP, hK, hF⟩ := hv
  have hx := B.exec
  have hb := B.bytes
  have hr := B.returns
  have hts := atoms_spec (ws := (Cond.code y_M_command c_M_command 4 (some .int) :: wsG)) B.pre
  have htg : ∀ w ∈ wsG, w.before ([.ref (ad 0), .int a1] : List Value).toArray s = true := fun w h => hts w (List.mem_cons_of_mem _ h)
  have hown : s.vm.findClass RX3 = some m.cls := findClass_of_methodNamed B.named
  have hlocks := B.notSynchronized
  subst hsz
  have hD : ∀ σ, va_D (kAC ad s.heap.size) (wC ad cA cB σ) := fun σ => wC_D hap cA cB σ _
  have hS : va_S (kAC ad s.heap.size) s.heap s.heap [] := va_S.rf
  have hE := hF.1
  have hl := lv_entry ([.ref (ad 0), .int a1]) (n := 4) (Nat.le_of_ble_eq_true rfl)
  rw [lg_entry_eq]
  generalize (lg_sl ([.ref (ad 0), .int a1]) ++ List.replicate (4 - (lg_sl ([.ref (ad 0), .int a1])).length) Slot.unset).toArray = ls at hl ⊢
  have hl : lv_has ls 4 [(0, .ref (ad 0)), (1, .int a1)] := hl
  unfold Sp_M_command at h
  obtain ⟨G10, hG10⟩ : ∃ G : Int32 → Int32 → S0 → Prop, G = fun (x1 t0 : Int32) (σ : S0) => ∀ (H : Heap) (locs : List Loc) (ls : Array Slot), va_P D vwCl (wC ad cA cB σ) H → va_S (kAC ad s.heap.size) s.heap H locs → lv_has ls 4 [(0, .ref (ad 0)), (1, .int x1)] → W p l e (headSpec (Cond.code y_M_command c_M_command 4 (some .int) :: wsG) ({ frames := 7, cells := 1, slots := 6, locals := 110 } : Room)).room s m ([.ref (ad 0), .int a1] : List Value).toArray below meth c H locs 0 0 (vx_MQ below (va_Qi post (kBC D ad cA cB) (kAC ad s.heap.size)) (kX D ad cA cB px s.heap.size) ([.ref (ad 0), .int a1] : List Value).toArray s 1 6 (kAC ad s.heap.size)) (F0 m 10 ls [.int t0]) := ⟨_, rfl⟩
  obtain ⟨G63, hG63⟩ : ∃ G : Int32 → Int32 → Int32 → Int32 → S0 → Prop, G = fun (x1 x2 x3 t0 : Int32) (σ : S0) => ∀ (H : Heap) (locs : List Loc) (ls : Array Slot), va_P D vwCl (wC ad cA cB σ) H → va_S (kAC ad s.heap.size) s.heap H locs → lv_has ls 4 [(0, .ref (ad 0)), (1, .int x1), (2, .int x2), (3, .int x3)] → W p l e (headSpec (Cond.code y_M_command c_M_command 4 (some .int) :: wsG) ({ frames := 7, cells := 1, slots := 6, locals := 110 } : Room)).room s m ([.ref (ad 0), .int a1] : List Value).toArray below meth c H locs 0 0 (vx_MQ below (va_Qi post (kBC D ad cA cB) (kAC ad s.heap.size)) (kX D ad cA cB px s.heap.size) ([.ref (ad 0), .int a1] : List Value).toArray s 1 6 (kAC ad s.heap.size)) (F0 m 63 ls [.int t0]) := ⟨_, rfl⟩
  have h := h G10 G63
  have h := h (by
    intro x1 t0 σ h
    rw [hG10]
    intro H locs ls hP hS hl
    refine Or.elim (or_M_need h) (fun h => ?_) (fun h => kX_v (vx_runS (As := [.int t0]) (rest := []) ⟨hx, hb, hml, hown, htg⟩ (metx_M_need l hl0 D ad cA cB hap σ H.size t0 _ _ h) (cwS 1 htg (kG (kG_S m_241 m_242 m_53 (kG_self m_243))) rfl rfl rfl (by decide +kernel) ⟨Nat.le_of_ble_eq_true rfl, Nat.le_of_ble_eq_true rfl⟩) (kC_pre hK hF hP hS _) rfl rfl hl.1 rfl (lv_room (Nat.le_of_ble_eq_true rfl)) d_M_command_10 ⟨Nat.le_of_ble_eq_true rfl, Nat.le_of_ble_eq_true rfl⟩) hS (fun _ h => h) hnx hlocks (Nat.le_of_ble_eq_true rfl) (Nat.le_of_ble_eq_true rfl))
    refine kC_v (va_runS (As := [.int t0]) (rest := []) ⟨hx, hb, hml, hown, htg⟩ (met_M_need l D ad cA cB hap σ H.size t0 _ h) (cwS 1 htg (kG (kG_S m_241 m_242 m_53 (kG_self m_243))) rfl rfl rfl (by decide +kernel) ⟨Nat.le_of_ble_eq_true rfl, Nat.le_of_ble_eq_true rfl⟩) (kC_pre hK hF hP hS _) rfl rfl hl.1 rfl (lv_room (Nat.le_of_ble_eq_true rfl)) d_M_command_10 ⟨Nat.le_of_ble_eq_true rfl, Nat.le_of_ble_eq_true rfl⟩) hS (fun σ1 H locs h hP hS => ?_)
    refine lv_aload_n hx hb d_M_command_13 rfl (lv_at hl 0 rfl) ?_
    refine Or.elim (or_M_needSheet h) (fun h => ?_) (fun h => kX_v (vx_runV (As := []) (rest := []) ⟨hx, hb, hml, hown, htg⟩ (metx_M_needSheet l hl0 D ad cA cB hap σ1 H.size _ _ h) (cwV 0 htg (kG (kG_V m_532 m_534 m_22 m_53 (kG_self m_535))) rfl rfl rfl (by decide +kernel) ⟨Nat.le_of_ble_eq_true rfl, Nat.le_of_ble_eq_true rfl⟩) (kC_preV hK hF hP hS 0 rfl rfl _) rfl rfl hl.1 rfl (lv_room (Nat.le_of_ble_eq_true rfl)) d_M_command_14 ⟨Nat.le_of_ble_eq_true rfl, Nat.le_of_ble_eq_true rfl⟩) hS (fun _ h => h) hnx hlocks (Nat.le_of_ble_eq_true rfl) (Nat.le_of_ble_eq_true rfl))
    refine kC_v (va_runV (As := []) (rest := []) ⟨hx, hb, hml, hown, htg⟩ (met_M_needSheet l D ad cA cB hap σ1 H.size _ h) (cwV 0 htg (kG (kG_V m_532 m_534 m_22 m_53 (kG_self m_535))) rfl rfl rfl (by decide +kernel) ⟨Nat.le_of_ble_eq_true rfl, Nat.le_of_ble_eq_true rfl⟩) (kC_preV hK hF hP hS 0 rfl rfl _) rfl rfl hl.1 rfl (lv_room (Nat.le_of_ble_eq_true rfl)) d_M_command_14 ⟨Nat.le_of_ble_eq_true rfl, Nat.le_of_ble_eq_true rfl⟩) hS (fun σ2 H locs h hP hS => ?_)
    refine lv_iconst (v := 4) hx hb d_M_command_17 (by decide) ?_
    refine lv_aload_n hx hb d_M_command_18 rfl (lv_at hl 0 rfl) ?_
    refine va_get (D := D) (ci := 3) (v := .ref (ad 2)) (C := RX3) (T := TX3) (N := 4) hx hb htg inG_X3 hown hK hP 0 rfl rfl 1 (by decide) (htg _ m_218) (fun _ h9 => h9) rfl d_M_command_19 ?_
    refine va_get (D := D) (ci := 2) (v := .int (σ2 0 4)) (C := RX2) (T := TX2) (N := 10) hx hb htg inG_X2 hown hK hP 2 rfl rfl 3 (by decide) (htg _ m_132) (fun _ h9 => h9) rfl d_M_command_22 ?_
    refine kC_i (va_runS (As := [.int (σ2 0 4)]) (rest := [.int 4]) ⟨hx, hb, hml, hown, htg⟩ (met_J_bitCount l D ad cA cB hap σ2 H.size (σ2 0 4) _ h) ⟨callB_of 1 htg (kG (kG_self m_584)) rfl rfl rfl (htg _ m_66) (htg _ m_582) (by decide +kernel) ⟨Nat.le_of_ble_eq_true rfl, Nat.le_of_ble_eq_true rfl⟩, htg _ m_583⟩ (kC_pre hK hF hP hS _) rfl rfl hl.1 rfl (lv_room (Nat.le_of_ble_eq_true rfl)) d_M_command_25 ⟨Nat.le_of_ble_eq_true rfl, Nat.le_of_ble_eq_true rfl⟩) hS (fun r4 σ3 H locs h hP hS => ?_)
    refine lv_imul hx hb d_M_command_28 ?_
    refine lv_topi (fun v5 ev5 => ?_)
    have h := h v5 ev5
    refine lv_istore_n (lv' := [(2, .int v5), (0, .ref (ad 0)), (1, .int x1)]) hx hb d_M_command_29 rfl hl (by decide) rfl (fun ls hl => ?_)
    refine lv_iload_n hx hb d_M_command_30 rfl (lv_at hl 0 rfl) ?_
    refine lv_bipush (v := 6) hx hb d_M_command_31 (by decide) ?_
    refine lv_aload_n hx hb d_M_command_33 rfl (lv_at hl 1 rfl) ?_
    refine va_get (D := D) (ci := 3) (v := .ref (ad 2)) (C := RX3) (T := TX3) (N := 4) hx hb htg inG_X3 hown hK hP 0 rfl rfl 1 (by decide) (htg _ m_218) (fun _ h9 => h9) rfl d_M_command_34 ?_
    refine va_get (D := D) (ci := 2) (v := .int (σ3 0 6)) (C := RX2) (T := TX2) (N := 10) hx hb htg inG_X2 hown hK hP 2 rfl rfl 5 (by decide) (htg _ m_138) (fun _ h9 => h9) rfl d_M_command_37 ?_
    refine lv_imul hx hb d_M_command_40 ?_
    refine lv_iadd hx hb d_M_command_41 ?_
    refine lv_iconst (v := 2) hx hb d_M_command_42 (by decide) ?_
    refine lv_aload_n hx hb d_M_command_43 rfl (lv_at hl 1 rfl) ?_
    refine va_get (D := D) (ci := 3) (v := .ref (ad 2)) (C := RX3) (T := TX3) (N := 4) hx hb htg inG_X3 hown hK hP 0 rfl rfl 1 (by decide) (htg _ m_218) (fun _ h9 => h9) rfl d_M_command_44 ?_
    refine va_get (D := D) (ci := 2) (v := .int (σ3 0 7)) (C := RX2) (T := TX2) (N := 10) hx hb htg inG_X2 hown hK hP 2 rfl rfl 6 (by decide) (htg _ m_140) (fun _ h9 => h9) rfl d_M_command_47 ?_
    refine lv_imul hx hb d_M_command_50 ?_
    refine lv_iadd hx hb d_M_command_51 ?_
    refine lv_topi (fun v6 ev6 => ?_)
    have h := h v6 ev6
    refine lv_istore_n (lv' := [(3, .int v6), (2, .int v5), (0, .ref (ad 0)), (1, .int x1)]) hx hb d_M_command_52 rfl hl (by decide) rfl (fun ls hl => ?_)
    refine lv_iload_n hx hb d_M_command_53 rfl (lv_at hl 3 rfl) ?_
    refine lv_iload_n hx hb d_M_command_54 rfl (lv_at hl 0 rfl) ?_
    refine lv_icmp_ge (tgt := 62) hx hb d_M_command_55 (by decide) (fun cn => ?_) (fun cn => ?_)
    · have h := h.1 cn
      refine lv_iconst (v := 0) hx hb d_M_command_62 (by decide) ?_
      rw [hG63] at h
      exact h _ _ _ hP hS (lv_sub hl [2, 3, 1, 0] rfl)
    · have h := h.2 cn
      refine lv_iconst (v := 1) hx hb d_M_command_58 (by decide) ?_
      refine lv_goto (tgt := 63) hx hb d_M_command_59 (by decide) ?_
      rw [hG63] at h
      exact h _ _ _ hP hS (lv_sub hl [2, 3, 1, 0] rfl))
  have h := h (by
    intro x1 x2 x3 t0 σ h
    rw [hG63]
    intro H locs ls hP hS hl
    refine Or.elim (or_M_need h) (fun h => ?_) (fun h => kX_v (vx_runS (As := [.int t0]) (rest := []) ⟨hx, hb, hml, hown, htg⟩ (metx_M_need l hl0 D ad cA cB hap σ H.size t0 _ _ h) (cwS 1 htg (kG (kG_S m_241 m_242 m_53 (kG_self m_243))) rfl rfl rfl (by decide +kernel) ⟨Nat.le_of_ble_eq_true rfl, Nat.le_of_ble_eq_true rfl⟩) (kC_pre hK hF hP hS _) rfl rfl hl.1 rfl (lv_room (Nat.le_of_ble_eq_true rfl)) d_M_command_63 ⟨Nat.le_of_ble_eq_true rfl, Nat.le_of_ble_eq_true rfl⟩) hS (fun _ h => h) hnx hlocks (Nat.le_of_ble_eq_true rfl) (Nat.le_of_ble_eq_true rfl))
    refine kC_v (va_runS (As := [.int t0]) (rest := []) ⟨hx, hb, hml, hown, htg⟩ (met_M_need l D ad cA cB hap σ H.size t0 _ h) (cwS 1 htg (kG (kG_S m_241 m_242 m_53 (kG_self m_243))) rfl rfl rfl (by decide +kernel) ⟨Nat.le_of_ble_eq_true rfl, Nat.le_of_ble_eq_true rfl⟩) (kC_pre hK hF hP hS _) rfl rfl hl.1 rfl (lv_room (Nat.le_of_ble_eq_true rfl)) d_M_command_63 ⟨Nat.le_of_ble_eq_true rfl, Nat.le_of_ble_eq_true rfl⟩) hS (fun σ7 H locs h hP hS => ?_)
    refine lv_iload_n hx hb d_M_command_66 rfl (lv_at hl 1 rfl) ?_
    refine lv_iconst (v := (-1)) hx hb d_M_command_67 (by decide) ?_
    refine lv_icmp_ne (tgt := 73) hx hb d_M_command_68 (by decide) (fun cn => ?_) (fun cn => ?_)
    · have h := h.1 cn
      refine lv_iload_n hx hb d_M_command_73 rfl (lv_at hl 1 rfl) ?_
      refine lv_iload_n hx hb d_M_command_74 rfl (lv_at hl 2 rfl) ?_
      refine lv_icmp_ge (tgt := 86) hx hb d_M_command_75 (by decide) (fun cn => ?_) (fun cn => ?_)
      · have h := h.1 cn
        refine lv_aload_n hx hb d_M_command_86 rfl (lv_at hl 0 rfl) ?_
        refine lv_iload_n hx hb d_M_command_87 rfl (lv_at hl 1 rfl) ?_
        refine lv_iload_n hx hb d_M_command_88 rfl (lv_at hl 2 rfl) ?_
        refine lv_isub hx hb d_M_command_89 ?_
        refine kC_i (va_runV (As := [.int (x1 - x2)]) (rest := []) ⟨hx, hb, hml, hown, htg⟩ (met_M_numberOfLinks l D ad cA cB hap σ7 H.size (x1 - x2) _ h) (cwV 1 htg (kG (kG_V m_596 m_598 m_24 m_53 (kG_self m_599))) rfl rfl rfl (by decide +kernel) ⟨Nat.le_of_ble_eq_true rfl, Nat.le_of_ble_eq_true rfl⟩) (kC_preV hK hF hP hS 0 rfl rfl _) rfl rfl hl.1 rfl (lv_room (Nat.le_of_ble_eq_true rfl)) d_M_command_90 ⟨Nat.le_of_ble_eq_true rfl, Nat.le_of_ble_eq_true rfl⟩) hS (fun r9 σ8 H locs h hP hS => ?_)
        refine W.widen (k := 1) (n := 6) (by omega) (by omega) ?_
        refine vx_ret ?_
        exact W.iret (v := r9) hx hb hr (fun t ht hW => ⟨⟨_, σ8, rfl, h, kBC_of ht hP⟩, hS.F ht⟩) hS.2.2 d_M_command_93 hlocks
      · have h := h.2 cn
        refine lv_aload_n hx hb d_M_command_78 rfl (lv_at hl 0 rfl) ?_
        refine lv_iload_n hx hb d_M_command_79 rfl (lv_at hl 1 rfl) ?_
        refine kC_i (va_runV (As := [.int x1]) (rest := []) ⟨hx, hb, hml, hown, htg⟩ (met_M_numberOfGroups l D ad cA cB hap σ7 H.size x1 _ h) (cwV 1 htg (kG (kG_V m_588 m_590 m_23 m_53 (kG_self m_591))) rfl rfl rfl (by decide +kernel) ⟨Nat.le_of_ble_eq_true rfl, Nat.le_of_ble_eq_true rfl⟩) (kC_preV hK hF hP hS 0 rfl rfl _) rfl rfl hl.1 rfl (lv_room (Nat.le_of_ble_eq_true rfl)) d_M_command_80 ⟨Nat.le_of_ble_eq_true rfl, Nat.le_of_ble_eq_true rfl⟩) hS (fun r11 σ10 H locs h hP hS => ?_)
        refine lv_goto (tgt := 93) hx hb d_M_command_83 (by decide) ?_
        refine W.widen (k := 1) (n := 6) (by omega) (by omega) ?_
        refine vx_ret ?_
        exact W.iret (v := r11) hx hb hr (fun t ht hW => ⟨⟨_, σ10, rfl, h, kBC_of ht hP⟩, hS.F ht⟩) hS.2.2 d_M_command_93 hlocks
    · have h := h.2 cn
      refine lv_iload_n hx hb d_M_command_71 rfl (lv_at hl 3 rfl) ?_
      refine W.widen (k := 1) (n := 6) (by omega) (by omega) ?_
      refine vx_ret ?_
      exact W.iret (v := x3) hx hb hr (fun t ht hW => ⟨⟨_, σ7, rfl, h, kBC_of ht hP⟩, hS.F ht⟩) hS.2.2 d_M_command_72 hlocks)
  obtain ⟨H, eH⟩ : ∃ z, z = s.heap := ⟨_, rfl⟩
  have hP : va_P D vwCl (wC ad cA cB σ) H := by rw [eH]; exact hP
  have hS : va_S (kAC ad s.heap.size) s.heap H [] := by rw [eH]; exact hS
  show W p l e (headSpec (Cond.code y_M_command c_M_command 4 (some .int) :: wsG) ({ frames := 7, cells := 1, slots := 6, locals := 110 } : Room)).room s m ([.ref (ad 0), .int a1] : List Value).toArray below meth c s.heap [] 0 0 (vx_MQ below (va_Qi post (kBC D ad cA cB) (kAC ad s.heap.size)) (kX D ad cA cB px s.heap.size) ([.ref (ad 0), .int a1] : List Value).toArray s 1 6 (kAC ad s.heap.size)) (F0 m 0 ls [])
  suffices k : W p l e (headSpec (Cond.code y_M_command c_M_command 4 (some .int) :: wsG) ({ frames := 7, cells := 1, slots := 6, locals := 110 } : Room)).room s m ([.ref (ad 0), .int a1] : List Value).toArray below meth c H [] 0 0 (vx_MQ below (va_Qi post (kBC D ad cA cB) (kAC ad s.heap.size)) (kX D ad cA cB px s.heap.size) ([.ref (ad 0), .int a1] : List Value).toArray s 1 6 (kAC ad s.heap.size)) (F0 m 0 ls []) by rw [eH] at k; exact k
  refine lv_iload_n hx hb d_M_command_0 rfl (lv_at hl 1 rfl) ?_
  refine lv_iconst (v := (-1)) hx hb d_M_command_1 (by decide) ?_
  refine lv_icmp_lt (tgt := 9) hx hb d_M_command_2 (by decide) (fun cn => ?_) (fun cn => ?_)
  · have h := h.1 cn
    refine lv_iconst (v := 0) hx hb d_M_command_9 (by decide) ?_
    rw [hG10] at h
    exact h _ _ _ hP hS (lv_sub hl [0, 1] rfl)
  · have h := h.2 cn
    refine lv_iconst (v := 1) hx hb d_M_command_5 (by decide) ?_
    refine lv_goto (tgt := 10) hx hb d_M_command_6 (by decide) ?_
    rw [hG10] at h
    exact h _ _ _ hP hS (lv_sub hl [0, 1] rfl)
set_option maxHeartbeats 4000000 in
set_option maxRecDepth 100000 in
theorem metx_M_count (l : Launch) (hl0 : l.stackTraces = false) (D : va_G) (ad : Nat → Nat) (cA cB : ClassId) (hap : kapC ad) (σ : S0) (sz : Nat) (a1 : Int32) (post : Int32 → S0 → Prop) (px : Nat → S0 → Prop) (h : Sp_M_count a1 σ post px) : vx_Met l y_M_count (Cond.code y_M_count c_M_count 2 (some .int) :: wsG) ({ frames := 6, cells := 1, slots := 6, locals := 90 } : Room) (kPcC D ad cA cB σ sz [.ref (ad 0), .int a1]) (va_Qi post (kBC D ad cA cB) (kAC ad sz)) (kX D ad cA cB px sz) 1 6 (kAC ad sz) := by
  refine vx_ofW (cc := c_M_count) (maxL := 2) (ret := (some .int)) (by decide) rfl ?_
  intro p e s m args below meth c s₁ B hml hnx hv
  obtain ⟨rfl, hsz, hP, hK, hF⟩ := hv
  have hx := B.exec
  have hb := B.bytes
  have hr := B.returns
  have hts := atoms_spec (ws := (Cond.code y_M_count c_M_count 2 (some .int) :: wsG)) B.pre
  have htg : ∀ w ∈ wsG, w.before ([.ref (ad 0), .int a1] : List Value).toArray s = true := fun w h => hts w (List.mem_cons_of_mem _ h)
  have hown : s.vm.findClass RX3 = some m.cls := findClass_of_methodNamed B.named
  have hlocks := B.notSynchronized
  subst hsz
  have hD : ∀ σ, va_D (kAC ad s.heap.size) (wC ad cA cB σ) := fun σ => wC_D hap cA cB σ _
  have hS : va_S (kAC ad s.heap.size) s.heap s.heap [] := va_S.rf
  have hE := hF.1
  have hl := lv_entry ([.ref (ad 0), .int a1]) (n := 2) (Nat.le_of_ble_eq_true rfl)
  rw [lg_entry_eq]
  generalize (lg_sl ([.ref (ad 0), .int a1]) ++ List.replicate (2 - (lg_sl ([.ref (ad 0), .int a1])).length) Slot.unset).toArray = ls at hl ⊢
  have hl : lv_has ls 2 [(0, .ref (ad 0)), (1, .int a1)] := hl
  unfold Sp_M_count at h
  obtain ⟨H, eH⟩ : ∃ z, z = s.heap := ⟨_, rfl⟩
  have hP : va_P D vwCl (wC ad cA cB σ) H := by rw [eH]; exact hP
  have hS : va_S (kAC ad s.heap.size) s.heap H [] := by rw [eH]; exact hS
  show W p l e (headSpec (Cond.code y_M_count c_M_count 2 (some .int) :: wsG) ({ frames := 6, cells := 1, slots := 6, locals := 90 } : Room)).room s m ([.ref (ad 0), .int a1] : List Value).toArray below meth c s.heap [] 0 0 (vx_MQ below (va_Qi post (kBC D ad cA cB) (kAC ad s.heap.size)) (kX D ad cA cB px s.heap.size) ([.ref (ad 0), .int a1] : List Value).toArray s 1 6 (kAC ad s.heap.size)) (F0 m 0 ls [])
  suffices k : W p l e (headSpec (Cond.code y_M_count c_M_count 2 (some .int) :: wsG) ({ frames := 6, cells := 1, slots := 6, locals := 90 } : Room)).room s m ([.ref (ad 0), .int a1] : List Value).toArray below meth c H [] 0 0 (vx_MQ below (va_Qi post (kBC D ad cA cB) (kAC ad s.heap.size)) (kX D ad cA cB px s.heap.size) ([.ref (ad 0), .int a1] : List Value).toArray s 1 6 (kAC ad s.heap.size)) (F0 m 0 ls []) by rw [eH] at k; exact k
  refine lv_iload_n hx hb d_M_count_0 rfl (lv_at hl 1 rfl) ?_
  by_cases cn0 : a1 = 0
  · have h := h.1.1 cn0
    refine lv_tableIn (tgt := 36) hx hb d_M_count_1 (by rw [cn0]; decide) (by rw [cn0]; decide) (by rw [cn0]; rfl) (by decide) ?_
    refine lv_aload_n hx hb d_M_count_36 rfl (lv_at hl 0 rfl) ?_
    refine va_get (D := D) (ci := 3) (v := .ref (ad 1)) (C := RX3) (T := TX3) (N := 4) hx hb htg inG_X3 hown hK hP 0 rfl rfl 0 (by decide) (htg _ m_217) (fun _ h9 => h9) rfl d_M_count_37 ?_
    refine va_get (D := D) (ci := 0) (v := .int (σ 0 1)) (C := RX0) (T := TX0) (N := 9) hx hb htg inG_X0 hown hK hP 1 rfl rfl 3 (by decide) (htg _ m_88) (fun _ h9 => h9) rfl d_M_count_40 ?_
    refine kC_i (va_runS (As := [.int (σ 0 1)]) (rest := []) ⟨hx, hb, hml, hown, htg⟩ (met_J_bitCount l D ad cA cB hap σ H.size (σ 0 1) _ h) ⟨callB_of 1 htg (kG (kG_self m_584)) rfl rfl rfl (htg _ m_66) (htg _ m_582) (by decide +kernel) ⟨Nat.le_of_ble_eq_true rfl, Nat.le_of_ble_eq_true rfl⟩, htg _ m_583⟩ (kC_pre hK hF hP hS _) rfl rfl hl.1 rfl (lv_room (Nat.le_of_ble_eq_true rfl)) d_M_count_43 ⟨Nat.le_of_ble_eq_true rfl, Nat.le_of_ble_eq_true rfl⟩) hS (fun r2 σ1 H locs h hP hS => ?_)
    refine W.widen (k := 1) (n := 6) (by omega) (by omega) ?_
    refine vx_ret ?_
    exact W.iret (v := r2) hx hb hr (fun t ht hW => ⟨⟨_, σ1, rfl, h, kBC_of ht hP⟩, hS.F ht⟩) hS.2.2 d_M_count_46 hlocks
  by_cases cn1 : a1 = 1
  · have h := h.1.2.1 cn1
    refine lv_tableIn (tgt := 47) hx hb d_M_count_1 (by rw [cn1]; decide) (by rw [cn1]; decide) (by rw [cn1]; rfl) (by decide) ?_
    refine lv_aload_n hx hb d_M_count_47 rfl (lv_at hl 0 rfl) ?_
    refine va_get (D := D) (ci := 3) (v := .ref (ad 1)) (C := RX3) (T := TX3) (N := 4) hx hb htg inG_X3 hown hK hP 0 rfl rfl 0 (by decide) (htg _ m_217) (fun _ h9 => h9) rfl d_M_count_48 ?_
    refine va_get (D := D) (ci := 0) (v := .int (σ 0 3)) (C := RX0) (T := TX0) (N := 9) hx hb htg inG_X0 hown hK hP 1 rfl rfl 5 (by decide) (htg _ m_92) (fun _ h9 => h9) rfl d_M_count_51 ?_
    refine W.widen (k := 1) (n := 6) (by omega) (by omega) ?_
    refine vx_ret ?_
    exact W.iret (v := (σ 0 3)) hx hb hr (fun t ht hW => ⟨⟨_, σ, rfl, h, kBC_of ht hP⟩, hS.F ht⟩) hS.2.2 d_M_count_54 hlocks
  by_cases cn2 : a1 = 2
  · have h := h.1.2.2.1 cn2
    refine lv_tableIn (tgt := 55) hx hb d_M_count_1 (by rw [cn2]; decide) (by rw [cn2]; decide) (by rw [cn2]; rfl) (by decide) ?_
    refine lv_aload_n hx hb d_M_count_55 rfl (lv_at hl 0 rfl) ?_
    refine va_get (D := D) (ci := 3) (v := .ref (ad 1)) (C := RX3) (T := TX3) (N := 4) hx hb htg inG_X3 hown hK hP 0 rfl rfl 0 (by decide) (htg _ m_217) (fun _ h9 => h9) rfl d_M_count_56 ?_
    refine lv_aload_n hx hb d_M_count_59 rfl (lv_at hl 0 rfl) ?_
    refine va_get (D := D) (ci := 3) (v := .ref (ad 1)) (C := RX3) (T := TX3) (N := 4) hx hb htg inG_X3 hown hK hP 0 rfl rfl 0 (by decide) (htg _ m_217) (fun _ h9 => h9) rfl d_M_count_60 ?_
    refine va_get (D := D) (ci := 0) (v := .int (σ 0 1)) (C := RX0) (T := TX0) (N := 9) hx hb htg inG_X0 hown hK hP 1 rfl rfl 3 (by decide) (htg _ m_88) (fun _ h9 => h9) rfl d_M_count_63 ?_
    refine kC_i (va_runV (As := [.int (σ 0 1)]) (rest := []) ⟨hx, hb, hml, hown, htg⟩ (met_D_leadersOf l D ad cA cB hap σ H.size (σ 0 1) _ h) (cwV 1 htg (kG (kG_V m_611 m_324 m_325 m_54 (kG_self m_326))) rfl rfl rfl (by decide +kernel) ⟨Nat.le_of_ble_eq_true rfl, Nat.le_of_ble_eq_true rfl⟩) (kC_preV hK hF hP hS 1 rfl rfl _) rfl rfl hl.1 rfl (lv_room (Nat.le_of_ble_eq_true rfl)) d_M_count_66 ⟨Nat.le_of_ble_eq_true rfl, Nat.le_of_ble_eq_true rfl⟩) hS (fun r4 σ3 H locs h hP hS => ?_)
    refine kC_i (va_runS (As := [.int r4]) (rest := []) ⟨hx, hb, hml, hown, htg⟩ (met_J_bitCount l D ad cA cB hap σ3 H.size r4 _ h) ⟨callB_of 1 htg (kG (kG_self m_584)) rfl rfl rfl (htg _ m_66) (htg _ m_582) (by decide +kernel) ⟨Nat.le_of_ble_eq_true rfl, Nat.le_of_ble_eq_true rfl⟩, htg _ m_583⟩ (kC_pre hK hF hP hS _) rfl rfl hl.1 rfl (lv_room (Nat.le_of_ble_eq_true rfl)) d_M_count_69 ⟨Nat.le_of_ble_eq_true rfl, Nat.le_of_ble_eq_true rfl⟩) hS (fun r6 σ5 H locs h hP hS => ?_)
    refine W.widen (k := 1) (n := 6) (by omega) (by omega) ?_
    refine vx_ret ?_
    exact W.iret (v := r6) hx hb hr (fun t ht hW => ⟨⟨_, σ5, rfl, h, kBC_of ht hP⟩, hS.F ht⟩) hS.2.2 d_M_count_72 hlocks
  by_cases cn3 : a1 = 3
  · have h := h.1.2.2.2.1 cn3
    refine lv_tableIn (tgt := 73) hx hb d_M_count_1 (by rw [cn3]; decide) (by rw [cn3]; decide) (by rw [cn3]; rfl) (by decide) ?_
    refine lv_aload_n hx hb d_M_count_73 rfl (lv_at hl 0 rfl) ?_
    refine va_get (D := D) (ci := 3) (v := .int (σ 0 0)) (C := RX3) (T := TX3) (N := 4) hx hb htg inG_X3 hown hK hP 0 rfl rfl 3 (by decide) (htg _ m_220) (fun _ h9 => h9) rfl d_M_count_74 ?_
    refine lv_if_eq (tgt := 90) hx hb d_M_count_77 (by decide) (fun cn => ?_) (fun cn => ?_)
    · have h := h.1 cn
      refine lv_iconst (v := 0) hx hb d_M_count_90 (by decide) ?_
      refine W.widen (k := 1) (n := 6) (by omega) (by omega) ?_
      refine vx_ret ?_
      exact W.iret (v := 0) hx hb hr (fun t ht hW => ⟨⟨_, σ, rfl, h, kBC_of ht hP⟩, hS.F ht⟩) hS.2.2 d_M_count_91 hlocks
    · have h := h.2 cn
      refine lv_aload_n hx hb d_M_count_80 rfl (lv_at hl 0 rfl) ?_
      refine va_get (D := D) (ci := 3) (v := .ref (ad 2)) (C := RX3) (T := TX3) (N := 4) hx hb htg inG_X3 hown hK hP 0 rfl rfl 1 (by decide) (htg _ m_218) (fun _ h9 => h9) rfl d_M_count_81 ?_
      refine va_get (D := D) (ci := 2) (v := .int (σ 0 5)) (C := RX2) (T := TX2) (N := 10) hx hb htg inG_X2 hown hK hP 2 rfl rfl 4 (by decide) (htg _ m_135) (fun _ h9 => h9) rfl d_M_count_84 ?_
      refine lv_goto (tgt := 91) hx hb d_M_count_87 (by decide) ?_
      refine W.widen (k := 1) (n := 6) (by omega) (by omega) ?_
      refine vx_ret ?_
      exact W.iret (v := (σ 0 5)) hx hb hr (fun t ht hW => ⟨⟨_, σ, rfl, h, kBC_of ht hP⟩, hS.F ht⟩) hS.2.2 d_M_count_91 hlocks
  by_cases cn4 : a1 = 4
  · have h := h.1.2.2.2.2 cn4
    refine lv_tableIn (tgt := 92) hx hb d_M_count_1 (by rw [cn4]; decide) (by rw [cn4]; decide) (by rw [cn4]; rfl) (by decide) ?_
    refine lv_aload_n hx hb d_M_count_92 rfl (lv_at hl 0 rfl) ?_
    refine va_get (D := D) (ci := 3) (v := .int (σ 0 0)) (C := RX3) (T := TX3) (N := 4) hx hb htg inG_X3 hown hK hP 0 rfl rfl 3 (by decide) (htg _ m_220) (fun _ h9 => h9) rfl d_M_count_93 ?_
    refine lv_if_eq (tgt := 109) hx hb d_M_count_96 (by decide) (fun cn => ?_) (fun cn => ?_)
    · have h := h.1 cn
      refine lv_iconst (v := 0) hx hb d_M_count_109 (by decide) ?_
      refine W.widen (k := 1) (n := 6) (by omega) (by omega) ?_
      refine vx_ret ?_
      exact W.iret (v := 0) hx hb hr (fun t ht hW => ⟨⟨_, σ, rfl, h, kBC_of ht hP⟩, hS.F ht⟩) hS.2.2 d_M_count_110 hlocks
    · have h := h.2 cn
      refine lv_aload_n hx hb d_M_count_99 rfl (lv_at hl 0 rfl) ?_
      refine va_get (D := D) (ci := 3) (v := .ref (ad 2)) (C := RX3) (T := TX3) (N := 4) hx hb htg inG_X3 hown hK hP 0 rfl rfl 1 (by decide) (htg _ m_218) (fun _ h9 => h9) rfl d_M_count_100 ?_
      refine va_get (D := D) (ci := 2) (v := .int (σ 0 7)) (C := RX2) (T := TX2) (N := 10) hx hb htg inG_X2 hown hK hP 2 rfl rfl 6 (by decide) (htg _ m_140) (fun _ h9 => h9) rfl d_M_count_103 ?_
      refine lv_goto (tgt := 110) hx hb d_M_count_106 (by decide) ?_
      refine W.widen (k := 1) (n := 6) (by omega) (by omega) ?_
      refine vx_ret ?_
      exact W.iret (v := (σ 0 7)) hx hb hr (fun t ht hW => ⟨⟨_, σ, rfl, h, kBC_of ht hP⟩, hS.F ht⟩) hS.2.2 d_M_count_110 hlocks
  have h := h.2 ⟨cn0, cn1, cn2, cn3, cn4⟩
  refine lv_tableOut (tgt := 111) hx hb d_M_count_1 (sw_out 4 (by decide) (fun j hj => by rcases Nat.lt_or_ge j 1 with q | q; (have : j = 0 := by omega); subst this; exact cn0; rcases Nat.lt_or_ge j 2 with q | q; (have : j = 1 := by omega); subst this; exact cn1; rcases Nat.lt_or_ge j 3 with q | q; (have : j = 2 := by omega); subst this; exact cn2; rcases Nat.lt_or_ge j 4 with q | q; (have : j = 3 := by omega); subst this; exact cn3; rcases Nat.lt_or_ge j 5 with q | q; (have : j = 4 := by omega); subst this; exact cn4; omega)) (by decide) ?_
  obtain ⟨sa, hstr⟩ := hF.2.2.2 (149, "nothing is counted by this number") (by decide)
  exact vx_throwS (names := kch) hx hb hl0 hown (by decide +kernel) (by decide +kernel) (htg _ m_244) (htg _ m_61) hstr (at_151_ok htg hE) (at_151_ot) hF.2.1 hF.2.2.1 hS (hl.1.trans hml.symm) d_M_count_111 d_M_count_114 d_M_count_115 d_M_count_117 d_M_count_120 (fun x hx => (hnx x hx).elim) (Nat.le_of_ble_eq_true rfl) (Nat.le_of_ble_eq_true rfl) (Nat.le_of_ble_eq_true rfl) (Nat.le_of_ble_eq_true rfl) hlocks (kX_thrown 0 h hP hS) hS.2.2 (Nat.le_of_ble_eq_true rfl) (Nat.le_of_ble_eq_true rfl)
