set_option maxHeartbeats 4000000 in
set_option maxRecDepth 100000 in
theorem met_R_thrown (l : Launch) (D : va_G) (ad : Nat → Nat) (cA cB : ClassId) (hap : kapR ad) (σ : S0) (sz : Nat) (post : Int32 → S0 → Prop) (h : Sp_R_thrown  σ post) : Met l y_R_thrown (Cond.code y_R_thrown c_R_thrown 1 (some .int) :: wsG) ({ frames := 0, cells := 0, slots := 0, locals := 0 } : Room) (kPcR D ad cA cB σ sz [.ref (ad 0)]) (va_Qi post (kBR D ad cA cB) (kAR ad sz)) 0 0 (kAR ad sz) := by
  refine Met.ofW (cc := c_R_thrown) (maxL := 1) (ret := (some .int)) (by decide) rfl ?_
  intro p e s m args below meth c s₁ B hml hv
  obtain ⟨rfl, hsz, hP, hK, hF⟩ := hv
  have hx := B.exec
  have hb := B.bytes
  have hr := B.returns
  have hts := atoms_spec (ws := (Cond.code y_R_thrown c_R_thrown 1 (some .int) :: wsG)) B.pre
  have htg : ∀ w ∈ wsG, w.before ([.ref (ad 0)] : List Value).toArray s = true := fun w h => hts w (List.mem_cons_of_mem _ h)
  have hown : s.vm.findClass RX4 = some m.cls := findClass_of_methodNamed B.named
  have hlocks := B.notSynchronized
  subst hsz
  have hD : ∀ σ, va_D (kAR ad s.heap.size) (wR ad cA cB σ) := fun σ => wR_D hap cA cB σ _
  have hS : va_S (kAR ad s.heap.size) s.heap s.heap [] := va_S.rf
  have hl := lv_entry ([.ref (ad 0)]) (n := 1) (Nat.le_of_ble_eq_true rfl)
  rw [lg_entry_eq]
  generalize (lg_sl ([.ref (ad 0)]) ++ List.replicate (1 - (lg_sl ([.ref (ad 0)])).length) Slot.unset).toArray = ls at hl ⊢
  have hl : lv_has ls 1 [(0, .ref (ad 0))] := hl
  unfold Sp_R_thrown at h
  obtain ⟨H, eH⟩ : ∃ z, z = s.heap := ⟨_, rfl⟩
  have hP : va_P D vwCl (wR ad cA cB σ) H := by rw [eH]; exact hP
  have hS : va_S (kAR ad s.heap.size) s.heap H [] := by rw [eH]; exact hS
  show W p l e (headSpec (Cond.code y_R_thrown c_R_thrown 1 (some .int) :: wsG) ({ frames := 0, cells := 0, slots := 0, locals := 0 } : Room)).room s m ([.ref (ad 0)] : List Value).toArray below meth c s.heap [] 0 0 (MQ below (va_Qi post (kBR D ad cA cB) (kAR ad s.heap.size)) ([.ref (ad 0)] : List Value).toArray s 0 0 (kAR ad s.heap.size)) (F0 m 0 ls [])
  suffices k : W p l e (headSpec (Cond.code y_R_thrown c_R_thrown 1 (some .int) :: wsG) ({ frames := 0, cells := 0, slots := 0, locals := 0 } : Room)).room s m ([.ref (ad 0)] : List Value).toArray below meth c H [] 0 0 (MQ below (va_Qi post (kBR D ad cA cB) (kAR ad s.heap.size)) ([.ref (ad 0)] : List Value).toArray s 0 0 (kAR ad s.heap.size)) (F0 m 0 ls []) by rw [eH] at k; exact k
  refine lv_aload_n hx hb d_R_thrown_0 rfl (lv_at hl 0 rfl) ?_
  refine va_get (D := D) (ci := 4) (v := .int (σ 0 0)) (C := RX4) (T := TX4) (N := 27) hx hb htg inG_X4 hown hK hP 0 rfl rfl 0 (by decide) (htg _ m_619) (fun _ h9 => h9) rfl d_R_thrown_1 ?_
  exact W.iret (v := (σ 0 0)) hx hb hr (fun t ht hW => ⟨⟨_, σ, rfl, h, kBR_of ht hP⟩, hS.F ht⟩) hS.2.2 d_R_thrown_4 hlocks
set_option maxHeartbeats 4000000 in
set_option maxRecDepth 100000 in
theorem met_R_in (l : Launch) (D : va_G) (ad : Nat → Nat) (cA cB : ClassId) (hap : kapR ad) (σ : S0) (sz : Nat) (a0 a1 a2 : Int32) (post : Int32 → S0 → Prop) (h : Sp_R_in a0 a1 a2 σ post) : Met l y_R_in (Cond.code y_R_in c_R_in 3 (some .boolean) :: wsG) ({ frames := 0, cells := 0, slots := 0, locals := 0 } : Room) (kPcR D ad cA cB σ sz [.int a0, .int a1, .int a2]) (va_Qi post (kBR D ad cA cB) (kAR ad sz)) 0 0 (kAR ad sz) := by
  refine Met.ofW (cc := c_R_in) (maxL := 3) (ret := (some .boolean)) (by decide) rfl ?_
  intro p e s m args below meth c s₁ B hml hv
  obtain ⟨rfl, hsz, hP, hK, hF⟩ := hv
  have hx := B.exec
  have hb := B.bytes
  have hr := B.returns
  have hts := atoms_spec (ws := (Cond.code y_R_in c_R_in 3 (some .boolean) :: wsG)) B.pre
  have htg : ∀ w ∈ wsG, w.before ([.int a0, .int a1, .int a2] : List Value).toArray s = true := fun w h => hts w (List.mem_cons_of_mem _ h)
  have hown : s.vm.findClass RX4 = some m.cls := findClass_of_methodNamed B.named
  have hlocks := B.notSynchronized
  subst hsz
  have hD : ∀ σ, va_D (kAR ad s.heap.size) (wR ad cA cB σ) := fun σ => wR_D hap cA cB σ _
  have hS : va_S (kAR ad s.heap.size) s.heap s.heap [] := va_S.rf
  have hl := lv_entry ([.int a0, .int a1, .int a2]) (n := 3) (Nat.le_of_ble_eq_true rfl)
  rw [lg_entry_eq]
  generalize (lg_sl ([.int a0, .int a1, .int a2]) ++ List.replicate (3 - (lg_sl ([.int a0, .int a1, .int a2])).length) Slot.unset).toArray = ls at hl ⊢
  have hl : lv_has ls 3 [(0, .int a0), (1, .int a1), (2, .int a2)] := hl
  unfold Sp_R_in at h
  obtain ⟨H, eH⟩ : ∃ z, z = s.heap := ⟨_, rfl⟩
  have hP : va_P D vwCl (wR ad cA cB σ) H := by rw [eH]; exact hP
  have hS : va_S (kAR ad s.heap.size) s.heap H [] := by rw [eH]; exact hS
  show W p l e (headSpec (Cond.code y_R_in c_R_in 3 (some .boolean) :: wsG) ({ frames := 0, cells := 0, slots := 0, locals := 0 } : Room)).room s m ([.int a0, .int a1, .int a2] : List Value).toArray below meth c s.heap [] 0 0 (MQ below (va_Qi post (kBR D ad cA cB) (kAR ad s.heap.size)) ([.int a0, .int a1, .int a2] : List Value).toArray s 0 0 (kAR ad s.heap.size)) (F0 m 0 ls [])
  suffices k : W p l e (headSpec (Cond.code y_R_in c_R_in 3 (some .boolean) :: wsG) ({ frames := 0, cells := 0, slots := 0, locals := 0 } : Room)).room s m ([.int a0, .int a1, .int a2] : List Value).toArray below meth c H [] 0 0 (MQ below (va_Qi post (kBR D ad cA cB) (kAR ad s.heap.size)) ([.int a0, .int a1, .int a2] : List Value).toArray s 0 0 (kAR ad s.heap.size)) (F0 m 0 ls []) by rw [eH] at k; exact k
  refine lv_iload_n hx hb d_R_in_0 rfl (lv_at hl 0 rfl) ?_
  refine lv_iload_n hx hb d_R_in_1 rfl (lv_at hl 1 rfl) ?_
  refine lv_icmp_lt (tgt := 14) hx hb d_R_in_2 (by decide) (fun cn => ?_) (fun cn => ?_)
  · have h := h.1 cn
    refine lv_iconst (v := 0) hx hb d_R_in_14 (by decide) ?_
    exact W.zret (v := 0) hx hb hr rfl (fun t ht hW => ⟨⟨_, σ, rfl, h, kBR_of ht hP⟩, hS.F ht⟩) hS.2.2 d_R_in_15 hlocks
  · have h := h.2 cn
    refine lv_iload_n hx hb d_R_in_5 rfl (lv_at hl 0 rfl) ?_
    refine lv_iload_n hx hb d_R_in_6 rfl (lv_at hl 2 rfl) ?_
    refine lv_icmp_gt (tgt := 14) hx hb d_R_in_7 (by decide) (fun cn => ?_) (fun cn => ?_)
    · have h := h.1 cn
      refine lv_iconst (v := 0) hx hb d_R_in_14 (by decide) ?_
      exact W.zret (v := 0) hx hb hr rfl (fun t ht hW => ⟨⟨_, σ, rfl, h, kBR_of ht hP⟩, hS.F ht⟩) hS.2.2 d_R_in_15 hlocks
    · have h := h.2 cn
      refine lv_iconst (v := 1) hx hb d_R_in_10 (by decide) ?_
      refine lv_goto (tgt := 15) hx hb d_R_in_11 (by decide) ?_
      exact W.zret (v := 1) hx hb hr rfl (fun t ht hW => ⟨⟨_, σ, rfl, h, kBR_of ht hP⟩, hS.F ht⟩) hS.2.2 d_R_in_15 hlocks
set_option maxHeartbeats 4000000 in
set_option maxRecDepth 100000 in
theorem met_R_isContext (l : Launch) (D : va_G) (ad : Nat → Nat) (cA cB : ClassId) (hap : kapR ad) (σ : S0) (sz : Nat) (a0 : Int32) (post : Int32 → S0 → Prop) (h : Sp_R_isContext a0 σ post) : Met l y_R_isContext (Cond.code y_R_isContext c_R_isContext 1 (some .boolean) :: wsG) ({ frames := 1, cells := 0, slots := 0, locals := 22 } : Room) (kPcR D ad cA cB σ sz [.int a0]) (va_Qi post (kBR D ad cA cB) (kAR ad sz)) 0 0 (kAR ad sz) := by
  refine Met.ofW (cc := c_R_isContext) (maxL := 1) (ret := (some .boolean)) (by decide) rfl ?_
  intro p e s m args below meth c s₁ B hml hv
  obtain ⟨rfl, hsz, hP, hK, hF⟩ := hv
  have hx := B.exec
  have hb := B.bytes
  have hr := B.returns
  have hts := atoms_spec (ws := (Cond.code y_R_isContext c_R_isContext 1 (some .boolean) :: wsG)) B.pre
  have htg : ∀ w ∈ wsG, w.before ([.int a0] : List Value).toArray s = true := fun w h => hts w (List.mem_cons_of_mem _ h)
  have hown : s.vm.findClass RX4 = some m.cls := findClass_of_methodNamed B.named
  have hlocks := B.notSynchronized
  subst hsz
  have hD : ∀ σ, va_D (kAR ad s.heap.size) (wR ad cA cB σ) := fun σ => wR_D hap cA cB σ _
  have hS : va_S (kAR ad s.heap.size) s.heap s.heap [] := va_S.rf
  have hl := lv_entry ([.int a0]) (n := 1) (Nat.le_of_ble_eq_true rfl)
  rw [lg_entry_eq]
  generalize (lg_sl ([.int a0]) ++ List.replicate (1 - (lg_sl ([.int a0])).length) Slot.unset).toArray = ls at hl ⊢
  have hl : lv_has ls 1 [(0, .int a0)] := hl
  unfold Sp_R_isContext at h
  obtain ⟨H, eH⟩ : ∃ z, z = s.heap := ⟨_, rfl⟩
  have hP : va_P D vwCl (wR ad cA cB σ) H := by rw [eH]; exact hP
  have hS : va_S (kAR ad s.heap.size) s.heap H [] := by rw [eH]; exact hS
  show W p l e (headSpec (Cond.code y_R_isContext c_R_isContext 1 (some .boolean) :: wsG) ({ frames := 1, cells := 0, slots := 0, locals := 22 } : Room)).room s m ([.int a0] : List Value).toArray below meth c s.heap [] 0 0 (MQ below (va_Qi post (kBR D ad cA cB) (kAR ad s.heap.size)) ([.int a0] : List Value).toArray s 0 0 (kAR ad s.heap.size)) (F0 m 0 ls [])
  suffices k : W p l e (headSpec (Cond.code y_R_isContext c_R_isContext 1 (some .boolean) :: wsG) ({ frames := 1, cells := 0, slots := 0, locals := 22 } : Room)).room s m ([.int a0] : List Value).toArray below meth c H [] 0 0 (MQ below (va_Qi post (kBR D ad cA cB) (kAR ad s.heap.size)) ([.int a0] : List Value).toArray s 0 0 (kAR ad s.heap.size)) (F0 m 0 ls []) by rw [eH] at k; exact k
  refine lv_iload_n hx hb d_R_isContext_0 rfl (lv_at hl 0 rfl) ?_
  refine lv_iconst (v := 0) hx hb d_R_isContext_1 (by decide) ?_
  refine lv_bipush (v := 15) hx hb d_R_isContext_2 (by decide) ?_
  refine kR_i (va_runS (As := [.int a0, .int 0, .int 15]) (rest := []) ⟨hx, hb, hml, hown, htg⟩ (met_R_in l D ad cA cB hap σ H.size a0 0 15 _ h) (cwS 3 htg (kG (kG_S m_713 m_714 m_57 (kG_self m_715))) rfl rfl rfl (by decide +kernel) ⟨Nat.le_of_ble_eq_true rfl, Nat.le_of_ble_eq_true rfl⟩) (kR_pre hK hF hP hS _) rfl rfl hl.1 rfl (lv_room (Nat.le_of_ble_eq_true rfl)) d_R_isContext_4 ⟨Nat.le_of_ble_eq_true rfl, Nat.le_of_ble_eq_true rfl⟩) hS (fun r2 σ1 H locs h hP hS => ?_)
  have hi := h.1
  have h := h.2
  exact W.zret (v := r2) hx hb hr (bo_n hi) (fun t ht hW => ⟨⟨_, σ1, rfl, h, kBR_of ht hP⟩, hS.F ht⟩) hS.2.2 d_R_isContext_7 hlocks
set_option maxHeartbeats 4000000 in
set_option maxRecDepth 100000 in
theorem met_R_throwing (l : Launch) (D : va_G) (ad : Nat → Nat) (cA cB : ClassId) (hap : kapR ad) (σ : S0) (sz : Nat) (a1 a2 : Int32) (post : Int32 → S0 → Prop) (h : Sp_R_throwing a1 a2 σ post) : Met l y_R_throwing (Cond.code y_R_throwing c_R_throwing 3 (some .boolean) :: wsG) ({ frames := 0, cells := 0, slots := 0, locals := 0 } : Room) (kPcR D ad cA cB σ sz [.ref (ad 0), .int a1, .int a2]) (va_Qi post (kBR D ad cA cB) (kAR ad sz)) 0 0 (kAR ad sz) := by
  refine Met.ofW (cc := c_R_throwing) (maxL := 3) (ret := (some .boolean)) (by decide) rfl ?_
  intro p e s m args below meth c s₁ B hml hv
  obtain ⟨rfl, hsz, hP, hK, hF⟩ := hv
  have hx := B.exec
  have hb := B.bytes
  have hr := B.returns
  have hts := atoms_spec (ws := (Cond.code y_R_throwing c_R_throwing 3 (some .boolean) :: wsG)) B.pre
  have htg : ∀ w ∈ wsG, w.before ([.ref (ad 0), .int a1, .int a2] : List Value).toArray s = true := fun w h => hts w (List.mem_cons_of_mem _ h)
  have hown : s.vm.findClass RX4 = some m.cls := findClass_of_methodNamed B.named
  have hlocks := B.notSynchronized
  subst hsz
  have hD : ∀ σ, va_D (kAR ad s.heap.size) (wR ad cA cB σ) := fun σ => wR_D hap cA cB σ _
  have hS : va_S (kAR ad s.heap.size) s.heap s.heap [] := va_S.rf
  have hl := lv_entry ([.ref (ad 0), .int a1, .int a2]) (n := 3) (Nat.le_of_ble_eq_true rfl)
  rw [lg_entry_eq]
  generalize (lg_sl ([.ref (ad 0), .int a1, .int a2]) ++ List.replicate (3 - (lg_sl ([.ref (ad 0), .int a1, .int a2])).length) Slot.unset).toArray = ls at hl ⊢
  have hl : lv_has ls 3 [(0, .ref (ad 0)), (1, .int a1), (2, .int a2)] := hl
  unfold Sp_R_throwing at h
  obtain ⟨G18, hG18⟩ : ∃ G : Int32 → S0 → Prop, G = fun (t1 : Int32) (σ : S0) => ∀ (H : Heap) (locs : List Loc) (ls : Array Slot), va_P D vwCl (wR ad cA cB σ) H → va_S (kAR ad s.heap.size) s.heap H locs → lv_has ls 3 [(0, .ref (ad 0))] → W p l e (headSpec (Cond.code y_R_throwing c_R_throwing 3 (some .boolean) :: wsG) ({ frames := 0, cells := 0, slots := 0, locals := 0 } : Room)).room s m ([.ref (ad 0), .int a1, .int a2] : List Value).toArray below meth c H locs 0 0 (MQ below (va_Qi post (kBR D ad cA cB) (kAR ad s.heap.size)) ([.ref (ad 0), .int a1, .int a2] : List Value).toArray s 0 0 (kAR ad s.heap.size)) (F0 m 18 ls [.int t1, .ref (ad 0)]) := ⟨_, rfl⟩
  have h := h G18
  have h := h (by
    intro t1 σ h
    rw [hG18]
    intro H locs ls hP hS hl
    refine va_put (D := D) (ci := 4) (v := .int t1) (ty := .int) (C := RX4) (T := TX4) (N := 27) hx hb htg inG_X4 tyX4 tyX4_ok nmX4 hown hK hP (hD _) hS 0 rfl rfl 0 (by decide) (htg _ m_619) (fun _ h9 => h9) rfl (by decide +kernel) rfl rfl (Nat.le_of_ble_eq_true rfl) d_R_throwing_18 (fun H locs hP _ hS => ?_)
    obtain ⟨σ1, eσ1⟩ : ∃ z : S0, z = st σ 0 0 t1 := ⟨_, rfl⟩
    have hP : va_P D vwCl (wR ad cA cB σ1) H := by rw [eσ1]; exact hP
    have h := h σ1 eσ1
    refine lv_aload_n hx hb d_R_throwing_21 rfl (lv_at hl 0 rfl) ?_
    refine va_get (D := D) (ci := 4) (v := .int (σ1 0 0)) (C := RX4) (T := TX4) (N := 27) hx hb htg inG_X4 hown hK hP 0 rfl rfl 0 (by decide) (htg _ m_619) (fun _ h9 => h9) rfl d_R_throwing_22 ?_
    refine lv_if_le (tgt := 32) hx hb d_R_throwing_25 (by decide) (fun cn => ?_) (fun cn => ?_)
    · have h := h.1 cn
      refine lv_iconst (v := 0) hx hb d_R_throwing_32 (by decide) ?_
      exact W.zret (v := 0) hx hb hr rfl (fun t ht hW => ⟨⟨_, σ1, rfl, h, kBR_of ht hP⟩, hS.F ht⟩) hS.2.2 d_R_throwing_33 hlocks
    · have h := h.2 cn
      refine lv_iconst (v := 1) hx hb d_R_throwing_28 (by decide) ?_
      refine lv_goto (tgt := 33) hx hb d_R_throwing_29 (by decide) ?_
      exact W.zret (v := 1) hx hb hr rfl (fun t ht hW => ⟨⟨_, σ1, rfl, h, kBR_of ht hP⟩, hS.F ht⟩) hS.2.2 d_R_throwing_33 hlocks)
  obtain ⟨H, eH⟩ : ∃ z, z = s.heap := ⟨_, rfl⟩
  have hP : va_P D vwCl (wR ad cA cB σ) H := by rw [eH]; exact hP
  have hS : va_S (kAR ad s.heap.size) s.heap H [] := by rw [eH]; exact hS
  show W p l e (headSpec (Cond.code y_R_throwing c_R_throwing 3 (some .boolean) :: wsG) ({ frames := 0, cells := 0, slots := 0, locals := 0 } : Room)).room s m ([.ref (ad 0), .int a1, .int a2] : List Value).toArray below meth c s.heap [] 0 0 (MQ below (va_Qi post (kBR D ad cA cB) (kAR ad s.heap.size)) ([.ref (ad 0), .int a1, .int a2] : List Value).toArray s 0 0 (kAR ad s.heap.size)) (F0 m 0 ls [])
  suffices k : W p l e (headSpec (Cond.code y_R_throwing c_R_throwing 3 (some .boolean) :: wsG) ({ frames := 0, cells := 0, slots := 0, locals := 0 } : Room)).room s m ([.ref (ad 0), .int a1, .int a2] : List Value).toArray below meth c H [] 0 0 (MQ below (va_Qi post (kBR D ad cA cB) (kAR ad s.heap.size)) ([.ref (ad 0), .int a1, .int a2] : List Value).toArray s 0 0 (kAR ad s.heap.size)) (F0 m 0 ls []) by rw [eH] at k; exact k
  refine lv_aload_n hx hb d_R_throwing_0 rfl (lv_at hl 0 rfl) ?_
  refine lv_iload_n hx hb d_R_throwing_1 rfl (lv_at hl 1 rfl) ?_
  refine lv_if_eq (tgt := 9) hx hb d_R_throwing_2 (by decide) (fun cn => ?_) (fun cn => ?_)
  · have h := h.1 cn
    refine lv_iload_n hx hb d_R_throwing_9 rfl (lv_at hl 2 rfl) ?_
    refine lv_if_eq (tgt := 17) hx hb d_R_throwing_10 (by decide) (fun cn => ?_) (fun cn => ?_)
    · have h := h.1 cn
      refine lv_iconst (v := 0) hx hb d_R_throwing_17 (by decide) ?_
      rw [hG18] at h
      exact h _ _ _ hP hS (lv_sub hl [0] rfl)
    · have h := h.2 cn
      refine lv_iconst (v := 2) hx hb d_R_throwing_13 (by decide) ?_
      refine lv_goto (tgt := 18) hx hb d_R_throwing_14 (by decide) ?_
      rw [hG18] at h
      exact h _ _ _ hP hS (lv_sub hl [0] rfl)
  · have h := h.2 cn
    refine lv_iconst (v := 1) hx hb d_R_throwing_5 (by decide) ?_
    refine lv_goto (tgt := 18) hx hb d_R_throwing_6 (by decide) ?_
    rw [hG18] at h
    exact h _ _ _ hP hS (lv_sub hl [0] rfl)
set_option maxHeartbeats 4000000 in
set_option maxRecDepth 100000 in
theorem met_R_close_6 (l : Launch) (D : va_G) (ad : Nat → Nat) (cA cB : ClassId) (hap : kapR ad) (σ : S0) (sz : Nat) (post : S0 → Prop) (h : Sp_R_close_6  σ post) : Met l y_R_close (Cond.code y_R_close c_R_close 4 none :: wsG) ({ frames := 0, cells := 0, slots := 0, locals := 0 } : Room) (kPcR D ad cA cB σ sz [.ref (ad 0), .ref (ad 6)]) (va_Qv post (kBR D ad cA cB) (kAR ad sz)) 0 0 (kAR ad sz) := by
  refine Met.ofW (cc := c_R_close) (maxL := 4) (ret := none) (by decide) rfl ?_
  intro p e s m args below meth c s₁ B hml hv
  obtain ⟨rfl, hsz, hP, hK, hF⟩ := hv
  have hx := B.exec
  have hb := B.bytes
  have hr := B.returns
  have hts := atoms_spec (ws := (Cond.code y_R_close c_R_close 4 none :: wsG)) B.pre
  have htg : ∀ w ∈ wsG, w.before ([.ref (ad 0), .ref (ad 6)] : List Value).toArray s = true := fun w h => hts w (List.mem_cons_of_mem _ h)
  have hown : s.vm.findClass RX4 = some m.cls := findClass_of_methodNamed B.named
  have hlocks := B.notSynchronized
  subst hsz
  have hD : ∀ σ, va_D (kAR ad s.heap.size) (wR ad cA cB σ) := fun σ => wR_D hap cA cB σ _
  have hS : va_S (kAR ad s.heap.size) s.heap s.heap [] := va_S.rf
  have hl := lv_entry ([.ref (ad 0), .ref (ad 6)]) (n := 4) (Nat.le_of_ble_eq_true rfl)
  rw [lg_entry_eq]
  generalize (lg_sl ([.ref (ad 0), .ref (ad 6)]) ++ List.replicate (4 - (lg_sl ([.ref (ad 0), .ref (ad 6)])).length) Slot.unset).toArray = ls at hl ⊢
  have hl : lv_has ls 4 [(0, .ref (ad 0)), (1, .ref (ad 6))] := hl
  unfold Sp_R_close_6 at h
  obtain ⟨G2, hG2⟩ : ∃ G : Int32 → S0 → Prop, G = fun (x2 : Int32) (σ : S0) => ∀ (H : Heap) (locs : List Loc) (ls : Array Slot), va_P D vwCl (wR ad cA cB σ) H → va_S (kAR ad s.heap.size) s.heap H locs → lv_has ls 4 [(1, .ref (ad 6)), (2, .int x2)] → W p l e (headSpec (Cond.code y_R_close c_R_close 4 none :: wsG) ({ frames := 0, cells := 0, slots := 0, locals := 0 } : Room)).room s m ([.ref (ad 0), .ref (ad 6)] : List Value).toArray below meth c H locs 0 0 (MQ below (va_Qv post (kBR D ad cA cB) (kAR ad s.heap.size)) ([.ref (ad 0), .ref (ad 6)] : List Value).toArray s 0 0 (kAR ad s.heap.size)) (F0 m 2 ls []) := ⟨_, rfl⟩
  obtain ⟨G10, hG10⟩ : ∃ G : Int32 → Int32 → S0 → Prop, G = fun (x2 x3 : Int32) (σ : S0) => ∀ (H : Heap) (locs : List Loc) (ls : Array Slot), va_P D vwCl (wR ad cA cB σ) H → va_S (kAR ad s.heap.size) s.heap H locs → lv_has ls 4 [(1, .ref (ad 6)), (2, .int x2), (3, .int x3)] → W p l e (headSpec (Cond.code y_R_close c_R_close 4 none :: wsG) ({ frames := 0, cells := 0, slots := 0, locals := 0 } : Room)).room s m ([.ref (ad 0), .ref (ad 6)] : List Value).toArray below meth c H locs 0 0 (MQ below (va_Qv post (kBR D ad cA cB) (kAR ad s.heap.size)) ([.ref (ad 0), .ref (ad 6)] : List Value).toArray s 0 0 (kAR ad s.heap.size)) (F0 m 10 ls []) := ⟨_, rfl⟩
  have h := h G2 G10
  have h := h (by
    intro x2 σ h
    rw [hG2]
    intro H locs ls hP hS hl
    refine lv_iload_n hx hb d_R_close_2 rfl (lv_at hl 1 rfl) ?_
    refine lv_bipush (v := 16) hx hb d_R_close_3 (by decide) ?_
    refine lv_icmp_ge (tgt := 71) hx hb d_R_close_5 (by decide) (fun cn => ?_) (fun cn => ?_)
    · have h := h.1 cn
      exact W.vret hx hb hr (fun t ht hW => ⟨⟨σ, rfl, h, kBR_of ht hP⟩, hS.F ht⟩) hS.2.2 d_R_close_71 hlocks
    · have h := h.2 cn
      refine lv_iconst (v := 0) hx hb d_R_close_8 (by decide) ?_
      refine lv_istore_n (lv' := [(3, .int 0), (1, .ref (ad 6)), (2, .int x2)]) hx hb d_R_close_9 rfl hl (by decide) rfl (fun ls hl => ?_)
      rw [hG10] at h
      exact h _ _ _ hP hS (lv_sub hl [1, 2, 0] rfl))
  have h := h (by
    intro x2 x3 σ h
    rw [hG10]
    intro H locs ls hP hS hl
    refine lv_iload_n hx hb d_R_close_10 rfl (lv_at hl 2 rfl) ?_
    refine lv_sipush (v := 256) hx hb d_R_close_11 (by decide) ?_
    refine lv_icmp_ge (tgt := 65) hx hb d_R_close_14 (by decide) (fun cn => ?_) (fun cn => ?_)
    · have h := h.1 cn
      refine lv_iinc (v := (x2 + 1)) (lv' := [(2, .int (x2 + 1)), (1, .ref (ad 6)), (3, .int x3)]) hx hb d_R_close_65 hl (k := 1) rfl rfl (by decide) rfl (fun ls hl => ?_)
      refine lv_goto (tgt := 2) hx hb d_R_close_68 (by decide) ?_
      rw [hG2] at h
      exact h _ _ _ hP hS (lv_sub hl [1, 0] rfl)
    · have h := h.2 cn
      refine lv_aload_n hx hb d_R_close_17 rfl (lv_at hl 0 rfl) ?_
      refine lv_iload_n hx hb d_R_close_18 rfl (lv_at hl 2 rfl) ?_
      refine lv_aload_n hx hb d_R_close_19 rfl (lv_at hl 0 rfl) ?_
      refine lv_iload_n hx hb d_R_close_20 rfl (lv_at hl 2 rfl) ?_
      have hi := h.1
      have h := h.2
      refine va_zald hx hb hK hP 6 1 rfl rfl hi d_R_close_21 ?_
      refine lv_if_ne (tgt := 53) hx hb d_R_close_22 (by decide) (fun cn => ?_) (fun cn => ?_)
      · have h := h.1 cn
        refine lv_iconst (v := 1) hx hb d_R_close_53 (by decide) ?_
        refine lv_goto (tgt := 58) hx hb d_R_close_54 (by decide) ?_
        have hi := h.1
        have h := h.2
        refine va_zast hx hb hK hP (hD _) hS 6 1 rfl rfl hi d_R_close_58 (fun H locs hP _ hS => ?_)
        obtain ⟨σ1, eσ1⟩ : ∃ z : S0, z = st σ 6 x3.toNatClampNeg 1 := ⟨_, rfl⟩
        have hP : va_P D vwCl (wR ad cA cB σ1) H := by rw [eσ1]; exact hP
        have h := h σ1 eσ1
        refine lv_iinc (v := (x3 + 1)) (lv' := [(3, .int (x3 + 1)), (1, .ref (ad 6)), (2, .int x2)]) hx hb d_R_close_59 hl (k := 2) rfl rfl (by decide) rfl (fun ls hl => ?_)
        refine lv_goto (tgt := 10) hx hb d_R_close_62 (by decide) ?_
        rw [hG10] at h
        exact h _ _ _ hP hS (lv_sub hl [1, 2, 0] rfl)
      · have h := h.2 cn
        refine lv_aload_n hx hb d_R_close_25 rfl (lv_at hl 0 rfl) ?_
        refine lv_iload_n hx hb d_R_close_26 rfl (lv_at hl 2 rfl) ?_
        refine lv_bipush (v := 16) hx hb d_R_close_27 (by decide) ?_
        refine lv_idiv hx hb d_R_close_29 (by decide) ?_
        refine lv_bipush (v := 16) hx hb d_R_close_30 (by decide) ?_
        refine lv_imul hx hb d_R_close_32 ?_
        refine lv_iload_n hx hb d_R_close_33 rfl (lv_at hl 1 rfl) ?_
        refine lv_iadd hx hb d_R_close_34 ?_
        have hi := h.1
        have h := h.2
        refine va_zald hx hb hK hP 6 1 rfl rfl hi d_R_close_35 ?_
        refine lv_if_eq (tgt := 57) hx hb d_R_close_36 (by decide) (fun cn => ?_) (fun cn => ?_)
        · have h := h.1 cn
          refine lv_iconst (v := 0) hx hb d_R_close_57 (by decide) ?_
          have hi := h.1
          have h := h.2
          refine va_zast hx hb hK hP (hD _) hS 6 1 rfl rfl hi d_R_close_58 (fun H locs hP _ hS => ?_)
          obtain ⟨σ2, eσ2⟩ : ∃ z : S0, z = st σ 6 x3.toNatClampNeg 0 := ⟨_, rfl⟩
          have hP : va_P D vwCl (wR ad cA cB σ2) H := by rw [eσ2]; exact hP
          have h := h σ2 eσ2
          refine lv_iinc (v := (x3 + 1)) (lv' := [(3, .int (x3 + 1)), (1, .ref (ad 6)), (2, .int x2)]) hx hb d_R_close_59 hl (k := 2) rfl rfl (by decide) rfl (fun ls hl => ?_)
          refine lv_goto (tgt := 10) hx hb d_R_close_62 (by decide) ?_
          rw [hG10] at h
          exact h _ _ _ hP hS (lv_sub hl [1, 2, 0] rfl)
        · have h := h.2 cn
          refine lv_aload_n hx hb d_R_close_39 rfl (lv_at hl 0 rfl) ?_
          refine lv_bipush (v := 16) hx hb d_R_close_40 (by decide) ?_
          refine lv_iload_n hx hb d_R_close_42 rfl (lv_at hl 1 rfl) ?_
          refine lv_imul hx hb d_R_close_43 ?_
          refine lv_iload_n hx hb d_R_close_44 rfl (lv_at hl 2 rfl) ?_
          refine lv_bipush (v := 16) hx hb d_R_close_45 (by decide) ?_
          refine lv_irem hx hb d_R_close_47 (by decide) ?_
          refine lv_iadd hx hb d_R_close_48 ?_
          have hi := h.1
          have h := h.2
          refine va_zald hx hb hK hP 6 1 rfl rfl hi d_R_close_49 ?_
          refine lv_if_eq (tgt := 57) hx hb d_R_close_50 (by decide) (fun cn => ?_) (fun cn => ?_)
          · have h := h.1 cn
            refine lv_iconst (v := 0) hx hb d_R_close_57 (by decide) ?_
            have hi := h.1
            have h := h.2
            refine va_zast hx hb hK hP (hD _) hS 6 1 rfl rfl hi d_R_close_58 (fun H locs hP _ hS => ?_)
            obtain ⟨σ3, eσ3⟩ : ∃ z : S0, z = st σ 6 x3.toNatClampNeg 0 := ⟨_, rfl⟩
            have hP : va_P D vwCl (wR ad cA cB σ3) H := by rw [eσ3]; exact hP
            have h := h σ3 eσ3
            refine lv_iinc (v := (x3 + 1)) (lv' := [(3, .int (x3 + 1)), (1, .ref (ad 6)), (2, .int x2)]) hx hb d_R_close_59 hl (k := 2) rfl rfl (by decide) rfl (fun ls hl => ?_)
            refine lv_goto (tgt := 10) hx hb d_R_close_62 (by decide) ?_
            rw [hG10] at h
            exact h _ _ _ hP hS (lv_sub hl [1, 2, 0] rfl)
          · have h := h.2 cn
            refine lv_iconst (v := 1) hx hb d_R_close_53 (by decide) ?_
            refine lv_goto (tgt := 58) hx hb d_R_close_54 (by decide) ?_
            have hi := h.1
            have h := h.2
            refine va_zast hx hb hK hP (hD _) hS 6 1 rfl rfl hi d_R_close_58 (fun H locs hP _ hS => ?_)
            obtain ⟨σ4, eσ4⟩ : ∃ z : S0, z = st σ 6 x3.toNatClampNeg 1 := ⟨_, rfl⟩
            have hP : va_P D vwCl (wR ad cA cB σ4) H := by rw [eσ4]; exact hP
            have h := h σ4 eσ4
            refine lv_iinc (v := (x3 + 1)) (lv' := [(3, .int (x3 + 1)), (1, .ref (ad 6)), (2, .int x2)]) hx hb d_R_close_59 hl (k := 2) rfl rfl (by decide) rfl (fun ls hl => ?_)
            refine lv_goto (tgt := 10) hx hb d_R_close_62 (by decide) ?_
            rw [hG10] at h
            exact h _ _ _ hP hS (lv_sub hl [1, 2, 0] rfl))
  obtain ⟨H, eH⟩ : ∃ z, z = s.heap := ⟨_, rfl⟩
  have hP : va_P D vwCl (wR ad cA cB σ) H := by rw [eH]; exact hP
  have hS : va_S (kAR ad s.heap.size) s.heap H [] := by rw [eH]; exact hS
  show W p l e (headSpec (Cond.code y_R_close c_R_close 4 none :: wsG) ({ frames := 0, cells := 0, slots := 0, locals := 0 } : Room)).room s m ([.ref (ad 0), .ref (ad 6)] : List Value).toArray below meth c s.heap [] 0 0 (MQ below (va_Qv post (kBR D ad cA cB) (kAR ad s.heap.size)) ([.ref (ad 0), .ref (ad 6)] : List Value).toArray s 0 0 (kAR ad s.heap.size)) (F0 m 0 ls [])
  suffices k : W p l e (headSpec (Cond.code y_R_close c_R_close 4 none :: wsG) ({ frames := 0, cells := 0, slots := 0, locals := 0 } : Room)).room s m ([.ref (ad 0), .ref (ad 6)] : List Value).toArray below meth c H [] 0 0 (MQ below (va_Qv post (kBR D ad cA cB) (kAR ad s.heap.size)) ([.ref (ad 0), .ref (ad 6)] : List Value).toArray s 0 0 (kAR ad s.heap.size)) (F0 m 0 ls []) by rw [eH] at k; exact k
  refine lv_iconst (v := 0) hx hb d_R_close_0 (by decide) ?_
  refine lv_istore_n (lv' := [(2, .int 0), (0, .ref (ad 0)), (1, .ref (ad 6))]) hx hb d_R_close_1 rfl hl (by decide) rfl (fun ls hl => ?_)
  rw [hG2] at h
  exact h _ _ _ hP hS (lv_sub hl [2, 0] rfl)
set_option maxHeartbeats 4000000 in
set_option maxRecDepth 100000 in
theorem met_R_findOver (l : Launch) (D : va_G) (ad : Nat → Nat) (cA cB : ClassId) (hap : kapR ad) (σ : S0) (sz : Nat) (post : S0 → Prop) (h : Sp_R_findOver  σ post) : Met l y_R_findOver (Cond.code y_R_findOver c_R_findOver 2 none :: wsG) ({ frames := 1, cells := 0, slots := 0, locals := 23 } : Room) (kPcR D ad cA cB σ sz [.ref (ad 0)]) (va_Qv post (kBR D ad cA cB) (kAR ad sz)) 0 0 (kAR ad sz) := by
  refine Met.ofW (cc := c_R_findOver) (maxL := 2) (ret := none) (by decide) rfl ?_
  intro p e s m args below meth c s₁ B hml hv
  obtain ⟨rfl, hsz, hP, hK, hF⟩ := hv
  have hx := B.exec
  have hb := B.bytes
  have hr := B.returns
  have hts := atoms_spec (ws := (Cond.code y_R_findOver c_R_findOver 2 none :: wsG)) B.pre
  have htg : ∀ w ∈ wsG, w.before ([.ref (ad 0)] : List Value).toArray s = true := fun w h => hts w (List.mem_cons_of_mem _ h)
  have hown : s.vm.findClass RX4 = some m.cls := findClass_of_methodNamed B.named
  have hlocks := B.notSynchronized
  subst hsz
  have hD : ∀ σ, va_D (kAR ad s.heap.size) (wR ad cA cB σ) := fun σ => wR_D hap cA cB σ _
  have hS : va_S (kAR ad s.heap.size) s.heap s.heap [] := va_S.rf
  have hl := lv_entry ([.ref (ad 0)]) (n := 2) (Nat.le_of_ble_eq_true rfl)
  rw [lg_entry_eq]
  generalize (lg_sl ([.ref (ad 0)]) ++ List.replicate (2 - (lg_sl ([.ref (ad 0)])).length) Slot.unset).toArray = ls at hl ⊢
  have hl : lv_has ls 2 [(0, .ref (ad 0))] := hl
  unfold Sp_R_findOver at h
  obtain ⟨G2, hG2⟩ : ∃ G : Int32 → S0 → Prop, G = fun (x1 : Int32) (σ : S0) => ∀ (H : Heap) (locs : List Loc) (ls : Array Slot), va_P D vwCl (wR ad cA cB σ) H → va_S (kAR ad s.heap.size) s.heap H locs → lv_has ls 2 [(0, .ref (ad 0)), (1, .int x1)] → W p l e (headSpec (Cond.code y_R_findOver c_R_findOver 2 none :: wsG) ({ frames := 1, cells := 0, slots := 0, locals := 23 } : Room)).room s m ([.ref (ad 0)] : List Value).toArray below meth c H locs 0 0 (MQ below (va_Qv post (kBR D ad cA cB) (kAR ad s.heap.size)) ([.ref (ad 0)] : List Value).toArray s 0 0 (kAR ad s.heap.size)) (F0 m 2 ls []) := ⟨_, rfl⟩
  obtain ⟨G24, hG24⟩ : ∃ G : Int32 → S0 → Prop, G = fun (x1 : Int32) (σ : S0) => ∀ (H : Heap) (locs : List Loc) (ls : Array Slot), va_P D vwCl (wR ad cA cB σ) H → va_S (kAR ad s.heap.size) s.heap H locs → lv_has ls 2 [(0, .ref (ad 0)), (1, .int x1)] → W p l e (headSpec (Cond.code y_R_findOver c_R_findOver 2 none :: wsG) ({ frames := 1, cells := 0, slots := 0, locals := 23 } : Room)).room s m ([.ref (ad 0)] : List Value).toArray below meth c H locs 0 0 (MQ below (va_Qv post (kBR D ad cA cB) (kAR ad s.heap.size)) ([.ref (ad 0)] : List Value).toArray s 0 0 (kAR ad s.heap.size)) (F0 m 24 ls []) := ⟨_, rfl⟩
  have h := h G2 G24
  have h := h (by
    intro x1 σ h
    rw [hG2]
    intro H locs ls hP hS hl
    refine lv_iload_n hx hb d_R_findOver_2 rfl (lv_at hl 1 rfl) ?_
    refine lv_sipush (v := 256) hx hb d_R_findOver_3 (by decide) ?_
    refine lv_icmp_ge (tgt := 22) hx hb d_R_findOver_6 (by decide) (fun cn => ?_) (fun cn => ?_)
    · have h := h.1 cn
      refine lv_iconst (v := 0) hx hb d_R_findOver_22 (by decide) ?_
      refine lv_istore_n (lv' := [(1, .int 0), (0, .ref (ad 0))]) hx hb d_R_findOver_23 rfl hl (by decide) rfl (fun ls hl => ?_)
      rw [hG24] at h
      exact h _ _ _ hP hS (lv_sub hl [1, 0] rfl)
    · have h := h.2 cn
      refine lv_aload_n hx hb d_R_findOver_9 rfl (lv_at hl 0 rfl) ?_
      refine va_get (D := D) (ci := 4) (v := .ref (ad 6)) (C := RX4) (T := TX4) (N := 27) hx hb htg inG_X4 hown hK hP 0 rfl rfl 6 (by decide) (htg _ m_625) (fun _ h9 => h9) rfl d_R_findOver_10 ?_
      refine lv_iload_n hx hb d_R_findOver_13 rfl (lv_at hl 1 rfl) ?_
      refine lv_iconst (v := 0) hx hb d_R_findOver_14 (by decide) ?_
      have hi := h.1
      have h := h.2
      refine va_zast hx hb hK hP (hD _) hS 6 1 rfl rfl hi d_R_findOver_15 (fun H locs hP _ hS => ?_)
      obtain ⟨σ1, eσ1⟩ : ∃ z : S0, z = st σ 6 x1.toNatClampNeg 0 := ⟨_, rfl⟩
      have hP : va_P D vwCl (wR ad cA cB σ1) H := by rw [eσ1]; exact hP
      have h := h σ1 eσ1
      refine lv_iinc (v := (x1 + 1)) (lv' := [(1, .int (x1 + 1)), (0, .ref (ad 0))]) hx hb d_R_findOver_16 hl (k := 1) rfl rfl (by decide) rfl (fun ls hl => ?_)
      refine lv_goto (tgt := 2) hx hb d_R_findOver_19 (by decide) ?_
      rw [hG2] at h
      exact h _ _ _ hP hS (lv_sub hl [1, 0] rfl))
  have h := h (by
    intro x1 σ h
    rw [hG24]
    intro H locs ls hP hS hl
    refine lv_iload_n hx hb d_R_findOver_24 rfl (lv_at hl 1 rfl) ?_
    refine lv_sipush (v := 256) hx hb d_R_findOver_25 (by decide) ?_
    refine lv_icmp_ge (tgt := 74) hx hb d_R_findOver_28 (by decide) (fun cn => ?_) (fun cn => ?_)
    · have h := h.1 cn
      refine lv_aload_n hx hb d_R_findOver_74 rfl (lv_at hl 0 rfl) ?_
      refine lv_aload_n hx hb d_R_findOver_75 rfl (lv_at hl 0 rfl) ?_
      refine va_get (D := D) (ci := 4) (v := .ref (ad 6)) (C := RX4) (T := TX4) (N := 27) hx hb htg inG_X4 hown hK hP 0 rfl rfl 6 (by decide) (htg _ m_625) (fun _ h9 => h9) rfl d_R_findOver_76 ?_
      refine kR_v (va_runV (As := [.ref (ad 6)]) (rest := []) ⟨hx, hb, hml, hown, htg⟩ (met_R_close_6 l D ad cA cB hap σ H.size _ h) (cwV 1 htg (kG (kG_V m_728 m_730 m_29 m_57 (kG_self m_731))) rfl rfl rfl (by decide +kernel) ⟨Nat.le_of_ble_eq_true rfl, Nat.le_of_ble_eq_true rfl⟩) (kR_preV hK hF hP hS 0 rfl rfl _) rfl rfl hl.1 rfl (lv_room (Nat.le_of_ble_eq_true rfl)) d_R_findOver_79 ⟨Nat.le_of_ble_eq_true rfl, Nat.le_of_ble_eq_true rfl⟩) hS (fun σ2 H locs h hP hS => ?_)
      exact W.vret hx hb hr (fun t ht hW => ⟨⟨σ2, rfl, h, kBR_of ht hP⟩, hS.F ht⟩) hS.2.2 d_R_findOver_82 hlocks
    · have h := h.2 cn
      refine lv_aload_n hx hb d_R_findOver_31 rfl (lv_at hl 0 rfl) ?_
      refine va_get (D := D) (ci := 4) (v := .ref (ad 1)) (C := RX4) (T := TX4) (N := 27) hx hb htg inG_X4 hown hK hP 0 rfl rfl 1 (by decide) (htg _ m_620) (fun _ h9 => h9) rfl d_R_findOver_32 ?_
      refine lv_iload_n hx hb d_R_findOver_35 rfl (lv_at hl 1 rfl) ?_
      have hi := h.1
      have h := h.2
      refine va_zald hx hb hK hP 1 1 rfl rfl hi d_R_findOver_36 ?_
      refine lv_if_eq (tgt := 68) hx hb d_R_findOver_37 (by decide) (fun cn => ?_) (fun cn => ?_)
      · have h := h.1 cn
        refine lv_iinc (v := (x1 + 1)) (lv' := [(1, .int (x1 + 1)), (0, .ref (ad 0))]) hx hb d_R_findOver_68 hl (k := 1) rfl rfl (by decide) rfl (fun ls hl => ?_)
        refine lv_goto (tgt := 24) hx hb d_R_findOver_71 (by decide) ?_
        rw [hG24] at h
        exact h _ _ _ hP hS (lv_sub hl [1, 0] rfl)
      · have h := h.2 cn
        refine lv_aload_n hx hb d_R_findOver_40 rfl (lv_at hl 0 rfl) ?_
        refine va_get (D := D) (ci := 4) (v := .ref (ad 6)) (C := RX4) (T := TX4) (N := 27) hx hb htg inG_X4 hown hK hP 0 rfl rfl 6 (by decide) (htg _ m_625) (fun _ h9 => h9) rfl d_R_findOver_41 ?_
        refine lv_bipush (v := 16) hx hb d_R_findOver_44 (by decide) ?_
        refine lv_aload_n hx hb d_R_findOver_46 rfl (lv_at hl 0 rfl) ?_
        refine va_get (D := D) (ci := 4) (v := .ref (ad 2)) (C := RX4) (T := TX4) (N := 27) hx hb htg inG_X4 hown hK hP 0 rfl rfl 2 (by decide) (htg _ m_621) (fun _ h9 => h9) rfl d_R_findOver_47 ?_
        refine lv_iload_n hx hb d_R_findOver_50 rfl (lv_at hl 1 rfl) ?_
        refine lv_bipush (v := 16) hx hb d_R_findOver_51 (by decide) ?_
        refine lv_idiv hx hb d_R_findOver_53 (by decide) ?_
        have hi := h.1
        have h := h.2
        refine va_iald hx hb hK hP 2 0 rfl rfl hi d_R_findOver_54 ?_
        refine lv_imul hx hb d_R_findOver_55 ?_
        refine lv_aload_n hx hb d_R_findOver_56 rfl (lv_at hl 0 rfl) ?_
        refine va_get (D := D) (ci := 4) (v := .ref (ad 2)) (C := RX4) (T := TX4) (N := 27) hx hb htg inG_X4 hown hK hP 0 rfl rfl 2 (by decide) (htg _ m_621) (fun _ h9 => h9) rfl d_R_findOver_57 ?_
        refine lv_iload_n hx hb d_R_findOver_60 rfl (lv_at hl 1 rfl) ?_
        refine lv_bipush (v := 16) hx hb d_R_findOver_61 (by decide) ?_
        refine lv_irem hx hb d_R_findOver_63 (by decide) ?_
        have hi := h.1
        have h := h.2
        refine va_iald hx hb hK hP 2 0 rfl rfl hi d_R_findOver_64 ?_
        refine lv_iadd hx hb d_R_findOver_65 ?_
        refine lv_iconst (v := 1) hx hb d_R_findOver_66 (by decide) ?_
        have hi := h.1
        have h := h.2
        refine va_zast hx hb hK hP (hD _) hS 6 1 rfl rfl hi d_R_findOver_67 (fun H locs hP _ hS => ?_)
        obtain ⟨σ3, eσ3⟩ : ∃ z : S0, z = st σ 6 ((16 * (σ 2 (x1 / 16).toNatClampNeg)) + (σ 2 (x1 - x1 / 16 * 16).toNatClampNeg)).toNatClampNeg 1 := ⟨_, rfl⟩
        have hP : va_P D vwCl (wR ad cA cB σ3) H := by rw [eσ3]; exact hP
        have h := h σ3 eσ3
        refine lv_iinc (v := (x1 + 1)) (lv' := [(1, .int (x1 + 1)), (0, .ref (ad 0))]) hx hb d_R_findOver_68 hl (k := 1) rfl rfl (by decide) rfl (fun ls hl => ?_)
        refine lv_goto (tgt := 24) hx hb d_R_findOver_71 (by decide) ?_
        rw [hG24] at h
        exact h _ _ _ hP hS (lv_sub hl [1, 0] rfl))
  obtain ⟨H, eH⟩ : ∃ z, z = s.heap := ⟨_, rfl⟩
  have hP : va_P D vwCl (wR ad cA cB σ) H := by rw [eH]; exact hP
  have hS : va_S (kAR ad s.heap.size) s.heap H [] := by rw [eH]; exact hS
  show W p l e (headSpec (Cond.code y_R_findOver c_R_findOver 2 none :: wsG) ({ frames := 1, cells := 0, slots := 0, locals := 23 } : Room)).room s m ([.ref (ad 0)] : List Value).toArray below meth c s.heap [] 0 0 (MQ below (va_Qv post (kBR D ad cA cB) (kAR ad s.heap.size)) ([.ref (ad 0)] : List Value).toArray s 0 0 (kAR ad s.heap.size)) (F0 m 0 ls [])
  suffices k : W p l e (headSpec (Cond.code y_R_findOver c_R_findOver 2 none :: wsG) ({ frames := 1, cells := 0, slots := 0, locals := 23 } : Room)).room s m ([.ref (ad 0)] : List Value).toArray below meth c H [] 0 0 (MQ below (va_Qv post (kBR D ad cA cB) (kAR ad s.heap.size)) ([.ref (ad 0)] : List Value).toArray s 0 0 (kAR ad s.heap.size)) (F0 m 0 ls []) by rw [eH] at k; exact k
  refine lv_iconst (v := 0) hx hb d_R_findOver_0 (by decide) ?_
  refine lv_istore_n (lv' := [(1, .int 0), (0, .ref (ad 0))]) hx hb d_R_findOver_1 rfl hl (by decide) rfl (fun ls hl => ?_)
  rw [hG2] at h
  exact h _ _ _ hP hS (lv_sub hl [1, 0] rfl)
set_option maxHeartbeats 4000000 in
set_option maxRecDepth 100000 in
theorem met_R_isOver (l : Launch) (D : va_G) (ad : Nat → Nat) (cA cB : ClassId) (hap : kapR ad) (σ : S0) (sz : Nat) (a1 a2 : Int32) (post : Int32 → S0 → Prop) (h : Sp_R_isOver a1 a2 σ post) : Met l y_R_isOver (Cond.code y_R_isOver c_R_isOver 3 (some .boolean) :: wsG) ({ frames := 2, cells := 0, slots := 0, locals := 44 } : Room) (kPcR D ad cA cB σ sz [.ref (ad 0), .int a1, .int a2]) (va_Qi post (kBR D ad cA cB) (kAR ad sz)) 0 0 (kAR ad sz) := by
  refine Met.ofW (cc := c_R_isOver) (maxL := 3) (ret := (some .boolean)) (by decide) rfl ?_
  intro p e s m args below meth c s₁ B hml hv
  obtain ⟨rfl, hsz, hP, hK, hF⟩ := hv
  have hx := B.exec
  have hb := B.bytes
  have hr := B.returns
  have hts := atoms_spec (ws := (Cond.code y_R_isOver c_R_isOver 3 (some .boolean) :: wsG)) B.pre
  have htg : ∀ w ∈ wsG, w.before ([.ref (ad 0), .int a1, .int a2] : List Value).toArray s = true := fun w h => hts w (List.mem_cons_of_mem _ h)
  have hown : s.vm.findClass RX4 = some m.cls := findClass_of_methodNamed B.named
  have hlocks := B.notSynchronized
  subst hsz
  have hD : ∀ σ, va_D (kAR ad s.heap.size) (wR ad cA cB σ) := fun σ => wR_D hap cA cB σ _
  have hS : va_S (kAR ad s.heap.size) s.heap s.heap [] := va_S.rf
  have hl := lv_entry ([.ref (ad 0), .int a1, .int a2]) (n := 3) (Nat.le_of_ble_eq_true rfl)
  rw [lg_entry_eq]
  generalize (lg_sl ([.ref (ad 0), .int a1, .int a2]) ++ List.replicate (3 - (lg_sl ([.ref (ad 0), .int a1, .int a2])).length) Slot.unset).toArray = ls at hl ⊢
  have hl : lv_has ls 3 [(0, .ref (ad 0)), (1, .int a1), (2, .int a2)] := hl
  unfold Sp_R_isOver at h
  obtain ⟨H, eH⟩ : ∃ z, z = s.heap := ⟨_, rfl⟩
  have hP : va_P D vwCl (wR ad cA cB σ) H := by rw [eH]; exact hP
  have hS : va_S (kAR ad s.heap.size) s.heap H [] := by rw [eH]; exact hS
  show W p l e (headSpec (Cond.code y_R_isOver c_R_isOver 3 (some .boolean) :: wsG) ({ frames := 2, cells := 0, slots := 0, locals := 44 } : Room)).room s m ([.ref (ad 0), .int a1, .int a2] : List Value).toArray below meth c s.heap [] 0 0 (MQ below (va_Qi post (kBR D ad cA cB) (kAR ad s.heap.size)) ([.ref (ad 0), .int a1, .int a2] : List Value).toArray s 0 0 (kAR ad s.heap.size)) (F0 m 0 ls [])
  suffices k : W p l e (headSpec (Cond.code y_R_isOver c_R_isOver 3 (some .boolean) :: wsG) ({ frames := 2, cells := 0, slots := 0, locals := 44 } : Room)).room s m ([.ref (ad 0), .int a1, .int a2] : List Value).toArray below meth c H [] 0 0 (MQ below (va_Qi post (kBR D ad cA cB) (kAR ad s.heap.size)) ([.ref (ad 0), .int a1, .int a2] : List Value).toArray s 0 0 (kAR ad s.heap.size)) (F0 m 0 ls []) by rw [eH] at k; exact k
  refine lv_aload_n hx hb d_R_isOver_0 rfl (lv_at hl 0 rfl) ?_
  refine kR_v (va_runV (As := []) (rest := []) ⟨hx, hb, hml, hown, htg⟩ (met_R_findOver l D ad cA cB hap σ H.size _ h) (cwV 0 htg (kG (kG_V m_724 m_726 m_28 m_57 (kG_self m_727))) rfl rfl rfl (by decide +kernel) ⟨Nat.le_of_ble_eq_true rfl, Nat.le_of_ble_eq_true rfl⟩) (kR_preV hK hF hP hS 0 rfl rfl _) rfl rfl hl.1 rfl (lv_room (Nat.le_of_ble_eq_true rfl)) d_R_isOver_1 ⟨Nat.le_of_ble_eq_true rfl, Nat.le_of_ble_eq_true rfl⟩) hS (fun σ1 H locs h hP hS => ?_)
  refine lv_aload_n hx hb d_R_isOver_4 rfl (lv_at hl 0 rfl) ?_
  refine va_get (D := D) (ci := 4) (v := .ref (ad 6)) (C := RX4) (T := TX4) (N := 27) hx hb htg inG_X4 hown hK hP 0 rfl rfl 6 (by decide) (htg _ m_625) (fun _ h9 => h9) rfl d_R_isOver_5 ?_
  refine lv_bipush (v := 16) hx hb d_R_isOver_8 (by decide) ?_
  refine lv_aload_n hx hb d_R_isOver_10 rfl (lv_at hl 0 rfl) ?_
  refine va_get (D := D) (ci := 4) (v := .ref (ad 2)) (C := RX4) (T := TX4) (N := 27) hx hb htg inG_X4 hown hK hP 0 rfl rfl 2 (by decide) (htg _ m_621) (fun _ h9 => h9) rfl d_R_isOver_11 ?_
  refine lv_iload_n hx hb d_R_isOver_14 rfl (lv_at hl 1 rfl) ?_
  have hi := h.1
  have h := h.2
  refine va_iald hx hb hK hP 2 0 rfl rfl hi d_R_isOver_15 ?_
  refine lv_imul hx hb d_R_isOver_16 ?_
  refine lv_aload_n hx hb d_R_isOver_17 rfl (lv_at hl 0 rfl) ?_
  refine va_get (D := D) (ci := 4) (v := .ref (ad 2)) (C := RX4) (T := TX4) (N := 27) hx hb htg inG_X4 hown hK hP 0 rfl rfl 2 (by decide) (htg _ m_621) (fun _ h9 => h9) rfl d_R_isOver_18 ?_
  refine lv_iload_n hx hb d_R_isOver_21 rfl (lv_at hl 2 rfl) ?_
  have hi := h.1
  have h := h.2
  refine va_iald hx hb hK hP 2 0 rfl rfl hi d_R_isOver_22 ?_
  refine lv_iadd hx hb d_R_isOver_23 ?_
  have hi := h.1
  have h := h.2
  refine va_zald hx hb hK hP 6 1 rfl rfl hi d_R_isOver_24 ?_
  have hi := h.1
  have h := h.2
  exact W.zret (v := (σ1 6 ((16 * (σ1 2 a1.toNatClampNeg)) + (σ1 2 a2.toNatClampNeg)).toNatClampNeg)) hx hb hr (bo_n hi) (fun t ht hW => ⟨⟨_, σ1, rfl, h, kBR_of ht hP⟩, hS.F ht⟩) hS.2.2 d_R_isOver_25 hlocks
set_option maxHeartbeats 4000000 in
set_option maxRecDepth 100000 in
theorem met_R_name (l : Launch) (D : va_G) (ad : Nat → Nat) (cA cB : ClassId) (hap : kapR ad) (σ : S0) (sz : Nat) (a1 a2 : Int32) (post : S0 → Prop) (h : Sp_R_name a1 a2 σ post) : Met l y_R_name (Cond.code y_R_name c_R_name 3 none :: wsG) ({ frames := 0, cells := 0, slots := 0, locals := 0 } : Room) (kPcR D ad cA cB σ sz [.ref (ad 0), .int a1, .int a2]) (va_Qv post (kBR D ad cA cB) (kAR ad sz)) 0 0 (kAR ad sz) := by
  refine Met.ofW (cc := c_R_name) (maxL := 3) (ret := none) (by decide) rfl ?_
  intro p e s m args below meth c s₁ B hml hv
  obtain ⟨rfl, hsz, hP, hK, hF⟩ := hv
  have hx := B.exec
  have hb := B.bytes
  have hr := B.returns
  have hts := atoms_spec (ws := (Cond.code y_R_name c_R_name 3 none :: wsG)) B.pre
  have htg : ∀ w ∈ wsG, w.before ([.ref (ad 0), .int a1, .int a2] : List Value).toArray s = true := fun w h => hts w (List.mem_cons_of_mem _ h)
  have hown : s.vm.findClass RX4 = some m.cls := findClass_of_methodNamed B.named
  have hlocks := B.notSynchronized
  subst hsz
  have hD : ∀ σ, va_D (kAR ad s.heap.size) (wR ad cA cB σ) := fun σ => wR_D hap cA cB σ _
  have hS : va_S (kAR ad s.heap.size) s.heap s.heap [] := va_S.rf
  have hl := lv_entry ([.ref (ad 0), .int a1, .int a2]) (n := 3) (Nat.le_of_ble_eq_true rfl)
  rw [lg_entry_eq]
  generalize (lg_sl ([.ref (ad 0), .int a1, .int a2]) ++ List.replicate (3 - (lg_sl ([.ref (ad 0), .int a1, .int a2])).length) Slot.unset).toArray = ls at hl ⊢
  have hl : lv_has ls 3 [(0, .ref (ad 0)), (1, .int a1), (2, .int a2)] := hl
  unfold Sp_R_name at h
  obtain ⟨H, eH⟩ : ∃ z, z = s.heap := ⟨_, rfl⟩
  have hP : va_P D vwCl (wR ad cA cB σ) H := by rw [eH]; exact hP
  have hS : va_S (kAR ad s.heap.size) s.heap H [] := by rw [eH]; exact hS
  show W p l e (headSpec (Cond.code y_R_name c_R_name 3 none :: wsG) ({ frames := 0, cells := 0, slots := 0, locals := 0 } : Room)).room s m ([.ref (ad 0), .int a1, .int a2] : List Value).toArray below meth c s.heap [] 0 0 (MQ below (va_Qv post (kBR D ad cA cB) (kAR ad s.heap.size)) ([.ref (ad 0), .int a1, .int a2] : List Value).toArray s 0 0 (kAR ad s.heap.size)) (F0 m 0 ls [])
  suffices k : W p l e (headSpec (Cond.code y_R_name c_R_name 3 none :: wsG) ({ frames := 0, cells := 0, slots := 0, locals := 0 } : Room)).room s m ([.ref (ad 0), .int a1, .int a2] : List Value).toArray below meth c H [] 0 0 (MQ below (va_Qv post (kBR D ad cA cB) (kAR ad s.heap.size)) ([.ref (ad 0), .int a1, .int a2] : List Value).toArray s 0 0 (kAR ad s.heap.size)) (F0 m 0 ls []) by rw [eH] at k; exact k
  refine lv_aload_n hx hb d_R_name_0 rfl (lv_at hl 0 rfl) ?_
  refine va_get (D := D) (ci := 4) (v := .ref (ad 5)) (C := RX4) (T := TX4) (N := 27) hx hb htg inG_X4 hown hK hP 0 rfl rfl 5 (by decide) (htg _ m_624) (fun _ h9 => h9) rfl d_R_name_1 ?_
  refine lv_iload_n hx hb d_R_name_4 rfl (lv_at hl 1 rfl) ?_
  refine lv_iconst (v := 1) hx hb d_R_name_5 (by decide) ?_
  have hi := h.1
  have h := h.2
  refine va_zast hx hb hK hP (hD _) hS 5 1 rfl rfl hi d_R_name_6 (fun H locs hP _ hS => ?_)
  obtain ⟨σ1, eσ1⟩ : ∃ z : S0, z = st σ 5 a1.toNatClampNeg 1 := ⟨_, rfl⟩
  have hP : va_P D vwCl (wR ad cA cB σ1) H := by rw [eσ1]; exact hP
  have h := h σ1 eσ1
  refine lv_aload_n hx hb d_R_name_7 rfl (lv_at hl 0 rfl) ?_
  refine va_get (D := D) (ci := 4) (v := .ref (ad 5)) (C := RX4) (T := TX4) (N := 27) hx hb htg inG_X4 hown hK hP 0 rfl rfl 5 (by decide) (htg _ m_624) (fun _ h9 => h9) rfl d_R_name_8 ?_
  refine lv_iload_n hx hb d_R_name_11 rfl (lv_at hl 2 rfl) ?_
  refine lv_iconst (v := 1) hx hb d_R_name_12 (by decide) ?_
  have hi := h.1
  have h := h.2
  refine va_zast hx hb hK hP (hD _) hS 5 1 rfl rfl hi d_R_name_13 (fun H locs hP _ hS => ?_)
  obtain ⟨σ2, eσ2⟩ : ∃ z : S0, z = st σ1 5 a2.toNatClampNeg 1 := ⟨_, rfl⟩
  have hP : va_P D vwCl (wR ad cA cB σ2) H := by rw [eσ2]; exact hP
  have h := h σ2 eσ2
  refine lv_aload_n hx hb d_R_name_14 rfl (lv_at hl 0 rfl) ?_
  refine lv_iconst (v := 0) hx hb d_R_name_15 (by decide) ?_
  refine va_put (D := D) (ci := 4) (v := .int 0) (ty := .boolean) (C := RX4) (T := TX4) (N := 27) hx hb htg inG_X4 tyX4 tyX4_ok nmX4 hown hK hP (hD _) hS 0 rfl rfl 8 (by decide) (htg _ m_627) (fun _ h9 => h9) rfl (by decide +kernel) rfl rfl (Nat.le_of_ble_eq_true rfl) d_R_name_16 (fun H locs hP _ hS => ?_)
  obtain ⟨σ3, eσ3⟩ : ∃ z : S0, z = st σ2 0 1 0 := ⟨_, rfl⟩
  have hP : va_P D vwCl (wR ad cA cB σ3) H := by rw [eσ3]; exact hP
  have h := h σ3 eσ3
  exact W.vret hx hb hr (fun t ht hW => ⟨⟨σ3, rfl, h, kBR_of ht hP⟩, hS.F ht⟩) hS.2.2 d_R_name_19 hlocks
set_option maxHeartbeats 4000000 in
set_option maxRecDepth 100000 in
theorem met_R_above (l : Launch) (D : va_G) (ad : Nat → Nat) (cA cB : ClassId) (hap : kapR ad) (σ : S0) (sz : Nat) (a1 a2 : Int32) (post : Int32 → S0 → Prop) (h : Sp_R_above a1 a2 σ post) : Met l y_R_above (Cond.code y_R_above c_R_above 3 (some .int) :: wsG) ({ frames := 3, cells := 0, slots := 0, locals := 66 } : Room) (kPcR D ad cA cB σ sz [.ref (ad 0), .int a1, .int a2]) (va_Qi post (kBR D ad cA cB) (kAR ad sz)) 0 0 (kAR ad sz) := by
  refine Met.ofW (cc := c_R_above) (maxL := 3) (ret := (some .int)) (by decide) rfl ?_
  intro p e s m args below meth c s₁ B hml hv
  obtain ⟨rfl, hsz, hP, hK, hF⟩ := hv
  have hx := B.exec
  have hb := B.bytes
  have hr := B.returns
  have hts := atoms_spec (ws := (Cond.code y_R_above c_R_above 3 (some .int) :: wsG)) B.pre
  have htg : ∀ w ∈ wsG, w.before ([.ref (ad 0), .int a1, .int a2] : List Value).toArray s = true := fun w h => hts w (List.mem_cons_of_mem _ h)
  have hown : s.vm.findClass RX4 = some m.cls := findClass_of_methodNamed B.named
  have hlocks := B.notSynchronized
  subst hsz
  have hD : ∀ σ, va_D (kAR ad s.heap.size) (wR ad cA cB σ) := fun σ => wR_D hap cA cB σ _
  have hS : va_S (kAR ad s.heap.size) s.heap s.heap [] := va_S.rf
  have hl := lv_entry ([.ref (ad 0), .int a1, .int a2]) (n := 3) (Nat.le_of_ble_eq_true rfl)
  rw [lg_entry_eq]
  generalize (lg_sl ([.ref (ad 0), .int a1, .int a2]) ++ List.replicate (3 - (lg_sl ([.ref (ad 0), .int a1, .int a2])).length) Slot.unset).toArray = ls at hl ⊢
  have hl : lv_has ls 3 [(0, .ref (ad 0)), (1, .int a1), (2, .int a2)] := hl
  unfold Sp_R_above at h
  obtain ⟨G20, hG20⟩ : ∃ G : Int32 → Int32 → Int32 → S0 → Prop, G = fun (x1 x2 t1 : Int32) (σ : S0) => ∀ (H : Heap) (locs : List Loc) (ls : Array Slot), va_P D vwCl (wR ad cA cB σ) H → va_S (kAR ad s.heap.size) s.heap H locs → lv_has ls 3 [(0, .ref (ad 0)), (1, .int x1), (2, .int x2)] → W p l e (headSpec (Cond.code y_R_above c_R_above 3 (some .int) :: wsG) ({ frames := 3, cells := 0, slots := 0, locals := 66 } : Room)).room s m ([.ref (ad 0), .int a1, .int a2] : List Value).toArray below meth c H locs 0 0 (MQ below (va_Qi post (kBR D ad cA cB) (kAR ad s.heap.size)) ([.ref (ad 0), .int a1, .int a2] : List Value).toArray s 0 0 (kAR ad s.heap.size)) (F0 m 20 ls [.int t1, .ref (ad 0)]) := ⟨_, rfl⟩
  have h := h G20
  have h := h (by
    intro x1 x2 t1 σ h
    rw [hG20]
    intro H locs ls hP hS hl
    refine lv_iconst (v := 0) hx hb d_R_above_20 (by decide) ?_
    refine kR_i (va_runV (As := [.int t1, .int 0]) (rest := []) ⟨hx, hb, hml, hown, htg⟩ (met_R_throwing l D ad cA cB hap σ H.size t1 0 _ h) (cwV 2 htg (kG (kG_V m_716 m_718 m_26 m_57 (kG_self m_719))) rfl rfl rfl (by decide +kernel) ⟨Nat.le_of_ble_eq_true rfl, Nat.le_of_ble_eq_true rfl⟩) (kR_preV hK hF hP hS 0 rfl rfl _) rfl rfl hl.1 rfl (lv_room (Nat.le_of_ble_eq_true rfl)) d_R_above_21 ⟨Nat.le_of_ble_eq_true rfl, Nat.le_of_ble_eq_true rfl⟩) hS (fun r6 σ5 H locs h hP hS => ?_)
    refine lv_if_eq (tgt := 29) hx hb d_R_above_24 (by decide) (fun cn => ?_) (fun cn => ?_)
    · have h := h.1 cn
      refine lv_aload_n hx hb d_R_above_29 rfl (lv_at hl 0 rfl) ?_
      refine va_get (D := D) (ci := 4) (v := .ref (ad 1)) (C := RX4) (T := TX4) (N := 27) hx hb htg inG_X4 hown hK hP 0 rfl rfl 1 (by decide) (htg _ m_620) (fun _ h9 => h9) rfl d_R_above_30 ?_
      refine lv_bipush (v := 16) hx hb d_R_above_33 (by decide) ?_
      refine lv_iload_n hx hb d_R_above_35 rfl (lv_at hl 1 rfl) ?_
      refine lv_imul hx hb d_R_above_36 ?_
      refine lv_iload_n hx hb d_R_above_37 rfl (lv_at hl 2 rfl) ?_
      refine lv_iadd hx hb d_R_above_38 ?_
      have hi := h.1
      have h := h.2
      refine va_zald hx hb hK hP 1 1 rfl rfl hi d_R_above_39 ?_
      refine lv_if_eq (tgt := 45) hx hb d_R_above_40 (by decide) (fun cn => ?_) (fun cn => ?_)
      · have h := h.1 cn
        refine lv_aload_n hx hb d_R_above_45 rfl (lv_at hl 0 rfl) ?_
        refine va_get (D := D) (ci := 4) (v := .ref (ad 2)) (C := RX4) (T := TX4) (N := 27) hx hb htg inG_X4 hown hK hP 0 rfl rfl 2 (by decide) (htg _ m_621) (fun _ h9 => h9) rfl d_R_above_46 ?_
        refine lv_iload_n hx hb d_R_above_49 rfl (lv_at hl 1 rfl) ?_
        have hi := h.1
        have h := h.2
        refine va_iald hx hb hK hP 2 0 rfl rfl hi d_R_above_50 ?_
        refine lv_aload_n hx hb d_R_above_51 rfl (lv_at hl 0 rfl) ?_
        refine va_get (D := D) (ci := 4) (v := .ref (ad 2)) (C := RX4) (T := TX4) (N := 27) hx hb htg inG_X4 hown hK hP 0 rfl rfl 2 (by decide) (htg _ m_621) (fun _ h9 => h9) rfl d_R_above_52 ?_
        refine lv_iload_n hx hb d_R_above_55 rfl (lv_at hl 2 rfl) ?_
        have hi := h.1
        have h := h.2
        refine va_iald hx hb hK hP 2 0 rfl rfl hi d_R_above_56 ?_
        refine lv_icmp_eq (tgt := 69) hx hb d_R_above_57 (by decide) (fun cn => ?_) (fun cn => ?_)
        · have h := h.1 cn
          refine lv_iconst (v := (-1)) hx hb d_R_above_69 (by decide) ?_
          exact W.iret (v := (-1)) hx hb hr (fun t ht hW => ⟨⟨_, σ5, rfl, h, kBR_of ht hP⟩, hS.F ht⟩) hS.2.2 d_R_above_70 hlocks
        · have h := h.2 cn
          refine lv_aload_n hx hb d_R_above_60 rfl (lv_at hl 0 rfl) ?_
          refine lv_iload_n hx hb d_R_above_61 rfl (lv_at hl 2 rfl) ?_
          refine lv_iload_n hx hb d_R_above_62 rfl (lv_at hl 1 rfl) ?_
          refine kR_i (va_runV (As := [.int x2, .int x1]) (rest := []) ⟨hx, hb, hml, hown, htg⟩ (met_R_isOver l D ad cA cB hap σ5 H.size x2 x1 _ h) (cwV 2 htg (kG (kG_V m_720 m_722 m_27 m_57 (kG_self m_723))) rfl rfl rfl (by decide +kernel) ⟨Nat.le_of_ble_eq_true rfl, Nat.le_of_ble_eq_true rfl⟩) (kR_preV hK hF hP hS 0 rfl rfl _) rfl rfl hl.1 rfl (lv_room (Nat.le_of_ble_eq_true rfl)) d_R_above_63 ⟨Nat.le_of_ble_eq_true rfl, Nat.le_of_ble_eq_true rfl⟩) hS (fun r8 σ7 H locs h hP hS => ?_)
          refine lv_if_eq (tgt := 71) hx hb d_R_above_66 (by decide) (fun cn => ?_) (fun cn => ?_)
          · have h := h.1 cn
            refine lv_aload_n hx hb d_R_above_71 rfl (lv_at hl 0 rfl) ?_
            refine va_get (D := D) (ci := 4) (v := .ref (ad 1)) (C := RX4) (T := TX4) (N := 27) hx hb htg inG_X4 hown hK hP 0 rfl rfl 1 (by decide) (htg _ m_620) (fun _ h9 => h9) rfl d_R_above_72 ?_
            refine lv_bipush (v := 16) hx hb d_R_above_75 (by decide) ?_
            refine lv_iload_n hx hb d_R_above_77 rfl (lv_at hl 1 rfl) ?_
            refine lv_imul hx hb d_R_above_78 ?_
            refine lv_iload_n hx hb d_R_above_79 rfl (lv_at hl 2 rfl) ?_
            refine lv_iadd hx hb d_R_above_80 ?_
            refine lv_iconst (v := 1) hx hb d_R_above_81 (by decide) ?_
            have hi := h.1
            have h := h.2
            refine va_zast hx hb hK hP (hD _) hS 1 1 rfl rfl hi d_R_above_82 (fun H locs hP _ hS => ?_)
            obtain ⟨σ9, eσ9⟩ : ∃ z : S0, z = st σ7 1 ((16 * x1) + x2).toNatClampNeg 1 := ⟨_, rfl⟩
            have hP : va_P D vwCl (wR ad cA cB σ9) H := by rw [eσ9]; exact hP
            have h := h σ9 eσ9
            refine lv_aload_n hx hb d_R_above_83 rfl (lv_at hl 0 rfl) ?_
            refine lv_iload_n hx hb d_R_above_84 rfl (lv_at hl 1 rfl) ?_
            refine lv_iload_n hx hb d_R_above_85 rfl (lv_at hl 2 rfl) ?_
            refine kR_v (va_runV (As := [.int x1, .int x2]) (rest := []) ⟨hx, hb, hml, hown, htg⟩ (met_R_name l D ad cA cB hap σ9 H.size x1 x2 _ h) (cwV 2 htg (kG (kG_V m_732 m_734 m_30 m_57 (kG_self m_735))) rfl rfl rfl (by decide +kernel) ⟨Nat.le_of_ble_eq_true rfl, Nat.le_of_ble_eq_true rfl⟩) (kR_preV hK hF hP hS 0 rfl rfl _) rfl rfl hl.1 rfl (lv_room (Nat.le_of_ble_eq_true rfl)) d_R_above_86 ⟨Nat.le_of_ble_eq_true rfl, Nat.le_of_ble_eq_true rfl⟩) hS (fun σ10 H locs h hP hS => ?_)
            refine lv_iconst (v := 1) hx hb d_R_above_89 (by decide) ?_
            exact W.iret (v := 1) hx hb hr (fun t ht hW => ⟨⟨_, σ10, rfl, h, kBR_of ht hP⟩, hS.F ht⟩) hS.2.2 d_R_above_90 hlocks
          · have h := h.2 cn
            refine lv_iconst (v := (-1)) hx hb d_R_above_69 (by decide) ?_
            exact W.iret (v := (-1)) hx hb hr (fun t ht hW => ⟨⟨_, σ7, rfl, h, kBR_of ht hP⟩, hS.F ht⟩) hS.2.2 d_R_above_70 hlocks
      · have h := h.2 cn
        refine lv_iconst (v := 0) hx hb d_R_above_43 (by decide) ?_
        exact W.iret (v := 0) hx hb hr (fun t ht hW => ⟨⟨_, σ5, rfl, h, kBR_of ht hP⟩, hS.F ht⟩) hS.2.2 d_R_above_44 hlocks
    · have h := h.2 cn
      refine lv_iconst (v := 0) hx hb d_R_above_27 (by decide) ?_
      exact W.iret (v := 0) hx hb hr (fun t ht hW => ⟨⟨_, σ5, rfl, h, kBR_of ht hP⟩, hS.F ht⟩) hS.2.2 d_R_above_28 hlocks)
  obtain ⟨H, eH⟩ : ∃ z, z = s.heap := ⟨_, rfl⟩
  have hP : va_P D vwCl (wR ad cA cB σ) H := by rw [eH]; exact hP
  have hS : va_S (kAR ad s.heap.size) s.heap H [] := by rw [eH]; exact hS
  show W p l e (headSpec (Cond.code y_R_above c_R_above 3 (some .int) :: wsG) ({ frames := 3, cells := 0, slots := 0, locals := 66 } : Room)).room s m ([.ref (ad 0), .int a1, .int a2] : List Value).toArray below meth c s.heap [] 0 0 (MQ below (va_Qi post (kBR D ad cA cB) (kAR ad s.heap.size)) ([.ref (ad 0), .int a1, .int a2] : List Value).toArray s 0 0 (kAR ad s.heap.size)) (F0 m 0 ls [])
  suffices k : W p l e (headSpec (Cond.code y_R_above c_R_above 3 (some .int) :: wsG) ({ frames := 3, cells := 0, slots := 0, locals := 66 } : Room)).room s m ([.ref (ad 0), .int a1, .int a2] : List Value).toArray below meth c H [] 0 0 (MQ below (va_Qi post (kBR D ad cA cB) (kAR ad s.heap.size)) ([.ref (ad 0), .int a1, .int a2] : List Value).toArray s 0 0 (kAR ad s.heap.size)) (F0 m 0 ls []) by rw [eH] at k; exact k
  refine lv_aload_n hx hb d_R_above_0 rfl (lv_at hl 0 rfl) ?_
  refine lv_iload_n hx hb d_R_above_1 rfl (lv_at hl 1 rfl) ?_
  refine kR_i (va_runS (As := [.int a1]) (rest := [.ref (ad 0)]) ⟨hx, hb, hml, hown, htg⟩ (met_R_isContext l D ad cA cB hap σ H.size a1 _ h) (cwS 1 htg (kG (kG_S m_710 m_711 m_57 (kG_self m_712))) rfl rfl rfl (by decide +kernel) ⟨Nat.le_of_ble_eq_true rfl, Nat.le_of_ble_eq_true rfl⟩) (kR_pre hK hF hP hS _) rfl rfl hl.1 rfl (lv_room (Nat.le_of_ble_eq_true rfl)) d_R_above_2 ⟨Nat.le_of_ble_eq_true rfl, Nat.le_of_ble_eq_true rfl⟩) hS (fun r2 σ1 H locs h hP hS => ?_)
  refine lv_if_eq (tgt := 15) hx hb d_R_above_5 (by decide) (fun cn => ?_) (fun cn => ?_)
  · have h := h.1 cn
    refine lv_iconst (v := 1) hx hb d_R_above_15 (by decide) ?_
    refine lv_goto (tgt := 20) hx hb d_R_above_16 (by decide) ?_
    rw [hG20] at h
    exact h _ _ _ hP hS (lv_sub hl [0, 1, 2] rfl)
  · have h := h.2 cn
    refine lv_iload_n hx hb d_R_above_8 rfl (lv_at hl 2 rfl) ?_
    refine kR_i (va_runS (As := [.int a2]) (rest := [.ref (ad 0)]) ⟨hx, hb, hml, hown, htg⟩ (met_R_isContext l D ad cA cB hap σ1 H.size a2 _ h) (cwS 1 htg (kG (kG_S m_710 m_711 m_57 (kG_self m_712))) rfl rfl rfl (by decide +kernel) ⟨Nat.le_of_ble_eq_true rfl, Nat.le_of_ble_eq_true rfl⟩) (kR_pre hK hF hP hS _) rfl rfl hl.1 rfl (lv_room (Nat.le_of_ble_eq_true rfl)) d_R_above_9 ⟨Nat.le_of_ble_eq_true rfl, Nat.le_of_ble_eq_true rfl⟩) hS (fun r4 σ3 H locs h hP hS => ?_)
    refine lv_if_ne (tgt := 19) hx hb d_R_above_12 (by decide) (fun cn => ?_) (fun cn => ?_)
    · have h := h.1 cn
      refine lv_iconst (v := 0) hx hb d_R_above_19 (by decide) ?_
      rw [hG20] at h
      exact h _ _ _ hP hS (lv_sub hl [0, 1, 2] rfl)
    · have h := h.2 cn
      refine lv_iconst (v := 1) hx hb d_R_above_15 (by decide) ?_
      refine lv_goto (tgt := 20) hx hb d_R_above_16 (by decide) ?_
      rw [hG20] at h
      exact h _ _ _ hP hS (lv_sub hl [0, 1, 2] rfl)
set_option maxHeartbeats 4000000 in
set_option maxRecDepth 100000 in
theorem met_R_same (l : Launch) (D : va_G) (ad : Nat → Nat) (cA cB : ClassId) (hap : kapR ad) (σ : S0) (sz : Nat) (a1 a2 : Int32) (post : Int32 → S0 → Prop) (h : Sp_R_same a1 a2 σ post) : Met l y_R_same (Cond.code y_R_same c_R_same 7 (some .int) :: wsG) ({ frames := 3, cells := 0, slots := 0, locals := 66 } : Room) (kPcR D ad cA cB σ sz [.ref (ad 0), .int a1, .int a2]) (va_Qi post (kBR D ad cA cB) (kAR ad sz)) 0 0 (kAR ad sz) := by
  refine Met.ofW (cc := c_R_same) (maxL := 7) (ret := (some .int)) (by decide) rfl ?_
  intro p e s m args below meth c s₁ B hml hv
  obtain ⟨rfl, hsz, hP, hK, hF⟩ := hv
  have hx := B.exec
  have hb := B.bytes
  have hr := B.returns
  have hts := atoms_spec (ws := (Cond.code y_R_same c_R_same 7 (some .int) :: wsG)) B.pre
  have htg : ∀ w ∈ wsG, w.before ([.ref (ad 0), .int a1, .int a2] : List Value).toArray s = true := fun w h => hts w (List.mem_cons_of_mem _ h)
  have hown : s.vm.findClass RX4 = some m.cls := findClass_of_methodNamed B.named
  have hlocks := B.notSynchronized
  subst hsz
  have hD : ∀ σ, va_D (kAR ad s.heap.size) (wR ad cA cB σ) := fun σ => wR_D hap cA cB σ _
  have hS : va_S (kAR ad s.heap.size) s.heap s.heap [] := va_S.rf
  have hl := lv_entry ([.ref (ad 0), .int a1, .int a2]) (n := 7) (Nat.le_of_ble_eq_true rfl)
  rw [lg_entry_eq]
  generalize (lg_sl ([.ref (ad 0), .int a1, .int a2]) ++ List.replicate (7 - (lg_sl ([.ref (ad 0), .int a1, .int a2])).length) Slot.unset).toArray = ls at hl ⊢
  have hl : lv_has ls 7 [(0, .ref (ad 0)), (1, .int a1), (2, .int a2)] := hl
  unfold Sp_R_same at h
  obtain ⟨G20, hG20⟩ : ∃ G : Int32 → Int32 → Int32 → S0 → Prop, G = fun (x1 x2 t1 : Int32) (σ : S0) => ∀ (H : Heap) (locs : List Loc) (ls : Array Slot), va_P D vwCl (wR ad cA cB σ) H → va_S (kAR ad s.heap.size) s.heap H locs → lv_has ls 7 [(0, .ref (ad 0)), (1, .int x1), (2, .int x2)] → W p l e (headSpec (Cond.code y_R_same c_R_same 7 (some .int) :: wsG) ({ frames := 3, cells := 0, slots := 0, locals := 66 } : Room)).room s m ([.ref (ad 0), .int a1, .int a2] : List Value).toArray below meth c H locs 0 0 (MQ below (va_Qi post (kBR D ad cA cB) (kAR ad s.heap.size)) ([.ref (ad 0), .int a1, .int a2] : List Value).toArray s 0 0 (kAR ad s.heap.size)) (F0 m 20 ls [.int t1, .ref (ad 0)]) := ⟨_, rfl⟩
  obtain ⟨G93, hG93⟩ : ∃ G : Int32 → Int32 → Int32 → Int32 → Int32 → S0 → Prop, G = fun (x1 x2 x3 x4 t0 : Int32) (σ : S0) => ∀ (H : Heap) (locs : List Loc) (ls : Array Slot), va_P D vwCl (wR ad cA cB σ) H → va_S (kAR ad s.heap.size) s.heap H locs → lv_has ls 7 [(0, .ref (ad 0)), (1, .int x1), (2, .int x2), (3, .int x3), (4, .int x4)] → W p l e (headSpec (Cond.code y_R_same c_R_same 7 (some .int) :: wsG) ({ frames := 3, cells := 0, slots := 0, locals := 66 } : Room)).room s m ([.ref (ad 0), .int a1, .int a2] : List Value).toArray below meth c H locs 0 0 (MQ below (va_Qi post (kBR D ad cA cB) (kAR ad s.heap.size)) ([.ref (ad 0), .int a1, .int a2] : List Value).toArray s 0 0 (kAR ad s.heap.size)) (F0 m 93 ls [.int t0]) := ⟨_, rfl⟩
  obtain ⟨G98, hG98⟩ : ∃ G : Int32 → Int32 → Int32 → Int32 → Int32 → Int32 → S0 → Prop, G = fun (x1 x2 x3 x4 x5 x6 : Int32) (σ : S0) => ∀ (H : Heap) (locs : List Loc) (ls : Array Slot), va_P D vwCl (wR ad cA cB σ) H → va_S (kAR ad s.heap.size) s.heap H locs → lv_has ls 7 [(0, .ref (ad 0)), (1, .int x1), (2, .int x2), (3, .int x3), (4, .int x4), (5, .int x5), (6, .int x6)] → W p l e (headSpec (Cond.code y_R_same c_R_same 7 (some .int) :: wsG) ({ frames := 3, cells := 0, slots := 0, locals := 66 } : Room)).room s m ([.ref (ad 0), .int a1, .int a2] : List Value).toArray below meth c H locs 0 0 (MQ below (va_Qi post (kBR D ad cA cB) (kAR ad s.heap.size)) ([.ref (ad 0), .int a1, .int a2] : List Value).toArray s 0 0 (kAR ad s.heap.size)) (F0 m 98 ls []) := ⟨_, rfl⟩
  obtain ⟨G128, hG128⟩ : ∃ G : Int32 → Int32 → Int32 → Int32 → Int32 → Int32 → S0 → Prop, G = fun (x1 x2 x3 x4 x5 x6 : Int32) (σ : S0) => ∀ (H : Heap) (locs : List Loc) (ls : Array Slot), va_P D vwCl (wR ad cA cB σ) H → va_S (kAR ad s.heap.size) s.heap H locs → lv_has ls 7 [(0, .ref (ad 0)), (1, .int x1), (2, .int x2), (3, .int x3), (4, .int x4), (5, .int x5), (6, .int x6)] → W p l e (headSpec (Cond.code y_R_same c_R_same 7 (some .int) :: wsG) ({ frames := 3, cells := 0, slots := 0, locals := 66 } : Room)).room s m ([.ref (ad 0), .int a1, .int a2] : List Value).toArray below meth c H locs 0 0 (MQ below (va_Qi post (kBR D ad cA cB) (kAR ad s.heap.size)) ([.ref (ad 0), .int a1, .int a2] : List Value).toArray s 0 0 (kAR ad s.heap.size)) (F0 m 128 ls []) := ⟨_, rfl⟩
  have h := h G20 G93 G98 G128
  have h := h (by
    intro x1 x2 t1 σ h
    rw [hG20]
    intro H locs ls hP hS hl
    refine lv_iconst (v := 0) hx hb d_R_same_20 (by decide) ?_
    refine kR_i (va_runV (As := [.int t1, .int 0]) (rest := []) ⟨hx, hb, hml, hown, htg⟩ (met_R_throwing l D ad cA cB hap σ H.size t1 0 _ h) (cwV 2 htg (kG (kG_V m_716 m_718 m_26 m_57 (kG_self m_719))) rfl rfl rfl (by decide +kernel) ⟨Nat.le_of_ble_eq_true rfl, Nat.le_of_ble_eq_true rfl⟩) (kR_preV hK hF hP hS 0 rfl rfl _) rfl rfl hl.1 rfl (lv_room (Nat.le_of_ble_eq_true rfl)) d_R_same_21 ⟨Nat.le_of_ble_eq_true rfl, Nat.le_of_ble_eq_true rfl⟩) hS (fun r6 σ5 H locs h hP hS => ?_)
    refine lv_if_eq (tgt := 29) hx hb d_R_same_24 (by decide) (fun cn => ?_) (fun cn => ?_)
    · have h := h.1 cn
      refine lv_aload_n hx hb d_R_same_29 rfl (lv_at hl 0 rfl) ?_
      refine va_get (D := D) (ci := 4) (v := .ref (ad 2)) (C := RX4) (T := TX4) (N := 27) hx hb htg inG_X4 hown hK hP 0 rfl rfl 2 (by decide) (htg _ m_621) (fun _ h9 => h9) rfl d_R_same_30 ?_
      refine lv_iload_n hx hb d_R_same_33 rfl (lv_at hl 1 rfl) ?_
      have hi := h.1
      have h := h.2
      refine va_iald hx hb hK hP 2 0 rfl rfl hi d_R_same_34 ?_
      refine lv_aload_n hx hb d_R_same_35 rfl (lv_at hl 0 rfl) ?_
      refine va_get (D := D) (ci := 4) (v := .ref (ad 2)) (C := RX4) (T := TX4) (N := 27) hx hb htg inG_X4 hown hK hP 0 rfl rfl 2 (by decide) (htg _ m_621) (fun _ h9 => h9) rfl d_R_same_36 ?_
      refine lv_iload_n hx hb d_R_same_39 rfl (lv_at hl 2 rfl) ?_
      have hi := h.1
      have h := h.2
      refine va_iald hx hb hK hP 2 0 rfl rfl hi d_R_same_40 ?_
      refine lv_icmp_ne (tgt := 46) hx hb d_R_same_41 (by decide) (fun cn => ?_) (fun cn => ?_)
      · have h := h.1 cn
        refine lv_aload_n hx hb d_R_same_46 rfl (lv_at hl 0 rfl) ?_
        refine lv_iload_n hx hb d_R_same_47 rfl (lv_at hl 1 rfl) ?_
        refine lv_iload_n hx hb d_R_same_48 rfl (lv_at hl 2 rfl) ?_
        refine kR_i (va_runV (As := [.int x1, .int x2]) (rest := []) ⟨hx, hb, hml, hown, htg⟩ (met_R_isOver l D ad cA cB hap σ5 H.size x1 x2 _ h) (cwV 2 htg (kG (kG_V m_720 m_722 m_27 m_57 (kG_self m_723))) rfl rfl rfl (by decide +kernel) ⟨Nat.le_of_ble_eq_true rfl, Nat.le_of_ble_eq_true rfl⟩) (kR_preV hK hF hP hS 0 rfl rfl _) rfl rfl hl.1 rfl (lv_room (Nat.le_of_ble_eq_true rfl)) d_R_same_49 ⟨Nat.le_of_ble_eq_true rfl, Nat.le_of_ble_eq_true rfl⟩) hS (fun r8 σ7 H locs h hP hS => ?_)
        refine lv_if_ne (tgt := 64) hx hb d_R_same_52 (by decide) (fun cn => ?_) (fun cn => ?_)
        · have h := h.1 cn
          refine lv_iconst (v := (-1)) hx hb d_R_same_64 (by decide) ?_
          exact W.iret (v := (-1)) hx hb hr (fun t ht hW => ⟨⟨_, σ7, rfl, h, kBR_of ht hP⟩, hS.F ht⟩) hS.2.2 d_R_same_65 hlocks
        · have h := h.2 cn
          refine lv_aload_n hx hb d_R_same_55 rfl (lv_at hl 0 rfl) ?_
          refine lv_iload_n hx hb d_R_same_56 rfl (lv_at hl 2 rfl) ?_
          refine lv_iload_n hx hb d_R_same_57 rfl (lv_at hl 1 rfl) ?_
          refine kR_i (va_runV (As := [.int x2, .int x1]) (rest := []) ⟨hx, hb, hml, hown, htg⟩ (met_R_isOver l D ad cA cB hap σ7 H.size x2 x1 _ h) (cwV 2 htg (kG (kG_V m_720 m_722 m_27 m_57 (kG_self m_723))) rfl rfl rfl (by decide +kernel) ⟨Nat.le_of_ble_eq_true rfl, Nat.le_of_ble_eq_true rfl⟩) (kR_preV hK hF hP hS 0 rfl rfl _) rfl rfl hl.1 rfl (lv_room (Nat.le_of_ble_eq_true rfl)) d_R_same_58 ⟨Nat.le_of_ble_eq_true rfl, Nat.le_of_ble_eq_true rfl⟩) hS (fun r10 σ9 H locs h hP hS => ?_)
          refine lv_if_eq (tgt := 66) hx hb d_R_same_61 (by decide) (fun cn => ?_) (fun cn => ?_)
          · have h := h.1 cn
            refine lv_aload_n hx hb d_R_same_66 rfl (lv_at hl 0 rfl) ?_
            refine va_get (D := D) (ci := 4) (v := .ref (ad 2)) (C := RX4) (T := TX4) (N := 27) hx hb htg inG_X4 hown hK hP 0 rfl rfl 2 (by decide) (htg _ m_621) (fun _ h9 => h9) rfl d_R_same_67 ?_
            refine lv_iload_n hx hb d_R_same_70 rfl (lv_at hl 1 rfl) ?_
            have hi := h.1
            have h := h.2
            refine va_iald hx hb hK hP 2 0 rfl rfl hi d_R_same_71 ?_
            refine lv_topi (fun v11 ev11 => ?_)
            have h := h v11 ev11
            refine lv_istore_n (lv' := [(3, .int v11), (0, .ref (ad 0)), (1, .int x1), (2, .int x2)]) hx hb d_R_same_72 rfl hl (by decide) rfl (fun ls hl => ?_)
            refine lv_aload_n hx hb d_R_same_73 rfl (lv_at hl 1 rfl) ?_
            refine va_get (D := D) (ci := 4) (v := .ref (ad 2)) (C := RX4) (T := TX4) (N := 27) hx hb htg inG_X4 hown hK hP 0 rfl rfl 2 (by decide) (htg _ m_621) (fun _ h9 => h9) rfl d_R_same_74 ?_
            refine lv_iload_n hx hb d_R_same_77 rfl (lv_at hl 3 rfl) ?_
            have hi := h.1
            have h := h.2
            refine va_iald hx hb hK hP 2 0 rfl rfl hi d_R_same_78 ?_
            refine lv_topi (fun v12 ev12 => ?_)
            have h := h v12 ev12
            refine lv_istore (lv' := [(4, .int v12), (3, .int v11), (0, .ref (ad 0)), (1, .int x1), (2, .int x2)]) hx hb d_R_same_79 hl (by decide) rfl (fun ls hl => ?_)
            refine lv_iload_n hx hb d_R_same_81 rfl (lv_at hl 1 rfl) ?_
            refine lv_iload hx hb d_R_same_82 (lv_at hl 0 rfl) ?_
            refine lv_icmp_ge (tgt := 91) hx hb d_R_same_84 (by decide) (fun cn => ?_) (fun cn => ?_)
            · have h := h.1 cn
              refine lv_iload hx hb d_R_same_91 (lv_at hl 0 rfl) ?_
              rw [hG93] at h
              exact h _ _ _ hP hS (lv_sub hl [2, 3, 4, 1, 0] rfl)
            · have h := h.2 cn
              refine lv_iload_n hx hb d_R_same_87 rfl (lv_at hl 1 rfl) ?_
              refine lv_goto (tgt := 93) hx hb d_R_same_88 (by decide) ?_
              rw [hG93] at h
              exact h _ _ _ hP hS (lv_sub hl [2, 3, 4, 1, 0] rfl)
          · have h := h.2 cn
            refine lv_iconst (v := (-1)) hx hb d_R_same_64 (by decide) ?_
            exact W.iret (v := (-1)) hx hb hr (fun t ht hW => ⟨⟨_, σ9, rfl, h, kBR_of ht hP⟩, hS.F ht⟩) hS.2.2 d_R_same_65 hlocks
      · have h := h.2 cn
        refine lv_iconst (v := 0) hx hb d_R_same_44 (by decide) ?_
        exact W.iret (v := 0) hx hb hr (fun t ht hW => ⟨⟨_, σ5, rfl, h, kBR_of ht hP⟩, hS.F ht⟩) hS.2.2 d_R_same_45 hlocks
    · have h := h.2 cn
      refine lv_iconst (v := 0) hx hb d_R_same_27 (by decide) ?_
      exact W.iret (v := 0) hx hb hr (fun t ht hW => ⟨⟨_, σ5, rfl, h, kBR_of ht hP⟩, hS.F ht⟩) hS.2.2 d_R_same_28 hlocks)
  have h := h (by
    intro x1 x2 x3 x4 t0 σ h
    rw [hG93]
    intro H locs ls hP hS hl
    refine lv_istore (lv' := [(5, .int t0), (0, .ref (ad 0)), (1, .int x1), (2, .int x2), (3, .int x3), (4, .int x4)]) hx hb d_R_same_93 hl (by decide) rfl (fun ls hl => ?_)
    refine lv_iconst (v := 0) hx hb d_R_same_95 (by decide) ?_
    refine lv_istore (lv' := [(6, .int 0), (5, .int t0), (0, .ref (ad 0)), (1, .int x1), (2, .int x2), (3, .int x3), (4, .int x4)]) hx hb d_R_same_96 hl (by decide) rfl (fun ls hl => ?_)
    rw [hG98] at h
    exact h _ _ _ hP hS (lv_sub hl [2, 3, 4, 5, 6, 1, 0] rfl))
  have h := h (by
    intro x1 x2 x3 x4 x5 x6 σ h
    rw [hG98]
    intro H locs ls hP hS hl
    refine lv_iload hx hb d_R_same_98 (lv_at hl 6 rfl) ?_
    refine lv_bipush (v := 16) hx hb d_R_same_100 (by decide) ?_
    refine lv_icmp_ge (tgt := 143) hx hb d_R_same_102 (by decide) (fun cn => ?_) (fun cn => ?_)
    · have h := h.1 cn
      refine lv_aload_n hx hb d_R_same_143 rfl (lv_at hl 0 rfl) ?_
      refine lv_iload_n hx hb d_R_same_144 rfl (lv_at hl 1 rfl) ?_
      refine lv_iload_n hx hb d_R_same_145 rfl (lv_at hl 2 rfl) ?_
      refine kR_v (va_runV (As := [.int x1, .int x2]) (rest := []) ⟨hx, hb, hml, hown, htg⟩ (met_R_name l D ad cA cB hap σ H.size x1 x2 _ h) (cwV 2 htg (kG (kG_V m_732 m_734 m_30 m_57 (kG_self m_735))) rfl rfl rfl (by decide +kernel) ⟨Nat.le_of_ble_eq_true rfl, Nat.le_of_ble_eq_true rfl⟩) (kR_preV hK hF hP hS 0 rfl rfl _) rfl rfl hl.1 rfl (lv_room (Nat.le_of_ble_eq_true rfl)) d_R_same_146 ⟨Nat.le_of_ble_eq_true rfl, Nat.le_of_ble_eq_true rfl⟩) hS (fun σ13 H locs h hP hS => ?_)
      refine lv_iconst (v := 1) hx hb d_R_same_149 (by decide) ?_
      exact W.iret (v := 1) hx hb hr (fun t ht hW => ⟨⟨_, σ13, rfl, h, kBR_of ht hP⟩, hS.F ht⟩) hS.2.2 d_R_same_150 hlocks
    · have h := h.2 cn
      refine lv_aload_n hx hb d_R_same_105 rfl (lv_at hl 0 rfl) ?_
      refine va_get (D := D) (ci := 4) (v := .ref (ad 2)) (C := RX4) (T := TX4) (N := 27) hx hb htg inG_X4 hown hK hP 0 rfl rfl 2 (by decide) (htg _ m_621) (fun _ h9 => h9) rfl d_R_same_106 ?_
      refine lv_iload hx hb d_R_same_109 (lv_at hl 6 rfl) ?_
      have hi := h.1
      have h := h.2
      refine va_iald hx hb hK hP 2 0 rfl rfl hi d_R_same_111 ?_
      refine lv_iload_n hx hb d_R_same_112 rfl (lv_at hl 3 rfl) ?_
      refine lv_icmp_eq (tgt := 128) hx hb d_R_same_113 (by decide) (fun cn => ?_) (fun cn => ?_)
      · have h := h.1 cn
        rw [hG128] at h
        exact h _ _ _ hP hS (lv_sub hl [0, 1, 2, 3, 4, 5, 6] rfl)
      · have h := h.2 cn
        refine lv_aload_n hx hb d_R_same_116 rfl (lv_at hl 0 rfl) ?_
        refine va_get (D := D) (ci := 4) (v := .ref (ad 2)) (C := RX4) (T := TX4) (N := 27) hx hb htg inG_X4 hown hK hP 0 rfl rfl 2 (by decide) (htg _ m_621) (fun _ h9 => h9) rfl d_R_same_117 ?_
        refine lv_iload hx hb d_R_same_120 (lv_at hl 6 rfl) ?_
        have hi := h.1
        have h := h.2
        refine va_iald hx hb hK hP 2 0 rfl rfl hi d_R_same_122 ?_
        refine lv_iload hx hb d_R_same_123 (lv_at hl 4 rfl) ?_
        refine lv_icmp_ne (tgt := 137) hx hb d_R_same_125 (by decide) (fun cn => ?_) (fun cn => ?_)
        · have h := h.1 cn
          refine lv_iinc (v := (x6 + 1)) (lv' := [(6, .int (x6 + 1)), (0, .ref (ad 0)), (1, .int x1), (2, .int x2), (3, .int x3), (4, .int x4), (5, .int x5)]) hx hb d_R_same_137 hl (k := 6) rfl rfl (by decide) rfl (fun ls hl => ?_)
          refine lv_goto (tgt := 98) hx hb d_R_same_140 (by decide) ?_
          rw [hG98] at h
          exact h _ _ _ hP hS (lv_sub hl [1, 2, 3, 4, 5, 6, 0] rfl)
        · have h := h.2 cn
          rw [hG128] at h
          exact h _ _ _ hP hS (lv_sub hl [0, 1, 2, 3, 4, 5, 6] rfl))
  have h := h (by
    intro x1 x2 x3 x4 x5 x6 σ h
    rw [hG128]
    intro H locs ls hP hS hl
    refine lv_aload_n hx hb d_R_same_128 rfl (lv_at hl 0 rfl) ?_
    refine va_get (D := D) (ci := 4) (v := .ref (ad 2)) (C := RX4) (T := TX4) (N := 27) hx hb htg inG_X4 hown hK hP 0 rfl rfl 2 (by decide) (htg _ m_621) (fun _ h9 => h9) rfl d_R_same_129 ?_
    refine lv_iload hx hb d_R_same_132 (lv_at hl 6 rfl) ?_
    refine lv_iload hx hb d_R_same_134 (lv_at hl 5 rfl) ?_
    have hi := h.1
    have h := h.2
    refine va_iast hx hb hK hP (hD _) hS 2 0 rfl rfl hi d_R_same_136 (fun H locs hP _ hS => ?_)
    obtain ⟨σ14, eσ14⟩ : ∃ z : S0, z = st σ 2 x6.toNatClampNeg x5 := ⟨_, rfl⟩
    have hP : va_P D vwCl (wR ad cA cB σ14) H := by rw [eσ14]; exact hP
    have h := h σ14 eσ14
    refine lv_iinc (v := (x6 + 1)) (lv' := [(6, .int (x6 + 1)), (0, .ref (ad 0)), (1, .int x1), (2, .int x2), (3, .int x3), (4, .int x4), (5, .int x5)]) hx hb d_R_same_137 hl (k := 6) rfl rfl (by decide) rfl (fun ls hl => ?_)
    refine lv_goto (tgt := 98) hx hb d_R_same_140 (by decide) ?_
    rw [hG98] at h
    exact h _ _ _ hP hS (lv_sub hl [1, 2, 3, 4, 5, 6, 0] rfl))
  obtain ⟨H, eH⟩ : ∃ z, z = s.heap := ⟨_, rfl⟩
  have hP : va_P D vwCl (wR ad cA cB σ) H := by rw [eH]; exact hP
  have hS : va_S (kAR ad s.heap.size) s.heap H [] := by rw [eH]; exact hS
  show W p l e (headSpec (Cond.code y_R_same c_R_same 7 (some .int) :: wsG) ({ frames := 3, cells := 0, slots := 0, locals := 66 } : Room)).room s m ([.ref (ad 0), .int a1, .int a2] : List Value).toArray below meth c s.heap [] 0 0 (MQ below (va_Qi post (kBR D ad cA cB) (kAR ad s.heap.size)) ([.ref (ad 0), .int a1, .int a2] : List Value).toArray s 0 0 (kAR ad s.heap.size)) (F0 m 0 ls [])
  suffices k : W p l e (headSpec (Cond.code y_R_same c_R_same 7 (some .int) :: wsG) ({ frames := 3, cells := 0, slots := 0, locals := 66 } : Room)).room s m ([.ref (ad 0), .int a1, .int a2] : List Value).toArray below meth c H [] 0 0 (MQ below (va_Qi post (kBR D ad cA cB) (kAR ad s.heap.size)) ([.ref (ad 0), .int a1, .int a2] : List Value).toArray s 0 0 (kAR ad s.heap.size)) (F0 m 0 ls []) by rw [eH] at k; exact k
  refine lv_aload_n hx hb d_R_same_0 rfl (lv_at hl 0 rfl) ?_
  refine lv_iload_n hx hb d_R_same_1 rfl (lv_at hl 1 rfl) ?_
  refine kR_i (va_runS (As := [.int a1]) (rest := [.ref (ad 0)]) ⟨hx, hb, hml, hown, htg⟩ (met_R_isContext l D ad cA cB hap σ H.size a1 _ h) (cwS 1 htg (kG (kG_S m_710 m_711 m_57 (kG_self m_712))) rfl rfl rfl (by decide +kernel) ⟨Nat.le_of_ble_eq_true rfl, Nat.le_of_ble_eq_true rfl⟩) (kR_pre hK hF hP hS _) rfl rfl hl.1 rfl (lv_room (Nat.le_of_ble_eq_true rfl)) d_R_same_2 ⟨Nat.le_of_ble_eq_true rfl, Nat.le_of_ble_eq_true rfl⟩) hS (fun r2 σ1 H locs h hP hS => ?_)
  refine lv_if_eq (tgt := 15) hx hb d_R_same_5 (by decide) (fun cn => ?_) (fun cn => ?_)
  · have h := h.1 cn
    refine lv_iconst (v := 1) hx hb d_R_same_15 (by decide) ?_
    refine lv_goto (tgt := 20) hx hb d_R_same_16 (by decide) ?_
    rw [hG20] at h
    exact h _ _ _ hP hS (lv_sub hl [0, 1, 2] rfl)
  · have h := h.2 cn
    refine lv_iload_n hx hb d_R_same_8 rfl (lv_at hl 2 rfl) ?_
    refine kR_i (va_runS (As := [.int a2]) (rest := [.ref (ad 0)]) ⟨hx, hb, hml, hown, htg⟩ (met_R_isContext l D ad cA cB hap σ1 H.size a2 _ h) (cwS 1 htg (kG (kG_S m_710 m_711 m_57 (kG_self m_712))) rfl rfl rfl (by decide +kernel) ⟨Nat.le_of_ble_eq_true rfl, Nat.le_of_ble_eq_true rfl⟩) (kR_pre hK hF hP hS _) rfl rfl hl.1 rfl (lv_room (Nat.le_of_ble_eq_true rfl)) d_R_same_9 ⟨Nat.le_of_ble_eq_true rfl, Nat.le_of_ble_eq_true rfl⟩) hS (fun r4 σ3 H locs h hP hS => ?_)
    refine lv_if_ne (tgt := 19) hx hb d_R_same_12 (by decide) (fun cn => ?_) (fun cn => ?_)
    · have h := h.1 cn
      refine lv_iconst (v := 0) hx hb d_R_same_19 (by decide) ?_
      rw [hG20] at h
      exact h _ _ _ hP hS (lv_sub hl [0, 1, 2] rfl)
    · have h := h.2 cn
      refine lv_iconst (v := 1) hx hb d_R_same_15 (by decide) ?_
      refine lv_goto (tgt := 20) hx hb d_R_same_16 (by decide) ?_
      rw [hG20] at h
      exact h _ _ _ hP hS (lv_sub hl [0, 1, 2] rfl)
set_option maxHeartbeats 4000000 in
set_option maxRecDepth 100000 in
theorem met_R_phase (l : Launch) (D : va_G) (ad : Nat → Nat) (cA cB : ClassId) (hap : kapR ad) (σ : S0) (sz : Nat) (a1 a2 : Int32) (post : Int32 → S0 → Prop) (h : Sp_R_phase a1 a2 σ post) : Met l y_R_phase (Cond.code y_R_phase c_R_phase 4 (some .int) :: wsG) ({ frames := 2, cells := 0, slots := 0, locals := 42 } : Room) (kPcR D ad cA cB σ sz [.ref (ad 0), .int a1, .int a2]) (va_Qi post (kBR D ad cA cB) (kAR ad sz)) 0 0 (kAR ad sz) := by
  refine Met.ofW (cc := c_R_phase) (maxL := 4) (ret := (some .int)) (by decide) rfl ?_
  intro p e s m args below meth c s₁ B hml hv
  obtain ⟨rfl, hsz, hP, hK, hF⟩ := hv
  have hx := B.exec
  have hb := B.bytes
  have hr := B.returns
  have hts := atoms_spec (ws := (Cond.code y_R_phase c_R_phase 4 (some .int) :: wsG)) B.pre
  have htg : ∀ w ∈ wsG, w.before ([.ref (ad 0), .int a1, .int a2] : List Value).toArray s = true := fun w h => hts w (List.mem_cons_of_mem _ h)
  have hown : s.vm.findClass RX4 = some m.cls := findClass_of_methodNamed B.named
  have hlocks := B.notSynchronized
  subst hsz
  have hD : ∀ σ, va_D (kAR ad s.heap.size) (wR ad cA cB σ) := fun σ => wR_D hap cA cB σ _
  have hS : va_S (kAR ad s.heap.size) s.heap s.heap [] := va_S.rf
  have hl := lv_entry ([.ref (ad 0), .int a1, .int a2]) (n := 4) (Nat.le_of_ble_eq_true rfl)
  rw [lg_entry_eq]
  generalize (lg_sl ([.ref (ad 0), .int a1, .int a2]) ++ List.replicate (4 - (lg_sl ([.ref (ad 0), .int a1, .int a2])).length) Slot.unset).toArray = ls at hl ⊢
  have hl : lv_has ls 4 [(0, .ref (ad 0)), (1, .int a1), (2, .int a2)] := hl
  unfold Sp_R_phase at h
  obtain ⟨G13, hG13⟩ : ∃ G : Int32 → Int32 → Int32 → S0 → Prop, G = fun (x1 x2 t1 : Int32) (σ : S0) => ∀ (H : Heap) (locs : List Loc) (ls : Array Slot), va_P D vwCl (wR ad cA cB σ) H → va_S (kAR ad s.heap.size) s.heap H locs → lv_has ls 4 [(0, .ref (ad 0)), (1, .int x1), (2, .int x2)] → W p l e (headSpec (Cond.code y_R_phase c_R_phase 4 (some .int) :: wsG) ({ frames := 2, cells := 0, slots := 0, locals := 42 } : Room)).room s m ([.ref (ad 0), .int a1, .int a2] : List Value).toArray below meth c H locs 0 0 (MQ below (va_Qi post (kBR D ad cA cB) (kAR ad s.heap.size)) ([.ref (ad 0), .int a1, .int a2] : List Value).toArray s 0 0 (kAR ad s.heap.size)) (F0 m 13 ls [.int t1, .ref (ad 0)]) := ⟨_, rfl⟩
  obtain ⟨G27, hG27⟩ : ∃ G : Int32 → Int32 → Int32 → Int32 → S0 → Prop, G = fun (x1 x2 t1 t2 : Int32) (σ : S0) => ∀ (H : Heap) (locs : List Loc) (ls : Array Slot), va_P D vwCl (wR ad cA cB σ) H → va_S (kAR ad s.heap.size) s.heap H locs → lv_has ls 4 [(0, .ref (ad 0)), (1, .int x1), (2, .int x2)] → W p l e (headSpec (Cond.code y_R_phase c_R_phase 4 (some .int) :: wsG) ({ frames := 2, cells := 0, slots := 0, locals := 42 } : Room)).room s m ([.ref (ad 0), .int a1, .int a2] : List Value).toArray below meth c H locs 0 0 (MQ below (va_Qi post (kBR D ad cA cB) (kAR ad s.heap.size)) ([.ref (ad 0), .int a1, .int a2] : List Value).toArray s 0 0 (kAR ad s.heap.size)) (F0 m 27 ls [.int t2, .int t1, .ref (ad 0)]) := ⟨_, rfl⟩
  have h := h G13 G27
  have h := h (by
    intro x1 x2 t1 σ h
    rw [hG13]
    intro H locs ls hP hS hl
    refine lv_iload_n hx hb d_R_phase_13 rfl (lv_at hl 2 rfl) ?_
    refine lv_iconst (v := (-1)) hx hb d_R_phase_14 (by decide) ?_
    refine lv_iconst (v := 5) hx hb d_R_phase_15 (by decide) ?_
    refine kR_i (va_runS (As := [.int x2, .int (-1), .int 5]) (rest := [.int t1, .ref (ad 0)]) ⟨hx, hb, hml, hown, htg⟩ (met_R_in l D ad cA cB hap σ H.size x2 (-1) 5 _ h) (cwS 3 htg (kG (kG_S m_713 m_714 m_57 (kG_self m_715))) rfl rfl rfl (by decide +kernel) ⟨Nat.le_of_ble_eq_true rfl, Nat.le_of_ble_eq_true rfl⟩) (kR_pre hK hF hP hS _) rfl rfl hl.1 rfl (lv_room (Nat.le_of_ble_eq_true rfl)) d_R_phase_16 ⟨Nat.le_of_ble_eq_true rfl, Nat.le_of_ble_eq_true rfl⟩) hS (fun r4 σ3 H locs h hP hS => ?_)
    refine lv_if_ne (tgt := 26) hx hb d_R_phase_19 (by decide) (fun cn => ?_) (fun cn => ?_)
    · have h := h.1 cn
      refine lv_iconst (v := 0) hx hb d_R_phase_26 (by decide) ?_
      rw [hG27] at h
      exact h _ _ _ hP hS (lv_sub hl [0, 1, 2] rfl)
    · have h := h.2 cn
      refine lv_iconst (v := 1) hx hb d_R_phase_22 (by decide) ?_
      refine lv_goto (tgt := 27) hx hb d_R_phase_23 (by decide) ?_
      rw [hG27] at h
      exact h _ _ _ hP hS (lv_sub hl [0, 1, 2] rfl))
  have h := h (by
    intro x1 x2 t1 t2 σ h
    rw [hG27]
    intro H locs ls hP hS hl
    refine kR_i (va_runV (As := [.int t1, .int t2]) (rest := []) ⟨hx, hb, hml, hown, htg⟩ (met_R_throwing l D ad cA cB hap σ H.size t1 t2 _ h) (cwV 2 htg (kG (kG_V m_716 m_718 m_26 m_57 (kG_self m_719))) rfl rfl rfl (by decide +kernel) ⟨Nat.le_of_ble_eq_true rfl, Nat.le_of_ble_eq_true rfl⟩) (kR_preV hK hF hP hS 0 rfl rfl _) rfl rfl hl.1 rfl (lv_room (Nat.le_of_ble_eq_true rfl)) d_R_phase_27 ⟨Nat.le_of_ble_eq_true rfl, Nat.le_of_ble_eq_true rfl⟩) hS (fun r6 σ5 H locs h hP hS => ?_)
    refine lv_if_eq (tgt := 35) hx hb d_R_phase_30 (by decide) (fun cn => ?_) (fun cn => ?_)
    · have h := h.1 cn
      refine lv_aload_n hx hb d_R_phase_35 rfl (lv_at hl 0 rfl) ?_
      refine va_get (D := D) (ci := 4) (v := .ref (ad 3)) (C := RX4) (T := TX4) (N := 27) hx hb htg inG_X4 hown hK hP 0 rfl rfl 3 (by decide) (htg _ m_622) (fun _ h9 => h9) rfl d_R_phase_36 ?_
      refine lv_iload_n hx hb d_R_phase_39 rfl (lv_at hl 1 rfl) ?_
      have hi := h.1
      have h := h.2
      refine va_iald hx hb hK hP 3 0 rfl rfl hi d_R_phase_40 ?_
      refine lv_topi (fun v7 ev7 => ?_)
      have h := h v7 ev7
      refine lv_istore_n (lv' := [(3, .int v7), (0, .ref (ad 0)), (1, .int x1), (2, .int x2)]) hx hb d_R_phase_41 rfl hl (by decide) rfl (fun ls hl => ?_)
      refine lv_aload_n hx hb d_R_phase_42 rfl (lv_at hl 1 rfl) ?_
      refine va_get (D := D) (ci := 4) (v := .ref (ad 3)) (C := RX4) (T := TX4) (N := 27) hx hb htg inG_X4 hown hK hP 0 rfl rfl 3 (by decide) (htg _ m_622) (fun _ h9 => h9) rfl d_R_phase_43 ?_
      refine lv_iload_n hx hb d_R_phase_46 rfl (lv_at hl 2 rfl) ?_
      refine lv_iload_n hx hb d_R_phase_47 rfl (lv_at hl 3 rfl) ?_
      have hi := h.1
      have h := h.2
      refine va_iast hx hb hK hP (hD _) hS 3 0 rfl rfl hi d_R_phase_48 (fun H locs hP _ hS => ?_)
      obtain ⟨σ8, eσ8⟩ : ∃ z : S0, z = st σ5 3 x1.toNatClampNeg x2 := ⟨_, rfl⟩
      have hP : va_P D vwCl (wR ad cA cB σ8) H := by rw [eσ8]; exact hP
      have h := h σ8 eσ8
      refine lv_aload_n hx hb d_R_phase_49 rfl (lv_at hl 1 rfl) ?_
      refine lv_iload_n hx hb d_R_phase_50 rfl (lv_at hl 2 rfl) ?_
      refine lv_iload_n hx hb d_R_phase_51 rfl (lv_at hl 2 rfl) ?_
      refine kR_v (va_runV (As := [.int x1, .int x1]) (rest := []) ⟨hx, hb, hml, hown, htg⟩ (met_R_name l D ad cA cB hap σ8 H.size x1 x1 _ h) (cwV 2 htg (kG (kG_V m_732 m_734 m_30 m_57 (kG_self m_735))) rfl rfl rfl (by decide +kernel) ⟨Nat.le_of_ble_eq_true rfl, Nat.le_of_ble_eq_true rfl⟩) (kR_preV hK hF hP hS 0 rfl rfl _) rfl rfl hl.1 rfl (lv_room (Nat.le_of_ble_eq_true rfl)) d_R_phase_52 ⟨Nat.le_of_ble_eq_true rfl, Nat.le_of_ble_eq_true rfl⟩) hS (fun σ9 H locs h hP hS => ?_)
      refine lv_iload_n hx hb d_R_phase_55 rfl (lv_at hl 0 rfl) ?_
      exact W.iret (v := v7) hx hb hr (fun t ht hW => ⟨⟨_, σ9, rfl, h, kBR_of ht hP⟩, hS.F ht⟩) hS.2.2 d_R_phase_56 hlocks
    · have h := h.2 cn
      refine lv_iconst (v := 0) hx hb d_R_phase_33 (by decide) ?_
      exact W.iret (v := 0) hx hb hr (fun t ht hW => ⟨⟨_, σ5, rfl, h, kBR_of ht hP⟩, hS.F ht⟩) hS.2.2 d_R_phase_34 hlocks)
  obtain ⟨H, eH⟩ : ∃ z, z = s.heap := ⟨_, rfl⟩
  have hP : va_P D vwCl (wR ad cA cB σ) H := by rw [eH]; exact hP
  have hS : va_S (kAR ad s.heap.size) s.heap H [] := by rw [eH]; exact hS
  show W p l e (headSpec (Cond.code y_R_phase c_R_phase 4 (some .int) :: wsG) ({ frames := 2, cells := 0, slots := 0, locals := 42 } : Room)).room s m ([.ref (ad 0), .int a1, .int a2] : List Value).toArray below meth c s.heap [] 0 0 (MQ below (va_Qi post (kBR D ad cA cB) (kAR ad s.heap.size)) ([.ref (ad 0), .int a1, .int a2] : List Value).toArray s 0 0 (kAR ad s.heap.size)) (F0 m 0 ls [])
  suffices k : W p l e (headSpec (Cond.code y_R_phase c_R_phase 4 (some .int) :: wsG) ({ frames := 2, cells := 0, slots := 0, locals := 42 } : Room)).room s m ([.ref (ad 0), .int a1, .int a2] : List Value).toArray below meth c H [] 0 0 (MQ below (va_Qi post (kBR D ad cA cB) (kAR ad s.heap.size)) ([.ref (ad 0), .int a1, .int a2] : List Value).toArray s 0 0 (kAR ad s.heap.size)) (F0 m 0 ls []) by rw [eH] at k; exact k
  refine lv_aload_n hx hb d_R_phase_0 rfl (lv_at hl 0 rfl) ?_
  refine lv_iload_n hx hb d_R_phase_1 rfl (lv_at hl 1 rfl) ?_
  refine kR_i (va_runS (As := [.int a1]) (rest := [.ref (ad 0)]) ⟨hx, hb, hml, hown, htg⟩ (met_R_isContext l D ad cA cB hap σ H.size a1 _ h) (cwS 1 htg (kG (kG_S m_710 m_711 m_57 (kG_self m_712))) rfl rfl rfl (by decide +kernel) ⟨Nat.le_of_ble_eq_true rfl, Nat.le_of_ble_eq_true rfl⟩) (kR_pre hK hF hP hS _) rfl rfl hl.1 rfl (lv_room (Nat.le_of_ble_eq_true rfl)) d_R_phase_2 ⟨Nat.le_of_ble_eq_true rfl, Nat.le_of_ble_eq_true rfl⟩) hS (fun r2 σ1 H locs h hP hS => ?_)
  refine lv_if_ne (tgt := 12) hx hb d_R_phase_5 (by decide) (fun cn => ?_) (fun cn => ?_)
  · have h := h.1 cn
    refine lv_iconst (v := 0) hx hb d_R_phase_12 (by decide) ?_
    rw [hG13] at h
    exact h _ _ _ hP hS (lv_sub hl [0, 1, 2] rfl)
  · have h := h.2 cn
    refine lv_iconst (v := 1) hx hb d_R_phase_8 (by decide) ?_
    refine lv_goto (tgt := 13) hx hb d_R_phase_9 (by decide) ?_
    rw [hG13] at h
    exact h _ _ _ hP hS (lv_sub hl [0, 1, 2] rfl)
set_option maxHeartbeats 4000000 in
set_option maxRecDepth 100000 in
theorem met_R_hide (l : Launch) (D : va_G) (ad : Nat → Nat) (cA cB : ClassId) (hap : kapR ad) (σ : S0) (sz : Nat) (a1 a2 : Int32) (post : Int32 → S0 → Prop) (h : Sp_R_hide a1 a2 σ post) : Met l y_R_hide (Cond.code y_R_hide c_R_hide 4 (some .boolean) :: wsG) ({ frames := 2, cells := 0, slots := 0, locals := 42 } : Room) (kPcR D ad cA cB σ sz [.ref (ad 0), .int a1, .int a2]) (va_Qi post (kBR D ad cA cB) (kAR ad sz)) 0 0 (kAR ad sz) := by
  refine Met.ofW (cc := c_R_hide) (maxL := 4) (ret := (some .boolean)) (by decide) rfl ?_
  intro p e s m args below meth c s₁ B hml hv
  obtain ⟨rfl, hsz, hP, hK, hF⟩ := hv
  have hx := B.exec
  have hb := B.bytes
  have hr := B.returns
  have hts := atoms_spec (ws := (Cond.code y_R_hide c_R_hide 4 (some .boolean) :: wsG)) B.pre
  have htg : ∀ w ∈ wsG, w.before ([.ref (ad 0), .int a1, .int a2] : List Value).toArray s = true := fun w h => hts w (List.mem_cons_of_mem _ h)
  have hown : s.vm.findClass RX4 = some m.cls := findClass_of_methodNamed B.named
  have hlocks := B.notSynchronized
  subst hsz
  have hD : ∀ σ, va_D (kAR ad s.heap.size) (wR ad cA cB σ) := fun σ => wR_D hap cA cB σ _
  have hS : va_S (kAR ad s.heap.size) s.heap s.heap [] := va_S.rf
  have hl := lv_entry ([.ref (ad 0), .int a1, .int a2]) (n := 4) (Nat.le_of_ble_eq_true rfl)
  rw [lg_entry_eq]
  generalize (lg_sl ([.ref (ad 0), .int a1, .int a2]) ++ List.replicate (4 - (lg_sl ([.ref (ad 0), .int a1, .int a2])).length) Slot.unset).toArray = ls at hl ⊢
  have hl : lv_has ls 4 [(0, .ref (ad 0)), (1, .int a1), (2, .int a2)] := hl
  unfold Sp_R_hide at h
  obtain ⟨G13, hG13⟩ : ∃ G : Int32 → Int32 → Int32 → S0 → Prop, G = fun (x1 x2 t1 : Int32) (σ : S0) => ∀ (H : Heap) (locs : List Loc) (ls : Array Slot), va_P D vwCl (wR ad cA cB σ) H → va_S (kAR ad s.heap.size) s.heap H locs → lv_has ls 4 [(0, .ref (ad 0)), (1, .int x1), (2, .int x2)] → W p l e (headSpec (Cond.code y_R_hide c_R_hide 4 (some .boolean) :: wsG) ({ frames := 2, cells := 0, slots := 0, locals := 42 } : Room)).room s m ([.ref (ad 0), .int a1, .int a2] : List Value).toArray below meth c H locs 0 0 (MQ below (va_Qi post (kBR D ad cA cB) (kAR ad s.heap.size)) ([.ref (ad 0), .int a1, .int a2] : List Value).toArray s 0 0 (kAR ad s.heap.size)) (F0 m 13 ls [.int t1, .ref (ad 0)]) := ⟨_, rfl⟩
  obtain ⟨G65, hG65⟩ : ∃ G : Int32 → Int32 → Int32 → Int32 → S0 → Prop, G = fun (x2 x3 t1 t2 : Int32) (σ : S0) => ∀ (H : Heap) (locs : List Loc) (ls : Array Slot), va_P D vwCl (wR ad cA cB σ) H → va_S (kAR ad s.heap.size) s.heap H locs → lv_has ls 4 [(2, .int x2), (3, .int x3)] → W p l e (headSpec (Cond.code y_R_hide c_R_hide 4 (some .boolean) :: wsG) ({ frames := 2, cells := 0, slots := 0, locals := 42 } : Room)).room s m ([.ref (ad 0), .int a1, .int a2] : List Value).toArray below meth c H locs 0 0 (MQ below (va_Qi post (kBR D ad cA cB) (kAR ad s.heap.size)) ([.ref (ad 0), .int a1, .int a2] : List Value).toArray s 0 0 (kAR ad s.heap.size)) (F0 m 65 ls [.int t2, .int t1, .ref (ad 5)]) := ⟨_, rfl⟩
  have h := h G13 G65
  have h := h (by
    intro x1 x2 t1 σ h
    rw [hG13]
    intro H locs ls hP hS hl
    refine lv_iconst (v := 0) hx hb d_R_hide_13 (by decide) ?_
    refine kR_i (va_runV (As := [.int t1, .int 0]) (rest := []) ⟨hx, hb, hml, hown, htg⟩ (met_R_throwing l D ad cA cB hap σ H.size t1 0 _ h) (cwV 2 htg (kG (kG_V m_716 m_718 m_26 m_57 (kG_self m_719))) rfl rfl rfl (by decide +kernel) ⟨Nat.le_of_ble_eq_true rfl, Nat.le_of_ble_eq_true rfl⟩) (kR_preV hK hF hP hS 0 rfl rfl _) rfl rfl hl.1 rfl (lv_room (Nat.le_of_ble_eq_true rfl)) d_R_hide_14 ⟨Nat.le_of_ble_eq_true rfl, Nat.le_of_ble_eq_true rfl⟩) hS (fun r4 σ3 H locs h hP hS => ?_)
    refine lv_if_eq (tgt := 22) hx hb d_R_hide_17 (by decide) (fun cn => ?_) (fun cn => ?_)
    · have h := h.1 cn
      refine lv_aload_n hx hb d_R_hide_22 rfl (lv_at hl 0 rfl) ?_
      refine va_get (D := D) (ci := 4) (v := .ref (ad 4)) (C := RX4) (T := TX4) (N := 27) hx hb htg inG_X4 hown hK hP 0 rfl rfl 4 (by decide) (htg _ m_623) (fun _ h9 => h9) rfl d_R_hide_23 ?_
      refine lv_iload_n hx hb d_R_hide_26 rfl (lv_at hl 1 rfl) ?_
      have hi := h.1
      have h := h.2
      refine va_zald hx hb hK hP 4 1 rfl rfl hi d_R_hide_27 ?_
      refine lv_topi (fun v5 ev5 => ?_)
      have h := h v5 ev5
      refine lv_istore_n (lv' := [(3, .int v5), (0, .ref (ad 0)), (1, .int x1), (2, .int x2)]) hx hb d_R_hide_28 rfl hl (by decide) rfl (fun ls hl => ?_)
      refine lv_aload_n hx hb d_R_hide_29 rfl (lv_at hl 1 rfl) ?_
      refine va_get (D := D) (ci := 4) (v := .ref (ad 4)) (C := RX4) (T := TX4) (N := 27) hx hb htg inG_X4 hown hK hP 0 rfl rfl 4 (by decide) (htg _ m_623) (fun _ h9 => h9) rfl d_R_hide_30 ?_
      refine lv_iload_n hx hb d_R_hide_33 rfl (lv_at hl 2 rfl) ?_
      refine lv_iload_n hx hb d_R_hide_34 rfl (lv_at hl 3 rfl) ?_
      have hi := h.1
      have h := h.2
      have hb2 := h.1
      have h := h.2
      refine va_zast hx hb hK hP (hD _) hS 4 1 rfl rfl hi d_R_hide_35 (fun H locs hP _ hS => ?_)
      rw [bo_v hb2] at hP
      obtain ⟨σ6, eσ6⟩ : ∃ z : S0, z = st σ3 4 x1.toNatClampNeg x2 := ⟨_, rfl⟩
      have hP : va_P D vwCl (wR ad cA cB σ6) H := by rw [eσ6]; exact hP
      have h := h σ6 eσ6
      refine lv_aload_n hx hb d_R_hide_36 rfl (lv_at hl 1 rfl) ?_
      refine lv_iconst (v := 0) hx hb d_R_hide_37 (by decide) ?_
      refine va_put (D := D) (ci := 4) (v := .int 0) (ty := .boolean) (C := RX4) (T := TX4) (N := 27) hx hb htg inG_X4 tyX4 tyX4_ok nmX4 hown hK hP (hD _) hS 0 rfl rfl 8 (by decide) (htg _ m_627) (fun _ h9 => h9) rfl (by decide +kernel) rfl rfl (Nat.le_of_ble_eq_true rfl) d_R_hide_38 (fun H locs hP _ hS => ?_)
      obtain ⟨σ7, eσ7⟩ : ∃ z : S0, z = st σ6 0 1 0 := ⟨_, rfl⟩
      have hP : va_P D vwCl (wR ad cA cB σ7) H := by rw [eσ7]; exact hP
      have h := h σ7 eσ7
      refine lv_aload_n hx hb d_R_hide_41 rfl (lv_at hl 1 rfl) ?_
      refine va_get (D := D) (ci := 4) (v := .ref (ad 5)) (C := RX4) (T := TX4) (N := 27) hx hb htg inG_X4 hown hK hP 0 rfl rfl 5 (by decide) (htg _ m_624) (fun _ h9 => h9) rfl d_R_hide_42 ?_
      refine lv_iload_n hx hb d_R_hide_45 rfl (lv_at hl 2 rfl) ?_
      refine lv_aload_n hx hb d_R_hide_46 rfl (lv_at hl 1 rfl) ?_
      refine va_get (D := D) (ci := 4) (v := .ref (ad 5)) (C := RX4) (T := TX4) (N := 27) hx hb htg inG_X4 hown hK hP 0 rfl rfl 5 (by decide) (htg _ m_624) (fun _ h9 => h9) rfl d_R_hide_47 ?_
      refine lv_iload_n hx hb d_R_hide_50 rfl (lv_at hl 2 rfl) ?_
      have hi := h.1
      have h := h.2
      refine va_zald hx hb hK hP 5 1 rfl rfl hi d_R_hide_51 ?_
      refine lv_if_ne (tgt := 60) hx hb d_R_hide_52 (by decide) (fun cn => ?_) (fun cn => ?_)
      · have h := h.1 cn
        refine lv_iconst (v := 1) hx hb d_R_hide_60 (by decide) ?_
        refine lv_goto (tgt := 65) hx hb d_R_hide_61 (by decide) ?_
        rw [hG65] at h
        exact h _ _ _ hP hS (lv_sub hl [3, 0] rfl)
      · have h := h.2 cn
        refine lv_iload_n hx hb d_R_hide_55 rfl (lv_at hl 0 rfl) ?_
        refine lv_iload_n hx hb d_R_hide_56 rfl (lv_at hl 3 rfl) ?_
        refine lv_icmp_eq (tgt := 64) hx hb d_R_hide_57 (by decide) (fun cn => ?_) (fun cn => ?_)
        · have h := h.1 cn
          refine lv_iconst (v := 0) hx hb d_R_hide_64 (by decide) ?_
          rw [hG65] at h
          exact h _ _ _ hP hS (lv_sub hl [3, 0] rfl)
        · have h := h.2 cn
          refine lv_iconst (v := 1) hx hb d_R_hide_60 (by decide) ?_
          refine lv_goto (tgt := 65) hx hb d_R_hide_61 (by decide) ?_
          rw [hG65] at h
          exact h _ _ _ hP hS (lv_sub hl [3, 0] rfl)
    · have h := h.2 cn
      refine lv_iconst (v := 0) hx hb d_R_hide_20 (by decide) ?_
      exact W.zret (v := 0) hx hb hr rfl (fun t ht hW => ⟨⟨_, σ3, rfl, h, kBR_of ht hP⟩, hS.F ht⟩) hS.2.2 d_R_hide_21 hlocks)
  have h := h (by
    intro x2 x3 t1 t2 σ h
    rw [hG65]
    intro H locs ls hP hS hl
    have hi := h.1
    have h := h.2
    have hb2 := h.1
    have h := h.2
    refine va_zast hx hb hK hP (hD _) hS 5 1 rfl rfl hi d_R_hide_65 (fun H locs hP _ hS => ?_)
    rw [bo_v hb2] at hP
    obtain ⟨σ8, eσ8⟩ : ∃ z : S0, z = st σ 5 t1.toNatClampNeg t2 := ⟨_, rfl⟩
    have hP : va_P D vwCl (wR ad cA cB σ8) H := by rw [eσ8]; exact hP
    have h := h σ8 eσ8
    refine lv_iload_n hx hb d_R_hide_66 rfl (lv_at hl 1 rfl) ?_
    refine lv_iload_n hx hb d_R_hide_67 rfl (lv_at hl 0 rfl) ?_
    refine lv_icmp_eq (tgt := 75) hx hb d_R_hide_68 (by decide) (fun cn => ?_) (fun cn => ?_)
    · have h := h.1 cn
      refine lv_iconst (v := 0) hx hb d_R_hide_75 (by decide) ?_
      exact W.zret (v := 0) hx hb hr rfl (fun t ht hW => ⟨⟨_, σ8, rfl, h, kBR_of ht hP⟩, hS.F ht⟩) hS.2.2 d_R_hide_76 hlocks
    · have h := h.2 cn
      refine lv_iconst (v := 1) hx hb d_R_hide_71 (by decide) ?_
      refine lv_goto (tgt := 76) hx hb d_R_hide_72 (by decide) ?_
      exact W.zret (v := 1) hx hb hr rfl (fun t ht hW => ⟨⟨_, σ8, rfl, h, kBR_of ht hP⟩, hS.F ht⟩) hS.2.2 d_R_hide_76 hlocks)
  obtain ⟨H, eH⟩ : ∃ z, z = s.heap := ⟨_, rfl⟩
  have hP : va_P D vwCl (wR ad cA cB σ) H := by rw [eH]; exact hP
  have hS : va_S (kAR ad s.heap.size) s.heap H [] := by rw [eH]; exact hS
  show W p l e (headSpec (Cond.code y_R_hide c_R_hide 4 (some .boolean) :: wsG) ({ frames := 2, cells := 0, slots := 0, locals := 42 } : Room)).room s m ([.ref (ad 0), .int a1, .int a2] : List Value).toArray below meth c s.heap [] 0 0 (MQ below (va_Qi post (kBR D ad cA cB) (kAR ad s.heap.size)) ([.ref (ad 0), .int a1, .int a2] : List Value).toArray s 0 0 (kAR ad s.heap.size)) (F0 m 0 ls [])
  suffices k : W p l e (headSpec (Cond.code y_R_hide c_R_hide 4 (some .boolean) :: wsG) ({ frames := 2, cells := 0, slots := 0, locals := 42 } : Room)).room s m ([.ref (ad 0), .int a1, .int a2] : List Value).toArray below meth c H [] 0 0 (MQ below (va_Qi post (kBR D ad cA cB) (kAR ad s.heap.size)) ([.ref (ad 0), .int a1, .int a2] : List Value).toArray s 0 0 (kAR ad s.heap.size)) (F0 m 0 ls []) by rw [eH] at k; exact k
  refine lv_aload_n hx hb d_R_hide_0 rfl (lv_at hl 0 rfl) ?_
  refine lv_iload_n hx hb d_R_hide_1 rfl (lv_at hl 1 rfl) ?_
  refine kR_i (va_runS (As := [.int a1]) (rest := [.ref (ad 0)]) ⟨hx, hb, hml, hown, htg⟩ (met_R_isContext l D ad cA cB hap σ H.size a1 _ h) (cwS 1 htg (kG (kG_S m_710 m_711 m_57 (kG_self m_712))) rfl rfl rfl (by decide +kernel) ⟨Nat.le_of_ble_eq_true rfl, Nat.le_of_ble_eq_true rfl⟩) (kR_pre hK hF hP hS _) rfl rfl hl.1 rfl (lv_room (Nat.le_of_ble_eq_true rfl)) d_R_hide_2 ⟨Nat.le_of_ble_eq_true rfl, Nat.le_of_ble_eq_true rfl⟩) hS (fun r2 σ1 H locs h hP hS => ?_)
  refine lv_if_ne (tgt := 12) hx hb d_R_hide_5 (by decide) (fun cn => ?_) (fun cn => ?_)
  · have h := h.1 cn
    refine lv_iconst (v := 0) hx hb d_R_hide_12 (by decide) ?_
    rw [hG13] at h
    exact h _ _ _ hP hS (lv_sub hl [0, 1, 2] rfl)
  · have h := h.2 cn
    refine lv_iconst (v := 1) hx hb d_R_hide_8 (by decide) ?_
    refine lv_goto (tgt := 13) hx hb d_R_hide_9 (by decide) ?_
    rw [hG13] at h
    exact h _ _ _ hP hS (lv_sub hl [0, 1, 2] rfl)
set_option maxHeartbeats 4000000 in
set_option maxRecDepth 100000 in
theorem met_R_group (l : Launch) (D : va_G) (ad : Nat → Nat) (cA cB : ClassId) (hap : kapR ad) (σ : S0) (sz : Nat) (a1 : Int32) (post : Int32 → S0 → Prop) (h : Sp_R_group a1 σ post) : Met l y_R_group (Cond.code y_R_group c_R_group 2 (some .int) :: wsG) ({ frames := 2, cells := 0, slots := 0, locals := 42 } : Room) (kPcR D ad cA cB σ sz [.ref (ad 0), .int a1]) (va_Qi post (kBR D ad cA cB) (kAR ad sz)) 0 0 (kAR ad sz) := by
  refine Met.ofW (cc := c_R_group) (maxL := 2) (ret := (some .int)) (by decide) rfl ?_
  intro p e s m args below meth c s₁ B hml hv
  obtain ⟨rfl, hsz, hP, hK, hF⟩ := hv
  have hx := B.exec
  have hb := B.bytes
  have hr := B.returns
  have hts := atoms_spec (ws := (Cond.code y_R_group c_R_group 2 (some .int) :: wsG)) B.pre
  have htg : ∀ w ∈ wsG, w.before ([.ref (ad 0), .int a1] : List Value).toArray s = true := fun w h => hts w (List.mem_cons_of_mem _ h)
  have hown : s.vm.findClass RX4 = some m.cls := findClass_of_methodNamed B.named
  have hlocks := B.notSynchronized
  subst hsz
  have hD : ∀ σ, va_D (kAR ad s.heap.size) (wR ad cA cB σ) := fun σ => wR_D hap cA cB σ _
  have hS : va_S (kAR ad s.heap.size) s.heap s.heap [] := va_S.rf
  have hl := lv_entry ([.ref (ad 0), .int a1]) (n := 2) (Nat.le_of_ble_eq_true rfl)
  rw [lg_entry_eq]
  generalize (lg_sl ([.ref (ad 0), .int a1]) ++ List.replicate (2 - (lg_sl ([.ref (ad 0), .int a1])).length) Slot.unset).toArray = ls at hl ⊢
  have hl : lv_has ls 2 [(0, .ref (ad 0)), (1, .int a1)] := hl
  unfold Sp_R_group at h
  obtain ⟨G13, hG13⟩ : ∃ G : Int32 → Int32 → S0 → Prop, G = fun (x1 t1 : Int32) (σ : S0) => ∀ (H : Heap) (locs : List Loc) (ls : Array Slot), va_P D vwCl (wR ad cA cB σ) H → va_S (kAR ad s.heap.size) s.heap H locs → lv_has ls 2 [(0, .ref (ad 0)), (1, .int x1)] → W p l e (headSpec (Cond.code y_R_group c_R_group 2 (some .int) :: wsG) ({ frames := 2, cells := 0, slots := 0, locals := 42 } : Room)).room s m ([.ref (ad 0), .int a1] : List Value).toArray below meth c H locs 0 0 (MQ below (va_Qi post (kBR D ad cA cB) (kAR ad s.heap.size)) ([.ref (ad 0), .int a1] : List Value).toArray s 0 0 (kAR ad s.heap.size)) (F0 m 13 ls [.int t1, .ref (ad 0)]) := ⟨_, rfl⟩
  have h := h G13
  have h := h (by
    intro x1 t1 σ h
    rw [hG13]
    intro H locs ls hP hS hl
    refine lv_iconst (v := 0) hx hb d_R_group_13 (by decide) ?_
    refine kR_i (va_runV (As := [.int t1, .int 0]) (rest := []) ⟨hx, hb, hml, hown, htg⟩ (met_R_throwing l D ad cA cB hap σ H.size t1 0 _ h) (cwV 2 htg (kG (kG_V m_716 m_718 m_26 m_57 (kG_self m_719))) rfl rfl rfl (by decide +kernel) ⟨Nat.le_of_ble_eq_true rfl, Nat.le_of_ble_eq_true rfl⟩) (kR_preV hK hF hP hS 0 rfl rfl _) rfl rfl hl.1 rfl (lv_room (Nat.le_of_ble_eq_true rfl)) d_R_group_14 ⟨Nat.le_of_ble_eq_true rfl, Nat.le_of_ble_eq_true rfl⟩) hS (fun r4 σ3 H locs h hP hS => ?_)
    refine lv_if_eq (tgt := 24) hx hb d_R_group_17 (by decide) (fun cn => ?_) (fun cn => ?_)
    · have h := h.1 cn
      refine lv_aload_n hx hb d_R_group_24 rfl (lv_at hl 0 rfl) ?_
      refine va_get (D := D) (ci := 4) (v := .ref (ad 2)) (C := RX4) (T := TX4) (N := 27) hx hb htg inG_X4 hown hK hP 0 rfl rfl 2 (by decide) (htg _ m_621) (fun _ h9 => h9) rfl d_R_group_25 ?_
      refine lv_iload_n hx hb d_R_group_28 rfl (lv_at hl 1 rfl) ?_
      have hi := h.1
      have h := h.2
      refine va_iald hx hb hK hP 2 0 rfl rfl hi d_R_group_29 ?_
      exact W.iret (v := (σ3 2 x1.toNatClampNeg)) hx hb hr (fun t ht hW => ⟨⟨_, σ3, rfl, h, kBR_of ht hP⟩, hS.F ht⟩) hS.2.2 d_R_group_30 hlocks
    · have h := h.2 cn
      refine lv_iconst (v := 0) hx hb d_R_group_20 (by decide) ?_
      refine lv_goto (tgt := 30) hx hb d_R_group_21 (by decide) ?_
      exact W.iret (v := 0) hx hb hr (fun t ht hW => ⟨⟨_, σ3, rfl, h, kBR_of ht hP⟩, hS.F ht⟩) hS.2.2 d_R_group_30 hlocks)
  obtain ⟨H, eH⟩ : ∃ z, z = s.heap := ⟨_, rfl⟩
  have hP : va_P D vwCl (wR ad cA cB σ) H := by rw [eH]; exact hP
  have hS : va_S (kAR ad s.heap.size) s.heap H [] := by rw [eH]; exact hS
  show W p l e (headSpec (Cond.code y_R_group c_R_group 2 (some .int) :: wsG) ({ frames := 2, cells := 0, slots := 0, locals := 42 } : Room)).room s m ([.ref (ad 0), .int a1] : List Value).toArray below meth c s.heap [] 0 0 (MQ below (va_Qi post (kBR D ad cA cB) (kAR ad s.heap.size)) ([.ref (ad 0), .int a1] : List Value).toArray s 0 0 (kAR ad s.heap.size)) (F0 m 0 ls [])
  suffices k : W p l e (headSpec (Cond.code y_R_group c_R_group 2 (some .int) :: wsG) ({ frames := 2, cells := 0, slots := 0, locals := 42 } : Room)).room s m ([.ref (ad 0), .int a1] : List Value).toArray below meth c H [] 0 0 (MQ below (va_Qi post (kBR D ad cA cB) (kAR ad s.heap.size)) ([.ref (ad 0), .int a1] : List Value).toArray s 0 0 (kAR ad s.heap.size)) (F0 m 0 ls []) by rw [eH] at k; exact k
  refine lv_aload_n hx hb d_R_group_0 rfl (lv_at hl 0 rfl) ?_
  refine lv_iload_n hx hb d_R_group_1 rfl (lv_at hl 1 rfl) ?_
  refine kR_i (va_runS (As := [.int a1]) (rest := [.ref (ad 0)]) ⟨hx, hb, hml, hown, htg⟩ (met_R_isContext l D ad cA cB hap σ H.size a1 _ h) (cwS 1 htg (kG (kG_S m_710 m_711 m_57 (kG_self m_712))) rfl rfl rfl (by decide +kernel) ⟨Nat.le_of_ble_eq_true rfl, Nat.le_of_ble_eq_true rfl⟩) (kR_pre hK hF hP hS _) rfl rfl hl.1 rfl (lv_room (Nat.le_of_ble_eq_true rfl)) d_R_group_2 ⟨Nat.le_of_ble_eq_true rfl, Nat.le_of_ble_eq_true rfl⟩) hS (fun r2 σ1 H locs h hP hS => ?_)
  refine lv_if_ne (tgt := 12) hx hb d_R_group_5 (by decide) (fun cn => ?_) (fun cn => ?_)
  · have h := h.1 cn
    refine lv_iconst (v := 0) hx hb d_R_group_12 (by decide) ?_
    rw [hG13] at h
    exact h _ _ _ hP hS (lv_sub hl [0, 1] rfl)
  · have h := h.2 cn
    refine lv_iconst (v := 1) hx hb d_R_group_8 (by decide) ?_
    refine lv_goto (tgt := 13) hx hb d_R_group_9 (by decide) ?_
    rw [hG13] at h
    exact h _ _ _ hP hS (lv_sub hl [0, 1] rfl)
set_option maxHeartbeats 4000000 in
set_option maxRecDepth 100000 in
theorem met_R_phaseOf (l : Launch) (D : va_G) (ad : Nat → Nat) (cA cB : ClassId) (hap : kapR ad) (σ : S0) (sz : Nat) (a1 : Int32) (post : Int32 → S0 → Prop) (h : Sp_R_phaseOf a1 σ post) : Met l y_R_phaseOf (Cond.code y_R_phaseOf c_R_phaseOf 4 (some .int) :: wsG) ({ frames := 0, cells := 0, slots := 0, locals := 0 } : Room) (kPcR D ad cA cB σ sz [.ref (ad 0), .int a1]) (va_Qi post (kBR D ad cA cB) (kAR ad sz)) 0 0 (kAR ad sz) := by
  refine Met.ofW (cc := c_R_phaseOf) (maxL := 4) (ret := (some .int)) (by decide) rfl ?_
  intro p e s m args below meth c s₁ B hml hv
  obtain ⟨rfl, hsz, hP, hK, hF⟩ := hv
  have hx := B.exec
  have hb := B.bytes
  have hr := B.returns
  have hts := atoms_spec (ws := (Cond.code y_R_phaseOf c_R_phaseOf 4 (some .int) :: wsG)) B.pre
  have htg : ∀ w ∈ wsG, w.before ([.ref (ad 0), .int a1] : List Value).toArray s = true := fun w h => hts w (List.mem_cons_of_mem _ h)
  have hown : s.vm.findClass RX4 = some m.cls := findClass_of_methodNamed B.named
  have hlocks := B.notSynchronized
  subst hsz
  have hD : ∀ σ, va_D (kAR ad s.heap.size) (wR ad cA cB σ) := fun σ => wR_D hap cA cB σ _
  have hS : va_S (kAR ad s.heap.size) s.heap s.heap [] := va_S.rf
  have hl := lv_entry ([.ref (ad 0), .int a1]) (n := 4) (Nat.le_of_ble_eq_true rfl)
  rw [lg_entry_eq]
  generalize (lg_sl ([.ref (ad 0), .int a1]) ++ List.replicate (4 - (lg_sl ([.ref (ad 0), .int a1])).length) Slot.unset).toArray = ls at hl ⊢
  have hl : lv_has ls 4 [(0, .ref (ad 0)), (1, .int a1)] := hl
  unfold Sp_R_phaseOf at h
  obtain ⟨G4, hG4⟩ : ∃ G : Int32 → Int32 → Int32 → S0 → Prop, G = fun (x1 x2 x3 : Int32) (σ : S0) => ∀ (H : Heap) (locs : List Loc) (ls : Array Slot), va_P D vwCl (wR ad cA cB σ) H → va_S (kAR ad s.heap.size) s.heap H locs → lv_has ls 4 [(0, .ref (ad 0)), (1, .int x1), (2, .int x2), (3, .int x3)] → W p l e (headSpec (Cond.code y_R_phaseOf c_R_phaseOf 4 (some .int) :: wsG) ({ frames := 0, cells := 0, slots := 0, locals := 0 } : Room)).room s m ([.ref (ad 0), .int a1] : List Value).toArray below meth c H locs 0 0 (MQ below (va_Qi post (kBR D ad cA cB) (kAR ad s.heap.size)) ([.ref (ad 0), .int a1] : List Value).toArray s 0 0 (kAR ad s.heap.size)) (F0 m 4 ls []) := ⟨_, rfl⟩
  obtain ⟨G43, hG43⟩ : ∃ G : Int32 → Int32 → S0 → Prop, G = fun (x1 x3 : Int32) (σ : S0) => ∀ (H : Heap) (locs : List Loc) (ls : Array Slot), va_P D vwCl (wR ad cA cB σ) H → va_S (kAR ad s.heap.size) s.heap H locs → lv_has ls 4 [(0, .ref (ad 0)), (1, .int x1), (3, .int x3)] → W p l e (headSpec (Cond.code y_R_phaseOf c_R_phaseOf 4 (some .int) :: wsG) ({ frames := 0, cells := 0, slots := 0, locals := 0 } : Room)).room s m ([.ref (ad 0), .int a1] : List Value).toArray below meth c H locs 0 0 (MQ below (va_Qi post (kBR D ad cA cB) (kAR ad s.heap.size)) ([.ref (ad 0), .int a1] : List Value).toArray s 0 0 (kAR ad s.heap.size)) (F0 m 43 ls []) := ⟨_, rfl⟩
  have h := h G4 G43
  have h := h (by
    intro x1 x2 x3 σ h
    rw [hG4]
    intro H locs ls hP hS hl
    refine lv_iload_n hx hb d_R_phaseOf_4 rfl (lv_at hl 3 rfl) ?_
    refine lv_bipush (v := 16) hx hb d_R_phaseOf_5 (by decide) ?_
    refine lv_icmp_ge (tgt := 56) hx hb d_R_phaseOf_7 (by decide) (fun cn => ?_) (fun cn => ?_)
    · have h := h.1 cn
      refine lv_iload_n hx hb d_R_phaseOf_56 rfl (lv_at hl 2 rfl) ?_
      exact W.iret (v := x2) hx hb hr (fun t ht hW => ⟨⟨_, σ, rfl, h, kBR_of ht hP⟩, hS.F ht⟩) hS.2.2 d_R_phaseOf_57 hlocks
    · have h := h.2 cn
      refine lv_aload_n hx hb d_R_phaseOf_10 rfl (lv_at hl 0 rfl) ?_
      refine va_get (D := D) (ci := 4) (v := .ref (ad 2)) (C := RX4) (T := TX4) (N := 27) hx hb htg inG_X4 hown hK hP 0 rfl rfl 2 (by decide) (htg _ m_621) (fun _ h9 => h9) rfl d_R_phaseOf_11 ?_
      refine lv_iload_n hx hb d_R_phaseOf_14 rfl (lv_at hl 3 rfl) ?_
      have hi := h.1
      have h := h.2
      refine va_iald hx hb hK hP 2 0 rfl rfl hi d_R_phaseOf_15 ?_
      refine lv_iload_n hx hb d_R_phaseOf_16 rfl (lv_at hl 1 rfl) ?_
      refine lv_icmp_ne (tgt := 50) hx hb d_R_phaseOf_17 (by decide) (fun cn => ?_) (fun cn => ?_)
      · have h := h.1 cn
        refine lv_iinc (v := (x3 + 1)) (lv' := [(3, .int (x3 + 1)), (0, .ref (ad 0)), (1, .int x1), (2, .int x2)]) hx hb d_R_phaseOf_50 hl (k := 3) rfl rfl (by decide) rfl (fun ls hl => ?_)
        refine lv_goto (tgt := 4) hx hb d_R_phaseOf_53 (by decide) ?_
        rw [hG4] at h
        exact h _ _ _ hP hS (lv_sub hl [1, 2, 3, 0] rfl)
      · have h := h.2 cn
        refine lv_aload_n hx hb d_R_phaseOf_20 rfl (lv_at hl 0 rfl) ?_
        refine va_get (D := D) (ci := 4) (v := .ref (ad 3)) (C := RX4) (T := TX4) (N := 27) hx hb htg inG_X4 hown hK hP 0 rfl rfl 3 (by decide) (htg _ m_622) (fun _ h9 => h9) rfl d_R_phaseOf_21 ?_
        refine lv_iload_n hx hb d_R_phaseOf_24 rfl (lv_at hl 3 rfl) ?_
        have hi := h.1
        have h := h.2
        refine va_iald hx hb hK hP 3 0 rfl rfl hi d_R_phaseOf_25 ?_
        refine lv_if_lt (tgt := 50) hx hb d_R_phaseOf_26 (by decide) (fun cn => ?_) (fun cn => ?_)
        · have h := h.1 cn
          refine lv_iinc (v := (x3 + 1)) (lv' := [(3, .int (x3 + 1)), (0, .ref (ad 0)), (1, .int x1), (2, .int x2)]) hx hb d_R_phaseOf_50 hl (k := 3) rfl rfl (by decide) rfl (fun ls hl => ?_)
          refine lv_goto (tgt := 4) hx hb d_R_phaseOf_53 (by decide) ?_
          rw [hG4] at h
          exact h _ _ _ hP hS (lv_sub hl [1, 2, 3, 0] rfl)
        · have h := h.2 cn
          refine lv_iload_n hx hb d_R_phaseOf_29 rfl (lv_at hl 2 rfl) ?_
          refine lv_if_lt (tgt := 43) hx hb d_R_phaseOf_30 (by decide) (fun cn => ?_) (fun cn => ?_)
          · have h := h.1 cn
            rw [hG43] at h
            exact h _ _ _ hP hS (lv_sub hl [0, 1, 3] rfl)
          · have h := h.2 cn
            refine lv_aload_n hx hb d_R_phaseOf_33 rfl (lv_at hl 0 rfl) ?_
            refine va_get (D := D) (ci := 4) (v := .ref (ad 3)) (C := RX4) (T := TX4) (N := 27) hx hb htg inG_X4 hown hK hP 0 rfl rfl 3 (by decide) (htg _ m_622) (fun _ h9 => h9) rfl d_R_phaseOf_34 ?_
            refine lv_iload_n hx hb d_R_phaseOf_37 rfl (lv_at hl 3 rfl) ?_
            have hi := h.1
            have h := h.2
            refine va_iald hx hb hK hP 3 0 rfl rfl hi d_R_phaseOf_38 ?_
            refine lv_iload_n hx hb d_R_phaseOf_39 rfl (lv_at hl 2 rfl) ?_
            refine lv_icmp_ge (tgt := 50) hx hb d_R_phaseOf_40 (by decide) (fun cn => ?_) (fun cn => ?_)
            · have h := h.1 cn
              refine lv_iinc (v := (x3 + 1)) (lv' := [(3, .int (x3 + 1)), (0, .ref (ad 0)), (1, .int x1), (2, .int x2)]) hx hb d_R_phaseOf_50 hl (k := 3) rfl rfl (by decide) rfl (fun ls hl => ?_)
              refine lv_goto (tgt := 4) hx hb d_R_phaseOf_53 (by decide) ?_
              rw [hG4] at h
              exact h _ _ _ hP hS (lv_sub hl [1, 2, 3, 0] rfl)
            · have h := h.2 cn
              rw [hG43] at h
              exact h _ _ _ hP hS (lv_sub hl [0, 1, 3] rfl))
  have h := h (by
    intro x1 x3 σ h
    rw [hG43]
    intro H locs ls hP hS hl
    refine lv_aload_n hx hb d_R_phaseOf_43 rfl (lv_at hl 0 rfl) ?_
    refine va_get (D := D) (ci := 4) (v := .ref (ad 3)) (C := RX4) (T := TX4) (N := 27) hx hb htg inG_X4 hown hK hP 0 rfl rfl 3 (by decide) (htg _ m_622) (fun _ h9 => h9) rfl d_R_phaseOf_44 ?_
    refine lv_iload_n hx hb d_R_phaseOf_47 rfl (lv_at hl 2 rfl) ?_
    have hi := h.1
    have h := h.2
    refine va_iald hx hb hK hP 3 0 rfl rfl hi d_R_phaseOf_48 ?_
    refine lv_topi (fun v1 ev1 => ?_)
    have h := h v1 ev1
    refine lv_istore_n (lv' := [(2, .int v1), (0, .ref (ad 0)), (1, .int x1), (3, .int x3)]) hx hb d_R_phaseOf_49 rfl hl (by decide) rfl (fun ls hl => ?_)
    refine lv_iinc (v := (x3 + 1)) (lv' := [(3, .int (x3 + 1)), (2, .int v1), (0, .ref (ad 0)), (1, .int x1)]) hx hb d_R_phaseOf_50 hl (k := 3) rfl rfl (by decide) rfl (fun ls hl => ?_)
    refine lv_goto (tgt := 4) hx hb d_R_phaseOf_53 (by decide) ?_
    rw [hG4] at h
    exact h _ _ _ hP hS (lv_sub hl [2, 3, 1, 0] rfl))
  obtain ⟨H, eH⟩ : ∃ z, z = s.heap := ⟨_, rfl⟩
  have hP : va_P D vwCl (wR ad cA cB σ) H := by rw [eH]; exact hP
  have hS : va_S (kAR ad s.heap.size) s.heap H [] := by rw [eH]; exact hS
  show W p l e (headSpec (Cond.code y_R_phaseOf c_R_phaseOf 4 (some .int) :: wsG) ({ frames := 0, cells := 0, slots := 0, locals := 0 } : Room)).room s m ([.ref (ad 0), .int a1] : List Value).toArray below meth c s.heap [] 0 0 (MQ below (va_Qi post (kBR D ad cA cB) (kAR ad s.heap.size)) ([.ref (ad 0), .int a1] : List Value).toArray s 0 0 (kAR ad s.heap.size)) (F0 m 0 ls [])
  suffices k : W p l e (headSpec (Cond.code y_R_phaseOf c_R_phaseOf 4 (some .int) :: wsG) ({ frames := 0, cells := 0, slots := 0, locals := 0 } : Room)).room s m ([.ref (ad 0), .int a1] : List Value).toArray below meth c H [] 0 0 (MQ below (va_Qi post (kBR D ad cA cB) (kAR ad s.heap.size)) ([.ref (ad 0), .int a1] : List Value).toArray s 0 0 (kAR ad s.heap.size)) (F0 m 0 ls []) by rw [eH] at k; exact k
  refine lv_iconst (v := (-1)) hx hb d_R_phaseOf_0 (by decide) ?_
  refine lv_istore_n (lv' := [(2, .int (-1)), (0, .ref (ad 0)), (1, .int a1)]) hx hb d_R_phaseOf_1 rfl hl (by decide) rfl (fun ls hl => ?_)
  refine lv_iconst (v := 0) hx hb d_R_phaseOf_2 (by decide) ?_
  refine lv_istore_n (lv' := [(3, .int 0), (2, .int (-1)), (0, .ref (ad 0)), (1, .int a1)]) hx hb d_R_phaseOf_3 rfl hl (by decide) rfl (fun ls hl => ?_)
  rw [hG4] at h
  exact h _ _ _ hP hS (lv_sub hl [2, 3, 1, 0] rfl)
set_option maxHeartbeats 4000000 in
set_option maxRecDepth 100000 in
theorem met_R_misfits (l : Launch) (D : va_G) (ad : Nat → Nat) (cA cB : ClassId) (hap : kapR ad) (σ : S0) (sz : Nat) (a1 a2 : Int32) (post : Int32 → S0 → Prop) (h : Sp_R_misfits a1 a2 σ post) : Met l y_R_misfits (Cond.code y_R_misfits c_R_misfits 3 (some .boolean) :: wsG) ({ frames := 1, cells := 0, slots := 0, locals := 23 } : Room) (kPcR D ad cA cB σ sz [.ref (ad 0), .int a1, .int a2]) (va_Qi post (kBR D ad cA cB) (kAR ad sz)) 0 0 (kAR ad sz) := by
  refine Met.ofW (cc := c_R_misfits) (maxL := 3) (ret := (some .boolean)) (by decide) rfl ?_
  intro p e s m args below meth c s₁ B hml hv
  obtain ⟨rfl, hsz, hP, hK, hF⟩ := hv
  have hx := B.exec
  have hb := B.bytes
  have hr := B.returns
  have hts := atoms_spec (ws := (Cond.code y_R_misfits c_R_misfits 3 (some .boolean) :: wsG)) B.pre
  have htg : ∀ w ∈ wsG, w.before ([.ref (ad 0), .int a1, .int a2] : List Value).toArray s = true := fun w h => hts w (List.mem_cons_of_mem _ h)
  have hown : s.vm.findClass RX4 = some m.cls := findClass_of_methodNamed B.named
  have hlocks := B.notSynchronized
  subst hsz
  have hD : ∀ σ, va_D (kAR ad s.heap.size) (wR ad cA cB σ) := fun σ => wR_D hap cA cB σ _
  have hS : va_S (kAR ad s.heap.size) s.heap s.heap [] := va_S.rf
  have hl := lv_entry ([.ref (ad 0), .int a1, .int a2]) (n := 3) (Nat.le_of_ble_eq_true rfl)
  rw [lg_entry_eq]
  generalize (lg_sl ([.ref (ad 0), .int a1, .int a2]) ++ List.replicate (3 - (lg_sl ([.ref (ad 0), .int a1, .int a2])).length) Slot.unset).toArray = ls at hl ⊢
  have hl : lv_has ls 3 [(0, .ref (ad 0)), (1, .int a1), (2, .int a2)] := hl
  unfold Sp_R_misfits at h
  obtain ⟨H, eH⟩ : ∃ z, z = s.heap := ⟨_, rfl⟩
  have hP : va_P D vwCl (wR ad cA cB σ) H := by rw [eH]; exact hP
  have hS : va_S (kAR ad s.heap.size) s.heap H [] := by rw [eH]; exact hS
  show W p l e (headSpec (Cond.code y_R_misfits c_R_misfits 3 (some .boolean) :: wsG) ({ frames := 1, cells := 0, slots := 0, locals := 23 } : Room)).room s m ([.ref (ad 0), .int a1, .int a2] : List Value).toArray below meth c s.heap [] 0 0 (MQ below (va_Qi post (kBR D ad cA cB) (kAR ad s.heap.size)) ([.ref (ad 0), .int a1, .int a2] : List Value).toArray s 0 0 (kAR ad s.heap.size)) (F0 m 0 ls [])
  suffices k : W p l e (headSpec (Cond.code y_R_misfits c_R_misfits 3 (some .boolean) :: wsG) ({ frames := 1, cells := 0, slots := 0, locals := 23 } : Room)).room s m ([.ref (ad 0), .int a1, .int a2] : List Value).toArray below meth c H [] 0 0 (MQ below (va_Qi post (kBR D ad cA cB) (kAR ad s.heap.size)) ([.ref (ad 0), .int a1, .int a2] : List Value).toArray s 0 0 (kAR ad s.heap.size)) (F0 m 0 ls []) by rw [eH] at k; exact k
  refine lv_aload_n hx hb d_R_misfits_0 rfl (lv_at hl 0 rfl) ?_
  refine va_get (D := D) (ci := 4) (v := .ref (ad 6)) (C := RX4) (T := TX4) (N := 27) hx hb htg inG_X4 hown hK hP 0 rfl rfl 6 (by decide) (htg _ m_625) (fun _ h9 => h9) rfl d_R_misfits_1 ?_
  refine lv_bipush (v := 16) hx hb d_R_misfits_4 (by decide) ?_
  refine lv_iload_n hx hb d_R_misfits_6 rfl (lv_at hl 1 rfl) ?_
  refine lv_imul hx hb d_R_misfits_7 ?_
  refine lv_iload_n hx hb d_R_misfits_8 rfl (lv_at hl 2 rfl) ?_
  refine lv_iadd hx hb d_R_misfits_9 ?_
  have hi := h.1
  have h := h.2
  refine va_zald hx hb hK hP 6 1 rfl rfl hi d_R_misfits_10 ?_
  refine lv_if_eq (tgt := 39) hx hb d_R_misfits_11 (by decide) (fun cn => ?_) (fun cn => ?_)
  · have h := h.1 cn
    refine lv_iconst (v := 0) hx hb d_R_misfits_39 (by decide) ?_
    exact W.zret (v := 0) hx hb hr rfl (fun t ht hW => ⟨⟨_, σ, rfl, h, kBR_of ht hP⟩, hS.F ht⟩) hS.2.2 d_R_misfits_40 hlocks
  · have h := h.2 cn
    refine lv_aload_n hx hb d_R_misfits_14 rfl (lv_at hl 0 rfl) ?_
    refine lv_iload_n hx hb d_R_misfits_15 rfl (lv_at hl 2 rfl) ?_
    refine kR_i (va_runV (As := [.int a2]) (rest := []) ⟨hx, hb, hml, hown, htg⟩ (met_R_phaseOf l D ad cA cB hap σ H.size a2 _ h) (cwV 1 htg (kG (kG_V m_760 m_762 m_32 m_57 (kG_self m_763))) rfl rfl rfl (by decide +kernel) ⟨Nat.le_of_ble_eq_true rfl, Nat.le_of_ble_eq_true rfl⟩) (kR_preV hK hF hP hS 0 rfl rfl _) rfl rfl hl.1 rfl (lv_room (Nat.le_of_ble_eq_true rfl)) d_R_misfits_16 ⟨Nat.le_of_ble_eq_true rfl, Nat.le_of_ble_eq_true rfl⟩) hS (fun r2 σ1 H locs h hP hS => ?_)
    refine lv_if_lt (tgt := 39) hx hb d_R_misfits_19 (by decide) (fun cn => ?_) (fun cn => ?_)
    · have h := h.1 cn
      refine lv_iconst (v := 0) hx hb d_R_misfits_39 (by decide) ?_
      exact W.zret (v := 0) hx hb hr rfl (fun t ht hW => ⟨⟨_, σ1, rfl, h, kBR_of ht hP⟩, hS.F ht⟩) hS.2.2 d_R_misfits_40 hlocks
    · have h := h.2 cn
      refine lv_aload_n hx hb d_R_misfits_22 rfl (lv_at hl 0 rfl) ?_
      refine lv_iload_n hx hb d_R_misfits_23 rfl (lv_at hl 1 rfl) ?_
      refine kR_i (va_runV (As := [.int a1]) (rest := []) ⟨hx, hb, hml, hown, htg⟩ (met_R_phaseOf l D ad cA cB hap σ1 H.size a1 _ h) (cwV 1 htg (kG (kG_V m_760 m_762 m_32 m_57 (kG_self m_763))) rfl rfl rfl (by decide +kernel) ⟨Nat.le_of_ble_eq_true rfl, Nat.le_of_ble_eq_true rfl⟩) (kR_preV hK hF hP hS 0 rfl rfl _) rfl rfl hl.1 rfl (lv_room (Nat.le_of_ble_eq_true rfl)) d_R_misfits_24 ⟨Nat.le_of_ble_eq_true rfl, Nat.le_of_ble_eq_true rfl⟩) hS (fun r4 σ3 H locs h hP hS => ?_)
      refine lv_aload_n hx hb d_R_misfits_27 rfl (lv_at hl 0 rfl) ?_
      refine lv_iload_n hx hb d_R_misfits_28 rfl (lv_at hl 2 rfl) ?_
      refine kR_i (va_runV (As := [.int a2]) (rest := [.int r4]) ⟨hx, hb, hml, hown, htg⟩ (met_R_phaseOf l D ad cA cB hap σ3 H.size a2 _ h) (cwV 1 htg (kG (kG_V m_760 m_762 m_32 m_57 (kG_self m_763))) rfl rfl rfl (by decide +kernel) ⟨Nat.le_of_ble_eq_true rfl, Nat.le_of_ble_eq_true rfl⟩) (kR_preV hK hF hP hS 0 rfl rfl _) rfl rfl hl.1 rfl (lv_room (Nat.le_of_ble_eq_true rfl)) d_R_misfits_29 ⟨Nat.le_of_ble_eq_true rfl, Nat.le_of_ble_eq_true rfl⟩) hS (fun r6 σ5 H locs h hP hS => ?_)
      refine lv_icmp_le (tgt := 39) hx hb d_R_misfits_32 (by decide) (fun cn => ?_) (fun cn => ?_)
      · have h := h.1 cn
        refine lv_iconst (v := 0) hx hb d_R_misfits_39 (by decide) ?_
        exact W.zret (v := 0) hx hb hr rfl (fun t ht hW => ⟨⟨_, σ5, rfl, h, kBR_of ht hP⟩, hS.F ht⟩) hS.2.2 d_R_misfits_40 hlocks
      · have h := h.2 cn
        refine lv_iconst (v := 1) hx hb d_R_misfits_35 (by decide) ?_
        refine lv_goto (tgt := 40) hx hb d_R_misfits_36 (by decide) ?_
        exact W.zret (v := 1) hx hb hr rfl (fun t ht hW => ⟨⟨_, σ5, rfl, h, kBR_of ht hP⟩, hS.F ht⟩) hS.2.2 d_R_misfits_40 hlocks
set_option maxHeartbeats 4000000 in
set_option maxRecDepth 100000 in
theorem met_R_misfit (l : Launch) (D : va_G) (ad : Nat → Nat) (cA cB : ClassId) (hap : kapR ad) (σ : S0) (sz : Nat) (a1 a2 : Int32) (post : Int32 → S0 → Prop) (h : Sp_R_misfit a1 a2 σ post) : Met l y_R_misfit (Cond.code y_R_misfit c_R_misfit 5 (some .int) :: wsG) ({ frames := 2, cells := 0, slots := 0, locals := 45 } : Room) (kPcR D ad cA cB σ sz [.ref (ad 0), .int a1, .int a2]) (va_Qi post (kBR D ad cA cB) (kAR ad sz)) 0 0 (kAR ad sz) := by
  refine Met.ofW (cc := c_R_misfit) (maxL := 5) (ret := (some .int)) (by decide) rfl ?_
  intro p e s m args below meth c s₁ B hml hv
  obtain ⟨rfl, hsz, hP, hK, hF⟩ := hv
  have hx := B.exec
  have hb := B.bytes
  have hr := B.returns
  have hts := atoms_spec (ws := (Cond.code y_R_misfit c_R_misfit 5 (some .int) :: wsG)) B.pre
  have htg : ∀ w ∈ wsG, w.before ([.ref (ad 0), .int a1, .int a2] : List Value).toArray s = true := fun w h => hts w (List.mem_cons_of_mem _ h)
  have hown : s.vm.findClass RX4 = some m.cls := findClass_of_methodNamed B.named
  have hlocks := B.notSynchronized
  subst hsz
  have hD : ∀ σ, va_D (kAR ad s.heap.size) (wR ad cA cB σ) := fun σ => wR_D hap cA cB σ _
  have hS : va_S (kAR ad s.heap.size) s.heap s.heap [] := va_S.rf
  have hl := lv_entry ([.ref (ad 0), .int a1, .int a2]) (n := 5) (Nat.le_of_ble_eq_true rfl)
  rw [lg_entry_eq]
  generalize (lg_sl ([.ref (ad 0), .int a1, .int a2]) ++ List.replicate (5 - (lg_sl ([.ref (ad 0), .int a1, .int a2])).length) Slot.unset).toArray = ls at hl ⊢
  have hl : lv_has ls 5 [(0, .ref (ad 0)), (1, .int a1), (2, .int a2)] := hl
  unfold Sp_R_misfit at h
  obtain ⟨G19, hG19⟩ : ∃ G : Int32 → Int32 → Int32 → S0 → Prop, G = fun (x1 x2 t1 : Int32) (σ : S0) => ∀ (H : Heap) (locs : List Loc) (ls : Array Slot), va_P D vwCl (wR ad cA cB σ) H → va_S (kAR ad s.heap.size) s.heap H locs → lv_has ls 5 [(0, .ref (ad 0)), (1, .int x1), (2, .int x2)] → W p l e (headSpec (Cond.code y_R_misfit c_R_misfit 5 (some .int) :: wsG) ({ frames := 2, cells := 0, slots := 0, locals := 45 } : Room)).room s m ([.ref (ad 0), .int a1, .int a2] : List Value).toArray below meth c H locs 0 0 (MQ below (va_Qi post (kBR D ad cA cB) (kAR ad s.heap.size)) ([.ref (ad 0), .int a1, .int a2] : List Value).toArray s 0 0 (kAR ad s.heap.size)) (F0 m 19 ls [.int t1, .ref (ad 0)]) := ⟨_, rfl⟩
  obtain ⟨G37, hG37⟩ : ∃ G : Int32 → Int32 → Int32 → S0 → Prop, G = fun (x2 x3 x4 : Int32) (σ : S0) => ∀ (H : Heap) (locs : List Loc) (ls : Array Slot), va_P D vwCl (wR ad cA cB σ) H → va_S (kAR ad s.heap.size) s.heap H locs → lv_has ls 5 [(0, .ref (ad 0)), (2, .int x2), (3, .int x3), (4, .int x4)] → W p l e (headSpec (Cond.code y_R_misfit c_R_misfit 5 (some .int) :: wsG) ({ frames := 2, cells := 0, slots := 0, locals := 45 } : Room)).room s m ([.ref (ad 0), .int a1, .int a2] : List Value).toArray below meth c H locs 0 0 (MQ below (va_Qi post (kBR D ad cA cB) (kAR ad s.heap.size)) ([.ref (ad 0), .int a1, .int a2] : List Value).toArray s 0 0 (kAR ad s.heap.size)) (F0 m 37 ls []) := ⟨_, rfl⟩
  have h := h G19 G37
  have h := h (by
    intro x1 x2 t1 σ h
    rw [hG19]
    intro H locs ls hP hS hl
    refine lv_iconst (v := 0) hx hb d_R_misfit_19 (by decide) ?_
    refine kR_i (va_runV (As := [.int t1, .int 0]) (rest := []) ⟨hx, hb, hml, hown, htg⟩ (met_R_throwing l D ad cA cB hap σ H.size t1 0 _ h) (cwV 2 htg (kG (kG_V m_716 m_718 m_26 m_57 (kG_self m_719))) rfl rfl rfl (by decide +kernel) ⟨Nat.le_of_ble_eq_true rfl, Nat.le_of_ble_eq_true rfl⟩) (kR_preV hK hF hP hS 0 rfl rfl _) rfl rfl hl.1 rfl (lv_room (Nat.le_of_ble_eq_true rfl)) d_R_misfit_20 ⟨Nat.le_of_ble_eq_true rfl, Nat.le_of_ble_eq_true rfl⟩) hS (fun r4 σ3 H locs h hP hS => ?_)
    refine lv_if_eq (tgt := 28) hx hb d_R_misfit_23 (by decide) (fun cn => ?_) (fun cn => ?_)
    · have h := h.1 cn
      refine lv_aload_n hx hb d_R_misfit_28 rfl (lv_at hl 0 rfl) ?_
      refine kR_v (va_runV (As := []) (rest := []) ⟨hx, hb, hml, hown, htg⟩ (met_R_findOver l D ad cA cB hap σ3 H.size _ h) (cwV 0 htg (kG (kG_V m_724 m_726 m_28 m_57 (kG_self m_727))) rfl rfl rfl (by decide +kernel) ⟨Nat.le_of_ble_eq_true rfl, Nat.le_of_ble_eq_true rfl⟩) (kR_preV hK hF hP hS 0 rfl rfl _) rfl rfl hl.1 rfl (lv_room (Nat.le_of_ble_eq_true rfl)) d_R_misfit_29 ⟨Nat.le_of_ble_eq_true rfl, Nat.le_of_ble_eq_true rfl⟩) hS (fun σ5 H locs h hP hS => ?_)
      refine lv_iload_n hx hb d_R_misfit_32 rfl (lv_at hl 1 rfl) ?_
      refine lv_istore_n (lv' := [(3, .int x1), (0, .ref (ad 0)), (1, .int x1), (2, .int x2)]) hx hb d_R_misfit_33 rfl hl (by decide) rfl (fun ls hl => ?_)
      refine lv_iconst (v := 0) hx hb d_R_misfit_34 (by decide) ?_
      refine lv_istore (lv' := [(4, .int 0), (3, .int x1), (0, .ref (ad 0)), (1, .int x1), (2, .int x2)]) hx hb d_R_misfit_35 hl (by decide) rfl (fun ls hl => ?_)
      rw [hG37] at h
      exact h _ _ _ hP hS (lv_sub hl [2, 4, 1, 0] rfl)
    · have h := h.2 cn
      refine lv_iconst (v := 0) hx hb d_R_misfit_26 (by decide) ?_
      exact W.iret (v := 0) hx hb hr (fun t ht hW => ⟨⟨_, σ3, rfl, h, kBR_of ht hP⟩, hS.F ht⟩) hS.2.2 d_R_misfit_27 hlocks)
  have h := h (by
    intro x2 x3 x4 σ h
    rw [hG37]
    intro H locs ls hP hS hl
    refine lv_iload hx hb d_R_misfit_37 (lv_at hl 3 rfl) ?_
    refine lv_sipush (v := 256) hx hb d_R_misfit_39 (by decide) ?_
    refine lv_icmp_ge (tgt := 96) hx hb d_R_misfit_42 (by decide) (fun cn => ?_) (fun cn => ?_)
    · have h := h.1 cn
      refine lv_iconst (v := (-1)) hx hb d_R_misfit_96 (by decide) ?_
      exact W.iret (v := (-1)) hx hb hr (fun t ht hW => ⟨⟨_, σ, rfl, h, kBR_of ht hP⟩, hS.F ht⟩) hS.2.2 d_R_misfit_97 hlocks
    · have h := h.2 cn
      refine lv_aload_n hx hb d_R_misfit_45 rfl (lv_at hl 0 rfl) ?_
      refine lv_iload hx hb d_R_misfit_46 (lv_at hl 3 rfl) ?_
      refine lv_bipush (v := 16) hx hb d_R_misfit_48 (by decide) ?_
      refine lv_idiv hx hb d_R_misfit_50 (by decide) ?_
      refine lv_iload hx hb d_R_misfit_51 (lv_at hl 3 rfl) ?_
      refine lv_bipush (v := 16) hx hb d_R_misfit_53 (by decide) ?_
      refine lv_irem hx hb d_R_misfit_55 (by decide) ?_
      refine kR_i (va_runV (As := [.int (x4 / 16), .int (x4 - x4 / 16 * 16)]) (rest := []) ⟨hx, hb, hml, hown, htg⟩ (met_R_misfits l D ad cA cB hap σ H.size (x4 / 16) (x4 - x4 / 16 * 16) _ h) (cwV 2 htg (kG (kG_V m_756 m_758 m_31 m_57 (kG_self m_759))) rfl rfl rfl (by decide +kernel) ⟨Nat.le_of_ble_eq_true rfl, Nat.le_of_ble_eq_true rfl⟩) (kR_preV hK hF hP hS 0 rfl rfl _) rfl rfl hl.1 rfl (lv_room (Nat.le_of_ble_eq_true rfl)) d_R_misfit_56 ⟨Nat.le_of_ble_eq_true rfl, Nat.le_of_ble_eq_true rfl⟩) hS (fun r7 σ6 H locs h hP hS => ?_)
      refine lv_if_ne (tgt := 65) hx hb d_R_misfit_59 (by decide) (fun cn => ?_) (fun cn => ?_)
      · have h := h.1 cn
        refine lv_iload_n hx hb d_R_misfit_65 rfl (lv_at hl 2 rfl) ?_
        refine lv_if_ne (tgt := 87) hx hb d_R_misfit_66 (by decide) (fun cn => ?_) (fun cn => ?_)
        · have h := h.1 cn
          refine lv_iinc (v := (x3 + (-1))) (lv' := [(3, .int (x3 + (-1))), (0, .ref (ad 0)), (2, .int x2), (4, .int x4)]) hx hb d_R_misfit_87 hl (k := 2) rfl rfl (by decide) rfl (fun ls hl => ?_)
          refine lv_iinc (v := (x4 + 1)) (lv' := [(4, .int (x4 + 1)), (3, .int (x3 + (-1))), (0, .ref (ad 0)), (2, .int x2)]) hx hb d_R_misfit_90 hl (k := 3) rfl rfl (by decide) rfl (fun ls hl => ?_)
          refine lv_goto (tgt := 37) hx hb d_R_misfit_93 (by decide) ?_
          rw [hG37] at h
          exact h _ _ _ hP hS (lv_sub hl [2, 3, 1, 0] rfl)
        · have h := h.2 cn
          refine lv_iload_n hx hb d_R_misfit_69 rfl (lv_at hl 1 rfl) ?_
          refine lv_if_ne (tgt := 81) hx hb d_R_misfit_70 (by decide) (fun cn => ?_) (fun cn => ?_)
          · have h := h.1 cn
            refine lv_iload hx hb d_R_misfit_81 (lv_at hl 3 rfl) ?_
            refine lv_bipush (v := 16) hx hb d_R_misfit_83 (by decide) ?_
            refine lv_irem hx hb d_R_misfit_85 (by decide) ?_
            exact W.iret (v := (x4 - x4 / 16 * 16)) hx hb hr (fun t ht hW => ⟨⟨_, σ6, rfl, h, kBR_of ht hP⟩, hS.F ht⟩) hS.2.2 d_R_misfit_86 hlocks
          · have h := h.2 cn
            refine lv_iload hx hb d_R_misfit_73 (lv_at hl 3 rfl) ?_
            refine lv_bipush (v := 16) hx hb d_R_misfit_75 (by decide) ?_
            refine lv_idiv hx hb d_R_misfit_77 (by decide) ?_
            refine lv_goto (tgt := 86) hx hb d_R_misfit_78 (by decide) ?_
            exact W.iret (v := (x4 / 16)) hx hb hr (fun t ht hW => ⟨⟨_, σ6, rfl, h, kBR_of ht hP⟩, hS.F ht⟩) hS.2.2 d_R_misfit_86 hlocks
      · have h := h.2 cn
        refine lv_goto (tgt := 90) hx hb d_R_misfit_62 (by decide) ?_
        refine lv_iinc (v := (x4 + 1)) (lv' := [(4, .int (x4 + 1)), (0, .ref (ad 0)), (2, .int x2), (3, .int x3)]) hx hb d_R_misfit_90 hl (k := 3) rfl rfl (by decide) rfl (fun ls hl => ?_)
        refine lv_goto (tgt := 37) hx hb d_R_misfit_93 (by decide) ?_
        rw [hG37] at h
        exact h _ _ _ hP hS (lv_sub hl [1, 2, 3, 0] rfl))
  obtain ⟨H, eH⟩ : ∃ z, z = s.heap := ⟨_, rfl⟩
  have hP : va_P D vwCl (wR ad cA cB σ) H := by rw [eH]; exact hP
  have hS : va_S (kAR ad s.heap.size) s.heap H [] := by rw [eH]; exact hS
  show W p l e (headSpec (Cond.code y_R_misfit c_R_misfit 5 (some .int) :: wsG) ({ frames := 2, cells := 0, slots := 0, locals := 45 } : Room)).room s m ([.ref (ad 0), .int a1, .int a2] : List Value).toArray below meth c s.heap [] 0 0 (MQ below (va_Qi post (kBR D ad cA cB) (kAR ad s.heap.size)) ([.ref (ad 0), .int a1, .int a2] : List Value).toArray s 0 0 (kAR ad s.heap.size)) (F0 m 0 ls [])
  suffices k : W p l e (headSpec (Cond.code y_R_misfit c_R_misfit 5 (some .int) :: wsG) ({ frames := 2, cells := 0, slots := 0, locals := 45 } : Room)).room s m ([.ref (ad 0), .int a1, .int a2] : List Value).toArray below meth c H [] 0 0 (MQ below (va_Qi post (kBR D ad cA cB) (kAR ad s.heap.size)) ([.ref (ad 0), .int a1, .int a2] : List Value).toArray s 0 0 (kAR ad s.heap.size)) (F0 m 0 ls []) by rw [eH] at k; exact k
  refine lv_aload_n hx hb d_R_misfit_0 rfl (lv_at hl 0 rfl) ?_
  refine lv_iload_n hx hb d_R_misfit_1 rfl (lv_at hl 1 rfl) ?_
  refine lv_if_lt (tgt := 14) hx hb d_R_misfit_2 (by decide) (fun cn => ?_) (fun cn => ?_)
  · have h := h.1 cn
    refine lv_iconst (v := 1) hx hb d_R_misfit_14 (by decide) ?_
    refine lv_goto (tgt := 19) hx hb d_R_misfit_15 (by decide) ?_
    rw [hG19] at h
    exact h _ _ _ hP hS (lv_sub hl [0, 1, 2] rfl)
  · have h := h.2 cn
    refine lv_iload_n hx hb d_R_misfit_5 rfl (lv_at hl 2 rfl) ?_
    refine lv_iconst (v := 0) hx hb d_R_misfit_6 (by decide) ?_
    refine lv_iconst (v := 1) hx hb d_R_misfit_7 (by decide) ?_
    refine kR_i (va_runS (As := [.int a2, .int 0, .int 1]) (rest := [.ref (ad 0)]) ⟨hx, hb, hml, hown, htg⟩ (met_R_in l D ad cA cB hap σ H.size a2 0 1 _ h) (cwS 3 htg (kG (kG_S m_713 m_714 m_57 (kG_self m_715))) rfl rfl rfl (by decide +kernel) ⟨Nat.le_of_ble_eq_true rfl, Nat.le_of_ble_eq_true rfl⟩) (kR_pre hK hF hP hS _) rfl rfl hl.1 rfl (lv_room (Nat.le_of_ble_eq_true rfl)) d_R_misfit_8 ⟨Nat.le_of_ble_eq_true rfl, Nat.le_of_ble_eq_true rfl⟩) hS (fun r2 σ1 H locs h hP hS => ?_)
    refine lv_if_ne (tgt := 18) hx hb d_R_misfit_11 (by decide) (fun cn => ?_) (fun cn => ?_)
    · have h := h.1 cn
      refine lv_iconst (v := 0) hx hb d_R_misfit_18 (by decide) ?_
      rw [hG19] at h
      exact h _ _ _ hP hS (lv_sub hl [0, 1, 2] rfl)
    · have h := h.2 cn
      refine lv_iconst (v := 1) hx hb d_R_misfit_14 (by decide) ?_
      refine lv_goto (tgt := 19) hx hb d_R_misfit_15 (by decide) ?_
      rw [hG19] at h
      exact h _ _ _ hP hS (lv_sub hl [0, 1, 2] rfl)
set_option maxHeartbeats 4000000 in
set_option maxRecDepth 100000 in
theorem met_R_isHidden (l : Launch) (D : va_G) (ad : Nat → Nat) (cA cB : ClassId) (hap : kapR ad) (σ : S0) (sz : Nat) (a1 : Int32) (post : Int32 → S0 → Prop) (h : Sp_R_isHidden a1 σ post) : Met l y_R_isHidden (Cond.code y_R_isHidden c_R_isHidden 4 (some .boolean) :: wsG) ({ frames := 0, cells := 0, slots := 0, locals := 0 } : Room) (kPcR D ad cA cB σ sz [.ref (ad 0), .int a1]) (va_Qi post (kBR D ad cA cB) (kAR ad sz)) 0 0 (kAR ad sz) := by
  refine Met.ofW (cc := c_R_isHidden) (maxL := 4) (ret := (some .boolean)) (by decide) rfl ?_
  intro p e s m args below meth c s₁ B hml hv
  obtain ⟨rfl, hsz, hP, hK, hF⟩ := hv
  have hx := B.exec
  have hb := B.bytes
  have hr := B.returns
  have hts := atoms_spec (ws := (Cond.code y_R_isHidden c_R_isHidden 4 (some .boolean) :: wsG)) B.pre
  have htg : ∀ w ∈ wsG, w.before ([.ref (ad 0), .int a1] : List Value).toArray s = true := fun w h => hts w (List.mem_cons_of_mem _ h)
  have hown : s.vm.findClass RX4 = some m.cls := findClass_of_methodNamed B.named
  have hlocks := B.notSynchronized
  subst hsz
  have hD : ∀ σ, va_D (kAR ad s.heap.size) (wR ad cA cB σ) := fun σ => wR_D hap cA cB σ _
  have hS : va_S (kAR ad s.heap.size) s.heap s.heap [] := va_S.rf
  have hl := lv_entry ([.ref (ad 0), .int a1]) (n := 4) (Nat.le_of_ble_eq_true rfl)
  rw [lg_entry_eq]
  generalize (lg_sl ([.ref (ad 0), .int a1]) ++ List.replicate (4 - (lg_sl ([.ref (ad 0), .int a1])).length) Slot.unset).toArray = ls at hl ⊢
  have hl : lv_has ls 4 [(0, .ref (ad 0)), (1, .int a1)] := hl
  unfold Sp_R_isHidden at h
  obtain ⟨G4, hG4⟩ : ∃ G : Int32 → Int32 → Int32 → S0 → Prop, G = fun (x1 x2 x3 : Int32) (σ : S0) => ∀ (H : Heap) (locs : List Loc) (ls : Array Slot), va_P D vwCl (wR ad cA cB σ) H → va_S (kAR ad s.heap.size) s.heap H locs → lv_has ls 4 [(0, .ref (ad 0)), (1, .int x1), (2, .int x2), (3, .int x3)] → W p l e (headSpec (Cond.code y_R_isHidden c_R_isHidden 4 (some .boolean) :: wsG) ({ frames := 0, cells := 0, slots := 0, locals := 0 } : Room)).room s m ([.ref (ad 0), .int a1] : List Value).toArray below meth c H locs 0 0 (MQ below (va_Qi post (kBR D ad cA cB) (kAR ad s.heap.size)) ([.ref (ad 0), .int a1] : List Value).toArray s 0 0 (kAR ad s.heap.size)) (F0 m 4 ls []) := ⟨_, rfl⟩
  have h := h G4
  have h := h (by
    intro x1 x2 x3 σ h
    rw [hG4]
    intro H locs ls hP hS hl
    refine lv_iload_n hx hb d_R_isHidden_4 rfl (lv_at hl 3 rfl) ?_
    refine lv_bipush (v := 16) hx hb d_R_isHidden_5 (by decide) ?_
    refine lv_icmp_ge (tgt := 45) hx hb d_R_isHidden_7 (by decide) (fun cn => ?_) (fun cn => ?_)
    · have h := h.1 cn
      refine lv_iload_n hx hb d_R_isHidden_45 rfl (lv_at hl 2 rfl) ?_
      have hi := h.1
      have h := h.2
      exact W.zret (v := x2) hx hb hr (bo_n hi) (fun t ht hW => ⟨⟨_, σ, rfl, h, kBR_of ht hP⟩, hS.F ht⟩) hS.2.2 d_R_isHidden_46 hlocks
    · have h := h.2 cn
      refine lv_iload_n hx hb d_R_isHidden_10 rfl (lv_at hl 2 rfl) ?_
      refine lv_if_eq (tgt := 37) hx hb d_R_isHidden_11 (by decide) (fun cn => ?_) (fun cn => ?_)
      · have h := h.1 cn
        refine lv_iconst (v := 0) hx hb d_R_isHidden_37 (by decide) ?_
        refine lv_istore_n (lv' := [(2, .int 0), (0, .ref (ad 0)), (1, .int x1), (3, .int x3)]) hx hb d_R_isHidden_38 rfl hl (by decide) rfl (fun ls hl => ?_)
        refine lv_iinc (v := (x3 + 1)) (lv' := [(3, .int (x3 + 1)), (2, .int 0), (0, .ref (ad 0)), (1, .int x1)]) hx hb d_R_isHidden_39 hl (k := 3) rfl rfl (by decide) rfl (fun ls hl => ?_)
        refine lv_goto (tgt := 4) hx hb d_R_isHidden_42 (by decide) ?_
        rw [hG4] at h
        exact h _ _ _ hP hS (lv_sub hl [2, 3, 1, 0] rfl)
      · have h := h.2 cn
        refine lv_aload_n hx hb d_R_isHidden_14 rfl (lv_at hl 0 rfl) ?_
        refine va_get (D := D) (ci := 4) (v := .ref (ad 2)) (C := RX4) (T := TX4) (N := 27) hx hb htg inG_X4 hown hK hP 0 rfl rfl 2 (by decide) (htg _ m_621) (fun _ h9 => h9) rfl d_R_isHidden_15 ?_
        refine lv_iload_n hx hb d_R_isHidden_18 rfl (lv_at hl 3 rfl) ?_
        have hi := h.1
        have h := h.2
        refine va_iald hx hb hK hP 2 0 rfl rfl hi d_R_isHidden_19 ?_
        refine lv_iload_n hx hb d_R_isHidden_20 rfl (lv_at hl 1 rfl) ?_
        refine lv_icmp_ne (tgt := 33) hx hb d_R_isHidden_21 (by decide) (fun cn => ?_) (fun cn => ?_)
        · have h := h.1 cn
          refine lv_iconst (v := 1) hx hb d_R_isHidden_33 (by decide) ?_
          refine lv_goto (tgt := 38) hx hb d_R_isHidden_34 (by decide) ?_
          refine lv_istore_n (lv' := [(2, .int 1), (0, .ref (ad 0)), (1, .int x1), (3, .int x3)]) hx hb d_R_isHidden_38 rfl hl (by decide) rfl (fun ls hl => ?_)
          refine lv_iinc (v := (x3 + 1)) (lv' := [(3, .int (x3 + 1)), (2, .int 1), (0, .ref (ad 0)), (1, .int x1)]) hx hb d_R_isHidden_39 hl (k := 3) rfl rfl (by decide) rfl (fun ls hl => ?_)
          refine lv_goto (tgt := 4) hx hb d_R_isHidden_42 (by decide) ?_
          rw [hG4] at h
          exact h _ _ _ hP hS (lv_sub hl [2, 3, 1, 0] rfl)
        · have h := h.2 cn
          refine lv_aload_n hx hb d_R_isHidden_24 rfl (lv_at hl 0 rfl) ?_
          refine va_get (D := D) (ci := 4) (v := .ref (ad 4)) (C := RX4) (T := TX4) (N := 27) hx hb htg inG_X4 hown hK hP 0 rfl rfl 4 (by decide) (htg _ m_623) (fun _ h9 => h9) rfl d_R_isHidden_25 ?_
          refine lv_iload_n hx hb d_R_isHidden_28 rfl (lv_at hl 3 rfl) ?_
          have hi := h.1
          have h := h.2
          refine va_zald hx hb hK hP 4 1 rfl rfl hi d_R_isHidden_29 ?_
          refine lv_if_eq (tgt := 37) hx hb d_R_isHidden_30 (by decide) (fun cn => ?_) (fun cn => ?_)
          · have h := h.1 cn
            refine lv_iconst (v := 0) hx hb d_R_isHidden_37 (by decide) ?_
            refine lv_istore_n (lv' := [(2, .int 0), (0, .ref (ad 0)), (1, .int x1), (3, .int x3)]) hx hb d_R_isHidden_38 rfl hl (by decide) rfl (fun ls hl => ?_)
            refine lv_iinc (v := (x3 + 1)) (lv' := [(3, .int (x3 + 1)), (2, .int 0), (0, .ref (ad 0)), (1, .int x1)]) hx hb d_R_isHidden_39 hl (k := 3) rfl rfl (by decide) rfl (fun ls hl => ?_)
            refine lv_goto (tgt := 4) hx hb d_R_isHidden_42 (by decide) ?_
            rw [hG4] at h
            exact h _ _ _ hP hS (lv_sub hl [2, 3, 1, 0] rfl)
          · have h := h.2 cn
            refine lv_iconst (v := 1) hx hb d_R_isHidden_33 (by decide) ?_
            refine lv_goto (tgt := 38) hx hb d_R_isHidden_34 (by decide) ?_
            refine lv_istore_n (lv' := [(2, .int 1), (0, .ref (ad 0)), (1, .int x1), (3, .int x3)]) hx hb d_R_isHidden_38 rfl hl (by decide) rfl (fun ls hl => ?_)
            refine lv_iinc (v := (x3 + 1)) (lv' := [(3, .int (x3 + 1)), (2, .int 1), (0, .ref (ad 0)), (1, .int x1)]) hx hb d_R_isHidden_39 hl (k := 3) rfl rfl (by decide) rfl (fun ls hl => ?_)
            refine lv_goto (tgt := 4) hx hb d_R_isHidden_42 (by decide) ?_
            rw [hG4] at h
            exact h _ _ _ hP hS (lv_sub hl [2, 3, 1, 0] rfl))
  obtain ⟨H, eH⟩ : ∃ z, z = s.heap := ⟨_, rfl⟩
  have hP : va_P D vwCl (wR ad cA cB σ) H := by rw [eH]; exact hP
  have hS : va_S (kAR ad s.heap.size) s.heap H [] := by rw [eH]; exact hS
  show W p l e (headSpec (Cond.code y_R_isHidden c_R_isHidden 4 (some .boolean) :: wsG) ({ frames := 0, cells := 0, slots := 0, locals := 0 } : Room)).room s m ([.ref (ad 0), .int a1] : List Value).toArray below meth c s.heap [] 0 0 (MQ below (va_Qi post (kBR D ad cA cB) (kAR ad s.heap.size)) ([.ref (ad 0), .int a1] : List Value).toArray s 0 0 (kAR ad s.heap.size)) (F0 m 0 ls [])
  suffices k : W p l e (headSpec (Cond.code y_R_isHidden c_R_isHidden 4 (some .boolean) :: wsG) ({ frames := 0, cells := 0, slots := 0, locals := 0 } : Room)).room s m ([.ref (ad 0), .int a1] : List Value).toArray below meth c H [] 0 0 (MQ below (va_Qi post (kBR D ad cA cB) (kAR ad s.heap.size)) ([.ref (ad 0), .int a1] : List Value).toArray s 0 0 (kAR ad s.heap.size)) (F0 m 0 ls []) by rw [eH] at k; exact k
  refine lv_iconst (v := 1) hx hb d_R_isHidden_0 (by decide) ?_
  refine lv_istore_n (lv' := [(2, .int 1), (0, .ref (ad 0)), (1, .int a1)]) hx hb d_R_isHidden_1 rfl hl (by decide) rfl (fun ls hl => ?_)
  refine lv_iconst (v := 0) hx hb d_R_isHidden_2 (by decide) ?_
  refine lv_istore_n (lv' := [(3, .int 0), (2, .int 1), (0, .ref (ad 0)), (1, .int a1)]) hx hb d_R_isHidden_3 rfl hl (by decide) rfl (fun ls hl => ?_)
  rw [hG4] at h
  exact h _ _ _ hP hS (lv_sub hl [2, 3, 1, 0] rfl)
set_option maxHeartbeats 4000000 in
set_option maxRecDepth 100000 in
theorem met_R_isThere (l : Launch) (D : va_G) (ad : Nat → Nat) (cA cB : ClassId) (hap : kapR ad) (σ : S0) (sz : Nat) (a1 : Int32) (post : Int32 → S0 → Prop) (h : Sp_R_isThere a1 σ post) : Met l y_R_isThere (Cond.code y_R_isThere c_R_isThere 4 (some .boolean) :: wsG) ({ frames := 0, cells := 0, slots := 0, locals := 0 } : Room) (kPcR D ad cA cB σ sz [.ref (ad 0), .int a1]) (va_Qi post (kBR D ad cA cB) (kAR ad sz)) 0 0 (kAR ad sz) := by
  refine Met.ofW (cc := c_R_isThere) (maxL := 4) (ret := (some .boolean)) (by decide) rfl ?_
  intro p e s m args below meth c s₁ B hml hv
  obtain ⟨rfl, hsz, hP, hK, hF⟩ := hv
  have hx := B.exec
  have hb := B.bytes
  have hr := B.returns
  have hts := atoms_spec (ws := (Cond.code y_R_isThere c_R_isThere 4 (some .boolean) :: wsG)) B.pre
  have htg : ∀ w ∈ wsG, w.before ([.ref (ad 0), .int a1] : List Value).toArray s = true := fun w h => hts w (List.mem_cons_of_mem _ h)
  have hown : s.vm.findClass RX4 = some m.cls := findClass_of_methodNamed B.named
  have hlocks := B.notSynchronized
  subst hsz
  have hD : ∀ σ, va_D (kAR ad s.heap.size) (wR ad cA cB σ) := fun σ => wR_D hap cA cB σ _
  have hS : va_S (kAR ad s.heap.size) s.heap s.heap [] := va_S.rf
  have hl := lv_entry ([.ref (ad 0), .int a1]) (n := 4) (Nat.le_of_ble_eq_true rfl)
  rw [lg_entry_eq]
  generalize (lg_sl ([.ref (ad 0), .int a1]) ++ List.replicate (4 - (lg_sl ([.ref (ad 0), .int a1])).length) Slot.unset).toArray = ls at hl ⊢
  have hl : lv_has ls 4 [(0, .ref (ad 0)), (1, .int a1)] := hl
  unfold Sp_R_isThere at h
  obtain ⟨G4, hG4⟩ : ∃ G : Int32 → Int32 → Int32 → S0 → Prop, G = fun (x1 x2 x3 : Int32) (σ : S0) => ∀ (H : Heap) (locs : List Loc) (ls : Array Slot), va_P D vwCl (wR ad cA cB σ) H → va_S (kAR ad s.heap.size) s.heap H locs → lv_has ls 4 [(0, .ref (ad 0)), (1, .int x1), (2, .int x2), (3, .int x3)] → W p l e (headSpec (Cond.code y_R_isThere c_R_isThere 4 (some .boolean) :: wsG) ({ frames := 0, cells := 0, slots := 0, locals := 0 } : Room)).room s m ([.ref (ad 0), .int a1] : List Value).toArray below meth c H locs 0 0 (MQ below (va_Qi post (kBR D ad cA cB) (kAR ad s.heap.size)) ([.ref (ad 0), .int a1] : List Value).toArray s 0 0 (kAR ad s.heap.size)) (F0 m 4 ls []) := ⟨_, rfl⟩
  have h := h G4
  have h := h (by
    intro x1 x2 x3 σ h
    rw [hG4]
    intro H locs ls hP hS hl
    refine lv_iload_n hx hb d_R_isThere_4 rfl (lv_at hl 3 rfl) ?_
    refine lv_bipush (v := 16) hx hb d_R_isThere_5 (by decide) ?_
    refine lv_icmp_ge (tgt := 45) hx hb d_R_isThere_7 (by decide) (fun cn => ?_) (fun cn => ?_)
    · have h := h.1 cn
      refine lv_iload_n hx hb d_R_isThere_45 rfl (lv_at hl 2 rfl) ?_
      have hi := h.1
      have h := h.2
      exact W.zret (v := x2) hx hb hr (bo_n hi) (fun t ht hW => ⟨⟨_, σ, rfl, h, kBR_of ht hP⟩, hS.F ht⟩) hS.2.2 d_R_isThere_46 hlocks
    · have h := h.2 cn
      refine lv_iload_n hx hb d_R_isThere_10 rfl (lv_at hl 2 rfl) ?_
      refine lv_if_ne (tgt := 33) hx hb d_R_isThere_11 (by decide) (fun cn => ?_) (fun cn => ?_)
      · have h := h.1 cn
        refine lv_iconst (v := 1) hx hb d_R_isThere_33 (by decide) ?_
        refine lv_goto (tgt := 38) hx hb d_R_isThere_34 (by decide) ?_
        refine lv_istore_n (lv' := [(2, .int 1), (0, .ref (ad 0)), (1, .int x1), (3, .int x3)]) hx hb d_R_isThere_38 rfl hl (by decide) rfl (fun ls hl => ?_)
        refine lv_iinc (v := (x3 + 1)) (lv' := [(3, .int (x3 + 1)), (2, .int 1), (0, .ref (ad 0)), (1, .int x1)]) hx hb d_R_isThere_39 hl (k := 3) rfl rfl (by decide) rfl (fun ls hl => ?_)
        refine lv_goto (tgt := 4) hx hb d_R_isThere_42 (by decide) ?_
        rw [hG4] at h
        exact h _ _ _ hP hS (lv_sub hl [2, 3, 1, 0] rfl)
      · have h := h.2 cn
        refine lv_aload_n hx hb d_R_isThere_14 rfl (lv_at hl 0 rfl) ?_
        refine va_get (D := D) (ci := 4) (v := .ref (ad 2)) (C := RX4) (T := TX4) (N := 27) hx hb htg inG_X4 hown hK hP 0 rfl rfl 2 (by decide) (htg _ m_621) (fun _ h9 => h9) rfl d_R_isThere_15 ?_
        refine lv_iload_n hx hb d_R_isThere_18 rfl (lv_at hl 3 rfl) ?_
        have hi := h.1
        have h := h.2
        refine va_iald hx hb hK hP 2 0 rfl rfl hi d_R_isThere_19 ?_
        refine lv_iload_n hx hb d_R_isThere_20 rfl (lv_at hl 1 rfl) ?_
        refine lv_icmp_ne (tgt := 37) hx hb d_R_isThere_21 (by decide) (fun cn => ?_) (fun cn => ?_)
        · have h := h.1 cn
          refine lv_iconst (v := 0) hx hb d_R_isThere_37 (by decide) ?_
          refine lv_istore_n (lv' := [(2, .int 0), (0, .ref (ad 0)), (1, .int x1), (3, .int x3)]) hx hb d_R_isThere_38 rfl hl (by decide) rfl (fun ls hl => ?_)
          refine lv_iinc (v := (x3 + 1)) (lv' := [(3, .int (x3 + 1)), (2, .int 0), (0, .ref (ad 0)), (1, .int x1)]) hx hb d_R_isThere_39 hl (k := 3) rfl rfl (by decide) rfl (fun ls hl => ?_)
          refine lv_goto (tgt := 4) hx hb d_R_isThere_42 (by decide) ?_
          rw [hG4] at h
          exact h _ _ _ hP hS (lv_sub hl [2, 3, 1, 0] rfl)
        · have h := h.2 cn
          refine lv_aload_n hx hb d_R_isThere_24 rfl (lv_at hl 0 rfl) ?_
          refine va_get (D := D) (ci := 4) (v := .ref (ad 5)) (C := RX4) (T := TX4) (N := 27) hx hb htg inG_X4 hown hK hP 0 rfl rfl 5 (by decide) (htg _ m_624) (fun _ h9 => h9) rfl d_R_isThere_25 ?_
          refine lv_iload_n hx hb d_R_isThere_28 rfl (lv_at hl 3 rfl) ?_
          have hi := h.1
          have h := h.2
          refine va_zald hx hb hK hP 5 1 rfl rfl hi d_R_isThere_29 ?_
          refine lv_if_eq (tgt := 37) hx hb d_R_isThere_30 (by decide) (fun cn => ?_) (fun cn => ?_)
          · have h := h.1 cn
            refine lv_iconst (v := 0) hx hb d_R_isThere_37 (by decide) ?_
            refine lv_istore_n (lv' := [(2, .int 0), (0, .ref (ad 0)), (1, .int x1), (3, .int x3)]) hx hb d_R_isThere_38 rfl hl (by decide) rfl (fun ls hl => ?_)
            refine lv_iinc (v := (x3 + 1)) (lv' := [(3, .int (x3 + 1)), (2, .int 0), (0, .ref (ad 0)), (1, .int x1)]) hx hb d_R_isThere_39 hl (k := 3) rfl rfl (by decide) rfl (fun ls hl => ?_)
            refine lv_goto (tgt := 4) hx hb d_R_isThere_42 (by decide) ?_
            rw [hG4] at h
            exact h _ _ _ hP hS (lv_sub hl [2, 3, 1, 0] rfl)
          · have h := h.2 cn
            refine lv_iconst (v := 1) hx hb d_R_isThere_33 (by decide) ?_
            refine lv_goto (tgt := 38) hx hb d_R_isThere_34 (by decide) ?_
            refine lv_istore_n (lv' := [(2, .int 1), (0, .ref (ad 0)), (1, .int x1), (3, .int x3)]) hx hb d_R_isThere_38 rfl hl (by decide) rfl (fun ls hl => ?_)
            refine lv_iinc (v := (x3 + 1)) (lv' := [(3, .int (x3 + 1)), (2, .int 1), (0, .ref (ad 0)), (1, .int x1)]) hx hb d_R_isThere_39 hl (k := 3) rfl rfl (by decide) rfl (fun ls hl => ?_)
            refine lv_goto (tgt := 4) hx hb d_R_isThere_42 (by decide) ?_
            rw [hG4] at h
            exact h _ _ _ hP hS (lv_sub hl [2, 3, 1, 0] rfl))
  obtain ⟨H, eH⟩ : ∃ z, z = s.heap := ⟨_, rfl⟩
  have hP : va_P D vwCl (wR ad cA cB σ) H := by rw [eH]; exact hP
  have hS : va_S (kAR ad s.heap.size) s.heap H [] := by rw [eH]; exact hS
  show W p l e (headSpec (Cond.code y_R_isThere c_R_isThere 4 (some .boolean) :: wsG) ({ frames := 0, cells := 0, slots := 0, locals := 0 } : Room)).room s m ([.ref (ad 0), .int a1] : List Value).toArray below meth c s.heap [] 0 0 (MQ below (va_Qi post (kBR D ad cA cB) (kAR ad s.heap.size)) ([.ref (ad 0), .int a1] : List Value).toArray s 0 0 (kAR ad s.heap.size)) (F0 m 0 ls [])
  suffices k : W p l e (headSpec (Cond.code y_R_isThere c_R_isThere 4 (some .boolean) :: wsG) ({ frames := 0, cells := 0, slots := 0, locals := 0 } : Room)).room s m ([.ref (ad 0), .int a1] : List Value).toArray below meth c H [] 0 0 (MQ below (va_Qi post (kBR D ad cA cB) (kAR ad s.heap.size)) ([.ref (ad 0), .int a1] : List Value).toArray s 0 0 (kAR ad s.heap.size)) (F0 m 0 ls []) by rw [eH] at k; exact k
  refine lv_iconst (v := 0) hx hb d_R_isThere_0 (by decide) ?_
  refine lv_istore_n (lv' := [(2, .int 0), (0, .ref (ad 0)), (1, .int a1)]) hx hb d_R_isThere_1 rfl hl (by decide) rfl (fun ls hl => ?_)
  refine lv_iconst (v := 0) hx hb d_R_isThere_2 (by decide) ?_
  refine lv_istore_n (lv' := [(3, .int 0), (2, .int 0), (0, .ref (ad 0)), (1, .int a1)]) hx hb d_R_isThere_3 rfl hl (by decide) rfl (fun ls hl => ?_)
  rw [hG4] at h
  exact h _ _ _ hP hS (lv_sub hl [2, 3, 1, 0] rfl)
set_option maxHeartbeats 4000000 in
set_option maxRecDepth 100000 in
theorem met_R_isDrawn (l : Launch) (D : va_G) (ad : Nat → Nat) (cA cB : ClassId) (hap : kapR ad) (σ : S0) (sz : Nat) (a1 : Int32) (post : Int32 → S0 → Prop) (h : Sp_R_isDrawn a1 σ post) : Met l y_R_isDrawn (Cond.code y_R_isDrawn c_R_isDrawn 2 (some .boolean) :: wsG) ({ frames := 1, cells := 0, slots := 0, locals := 23 } : Room) (kPcR D ad cA cB σ sz [.ref (ad 0), .int a1]) (va_Qi post (kBR D ad cA cB) (kAR ad sz)) 0 0 (kAR ad sz) := by
  refine Met.ofW (cc := c_R_isDrawn) (maxL := 2) (ret := (some .boolean)) (by decide) rfl ?_
  intro p e s m args below meth c s₁ B hml hv
  obtain ⟨rfl, hsz, hP, hK, hF⟩ := hv
  have hx := B.exec
  have hb := B.bytes
  have hr := B.returns
  have hts := atoms_spec (ws := (Cond.code y_R_isDrawn c_R_isDrawn 2 (some .boolean) :: wsG)) B.pre
  have htg : ∀ w ∈ wsG, w.before ([.ref (ad 0), .int a1] : List Value).toArray s = true := fun w h => hts w (List.mem_cons_of_mem _ h)
  have hown : s.vm.findClass RX4 = some m.cls := findClass_of_methodNamed B.named
  have hlocks := B.notSynchronized
  subst hsz
  have hD : ∀ σ, va_D (kAR ad s.heap.size) (wR ad cA cB σ) := fun σ => wR_D hap cA cB σ _
  have hS : va_S (kAR ad s.heap.size) s.heap s.heap [] := va_S.rf
  have hl := lv_entry ([.ref (ad 0), .int a1]) (n := 2) (Nat.le_of_ble_eq_true rfl)
  rw [lg_entry_eq]
  generalize (lg_sl ([.ref (ad 0), .int a1]) ++ List.replicate (2 - (lg_sl ([.ref (ad 0), .int a1])).length) Slot.unset).toArray = ls at hl ⊢
  have hl : lv_has ls 2 [(0, .ref (ad 0)), (1, .int a1)] := hl
  unfold Sp_R_isDrawn at h
  obtain ⟨H, eH⟩ : ∃ z, z = s.heap := ⟨_, rfl⟩
  have hP : va_P D vwCl (wR ad cA cB σ) H := by rw [eH]; exact hP
  have hS : va_S (kAR ad s.heap.size) s.heap H [] := by rw [eH]; exact hS
  show W p l e (headSpec (Cond.code y_R_isDrawn c_R_isDrawn 2 (some .boolean) :: wsG) ({ frames := 1, cells := 0, slots := 0, locals := 23 } : Room)).room s m ([.ref (ad 0), .int a1] : List Value).toArray below meth c s.heap [] 0 0 (MQ below (va_Qi post (kBR D ad cA cB) (kAR ad s.heap.size)) ([.ref (ad 0), .int a1] : List Value).toArray s 0 0 (kAR ad s.heap.size)) (F0 m 0 ls [])
  suffices k : W p l e (headSpec (Cond.code y_R_isDrawn c_R_isDrawn 2 (some .boolean) :: wsG) ({ frames := 1, cells := 0, slots := 0, locals := 23 } : Room)).room s m ([.ref (ad 0), .int a1] : List Value).toArray below meth c H [] 0 0 (MQ below (va_Qi post (kBR D ad cA cB) (kAR ad s.heap.size)) ([.ref (ad 0), .int a1] : List Value).toArray s 0 0 (kAR ad s.heap.size)) (F0 m 0 ls []) by rw [eH] at k; exact k
  refine lv_aload_n hx hb d_R_isDrawn_0 rfl (lv_at hl 0 rfl) ?_
  refine va_get (D := D) (ci := 4) (v := .ref (ad 2)) (C := RX4) (T := TX4) (N := 27) hx hb htg inG_X4 hown hK hP 0 rfl rfl 2 (by decide) (htg _ m_621) (fun _ h9 => h9) rfl d_R_isDrawn_1 ?_
  refine lv_iload_n hx hb d_R_isDrawn_4 rfl (lv_at hl 1 rfl) ?_
  have hi := h.1
  have h := h.2
  refine va_iald hx hb hK hP 2 0 rfl rfl hi d_R_isDrawn_5 ?_
  refine lv_iload_n hx hb d_R_isDrawn_6 rfl (lv_at hl 1 rfl) ?_
  refine lv_icmp_ne (tgt := 30) hx hb d_R_isDrawn_7 (by decide) (fun cn => ?_) (fun cn => ?_)
  · have h := h.1 cn
    refine lv_iconst (v := 0) hx hb d_R_isDrawn_30 (by decide) ?_
    exact W.zret (v := 0) hx hb hr rfl (fun t ht hW => ⟨⟨_, σ, rfl, h, kBR_of ht hP⟩, hS.F ht⟩) hS.2.2 d_R_isDrawn_31 hlocks
  · have h := h.2 cn
    refine lv_aload_n hx hb d_R_isDrawn_10 rfl (lv_at hl 0 rfl) ?_
    refine lv_iload_n hx hb d_R_isDrawn_11 rfl (lv_at hl 1 rfl) ?_
    refine kR_i (va_runV (As := [.int a1]) (rest := []) ⟨hx, hb, hml, hown, htg⟩ (met_R_isThere l D ad cA cB hap σ H.size a1 _ h) (cwV 1 htg (kG (kG_V m_780 m_782 m_36 m_57 (kG_self m_783))) rfl rfl rfl (by decide +kernel) ⟨Nat.le_of_ble_eq_true rfl, Nat.le_of_ble_eq_true rfl⟩) (kR_preV hK hF hP hS 0 rfl rfl _) rfl rfl hl.1 rfl (lv_room (Nat.le_of_ble_eq_true rfl)) d_R_isDrawn_12 ⟨Nat.le_of_ble_eq_true rfl, Nat.le_of_ble_eq_true rfl⟩) hS (fun r2 σ1 H locs h hP hS => ?_)
    refine lv_if_eq (tgt := 30) hx hb d_R_isDrawn_15 (by decide) (fun cn => ?_) (fun cn => ?_)
    · have h := h.1 cn
      refine lv_iconst (v := 0) hx hb d_R_isDrawn_30 (by decide) ?_
      exact W.zret (v := 0) hx hb hr rfl (fun t ht hW => ⟨⟨_, σ1, rfl, h, kBR_of ht hP⟩, hS.F ht⟩) hS.2.2 d_R_isDrawn_31 hlocks
    · have h := h.2 cn
      refine lv_aload_n hx hb d_R_isDrawn_18 rfl (lv_at hl 0 rfl) ?_
      refine lv_iload_n hx hb d_R_isDrawn_19 rfl (lv_at hl 1 rfl) ?_
      refine kR_i (va_runV (As := [.int a1]) (rest := []) ⟨hx, hb, hml, hown, htg⟩ (met_R_isHidden l D ad cA cB hap σ1 H.size a1 _ h) (cwV 1 htg (kG (kG_V m_772 m_774 m_34 m_57 (kG_self m_775))) rfl rfl rfl (by decide +kernel) ⟨Nat.le_of_ble_eq_true rfl, Nat.le_of_ble_eq_true rfl⟩) (kR_preV hK hF hP hS 0 rfl rfl _) rfl rfl hl.1 rfl (lv_room (Nat.le_of_ble_eq_true rfl)) d_R_isDrawn_20 ⟨Nat.le_of_ble_eq_true rfl, Nat.le_of_ble_eq_true rfl⟩) hS (fun r4 σ3 H locs h hP hS => ?_)
      refine lv_if_ne (tgt := 30) hx hb d_R_isDrawn_23 (by decide) (fun cn => ?_) (fun cn => ?_)
      · have h := h.1 cn
        refine lv_iconst (v := 0) hx hb d_R_isDrawn_30 (by decide) ?_
        exact W.zret (v := 0) hx hb hr rfl (fun t ht hW => ⟨⟨_, σ3, rfl, h, kBR_of ht hP⟩, hS.F ht⟩) hS.2.2 d_R_isDrawn_31 hlocks
      · have h := h.2 cn
        refine lv_iconst (v := 1) hx hb d_R_isDrawn_26 (by decide) ?_
        refine lv_goto (tgt := 31) hx hb d_R_isDrawn_27 (by decide) ?_
        exact W.zret (v := 1) hx hb hr rfl (fun t ht hW => ⟨⟨_, σ3, rfl, h, kBR_of ht hP⟩, hS.F ht⟩) hS.2.2 d_R_isDrawn_31 hlocks
set_option maxHeartbeats 4000000 in
set_option maxRecDepth 100000 in
theorem met_R_findLinks (l : Launch) (D : va_G) (ad : Nat → Nat) (cA cB : ClassId) (hap : kapR ad) (σ : S0) (sz : Nat) (post : S0 → Prop) (h : Sp_R_findLinks  σ post) : Met l y_R_findLinks (Cond.code y_R_findLinks c_R_findLinks 3 none :: wsG) ({ frames := 2, cells := 0, slots := 0, locals := 44 } : Room) (kPcR D ad cA cB σ sz [.ref (ad 0)]) (va_Qv post (kBR D ad cA cB) (kAR ad sz)) 0 0 (kAR ad sz) := by
  refine Met.ofW (cc := c_R_findLinks) (maxL := 3) (ret := none) (by decide) rfl ?_
  intro p e s m args below meth c s₁ B hml hv
  obtain ⟨rfl, hsz, hP, hK, hF⟩ := hv
  have hx := B.exec
  have hb := B.bytes
  have hr := B.returns
  have hts := atoms_spec (ws := (Cond.code y_R_findLinks c_R_findLinks 3 none :: wsG)) B.pre
  have htg : ∀ w ∈ wsG, w.before ([.ref (ad 0)] : List Value).toArray s = true := fun w h => hts w (List.mem_cons_of_mem _ h)
  have hown : s.vm.findClass RX4 = some m.cls := findClass_of_methodNamed B.named
  have hlocks := B.notSynchronized
  subst hsz
  have hD : ∀ σ, va_D (kAR ad s.heap.size) (wR ad cA cB σ) := fun σ => wR_D hap cA cB σ _
  have hS : va_S (kAR ad s.heap.size) s.heap s.heap [] := va_S.rf
  have hl := lv_entry ([.ref (ad 0)]) (n := 3) (Nat.le_of_ble_eq_true rfl)
  rw [lg_entry_eq]
  generalize (lg_sl ([.ref (ad 0)]) ++ List.replicate (3 - (lg_sl ([.ref (ad 0)])).length) Slot.unset).toArray = ls at hl ⊢
  have hl : lv_has ls 3 [(0, .ref (ad 0))] := hl
  unfold Sp_R_findLinks at h
  obtain ⟨G2, hG2⟩ : ∃ G : Int32 → S0 → Prop, G = fun (x1 : Int32) (σ : S0) => ∀ (H : Heap) (locs : List Loc) (ls : Array Slot), va_P D vwCl (wR ad cA cB σ) H → va_S (kAR ad s.heap.size) s.heap H locs → lv_has ls 3 [(0, .ref (ad 0)), (1, .int x1)] → W p l e (headSpec (Cond.code y_R_findLinks c_R_findLinks 3 none :: wsG) ({ frames := 2, cells := 0, slots := 0, locals := 44 } : Room)).room s m ([.ref (ad 0)] : List Value).toArray below meth c H locs 0 0 (MQ below (va_Qv post (kBR D ad cA cB) (kAR ad s.heap.size)) ([.ref (ad 0)] : List Value).toArray s 0 0 (kAR ad s.heap.size)) (F0 m 2 ls []) := ⟨_, rfl⟩
  obtain ⟨G24, hG24⟩ : ∃ G : Int32 → S0 → Prop, G = fun (x1 : Int32) (σ : S0) => ∀ (H : Heap) (locs : List Loc) (ls : Array Slot), va_P D vwCl (wR ad cA cB σ) H → va_S (kAR ad s.heap.size) s.heap H locs → lv_has ls 3 [(0, .ref (ad 0)), (1, .int x1)] → W p l e (headSpec (Cond.code y_R_findLinks c_R_findLinks 3 none :: wsG) ({ frames := 2, cells := 0, slots := 0, locals := 44 } : Room)).room s m ([.ref (ad 0)] : List Value).toArray below meth c H locs 0 0 (MQ below (va_Qv post (kBR D ad cA cB) (kAR ad s.heap.size)) ([.ref (ad 0)] : List Value).toArray s 0 0 (kAR ad s.heap.size)) (F0 m 24 ls []) := ⟨_, rfl⟩
  obtain ⟨G76, hG76⟩ : ∃ G : Int32 → S0 → Prop, G = fun (x1 : Int32) (σ : S0) => ∀ (H : Heap) (locs : List Loc) (ls : Array Slot), va_P D vwCl (wR ad cA cB σ) H → va_S (kAR ad s.heap.size) s.heap H locs → lv_has ls 3 [(0, .ref (ad 0)), (1, .int x1)] → W p l e (headSpec (Cond.code y_R_findLinks c_R_findLinks 3 none :: wsG) ({ frames := 2, cells := 0, slots := 0, locals := 44 } : Room)).room s m ([.ref (ad 0)] : List Value).toArray below meth c H locs 0 0 (MQ below (va_Qv post (kBR D ad cA cB) (kAR ad s.heap.size)) ([.ref (ad 0)] : List Value).toArray s 0 0 (kAR ad s.heap.size)) (F0 m 76 ls []) := ⟨_, rfl⟩
  obtain ⟨G105, hG105⟩ : ∃ G : Int32 → Int32 → S0 → Prop, G = fun (x1 x2 : Int32) (σ : S0) => ∀ (H : Heap) (locs : List Loc) (ls : Array Slot), va_P D vwCl (wR ad cA cB σ) H → va_S (kAR ad s.heap.size) s.heap H locs → lv_has ls 3 [(0, .ref (ad 0)), (1, .int x1), (2, .int x2)] → W p l e (headSpec (Cond.code y_R_findLinks c_R_findLinks 3 none :: wsG) ({ frames := 2, cells := 0, slots := 0, locals := 44 } : Room)).room s m ([.ref (ad 0)] : List Value).toArray below meth c H locs 0 0 (MQ below (va_Qv post (kBR D ad cA cB) (kAR ad s.heap.size)) ([.ref (ad 0)] : List Value).toArray s 0 0 (kAR ad s.heap.size)) (F0 m 105 ls []) := ⟨_, rfl⟩
  obtain ⟨G180, hG180⟩ : ∃ G : Int32 → S0 → Prop, G = fun (x1 : Int32) (σ : S0) => ∀ (H : Heap) (locs : List Loc) (ls : Array Slot), va_P D vwCl (wR ad cA cB σ) H → va_S (kAR ad s.heap.size) s.heap H locs → lv_has ls 3 [(0, .ref (ad 0)), (1, .int x1)] → W p l e (headSpec (Cond.code y_R_findLinks c_R_findLinks 3 none :: wsG) ({ frames := 2, cells := 0, slots := 0, locals := 44 } : Room)).room s m ([.ref (ad 0)] : List Value).toArray below meth c H locs 0 0 (MQ below (va_Qv post (kBR D ad cA cB) (kAR ad s.heap.size)) ([.ref (ad 0)] : List Value).toArray s 0 0 (kAR ad s.heap.size)) (F0 m 180 ls []) := ⟨_, rfl⟩
  have h := h G2 G24 G76 G105 G180
  have h := h (by
    intro x1 σ h
    rw [hG2]
    intro H locs ls hP hS hl
    refine lv_iload_n hx hb d_R_findLinks_2 rfl (lv_at hl 1 rfl) ?_
    refine lv_sipush (v := 256) hx hb d_R_findLinks_3 (by decide) ?_
    refine lv_icmp_ge (tgt := 22) hx hb d_R_findLinks_6 (by decide) (fun cn => ?_) (fun cn => ?_)
    · have h := h.1 cn
      refine lv_iconst (v := 0) hx hb d_R_findLinks_22 (by decide) ?_
      refine lv_istore_n (lv' := [(1, .int 0), (0, .ref (ad 0))]) hx hb d_R_findLinks_23 rfl hl (by decide) rfl (fun ls hl => ?_)
      rw [hG24] at h
      exact h _ _ _ hP hS (lv_sub hl [1, 0] rfl)
    · have h := h.2 cn
      refine lv_aload_n hx hb d_R_findLinks_9 rfl (lv_at hl 0 rfl) ?_
      refine va_get (D := D) (ci := 4) (v := .ref (ad 7)) (C := RX4) (T := TX4) (N := 27) hx hb htg inG_X4 hown hK hP 0 rfl rfl 7 (by decide) (htg _ m_626) (fun _ h9 => h9) rfl d_R_findLinks_10 ?_
      refine lv_iload_n hx hb d_R_findLinks_13 rfl (lv_at hl 1 rfl) ?_
      refine lv_iconst (v := 0) hx hb d_R_findLinks_14 (by decide) ?_
      have hi := h.1
      have h := h.2
      refine va_zast hx hb hK hP (hD _) hS 7 1 rfl rfl hi d_R_findLinks_15 (fun H locs hP _ hS => ?_)
      obtain ⟨σ1, eσ1⟩ : ∃ z : S0, z = st σ 7 x1.toNatClampNeg 0 := ⟨_, rfl⟩
      have hP : va_P D vwCl (wR ad cA cB σ1) H := by rw [eσ1]; exact hP
      have h := h σ1 eσ1
      refine lv_iinc (v := (x1 + 1)) (lv' := [(1, .int (x1 + 1)), (0, .ref (ad 0))]) hx hb d_R_findLinks_16 hl (k := 1) rfl rfl (by decide) rfl (fun ls hl => ?_)
      refine lv_goto (tgt := 2) hx hb d_R_findLinks_19 (by decide) ?_
      rw [hG2] at h
      exact h _ _ _ hP hS (lv_sub hl [1, 0] rfl))
  have h := h (by
    intro x1 σ h
    rw [hG24]
    intro H locs ls hP hS hl
    refine lv_iload_n hx hb d_R_findLinks_24 rfl (lv_at hl 1 rfl) ?_
    refine lv_sipush (v := 256) hx hb d_R_findLinks_25 (by decide) ?_
    refine lv_icmp_ge (tgt := 74) hx hb d_R_findLinks_28 (by decide) (fun cn => ?_) (fun cn => ?_)
    · have h := h.1 cn
      refine lv_iconst (v := 0) hx hb d_R_findLinks_74 (by decide) ?_
      refine lv_istore_n (lv' := [(1, .int 0), (0, .ref (ad 0))]) hx hb d_R_findLinks_75 rfl hl (by decide) rfl (fun ls hl => ?_)
      rw [hG76] at h
      exact h _ _ _ hP hS (lv_sub hl [1, 0] rfl)
    · have h := h.2 cn
      refine lv_aload_n hx hb d_R_findLinks_31 rfl (lv_at hl 0 rfl) ?_
      refine va_get (D := D) (ci := 4) (v := .ref (ad 1)) (C := RX4) (T := TX4) (N := 27) hx hb htg inG_X4 hown hK hP 0 rfl rfl 1 (by decide) (htg _ m_620) (fun _ h9 => h9) rfl d_R_findLinks_32 ?_
      refine lv_iload_n hx hb d_R_findLinks_35 rfl (lv_at hl 1 rfl) ?_
      have hi := h.1
      have h := h.2
      refine va_zald hx hb hK hP 1 1 rfl rfl hi d_R_findLinks_36 ?_
      refine lv_if_eq (tgt := 68) hx hb d_R_findLinks_37 (by decide) (fun cn => ?_) (fun cn => ?_)
      · have h := h.1 cn
        refine lv_iinc (v := (x1 + 1)) (lv' := [(1, .int (x1 + 1)), (0, .ref (ad 0))]) hx hb d_R_findLinks_68 hl (k := 1) rfl rfl (by decide) rfl (fun ls hl => ?_)
        refine lv_goto (tgt := 24) hx hb d_R_findLinks_71 (by decide) ?_
        rw [hG24] at h
        exact h _ _ _ hP hS (lv_sub hl [1, 0] rfl)
      · have h := h.2 cn
        refine lv_aload_n hx hb d_R_findLinks_40 rfl (lv_at hl 0 rfl) ?_
        refine va_get (D := D) (ci := 4) (v := .ref (ad 7)) (C := RX4) (T := TX4) (N := 27) hx hb htg inG_X4 hown hK hP 0 rfl rfl 7 (by decide) (htg _ m_626) (fun _ h9 => h9) rfl d_R_findLinks_41 ?_
        refine lv_bipush (v := 16) hx hb d_R_findLinks_44 (by decide) ?_
        refine lv_aload_n hx hb d_R_findLinks_46 rfl (lv_at hl 0 rfl) ?_
        refine va_get (D := D) (ci := 4) (v := .ref (ad 2)) (C := RX4) (T := TX4) (N := 27) hx hb htg inG_X4 hown hK hP 0 rfl rfl 2 (by decide) (htg _ m_621) (fun _ h9 => h9) rfl d_R_findLinks_47 ?_
        refine lv_iload_n hx hb d_R_findLinks_50 rfl (lv_at hl 1 rfl) ?_
        refine lv_bipush (v := 16) hx hb d_R_findLinks_51 (by decide) ?_
        refine lv_idiv hx hb d_R_findLinks_53 (by decide) ?_
        have hi := h.1
        have h := h.2
        refine va_iald hx hb hK hP 2 0 rfl rfl hi d_R_findLinks_54 ?_
        refine lv_imul hx hb d_R_findLinks_55 ?_
        refine lv_aload_n hx hb d_R_findLinks_56 rfl (lv_at hl 0 rfl) ?_
        refine va_get (D := D) (ci := 4) (v := .ref (ad 2)) (C := RX4) (T := TX4) (N := 27) hx hb htg inG_X4 hown hK hP 0 rfl rfl 2 (by decide) (htg _ m_621) (fun _ h9 => h9) rfl d_R_findLinks_57 ?_
        refine lv_iload_n hx hb d_R_findLinks_60 rfl (lv_at hl 1 rfl) ?_
        refine lv_bipush (v := 16) hx hb d_R_findLinks_61 (by decide) ?_
        refine lv_irem hx hb d_R_findLinks_63 (by decide) ?_
        have hi := h.1
        have h := h.2
        refine va_iald hx hb hK hP 2 0 rfl rfl hi d_R_findLinks_64 ?_
        refine lv_iadd hx hb d_R_findLinks_65 ?_
        refine lv_iconst (v := 1) hx hb d_R_findLinks_66 (by decide) ?_
        have hi := h.1
        have h := h.2
        refine va_zast hx hb hK hP (hD _) hS 7 1 rfl rfl hi d_R_findLinks_67 (fun H locs hP _ hS => ?_)
        obtain ⟨σ2, eσ2⟩ : ∃ z : S0, z = st σ 7 ((16 * (σ 2 (x1 / 16).toNatClampNeg)) + (σ 2 (x1 - x1 / 16 * 16).toNatClampNeg)).toNatClampNeg 1 := ⟨_, rfl⟩
        have hP : va_P D vwCl (wR ad cA cB σ2) H := by rw [eσ2]; exact hP
        have h := h σ2 eσ2
        refine lv_iinc (v := (x1 + 1)) (lv' := [(1, .int (x1 + 1)), (0, .ref (ad 0))]) hx hb d_R_findLinks_68 hl (k := 1) rfl rfl (by decide) rfl (fun ls hl => ?_)
        refine lv_goto (tgt := 24) hx hb d_R_findLinks_71 (by decide) ?_
        rw [hG24] at h
        exact h _ _ _ hP hS (lv_sub hl [1, 0] rfl))
  have h := h (by
    intro x1 σ h
    rw [hG76]
    intro H locs ls hP hS hl
    refine lv_iload_n hx hb d_R_findLinks_76 rfl (lv_at hl 1 rfl) ?_
    refine lv_bipush (v := 16) hx hb d_R_findLinks_77 (by decide) ?_
    refine lv_icmp_ge (tgt := 178) hx hb d_R_findLinks_79 (by decide) (fun cn => ?_) (fun cn => ?_)
    · have h := h.1 cn
      refine lv_iconst (v := 0) hx hb d_R_findLinks_178 (by decide) ?_
      refine lv_istore_n (lv' := [(1, .int 0), (0, .ref (ad 0))]) hx hb d_R_findLinks_179 rfl hl (by decide) rfl (fun ls hl => ?_)
      rw [hG180] at h
      exact h _ _ _ hP hS (lv_sub hl [1, 0] rfl)
    · have h := h.2 cn
      refine lv_aload_n hx hb d_R_findLinks_82 rfl (lv_at hl 0 rfl) ?_
      refine va_get (D := D) (ci := 4) (v := .ref (ad 2)) (C := RX4) (T := TX4) (N := 27) hx hb htg inG_X4 hown hK hP 0 rfl rfl 2 (by decide) (htg _ m_621) (fun _ h9 => h9) rfl d_R_findLinks_83 ?_
      refine lv_iload_n hx hb d_R_findLinks_86 rfl (lv_at hl 1 rfl) ?_
      have hi := h.1
      have h := h.2
      refine va_iald hx hb hK hP 2 0 rfl rfl hi d_R_findLinks_87 ?_
      refine lv_iload_n hx hb d_R_findLinks_88 rfl (lv_at hl 1 rfl) ?_
      refine lv_icmp_ne (tgt := 172) hx hb d_R_findLinks_89 (by decide) (fun cn => ?_) (fun cn => ?_)
      · have h := h.1 cn
        refine lv_iinc (v := (x1 + 1)) (lv' := [(1, .int (x1 + 1)), (0, .ref (ad 0))]) hx hb d_R_findLinks_172 hl (k := 1) rfl rfl (by decide) rfl (fun ls hl => ?_)
        refine lv_goto (tgt := 76) hx hb d_R_findLinks_175 (by decide) ?_
        rw [hG76] at h
        exact h _ _ _ hP hS (lv_sub hl [1, 0] rfl)
      · have h := h.2 cn
        refine lv_aload_n hx hb d_R_findLinks_92 rfl (lv_at hl 0 rfl) ?_
        refine lv_iload_n hx hb d_R_findLinks_93 rfl (lv_at hl 1 rfl) ?_
        refine kR_i (va_runV (As := [.int x1]) (rest := []) ⟨hx, hb, hml, hown, htg⟩ (met_R_isHidden l D ad cA cB hap σ H.size x1 _ h) (cwV 1 htg (kG (kG_V m_772 m_774 m_34 m_57 (kG_self m_775))) rfl rfl rfl (by decide +kernel) ⟨Nat.le_of_ble_eq_true rfl, Nat.le_of_ble_eq_true rfl⟩) (kR_preV hK hF hP hS 0 rfl rfl _) rfl rfl hl.1 rfl (lv_room (Nat.le_of_ble_eq_true rfl)) d_R_findLinks_94 ⟨Nat.le_of_ble_eq_true rfl, Nat.le_of_ble_eq_true rfl⟩) hS (fun r4 σ3 H locs h hP hS => ?_)
        refine lv_if_ne (tgt := 103) hx hb d_R_findLinks_97 (by decide) (fun cn => ?_) (fun cn => ?_)
        · have h := h.1 cn
          refine lv_iconst (v := 0) hx hb d_R_findLinks_103 (by decide) ?_
          refine lv_istore_n (lv' := [(2, .int 0), (0, .ref (ad 0)), (1, .int x1)]) hx hb d_R_findLinks_104 rfl hl (by decide) rfl (fun ls hl => ?_)
          rw [hG105] at h
          exact h _ _ _ hP hS (lv_sub hl [1, 2, 0] rfl)
        · have h := h.2 cn
          refine lv_goto (tgt := 172) hx hb d_R_findLinks_100 (by decide) ?_
          refine lv_iinc (v := (x1 + 1)) (lv' := [(1, .int (x1 + 1)), (0, .ref (ad 0))]) hx hb d_R_findLinks_172 hl (k := 1) rfl rfl (by decide) rfl (fun ls hl => ?_)
          refine lv_goto (tgt := 76) hx hb d_R_findLinks_175 (by decide) ?_
          rw [hG76] at h
          exact h _ _ _ hP hS (lv_sub hl [1, 0] rfl))
  have h := h (by
    intro x1 x2 σ h
    rw [hG105]
    intro H locs ls hP hS hl
    refine lv_iload_n hx hb d_R_findLinks_105 rfl (lv_at hl 2 rfl) ?_
    refine lv_sipush (v := 256) hx hb d_R_findLinks_106 (by decide) ?_
    refine lv_icmp_ge (tgt := 172) hx hb d_R_findLinks_109 (by decide) (fun cn => ?_) (fun cn => ?_)
    · have h := h.1 cn
      refine lv_iinc (v := (x1 + 1)) (lv' := [(1, .int (x1 + 1)), (0, .ref (ad 0)), (2, .int x2)]) hx hb d_R_findLinks_172 hl (k := 1) rfl rfl (by decide) rfl (fun ls hl => ?_)
      refine lv_goto (tgt := 76) hx hb d_R_findLinks_175 (by decide) ?_
      rw [hG76] at h
      exact h _ _ _ hP hS (lv_sub hl [1, 0] rfl)
    · have h := h.2 cn
      refine lv_aload_n hx hb d_R_findLinks_112 rfl (lv_at hl 0 rfl) ?_
      refine va_get (D := D) (ci := 4) (v := .ref (ad 7)) (C := RX4) (T := TX4) (N := 27) hx hb htg inG_X4 hown hK hP 0 rfl rfl 7 (by decide) (htg _ m_626) (fun _ h9 => h9) rfl d_R_findLinks_113 ?_
      refine lv_iload_n hx hb d_R_findLinks_116 rfl (lv_at hl 2 rfl) ?_
      refine lv_aload_n hx hb d_R_findLinks_117 rfl (lv_at hl 0 rfl) ?_
      refine va_get (D := D) (ci := 4) (v := .ref (ad 7)) (C := RX4) (T := TX4) (N := 27) hx hb htg inG_X4 hown hK hP 0 rfl rfl 7 (by decide) (htg _ m_626) (fun _ h9 => h9) rfl d_R_findLinks_118 ?_
      refine lv_iload_n hx hb d_R_findLinks_121 rfl (lv_at hl 2 rfl) ?_
      have hi := h.1
      have h := h.2
      refine va_zald hx hb hK hP 7 1 rfl rfl hi d_R_findLinks_122 ?_
      refine lv_if_ne (tgt := 160) hx hb d_R_findLinks_123 (by decide) (fun cn => ?_) (fun cn => ?_)
      · have h := h.1 cn
        refine lv_iconst (v := 1) hx hb d_R_findLinks_160 (by decide) ?_
        refine lv_goto (tgt := 165) hx hb d_R_findLinks_161 (by decide) ?_
        have hi := h.1
        have h := h.2
        refine va_zast hx hb hK hP (hD _) hS 7 1 rfl rfl hi d_R_findLinks_165 (fun H locs hP _ hS => ?_)
        obtain ⟨σ13, eσ13⟩ : ∃ z : S0, z = st σ 7 x2.toNatClampNeg 1 := ⟨_, rfl⟩
        have hP : va_P D vwCl (wR ad cA cB σ13) H := by rw [eσ13]; exact hP
        have h := h σ13 eσ13
        refine lv_iinc (v := (x2 + 1)) (lv' := [(2, .int (x2 + 1)), (0, .ref (ad 0)), (1, .int x1)]) hx hb d_R_findLinks_166 hl (k := 2) rfl rfl (by decide) rfl (fun ls hl => ?_)
        refine lv_goto (tgt := 105) hx hb d_R_findLinks_169 (by decide) ?_
        rw [hG105] at h
        exact h _ _ _ hP hS (lv_sub hl [1, 2, 0] rfl)
      · have h := h.2 cn
        refine lv_aload_n hx hb d_R_findLinks_126 rfl (lv_at hl 0 rfl) ?_
        refine va_get (D := D) (ci := 4) (v := .ref (ad 7)) (C := RX4) (T := TX4) (N := 27) hx hb htg inG_X4 hown hK hP 0 rfl rfl 7 (by decide) (htg _ m_626) (fun _ h9 => h9) rfl d_R_findLinks_127 ?_
        refine lv_iload_n hx hb d_R_findLinks_130 rfl (lv_at hl 2 rfl) ?_
        refine lv_bipush (v := 16) hx hb d_R_findLinks_131 (by decide) ?_
        refine lv_idiv hx hb d_R_findLinks_133 (by decide) ?_
        refine lv_bipush (v := 16) hx hb d_R_findLinks_134 (by decide) ?_
        refine lv_imul hx hb d_R_findLinks_136 ?_
        refine lv_iload_n hx hb d_R_findLinks_137 rfl (lv_at hl 1 rfl) ?_
        refine lv_iadd hx hb d_R_findLinks_138 ?_
        have hi := h.1
        have h := h.2
        refine va_zald hx hb hK hP 7 1 rfl rfl hi d_R_findLinks_139 ?_
        refine lv_if_eq (tgt := 164) hx hb d_R_findLinks_140 (by decide) (fun cn => ?_) (fun cn => ?_)
        · have h := h.1 cn
          refine lv_iconst (v := 0) hx hb d_R_findLinks_164 (by decide) ?_
          have hi := h.1
          have h := h.2
          refine va_zast hx hb hK hP (hD _) hS 7 1 rfl rfl hi d_R_findLinks_165 (fun H locs hP _ hS => ?_)
          obtain ⟨σ14, eσ14⟩ : ∃ z : S0, z = st σ 7 x2.toNatClampNeg 0 := ⟨_, rfl⟩
          have hP : va_P D vwCl (wR ad cA cB σ14) H := by rw [eσ14]; exact hP
          have h := h σ14 eσ14
          refine lv_iinc (v := (x2 + 1)) (lv' := [(2, .int (x2 + 1)), (0, .ref (ad 0)), (1, .int x1)]) hx hb d_R_findLinks_166 hl (k := 2) rfl rfl (by decide) rfl (fun ls hl => ?_)
          refine lv_goto (tgt := 105) hx hb d_R_findLinks_169 (by decide) ?_
          rw [hG105] at h
          exact h _ _ _ hP hS (lv_sub hl [1, 2, 0] rfl)
        · have h := h.2 cn
          refine lv_aload_n hx hb d_R_findLinks_143 rfl (lv_at hl 0 rfl) ?_
          refine va_get (D := D) (ci := 4) (v := .ref (ad 7)) (C := RX4) (T := TX4) (N := 27) hx hb htg inG_X4 hown hK hP 0 rfl rfl 7 (by decide) (htg _ m_626) (fun _ h9 => h9) rfl d_R_findLinks_144 ?_
          refine lv_bipush (v := 16) hx hb d_R_findLinks_147 (by decide) ?_
          refine lv_iload_n hx hb d_R_findLinks_149 rfl (lv_at hl 1 rfl) ?_
          refine lv_imul hx hb d_R_findLinks_150 ?_
          refine lv_iload_n hx hb d_R_findLinks_151 rfl (lv_at hl 2 rfl) ?_
          refine lv_bipush (v := 16) hx hb d_R_findLinks_152 (by decide) ?_
          refine lv_irem hx hb d_R_findLinks_154 (by decide) ?_
          refine lv_iadd hx hb d_R_findLinks_155 ?_
          have hi := h.1
          have h := h.2
          refine va_zald hx hb hK hP 7 1 rfl rfl hi d_R_findLinks_156 ?_
          refine lv_if_eq (tgt := 164) hx hb d_R_findLinks_157 (by decide) (fun cn => ?_) (fun cn => ?_)
          · have h := h.1 cn
            refine lv_iconst (v := 0) hx hb d_R_findLinks_164 (by decide) ?_
            have hi := h.1
            have h := h.2
            refine va_zast hx hb hK hP (hD _) hS 7 1 rfl rfl hi d_R_findLinks_165 (fun H locs hP _ hS => ?_)
            obtain ⟨σ15, eσ15⟩ : ∃ z : S0, z = st σ 7 x2.toNatClampNeg 0 := ⟨_, rfl⟩
            have hP : va_P D vwCl (wR ad cA cB σ15) H := by rw [eσ15]; exact hP
            have h := h σ15 eσ15
            refine lv_iinc (v := (x2 + 1)) (lv' := [(2, .int (x2 + 1)), (0, .ref (ad 0)), (1, .int x1)]) hx hb d_R_findLinks_166 hl (k := 2) rfl rfl (by decide) rfl (fun ls hl => ?_)
            refine lv_goto (tgt := 105) hx hb d_R_findLinks_169 (by decide) ?_
            rw [hG105] at h
            exact h _ _ _ hP hS (lv_sub hl [1, 2, 0] rfl)
          · have h := h.2 cn
            refine lv_iconst (v := 1) hx hb d_R_findLinks_160 (by decide) ?_
            refine lv_goto (tgt := 165) hx hb d_R_findLinks_161 (by decide) ?_
            have hi := h.1
            have h := h.2
            refine va_zast hx hb hK hP (hD _) hS 7 1 rfl rfl hi d_R_findLinks_165 (fun H locs hP _ hS => ?_)
            obtain ⟨σ16, eσ16⟩ : ∃ z : S0, z = st σ 7 x2.toNatClampNeg 1 := ⟨_, rfl⟩
            have hP : va_P D vwCl (wR ad cA cB σ16) H := by rw [eσ16]; exact hP
            have h := h σ16 eσ16
            refine lv_iinc (v := (x2 + 1)) (lv' := [(2, .int (x2 + 1)), (0, .ref (ad 0)), (1, .int x1)]) hx hb d_R_findLinks_166 hl (k := 2) rfl rfl (by decide) rfl (fun ls hl => ?_)
            refine lv_goto (tgt := 105) hx hb d_R_findLinks_169 (by decide) ?_
            rw [hG105] at h
            exact h _ _ _ hP hS (lv_sub hl [1, 2, 0] rfl))
  have h := h (by
    intro x1 σ h
    rw [hG180]
    intro H locs ls hP hS hl
    refine lv_iload_n hx hb d_R_findLinks_180 rfl (lv_at hl 1 rfl) ?_
    refine lv_sipush (v := 256) hx hb d_R_findLinks_181 (by decide) ?_
    refine lv_icmp_ge (tgt := 235) hx hb d_R_findLinks_184 (by decide) (fun cn => ?_) (fun cn => ?_)
    · have h := h.1 cn
      exact W.vret hx hb hr (fun t ht hW => ⟨⟨σ, rfl, h, kBR_of ht hP⟩, hS.F ht⟩) hS.2.2 d_R_findLinks_235 hlocks
    · have h := h.2 cn
      refine lv_aload_n hx hb d_R_findLinks_187 rfl (lv_at hl 0 rfl) ?_
      refine va_get (D := D) (ci := 4) (v := .ref (ad 7)) (C := RX4) (T := TX4) (N := 27) hx hb htg inG_X4 hown hK hP 0 rfl rfl 7 (by decide) (htg _ m_626) (fun _ h9 => h9) rfl d_R_findLinks_188 ?_
      refine lv_iload_n hx hb d_R_findLinks_191 rfl (lv_at hl 1 rfl) ?_
      refine lv_aload_n hx hb d_R_findLinks_192 rfl (lv_at hl 0 rfl) ?_
      refine va_get (D := D) (ci := 4) (v := .ref (ad 7)) (C := RX4) (T := TX4) (N := 27) hx hb htg inG_X4 hown hK hP 0 rfl rfl 7 (by decide) (htg _ m_626) (fun _ h9 => h9) rfl d_R_findLinks_193 ?_
      refine lv_iload_n hx hb d_R_findLinks_196 rfl (lv_at hl 1 rfl) ?_
      have hi := h.1
      have h := h.2
      refine va_zald hx hb hK hP 7 1 rfl rfl hi d_R_findLinks_197 ?_
      refine lv_if_eq (tgt := 227) hx hb d_R_findLinks_198 (by decide) (fun cn => ?_) (fun cn => ?_)
      · have h := h.1 cn
        refine lv_iconst (v := 0) hx hb d_R_findLinks_227 (by decide) ?_
        have hi := h.1
        have h := h.2
        refine va_zast hx hb hK hP (hD _) hS 7 1 rfl rfl hi d_R_findLinks_228 (fun H locs hP _ hS => ?_)
        obtain ⟨σ5, eσ5⟩ : ∃ z : S0, z = st σ 7 x1.toNatClampNeg 0 := ⟨_, rfl⟩
        have hP : va_P D vwCl (wR ad cA cB σ5) H := by rw [eσ5]; exact hP
        have h := h σ5 eσ5
        refine lv_iinc (v := (x1 + 1)) (lv' := [(1, .int (x1 + 1)), (0, .ref (ad 0))]) hx hb d_R_findLinks_229 hl (k := 1) rfl rfl (by decide) rfl (fun ls hl => ?_)
        refine lv_goto (tgt := 180) hx hb d_R_findLinks_232 (by decide) ?_
        rw [hG180] at h
        exact h _ _ _ hP hS (lv_sub hl [1, 0] rfl)
      · have h := h.2 cn
        refine lv_aload_n hx hb d_R_findLinks_201 rfl (lv_at hl 0 rfl) ?_
        refine lv_iload_n hx hb d_R_findLinks_202 rfl (lv_at hl 1 rfl) ?_
        refine lv_bipush (v := 16) hx hb d_R_findLinks_203 (by decide) ?_
        refine lv_idiv hx hb d_R_findLinks_205 (by decide) ?_
        refine kR_i (va_runV (As := [.int (x1 / 16)]) (rest := [.int x1, .ref (ad 7)]) ⟨hx, hb, hml, hown, htg⟩ (met_R_isDrawn l D ad cA cB hap σ H.size (x1 / 16) _ h) (cwV 1 htg (kG (kG_V m_776 m_778 m_35 m_57 (kG_self m_779))) rfl rfl rfl (by decide +kernel) ⟨Nat.le_of_ble_eq_true rfl, Nat.le_of_ble_eq_true rfl⟩) (kR_preV hK hF hP hS 0 rfl rfl _) rfl rfl hl.1 rfl (lv_room (Nat.le_of_ble_eq_true rfl)) d_R_findLinks_206 ⟨Nat.le_of_ble_eq_true rfl, Nat.le_of_ble_eq_true rfl⟩) hS (fun r7 σ6 H locs h hP hS => ?_)
        refine lv_if_eq (tgt := 227) hx hb d_R_findLinks_209 (by decide) (fun cn => ?_) (fun cn => ?_)
        · have h := h.1 cn
          refine lv_iconst (v := 0) hx hb d_R_findLinks_227 (by decide) ?_
          have hi := h.1
          have h := h.2
          refine va_zast hx hb hK hP (hD _) hS 7 1 rfl rfl hi d_R_findLinks_228 (fun H locs hP _ hS => ?_)
          obtain ⟨σ8, eσ8⟩ : ∃ z : S0, z = st σ6 7 x1.toNatClampNeg 0 := ⟨_, rfl⟩
          have hP : va_P D vwCl (wR ad cA cB σ8) H := by rw [eσ8]; exact hP
          have h := h σ8 eσ8
          refine lv_iinc (v := (x1 + 1)) (lv' := [(1, .int (x1 + 1)), (0, .ref (ad 0))]) hx hb d_R_findLinks_229 hl (k := 1) rfl rfl (by decide) rfl (fun ls hl => ?_)
          refine lv_goto (tgt := 180) hx hb d_R_findLinks_232 (by decide) ?_
          rw [hG180] at h
          exact h _ _ _ hP hS (lv_sub hl [1, 0] rfl)
        · have h := h.2 cn
          refine lv_aload_n hx hb d_R_findLinks_212 rfl (lv_at hl 0 rfl) ?_
          refine lv_iload_n hx hb d_R_findLinks_213 rfl (lv_at hl 1 rfl) ?_
          refine lv_bipush (v := 16) hx hb d_R_findLinks_214 (by decide) ?_
          refine lv_irem hx hb d_R_findLinks_216 (by decide) ?_
          refine kR_i (va_runV (As := [.int (x1 - x1 / 16 * 16)]) (rest := [.int x1, .ref (ad 7)]) ⟨hx, hb, hml, hown, htg⟩ (met_R_isDrawn l D ad cA cB hap σ6 H.size (x1 - x1 / 16 * 16) _ h) (cwV 1 htg (kG (kG_V m_776 m_778 m_35 m_57 (kG_self m_779))) rfl rfl rfl (by decide +kernel) ⟨Nat.le_of_ble_eq_true rfl, Nat.le_of_ble_eq_true rfl⟩) (kR_preV hK hF hP hS 0 rfl rfl _) rfl rfl hl.1 rfl (lv_room (Nat.le_of_ble_eq_true rfl)) d_R_findLinks_217 ⟨Nat.le_of_ble_eq_true rfl, Nat.le_of_ble_eq_true rfl⟩) hS (fun r10 σ9 H locs h hP hS => ?_)
          refine lv_if_eq (tgt := 227) hx hb d_R_findLinks_220 (by decide) (fun cn => ?_) (fun cn => ?_)
          · have h := h.1 cn
            refine lv_iconst (v := 0) hx hb d_R_findLinks_227 (by decide) ?_
            have hi := h.1
            have h := h.2
            refine va_zast hx hb hK hP (hD _) hS 7 1 rfl rfl hi d_R_findLinks_228 (fun H locs hP _ hS => ?_)
            obtain ⟨σ11, eσ11⟩ : ∃ z : S0, z = st σ9 7 x1.toNatClampNeg 0 := ⟨_, rfl⟩
            have hP : va_P D vwCl (wR ad cA cB σ11) H := by rw [eσ11]; exact hP
            have h := h σ11 eσ11
            refine lv_iinc (v := (x1 + 1)) (lv' := [(1, .int (x1 + 1)), (0, .ref (ad 0))]) hx hb d_R_findLinks_229 hl (k := 1) rfl rfl (by decide) rfl (fun ls hl => ?_)
            refine lv_goto (tgt := 180) hx hb d_R_findLinks_232 (by decide) ?_
            rw [hG180] at h
            exact h _ _ _ hP hS (lv_sub hl [1, 0] rfl)
          · have h := h.2 cn
            refine lv_iconst (v := 1) hx hb d_R_findLinks_223 (by decide) ?_
            refine lv_goto (tgt := 228) hx hb d_R_findLinks_224 (by decide) ?_
            have hi := h.1
            have h := h.2
            refine va_zast hx hb hK hP (hD _) hS 7 1 rfl rfl hi d_R_findLinks_228 (fun H locs hP _ hS => ?_)
            obtain ⟨σ12, eσ12⟩ : ∃ z : S0, z = st σ9 7 x1.toNatClampNeg 1 := ⟨_, rfl⟩
            have hP : va_P D vwCl (wR ad cA cB σ12) H := by rw [eσ12]; exact hP
            have h := h σ12 eσ12
            refine lv_iinc (v := (x1 + 1)) (lv' := [(1, .int (x1 + 1)), (0, .ref (ad 0))]) hx hb d_R_findLinks_229 hl (k := 1) rfl rfl (by decide) rfl (fun ls hl => ?_)
            refine lv_goto (tgt := 180) hx hb d_R_findLinks_232 (by decide) ?_
            rw [hG180] at h
            exact h _ _ _ hP hS (lv_sub hl [1, 0] rfl))
  obtain ⟨H, eH⟩ : ∃ z, z = s.heap := ⟨_, rfl⟩
  have hP : va_P D vwCl (wR ad cA cB σ) H := by rw [eH]; exact hP
  have hS : va_S (kAR ad s.heap.size) s.heap H [] := by rw [eH]; exact hS
  show W p l e (headSpec (Cond.code y_R_findLinks c_R_findLinks 3 none :: wsG) ({ frames := 2, cells := 0, slots := 0, locals := 44 } : Room)).room s m ([.ref (ad 0)] : List Value).toArray below meth c s.heap [] 0 0 (MQ below (va_Qv post (kBR D ad cA cB) (kAR ad s.heap.size)) ([.ref (ad 0)] : List Value).toArray s 0 0 (kAR ad s.heap.size)) (F0 m 0 ls [])
  suffices k : W p l e (headSpec (Cond.code y_R_findLinks c_R_findLinks 3 none :: wsG) ({ frames := 2, cells := 0, slots := 0, locals := 44 } : Room)).room s m ([.ref (ad 0)] : List Value).toArray below meth c H [] 0 0 (MQ below (va_Qv post (kBR D ad cA cB) (kAR ad s.heap.size)) ([.ref (ad 0)] : List Value).toArray s 0 0 (kAR ad s.heap.size)) (F0 m 0 ls []) by rw [eH] at k; exact k
  refine lv_iconst (v := 0) hx hb d_R_findLinks_0 (by decide) ?_
  refine lv_istore_n (lv' := [(1, .int 0), (0, .ref (ad 0))]) hx hb d_R_findLinks_1 rfl hl (by decide) rfl (fun ls hl => ?_)
  rw [hG2] at h
  exact h _ _ _ hP hS (lv_sub hl [1, 0] rfl)
set_option maxHeartbeats 4000000 in
set_option maxRecDepth 100000 in
theorem met_R_rowOf (l : Launch) (D : va_G) (ad : Nat → Nat) (cA cB : ClassId) (hap : kapR ad) (σ : S0) (sz : Nat) (a1 : Int32) (post : Int32 → S0 → Prop) (h : Sp_R_rowOf a1 σ post) : Met l y_R_rowOf (Cond.code y_R_rowOf c_R_rowOf 5 (some .int) :: wsG) ({ frames := 2, cells := 0, slots := 0, locals := 44 } : Room) (kPcR D ad cA cB σ sz [.ref (ad 0), .int a1]) (va_Qi post (kBR D ad cA cB) (kAR ad sz)) 0 0 (kAR ad sz) := by
  refine Met.ofW (cc := c_R_rowOf) (maxL := 5) (ret := (some .int)) (by decide) rfl ?_
  intro p e s m args below meth c s₁ B hml hv
  obtain ⟨rfl, hsz, hP, hK, hF⟩ := hv
  have hx := B.exec
  have hb := B.bytes
  have hr := B.returns
  have hts := atoms_spec (ws := (Cond.code y_R_rowOf c_R_rowOf 5 (some .int) :: wsG)) B.pre
  have htg : ∀ w ∈ wsG, w.before ([.ref (ad 0), .int a1] : List Value).toArray s = true := fun w h => hts w (List.mem_cons_of_mem _ h)
  have hown : s.vm.findClass RX4 = some m.cls := findClass_of_methodNamed B.named
  have hlocks := B.notSynchronized
  subst hsz
  have hD : ∀ σ, va_D (kAR ad s.heap.size) (wR ad cA cB σ) := fun σ => wR_D hap cA cB σ _
  have hS : va_S (kAR ad s.heap.size) s.heap s.heap [] := va_S.rf
  have hl := lv_entry ([.ref (ad 0), .int a1]) (n := 5) (Nat.le_of_ble_eq_true rfl)
  rw [lg_entry_eq]
  generalize (lg_sl ([.ref (ad 0), .int a1]) ++ List.replicate (5 - (lg_sl ([.ref (ad 0), .int a1])).length) Slot.unset).toArray = ls at hl ⊢
  have hl : lv_has ls 5 [(0, .ref (ad 0)), (1, .int a1)] := hl
  unfold Sp_R_rowOf at h
  obtain ⟨G4, hG4⟩ : ∃ G : Int32 → Int32 → Int32 → S0 → Prop, G = fun (x1 x2 x3 : Int32) (σ : S0) => ∀ (H : Heap) (locs : List Loc) (ls : Array Slot), va_P D vwCl (wR ad cA cB σ) H → va_S (kAR ad s.heap.size) s.heap H locs → lv_has ls 5 [(0, .ref (ad 0)), (1, .int x1), (2, .int x2), (3, .int x3)] → W p l e (headSpec (Cond.code y_R_rowOf c_R_rowOf 5 (some .int) :: wsG) ({ frames := 2, cells := 0, slots := 0, locals := 44 } : Room)).room s m ([.ref (ad 0), .int a1] : List Value).toArray below meth c H locs 0 0 (MQ below (va_Qi post (kBR D ad cA cB) (kAR ad s.heap.size)) ([.ref (ad 0), .int a1] : List Value).toArray s 0 0 (kAR ad s.heap.size)) (F0 m 4 ls []) := ⟨_, rfl⟩
  obtain ⟨G66, hG66⟩ : ∃ G : Int32 → Int32 → Int32 → Int32 → S0 → Prop, G = fun (x1 x2 x3 t0 : Int32) (σ : S0) => ∀ (H : Heap) (locs : List Loc) (ls : Array Slot), va_P D vwCl (wR ad cA cB σ) H → va_S (kAR ad s.heap.size) s.heap H locs → lv_has ls 5 [(0, .ref (ad 0)), (1, .int x1), (2, .int x2), (3, .int x3)] → W p l e (headSpec (Cond.code y_R_rowOf c_R_rowOf 5 (some .int) :: wsG) ({ frames := 2, cells := 0, slots := 0, locals := 44 } : Room)).room s m ([.ref (ad 0), .int a1] : List Value).toArray below meth c H locs 0 0 (MQ below (va_Qi post (kBR D ad cA cB) (kAR ad s.heap.size)) ([.ref (ad 0), .int a1] : List Value).toArray s 0 0 (kAR ad s.heap.size)) (F0 m 66 ls [.int t0]) := ⟨_, rfl⟩
  have h := h G4 G66
  have h := h (by
    intro x1 x2 x3 σ h
    rw [hG4]
    intro H locs ls hP hS hl
    refine lv_iload_n hx hb d_R_rowOf_4 rfl (lv_at hl 3 rfl) ?_
    refine lv_bipush (v := 16) hx hb d_R_rowOf_5 (by decide) ?_
    refine lv_icmp_ge (tgt := 104) hx hb d_R_rowOf_7 (by decide) (fun cn => ?_) (fun cn => ?_)
    · have h := h.1 cn
      refine lv_iload_n hx hb d_R_rowOf_104 rfl (lv_at hl 2 rfl) ?_
      exact W.iret (v := x2) hx hb hr (fun t ht hW => ⟨⟨_, σ, rfl, h, kBR_of ht hP⟩, hS.F ht⟩) hS.2.2 d_R_rowOf_105 hlocks
    · have h := h.2 cn
      refine lv_iload_n hx hb d_R_rowOf_10 rfl (lv_at hl 3 rfl) ?_
      refine lv_iload_n hx hb d_R_rowOf_11 rfl (lv_at hl 1 rfl) ?_
      refine lv_icmp_eq (tgt := 98) hx hb d_R_rowOf_12 (by decide) (fun cn => ?_) (fun cn => ?_)
      · have h := h.1 cn
        refine lv_iinc (v := (x3 + 1)) (lv' := [(3, .int (x3 + 1)), (0, .ref (ad 0)), (1, .int x1), (2, .int x2)]) hx hb d_R_rowOf_98 hl (k := 3) rfl rfl (by decide) rfl (fun ls hl => ?_)
        refine lv_goto (tgt := 4) hx hb d_R_rowOf_101 (by decide) ?_
        rw [hG4] at h
        exact h _ _ _ hP hS (lv_sub hl [1, 2, 3, 0] rfl)
      · have h := h.2 cn
        refine lv_aload_n hx hb d_R_rowOf_15 rfl (lv_at hl 0 rfl) ?_
        refine lv_iload_n hx hb d_R_rowOf_16 rfl (lv_at hl 3 rfl) ?_
        refine kR_i (va_runV (As := [.int x3]) (rest := []) ⟨hx, hb, hml, hown, htg⟩ (met_R_isDrawn l D ad cA cB hap σ H.size x3 _ h) (cwV 1 htg (kG (kG_V m_776 m_778 m_35 m_57 (kG_self m_779))) rfl rfl rfl (by decide +kernel) ⟨Nat.le_of_ble_eq_true rfl, Nat.le_of_ble_eq_true rfl⟩) (kR_preV hK hF hP hS 0 rfl rfl _) rfl rfl hl.1 rfl (lv_room (Nat.le_of_ble_eq_true rfl)) d_R_rowOf_17 ⟨Nat.le_of_ble_eq_true rfl, Nat.le_of_ble_eq_true rfl⟩) hS (fun r2 σ1 H locs h hP hS => ?_)
        refine lv_if_ne (tgt := 26) hx hb d_R_rowOf_20 (by decide) (fun cn => ?_) (fun cn => ?_)
        · have h := h.1 cn
          refine lv_aload_n hx hb d_R_rowOf_26 rfl (lv_at hl 0 rfl) ?_
          refine va_get (D := D) (ci := 4) (v := .ref (ad 7)) (C := RX4) (T := TX4) (N := 27) hx hb htg inG_X4 hown hK hP 0 rfl rfl 7 (by decide) (htg _ m_626) (fun _ h9 => h9) rfl d_R_rowOf_27 ?_
          refine lv_bipush (v := 16) hx hb d_R_rowOf_30 (by decide) ?_
          refine lv_iload_n hx hb d_R_rowOf_32 rfl (lv_at hl 3 rfl) ?_
          refine lv_imul hx hb d_R_rowOf_33 ?_
          refine lv_iload_n hx hb d_R_rowOf_34 rfl (lv_at hl 1 rfl) ?_
          refine lv_iadd hx hb d_R_rowOf_35 ?_
          have hi := h.1
          have h := h.2
          refine va_zald hx hb hK hP 7 1 rfl rfl hi d_R_rowOf_36 ?_
          refine lv_if_ne (tgt := 61) hx hb d_R_rowOf_37 (by decide) (fun cn => ?_) (fun cn => ?_)
          · have h := h.1 cn
            refine lv_iconst (v := 1) hx hb d_R_rowOf_61 (by decide) ?_
            refine lv_goto (tgt := 66) hx hb d_R_rowOf_62 (by decide) ?_
            rw [hG66] at h
            exact h _ _ _ hP hS (lv_sub hl [0, 1, 2, 3] rfl)
          · have h := h.2 cn
            refine lv_aload_n hx hb d_R_rowOf_40 rfl (lv_at hl 0 rfl) ?_
            refine lv_iload_n hx hb d_R_rowOf_41 rfl (lv_at hl 3 rfl) ?_
            refine kR_i (va_runV (As := [.int x3]) (rest := []) ⟨hx, hb, hml, hown, htg⟩ (met_R_phaseOf l D ad cA cB hap σ1 H.size x3 _ h) (cwV 1 htg (kG (kG_V m_760 m_762 m_32 m_57 (kG_self m_763))) rfl rfl rfl (by decide +kernel) ⟨Nat.le_of_ble_eq_true rfl, Nat.le_of_ble_eq_true rfl⟩) (kR_preV hK hF hP hS 0 rfl rfl _) rfl rfl hl.1 rfl (lv_room (Nat.le_of_ble_eq_true rfl)) d_R_rowOf_42 ⟨Nat.le_of_ble_eq_true rfl, Nat.le_of_ble_eq_true rfl⟩) hS (fun r4 σ3 H locs h hP hS => ?_)
            refine lv_if_lt (tgt := 65) hx hb d_R_rowOf_45 (by decide) (fun cn => ?_) (fun cn => ?_)
            · have h := h.1 cn
              refine lv_iconst (v := 0) hx hb d_R_rowOf_65 (by decide) ?_
              rw [hG66] at h
              exact h _ _ _ hP hS (lv_sub hl [0, 1, 2, 3] rfl)
            · have h := h.2 cn
              refine lv_aload_n hx hb d_R_rowOf_48 rfl (lv_at hl 0 rfl) ?_
              refine lv_iload_n hx hb d_R_rowOf_49 rfl (lv_at hl 3 rfl) ?_
              refine kR_i (va_runV (As := [.int x3]) (rest := []) ⟨hx, hb, hml, hown, htg⟩ (met_R_phaseOf l D ad cA cB hap σ3 H.size x3 _ h) (cwV 1 htg (kG (kG_V m_760 m_762 m_32 m_57 (kG_self m_763))) rfl rfl rfl (by decide +kernel) ⟨Nat.le_of_ble_eq_true rfl, Nat.le_of_ble_eq_true rfl⟩) (kR_preV hK hF hP hS 0 rfl rfl _) rfl rfl hl.1 rfl (lv_room (Nat.le_of_ble_eq_true rfl)) d_R_rowOf_50 ⟨Nat.le_of_ble_eq_true rfl, Nat.le_of_ble_eq_true rfl⟩) hS (fun r6 σ5 H locs h hP hS => ?_)
              refine lv_aload_n hx hb d_R_rowOf_53 rfl (lv_at hl 0 rfl) ?_
              refine lv_iload_n hx hb d_R_rowOf_54 rfl (lv_at hl 1 rfl) ?_
              refine kR_i (va_runV (As := [.int x1]) (rest := [.int r6]) ⟨hx, hb, hml, hown, htg⟩ (met_R_phaseOf l D ad cA cB hap σ5 H.size x1 _ h) (cwV 1 htg (kG (kG_V m_760 m_762 m_32 m_57 (kG_self m_763))) rfl rfl rfl (by decide +kernel) ⟨Nat.le_of_ble_eq_true rfl, Nat.le_of_ble_eq_true rfl⟩) (kR_preV hK hF hP hS 0 rfl rfl _) rfl rfl hl.1 rfl (lv_room (Nat.le_of_ble_eq_true rfl)) d_R_rowOf_55 ⟨Nat.le_of_ble_eq_true rfl, Nat.le_of_ble_eq_true rfl⟩) hS (fun r8 σ7 H locs h hP hS => ?_)
              refine lv_icmp_ge (tgt := 65) hx hb d_R_rowOf_58 (by decide) (fun cn => ?_) (fun cn => ?_)
              · have h := h.1 cn
                refine lv_iconst (v := 0) hx hb d_R_rowOf_65 (by decide) ?_
                rw [hG66] at h
                exact h _ _ _ hP hS (lv_sub hl [0, 1, 2, 3] rfl)
              · have h := h.2 cn
                refine lv_iconst (v := 1) hx hb d_R_rowOf_61 (by decide) ?_
                refine lv_goto (tgt := 66) hx hb d_R_rowOf_62 (by decide) ?_
                rw [hG66] at h
                exact h _ _ _ hP hS (lv_sub hl [0, 1, 2, 3] rfl)
        · have h := h.2 cn
          refine lv_goto (tgt := 98) hx hb d_R_rowOf_23 (by decide) ?_
          refine lv_iinc (v := (x3 + 1)) (lv' := [(3, .int (x3 + 1)), (0, .ref (ad 0)), (1, .int x1), (2, .int x2)]) hx hb d_R_rowOf_98 hl (k := 3) rfl rfl (by decide) rfl (fun ls hl => ?_)
          refine lv_goto (tgt := 4) hx hb d_R_rowOf_101 (by decide) ?_
          rw [hG4] at h
          exact h _ _ _ hP hS (lv_sub hl [1, 2, 3, 0] rfl))
  have h := h (by
    intro x1 x2 x3 t0 σ h
    rw [hG66]
    intro H locs ls hP hS hl
    refine lv_istore (lv' := [(4, .int t0), (0, .ref (ad 0)), (1, .int x1), (2, .int x2), (3, .int x3)]) hx hb d_R_rowOf_66 hl (by decide) rfl (fun ls hl => ?_)
    refine lv_iload hx hb d_R_rowOf_68 (lv_at hl 0 rfl) ?_
    refine lv_if_eq (tgt := 96) hx hb d_R_rowOf_70 (by decide) (fun cn => ?_) (fun cn => ?_)
    · have h := h.1 cn
      refine lv_iload_n hx hb d_R_rowOf_96 rfl (lv_at hl 3 rfl) ?_
      refine lv_istore_n (lv' := [(2, .int x2), (4, .int t0), (0, .ref (ad 0)), (1, .int x1), (3, .int x3)]) hx hb d_R_rowOf_97 rfl hl (by decide) rfl (fun ls hl => ?_)
      refine lv_iinc (v := (x3 + 1)) (lv' := [(3, .int (x3 + 1)), (2, .int x2), (4, .int t0), (0, .ref (ad 0)), (1, .int x1)]) hx hb d_R_rowOf_98 hl (k := 4) rfl rfl (by decide) rfl (fun ls hl => ?_)
      refine lv_goto (tgt := 4) hx hb d_R_rowOf_101 (by decide) ?_
      rw [hG4] at h
      exact h _ _ _ hP hS (lv_sub hl [3, 4, 1, 0] rfl)
    · have h := h.2 cn
      refine lv_aload_n hx hb d_R_rowOf_73 rfl (lv_at hl 1 rfl) ?_
      refine va_get (D := D) (ci := 4) (v := .ref (ad 8)) (C := RX4) (T := TX4) (N := 27) hx hb htg inG_X4 hown hK hP 0 rfl rfl 10 (by decide) (htg _ m_629) (fun _ h9 => h9) rfl d_R_rowOf_74 ?_
      refine lv_iload_n hx hb d_R_rowOf_77 rfl (lv_at hl 4 rfl) ?_
      have hi := h.1
      have h := h.2
      refine va_iald hx hb hK hP 8 0 rfl rfl hi d_R_rowOf_78 ?_
      refine lv_iconst (v := 1) hx hb d_R_rowOf_79 (by decide) ?_
      refine lv_iadd hx hb d_R_rowOf_80 ?_
      refine lv_iload_n hx hb d_R_rowOf_81 rfl (lv_at hl 3 rfl) ?_
      refine lv_icmp_le (tgt := 96) hx hb d_R_rowOf_82 (by decide) (fun cn => ?_) (fun cn => ?_)
      · have h := h.1 cn
        refine lv_iload_n hx hb d_R_rowOf_96 rfl (lv_at hl 3 rfl) ?_
        refine lv_istore_n (lv' := [(2, .int x2), (4, .int t0), (0, .ref (ad 0)), (1, .int x1), (3, .int x3)]) hx hb d_R_rowOf_97 rfl hl (by decide) rfl (fun ls hl => ?_)
        refine lv_iinc (v := (x3 + 1)) (lv' := [(3, .int (x3 + 1)), (2, .int x2), (4, .int t0), (0, .ref (ad 0)), (1, .int x1)]) hx hb d_R_rowOf_98 hl (k := 4) rfl rfl (by decide) rfl (fun ls hl => ?_)
        refine lv_goto (tgt := 4) hx hb d_R_rowOf_101 (by decide) ?_
        rw [hG4] at h
        exact h _ _ _ hP hS (lv_sub hl [3, 4, 1, 0] rfl)
      · have h := h.2 cn
        refine lv_aload_n hx hb d_R_rowOf_85 rfl (lv_at hl 1 rfl) ?_
        refine va_get (D := D) (ci := 4) (v := .ref (ad 8)) (C := RX4) (T := TX4) (N := 27) hx hb htg inG_X4 hown hK hP 0 rfl rfl 10 (by decide) (htg _ m_629) (fun _ h9 => h9) rfl d_R_rowOf_86 ?_
        refine lv_iload_n hx hb d_R_rowOf_89 rfl (lv_at hl 4 rfl) ?_
        have hi := h.1
        have h := h.2
        refine va_iald hx hb hK hP 8 0 rfl rfl hi d_R_rowOf_90 ?_
        refine lv_iconst (v := 1) hx hb d_R_rowOf_91 (by decide) ?_
        refine lv_iadd hx hb d_R_rowOf_92 ?_
        refine lv_goto (tgt := 97) hx hb d_R_rowOf_93 (by decide) ?_
        refine lv_topi (fun v9 ev9 => ?_)
        have h := h v9 ev9
        refine lv_istore_n (lv' := [(2, .int v9), (4, .int t0), (0, .ref (ad 0)), (1, .int x1), (3, .int x3)]) hx hb d_R_rowOf_97 rfl hl (by decide) rfl (fun ls hl => ?_)
        refine lv_iinc (v := (x3 + 1)) (lv' := [(3, .int (x3 + 1)), (2, .int v9), (4, .int t0), (0, .ref (ad 0)), (1, .int x1)]) hx hb d_R_rowOf_98 hl (k := 4) rfl rfl (by decide) rfl (fun ls hl => ?_)
        refine lv_goto (tgt := 4) hx hb d_R_rowOf_101 (by decide) ?_
        rw [hG4] at h
        exact h _ _ _ hP hS (lv_sub hl [3, 4, 1, 0] rfl))
  obtain ⟨H, eH⟩ : ∃ z, z = s.heap := ⟨_, rfl⟩
  have hP : va_P D vwCl (wR ad cA cB σ) H := by rw [eH]; exact hP
  have hS : va_S (kAR ad s.heap.size) s.heap H [] := by rw [eH]; exact hS
  show W p l e (headSpec (Cond.code y_R_rowOf c_R_rowOf 5 (some .int) :: wsG) ({ frames := 2, cells := 0, slots := 0, locals := 44 } : Room)).room s m ([.ref (ad 0), .int a1] : List Value).toArray below meth c s.heap [] 0 0 (MQ below (va_Qi post (kBR D ad cA cB) (kAR ad s.heap.size)) ([.ref (ad 0), .int a1] : List Value).toArray s 0 0 (kAR ad s.heap.size)) (F0 m 0 ls [])
  suffices k : W p l e (headSpec (Cond.code y_R_rowOf c_R_rowOf 5 (some .int) :: wsG) ({ frames := 2, cells := 0, slots := 0, locals := 44 } : Room)).room s m ([.ref (ad 0), .int a1] : List Value).toArray below meth c H [] 0 0 (MQ below (va_Qi post (kBR D ad cA cB) (kAR ad s.heap.size)) ([.ref (ad 0), .int a1] : List Value).toArray s 0 0 (kAR ad s.heap.size)) (F0 m 0 ls []) by rw [eH] at k; exact k
  refine lv_iconst (v := 0) hx hb d_R_rowOf_0 (by decide) ?_
  refine lv_istore_n (lv' := [(2, .int 0), (0, .ref (ad 0)), (1, .int a1)]) hx hb d_R_rowOf_1 rfl hl (by decide) rfl (fun ls hl => ?_)
  refine lv_iconst (v := 0) hx hb d_R_rowOf_2 (by decide) ?_
  refine lv_istore_n (lv' := [(3, .int 0), (2, .int 0), (0, .ref (ad 0)), (1, .int a1)]) hx hb d_R_rowOf_3 rfl hl (by decide) rfl (fun ls hl => ?_)
  rw [hG4] at h
  exact h _ _ _ hP hS (lv_sub hl [2, 3, 1, 0] rfl)
