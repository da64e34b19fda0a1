set_option maxHeartbeats 4000000 in
set_option maxRecDepth 100000 in
theorem met_R_findRows (l : Launch) (D : va_G) (ad : Nat → Nat) (cA cB : ClassId) (hap : kapR ad) (σ : S0) (sz : Nat) (post : S0 → Prop) (h : Sp_R_findRows  σ post) : Met l y_R_findRows (Cond.code y_R_findRows c_R_findRows 3 none :: wsG) ({ frames := 3, cells := 0, slots := 0, locals := 68 } : Room) (kPcR D ad cA cB σ sz [.ref (ad 0)]) (va_Qv post (kBR D ad cA cB) (kAR ad sz)) 0 0 (kAR ad sz) := by
  refine Met.ofW (cc := c_R_findRows) (maxL := 3) (ret := none) (by decide) rfl ?_
  intro p e s m args below meth c s₁ B hml hv
  obtain ⟨rfl, hsz, hP, hK, hF⟩ := hv
  have hx := B.exec
  have hb := B.bytes
  have hr := B.returns
  have hts := atoms_spec (ws := (Cond.code y_R_findRows c_R_findRows 3 none :: wsG)) B.pre
  have htg : ∀ w ∈ wsG, w.before ([.ref (ad 0)] : List Value).toArray s = true := fun w h => hts w (List.mem_cons_of_mem _ h)
  have hown : s.vm.findClass RX4 = some m.cls := findClass_of_methodNamed B.named
  have hlocks := B.notSynchronized
  subst hsz
  have hD : ∀ σ, va_D (kAR ad s.heap.size) (wR ad cA cB σ) := fun σ => wR_D hap cA cB σ _
  have hS : va_S (kAR ad s.heap.size) s.heap s.heap [] := va_S.rf
  have hl := lv_entry ([.ref (ad 0)]) (n := 3) (Nat.le_of_ble_eq_true rfl)
  rw [lg_entry_eq]
  generalize (lg_sl ([.ref (ad 0)]) ++ List.replicate (3 - (lg_sl ([.ref (ad 0)])).length) Slot.unset).toArray = ls at hl ⊢
  have hl : lv_has ls 3 [(0, .ref (ad 0))] := hl
  unfold Sp_R_findRows at h
  obtain ⟨G2, hG2⟩ : ∃ G : Int32 → S0 → Prop, G = fun (x1 : Int32) (σ : S0) => ∀ (H : Heap) (locs : List Loc) (ls : Array Slot), va_P D vwCl (wR ad cA cB σ) H → va_S (kAR ad s.heap.size) s.heap H locs → lv_has ls 3 [(0, .ref (ad 0)), (1, .int x1)] → W p l e (headSpec (Cond.code y_R_findRows c_R_findRows 3 none :: wsG) ({ frames := 3, cells := 0, slots := 0, locals := 68 } : Room)).room s m ([.ref (ad 0)] : List Value).toArray below meth c H locs 0 0 (MQ below (va_Qv post (kBR D ad cA cB) (kAR ad s.heap.size)) ([.ref (ad 0)] : List Value).toArray s 0 0 (kAR ad s.heap.size)) (F0 m 2 ls []) := ⟨_, rfl⟩
  obtain ⟨G26, hG26⟩ : ∃ G : Int32 → Int32 → Int32 → S0 → Prop, G = fun (x1 t1 t2 : Int32) (σ : S0) => ∀ (H : Heap) (locs : List Loc) (ls : Array Slot), va_P D vwCl (wR ad cA cB σ) H → va_S (kAR ad s.heap.size) s.heap H locs → lv_has ls 3 [(0, .ref (ad 0)), (1, .int x1)] → W p l e (headSpec (Cond.code y_R_findRows c_R_findRows 3 none :: wsG) ({ frames := 3, cells := 0, slots := 0, locals := 68 } : Room)).room s m ([.ref (ad 0)] : List Value).toArray below meth c H locs 0 0 (MQ below (va_Qv post (kBR D ad cA cB) (kAR ad s.heap.size)) ([.ref (ad 0)] : List Value).toArray s 0 0 (kAR ad s.heap.size)) (F0 m 26 ls [.int t2, .int t1, .ref (ad 8)]) := ⟨_, rfl⟩
  obtain ⟨G35, hG35⟩ : ∃ G : Int32 → S0 → Prop, G = fun (x1 : Int32) (σ : S0) => ∀ (H : Heap) (locs : List Loc) (ls : Array Slot), va_P D vwCl (wR ad cA cB σ) H → va_S (kAR ad s.heap.size) s.heap H locs → lv_has ls 3 [(0, .ref (ad 0)), (1, .int x1)] → W p l e (headSpec (Cond.code y_R_findRows c_R_findRows 3 none :: wsG) ({ frames := 3, cells := 0, slots := 0, locals := 68 } : Room)).room s m ([.ref (ad 0)] : List Value).toArray below meth c H locs 0 0 (MQ below (va_Qv post (kBR D ad cA cB) (kAR ad s.heap.size)) ([.ref (ad 0)] : List Value).toArray s 0 0 (kAR ad s.heap.size)) (F0 m 35 ls []) := ⟨_, rfl⟩
  obtain ⟨G43, hG43⟩ : ∃ G : Int32 → Int32 → S0 → Prop, G = fun (x1 x2 : Int32) (σ : S0) => ∀ (H : Heap) (locs : List Loc) (ls : Array Slot), va_P D vwCl (wR ad cA cB σ) H → va_S (kAR ad s.heap.size) s.heap H locs → lv_has ls 3 [(0, .ref (ad 0)), (1, .int x1), (2, .int x2)] → W p l e (headSpec (Cond.code y_R_findRows c_R_findRows 3 none :: wsG) ({ frames := 3, cells := 0, slots := 0, locals := 68 } : Room)).room s m ([.ref (ad 0)] : List Value).toArray below meth c H locs 0 0 (MQ below (va_Qv post (kBR D ad cA cB) (kAR ad s.heap.size)) ([.ref (ad 0)] : List Value).toArray s 0 0 (kAR ad s.heap.size)) (F0 m 43 ls []) := ⟨_, rfl⟩
  have h := h G2 G26 G35 G43
  have h := h (by
    intro x1 σ h
    rw [hG2]
    intro H locs ls hP hS hl
    refine lv_iload_n hx hb d_R_findRows_2 rfl (lv_at hl 1 rfl) ?_
    refine lv_bipush (v := 16) hx hb d_R_findRows_3 (by decide) ?_
    refine lv_icmp_ge (tgt := 33) hx hb d_R_findRows_5 (by decide) (fun cn => ?_) (fun cn => ?_)
    · have h := h.1 cn
      refine lv_iconst (v := 1) hx hb d_R_findRows_33 (by decide) ?_
      refine lv_istore_n (lv' := [(1, .int 1), (0, .ref (ad 0))]) hx hb d_R_findRows_34 rfl hl (by decide) rfl (fun ls hl => ?_)
      rw [hG35] at h
      exact h _ _ _ hP hS (lv_sub hl [1, 0] rfl)
    · have h := h.2 cn
      refine lv_aload_n hx hb d_R_findRows_8 rfl (lv_at hl 0 rfl) ?_
      refine va_get (D := D) (ci := 4) (v := .ref (ad 8)) (C := RX4) (T := TX4) (N := 27) hx hb htg inG_X4 hown hK hP 0 rfl rfl 10 (by decide) (htg _ m_629) (fun _ h9 => h9) rfl d_R_findRows_9 ?_
      refine lv_iload_n hx hb d_R_findRows_12 rfl (lv_at hl 1 rfl) ?_
      refine lv_aload_n hx hb d_R_findRows_13 rfl (lv_at hl 0 rfl) ?_
      refine lv_iload_n hx hb d_R_findRows_14 rfl (lv_at hl 1 rfl) ?_
      refine kR_i (va_runV (As := [.int x1]) (rest := [.int x1, .ref (ad 8)]) ⟨hx, hb, hml, hown, htg⟩ (met_R_isDrawn l D ad cA cB hap σ H.size x1 _ h) (cwV 1 htg (kG (kG_V m_776 m_778 m_35 m_57 (kG_self m_779))) rfl rfl rfl (by decide +kernel) ⟨Nat.le_of_ble_eq_true rfl, Nat.le_of_ble_eq_true rfl⟩) (kR_preV hK hF hP hS 0 rfl rfl _) rfl rfl hl.1 rfl (lv_room (Nat.le_of_ble_eq_true rfl)) d_R_findRows_15 ⟨Nat.le_of_ble_eq_true rfl, Nat.le_of_ble_eq_true rfl⟩) hS (fun r2 σ1 H locs h hP hS => ?_)
      refine lv_if_eq (tgt := 25) hx hb d_R_findRows_18 (by decide) (fun cn => ?_) (fun cn => ?_)
      · have h := h.1 cn
        refine lv_iconst (v := (-1)) hx hb d_R_findRows_25 (by decide) ?_
        rw [hG26] at h
        exact h _ _ _ hP hS (lv_sub hl [0, 1] rfl)
      · have h := h.2 cn
        refine lv_iconst (v := 0) hx hb d_R_findRows_21 (by decide) ?_
        refine lv_goto (tgt := 26) hx hb d_R_findRows_22 (by decide) ?_
        rw [hG26] at h
        exact h _ _ _ hP hS (lv_sub hl [0, 1] rfl))
  have h := h (by
    intro x1 t1 t2 σ h
    rw [hG26]
    intro H locs ls hP hS hl
    have hi := h.1
    have h := h.2
    refine va_iast hx hb hK hP (hD _) hS 8 0 rfl rfl hi d_R_findRows_26 (fun H locs hP _ hS => ?_)
    obtain ⟨σ3, eσ3⟩ : ∃ z : S0, z = st σ 8 t1.toNatClampNeg t2 := ⟨_, rfl⟩
    have hP : va_P D vwCl (wR ad cA cB σ3) H := by rw [eσ3]; exact hP
    have h := h σ3 eσ3
    refine lv_iinc (v := (x1 + 1)) (lv' := [(1, .int (x1 + 1)), (0, .ref (ad 0))]) hx hb d_R_findRows_27 hl (k := 1) rfl rfl (by decide) rfl (fun ls hl => ?_)
    refine lv_goto (tgt := 2) hx hb d_R_findRows_30 (by decide) ?_
    rw [hG2] at h
    exact h _ _ _ hP hS (lv_sub hl [1, 0] rfl))
  have h := h (by
    intro x1 σ h
    rw [hG35]
    intro H locs ls hP hS hl
    refine lv_iload_n hx hb d_R_findRows_35 rfl (lv_at hl 1 rfl) ?_
    refine lv_if_eq (tgt := 96) hx hb d_R_findRows_36 (by decide) (fun cn => ?_) (fun cn => ?_)
    · have h := h.1 cn
      exact W.vret hx hb hr (fun t ht hW => ⟨⟨σ, rfl, h, kBR_of ht hP⟩, hS.F ht⟩) hS.2.2 d_R_findRows_96 hlocks
    · have h := h.2 cn
      refine lv_iconst (v := 0) hx hb d_R_findRows_39 (by decide) ?_
      refine lv_istore_n (lv' := [(1, .int 0), (0, .ref (ad 0))]) hx hb d_R_findRows_40 rfl hl (by decide) rfl (fun ls hl => ?_)
      refine lv_iconst (v := 0) hx hb d_R_findRows_41 (by decide) ?_
      refine lv_istore_n (lv' := [(2, .int 0), (1, .int 0), (0, .ref (ad 0))]) hx hb d_R_findRows_42 rfl hl (by decide) rfl (fun ls hl => ?_)
      rw [hG43] at h
      exact h _ _ _ hP hS (lv_sub hl [2, 1, 0] rfl))
  have h := h (by
    intro x1 x2 σ h
    rw [hG43]
    intro H locs ls hP hS hl
    refine lv_iload_n hx hb d_R_findRows_43 rfl (lv_at hl 2 rfl) ?_
    refine lv_bipush (v := 16) hx hb d_R_findRows_44 (by decide) ?_
    refine lv_icmp_ge (tgt := 93) hx hb d_R_findRows_46 (by decide) (fun cn => ?_) (fun cn => ?_)
    · have h := h.1 cn
      refine lv_goto (tgt := 35) hx hb d_R_findRows_93 (by decide) ?_
      rw [hG35] at h
      exact h _ _ _ hP hS (lv_sub hl [0, 1] rfl)
    · have h := h.2 cn
      refine lv_aload_n hx hb d_R_findRows_49 rfl (lv_at hl 0 rfl) ?_
      refine lv_iload_n hx hb d_R_findRows_50 rfl (lv_at hl 2 rfl) ?_
      refine kR_i (va_runV (As := [.int x2]) (rest := []) ⟨hx, hb, hml, hown, htg⟩ (met_R_isDrawn l D ad cA cB hap σ H.size x2 _ h) (cwV 1 htg (kG (kG_V m_776 m_778 m_35 m_57 (kG_self m_779))) rfl rfl rfl (by decide +kernel) ⟨Nat.le_of_ble_eq_true rfl, Nat.le_of_ble_eq_true rfl⟩) (kR_preV hK hF hP hS 0 rfl rfl _) rfl rfl hl.1 rfl (lv_room (Nat.le_of_ble_eq_true rfl)) d_R_findRows_51 ⟨Nat.le_of_ble_eq_true rfl, Nat.le_of_ble_eq_true rfl⟩) hS (fun r5 σ4 H locs h hP hS => ?_)
      refine lv_if_eq (tgt := 87) hx hb d_R_findRows_54 (by decide) (fun cn => ?_) (fun cn => ?_)
      · have h := h.1 cn
        refine lv_iinc (v := (x2 + 1)) (lv' := [(2, .int (x2 + 1)), (0, .ref (ad 0)), (1, .int x1)]) hx hb d_R_findRows_87 hl (k := 2) rfl rfl (by decide) rfl (fun ls hl => ?_)
        refine lv_goto (tgt := 43) hx hb d_R_findRows_90 (by decide) ?_
        rw [hG43] at h
        exact h _ _ _ hP hS (lv_sub hl [1, 2, 0] rfl)
      · have h := h.2 cn
        refine lv_aload_n hx hb d_R_findRows_57 rfl (lv_at hl 0 rfl) ?_
        refine lv_iload_n hx hb d_R_findRows_58 rfl (lv_at hl 2 rfl) ?_
        refine kR_i (va_runV (As := [.int x2]) (rest := []) ⟨hx, hb, hml, hown, htg⟩ (met_R_rowOf l D ad cA cB hap σ4 H.size x2 _ h) (cwV 1 htg (kG (kG_V m_788 m_790 m_38 m_57 (kG_self m_791))) rfl rfl rfl (by decide +kernel) ⟨Nat.le_of_ble_eq_true rfl, Nat.le_of_ble_eq_true rfl⟩) (kR_preV hK hF hP hS 0 rfl rfl _) rfl rfl hl.1 rfl (lv_room (Nat.le_of_ble_eq_true rfl)) d_R_findRows_59 ⟨Nat.le_of_ble_eq_true rfl, Nat.le_of_ble_eq_true rfl⟩) hS (fun r7 σ6 H locs h hP hS => ?_)
        refine lv_aload_n hx hb d_R_findRows_62 rfl (lv_at hl 0 rfl) ?_
        refine va_get (D := D) (ci := 4) (v := .ref (ad 8)) (C := RX4) (T := TX4) (N := 27) hx hb htg inG_X4 hown hK hP 0 rfl rfl 10 (by decide) (htg _ m_629) (fun _ h9 => h9) rfl d_R_findRows_63 ?_
        refine lv_iload_n hx hb d_R_findRows_66 rfl (lv_at hl 2 rfl) ?_
        have hi := h.1
        have h := h.2
        refine va_iald hx hb hK hP 8 0 rfl rfl hi d_R_findRows_67 ?_
        refine lv_icmp_ne (tgt := 74) hx hb d_R_findRows_68 (by decide) (fun cn => ?_) (fun cn => ?_)
        · have h := h.1 cn
          refine lv_aload_n hx hb d_R_findRows_74 rfl (lv_at hl 0 rfl) ?_
          refine va_get (D := D) (ci := 4) (v := .ref (ad 8)) (C := RX4) (T := TX4) (N := 27) hx hb htg inG_X4 hown hK hP 0 rfl rfl 10 (by decide) (htg _ m_629) (fun _ h9 => h9) rfl d_R_findRows_75 ?_
          refine lv_iload_n hx hb d_R_findRows_78 rfl (lv_at hl 2 rfl) ?_
          refine lv_aload_n hx hb d_R_findRows_79 rfl (lv_at hl 0 rfl) ?_
          refine lv_iload_n hx hb d_R_findRows_80 rfl (lv_at hl 2 rfl) ?_
          refine kR_i (va_runV (As := [.int x2]) (rest := [.int x2, .ref (ad 8)]) ⟨hx, hb, hml, hown, htg⟩ (met_R_rowOf l D ad cA cB hap σ6 H.size x2 _ h) (cwV 1 htg (kG (kG_V m_788 m_790 m_38 m_57 (kG_self m_791))) rfl rfl rfl (by decide +kernel) ⟨Nat.le_of_ble_eq_true rfl, Nat.le_of_ble_eq_true rfl⟩) (kR_preV hK hF hP hS 0 rfl rfl _) rfl rfl hl.1 rfl (lv_room (Nat.le_of_ble_eq_true rfl)) d_R_findRows_81 ⟨Nat.le_of_ble_eq_true rfl, Nat.le_of_ble_eq_true rfl⟩) hS (fun r9 σ8 H locs h hP hS => ?_)
          have hi := h.1
          have h := h.2
          refine va_iast hx hb hK hP (hD _) hS 8 0 rfl rfl hi d_R_findRows_84 (fun H locs hP _ hS => ?_)
          obtain ⟨σ10, eσ10⟩ : ∃ z : S0, z = st σ8 8 x2.toNatClampNeg r9 := ⟨_, rfl⟩
          have hP : va_P D vwCl (wR ad cA cB σ10) H := by rw [eσ10]; exact hP
          have h := h σ10 eσ10
          refine lv_iconst (v := 1) hx hb d_R_findRows_85 (by decide) ?_
          refine lv_istore_n (lv' := [(1, .int 1), (0, .ref (ad 0)), (2, .int x2)]) hx hb d_R_findRows_86 rfl hl (by decide) rfl (fun ls hl => ?_)
          refine lv_iinc (v := (x2 + 1)) (lv' := [(2, .int (x2 + 1)), (1, .int 1), (0, .ref (ad 0))]) hx hb d_R_findRows_87 hl (k := 2) rfl rfl (by decide) rfl (fun ls hl => ?_)
          refine lv_goto (tgt := 43) hx hb d_R_findRows_90 (by decide) ?_
          rw [hG43] at h
          exact h _ _ _ hP hS (lv_sub hl [2, 1, 0] rfl)
        · have h := h.2 cn
          refine lv_goto (tgt := 87) hx hb d_R_findRows_71 (by decide) ?_
          refine lv_iinc (v := (x2 + 1)) (lv' := [(2, .int (x2 + 1)), (0, .ref (ad 0)), (1, .int x1)]) hx hb d_R_findRows_87 hl (k := 2) rfl rfl (by decide) rfl (fun ls hl => ?_)
          refine lv_goto (tgt := 43) hx hb d_R_findRows_90 (by decide) ?_
          rw [hG43] at h
          exact h _ _ _ hP hS (lv_sub hl [1, 2, 0] rfl))
  obtain ⟨H, eH⟩ : ∃ z, z = s.heap := ⟨_, rfl⟩
  have hP : va_P D vwCl (wR ad cA cB σ) H := by rw [eH]; exact hP
  have hS : va_S (kAR ad s.heap.size) s.heap H [] := by rw [eH]; exact hS
  show W p l e (headSpec (Cond.code y_R_findRows c_R_findRows 3 none :: wsG) ({ frames := 3, cells := 0, slots := 0, locals := 68 } : Room)).room s m ([.ref (ad 0)] : List Value).toArray below meth c s.heap [] 0 0 (MQ below (va_Qv post (kBR D ad cA cB) (kAR ad s.heap.size)) ([.ref (ad 0)] : List Value).toArray s 0 0 (kAR ad s.heap.size)) (F0 m 0 ls [])
  suffices k : W p l e (headSpec (Cond.code y_R_findRows c_R_findRows 3 none :: wsG) ({ frames := 3, cells := 0, slots := 0, locals := 68 } : Room)).room s m ([.ref (ad 0)] : List Value).toArray below meth c H [] 0 0 (MQ below (va_Qv post (kBR D ad cA cB) (kAR ad s.heap.size)) ([.ref (ad 0)] : List Value).toArray s 0 0 (kAR ad s.heap.size)) (F0 m 0 ls []) by rw [eH] at k; exact k
  refine lv_iconst (v := 0) hx hb d_R_findRows_0 (by decide) ?_
  refine lv_istore_n (lv' := [(1, .int 0), (0, .ref (ad 0))]) hx hb d_R_findRows_1 rfl hl (by decide) rfl (fun ls hl => ?_)
  rw [hG2] at h
  exact h _ _ _ hP hS (lv_sub hl [1, 0] rfl)
set_option maxHeartbeats 4000000 in
set_option maxRecDepth 100000 in
theorem met_R_bendsOf (l : Launch) (D : va_G) (ad : Nat → Nat) (cA cB : ClassId) (hap : kapR ad) (σ : S0) (sz : Nat) (a1 : Int32) (post : Int32 → S0 → Prop) (h : Sp_R_bendsOf a1 σ post) : Met l y_R_bendsOf (Cond.code y_R_bendsOf c_R_bendsOf 2 (some .int) :: wsG) ({ frames := 0, cells := 0, slots := 0, locals := 0 } : Room) (kPcR D ad cA cB σ sz [.ref (ad 0), .int a1]) (va_Qi post (kBR D ad cA cB) (kAR ad sz)) 0 0 (kAR ad sz) := by
  refine Met.ofW (cc := c_R_bendsOf) (maxL := 2) (ret := (some .int)) (by decide) rfl ?_
  intro p e s m args below meth c s₁ B hml hv
  obtain ⟨rfl, hsz, hP, hK, hF⟩ := hv
  have hx := B.exec
  have hb := B.bytes
  have hr := B.returns
  have hts := atoms_spec (ws := (Cond.code y_R_bendsOf c_R_bendsOf 2 (some .int) :: wsG)) B.pre
  have htg : ∀ w ∈ wsG, w.before ([.ref (ad 0), .int a1] : List Value).toArray s = true := fun w h => hts w (List.mem_cons_of_mem _ h)
  have hown : s.vm.findClass RX4 = some m.cls := findClass_of_methodNamed B.named
  have hlocks := B.notSynchronized
  subst hsz
  have hD : ∀ σ, va_D (kAR ad s.heap.size) (wR ad cA cB σ) := fun σ => wR_D hap cA cB σ _
  have hS : va_S (kAR ad s.heap.size) s.heap s.heap [] := va_S.rf
  have hl := lv_entry ([.ref (ad 0), .int a1]) (n := 2) (Nat.le_of_ble_eq_true rfl)
  rw [lg_entry_eq]
  generalize (lg_sl ([.ref (ad 0), .int a1]) ++ List.replicate (2 - (lg_sl ([.ref (ad 0), .int a1])).length) Slot.unset).toArray = ls at hl ⊢
  have hl : lv_has ls 2 [(0, .ref (ad 0)), (1, .int a1)] := hl
  unfold Sp_R_bendsOf at h
  obtain ⟨H, eH⟩ : ∃ z, z = s.heap := ⟨_, rfl⟩
  have hP : va_P D vwCl (wR ad cA cB σ) H := by rw [eH]; exact hP
  have hS : va_S (kAR ad s.heap.size) s.heap H [] := by rw [eH]; exact hS
  show W p l e (headSpec (Cond.code y_R_bendsOf c_R_bendsOf 2 (some .int) :: wsG) ({ frames := 0, cells := 0, slots := 0, locals := 0 } : Room)).room s m ([.ref (ad 0), .int a1] : List Value).toArray below meth c s.heap [] 0 0 (MQ below (va_Qi post (kBR D ad cA cB) (kAR ad s.heap.size)) ([.ref (ad 0), .int a1] : List Value).toArray s 0 0 (kAR ad s.heap.size)) (F0 m 0 ls [])
  suffices k : W p l e (headSpec (Cond.code y_R_bendsOf c_R_bendsOf 2 (some .int) :: wsG) ({ frames := 0, cells := 0, slots := 0, locals := 0 } : Room)).room s m ([.ref (ad 0), .int a1] : List Value).toArray below meth c H [] 0 0 (MQ below (va_Qi post (kBR D ad cA cB) (kAR ad s.heap.size)) ([.ref (ad 0), .int a1] : List Value).toArray s 0 0 (kAR ad s.heap.size)) (F0 m 0 ls []) by rw [eH] at k; exact k
  refine lv_aload_n hx hb d_R_bendsOf_0 rfl (lv_at hl 0 rfl) ?_
  refine va_get (D := D) (ci := 4) (v := .ref (ad 8)) (C := RX4) (T := TX4) (N := 27) hx hb htg inG_X4 hown hK hP 0 rfl rfl 10 (by decide) (htg _ m_629) (fun _ h9 => h9) rfl d_R_bendsOf_1 ?_
  refine lv_aload_n hx hb d_R_bendsOf_4 rfl (lv_at hl 0 rfl) ?_
  refine va_get (D := D) (ci := 4) (v := .ref (ad 14)) (C := RX4) (T := TX4) (N := 27) hx hb htg inG_X4 hown hK hP 0 rfl rfl 18 (by decide) (htg _ m_637) (fun _ h9 => h9) rfl d_R_bendsOf_5 ?_
  refine lv_iload_n hx hb d_R_bendsOf_8 rfl (lv_at hl 1 rfl) ?_
  have hi := h.1
  have h := h.2
  refine va_iald hx hb hK hP 14 0 rfl rfl hi d_R_bendsOf_9 ?_
  have hi := h.1
  have h := h.2
  refine va_iald hx hb hK hP 8 0 rfl rfl hi d_R_bendsOf_10 ?_
  refine lv_aload_n hx hb d_R_bendsOf_11 rfl (lv_at hl 0 rfl) ?_
  refine va_get (D := D) (ci := 4) (v := .ref (ad 8)) (C := RX4) (T := TX4) (N := 27) hx hb htg inG_X4 hown hK hP 0 rfl rfl 10 (by decide) (htg _ m_629) (fun _ h9 => h9) rfl d_R_bendsOf_12 ?_
  refine lv_aload_n hx hb d_R_bendsOf_15 rfl (lv_at hl 0 rfl) ?_
  refine va_get (D := D) (ci := 4) (v := .ref (ad 13)) (C := RX4) (T := TX4) (N := 27) hx hb htg inG_X4 hown hK hP 0 rfl rfl 17 (by decide) (htg _ m_636) (fun _ h9 => h9) rfl d_R_bendsOf_16 ?_
  refine lv_iload_n hx hb d_R_bendsOf_19 rfl (lv_at hl 1 rfl) ?_
  have hi := h.1
  have h := h.2
  refine va_iald hx hb hK hP 13 0 rfl rfl hi d_R_bendsOf_20 ?_
  have hi := h.1
  have h := h.2
  refine va_iald hx hb hK hP 8 0 rfl rfl hi d_R_bendsOf_21 ?_
  refine lv_isub hx hb d_R_bendsOf_22 ?_
  refine lv_iconst (v := 1) hx hb d_R_bendsOf_23 (by decide) ?_
  refine lv_isub hx hb d_R_bendsOf_24 ?_
  exact W.iret (v := (((σ 8 (σ 14 a1.toNatClampNeg).toNatClampNeg) - (σ 8 (σ 13 a1.toNatClampNeg).toNatClampNeg)) - 1)) hx hb hr (fun t ht hW => ⟨⟨_, σ, rfl, h, kBR_of ht hP⟩, hS.F ht⟩) hS.2.2 d_R_bendsOf_25 hlocks
set_option maxHeartbeats 4000000 in
set_option maxRecDepth 100000 in
theorem met_R_addPiece (l : Launch) (D : va_G) (ad : Nat → Nat) (cA cB : ClassId) (hap : kapR ad) (σ : S0) (sz : Nat) (a1 a2 : Int32) (post : S0 → Prop) (h : Sp_R_addPiece a1 a2 σ post) : Met l y_R_addPiece (Cond.code y_R_addPiece c_R_addPiece 3 none :: wsG) ({ frames := 0, cells := 0, slots := 0, locals := 0 } : Room) (kPcR D ad cA cB σ sz [.ref (ad 0), .int a1, .int a2]) (va_Qv post (kBR D ad cA cB) (kAR ad sz)) 0 0 (kAR ad sz) := by
  refine Met.ofW (cc := c_R_addPiece) (maxL := 3) (ret := none) (by decide) rfl ?_
  intro p e s m args below meth c s₁ B hml hv
  obtain ⟨rfl, hsz, hP, hK, hF⟩ := hv
  have hx := B.exec
  have hb := B.bytes
  have hr := B.returns
  have hts := atoms_spec (ws := (Cond.code y_R_addPiece c_R_addPiece 3 none :: wsG)) B.pre
  have htg : ∀ w ∈ wsG, w.before ([.ref (ad 0), .int a1, .int a2] : List Value).toArray s = true := fun w h => hts w (List.mem_cons_of_mem _ h)
  have hown : s.vm.findClass RX4 = some m.cls := findClass_of_methodNamed B.named
  have hlocks := B.notSynchronized
  subst hsz
  have hD : ∀ σ, va_D (kAR ad s.heap.size) (wR ad cA cB σ) := fun σ => wR_D hap cA cB σ _
  have hS : va_S (kAR ad s.heap.size) s.heap s.heap [] := va_S.rf
  have hl := lv_entry ([.ref (ad 0), .int a1, .int a2]) (n := 3) (Nat.le_of_ble_eq_true rfl)
  rw [lg_entry_eq]
  generalize (lg_sl ([.ref (ad 0), .int a1, .int a2]) ++ List.replicate (3 - (lg_sl ([.ref (ad 0), .int a1, .int a2])).length) Slot.unset).toArray = ls at hl ⊢
  have hl : lv_has ls 3 [(0, .ref (ad 0)), (1, .int a1), (2, .int a2)] := hl
  unfold Sp_R_addPiece at h
  obtain ⟨H, eH⟩ : ∃ z, z = s.heap := ⟨_, rfl⟩
  have hP : va_P D vwCl (wR ad cA cB σ) H := by rw [eH]; exact hP
  have hS : va_S (kAR ad s.heap.size) s.heap H [] := by rw [eH]; exact hS
  show W p l e (headSpec (Cond.code y_R_addPiece c_R_addPiece 3 none :: wsG) ({ frames := 0, cells := 0, slots := 0, locals := 0 } : Room)).room s m ([.ref (ad 0), .int a1, .int a2] : List Value).toArray below meth c s.heap [] 0 0 (MQ below (va_Qv post (kBR D ad cA cB) (kAR ad s.heap.size)) ([.ref (ad 0), .int a1, .int a2] : List Value).toArray s 0 0 (kAR ad s.heap.size)) (F0 m 0 ls [])
  suffices k : W p l e (headSpec (Cond.code y_R_addPiece c_R_addPiece 3 none :: wsG) ({ frames := 0, cells := 0, slots := 0, locals := 0 } : Room)).room s m ([.ref (ad 0), .int a1, .int a2] : List Value).toArray below meth c H [] 0 0 (MQ below (va_Qv post (kBR D ad cA cB) (kAR ad s.heap.size)) ([.ref (ad 0), .int a1, .int a2] : List Value).toArray s 0 0 (kAR ad s.heap.size)) (F0 m 0 ls []) by rw [eH] at k; exact k
  refine lv_aload_n hx hb d_R_addPiece_0 rfl (lv_at hl 0 rfl) ?_
  refine va_get (D := D) (ci := 4) (v := .ref (ad 11)) (C := RX4) (T := TX4) (N := 27) hx hb htg inG_X4 hown hK hP 0 rfl rfl 14 (by decide) (htg _ m_633) (fun _ h9 => h9) rfl d_R_addPiece_1 ?_
  refine lv_aload_n hx hb d_R_addPiece_4 rfl (lv_at hl 0 rfl) ?_
  refine va_get (D := D) (ci := 4) (v := .int (σ 0 4)) (C := RX4) (T := TX4) (N := 27) hx hb htg inG_X4 hown hK hP 0 rfl rfl 16 (by decide) (htg _ m_635) (fun _ h9 => h9) rfl d_R_addPiece_5 ?_
  refine lv_iload_n hx hb d_R_addPiece_8 rfl (lv_at hl 1 rfl) ?_
  have hi := h.1
  have h := h.2
  refine va_iast hx hb hK hP (hD _) hS 11 0 rfl rfl hi d_R_addPiece_9 (fun H locs hP _ hS => ?_)
  obtain ⟨σ1, eσ1⟩ : ∃ z : S0, z = st σ 11 (σ 0 4).toNatClampNeg a1 := ⟨_, rfl⟩
  have hP : va_P D vwCl (wR ad cA cB σ1) H := by rw [eσ1]; exact hP
  have h := h σ1 eσ1
  refine lv_aload_n hx hb d_R_addPiece_10 rfl (lv_at hl 0 rfl) ?_
  refine va_get (D := D) (ci := 4) (v := .ref (ad 12)) (C := RX4) (T := TX4) (N := 27) hx hb htg inG_X4 hown hK hP 0 rfl rfl 15 (by decide) (htg _ m_634) (fun _ h9 => h9) rfl d_R_addPiece_11 ?_
  refine lv_aload_n hx hb d_R_addPiece_14 rfl (lv_at hl 0 rfl) ?_
  refine va_get (D := D) (ci := 4) (v := .int (σ1 0 4)) (C := RX4) (T := TX4) (N := 27) hx hb htg inG_X4 hown hK hP 0 rfl rfl 16 (by decide) (htg _ m_635) (fun _ h9 => h9) rfl d_R_addPiece_15 ?_
  refine lv_iload_n hx hb d_R_addPiece_18 rfl (lv_at hl 2 rfl) ?_
  have hi := h.1
  have h := h.2
  refine va_iast hx hb hK hP (hD _) hS 12 0 rfl rfl hi d_R_addPiece_19 (fun H locs hP _ hS => ?_)
  obtain ⟨σ2, eσ2⟩ : ∃ z : S0, z = st σ1 12 (σ1 0 4).toNatClampNeg a2 := ⟨_, rfl⟩
  have hP : va_P D vwCl (wR ad cA cB σ2) H := by rw [eσ2]; exact hP
  have h := h σ2 eσ2
  refine lv_aload_n hx hb d_R_addPiece_20 rfl (lv_at hl 0 rfl) ?_
  refine lv_dup hx hb d_R_addPiece_21 rfl ?_
  refine va_get (D := D) (ci := 4) (v := .int (σ2 0 4)) (C := RX4) (T := TX4) (N := 27) hx hb htg inG_X4 hown hK hP 0 rfl rfl 16 (by decide) (htg _ m_635) (fun _ h9 => h9) rfl d_R_addPiece_22 ?_
  refine lv_iconst (v := 1) hx hb d_R_addPiece_25 (by decide) ?_
  refine lv_iadd hx hb d_R_addPiece_26 ?_
  refine va_put (D := D) (ci := 4) (v := .int ((σ2 0 4) + 1)) (ty := .int) (C := RX4) (T := TX4) (N := 27) hx hb htg inG_X4 tyX4 tyX4_ok nmX4 hown hK hP (hD _) hS 0 rfl rfl 16 (by decide) (htg _ m_635) (fun _ h9 => h9) rfl (by decide +kernel) rfl rfl (Nat.le_of_ble_eq_true rfl) d_R_addPiece_27 (fun H locs hP _ hS => ?_)
  obtain ⟨σ3, eσ3⟩ : ∃ z : S0, z = st σ2 0 4 ((σ2 0 4) + 1) := ⟨_, rfl⟩
  have hP : va_P D vwCl (wR ad cA cB σ3) H := by rw [eσ3]; exact hP
  have h := h σ3 eσ3
  exact W.vret hx hb hr (fun t ht hW => ⟨⟨σ3, rfl, h, kBR_of ht hP⟩, hS.F ht⟩) hS.2.2 d_R_addPiece_30 hlocks
set_option maxHeartbeats 4000000 in
set_option maxRecDepth 100000 in
theorem met_R_findBends (l : Launch) (D : va_G) (ad : Nat → Nat) (cA cB : ClassId) (hap : kapR ad) (σ : S0) (sz : Nat) (post : Int32 → S0 → Prop) (h : Sp_R_findBends  σ post) : Met l y_R_findBends (Cond.code y_R_findBends c_R_findBends 4 (some .boolean) :: wsG) ({ frames := 1, cells := 0, slots := 0, locals := 22 } : Room) (kPcR D ad cA cB σ sz [.ref (ad 0)]) (va_Qi post (kBR D ad cA cB) (kAR ad sz)) 0 0 (kAR ad sz) := by
  refine Met.ofW (cc := c_R_findBends) (maxL := 4) (ret := (some .boolean)) (by decide) rfl ?_
  intro p e s m args below meth c s₁ B hml hv
  obtain ⟨rfl, hsz, hP, hK, hF⟩ := hv
  have hx := B.exec
  have hb := B.bytes
  have hr := B.returns
  have hts := atoms_spec (ws := (Cond.code y_R_findBends c_R_findBends 4 (some .boolean) :: wsG)) B.pre
  have htg : ∀ w ∈ wsG, w.before ([.ref (ad 0)] : List Value).toArray s = true := fun w h => hts w (List.mem_cons_of_mem _ h)
  have hown : s.vm.findClass RX4 = some m.cls := findClass_of_methodNamed B.named
  have hlocks := B.notSynchronized
  subst hsz
  have hD : ∀ σ, va_D (kAR ad s.heap.size) (wR ad cA cB σ) := fun σ => wR_D hap cA cB σ _
  have hS : va_S (kAR ad s.heap.size) s.heap s.heap [] := va_S.rf
  have hl := lv_entry ([.ref (ad 0)]) (n := 4) (Nat.le_of_ble_eq_true rfl)
  rw [lg_entry_eq]
  generalize (lg_sl ([.ref (ad 0)]) ++ List.replicate (4 - (lg_sl ([.ref (ad 0)])).length) Slot.unset).toArray = ls at hl ⊢
  have hl : lv_has ls 4 [(0, .ref (ad 0))] := hl
  unfold Sp_R_findBends at h
  obtain ⟨G17, hG17⟩ : ∃ G : Int32 → S0 → Prop, G = fun (x1 : Int32) (σ : S0) => ∀ (H : Heap) (locs : List Loc) (ls : Array Slot), va_P D vwCl (wR ad cA cB σ) H → va_S (kAR ad s.heap.size) s.heap H locs → lv_has ls 4 [(0, .ref (ad 0)), (1, .int x1)] → W p l e (headSpec (Cond.code y_R_findBends c_R_findBends 4 (some .boolean) :: wsG) ({ frames := 1, cells := 0, slots := 0, locals := 22 } : Room)).room s m ([.ref (ad 0)] : List Value).toArray below meth c H locs 0 0 (MQ below (va_Qi post (kBR D ad cA cB) (kAR ad s.heap.size)) ([.ref (ad 0)] : List Value).toArray s 0 0 (kAR ad s.heap.size)) (F0 m 17 ls []) := ⟨_, rfl⟩
  obtain ⟨G125, hG125⟩ : ∃ G : Int32 → S0 → Prop, G = fun (x1 : Int32) (σ : S0) => ∀ (H : Heap) (locs : List Loc) (ls : Array Slot), va_P D vwCl (wR ad cA cB σ) H → va_S (kAR ad s.heap.size) s.heap H locs → lv_has ls 4 [(0, .ref (ad 0)), (1, .int x1)] → W p l e (headSpec (Cond.code y_R_findBends c_R_findBends 4 (some .boolean) :: wsG) ({ frames := 1, cells := 0, slots := 0, locals := 22 } : Room)).room s m ([.ref (ad 0)] : List Value).toArray below meth c H locs 0 0 (MQ below (va_Qi post (kBR D ad cA cB) (kAR ad s.heap.size)) ([.ref (ad 0)] : List Value).toArray s 0 0 (kAR ad s.heap.size)) (F0 m 125 ls []) := ⟨_, rfl⟩
  obtain ⟨G142, hG142⟩ : ∃ G : Int32 → Int32 → Int32 → S0 → Prop, G = fun (x1 x2 x3 : Int32) (σ : S0) => ∀ (H : Heap) (locs : List Loc) (ls : Array Slot), va_P D vwCl (wR ad cA cB σ) H → va_S (kAR ad s.heap.size) s.heap H locs → lv_has ls 4 [(0, .ref (ad 0)), (1, .int x1), (2, .int x2), (3, .int x3)] → W p l e (headSpec (Cond.code y_R_findBends c_R_findBends 4 (some .boolean) :: wsG) ({ frames := 1, cells := 0, slots := 0, locals := 22 } : Room)).room s m ([.ref (ad 0)] : List Value).toArray below meth c H locs 0 0 (MQ below (va_Qi post (kBR D ad cA cB) (kAR ad s.heap.size)) ([.ref (ad 0)] : List Value).toArray s 0 0 (kAR ad s.heap.size)) (F0 m 142 ls []) := ⟨_, rfl⟩
  have h := h G17 G125 G142
  have h := h (by
    intro x1 σ h
    rw [hG17]
    intro H locs ls hP hS hl
    refine lv_iload_n hx hb d_R_findBends_17 rfl (lv_at hl 1 rfl) ?_
    refine lv_sipush (v := 256) hx hb d_R_findBends_18 (by decide) ?_
    refine lv_icmp_ge (tgt := 111) hx hb d_R_findBends_21 (by decide) (fun cn => ?_) (fun cn => ?_)
    · have h := h.1 cn
      refine lv_aload_n hx hb d_R_findBends_111 rfl (lv_at hl 0 rfl) ?_
      refine va_get (D := D) (ci := 4) (v := .int (σ 0 3)) (C := RX4) (T := TX4) (N := 27) hx hb htg inG_X4 hown hK hP 0 rfl rfl 13 (by decide) (htg _ m_632) (fun _ h9 => h9) rfl d_R_findBends_112 ?_
      refine lv_sipush (v := 150) hx hb d_R_findBends_115 (by decide) ?_
      refine lv_icmp_le (tgt := 123) hx hb d_R_findBends_118 (by decide) (fun cn => ?_) (fun cn => ?_)
      · have h := h.1 cn
        refine lv_iconst (v := 0) hx hb d_R_findBends_123 (by decide) ?_
        refine lv_istore_n (lv' := [(1, .int 0), (0, .ref (ad 0))]) hx hb d_R_findBends_124 rfl hl (by decide) rfl (fun ls hl => ?_)
        rw [hG125] at h
        exact h _ _ _ hP hS (lv_sub hl [1, 0] rfl)
      · have h := h.2 cn
        refine lv_iconst (v := 0) hx hb d_R_findBends_121 (by decide) ?_
        exact W.zret (v := 0) hx hb hr rfl (fun t ht hW => ⟨⟨_, σ, rfl, h, kBR_of ht hP⟩, hS.F ht⟩) hS.2.2 d_R_findBends_122 hlocks
    · have h := h.2 cn
      refine lv_aload_n hx hb d_R_findBends_24 rfl (lv_at hl 0 rfl) ?_
      refine va_get (D := D) (ci := 4) (v := .ref (ad 7)) (C := RX4) (T := TX4) (N := 27) hx hb htg inG_X4 hown hK hP 0 rfl rfl 7 (by decide) (htg _ m_626) (fun _ h9 => h9) rfl d_R_findBends_25 ?_
      refine lv_iload_n hx hb d_R_findBends_28 rfl (lv_at hl 1 rfl) ?_
      have hi := h.1
      have h := h.2
      refine va_zald hx hb hK hP 7 1 rfl rfl hi d_R_findBends_29 ?_
      refine lv_if_ne (tgt := 36) hx hb d_R_findBends_30 (by decide) (fun cn => ?_) (fun cn => ?_)
      · have h := h.1 cn
        refine lv_aload_n hx hb d_R_findBends_36 rfl (lv_at hl 0 rfl) ?_
        refine va_get (D := D) (ci := 4) (v := .ref (ad 13)) (C := RX4) (T := TX4) (N := 27) hx hb htg inG_X4 hown hK hP 0 rfl rfl 17 (by decide) (htg _ m_636) (fun _ h9 => h9) rfl d_R_findBends_37 ?_
        refine lv_aload_n hx hb d_R_findBends_40 rfl (lv_at hl 0 rfl) ?_
        refine va_get (D := D) (ci := 4) (v := .int (σ 0 5)) (C := RX4) (T := TX4) (N := 27) hx hb htg inG_X4 hown hK hP 0 rfl rfl 20 (by decide) (htg _ m_639) (fun _ h9 => h9) rfl d_R_findBends_41 ?_
        refine lv_iload_n hx hb d_R_findBends_44 rfl (lv_at hl 1 rfl) ?_
        refine lv_bipush (v := 16) hx hb d_R_findBends_45 (by decide) ?_
        refine lv_idiv hx hb d_R_findBends_47 (by decide) ?_
        have hi := h.1
        have h := h.2
        refine va_iast hx hb hK hP (hD _) hS 13 0 rfl rfl hi d_R_findBends_48 (fun H locs hP _ hS => ?_)
        obtain ⟨σ4, eσ4⟩ : ∃ z : S0, z = st σ 13 (σ 0 5).toNatClampNeg (x1 / 16) := ⟨_, rfl⟩
        have hP : va_P D vwCl (wR ad cA cB σ4) H := by rw [eσ4]; exact hP
        have h := h σ4 eσ4
        refine lv_aload_n hx hb d_R_findBends_49 rfl (lv_at hl 0 rfl) ?_
        refine va_get (D := D) (ci := 4) (v := .ref (ad 14)) (C := RX4) (T := TX4) (N := 27) hx hb htg inG_X4 hown hK hP 0 rfl rfl 18 (by decide) (htg _ m_637) (fun _ h9 => h9) rfl d_R_findBends_50 ?_
        refine lv_aload_n hx hb d_R_findBends_53 rfl (lv_at hl 0 rfl) ?_
        refine va_get (D := D) (ci := 4) (v := .int (σ4 0 5)) (C := RX4) (T := TX4) (N := 27) hx hb htg inG_X4 hown hK hP 0 rfl rfl 20 (by decide) (htg _ m_639) (fun _ h9 => h9) rfl d_R_findBends_54 ?_
        refine lv_iload_n hx hb d_R_findBends_57 rfl (lv_at hl 1 rfl) ?_
        refine lv_bipush (v := 16) hx hb d_R_findBends_58 (by decide) ?_
        refine lv_irem hx hb d_R_findBends_60 (by decide) ?_
        have hi := h.1
        have h := h.2
        refine va_iast hx hb hK hP (hD _) hS 14 0 rfl rfl hi d_R_findBends_61 (fun H locs hP _ hS => ?_)
        obtain ⟨σ5, eσ5⟩ : ∃ z : S0, z = st σ4 14 (σ4 0 5).toNatClampNeg (x1 - x1 / 16 * 16) := ⟨_, rfl⟩
        have hP : va_P D vwCl (wR ad cA cB σ5) H := by rw [eσ5]; exact hP
        have h := h σ5 eσ5
        refine lv_aload_n hx hb d_R_findBends_62 rfl (lv_at hl 0 rfl) ?_
        refine va_get (D := D) (ci := 4) (v := .ref (ad 15)) (C := RX4) (T := TX4) (N := 27) hx hb htg inG_X4 hown hK hP 0 rfl rfl 19 (by decide) (htg _ m_638) (fun _ h9 => h9) rfl d_R_findBends_63 ?_
        refine lv_aload_n hx hb d_R_findBends_66 rfl (lv_at hl 0 rfl) ?_
        refine va_get (D := D) (ci := 4) (v := .int (σ5 0 5)) (C := RX4) (T := TX4) (N := 27) hx hb htg inG_X4 hown hK hP 0 rfl rfl 20 (by decide) (htg _ m_639) (fun _ h9 => h9) rfl d_R_findBends_67 ?_
        refine lv_bipush (v := 16) hx hb d_R_findBends_70 (by decide) ?_
        refine lv_aload_n hx hb d_R_findBends_72 rfl (lv_at hl 0 rfl) ?_
        refine va_get (D := D) (ci := 4) (v := .int (σ5 0 3)) (C := RX4) (T := TX4) (N := 27) hx hb htg inG_X4 hown hK hP 0 rfl rfl 13 (by decide) (htg _ m_632) (fun _ h9 => h9) rfl d_R_findBends_73 ?_
        refine lv_iadd hx hb d_R_findBends_76 ?_
        have hi := h.1
        have h := h.2
        refine va_iast hx hb hK hP (hD _) hS 15 0 rfl rfl hi d_R_findBends_77 (fun H locs hP _ hS => ?_)
        obtain ⟨σ6, eσ6⟩ : ∃ z : S0, z = st σ5 15 (σ5 0 5).toNatClampNeg (16 + (σ5 0 3)) := ⟨_, rfl⟩
        have hP : va_P D vwCl (wR ad cA cB σ6) H := by rw [eσ6]; exact hP
        have h := h σ6 eσ6
        refine lv_aload_n hx hb d_R_findBends_78 rfl (lv_at hl 0 rfl) ?_
        refine lv_dup hx hb d_R_findBends_79 rfl ?_
        refine va_get (D := D) (ci := 4) (v := .int (σ6 0 3)) (C := RX4) (T := TX4) (N := 27) hx hb htg inG_X4 hown hK hP 0 rfl rfl 13 (by decide) (htg _ m_632) (fun _ h9 => h9) rfl d_R_findBends_80 ?_
        refine lv_aload_n hx hb d_R_findBends_83 rfl (lv_at hl 0 rfl) ?_
        refine lv_aload_n hx hb d_R_findBends_84 rfl (lv_at hl 0 rfl) ?_
        refine va_get (D := D) (ci := 4) (v := .int (σ6 0 5)) (C := RX4) (T := TX4) (N := 27) hx hb htg inG_X4 hown hK hP 0 rfl rfl 20 (by decide) (htg _ m_639) (fun _ h9 => h9) rfl d_R_findBends_85 ?_
        refine kR_i (va_runV (As := [.int (σ6 0 5)]) (rest := [.int (σ6 0 3), .ref (ad 0)]) ⟨hx, hb, hml, hown, htg⟩ (met_R_bendsOf l D ad cA cB hap σ6 H.size (σ6 0 5) _ h) (cwV 1 htg (kG (kG_V m_796 m_798 m_40 m_57 (kG_self m_799))) rfl rfl rfl (by decide +kernel) ⟨Nat.le_of_ble_eq_true rfl, Nat.le_of_ble_eq_true rfl⟩) (kR_preV hK hF hP hS 0 rfl rfl _) rfl rfl hl.1 rfl (lv_room (Nat.le_of_ble_eq_true rfl)) d_R_findBends_88 ⟨Nat.le_of_ble_eq_true rfl, Nat.le_of_ble_eq_true rfl⟩) hS (fun r8 σ7 H locs h hP hS => ?_)
        refine lv_iadd hx hb d_R_findBends_91 ?_
        refine va_put (D := D) (ci := 4) (v := .int ((σ6 0 3) + r8)) (ty := .int) (C := RX4) (T := TX4) (N := 27) hx hb htg inG_X4 tyX4 tyX4_ok nmX4 hown hK hP (hD _) hS 0 rfl rfl 13 (by decide) (htg _ m_632) (fun _ h9 => h9) rfl (by decide +kernel) rfl rfl (Nat.le_of_ble_eq_true rfl) d_R_findBends_92 (fun H locs hP _ hS => ?_)
        obtain ⟨σ9, eσ9⟩ : ∃ z : S0, z = st σ7 0 3 ((σ6 0 3) + r8) := ⟨_, rfl⟩
        have hP : va_P D vwCl (wR ad cA cB σ9) H := by rw [eσ9]; exact hP
        have h := h σ9 eσ9
        refine lv_aload_n hx hb d_R_findBends_95 rfl (lv_at hl 0 rfl) ?_
        refine lv_dup hx hb d_R_findBends_96 rfl ?_
        refine va_get (D := D) (ci := 4) (v := .int (σ9 0 5)) (C := RX4) (T := TX4) (N := 27) hx hb htg inG_X4 hown hK hP 0 rfl rfl 20 (by decide) (htg _ m_639) (fun _ h9 => h9) rfl d_R_findBends_97 ?_
        refine lv_iconst (v := 1) hx hb d_R_findBends_100 (by decide) ?_
        refine lv_iadd hx hb d_R_findBends_101 ?_
        refine va_put (D := D) (ci := 4) (v := .int ((σ9 0 5) + 1)) (ty := .int) (C := RX4) (T := TX4) (N := 27) hx hb htg inG_X4 tyX4 tyX4_ok nmX4 hown hK hP (hD _) hS 0 rfl rfl 20 (by decide) (htg _ m_639) (fun _ h9 => h9) rfl (by decide +kernel) rfl rfl (Nat.le_of_ble_eq_true rfl) d_R_findBends_102 (fun H locs hP _ hS => ?_)
        obtain ⟨σ10, eσ10⟩ : ∃ z : S0, z = st σ9 0 5 ((σ9 0 5) + 1) := ⟨_, rfl⟩
        have hP : va_P D vwCl (wR ad cA cB σ10) H := by rw [eσ10]; exact hP
        have h := h σ10 eσ10
        refine lv_iinc (v := (x1 + 1)) (lv' := [(1, .int (x1 + 1)), (0, .ref (ad 0))]) hx hb d_R_findBends_105 hl (k := 1) rfl rfl (by decide) rfl (fun ls hl => ?_)
        refine lv_goto (tgt := 17) hx hb d_R_findBends_108 (by decide) ?_
        rw [hG17] at h
        exact h _ _ _ hP hS (lv_sub hl [1, 0] rfl)
      · have h := h.2 cn
        refine lv_goto (tgt := 105) hx hb d_R_findBends_33 (by decide) ?_
        refine lv_iinc (v := (x1 + 1)) (lv' := [(1, .int (x1 + 1)), (0, .ref (ad 0))]) hx hb d_R_findBends_105 hl (k := 1) rfl rfl (by decide) rfl (fun ls hl => ?_)
        refine lv_goto (tgt := 17) hx hb d_R_findBends_108 (by decide) ?_
        rw [hG17] at h
        exact h _ _ _ hP hS (lv_sub hl [1, 0] rfl))
  have h := h (by
    intro x1 σ h
    rw [hG125]
    intro H locs ls hP hS hl
    refine lv_iload_n hx hb d_R_findBends_125 rfl (lv_at hl 1 rfl) ?_
    refine lv_aload_n hx hb d_R_findBends_126 rfl (lv_at hl 0 rfl) ?_
    refine va_get (D := D) (ci := 4) (v := .int (σ 0 5)) (C := RX4) (T := TX4) (N := 27) hx hb htg inG_X4 hown hK hP 0 rfl rfl 20 (by decide) (htg _ m_639) (fun _ h9 => h9) rfl d_R_findBends_127 ?_
    refine lv_icmp_ge (tgt := 224) hx hb d_R_findBends_130 (by decide) (fun cn => ?_) (fun cn => ?_)
    · have h := h.1 cn
      refine lv_iconst (v := 1) hx hb d_R_findBends_224 (by decide) ?_
      exact W.zret (v := 1) hx hb hr rfl (fun t ht hW => ⟨⟨_, σ, rfl, h, kBR_of ht hP⟩, hS.F ht⟩) hS.2.2 d_R_findBends_225 hlocks
    · have h := h.2 cn
      refine lv_aload_n hx hb d_R_findBends_133 rfl (lv_at hl 0 rfl) ?_
      refine va_get (D := D) (ci := 4) (v := .ref (ad 13)) (C := RX4) (T := TX4) (N := 27) hx hb htg inG_X4 hown hK hP 0 rfl rfl 17 (by decide) (htg _ m_636) (fun _ h9 => h9) rfl d_R_findBends_134 ?_
      refine lv_iload_n hx hb d_R_findBends_137 rfl (lv_at hl 1 rfl) ?_
      have hi := h.1
      have h := h.2
      refine va_iald hx hb hK hP 13 0 rfl rfl hi d_R_findBends_138 ?_
      refine lv_topi (fun v11 ev11 => ?_)
      have h := h v11 ev11
      refine lv_istore_n (lv' := [(2, .int v11), (0, .ref (ad 0)), (1, .int x1)]) hx hb d_R_findBends_139 rfl hl (by decide) rfl (fun ls hl => ?_)
      refine lv_iconst (v := 0) hx hb d_R_findBends_140 (by decide) ?_
      refine lv_istore_n (lv' := [(3, .int 0), (2, .int v11), (0, .ref (ad 0)), (1, .int x1)]) hx hb d_R_findBends_141 rfl hl (by decide) rfl (fun ls hl => ?_)
      rw [hG142] at h
      exact h _ _ _ hP hS (lv_sub hl [2, 3, 1, 0] rfl))
  have h := h (by
    intro x1 x2 x3 σ h
    rw [hG142]
    intro H locs ls hP hS hl
    refine lv_iload_n hx hb d_R_findBends_142 rfl (lv_at hl 3 rfl) ?_
    refine lv_aload_n hx hb d_R_findBends_143 rfl (lv_at hl 0 rfl) ?_
    refine lv_iload_n hx hb d_R_findBends_144 rfl (lv_at hl 1 rfl) ?_
    refine kR_i (va_runV (As := [.int x1]) (rest := [.int x3]) ⟨hx, hb, hml, hown, htg⟩ (met_R_bendsOf l D ad cA cB hap σ H.size x1 _ h) (cwV 1 htg (kG (kG_V m_796 m_798 m_40 m_57 (kG_self m_799))) rfl rfl rfl (by decide +kernel) ⟨Nat.le_of_ble_eq_true rfl, Nat.le_of_ble_eq_true rfl⟩) (kR_preV hK hF hP hS 0 rfl rfl _) rfl rfl hl.1 rfl (lv_room (Nat.le_of_ble_eq_true rfl)) d_R_findBends_145 ⟨Nat.le_of_ble_eq_true rfl, Nat.le_of_ble_eq_true rfl⟩) hS (fun r13 σ12 H locs h hP hS => ?_)
    refine lv_icmp_ge (tgt := 207) hx hb d_R_findBends_148 (by decide) (fun cn => ?_) (fun cn => ?_)
    · have h := h.1 cn
      refine lv_aload_n hx hb d_R_findBends_207 rfl (lv_at hl 0 rfl) ?_
      refine lv_iload_n hx hb d_R_findBends_208 rfl (lv_at hl 2 rfl) ?_
      refine lv_aload_n hx hb d_R_findBends_209 rfl (lv_at hl 0 rfl) ?_
      refine va_get (D := D) (ci := 4) (v := .ref (ad 14)) (C := RX4) (T := TX4) (N := 27) hx hb htg inG_X4 hown hK hP 0 rfl rfl 18 (by decide) (htg _ m_637) (fun _ h9 => h9) rfl d_R_findBends_210 ?_
      refine lv_iload_n hx hb d_R_findBends_213 rfl (lv_at hl 1 rfl) ?_
      have hi := h.1
      have h := h.2
      refine va_iald hx hb hK hP 14 0 rfl rfl hi d_R_findBends_214 ?_
      refine kR_v (va_runV (As := [.int x2, .int (σ12 14 x1.toNatClampNeg)]) (rest := []) ⟨hx, hb, hml, hown, htg⟩ (met_R_addPiece l D ad cA cB hap σ12 H.size x2 (σ12 14 x1.toNatClampNeg) _ h) (cwV 2 htg (kG (kG_V m_800 m_802 m_41 m_57 (kG_self m_803))) rfl rfl rfl (by decide +kernel) ⟨Nat.le_of_ble_eq_true rfl, Nat.le_of_ble_eq_true rfl⟩) (kR_preV hK hF hP hS 0 rfl rfl _) rfl rfl hl.1 rfl (lv_room (Nat.le_of_ble_eq_true rfl)) d_R_findBends_215 ⟨Nat.le_of_ble_eq_true rfl, Nat.le_of_ble_eq_true rfl⟩) hS (fun σ14 H locs h hP hS => ?_)
      refine lv_iinc (v := (x1 + 1)) (lv' := [(1, .int (x1 + 1)), (0, .ref (ad 0)), (2, .int x2), (3, .int x3)]) hx hb d_R_findBends_218 hl (k := 1) rfl rfl (by decide) rfl (fun ls hl => ?_)
      refine lv_goto (tgt := 125) hx hb d_R_findBends_221 (by decide) ?_
      rw [hG125] at h
      exact h _ _ _ hP hS (lv_sub hl [1, 0] rfl)
    · have h := h.2 cn
      refine lv_aload_n hx hb d_R_findBends_151 rfl (lv_at hl 0 rfl) ?_
      refine va_get (D := D) (ci := 4) (v := .ref (ad 8)) (C := RX4) (T := TX4) (N := 27) hx hb htg inG_X4 hown hK hP 0 rfl rfl 10 (by decide) (htg _ m_629) (fun _ h9 => h9) rfl d_R_findBends_152 ?_
      refine lv_aload_n hx hb d_R_findBends_155 rfl (lv_at hl 0 rfl) ?_
      refine va_get (D := D) (ci := 4) (v := .ref (ad 15)) (C := RX4) (T := TX4) (N := 27) hx hb htg inG_X4 hown hK hP 0 rfl rfl 19 (by decide) (htg _ m_638) (fun _ h9 => h9) rfl d_R_findBends_156 ?_
      refine lv_iload_n hx hb d_R_findBends_159 rfl (lv_at hl 1 rfl) ?_
      have hi := h.1
      have h := h.2
      refine va_iald hx hb hK hP 15 0 rfl rfl hi d_R_findBends_160 ?_
      refine lv_iload_n hx hb d_R_findBends_161 rfl (lv_at hl 3 rfl) ?_
      refine lv_iadd hx hb d_R_findBends_162 ?_
      refine lv_aload_n hx hb d_R_findBends_163 rfl (lv_at hl 0 rfl) ?_
      refine va_get (D := D) (ci := 4) (v := .ref (ad 8)) (C := RX4) (T := TX4) (N := 27) hx hb htg inG_X4 hown hK hP 0 rfl rfl 10 (by decide) (htg _ m_629) (fun _ h9 => h9) rfl d_R_findBends_164 ?_
      refine lv_aload_n hx hb d_R_findBends_167 rfl (lv_at hl 0 rfl) ?_
      refine va_get (D := D) (ci := 4) (v := .ref (ad 13)) (C := RX4) (T := TX4) (N := 27) hx hb htg inG_X4 hown hK hP 0 rfl rfl 17 (by decide) (htg _ m_636) (fun _ h9 => h9) rfl d_R_findBends_168 ?_
      refine lv_iload_n hx hb d_R_findBends_171 rfl (lv_at hl 1 rfl) ?_
      have hi := h.1
      have h := h.2
      refine va_iald hx hb hK hP 13 0 rfl rfl hi d_R_findBends_172 ?_
      have hi := h.1
      have h := h.2
      refine va_iald hx hb hK hP 8 0 rfl rfl hi d_R_findBends_173 ?_
      refine lv_iconst (v := 1) hx hb d_R_findBends_174 (by decide) ?_
      refine lv_iadd hx hb d_R_findBends_175 ?_
      refine lv_iload_n hx hb d_R_findBends_176 rfl (lv_at hl 3 rfl) ?_
      refine lv_iadd hx hb d_R_findBends_177 ?_
      have hi := h.1
      have h := h.2
      refine va_iast hx hb hK hP (hD _) hS 8 0 rfl rfl hi d_R_findBends_178 (fun H locs hP _ hS => ?_)
      obtain ⟨σ15, eσ15⟩ : ∃ z : S0, z = st σ12 8 ((σ12 15 x1.toNatClampNeg) + x3).toNatClampNeg (((σ12 8 (σ12 13 x1.toNatClampNeg).toNatClampNeg) + 1) + x3) := ⟨_, rfl⟩
      have hP : va_P D vwCl (wR ad cA cB σ15) H := by rw [eσ15]; exact hP
      have h := h σ15 eσ15
      refine lv_aload_n hx hb d_R_findBends_179 rfl (lv_at hl 0 rfl) ?_
      refine lv_iload_n hx hb d_R_findBends_180 rfl (lv_at hl 2 rfl) ?_
      refine lv_aload_n hx hb d_R_findBends_181 rfl (lv_at hl 0 rfl) ?_
      refine va_get (D := D) (ci := 4) (v := .ref (ad 15)) (C := RX4) (T := TX4) (N := 27) hx hb htg inG_X4 hown hK hP 0 rfl rfl 19 (by decide) (htg _ m_638) (fun _ h9 => h9) rfl d_R_findBends_182 ?_
      refine lv_iload_n hx hb d_R_findBends_185 rfl (lv_at hl 1 rfl) ?_
      have hi := h.1
      have h := h.2
      refine va_iald hx hb hK hP 15 0 rfl rfl hi d_R_findBends_186 ?_
      refine lv_iload_n hx hb d_R_findBends_187 rfl (lv_at hl 3 rfl) ?_
      refine lv_iadd hx hb d_R_findBends_188 ?_
      refine kR_v (va_runV (As := [.int x2, .int ((σ15 15 x1.toNatClampNeg) + x3)]) (rest := []) ⟨hx, hb, hml, hown, htg⟩ (met_R_addPiece l D ad cA cB hap σ15 H.size x2 ((σ15 15 x1.toNatClampNeg) + x3) _ h) (cwV 2 htg (kG (kG_V m_800 m_802 m_41 m_57 (kG_self m_803))) rfl rfl rfl (by decide +kernel) ⟨Nat.le_of_ble_eq_true rfl, Nat.le_of_ble_eq_true rfl⟩) (kR_preV hK hF hP hS 0 rfl rfl _) rfl rfl hl.1 rfl (lv_room (Nat.le_of_ble_eq_true rfl)) d_R_findBends_189 ⟨Nat.le_of_ble_eq_true rfl, Nat.le_of_ble_eq_true rfl⟩) hS (fun σ16 H locs h hP hS => ?_)
      refine lv_aload_n hx hb d_R_findBends_192 rfl (lv_at hl 0 rfl) ?_
      refine va_get (D := D) (ci := 4) (v := .ref (ad 15)) (C := RX4) (T := TX4) (N := 27) hx hb htg inG_X4 hown hK hP 0 rfl rfl 19 (by decide) (htg _ m_638) (fun _ h9 => h9) rfl d_R_findBends_193 ?_
      refine lv_iload_n hx hb d_R_findBends_196 rfl (lv_at hl 1 rfl) ?_
      have hi := h.1
      have h := h.2
      refine va_iald hx hb hK hP 15 0 rfl rfl hi d_R_findBends_197 ?_
      refine lv_iload_n hx hb d_R_findBends_198 rfl (lv_at hl 3 rfl) ?_
      refine lv_iadd hx hb d_R_findBends_199 ?_
      refine lv_topi (fun v17 ev17 => ?_)
      have h := h v17 ev17
      refine lv_istore_n (lv' := [(2, .int v17), (0, .ref (ad 0)), (1, .int x1), (3, .int x3)]) hx hb d_R_findBends_200 rfl hl (by decide) rfl (fun ls hl => ?_)
      refine lv_iinc (v := (x3 + 1)) (lv' := [(3, .int (x3 + 1)), (2, .int v17), (0, .ref (ad 0)), (1, .int x1)]) hx hb d_R_findBends_201 hl (k := 3) rfl rfl (by decide) rfl (fun ls hl => ?_)
      refine lv_goto (tgt := 142) hx hb d_R_findBends_204 (by decide) ?_
      rw [hG142] at h
      exact h _ _ _ hP hS (lv_sub hl [2, 3, 1, 0] rfl))
  obtain ⟨H, eH⟩ : ∃ z, z = s.heap := ⟨_, rfl⟩
  have hP : va_P D vwCl (wR ad cA cB σ) H := by rw [eH]; exact hP
  have hS : va_S (kAR ad s.heap.size) s.heap H [] := by rw [eH]; exact hS
  show W p l e (headSpec (Cond.code y_R_findBends c_R_findBends 4 (some .boolean) :: wsG) ({ frames := 1, cells := 0, slots := 0, locals := 22 } : Room)).room s m ([.ref (ad 0)] : List Value).toArray below meth c s.heap [] 0 0 (MQ below (va_Qi post (kBR D ad cA cB) (kAR ad s.heap.size)) ([.ref (ad 0)] : List Value).toArray s 0 0 (kAR ad s.heap.size)) (F0 m 0 ls [])
  suffices k : W p l e (headSpec (Cond.code y_R_findBends c_R_findBends 4 (some .boolean) :: wsG) ({ frames := 1, cells := 0, slots := 0, locals := 22 } : Room)).room s m ([.ref (ad 0)] : List Value).toArray below meth c H [] 0 0 (MQ below (va_Qi post (kBR D ad cA cB) (kAR ad s.heap.size)) ([.ref (ad 0)] : List Value).toArray s 0 0 (kAR ad s.heap.size)) (F0 m 0 ls []) by rw [eH] at k; exact k
  refine lv_aload_n hx hb d_R_findBends_0 rfl (lv_at hl 0 rfl) ?_
  refine lv_iconst (v := 0) hx hb d_R_findBends_1 (by decide) ?_
  refine va_put (D := D) (ci := 4) (v := .int 0) (ty := .int) (C := RX4) (T := TX4) (N := 27) hx hb htg inG_X4 tyX4 tyX4_ok nmX4 hown hK hP (hD _) hS 0 rfl rfl 20 (by decide) (htg _ m_639) (fun _ h9 => h9) rfl (by decide +kernel) rfl rfl (Nat.le_of_ble_eq_true rfl) d_R_findBends_2 (fun H locs hP _ hS => ?_)
  obtain ⟨σ1, eσ1⟩ : ∃ z : S0, z = st σ 0 5 0 := ⟨_, rfl⟩
  have hP : va_P D vwCl (wR ad cA cB σ1) H := by rw [eσ1]; exact hP
  have h := h σ1 eσ1
  refine lv_aload_n hx hb d_R_findBends_5 rfl (lv_at hl 0 rfl) ?_
  refine lv_iconst (v := 0) hx hb d_R_findBends_6 (by decide) ?_
  refine va_put (D := D) (ci := 4) (v := .int 0) (ty := .int) (C := RX4) (T := TX4) (N := 27) hx hb htg inG_X4 tyX4 tyX4_ok nmX4 hown hK hP (hD _) hS 0 rfl rfl 13 (by decide) (htg _ m_632) (fun _ h9 => h9) rfl (by decide +kernel) rfl rfl (Nat.le_of_ble_eq_true rfl) d_R_findBends_7 (fun H locs hP _ hS => ?_)
  obtain ⟨σ2, eσ2⟩ : ∃ z : S0, z = st σ1 0 3 0 := ⟨_, rfl⟩
  have hP : va_P D vwCl (wR ad cA cB σ2) H := by rw [eσ2]; exact hP
  have h := h σ2 eσ2
  refine lv_aload_n hx hb d_R_findBends_10 rfl (lv_at hl 0 rfl) ?_
  refine lv_iconst (v := 0) hx hb d_R_findBends_11 (by decide) ?_
  refine va_put (D := D) (ci := 4) (v := .int 0) (ty := .int) (C := RX4) (T := TX4) (N := 27) hx hb htg inG_X4 tyX4 tyX4_ok nmX4 hown hK hP (hD _) hS 0 rfl rfl 16 (by decide) (htg _ m_635) (fun _ h9 => h9) rfl (by decide +kernel) rfl rfl (Nat.le_of_ble_eq_true rfl) d_R_findBends_12 (fun H locs hP _ hS => ?_)
  obtain ⟨σ3, eσ3⟩ : ∃ z : S0, z = st σ2 0 4 0 := ⟨_, rfl⟩
  have hP : va_P D vwCl (wR ad cA cB σ3) H := by rw [eσ3]; exact hP
  have h := h σ3 eσ3
  refine lv_iconst (v := 0) hx hb d_R_findBends_15 (by decide) ?_
  refine lv_istore_n (lv' := [(1, .int 0), (0, .ref (ad 0))]) hx hb d_R_findBends_16 rfl hl (by decide) rfl (fun ls hl => ?_)
  rw [hG17] at h
  exact h _ _ _ hP hS (lv_sub hl [1, 0] rfl)
set_option maxHeartbeats 4000000 in
set_option maxRecDepth 100000 in
theorem met_R_placeAll (l : Launch) (D : va_G) (ad : Nat → Nat) (cA cB : ClassId) (hap : kapR ad) (σ : S0) (sz : Nat) (post : S0 → Prop) (h : Sp_R_placeAll  σ post) : Met l y_R_placeAll (Cond.code y_R_placeAll c_R_placeAll 3 none :: wsG) ({ frames := 0, cells := 0, slots := 0, locals := 0 } : Room) (kPcR D ad cA cB σ sz [.ref (ad 0)]) (va_Qv post (kBR D ad cA cB) (kAR ad sz)) 0 0 (kAR ad sz) := by
  refine Met.ofW (cc := c_R_placeAll) (maxL := 3) (ret := none) (by decide) rfl ?_
  intro p e s m args below meth c s₁ B hml hv
  obtain ⟨rfl, hsz, hP, hK, hF⟩ := hv
  have hx := B.exec
  have hb := B.bytes
  have hr := B.returns
  have hts := atoms_spec (ws := (Cond.code y_R_placeAll c_R_placeAll 3 none :: wsG)) B.pre
  have htg : ∀ w ∈ wsG, w.before ([.ref (ad 0)] : List Value).toArray s = true := fun w h => hts w (List.mem_cons_of_mem _ h)
  have hown : s.vm.findClass RX4 = some m.cls := findClass_of_methodNamed B.named
  have hlocks := B.notSynchronized
  subst hsz
  have hD : ∀ σ, va_D (kAR ad s.heap.size) (wR ad cA cB σ) := fun σ => wR_D hap cA cB σ _
  have hS : va_S (kAR ad s.heap.size) s.heap s.heap [] := va_S.rf
  have hl := lv_entry ([.ref (ad 0)]) (n := 3) (Nat.le_of_ble_eq_true rfl)
  rw [lg_entry_eq]
  generalize (lg_sl ([.ref (ad 0)]) ++ List.replicate (3 - (lg_sl ([.ref (ad 0)])).length) Slot.unset).toArray = ls at hl ⊢
  have hl : lv_has ls 3 [(0, .ref (ad 0))] := hl
  unfold Sp_R_placeAll at h
  obtain ⟨G2, hG2⟩ : ∃ G : Int32 → S0 → Prop, G = fun (x1 : Int32) (σ : S0) => ∀ (H : Heap) (locs : List Loc) (ls : Array Slot), va_P D vwCl (wR ad cA cB σ) H → va_S (kAR ad s.heap.size) s.heap H locs → lv_has ls 3 [(0, .ref (ad 0)), (1, .int x1)] → W p l e (headSpec (Cond.code y_R_placeAll c_R_placeAll 3 none :: wsG) ({ frames := 0, cells := 0, slots := 0, locals := 0 } : Room)).room s m ([.ref (ad 0)] : List Value).toArray below meth c H locs 0 0 (MQ below (va_Qv post (kBR D ad cA cB) (kAR ad s.heap.size)) ([.ref (ad 0)] : List Value).toArray s 0 0 (kAR ad s.heap.size)) (F0 m 2 ls []) := ⟨_, rfl⟩
  obtain ⟨G22, hG22⟩ : ∃ G : Int32 → Int32 → S0 → Prop, G = fun (x1 x2 : Int32) (σ : S0) => ∀ (H : Heap) (locs : List Loc) (ls : Array Slot), va_P D vwCl (wR ad cA cB σ) H → va_S (kAR ad s.heap.size) s.heap H locs → lv_has ls 3 [(0, .ref (ad 0)), (1, .int x1), (2, .int x2)] → W p l e (headSpec (Cond.code y_R_placeAll c_R_placeAll 3 none :: wsG) ({ frames := 0, cells := 0, slots := 0, locals := 0 } : Room)).room s m ([.ref (ad 0)] : List Value).toArray below meth c H locs 0 0 (MQ below (va_Qv post (kBR D ad cA cB) (kAR ad s.heap.size)) ([.ref (ad 0)] : List Value).toArray s 0 0 (kAR ad s.heap.size)) (F0 m 22 ls []) := ⟨_, rfl⟩
  obtain ⟨G54, hG54⟩ : ∃ G : Int32 → Int32 → Int32 → Int32 → Int32 → S0 → Prop, G = fun (x1 x2 t1 t2 t3 : Int32) (σ : S0) => ∀ (H : Heap) (locs : List Loc) (ls : Array Slot), va_P D vwCl (wR ad cA cB σ) H → va_S (kAR ad s.heap.size) s.heap H locs → lv_has ls 3 [(0, .ref (ad 0)), (1, .int x1), (2, .int x2)] → W p l e (headSpec (Cond.code y_R_placeAll c_R_placeAll 3 none :: wsG) ({ frames := 0, cells := 0, slots := 0, locals := 0 } : Room)).room s m ([.ref (ad 0)] : List Value).toArray below meth c H locs 0 0 (MQ below (va_Qv post (kBR D ad cA cB) (kAR ad s.heap.size)) ([.ref (ad 0)] : List Value).toArray s 0 0 (kAR ad s.heap.size)) (F0 m 54 ls [.int t3, .int t2, .int t1, .ref (ad 9)]) := ⟨_, rfl⟩
  have h := h G2 G22 G54
  have h := h (by
    intro x1 σ h
    rw [hG2]
    intro H locs ls hP hS hl
    refine lv_iload_n hx hb d_R_placeAll_2 rfl (lv_at hl 1 rfl) ?_
    refine lv_bipush (v := 16) hx hb d_R_placeAll_3 (by decide) ?_
    refine lv_aload_n hx hb d_R_placeAll_5 rfl (lv_at hl 0 rfl) ?_
    refine va_get (D := D) (ci := 4) (v := .int (σ 0 3)) (C := RX4) (T := TX4) (N := 27) hx hb htg inG_X4 hown hK hP 0 rfl rfl 13 (by decide) (htg _ m_632) (fun _ h9 => h9) rfl d_R_placeAll_6 ?_
    refine lv_iadd hx hb d_R_placeAll_9 ?_
    refine lv_icmp_ge (tgt := 68) hx hb d_R_placeAll_10 (by decide) (fun cn => ?_) (fun cn => ?_)
    · have h := h.1 cn
      exact W.vret hx hb hr (fun t ht hW => ⟨⟨σ, rfl, h, kBR_of ht hP⟩, hS.F ht⟩) hS.2.2 d_R_placeAll_68 hlocks
    · have h := h.2 cn
      refine lv_aload_n hx hb d_R_placeAll_13 rfl (lv_at hl 0 rfl) ?_
      refine va_get (D := D) (ci := 4) (v := .ref (ad 9)) (C := RX4) (T := TX4) (N := 27) hx hb htg inG_X4 hown hK hP 0 rfl rfl 11 (by decide) (htg _ m_630) (fun _ h9 => h9) rfl d_R_placeAll_14 ?_
      refine lv_iload_n hx hb d_R_placeAll_17 rfl (lv_at hl 1 rfl) ?_
      refine lv_iconst (v := 0) hx hb d_R_placeAll_18 (by decide) ?_
      have hi := h.1
      have h := h.2
      refine va_iast hx hb hK hP (hD _) hS 9 0 rfl rfl hi d_R_placeAll_19 (fun H locs hP _ hS => ?_)
      obtain ⟨σ1, eσ1⟩ : ∃ z : S0, z = st σ 9 x1.toNatClampNeg 0 := ⟨_, rfl⟩
      have hP : va_P D vwCl (wR ad cA cB σ1) H := by rw [eσ1]; exact hP
      have h := h σ1 eσ1
      refine lv_iconst (v := 0) hx hb d_R_placeAll_20 (by decide) ?_
      refine lv_istore_n (lv' := [(2, .int 0), (0, .ref (ad 0)), (1, .int x1)]) hx hb d_R_placeAll_21 rfl hl (by decide) rfl (fun ls hl => ?_)
      rw [hG22] at h
      exact h _ _ _ hP hS (lv_sub hl [1, 2, 0] rfl))
  have h := h (by
    intro x1 x2 σ h
    rw [hG22]
    intro H locs ls hP hS hl
    refine lv_iload_n hx hb d_R_placeAll_22 rfl (lv_at hl 2 rfl) ?_
    refine lv_iload_n hx hb d_R_placeAll_23 rfl (lv_at hl 1 rfl) ?_
    refine lv_icmp_ge (tgt := 62) hx hb d_R_placeAll_24 (by decide) (fun cn => ?_) (fun cn => ?_)
    · have h := h.1 cn
      refine lv_iinc (v := (x1 + 1)) (lv' := [(1, .int (x1 + 1)), (0, .ref (ad 0)), (2, .int x2)]) hx hb d_R_placeAll_62 hl (k := 1) rfl rfl (by decide) rfl (fun ls hl => ?_)
      refine lv_goto (tgt := 2) hx hb d_R_placeAll_65 (by decide) ?_
      rw [hG2] at h
      exact h _ _ _ hP hS (lv_sub hl [1, 0] rfl)
    · have h := h.2 cn
      refine lv_aload_n hx hb d_R_placeAll_27 rfl (lv_at hl 0 rfl) ?_
      refine va_get (D := D) (ci := 4) (v := .ref (ad 9)) (C := RX4) (T := TX4) (N := 27) hx hb htg inG_X4 hown hK hP 0 rfl rfl 11 (by decide) (htg _ m_630) (fun _ h9 => h9) rfl d_R_placeAll_28 ?_
      refine lv_iload_n hx hb d_R_placeAll_31 rfl (lv_at hl 1 rfl) ?_
      refine lv_dup2_11 hx hb d_R_placeAll_32 rfl rfl ?_
      have hi := h.1
      have h := h.2
      refine va_iald hx hb hK hP 9 0 rfl rfl hi d_R_placeAll_33 ?_
      refine lv_aload_n hx hb d_R_placeAll_34 rfl (lv_at hl 0 rfl) ?_
      refine va_get (D := D) (ci := 4) (v := .ref (ad 8)) (C := RX4) (T := TX4) (N := 27) hx hb htg inG_X4 hown hK hP 0 rfl rfl 10 (by decide) (htg _ m_629) (fun _ h9 => h9) rfl d_R_placeAll_35 ?_
      refine lv_iload_n hx hb d_R_placeAll_38 rfl (lv_at hl 2 rfl) ?_
      have hi := h.1
      have h := h.2
      refine va_iald hx hb hK hP 8 0 rfl rfl hi d_R_placeAll_39 ?_
      refine lv_aload_n hx hb d_R_placeAll_40 rfl (lv_at hl 0 rfl) ?_
      refine va_get (D := D) (ci := 4) (v := .ref (ad 8)) (C := RX4) (T := TX4) (N := 27) hx hb htg inG_X4 hown hK hP 0 rfl rfl 10 (by decide) (htg _ m_629) (fun _ h9 => h9) rfl d_R_placeAll_41 ?_
      refine lv_iload_n hx hb d_R_placeAll_44 rfl (lv_at hl 1 rfl) ?_
      have hi := h.1
      have h := h.2
      refine va_iald hx hb hK hP 8 0 rfl rfl hi d_R_placeAll_45 ?_
      refine lv_icmp_ne (tgt := 53) hx hb d_R_placeAll_46 (by decide) (fun cn => ?_) (fun cn => ?_)
      · have h := h.1 cn
        refine lv_iconst (v := 0) hx hb d_R_placeAll_53 (by decide) ?_
        rw [hG54] at h
        exact h _ _ _ hP hS (lv_sub hl [0, 1, 2] rfl)
      · have h := h.2 cn
        refine lv_iconst (v := 1) hx hb d_R_placeAll_49 (by decide) ?_
        refine lv_goto (tgt := 54) hx hb d_R_placeAll_50 (by decide) ?_
        rw [hG54] at h
        exact h _ _ _ hP hS (lv_sub hl [0, 1, 2] rfl))
  have h := h (by
    intro x1 x2 t1 t2 t3 σ h
    rw [hG54]
    intro H locs ls hP hS hl
    refine lv_iadd hx hb d_R_placeAll_54 ?_
    have hi := h.1
    have h := h.2
    refine va_iast hx hb hK hP (hD _) hS 9 0 rfl rfl hi d_R_placeAll_55 (fun H locs hP _ hS => ?_)
    obtain ⟨σ2, eσ2⟩ : ∃ z : S0, z = st σ 9 t1.toNatClampNeg (t2 + t3) := ⟨_, rfl⟩
    have hP : va_P D vwCl (wR ad cA cB σ2) H := by rw [eσ2]; exact hP
    have h := h σ2 eσ2
    refine lv_iinc (v := (x2 + 1)) (lv' := [(2, .int (x2 + 1)), (0, .ref (ad 0)), (1, .int x1)]) hx hb d_R_placeAll_56 hl (k := 2) rfl rfl (by decide) rfl (fun ls hl => ?_)
    refine lv_goto (tgt := 22) hx hb d_R_placeAll_59 (by decide) ?_
    rw [hG22] at h
    exact h _ _ _ hP hS (lv_sub hl [1, 2, 0] rfl))
  obtain ⟨H, eH⟩ : ∃ z, z = s.heap := ⟨_, rfl⟩
  have hP : va_P D vwCl (wR ad cA cB σ) H := by rw [eH]; exact hP
  have hS : va_S (kAR ad s.heap.size) s.heap H [] := by rw [eH]; exact hS
  show W p l e (headSpec (Cond.code y_R_placeAll c_R_placeAll 3 none :: wsG) ({ frames := 0, cells := 0, slots := 0, locals := 0 } : Room)).room s m ([.ref (ad 0)] : List Value).toArray below meth c s.heap [] 0 0 (MQ below (va_Qv post (kBR D ad cA cB) (kAR ad s.heap.size)) ([.ref (ad 0)] : List Value).toArray s 0 0 (kAR ad s.heap.size)) (F0 m 0 ls [])
  suffices k : W p l e (headSpec (Cond.code y_R_placeAll c_R_placeAll 3 none :: wsG) ({ frames := 0, cells := 0, slots := 0, locals := 0 } : Room)).room s m ([.ref (ad 0)] : List Value).toArray below meth c H [] 0 0 (MQ below (va_Qv post (kBR D ad cA cB) (kAR ad s.heap.size)) ([.ref (ad 0)] : List Value).toArray s 0 0 (kAR ad s.heap.size)) (F0 m 0 ls []) by rw [eH] at k; exact k
  refine lv_iconst (v := 0) hx hb d_R_placeAll_0 (by decide) ?_
  refine lv_istore_n (lv' := [(1, .int 0), (0, .ref (ad 0))]) hx hb d_R_placeAll_1 rfl hl (by decide) rfl (fun ls hl => ?_)
  rw [hG2] at h
  exact h _ _ _ hP hS (lv_sub hl [1, 0] rfl)
set_option maxHeartbeats 4000000 in
set_option maxRecDepth 100000 in
theorem met_R_crossedNow (l : Launch) (D : va_G) (ad : Nat → Nat) (cA cB : ClassId) (hap : kapR ad) (σ : S0) (sz : Nat) (post : Int32 → S0 → Prop) (h : Sp_R_crossedNow  σ post) : Met l y_R_crossedNow (Cond.code y_R_crossedNow c_R_crossedNow 6 (some .int) :: wsG) ({ frames := 0, cells := 0, slots := 0, locals := 0 } : Room) (kPcR D ad cA cB σ sz [.ref (ad 0)]) (va_Qi post (kBR D ad cA cB) (kAR ad sz)) 0 0 (kAR ad sz) := by
  refine Met.ofW (cc := c_R_crossedNow) (maxL := 6) (ret := (some .int)) (by decide) rfl ?_
  intro p e s m args below meth c s₁ B hml hv
  obtain ⟨rfl, hsz, hP, hK, hF⟩ := hv
  have hx := B.exec
  have hb := B.bytes
  have hr := B.returns
  have hts := atoms_spec (ws := (Cond.code y_R_crossedNow c_R_crossedNow 6 (some .int) :: wsG)) B.pre
  have htg : ∀ w ∈ wsG, w.before ([.ref (ad 0)] : List Value).toArray s = true := fun w h => hts w (List.mem_cons_of_mem _ h)
  have hown : s.vm.findClass RX4 = some m.cls := findClass_of_methodNamed B.named
  have hlocks := B.notSynchronized
  subst hsz
  have hD : ∀ σ, va_D (kAR ad s.heap.size) (wR ad cA cB σ) := fun σ => wR_D hap cA cB σ _
  have hS : va_S (kAR ad s.heap.size) s.heap s.heap [] := va_S.rf
  have hl := lv_entry ([.ref (ad 0)]) (n := 6) (Nat.le_of_ble_eq_true rfl)
  rw [lg_entry_eq]
  generalize (lg_sl ([.ref (ad 0)]) ++ List.replicate (6 - (lg_sl ([.ref (ad 0)])).length) Slot.unset).toArray = ls at hl ⊢
  have hl : lv_has ls 6 [(0, .ref (ad 0))] := hl
  unfold Sp_R_crossedNow at h
  obtain ⟨G4, hG4⟩ : ∃ G : Int32 → Int32 → S0 → Prop, G = fun (x1 x2 : Int32) (σ : S0) => ∀ (H : Heap) (locs : List Loc) (ls : Array Slot), va_P D vwCl (wR ad cA cB σ) H → va_S (kAR ad s.heap.size) s.heap H locs → lv_has ls 6 [(0, .ref (ad 0)), (1, .int x1), (2, .int x2)] → W p l e (headSpec (Cond.code y_R_crossedNow c_R_crossedNow 6 (some .int) :: wsG) ({ frames := 0, cells := 0, slots := 0, locals := 0 } : Room)).room s m ([.ref (ad 0)] : List Value).toArray below meth c H locs 0 0 (MQ below (va_Qi post (kBR D ad cA cB) (kAR ad s.heap.size)) ([.ref (ad 0)] : List Value).toArray s 0 0 (kAR ad s.heap.size)) (F0 m 4 ls []) := ⟨_, rfl⟩
  obtain ⟨G14, hG14⟩ : ∃ G : Int32 → Int32 → Int32 → S0 → Prop, G = fun (x1 x2 x3 : Int32) (σ : S0) => ∀ (H : Heap) (locs : List Loc) (ls : Array Slot), va_P D vwCl (wR ad cA cB σ) H → va_S (kAR ad s.heap.size) s.heap H locs → lv_has ls 6 [(0, .ref (ad 0)), (1, .int x1), (2, .int x2), (3, .int x3)] → W p l e (headSpec (Cond.code y_R_crossedNow c_R_crossedNow 6 (some .int) :: wsG) ({ frames := 0, cells := 0, slots := 0, locals := 0 } : Room)).room s m ([.ref (ad 0)] : List Value).toArray below meth c H locs 0 0 (MQ below (va_Qi post (kBR D ad cA cB) (kAR ad s.heap.size)) ([.ref (ad 0)] : List Value).toArray s 0 0 (kAR ad s.heap.size)) (F0 m 14 ls []) := ⟨_, rfl⟩
  obtain ⟨G108, hG108⟩ : ∃ G : Int32 → Int32 → Int32 → Int32 → Int32 → S0 → Prop, G = fun (x2 x3 x4 x5 t0 : Int32) (σ : S0) => ∀ (H : Heap) (locs : List Loc) (ls : Array Slot), va_P D vwCl (wR ad cA cB σ) H → va_S (kAR ad s.heap.size) s.heap H locs → lv_has ls 6 [(0, .ref (ad 0)), (2, .int x2), (3, .int x3), (4, .int x4), (5, .int x5)] → W p l e (headSpec (Cond.code y_R_crossedNow c_R_crossedNow 6 (some .int) :: wsG) ({ frames := 0, cells := 0, slots := 0, locals := 0 } : Room)).room s m ([.ref (ad 0)] : List Value).toArray below meth c H locs 0 0 (MQ below (va_Qi post (kBR D ad cA cB) (kAR ad s.heap.size)) ([.ref (ad 0)] : List Value).toArray s 0 0 (kAR ad s.heap.size)) (F0 m 108 ls [.int t0]) := ⟨_, rfl⟩
  have h := h G4 G14 G108
  have h := h (by
    intro x1 x2 σ h
    rw [hG4]
    intro H locs ls hP hS hl
    refine lv_iload_n hx hb d_R_crossedNow_4 rfl (lv_at hl 2 rfl) ?_
    refine lv_aload_n hx hb d_R_crossedNow_5 rfl (lv_at hl 0 rfl) ?_
    refine va_get (D := D) (ci := 4) (v := .int (σ 0 4)) (C := RX4) (T := TX4) (N := 27) hx hb htg inG_X4 hown hK hP 0 rfl rfl 16 (by decide) (htg _ m_635) (fun _ h9 => h9) rfl d_R_crossedNow_6 ?_
    refine lv_icmp_ge (tgt := 137) hx hb d_R_crossedNow_9 (by decide) (fun cn => ?_) (fun cn => ?_)
    · have h := h.1 cn
      refine lv_iload_n hx hb d_R_crossedNow_137 rfl (lv_at hl 1 rfl) ?_
      exact W.iret (v := x1) hx hb hr (fun t ht hW => ⟨⟨_, σ, rfl, h, kBR_of ht hP⟩, hS.F ht⟩) hS.2.2 d_R_crossedNow_138 hlocks
    · have h := h.2 cn
      refine lv_iconst (v := 0) hx hb d_R_crossedNow_12 (by decide) ?_
      refine lv_istore_n (lv' := [(3, .int 0), (0, .ref (ad 0)), (1, .int x1), (2, .int x2)]) hx hb d_R_crossedNow_13 rfl hl (by decide) rfl (fun ls hl => ?_)
      rw [hG14] at h
      exact h _ _ _ hP hS (lv_sub hl [1, 2, 3, 0] rfl))
  have h := h (by
    intro x1 x2 x3 σ h
    rw [hG14]
    intro H locs ls hP hS hl
    refine lv_iload_n hx hb d_R_crossedNow_14 rfl (lv_at hl 3 rfl) ?_
    refine lv_iload_n hx hb d_R_crossedNow_15 rfl (lv_at hl 2 rfl) ?_
    refine lv_icmp_ge (tgt := 131) hx hb d_R_crossedNow_16 (by decide) (fun cn => ?_) (fun cn => ?_)
    · have h := h.1 cn
      refine lv_iinc (v := (x2 + 1)) (lv' := [(2, .int (x2 + 1)), (0, .ref (ad 0)), (1, .int x1), (3, .int x3)]) hx hb d_R_crossedNow_131 hl (k := 2) rfl rfl (by decide) rfl (fun ls hl => ?_)
      refine lv_goto (tgt := 4) hx hb d_R_crossedNow_134 (by decide) ?_
      rw [hG4] at h
      exact h _ _ _ hP hS (lv_sub hl [1, 2, 0] rfl)
    · have h := h.2 cn
      refine lv_aload_n hx hb d_R_crossedNow_19 rfl (lv_at hl 0 rfl) ?_
      refine va_get (D := D) (ci := 4) (v := .ref (ad 8)) (C := RX4) (T := TX4) (N := 27) hx hb htg inG_X4 hown hK hP 0 rfl rfl 10 (by decide) (htg _ m_629) (fun _ h9 => h9) rfl d_R_crossedNow_20 ?_
      refine lv_aload_n hx hb d_R_crossedNow_23 rfl (lv_at hl 0 rfl) ?_
      refine va_get (D := D) (ci := 4) (v := .ref (ad 11)) (C := RX4) (T := TX4) (N := 27) hx hb htg inG_X4 hown hK hP 0 rfl rfl 14 (by decide) (htg _ m_633) (fun _ h9 => h9) rfl d_R_crossedNow_24 ?_
      refine lv_iload_n hx hb d_R_crossedNow_27 rfl (lv_at hl 2 rfl) ?_
      have hi := h.1
      have h := h.2
      refine va_iald hx hb hK hP 11 0 rfl rfl hi d_R_crossedNow_28 ?_
      have hi := h.1
      have h := h.2
      refine va_iald hx hb hK hP 8 0 rfl rfl hi d_R_crossedNow_29 ?_
      refine lv_aload_n hx hb d_R_crossedNow_30 rfl (lv_at hl 0 rfl) ?_
      refine va_get (D := D) (ci := 4) (v := .ref (ad 8)) (C := RX4) (T := TX4) (N := 27) hx hb htg inG_X4 hown hK hP 0 rfl rfl 10 (by decide) (htg _ m_629) (fun _ h9 => h9) rfl d_R_crossedNow_31 ?_
      refine lv_aload_n hx hb d_R_crossedNow_34 rfl (lv_at hl 0 rfl) ?_
      refine va_get (D := D) (ci := 4) (v := .ref (ad 11)) (C := RX4) (T := TX4) (N := 27) hx hb htg inG_X4 hown hK hP 0 rfl rfl 14 (by decide) (htg _ m_633) (fun _ h9 => h9) rfl d_R_crossedNow_35 ?_
      refine lv_iload_n hx hb d_R_crossedNow_38 rfl (lv_at hl 3 rfl) ?_
      have hi := h.1
      have h := h.2
      refine va_iald hx hb hK hP 11 0 rfl rfl hi d_R_crossedNow_39 ?_
      have hi := h.1
      have h := h.2
      refine va_iald hx hb hK hP 8 0 rfl rfl hi d_R_crossedNow_40 ?_
      refine lv_icmp_eq (tgt := 47) hx hb d_R_crossedNow_41 (by decide) (fun cn => ?_) (fun cn => ?_)
      · have h := h.1 cn
        refine lv_aload_n hx hb d_R_crossedNow_47 rfl (lv_at hl 0 rfl) ?_
        refine va_get (D := D) (ci := 4) (v := .ref (ad 9)) (C := RX4) (T := TX4) (N := 27) hx hb htg inG_X4 hown hK hP 0 rfl rfl 11 (by decide) (htg _ m_630) (fun _ h9 => h9) rfl d_R_crossedNow_48 ?_
        refine lv_aload_n hx hb d_R_crossedNow_51 rfl (lv_at hl 0 rfl) ?_
        refine va_get (D := D) (ci := 4) (v := .ref (ad 11)) (C := RX4) (T := TX4) (N := 27) hx hb htg inG_X4 hown hK hP 0 rfl rfl 14 (by decide) (htg _ m_633) (fun _ h9 => h9) rfl d_R_crossedNow_52 ?_
        refine lv_iload_n hx hb d_R_crossedNow_55 rfl (lv_at hl 2 rfl) ?_
        have hi := h.1
        have h := h.2
        refine va_iald hx hb hK hP 11 0 rfl rfl hi d_R_crossedNow_56 ?_
        have hi := h.1
        have h := h.2
        refine va_iald hx hb hK hP 9 0 rfl rfl hi d_R_crossedNow_57 ?_
        refine lv_aload_n hx hb d_R_crossedNow_58 rfl (lv_at hl 0 rfl) ?_
        refine va_get (D := D) (ci := 4) (v := .ref (ad 9)) (C := RX4) (T := TX4) (N := 27) hx hb htg inG_X4 hown hK hP 0 rfl rfl 11 (by decide) (htg _ m_630) (fun _ h9 => h9) rfl d_R_crossedNow_59 ?_
        refine lv_aload_n hx hb d_R_crossedNow_62 rfl (lv_at hl 0 rfl) ?_
        refine va_get (D := D) (ci := 4) (v := .ref (ad 11)) (C := RX4) (T := TX4) (N := 27) hx hb htg inG_X4 hown hK hP 0 rfl rfl 14 (by decide) (htg _ m_633) (fun _ h9 => h9) rfl d_R_crossedNow_63 ?_
        refine lv_iload_n hx hb d_R_crossedNow_66 rfl (lv_at hl 3 rfl) ?_
        have hi := h.1
        have h := h.2
        refine va_iald hx hb hK hP 11 0 rfl rfl hi d_R_crossedNow_67 ?_
        have hi := h.1
        have h := h.2
        refine va_iald hx hb hK hP 9 0 rfl rfl hi d_R_crossedNow_68 ?_
        refine lv_isub hx hb d_R_crossedNow_69 ?_
        refine lv_topi (fun v1 ev1 => ?_)
        have h := h v1 ev1
        refine lv_istore (lv' := [(4, .int v1), (0, .ref (ad 0)), (1, .int x1), (2, .int x2), (3, .int x3)]) hx hb d_R_crossedNow_70 hl (by decide) rfl (fun ls hl => ?_)
        refine lv_aload_n hx hb d_R_crossedNow_72 rfl (lv_at hl 1 rfl) ?_
        refine va_get (D := D) (ci := 4) (v := .ref (ad 9)) (C := RX4) (T := TX4) (N := 27) hx hb htg inG_X4 hown hK hP 0 rfl rfl 11 (by decide) (htg _ m_630) (fun _ h9 => h9) rfl d_R_crossedNow_73 ?_
        refine lv_aload_n hx hb d_R_crossedNow_76 rfl (lv_at hl 1 rfl) ?_
        refine va_get (D := D) (ci := 4) (v := .ref (ad 12)) (C := RX4) (T := TX4) (N := 27) hx hb htg inG_X4 hown hK hP 0 rfl rfl 15 (by decide) (htg _ m_634) (fun _ h9 => h9) rfl d_R_crossedNow_77 ?_
        refine lv_iload_n hx hb d_R_crossedNow_80 rfl (lv_at hl 3 rfl) ?_
        have hi := h.1
        have h := h.2
        refine va_iald hx hb hK hP 12 0 rfl rfl hi d_R_crossedNow_81 ?_
        have hi := h.1
        have h := h.2
        refine va_iald hx hb hK hP 9 0 rfl rfl hi d_R_crossedNow_82 ?_
        refine lv_aload_n hx hb d_R_crossedNow_83 rfl (lv_at hl 1 rfl) ?_
        refine va_get (D := D) (ci := 4) (v := .ref (ad 9)) (C := RX4) (T := TX4) (N := 27) hx hb htg inG_X4 hown hK hP 0 rfl rfl 11 (by decide) (htg _ m_630) (fun _ h9 => h9) rfl d_R_crossedNow_84 ?_
        refine lv_aload_n hx hb d_R_crossedNow_87 rfl (lv_at hl 1 rfl) ?_
        refine va_get (D := D) (ci := 4) (v := .ref (ad 12)) (C := RX4) (T := TX4) (N := 27) hx hb htg inG_X4 hown hK hP 0 rfl rfl 15 (by decide) (htg _ m_634) (fun _ h9 => h9) rfl d_R_crossedNow_88 ?_
        refine lv_iload_n hx hb d_R_crossedNow_91 rfl (lv_at hl 4 rfl) ?_
        have hi := h.1
        have h := h.2
        refine va_iald hx hb hK hP 12 0 rfl rfl hi d_R_crossedNow_92 ?_
        have hi := h.1
        have h := h.2
        refine va_iald hx hb hK hP 9 0 rfl rfl hi d_R_crossedNow_93 ?_
        refine lv_isub hx hb d_R_crossedNow_94 ?_
        refine lv_topi (fun v2 ev2 => ?_)
        have h := h v2 ev2
        refine lv_istore (lv' := [(5, .int v2), (4, .int v1), (0, .ref (ad 0)), (1, .int x1), (2, .int x2), (3, .int x3)]) hx hb d_R_crossedNow_95 hl (by decide) rfl (fun ls hl => ?_)
        refine lv_iload_n hx hb d_R_crossedNow_97 rfl (lv_at hl 3 rfl) ?_
        refine lv_iload hx hb d_R_crossedNow_98 (lv_at hl 1 rfl) ?_
        refine lv_if_ge (tgt := 108) hx hb d_R_crossedNow_100 (by decide) (fun cn => ?_) (fun cn => ?_)
        · have h := h.1 cn
          rw [hG108] at h
          exact h _ _ _ hP hS (lv_sub hl [2, 4, 5, 1, 0] rfl)
        · have h := h.2 cn
          refine lv_iload hx hb d_R_crossedNow_103 (lv_at hl 0 rfl) ?_
          refine lv_if_gt (tgt := 118) hx hb d_R_crossedNow_105 (by decide) (fun cn => ?_) (fun cn => ?_)
          · have h := h.1 cn
            refine lv_iconst (v := 1) hx hb d_R_crossedNow_118 (by decide) ?_
            refine lv_goto (tgt := 123) hx hb d_R_crossedNow_119 (by decide) ?_
            refine lv_iadd hx hb d_R_crossedNow_123 ?_
            refine lv_topi (fun v3 ev3 => ?_)
            have h := h v3 ev3
            refine lv_istore_n (lv' := [(1, .int v3), (5, .int v2), (4, .int v1), (0, .ref (ad 0)), (2, .int x2), (3, .int x3)]) hx hb d_R_crossedNow_124 rfl hl (by decide) rfl (fun ls hl => ?_)
            refine lv_iinc (v := (x3 + 1)) (lv' := [(3, .int (x3 + 1)), (1, .int v3), (5, .int v2), (4, .int v1), (0, .ref (ad 0)), (2, .int x2)]) hx hb d_R_crossedNow_125 hl (k := 5) rfl rfl (by decide) rfl (fun ls hl => ?_)
            refine lv_goto (tgt := 14) hx hb d_R_crossedNow_128 (by decide) ?_
            rw [hG14] at h
            exact h _ _ _ hP hS (lv_sub hl [4, 1, 5, 0] rfl)
          · have h := h.2 cn
            rw [hG108] at h
            exact h _ _ _ hP hS (lv_sub hl [2, 4, 5, 1, 0] rfl)
      · have h := h.2 cn
        refine lv_goto (tgt := 125) hx hb d_R_crossedNow_44 (by decide) ?_
        refine lv_iinc (v := (x3 + 1)) (lv' := [(3, .int (x3 + 1)), (0, .ref (ad 0)), (1, .int x1), (2, .int x2)]) hx hb d_R_crossedNow_125 hl (k := 3) rfl rfl (by decide) rfl (fun ls hl => ?_)
        refine lv_goto (tgt := 14) hx hb d_R_crossedNow_128 (by decide) ?_
        rw [hG14] at h
        exact h _ _ _ hP hS (lv_sub hl [1, 2, 3, 0] rfl))
  have h := h (by
    intro x2 x3 x4 x5 t0 σ h
    rw [hG108]
    intro H locs ls hP hS hl
    refine lv_iload hx hb d_R_crossedNow_108 (lv_at hl 3 rfl) ?_
    refine lv_if_le (tgt := 122) hx hb d_R_crossedNow_110 (by decide) (fun cn => ?_) (fun cn => ?_)
    · have h := h.1 cn
      refine lv_iconst (v := 0) hx hb d_R_crossedNow_122 (by decide) ?_
      refine lv_iadd hx hb d_R_crossedNow_123 ?_
      refine lv_topi (fun v4 ev4 => ?_)
      have h := h v4 ev4
      refine lv_istore_n (lv' := [(1, .int v4), (0, .ref (ad 0)), (2, .int x2), (3, .int x3), (4, .int x4), (5, .int x5)]) hx hb d_R_crossedNow_124 rfl hl (by decide) rfl (fun ls hl => ?_)
      refine lv_iinc (v := (x3 + 1)) (lv' := [(3, .int (x3 + 1)), (1, .int v4), (0, .ref (ad 0)), (2, .int x2), (4, .int x4), (5, .int x5)]) hx hb d_R_crossedNow_125 hl (k := 3) rfl rfl (by decide) rfl (fun ls hl => ?_)
      refine lv_goto (tgt := 14) hx hb d_R_crossedNow_128 (by decide) ?_
      rw [hG14] at h
      exact h _ _ _ hP hS (lv_sub hl [2, 1, 3, 0] rfl)
    · have h := h.2 cn
      refine lv_iload hx hb d_R_crossedNow_113 (lv_at hl 4 rfl) ?_
      refine lv_if_ge (tgt := 122) hx hb d_R_crossedNow_115 (by decide) (fun cn => ?_) (fun cn => ?_)
      · have h := h.1 cn
        refine lv_iconst (v := 0) hx hb d_R_crossedNow_122 (by decide) ?_
        refine lv_iadd hx hb d_R_crossedNow_123 ?_
        refine lv_topi (fun v5 ev5 => ?_)
        have h := h v5 ev5
        refine lv_istore_n (lv' := [(1, .int v5), (0, .ref (ad 0)), (2, .int x2), (3, .int x3), (4, .int x4), (5, .int x5)]) hx hb d_R_crossedNow_124 rfl hl (by decide) rfl (fun ls hl => ?_)
        refine lv_iinc (v := (x3 + 1)) (lv' := [(3, .int (x3 + 1)), (1, .int v5), (0, .ref (ad 0)), (2, .int x2), (4, .int x4), (5, .int x5)]) hx hb d_R_crossedNow_125 hl (k := 3) rfl rfl (by decide) rfl (fun ls hl => ?_)
        refine lv_goto (tgt := 14) hx hb d_R_crossedNow_128 (by decide) ?_
        rw [hG14] at h
        exact h _ _ _ hP hS (lv_sub hl [2, 1, 3, 0] rfl)
      · have h := h.2 cn
        refine lv_iconst (v := 1) hx hb d_R_crossedNow_118 (by decide) ?_
        refine lv_goto (tgt := 123) hx hb d_R_crossedNow_119 (by decide) ?_
        refine lv_iadd hx hb d_R_crossedNow_123 ?_
        refine lv_topi (fun v6 ev6 => ?_)
        have h := h v6 ev6
        refine lv_istore_n (lv' := [(1, .int v6), (0, .ref (ad 0)), (2, .int x2), (3, .int x3), (4, .int x4), (5, .int x5)]) hx hb d_R_crossedNow_124 rfl hl (by decide) rfl (fun ls hl => ?_)
        refine lv_iinc (v := (x3 + 1)) (lv' := [(3, .int (x3 + 1)), (1, .int v6), (0, .ref (ad 0)), (2, .int x2), (4, .int x4), (5, .int x5)]) hx hb d_R_crossedNow_125 hl (k := 3) rfl rfl (by decide) rfl (fun ls hl => ?_)
        refine lv_goto (tgt := 14) hx hb d_R_crossedNow_128 (by decide) ?_
        rw [hG14] at h
        exact h _ _ _ hP hS (lv_sub hl [2, 1, 3, 0] rfl))
  obtain ⟨H, eH⟩ : ∃ z, z = s.heap := ⟨_, rfl⟩
  have hP : va_P D vwCl (wR ad cA cB σ) H := by rw [eH]; exact hP
  have hS : va_S (kAR ad s.heap.size) s.heap H [] := by rw [eH]; exact hS
  show W p l e (headSpec (Cond.code y_R_crossedNow c_R_crossedNow 6 (some .int) :: wsG) ({ frames := 0, cells := 0, slots := 0, locals := 0 } : Room)).room s m ([.ref (ad 0)] : List Value).toArray below meth c s.heap [] 0 0 (MQ below (va_Qi post (kBR D ad cA cB) (kAR ad s.heap.size)) ([.ref (ad 0)] : List Value).toArray s 0 0 (kAR ad s.heap.size)) (F0 m 0 ls [])
  suffices k : W p l e (headSpec (Cond.code y_R_crossedNow c_R_crossedNow 6 (some .int) :: wsG) ({ frames := 0, cells := 0, slots := 0, locals := 0 } : Room)).room s m ([.ref (ad 0)] : List Value).toArray below meth c H [] 0 0 (MQ below (va_Qi post (kBR D ad cA cB) (kAR ad s.heap.size)) ([.ref (ad 0)] : List Value).toArray s 0 0 (kAR ad s.heap.size)) (F0 m 0 ls []) by rw [eH] at k; exact k
  refine lv_iconst (v := 0) hx hb d_R_crossedNow_0 (by decide) ?_
  refine lv_istore_n (lv' := [(1, .int 0), (0, .ref (ad 0))]) hx hb d_R_crossedNow_1 rfl hl (by decide) rfl (fun ls hl => ?_)
  refine lv_iconst (v := 0) hx hb d_R_crossedNow_2 (by decide) ?_
  refine lv_istore_n (lv' := [(2, .int 0), (1, .int 0), (0, .ref (ad 0))]) hx hb d_R_crossedNow_3 rfl hl (by decide) rfl (fun ls hl => ?_)
  rw [hG4] at h
  exact h _ _ _ hP hS (lv_sub hl [2, 1, 0] rfl)
set_option maxHeartbeats 4000000 in
set_option maxRecDepth 100000 in
theorem met_R_keep (l : Launch) (D : va_G) (ad : Nat → Nat) (cA cB : ClassId) (hap : kapR ad) (σ : S0) (sz : Nat) (post : S0 → Prop) (h : Sp_R_keep  σ post) : Met l y_R_keep (Cond.code y_R_keep c_R_keep 2 none :: wsG) ({ frames := 0, cells := 0, slots := 0, locals := 0 } : Room) (kPcR D ad cA cB σ sz [.ref (ad 0)]) (va_Qv post (kBR D ad cA cB) (kAR ad sz)) 0 0 (kAR ad sz) := by
  refine Met.ofW (cc := c_R_keep) (maxL := 2) (ret := none) (by decide) rfl ?_
  intro p e s m args below meth c s₁ B hml hv
  obtain ⟨rfl, hsz, hP, hK, hF⟩ := hv
  have hx := B.exec
  have hb := B.bytes
  have hr := B.returns
  have hts := atoms_spec (ws := (Cond.code y_R_keep c_R_keep 2 none :: wsG)) B.pre
  have htg : ∀ w ∈ wsG, w.before ([.ref (ad 0)] : List Value).toArray s = true := fun w h => hts w (List.mem_cons_of_mem _ h)
  have hown : s.vm.findClass RX4 = some m.cls := findClass_of_methodNamed B.named
  have hlocks := B.notSynchronized
  subst hsz
  have hD : ∀ σ, va_D (kAR ad s.heap.size) (wR ad cA cB σ) := fun σ => wR_D hap cA cB σ _
  have hS : va_S (kAR ad s.heap.size) s.heap s.heap [] := va_S.rf
  have hl := lv_entry ([.ref (ad 0)]) (n := 2) (Nat.le_of_ble_eq_true rfl)
  rw [lg_entry_eq]
  generalize (lg_sl ([.ref (ad 0)]) ++ List.replicate (2 - (lg_sl ([.ref (ad 0)])).length) Slot.unset).toArray = ls at hl ⊢
  have hl : lv_has ls 2 [(0, .ref (ad 0))] := hl
  unfold Sp_R_keep at h
  obtain ⟨G2, hG2⟩ : ∃ G : Int32 → S0 → Prop, G = fun (x1 : Int32) (σ : S0) => ∀ (H : Heap) (locs : List Loc) (ls : Array Slot), va_P D vwCl (wR ad cA cB σ) H → va_S (kAR ad s.heap.size) s.heap H locs → lv_has ls 2 [(0, .ref (ad 0)), (1, .int x1)] → W p l e (headSpec (Cond.code y_R_keep c_R_keep 2 none :: wsG) ({ frames := 0, cells := 0, slots := 0, locals := 0 } : Room)).room s m ([.ref (ad 0)] : List Value).toArray below meth c H locs 0 0 (MQ below (va_Qv post (kBR D ad cA cB) (kAR ad s.heap.size)) ([.ref (ad 0)] : List Value).toArray s 0 0 (kAR ad s.heap.size)) (F0 m 2 ls []) := ⟨_, rfl⟩
  have h := h G2
  have h := h (by
    intro x1 σ h
    rw [hG2]
    intro H locs ls hP hS hl
    refine lv_iload_n hx hb d_R_keep_2 rfl (lv_at hl 1 rfl) ?_
    refine lv_sipush (v := 166) hx hb d_R_keep_3 (by decide) ?_
    refine lv_icmp_ge (tgt := 27) hx hb d_R_keep_6 (by decide) (fun cn => ?_) (fun cn => ?_)
    · have h := h.1 cn
      exact W.vret hx hb hr (fun t ht hW => ⟨⟨σ, rfl, h, kBR_of ht hP⟩, hS.F ht⟩) hS.2.2 d_R_keep_27 hlocks
    · have h := h.2 cn
      refine lv_aload_n hx hb d_R_keep_9 rfl (lv_at hl 0 rfl) ?_
      refine va_get (D := D) (ci := 4) (v := .ref (ad 10)) (C := RX4) (T := TX4) (N := 27) hx hb htg inG_X4 hown hK hP 0 rfl rfl 12 (by decide) (htg _ m_631) (fun _ h9 => h9) rfl d_R_keep_10 ?_
      refine lv_iload_n hx hb d_R_keep_13 rfl (lv_at hl 1 rfl) ?_
      refine lv_aload_n hx hb d_R_keep_14 rfl (lv_at hl 0 rfl) ?_
      refine va_get (D := D) (ci := 4) (v := .ref (ad 9)) (C := RX4) (T := TX4) (N := 27) hx hb htg inG_X4 hown hK hP 0 rfl rfl 11 (by decide) (htg _ m_630) (fun _ h9 => h9) rfl d_R_keep_15 ?_
      refine lv_iload_n hx hb d_R_keep_18 rfl (lv_at hl 1 rfl) ?_
      have hi := h.1
      have h := h.2
      refine va_iald hx hb hK hP 9 0 rfl rfl hi d_R_keep_19 ?_
      have hi := h.1
      have h := h.2
      refine va_iast hx hb hK hP (hD _) hS 10 0 rfl rfl hi d_R_keep_20 (fun H locs hP _ hS => ?_)
      obtain ⟨σ1, eσ1⟩ : ∃ z : S0, z = st σ 10 x1.toNatClampNeg (σ 9 x1.toNatClampNeg) := ⟨_, rfl⟩
      have hP : va_P D vwCl (wR ad cA cB σ1) H := by rw [eσ1]; exact hP
      have h := h σ1 eσ1
      refine lv_iinc (v := (x1 + 1)) (lv' := [(1, .int (x1 + 1)), (0, .ref (ad 0))]) hx hb d_R_keep_21 hl (k := 1) rfl rfl (by decide) rfl (fun ls hl => ?_)
      refine lv_goto (tgt := 2) hx hb d_R_keep_24 (by decide) ?_
      rw [hG2] at h
      exact h _ _ _ hP hS (lv_sub hl [1, 0] rfl))
  obtain ⟨H, eH⟩ : ∃ z, z = s.heap := ⟨_, rfl⟩
  have hP : va_P D vwCl (wR ad cA cB σ) H := by rw [eH]; exact hP
  have hS : va_S (kAR ad s.heap.size) s.heap H [] := by rw [eH]; exact hS
  show W p l e (headSpec (Cond.code y_R_keep c_R_keep 2 none :: wsG) ({ frames := 0, cells := 0, slots := 0, locals := 0 } : Room)).room s m ([.ref (ad 0)] : List Value).toArray below meth c s.heap [] 0 0 (MQ below (va_Qv post (kBR D ad cA cB) (kAR ad s.heap.size)) ([.ref (ad 0)] : List Value).toArray s 0 0 (kAR ad s.heap.size)) (F0 m 0 ls [])
  suffices k : W p l e (headSpec (Cond.code y_R_keep c_R_keep 2 none :: wsG) ({ frames := 0, cells := 0, slots := 0, locals := 0 } : Room)).room s m ([.ref (ad 0)] : List Value).toArray below meth c H [] 0 0 (MQ below (va_Qv post (kBR D ad cA cB) (kAR ad s.heap.size)) ([.ref (ad 0)] : List Value).toArray s 0 0 (kAR ad s.heap.size)) (F0 m 0 ls []) by rw [eH] at k; exact k
  refine lv_iconst (v := 0) hx hb d_R_keep_0 (by decide) ?_
  refine lv_istore_n (lv' := [(1, .int 0), (0, .ref (ad 0))]) hx hb d_R_keep_1 rfl hl (by decide) rfl (fun ls hl => ?_)
  rw [hG2] at h
  exact h _ _ _ hP hS (lv_sub hl [1, 0] rfl)
set_option maxHeartbeats 4000000 in
set_option maxRecDepth 100000 in
theorem met_R_lastRow (l : Launch) (D : va_G) (ad : Nat → Nat) (cA cB : ClassId) (hap : kapR ad) (σ : S0) (sz : Nat) (post : Int32 → S0 → Prop) (h : Sp_R_lastRow  σ post) : Met l y_R_lastRow (Cond.code y_R_lastRow c_R_lastRow 3 (some .int) :: wsG) ({ frames := 2, cells := 0, slots := 0, locals := 44 } : Room) (kPcR D ad cA cB σ sz [.ref (ad 0)]) (va_Qi post (kBR D ad cA cB) (kAR ad sz)) 0 0 (kAR ad sz) := by
  refine Met.ofW (cc := c_R_lastRow) (maxL := 3) (ret := (some .int)) (by decide) rfl ?_
  intro p e s m args below meth c s₁ B hml hv
  obtain ⟨rfl, hsz, hP, hK, hF⟩ := hv
  have hx := B.exec
  have hb := B.bytes
  have hr := B.returns
  have hts := atoms_spec (ws := (Cond.code y_R_lastRow c_R_lastRow 3 (some .int) :: wsG)) B.pre
  have htg : ∀ w ∈ wsG, w.before ([.ref (ad 0)] : List Value).toArray s = true := fun w h => hts w (List.mem_cons_of_mem _ h)
  have hown : s.vm.findClass RX4 = some m.cls := findClass_of_methodNamed B.named
  have hlocks := B.notSynchronized
  subst hsz
  have hD : ∀ σ, va_D (kAR ad s.heap.size) (wR ad cA cB σ) := fun σ => wR_D hap cA cB σ _
  have hS : va_S (kAR ad s.heap.size) s.heap s.heap [] := va_S.rf
  have hl := lv_entry ([.ref (ad 0)]) (n := 3) (Nat.le_of_ble_eq_true rfl)
  rw [lg_entry_eq]
  generalize (lg_sl ([.ref (ad 0)]) ++ List.replicate (3 - (lg_sl ([.ref (ad 0)])).length) Slot.unset).toArray = ls at hl ⊢
  have hl : lv_has ls 3 [(0, .ref (ad 0))] := hl
  unfold Sp_R_lastRow at h
  obtain ⟨G4, hG4⟩ : ∃ G : Int32 → Int32 → S0 → Prop, G = fun (x1 x2 : Int32) (σ : S0) => ∀ (H : Heap) (locs : List Loc) (ls : Array Slot), va_P D vwCl (wR ad cA cB σ) H → va_S (kAR ad s.heap.size) s.heap H locs → lv_has ls 3 [(0, .ref (ad 0)), (1, .int x1), (2, .int x2)] → W p l e (headSpec (Cond.code y_R_lastRow c_R_lastRow 3 (some .int) :: wsG) ({ frames := 2, cells := 0, slots := 0, locals := 44 } : Room)).room s m ([.ref (ad 0)] : List Value).toArray below meth c H locs 0 0 (MQ below (va_Qi post (kBR D ad cA cB) (kAR ad s.heap.size)) ([.ref (ad 0)] : List Value).toArray s 0 0 (kAR ad s.heap.size)) (F0 m 4 ls []) := ⟨_, rfl⟩
  have h := h G4
  have h := h (by
    intro x1 x2 σ h
    rw [hG4]
    intro H locs ls hP hS hl
    refine lv_iload_n hx hb d_R_lastRow_4 rfl (lv_at hl 2 rfl) ?_
    refine lv_bipush (v := 16) hx hb d_R_lastRow_5 (by decide) ?_
    refine lv_icmp_ge (tgt := 45) hx hb d_R_lastRow_7 (by decide) (fun cn => ?_) (fun cn => ?_)
    · have h := h.1 cn
      refine lv_iload_n hx hb d_R_lastRow_45 rfl (lv_at hl 1 rfl) ?_
      exact W.iret (v := x1) hx hb hr (fun t ht hW => ⟨⟨_, σ, rfl, h, kBR_of ht hP⟩, hS.F ht⟩) hS.2.2 d_R_lastRow_46 hlocks
    · have h := h.2 cn
      refine lv_aload_n hx hb d_R_lastRow_10 rfl (lv_at hl 0 rfl) ?_
      refine lv_iload_n hx hb d_R_lastRow_11 rfl (lv_at hl 2 rfl) ?_
      refine kR_i (va_runV (As := [.int x2]) (rest := []) ⟨hx, hb, hml, hown, htg⟩ (met_R_isDrawn l D ad cA cB hap σ H.size x2 _ h) (cwV 1 htg (kG (kG_V m_776 m_778 m_35 m_57 (kG_self m_779))) rfl rfl rfl (by decide +kernel) ⟨Nat.le_of_ble_eq_true rfl, Nat.le_of_ble_eq_true rfl⟩) (kR_preV hK hF hP hS 0 rfl rfl _) rfl rfl hl.1 rfl (lv_room (Nat.le_of_ble_eq_true rfl)) d_R_lastRow_12 ⟨Nat.le_of_ble_eq_true rfl, Nat.le_of_ble_eq_true rfl⟩) hS (fun r2 σ1 H locs h hP hS => ?_)
      refine lv_if_eq (tgt := 37) hx hb d_R_lastRow_15 (by decide) (fun cn => ?_) (fun cn => ?_)
      · have h := h.1 cn
        refine lv_iload_n hx hb d_R_lastRow_37 rfl (lv_at hl 1 rfl) ?_
        refine lv_istore_n (lv' := [(1, .int x1), (0, .ref (ad 0)), (2, .int x2)]) hx hb d_R_lastRow_38 rfl hl (by decide) rfl (fun ls hl => ?_)
        refine lv_iinc (v := (x2 + 1)) (lv' := [(2, .int (x2 + 1)), (1, .int x1), (0, .ref (ad 0))]) hx hb d_R_lastRow_39 hl (k := 2) rfl rfl (by decide) rfl (fun ls hl => ?_)
        refine lv_goto (tgt := 4) hx hb d_R_lastRow_42 (by decide) ?_
        rw [hG4] at h
        exact h _ _ _ hP hS (lv_sub hl [2, 1, 0] rfl)
      · have h := h.2 cn
        refine lv_aload_n hx hb d_R_lastRow_18 rfl (lv_at hl 0 rfl) ?_
        refine va_get (D := D) (ci := 4) (v := .ref (ad 8)) (C := RX4) (T := TX4) (N := 27) hx hb htg inG_X4 hown hK hP 0 rfl rfl 10 (by decide) (htg _ m_629) (fun _ h9 => h9) rfl d_R_lastRow_19 ?_
        refine lv_iload_n hx hb d_R_lastRow_22 rfl (lv_at hl 2 rfl) ?_
        have hi := h.1
        have h := h.2
        refine va_iald hx hb hK hP 8 0 rfl rfl hi d_R_lastRow_23 ?_
        refine lv_iload_n hx hb d_R_lastRow_24 rfl (lv_at hl 1 rfl) ?_
        refine lv_icmp_le (tgt := 37) hx hb d_R_lastRow_25 (by decide) (fun cn => ?_) (fun cn => ?_)
        · have h := h.1 cn
          refine lv_iload_n hx hb d_R_lastRow_37 rfl (lv_at hl 1 rfl) ?_
          refine lv_istore_n (lv' := [(1, .int x1), (0, .ref (ad 0)), (2, .int x2)]) hx hb d_R_lastRow_38 rfl hl (by decide) rfl (fun ls hl => ?_)
          refine lv_iinc (v := (x2 + 1)) (lv' := [(2, .int (x2 + 1)), (1, .int x1), (0, .ref (ad 0))]) hx hb d_R_lastRow_39 hl (k := 2) rfl rfl (by decide) rfl (fun ls hl => ?_)
          refine lv_goto (tgt := 4) hx hb d_R_lastRow_42 (by decide) ?_
          rw [hG4] at h
          exact h _ _ _ hP hS (lv_sub hl [2, 1, 0] rfl)
        · have h := h.2 cn
          refine lv_aload_n hx hb d_R_lastRow_28 rfl (lv_at hl 0 rfl) ?_
          refine va_get (D := D) (ci := 4) (v := .ref (ad 8)) (C := RX4) (T := TX4) (N := 27) hx hb htg inG_X4 hown hK hP 0 rfl rfl 10 (by decide) (htg _ m_629) (fun _ h9 => h9) rfl d_R_lastRow_29 ?_
          refine lv_iload_n hx hb d_R_lastRow_32 rfl (lv_at hl 2 rfl) ?_
          have hi := h.1
          have h := h.2
          refine va_iald hx hb hK hP 8 0 rfl rfl hi d_R_lastRow_33 ?_
          refine lv_goto (tgt := 38) hx hb d_R_lastRow_34 (by decide) ?_
          refine lv_topi (fun v3 ev3 => ?_)
          have h := h v3 ev3
          refine lv_istore_n (lv' := [(1, .int v3), (0, .ref (ad 0)), (2, .int x2)]) hx hb d_R_lastRow_38 rfl hl (by decide) rfl (fun ls hl => ?_)
          refine lv_iinc (v := (x2 + 1)) (lv' := [(2, .int (x2 + 1)), (1, .int v3), (0, .ref (ad 0))]) hx hb d_R_lastRow_39 hl (k := 2) rfl rfl (by decide) rfl (fun ls hl => ?_)
          refine lv_goto (tgt := 4) hx hb d_R_lastRow_42 (by decide) ?_
          rw [hG4] at h
          exact h _ _ _ hP hS (lv_sub hl [2, 1, 0] rfl))
  obtain ⟨H, eH⟩ : ∃ z, z = s.heap := ⟨_, rfl⟩
  have hP : va_P D vwCl (wR ad cA cB σ) H := by rw [eH]; exact hP
  have hS : va_S (kAR ad s.heap.size) s.heap H [] := by rw [eH]; exact hS
  show W p l e (headSpec (Cond.code y_R_lastRow c_R_lastRow 3 (some .int) :: wsG) ({ frames := 2, cells := 0, slots := 0, locals := 44 } : Room)).room s m ([.ref (ad 0)] : List Value).toArray below meth c s.heap [] 0 0 (MQ below (va_Qi post (kBR D ad cA cB) (kAR ad s.heap.size)) ([.ref (ad 0)] : List Value).toArray s 0 0 (kAR ad s.heap.size)) (F0 m 0 ls [])
  suffices k : W p l e (headSpec (Cond.code y_R_lastRow c_R_lastRow 3 (some .int) :: wsG) ({ frames := 2, cells := 0, slots := 0, locals := 44 } : Room)).room s m ([.ref (ad 0)] : List Value).toArray below meth c H [] 0 0 (MQ below (va_Qi post (kBR D ad cA cB) (kAR ad s.heap.size)) ([.ref (ad 0)] : List Value).toArray s 0 0 (kAR ad s.heap.size)) (F0 m 0 ls []) by rw [eH] at k; exact k
  refine lv_iconst (v := (-1)) hx hb d_R_lastRow_0 (by decide) ?_
  refine lv_istore_n (lv' := [(1, .int (-1)), (0, .ref (ad 0))]) hx hb d_R_lastRow_1 rfl hl (by decide) rfl (fun ls hl => ?_)
  refine lv_iconst (v := 0) hx hb d_R_lastRow_2 (by decide) ?_
  refine lv_istore_n (lv' := [(2, .int 0), (1, .int (-1)), (0, .ref (ad 0))]) hx hb d_R_lastRow_3 rfl hl (by decide) rfl (fun ls hl => ?_)
  rw [hG4] at h
  exact h _ _ _ hP hS (lv_sub hl [2, 1, 0] rfl)
set_option maxHeartbeats 4000000 in
set_option maxRecDepth 100000 in
theorem met_R_put (l : Launch) (D : va_G) (ad : Nat → Nat) (cA cB : ClassId) (hap : kapR ad) (σ : S0) (sz : Nat) (a1 : Int32) (post : S0 → Prop) (h : Sp_R_put a1 σ post) : Met l y_R_put (Cond.code y_R_put c_R_put 2 none :: wsG) ({ frames := 0, cells := 0, slots := 0, locals := 0 } : Room) (kPcR D ad cA cB σ sz [.ref (ad 0), .int a1]) (va_Qv post (kBR D ad cA cB) (kAR ad sz)) 0 0 (kAR ad sz) := by
  refine Met.ofW (cc := c_R_put) (maxL := 2) (ret := none) (by decide) rfl ?_
  intro p e s m args below meth c s₁ B hml hv
  obtain ⟨rfl, hsz, hP, hK, hF⟩ := hv
  have hx := B.exec
  have hb := B.bytes
  have hr := B.returns
  have hts := atoms_spec (ws := (Cond.code y_R_put c_R_put 2 none :: wsG)) B.pre
  have htg : ∀ w ∈ wsG, w.before ([.ref (ad 0), .int a1] : List Value).toArray s = true := fun w h => hts w (List.mem_cons_of_mem _ h)
  have hown : s.vm.findClass RX4 = some m.cls := findClass_of_methodNamed B.named
  have hlocks := B.notSynchronized
  subst hsz
  have hD : ∀ σ, va_D (kAR ad s.heap.size) (wR ad cA cB σ) := fun σ => wR_D hap cA cB σ _
  have hS : va_S (kAR ad s.heap.size) s.heap s.heap [] := va_S.rf
  have hl := lv_entry ([.ref (ad 0), .int a1]) (n := 2) (Nat.le_of_ble_eq_true rfl)
  rw [lg_entry_eq]
  generalize (lg_sl ([.ref (ad 0), .int a1]) ++ List.replicate (2 - (lg_sl ([.ref (ad 0), .int a1])).length) Slot.unset).toArray = ls at hl ⊢
  have hl : lv_has ls 2 [(0, .ref (ad 0)), (1, .int a1)] := hl
  unfold Sp_R_put at h
  obtain ⟨H, eH⟩ : ∃ z, z = s.heap := ⟨_, rfl⟩
  have hP : va_P D vwCl (wR ad cA cB σ) H := by rw [eH]; exact hP
  have hS : va_S (kAR ad s.heap.size) s.heap H [] := by rw [eH]; exact hS
  show W p l e (headSpec (Cond.code y_R_put c_R_put 2 none :: wsG) ({ frames := 0, cells := 0, slots := 0, locals := 0 } : Room)).room s m ([.ref (ad 0), .int a1] : List Value).toArray below meth c s.heap [] 0 0 (MQ below (va_Qv post (kBR D ad cA cB) (kAR ad s.heap.size)) ([.ref (ad 0), .int a1] : List Value).toArray s 0 0 (kAR ad s.heap.size)) (F0 m 0 ls [])
  suffices k : W p l e (headSpec (Cond.code y_R_put c_R_put 2 none :: wsG) ({ frames := 0, cells := 0, slots := 0, locals := 0 } : Room)).room s m ([.ref (ad 0), .int a1] : List Value).toArray below meth c H [] 0 0 (MQ below (va_Qv post (kBR D ad cA cB) (kAR ad s.heap.size)) ([.ref (ad 0), .int a1] : List Value).toArray s 0 0 (kAR ad s.heap.size)) (F0 m 0 ls []) by rw [eH] at k; exact k
  refine lv_aload_n hx hb d_R_put_0 rfl (lv_at hl 0 rfl) ?_
  refine va_get (D := D) (ci := 4) (v := .ref (ad 20)) (C := RX4) (T := TX4) (N := 27) hx hb htg inG_X4 hown hK hP 0 rfl rfl 25 (by decide) (htg _ m_644) (fun _ h9 => h9) rfl d_R_put_1 ?_
  refine lv_aload_n hx hb d_R_put_4 rfl (lv_at hl 0 rfl) ?_
  refine va_get (D := D) (ci := 4) (v := .int (σ 0 6)) (C := RX4) (T := TX4) (N := 27) hx hb htg inG_X4 hown hK hP 0 rfl rfl 26 (by decide) (htg _ m_645) (fun _ h9 => h9) rfl d_R_put_5 ?_
  refine lv_iload_n hx hb d_R_put_8 rfl (lv_at hl 1 rfl) ?_
  have hi := h.1
  have h := h.2
  refine va_iast hx hb hK hP (hD _) hS 20 0 rfl rfl hi d_R_put_9 (fun H locs hP _ hS => ?_)
  obtain ⟨σ1, eσ1⟩ : ∃ z : S0, z = st σ 20 (σ 0 6).toNatClampNeg a1 := ⟨_, rfl⟩
  have hP : va_P D vwCl (wR ad cA cB σ1) H := by rw [eσ1]; exact hP
  have h := h σ1 eσ1
  refine lv_aload_n hx hb d_R_put_10 rfl (lv_at hl 0 rfl) ?_
  refine lv_dup hx hb d_R_put_11 rfl ?_
  refine va_get (D := D) (ci := 4) (v := .int (σ1 0 6)) (C := RX4) (T := TX4) (N := 27) hx hb htg inG_X4 hown hK hP 0 rfl rfl 26 (by decide) (htg _ m_645) (fun _ h9 => h9) rfl d_R_put_12 ?_
  refine lv_iconst (v := 1) hx hb d_R_put_15 (by decide) ?_
  refine lv_iadd hx hb d_R_put_16 ?_
  refine va_put (D := D) (ci := 4) (v := .int ((σ1 0 6) + 1)) (ty := .int) (C := RX4) (T := TX4) (N := 27) hx hb htg inG_X4 tyX4 tyX4_ok nmX4 hown hK hP (hD _) hS 0 rfl rfl 26 (by decide) (htg _ m_645) (fun _ h9 => h9) rfl (by decide +kernel) rfl rfl (Nat.le_of_ble_eq_true rfl) d_R_put_17 (fun H locs hP _ hS => ?_)
  obtain ⟨σ2, eσ2⟩ : ∃ z : S0, z = st σ1 0 6 ((σ1 0 6) + 1) := ⟨_, rfl⟩
  have hP : va_P D vwCl (wR ad cA cB σ2) H := by rw [eσ2]; exact hP
  have h := h σ2 eσ2
  exact W.vret hx hb hr (fun t ht hW => ⟨⟨σ2, rfl, h, kBR_of ht hP⟩, hS.F ht⟩) hS.2.2 d_R_put_20 hlocks
set_option maxHeartbeats 4000000 in
set_option maxRecDepth 100000 in
theorem met_R_point (l : Launch) (D : va_G) (ad : Nat → Nat) (cA cB : ClassId) (hap : kapR ad) (σ : S0) (sz : Nat) (a1 : Int32) (post : S0 → Prop) (h : Sp_R_point a1 σ post) : Met l y_R_point (Cond.code y_R_point c_R_point 2 none :: wsG) ({ frames := 1, cells := 0, slots := 0, locals := 21 } : Room) (kPcR D ad cA cB σ sz [.ref (ad 0), .int a1]) (va_Qv post (kBR D ad cA cB) (kAR ad sz)) 0 0 (kAR ad sz) := by
  refine Met.ofW (cc := c_R_point) (maxL := 2) (ret := none) (by decide) rfl ?_
  intro p e s m args below meth c s₁ B hml hv
  obtain ⟨rfl, hsz, hP, hK, hF⟩ := hv
  have hx := B.exec
  have hb := B.bytes
  have hr := B.returns
  have hts := atoms_spec (ws := (Cond.code y_R_point c_R_point 2 none :: wsG)) B.pre
  have htg : ∀ w ∈ wsG, w.before ([.ref (ad 0), .int a1] : List Value).toArray s = true := fun w h => hts w (List.mem_cons_of_mem _ h)
  have hown : s.vm.findClass RX4 = some m.cls := findClass_of_methodNamed B.named
  have hlocks := B.notSynchronized
  subst hsz
  have hD : ∀ σ, va_D (kAR ad s.heap.size) (wR ad cA cB σ) := fun σ => wR_D hap cA cB σ _
  have hS : va_S (kAR ad s.heap.size) s.heap s.heap [] := va_S.rf
  have hl := lv_entry ([.ref (ad 0), .int a1]) (n := 2) (Nat.le_of_ble_eq_true rfl)
  rw [lg_entry_eq]
  generalize (lg_sl ([.ref (ad 0), .int a1]) ++ List.replicate (2 - (lg_sl ([.ref (ad 0), .int a1])).length) Slot.unset).toArray = ls at hl ⊢
  have hl : lv_has ls 2 [(0, .ref (ad 0)), (1, .int a1)] := hl
  unfold Sp_R_point at h
  obtain ⟨H, eH⟩ : ∃ z, z = s.heap := ⟨_, rfl⟩
  have hP : va_P D vwCl (wR ad cA cB σ) H := by rw [eH]; exact hP
  have hS : va_S (kAR ad s.heap.size) s.heap H [] := by rw [eH]; exact hS
  show W p l e (headSpec (Cond.code y_R_point c_R_point 2 none :: wsG) ({ frames := 1, cells := 0, slots := 0, locals := 21 } : Room)).room s m ([.ref (ad 0), .int a1] : List Value).toArray below meth c s.heap [] 0 0 (MQ below (va_Qv post (kBR D ad cA cB) (kAR ad s.heap.size)) ([.ref (ad 0), .int a1] : List Value).toArray s 0 0 (kAR ad s.heap.size)) (F0 m 0 ls [])
  suffices k : W p l e (headSpec (Cond.code y_R_point c_R_point 2 none :: wsG) ({ frames := 1, cells := 0, slots := 0, locals := 21 } : Room)).room s m ([.ref (ad 0), .int a1] : List Value).toArray below meth c H [] 0 0 (MQ below (va_Qv post (kBR D ad cA cB) (kAR ad s.heap.size)) ([.ref (ad 0), .int a1] : List Value).toArray s 0 0 (kAR ad s.heap.size)) (F0 m 0 ls []) by rw [eH] at k; exact k
  refine lv_aload_n hx hb d_R_point_0 rfl (lv_at hl 0 rfl) ?_
  refine lv_bipush (v := 16) hx hb d_R_point_1 (by decide) ?_
  refine lv_aload_n hx hb d_R_point_3 rfl (lv_at hl 0 rfl) ?_
  refine va_get (D := D) (ci := 4) (v := .ref (ad 10)) (C := RX4) (T := TX4) (N := 27) hx hb htg inG_X4 hown hK hP 0 rfl rfl 12 (by decide) (htg _ m_631) (fun _ h9 => h9) rfl d_R_point_4 ?_
  refine lv_iload_n hx hb d_R_point_7 rfl (lv_at hl 1 rfl) ?_
  have hi := h.1
  have h := h.2
  refine va_iald hx hb hK hP 10 0 rfl rfl hi d_R_point_8 ?_
  refine lv_imul hx hb d_R_point_9 ?_
  refine kR_v (va_runV (As := [.int (16 * (σ 10 a1.toNatClampNeg))]) (rest := []) ⟨hx, hb, hml, hown, htg⟩ (met_R_put l D ad cA cB hap σ H.size (16 * (σ 10 a1.toNatClampNeg)) _ h) (cwV 1 htg (kG (kG_V m_836 m_838 m_50 m_57 (kG_self m_839))) rfl rfl rfl (by decide +kernel) ⟨Nat.le_of_ble_eq_true rfl, Nat.le_of_ble_eq_true rfl⟩) (kR_preV hK hF hP hS 0 rfl rfl _) rfl rfl hl.1 rfl (lv_room (Nat.le_of_ble_eq_true rfl)) d_R_point_10 ⟨Nat.le_of_ble_eq_true rfl, Nat.le_of_ble_eq_true rfl⟩) hS (fun σ1 H locs h hP hS => ?_)
  refine lv_aload_n hx hb d_R_point_13 rfl (lv_at hl 0 rfl) ?_
  refine lv_bipush (v := 16) hx hb d_R_point_14 (by decide) ?_
  refine lv_aload_n hx hb d_R_point_16 rfl (lv_at hl 0 rfl) ?_
  refine va_get (D := D) (ci := 4) (v := .ref (ad 8)) (C := RX4) (T := TX4) (N := 27) hx hb htg inG_X4 hown hK hP 0 rfl rfl 10 (by decide) (htg _ m_629) (fun _ h9 => h9) rfl d_R_point_17 ?_
  refine lv_iload_n hx hb d_R_point_20 rfl (lv_at hl 1 rfl) ?_
  have hi := h.1
  have h := h.2
  refine va_iald hx hb hK hP 8 0 rfl rfl hi d_R_point_21 ?_
  refine lv_imul hx hb d_R_point_22 ?_
  refine kR_v (va_runV (As := [.int (16 * (σ1 8 a1.toNatClampNeg))]) (rest := []) ⟨hx, hb, hml, hown, htg⟩ (met_R_put l D ad cA cB hap σ1 H.size (16 * (σ1 8 a1.toNatClampNeg)) _ h) (cwV 1 htg (kG (kG_V m_836 m_838 m_50 m_57 (kG_self m_839))) rfl rfl rfl (by decide +kernel) ⟨Nat.le_of_ble_eq_true rfl, Nat.le_of_ble_eq_true rfl⟩) (kR_preV hK hF hP hS 0 rfl rfl _) rfl rfl hl.1 rfl (lv_room (Nat.le_of_ble_eq_true rfl)) d_R_point_23 ⟨Nat.le_of_ble_eq_true rfl, Nat.le_of_ble_eq_true rfl⟩) hS (fun σ2 H locs h hP hS => ?_)
  exact W.vret hx hb hr (fun t ht hW => ⟨⟨σ2, rfl, h, kBR_of ht hP⟩, hS.F ht⟩) hS.2.2 d_R_point_26 hlocks
set_option maxHeartbeats 4000000 in
set_option maxRecDepth 100000 in
theorem met_R_write (l : Launch) (D : va_G) (ad : Nat → Nat) (cA cB : ClassId) (hap : kapR ad) (σ : S0) (sz : Nat) (post : S0 → Prop) (h : Sp_R_write  σ post) : Met l y_R_write (Cond.code y_R_write c_R_write 5 none :: wsG) ({ frames := 3, cells := 0, slots := 0, locals := 66 } : Room) (kPcR D ad cA cB σ sz [.ref (ad 0)]) (va_Qv post (kBR D ad cA cB) (kAR ad sz)) 0 0 (kAR ad sz) := by
  refine Met.ofW (cc := c_R_write) (maxL := 5) (ret := none) (by decide) rfl ?_
  intro p e s m args below meth c s₁ B hml hv
  obtain ⟨rfl, hsz, hP, hK, hF⟩ := hv
  have hx := B.exec
  have hb := B.bytes
  have hr := B.returns
  have hts := atoms_spec (ws := (Cond.code y_R_write c_R_write 5 none :: wsG)) B.pre
  have htg : ∀ w ∈ wsG, w.before ([.ref (ad 0)] : List Value).toArray s = true := fun w h => hts w (List.mem_cons_of_mem _ h)
  have hown : s.vm.findClass RX4 = some m.cls := findClass_of_methodNamed B.named
  have hlocks := B.notSynchronized
  subst hsz
  have hD : ∀ σ, va_D (kAR ad s.heap.size) (wR ad cA cB σ) := fun σ => wR_D hap cA cB σ _
  have hS : va_S (kAR ad s.heap.size) s.heap s.heap [] := va_S.rf
  have hl := lv_entry ([.ref (ad 0)]) (n := 5) (Nat.le_of_ble_eq_true rfl)
  rw [lg_entry_eq]
  generalize (lg_sl ([.ref (ad 0)]) ++ List.replicate (5 - (lg_sl ([.ref (ad 0)])).length) Slot.unset).toArray = ls at hl ⊢
  have hl : lv_has ls 5 [(0, .ref (ad 0))] := hl
  unfold Sp_R_write at h
  obtain ⟨G12, hG12⟩ : ∃ G : Int32 → Int32 → S0 → Prop, G = fun (x1 x2 : Int32) (σ : S0) => ∀ (H : Heap) (locs : List Loc) (ls : Array Slot), va_P D vwCl (wR ad cA cB σ) H → va_S (kAR ad s.heap.size) s.heap H locs → lv_has ls 5 [(0, .ref (ad 0)), (1, .int x1), (2, .int x2)] → W p l e (headSpec (Cond.code y_R_write c_R_write 5 none :: wsG) ({ frames := 3, cells := 0, slots := 0, locals := 66 } : Room)).room s m ([.ref (ad 0)] : List Value).toArray below meth c H locs 0 0 (MQ below (va_Qv post (kBR D ad cA cB) (kAR ad s.heap.size)) ([.ref (ad 0)] : List Value).toArray s 0 0 (kAR ad s.heap.size)) (F0 m 12 ls []) := ⟨_, rfl⟩
  obtain ⟨G19, hG19⟩ : ∃ G : Int32 → Int32 → Int32 → S0 → Prop, G = fun (x1 x2 x3 : Int32) (σ : S0) => ∀ (H : Heap) (locs : List Loc) (ls : Array Slot), va_P D vwCl (wR ad cA cB σ) H → va_S (kAR ad s.heap.size) s.heap H locs → lv_has ls 5 [(0, .ref (ad 0)), (1, .int x1), (2, .int x2), (3, .int x3)] → W p l e (headSpec (Cond.code y_R_write c_R_write 5 none :: wsG) ({ frames := 3, cells := 0, slots := 0, locals := 66 } : Room)).room s m ([.ref (ad 0)] : List Value).toArray below meth c H locs 0 0 (MQ below (va_Qv post (kBR D ad cA cB) (kAR ad s.heap.size)) ([.ref (ad 0)] : List Value).toArray s 0 0 (kAR ad s.heap.size)) (F0 m 19 ls []) := ⟨_, rfl⟩
  obtain ⟨G29, hG29⟩ : ∃ G : Int32 → Int32 → Int32 → Int32 → S0 → Prop, G = fun (x1 x2 x3 x4 : Int32) (σ : S0) => ∀ (H : Heap) (locs : List Loc) (ls : Array Slot), va_P D vwCl (wR ad cA cB σ) H → va_S (kAR ad s.heap.size) s.heap H locs → lv_has ls 5 [(0, .ref (ad 0)), (1, .int x1), (2, .int x2), (3, .int x3), (4, .int x4)] → W p l e (headSpec (Cond.code y_R_write c_R_write 5 none :: wsG) ({ frames := 3, cells := 0, slots := 0, locals := 66 } : Room)).room s m ([.ref (ad 0)] : List Value).toArray below meth c H locs 0 0 (MQ below (va_Qv post (kBR D ad cA cB) (kAR ad s.heap.size)) ([.ref (ad 0)] : List Value).toArray s 0 0 (kAR ad s.heap.size)) (F0 m 29 ls []) := ⟨_, rfl⟩
  obtain ⟨G98, hG98⟩ : ∃ G : Int32 → S0 → Prop, G = fun (x2 : Int32) (σ : S0) => ∀ (H : Heap) (locs : List Loc) (ls : Array Slot), va_P D vwCl (wR ad cA cB σ) H → va_S (kAR ad s.heap.size) s.heap H locs → lv_has ls 5 [(0, .ref (ad 0)), (2, .int x2)] → W p l e (headSpec (Cond.code y_R_write c_R_write 5 none :: wsG) ({ frames := 3, cells := 0, slots := 0, locals := 66 } : Room)).room s m ([.ref (ad 0)] : List Value).toArray below meth c H locs 0 0 (MQ below (va_Qv post (kBR D ad cA cB) (kAR ad s.heap.size)) ([.ref (ad 0)] : List Value).toArray s 0 0 (kAR ad s.heap.size)) (F0 m 98 ls []) := ⟨_, rfl⟩
  obtain ⟨G134, hG134⟩ : ∃ G : Int32 → Int32 → S0 → Prop, G = fun (x2 x3 : Int32) (σ : S0) => ∀ (H : Heap) (locs : List Loc) (ls : Array Slot), va_P D vwCl (wR ad cA cB σ) H → va_S (kAR ad s.heap.size) s.heap H locs → lv_has ls 5 [(0, .ref (ad 0)), (2, .int x2), (3, .int x3)] → W p l e (headSpec (Cond.code y_R_write c_R_write 5 none :: wsG) ({ frames := 3, cells := 0, slots := 0, locals := 66 } : Room)).room s m ([.ref (ad 0)] : List Value).toArray below meth c H locs 0 0 (MQ below (va_Qv post (kBR D ad cA cB) (kAR ad s.heap.size)) ([.ref (ad 0)] : List Value).toArray s 0 0 (kAR ad s.heap.size)) (F0 m 134 ls []) := ⟨_, rfl⟩
  have h := h G12 G19 G29 G98 G134
  have h := h (by
    intro x1 x2 σ h
    rw [hG12]
    intro H locs ls hP hS hl
    refine lv_iload_n hx hb d_R_write_12 rfl (lv_at hl 2 rfl) ?_
    refine lv_iload_n hx hb d_R_write_13 rfl (lv_at hl 1 rfl) ?_
    refine lv_icmp_gt (tgt := 96) hx hb d_R_write_14 (by decide) (fun cn => ?_) (fun cn => ?_)
    · have h := h.1 cn
      refine lv_iconst (v := 0) hx hb d_R_write_96 (by decide) ?_
      refine lv_istore_n (lv' := [(2, .int 0), (0, .ref (ad 0)), (1, .int x1)]) hx hb d_R_write_97 rfl hl (by decide) rfl (fun ls hl => ?_)
      rw [hG98] at h
      exact h _ _ _ hP hS (lv_sub hl [1, 0] rfl)
    · have h := h.2 cn
      refine lv_iconst (v := 0) hx hb d_R_write_17 (by decide) ?_
      refine lv_istore_n (lv' := [(3, .int 0), (0, .ref (ad 0)), (1, .int x1), (2, .int x2)]) hx hb d_R_write_18 rfl hl (by decide) rfl (fun ls hl => ?_)
      rw [hG19] at h
      exact h _ _ _ hP hS (lv_sub hl [1, 2, 3, 0] rfl))
  have h := h (by
    intro x1 x2 x3 σ h
    rw [hG19]
    intro H locs ls hP hS hl
    refine lv_iload_n hx hb d_R_write_19 rfl (lv_at hl 3 rfl) ?_
    refine lv_sipush (v := 166) hx hb d_R_write_20 (by decide) ?_
    refine lv_icmp_ge (tgt := 90) hx hb d_R_write_23 (by decide) (fun cn => ?_) (fun cn => ?_)
    · have h := h.1 cn
      refine lv_iinc (v := (x2 + 1)) (lv' := [(2, .int (x2 + 1)), (0, .ref (ad 0)), (1, .int x1), (3, .int x3)]) hx hb d_R_write_90 hl (k := 2) rfl rfl (by decide) rfl (fun ls hl => ?_)
      refine lv_goto (tgt := 12) hx hb d_R_write_93 (by decide) ?_
      rw [hG12] at h
      exact h _ _ _ hP hS (lv_sub hl [1, 2, 0] rfl)
    · have h := h.2 cn
      refine lv_iconst (v := 0) hx hb d_R_write_26 (by decide) ?_
      refine lv_istore (lv' := [(4, .int 0), (0, .ref (ad 0)), (1, .int x1), (2, .int x2), (3, .int x3)]) hx hb d_R_write_27 hl (by decide) rfl (fun ls hl => ?_)
      rw [hG29] at h
      exact h _ _ _ hP hS (lv_sub hl [1, 2, 3, 4, 0] rfl))
  have h := h (by
    intro x1 x2 x3 x4 σ h
    rw [hG29]
    intro H locs ls hP hS hl
    refine lv_iload hx hb d_R_write_29 (lv_at hl 4 rfl) ?_
    refine lv_bipush (v := 16) hx hb d_R_write_31 (by decide) ?_
    refine lv_icmp_ge (tgt := 84) hx hb d_R_write_33 (by decide) (fun cn => ?_) (fun cn => ?_)
    · have h := h.1 cn
      refine lv_iinc (v := (x3 + 1)) (lv' := [(3, .int (x3 + 1)), (0, .ref (ad 0)), (1, .int x1), (2, .int x2), (4, .int x4)]) hx hb d_R_write_84 hl (k := 3) rfl rfl (by decide) rfl (fun ls hl => ?_)
      refine lv_goto (tgt := 19) hx hb d_R_write_87 (by decide) ?_
      rw [hG19] at h
      exact h _ _ _ hP hS (lv_sub hl [1, 2, 3, 0] rfl)
    · have h := h.2 cn
      refine lv_aload_n hx hb d_R_write_36 rfl (lv_at hl 0 rfl) ?_
      refine va_get (D := D) (ci := 4) (v := .ref (ad 8)) (C := RX4) (T := TX4) (N := 27) hx hb htg inG_X4 hown hK hP 0 rfl rfl 10 (by decide) (htg _ m_629) (fun _ h9 => h9) rfl d_R_write_37 ?_
      refine lv_iload hx hb d_R_write_40 (lv_at hl 4 rfl) ?_
      have hi := h.1
      have h := h.2
      refine va_iald hx hb hK hP 8 0 rfl rfl hi d_R_write_42 ?_
      refine lv_iload_n hx hb d_R_write_43 rfl (lv_at hl 2 rfl) ?_
      refine lv_icmp_ne (tgt := 78) hx hb d_R_write_44 (by decide) (fun cn => ?_) (fun cn => ?_)
      · have h := h.1 cn
        refine lv_iinc (v := (x4 + 1)) (lv' := [(4, .int (x4 + 1)), (0, .ref (ad 0)), (1, .int x1), (2, .int x2), (3, .int x3)]) hx hb d_R_write_78 hl (k := 4) rfl rfl (by decide) rfl (fun ls hl => ?_)
        refine lv_goto (tgt := 29) hx hb d_R_write_81 (by decide) ?_
        rw [hG29] at h
        exact h _ _ _ hP hS (lv_sub hl [1, 2, 3, 4, 0] rfl)
      · have h := h.2 cn
        refine lv_aload_n hx hb d_R_write_47 rfl (lv_at hl 0 rfl) ?_
        refine va_get (D := D) (ci := 4) (v := .ref (ad 10)) (C := RX4) (T := TX4) (N := 27) hx hb htg inG_X4 hown hK hP 0 rfl rfl 12 (by decide) (htg _ m_631) (fun _ h9 => h9) rfl d_R_write_48 ?_
        refine lv_iload hx hb d_R_write_51 (lv_at hl 4 rfl) ?_
        have hi := h.1
        have h := h.2
        refine va_iald hx hb hK hP 10 0 rfl rfl hi d_R_write_53 ?_
        refine lv_iload_n hx hb d_R_write_54 rfl (lv_at hl 3 rfl) ?_
        refine lv_icmp_eq (tgt := 61) hx hb d_R_write_55 (by decide) (fun cn => ?_) (fun cn => ?_)
        · have h := h.1 cn
          refine lv_aload_n hx hb d_R_write_61 rfl (lv_at hl 0 rfl) ?_
          refine lv_iconst (v := 1) hx hb d_R_write_62 (by decide) ?_
          refine kR_v (va_runV (As := [.int 1]) (rest := []) ⟨hx, hb, hml, hown, htg⟩ (met_R_put l D ad cA cB hap σ H.size 1 _ h) (cwV 1 htg (kG (kG_V m_836 m_838 m_50 m_57 (kG_self m_839))) rfl rfl rfl (by decide +kernel) ⟨Nat.le_of_ble_eq_true rfl, Nat.le_of_ble_eq_true rfl⟩) (kR_preV hK hF hP hS 0 rfl rfl _) rfl rfl hl.1 rfl (lv_room (Nat.le_of_ble_eq_true rfl)) d_R_write_63 ⟨Nat.le_of_ble_eq_true rfl, Nat.le_of_ble_eq_true rfl⟩) hS (fun σ13 H locs h hP hS => ?_)
          refine lv_aload_n hx hb d_R_write_66 rfl (lv_at hl 0 rfl) ?_
          refine lv_iload hx hb d_R_write_67 (lv_at hl 4 rfl) ?_
          refine kR_v (va_runV (As := [.int x4]) (rest := []) ⟨hx, hb, hml, hown, htg⟩ (met_R_put l D ad cA cB hap σ13 H.size x4 _ h) (cwV 1 htg (kG (kG_V m_836 m_838 m_50 m_57 (kG_self m_839))) rfl rfl rfl (by decide +kernel) ⟨Nat.le_of_ble_eq_true rfl, Nat.le_of_ble_eq_true rfl⟩) (kR_preV hK hF hP hS 0 rfl rfl _) rfl rfl hl.1 rfl (lv_room (Nat.le_of_ble_eq_true rfl)) d_R_write_69 ⟨Nat.le_of_ble_eq_true rfl, Nat.le_of_ble_eq_true rfl⟩) hS (fun σ14 H locs h hP hS => ?_)
          refine lv_aload_n hx hb d_R_write_72 rfl (lv_at hl 0 rfl) ?_
          refine lv_iload hx hb d_R_write_73 (lv_at hl 4 rfl) ?_
          refine kR_v (va_runV (As := [.int x4]) (rest := []) ⟨hx, hb, hml, hown, htg⟩ (met_R_point l D ad cA cB hap σ14 H.size x4 _ h) (cwV 1 htg (kG (kG_V m_840 m_842 m_51 m_57 (kG_self m_843))) rfl rfl rfl (by decide +kernel) ⟨Nat.le_of_ble_eq_true rfl, Nat.le_of_ble_eq_true rfl⟩) (kR_preV hK hF hP hS 0 rfl rfl _) rfl rfl hl.1 rfl (lv_room (Nat.le_of_ble_eq_true rfl)) d_R_write_75 ⟨Nat.le_of_ble_eq_true rfl, Nat.le_of_ble_eq_true rfl⟩) hS (fun σ15 H locs h hP hS => ?_)
          refine lv_iinc (v := (x4 + 1)) (lv' := [(4, .int (x4 + 1)), (0, .ref (ad 0)), (1, .int x1), (2, .int x2), (3, .int x3)]) hx hb d_R_write_78 hl (k := 4) rfl rfl (by decide) rfl (fun ls hl => ?_)
          refine lv_goto (tgt := 29) hx hb d_R_write_81 (by decide) ?_
          rw [hG29] at h
          exact h _ _ _ hP hS (lv_sub hl [1, 2, 3, 4, 0] rfl)
        · have h := h.2 cn
          refine lv_goto (tgt := 78) hx hb d_R_write_58 (by decide) ?_
          refine lv_iinc (v := (x4 + 1)) (lv' := [(4, .int (x4 + 1)), (0, .ref (ad 0)), (1, .int x1), (2, .int x2), (3, .int x3)]) hx hb d_R_write_78 hl (k := 4) rfl rfl (by decide) rfl (fun ls hl => ?_)
          refine lv_goto (tgt := 29) hx hb d_R_write_81 (by decide) ?_
          rw [hG29] at h
          exact h _ _ _ hP hS (lv_sub hl [1, 2, 3, 4, 0] rfl))
  have h := h (by
    intro x2 σ h
    rw [hG98]
    intro H locs ls hP hS hl
    refine lv_iload_n hx hb d_R_write_98 rfl (lv_at hl 1 rfl) ?_
    refine lv_aload_n hx hb d_R_write_99 rfl (lv_at hl 0 rfl) ?_
    refine va_get (D := D) (ci := 4) (v := .int (σ 0 5)) (C := RX4) (T := TX4) (N := 27) hx hb htg inG_X4 hown hK hP 0 rfl rfl 20 (by decide) (htg _ m_639) (fun _ h9 => h9) rfl d_R_write_100 ?_
    refine lv_icmp_ge (tgt := 177) hx hb d_R_write_103 (by decide) (fun cn => ?_) (fun cn => ?_)
    · have h := h.1 cn
      exact W.vret hx hb hr (fun t ht hW => ⟨⟨σ, rfl, h, kBR_of ht hP⟩, hS.F ht⟩) hS.2.2 d_R_write_177 hlocks
    · have h := h.2 cn
      refine lv_aload_n hx hb d_R_write_106 rfl (lv_at hl 0 rfl) ?_
      refine lv_iconst (v := 2) hx hb d_R_write_107 (by decide) ?_
      refine kR_v (va_runV (As := [.int 2]) (rest := []) ⟨hx, hb, hml, hown, htg⟩ (met_R_put l D ad cA cB hap σ H.size 2 _ h) (cwV 1 htg (kG (kG_V m_836 m_838 m_50 m_57 (kG_self m_839))) rfl rfl rfl (by decide +kernel) ⟨Nat.le_of_ble_eq_true rfl, Nat.le_of_ble_eq_true rfl⟩) (kR_preV hK hF hP hS 0 rfl rfl _) rfl rfl hl.1 rfl (lv_room (Nat.le_of_ble_eq_true rfl)) d_R_write_108 ⟨Nat.le_of_ble_eq_true rfl, Nat.le_of_ble_eq_true rfl⟩) hS (fun σ4 H locs h hP hS => ?_)
      refine lv_aload_n hx hb d_R_write_111 rfl (lv_at hl 0 rfl) ?_
      refine lv_aload_n hx hb d_R_write_112 rfl (lv_at hl 0 rfl) ?_
      refine lv_iload_n hx hb d_R_write_113 rfl (lv_at hl 1 rfl) ?_
      refine kR_i (va_runV (As := [.int x2]) (rest := [.ref (ad 0)]) ⟨hx, hb, hml, hown, htg⟩ (met_R_bendsOf l D ad cA cB hap σ4 H.size x2 _ h) (cwV 1 htg (kG (kG_V m_796 m_798 m_40 m_57 (kG_self m_799))) rfl rfl rfl (by decide +kernel) ⟨Nat.le_of_ble_eq_true rfl, Nat.le_of_ble_eq_true rfl⟩) (kR_preV hK hF hP hS 0 rfl rfl _) rfl rfl hl.1 rfl (lv_room (Nat.le_of_ble_eq_true rfl)) d_R_write_114 ⟨Nat.le_of_ble_eq_true rfl, Nat.le_of_ble_eq_true rfl⟩) hS (fun r6 σ5 H locs h hP hS => ?_)
      refine lv_iconst (v := 2) hx hb d_R_write_117 (by decide) ?_
      refine lv_iadd hx hb d_R_write_118 ?_
      refine kR_v (va_runV (As := [.int (r6 + 2)]) (rest := []) ⟨hx, hb, hml, hown, htg⟩ (met_R_put l D ad cA cB hap σ5 H.size (r6 + 2) _ h) (cwV 1 htg (kG (kG_V m_836 m_838 m_50 m_57 (kG_self m_839))) rfl rfl rfl (by decide +kernel) ⟨Nat.le_of_ble_eq_true rfl, Nat.le_of_ble_eq_true rfl⟩) (kR_preV hK hF hP hS 0 rfl rfl _) rfl rfl hl.1 rfl (lv_room (Nat.le_of_ble_eq_true rfl)) d_R_write_119 ⟨Nat.le_of_ble_eq_true rfl, Nat.le_of_ble_eq_true rfl⟩) hS (fun σ7 H locs h hP hS => ?_)
      refine lv_aload_n hx hb d_R_write_122 rfl (lv_at hl 0 rfl) ?_
      refine lv_aload_n hx hb d_R_write_123 rfl (lv_at hl 0 rfl) ?_
      refine va_get (D := D) (ci := 4) (v := .ref (ad 13)) (C := RX4) (T := TX4) (N := 27) hx hb htg inG_X4 hown hK hP 0 rfl rfl 17 (by decide) (htg _ m_636) (fun _ h9 => h9) rfl d_R_write_124 ?_
      refine lv_iload_n hx hb d_R_write_127 rfl (lv_at hl 1 rfl) ?_
      have hi := h.1
      have h := h.2
      refine va_iald hx hb hK hP 13 0 rfl rfl hi d_R_write_128 ?_
      refine kR_v (va_runV (As := [.int (σ7 13 x2.toNatClampNeg)]) (rest := []) ⟨hx, hb, hml, hown, htg⟩ (met_R_point l D ad cA cB hap σ7 H.size (σ7 13 x2.toNatClampNeg) _ h) (cwV 1 htg (kG (kG_V m_840 m_842 m_51 m_57 (kG_self m_843))) rfl rfl rfl (by decide +kernel) ⟨Nat.le_of_ble_eq_true rfl, Nat.le_of_ble_eq_true rfl⟩) (kR_preV hK hF hP hS 0 rfl rfl _) rfl rfl hl.1 rfl (lv_room (Nat.le_of_ble_eq_true rfl)) d_R_write_129 ⟨Nat.le_of_ble_eq_true rfl, Nat.le_of_ble_eq_true rfl⟩) hS (fun σ8 H locs h hP hS => ?_)
      refine lv_iconst (v := 0) hx hb d_R_write_132 (by decide) ?_
      refine lv_istore_n (lv' := [(3, .int 0), (0, .ref (ad 0)), (2, .int x2)]) hx hb d_R_write_133 rfl hl (by decide) rfl (fun ls hl => ?_)
      rw [hG134] at h
      exact h _ _ _ hP hS (lv_sub hl [1, 2, 0] rfl))
  have h := h (by
    intro x2 x3 σ h
    rw [hG134]
    intro H locs ls hP hS hl
    refine lv_iload_n hx hb d_R_write_134 rfl (lv_at hl 2 rfl) ?_
    refine lv_aload_n hx hb d_R_write_135 rfl (lv_at hl 0 rfl) ?_
    refine lv_iload_n hx hb d_R_write_136 rfl (lv_at hl 1 rfl) ?_
    refine kR_i (va_runV (As := [.int x2]) (rest := [.int x3]) ⟨hx, hb, hml, hown, htg⟩ (met_R_bendsOf l D ad cA cB hap σ H.size x2 _ h) (cwV 1 htg (kG (kG_V m_796 m_798 m_40 m_57 (kG_self m_799))) rfl rfl rfl (by decide +kernel) ⟨Nat.le_of_ble_eq_true rfl, Nat.le_of_ble_eq_true rfl⟩) (kR_preV hK hF hP hS 0 rfl rfl _) rfl rfl hl.1 rfl (lv_room (Nat.le_of_ble_eq_true rfl)) d_R_write_137 ⟨Nat.le_of_ble_eq_true rfl, Nat.le_of_ble_eq_true rfl⟩) hS (fun r10 σ9 H locs h hP hS => ?_)
    refine lv_icmp_ge (tgt := 161) hx hb d_R_write_140 (by decide) (fun cn => ?_) (fun cn => ?_)
    · have h := h.1 cn
      refine lv_aload_n hx hb d_R_write_161 rfl (lv_at hl 0 rfl) ?_
      refine lv_aload_n hx hb d_R_write_162 rfl (lv_at hl 0 rfl) ?_
      refine va_get (D := D) (ci := 4) (v := .ref (ad 14)) (C := RX4) (T := TX4) (N := 27) hx hb htg inG_X4 hown hK hP 0 rfl rfl 18 (by decide) (htg _ m_637) (fun _ h9 => h9) rfl d_R_write_163 ?_
      refine lv_iload_n hx hb d_R_write_166 rfl (lv_at hl 1 rfl) ?_
      have hi := h.1
      have h := h.2
      refine va_iald hx hb hK hP 14 0 rfl rfl hi d_R_write_167 ?_
      refine kR_v (va_runV (As := [.int (σ9 14 x2.toNatClampNeg)]) (rest := []) ⟨hx, hb, hml, hown, htg⟩ (met_R_point l D ad cA cB hap σ9 H.size (σ9 14 x2.toNatClampNeg) _ h) (cwV 1 htg (kG (kG_V m_840 m_842 m_51 m_57 (kG_self m_843))) rfl rfl rfl (by decide +kernel) ⟨Nat.le_of_ble_eq_true rfl, Nat.le_of_ble_eq_true rfl⟩) (kR_preV hK hF hP hS 0 rfl rfl _) rfl rfl hl.1 rfl (lv_room (Nat.le_of_ble_eq_true rfl)) d_R_write_168 ⟨Nat.le_of_ble_eq_true rfl, Nat.le_of_ble_eq_true rfl⟩) hS (fun σ11 H locs h hP hS => ?_)
      refine lv_iinc (v := (x2 + 1)) (lv' := [(2, .int (x2 + 1)), (0, .ref (ad 0)), (3, .int x3)]) hx hb d_R_write_171 hl (k := 1) rfl rfl (by decide) rfl (fun ls hl => ?_)
      refine lv_goto (tgt := 98) hx hb d_R_write_174 (by decide) ?_
      rw [hG98] at h
      exact h _ _ _ hP hS (lv_sub hl [1, 0] rfl)
    · have h := h.2 cn
      refine lv_aload_n hx hb d_R_write_143 rfl (lv_at hl 0 rfl) ?_
      refine lv_aload_n hx hb d_R_write_144 rfl (lv_at hl 0 rfl) ?_
      refine va_get (D := D) (ci := 4) (v := .ref (ad 15)) (C := RX4) (T := TX4) (N := 27) hx hb htg inG_X4 hown hK hP 0 rfl rfl 19 (by decide) (htg _ m_638) (fun _ h9 => h9) rfl d_R_write_145 ?_
      refine lv_iload_n hx hb d_R_write_148 rfl (lv_at hl 1 rfl) ?_
      have hi := h.1
      have h := h.2
      refine va_iald hx hb hK hP 15 0 rfl rfl hi d_R_write_149 ?_
      refine lv_iload_n hx hb d_R_write_150 rfl (lv_at hl 2 rfl) ?_
      refine lv_iadd hx hb d_R_write_151 ?_
      refine kR_v (va_runV (As := [.int ((σ9 15 x2.toNatClampNeg) + x3)]) (rest := []) ⟨hx, hb, hml, hown, htg⟩ (met_R_point l D ad cA cB hap σ9 H.size ((σ9 15 x2.toNatClampNeg) + x3) _ h) (cwV 1 htg (kG (kG_V m_840 m_842 m_51 m_57 (kG_self m_843))) rfl rfl rfl (by decide +kernel) ⟨Nat.le_of_ble_eq_true rfl, Nat.le_of_ble_eq_true rfl⟩) (kR_preV hK hF hP hS 0 rfl rfl _) rfl rfl hl.1 rfl (lv_room (Nat.le_of_ble_eq_true rfl)) d_R_write_152 ⟨Nat.le_of_ble_eq_true rfl, Nat.le_of_ble_eq_true rfl⟩) hS (fun σ12 H locs h hP hS => ?_)
      refine lv_iinc (v := (x3 + 1)) (lv' := [(3, .int (x3 + 1)), (0, .ref (ad 0)), (2, .int x2)]) hx hb d_R_write_155 hl (k := 2) rfl rfl (by decide) rfl (fun ls hl => ?_)
      refine lv_goto (tgt := 134) hx hb d_R_write_158 (by decide) ?_
      rw [hG134] at h
      exact h _ _ _ hP hS (lv_sub hl [1, 2, 0] rfl))
  obtain ⟨H, eH⟩ : ∃ z, z = s.heap := ⟨_, rfl⟩
  have hP : va_P D vwCl (wR ad cA cB σ) H := by rw [eH]; exact hP
  have hS : va_S (kAR ad s.heap.size) s.heap H [] := by rw [eH]; exact hS
  show W p l e (headSpec (Cond.code y_R_write c_R_write 5 none :: wsG) ({ frames := 3, cells := 0, slots := 0, locals := 66 } : Room)).room s m ([.ref (ad 0)] : List Value).toArray below meth c s.heap [] 0 0 (MQ below (va_Qv post (kBR D ad cA cB) (kAR ad s.heap.size)) ([.ref (ad 0)] : List Value).toArray s 0 0 (kAR ad s.heap.size)) (F0 m 0 ls [])
  suffices k : W p l e (headSpec (Cond.code y_R_write c_R_write 5 none :: wsG) ({ frames := 3, cells := 0, slots := 0, locals := 66 } : Room)).room s m ([.ref (ad 0)] : List Value).toArray below meth c H [] 0 0 (MQ below (va_Qv post (kBR D ad cA cB) (kAR ad s.heap.size)) ([.ref (ad 0)] : List Value).toArray s 0 0 (kAR ad s.heap.size)) (F0 m 0 ls []) by rw [eH] at k; exact k
  refine lv_aload_n hx hb d_R_write_0 rfl (lv_at hl 0 rfl) ?_
  refine lv_iconst (v := 0) hx hb d_R_write_1 (by decide) ?_
  refine va_put (D := D) (ci := 4) (v := .int 0) (ty := .int) (C := RX4) (T := TX4) (N := 27) hx hb htg inG_X4 tyX4 tyX4_ok nmX4 hown hK hP (hD _) hS 0 rfl rfl 26 (by decide) (htg _ m_645) (fun _ h9 => h9) rfl (by decide +kernel) rfl rfl (Nat.le_of_ble_eq_true rfl) d_R_write_2 (fun H locs hP _ hS => ?_)
  obtain ⟨σ1, eσ1⟩ : ∃ z : S0, z = st σ 0 6 0 := ⟨_, rfl⟩
  have hP : va_P D vwCl (wR ad cA cB σ1) H := by rw [eσ1]; exact hP
  have h := h σ1 eσ1
  refine lv_aload_n hx hb d_R_write_5 rfl (lv_at hl 0 rfl) ?_
  refine kR_i (va_runV (As := []) (rest := []) ⟨hx, hb, hml, hown, htg⟩ (met_R_lastRow l D ad cA cB hap σ1 H.size _ h) (cwV 0 htg (kG (kG_V m_820 m_822 m_46 m_57 (kG_self m_823))) rfl rfl rfl (by decide +kernel) ⟨Nat.le_of_ble_eq_true rfl, Nat.le_of_ble_eq_true rfl⟩) (kR_preV hK hF hP hS 0 rfl rfl _) rfl rfl hl.1 rfl (lv_room (Nat.le_of_ble_eq_true rfl)) d_R_write_6 ⟨Nat.le_of_ble_eq_true rfl, Nat.le_of_ble_eq_true rfl⟩) hS (fun r3 σ2 H locs h hP hS => ?_)
  refine lv_istore_n (lv' := [(1, .int r3), (0, .ref (ad 0))]) hx hb d_R_write_9 rfl hl (by decide) rfl (fun ls hl => ?_)
  refine lv_iconst (v := 0) hx hb d_R_write_10 (by decide) ?_
  refine lv_istore_n (lv' := [(2, .int 0), (1, .int r3), (0, .ref (ad 0))]) hx hb d_R_write_11 rfl hl (by decide) rfl (fun ls hl => ?_)
  rw [hG12] at h
  exact h _ _ _ hP hS (lv_sub hl [2, 1, 0] rfl)
set_option maxHeartbeats 4000000 in
set_option maxRecDepth 100000 in
theorem met_R_sort (l : Launch) (D : va_G) (ad : Nat → Nat) (cA cB : ClassId) (hap : kapR ad) (σ : S0) (sz : Nat) (a1 : Int32) (post : S0 → Prop) (h : Sp_R_sort a1 σ post) : Met l y_R_sort (Cond.code y_R_sort c_R_sort 5 none :: wsG) ({ frames := 0, cells := 0, slots := 0, locals := 0 } : Room) (kPcR D ad cA cB σ sz [.ref (ad 0), .int a1]) (va_Qv post (kBR D ad cA cB) (kAR ad sz)) 0 0 (kAR ad sz) := by
  refine Met.ofW (cc := c_R_sort) (maxL := 5) (ret := none) (by decide) rfl ?_
  intro p e s m args below meth c s₁ B hml hv
  obtain ⟨rfl, hsz, hP, hK, hF⟩ := hv
  have hx := B.exec
  have hb := B.bytes
  have hr := B.returns
  have hts := atoms_spec (ws := (Cond.code y_R_sort c_R_sort 5 none :: wsG)) B.pre
  have htg : ∀ w ∈ wsG, w.before ([.ref (ad 0), .int a1] : List Value).toArray s = true := fun w h => hts w (List.mem_cons_of_mem _ h)
  have hown : s.vm.findClass RX4 = some m.cls := findClass_of_methodNamed B.named
  have hlocks := B.notSynchronized
  subst hsz
  have hD : ∀ σ, va_D (kAR ad s.heap.size) (wR ad cA cB σ) := fun σ => wR_D hap cA cB σ _
  have hS : va_S (kAR ad s.heap.size) s.heap s.heap [] := va_S.rf
  have hl := lv_entry ([.ref (ad 0), .int a1]) (n := 5) (Nat.le_of_ble_eq_true rfl)
  rw [lg_entry_eq]
  generalize (lg_sl ([.ref (ad 0), .int a1]) ++ List.replicate (5 - (lg_sl ([.ref (ad 0), .int a1])).length) Slot.unset).toArray = ls at hl ⊢
  have hl : lv_has ls 5 [(0, .ref (ad 0)), (1, .int a1)] := hl
  unfold Sp_R_sort at h
  obtain ⟨G2, hG2⟩ : ∃ G : Int32 → Int32 → S0 → Prop, G = fun (x1 x2 : Int32) (σ : S0) => ∀ (H : Heap) (locs : List Loc) (ls : Array Slot), va_P D vwCl (wR ad cA cB σ) H → va_S (kAR ad s.heap.size) s.heap H locs → lv_has ls 5 [(0, .ref (ad 0)), (1, .int x1), (2, .int x2)] → W p l e (headSpec (Cond.code y_R_sort c_R_sort 5 none :: wsG) ({ frames := 0, cells := 0, slots := 0, locals := 0 } : Room)).room s m ([.ref (ad 0), .int a1] : List Value).toArray below meth c H locs 0 0 (MQ below (va_Qv post (kBR D ad cA cB) (kAR ad s.heap.size)) ([.ref (ad 0), .int a1] : List Value).toArray s 0 0 (kAR ad s.heap.size)) (F0 m 2 ls []) := ⟨_, rfl⟩
  obtain ⟨G17, hG17⟩ : ∃ G : Int32 → Int32 → Int32 → Int32 → S0 → Prop, G = fun (x1 x2 x3 x4 : Int32) (σ : S0) => ∀ (H : Heap) (locs : List Loc) (ls : Array Slot), va_P D vwCl (wR ad cA cB σ) H → va_S (kAR ad s.heap.size) s.heap H locs → lv_has ls 5 [(0, .ref (ad 0)), (1, .int x1), (2, .int x2), (3, .int x3), (4, .int x4)] → W p l e (headSpec (Cond.code y_R_sort c_R_sort 5 none :: wsG) ({ frames := 0, cells := 0, slots := 0, locals := 0 } : Room)).room s m ([.ref (ad 0), .int a1] : List Value).toArray below meth c H locs 0 0 (MQ below (va_Qv post (kBR D ad cA cB) (kAR ad s.heap.size)) ([.ref (ad 0), .int a1] : List Value).toArray s 0 0 (kAR ad s.heap.size)) (F0 m 17 ls []) := ⟨_, rfl⟩
  obtain ⟨G89, hG89⟩ : ∃ G : Int32 → Int32 → Int32 → Int32 → S0 → Prop, G = fun (x1 x2 x3 x4 : Int32) (σ : S0) => ∀ (H : Heap) (locs : List Loc) (ls : Array Slot), va_P D vwCl (wR ad cA cB σ) H → va_S (kAR ad s.heap.size) s.heap H locs → lv_has ls 5 [(0, .ref (ad 0)), (1, .int x1), (2, .int x2), (3, .int x3), (4, .int x4)] → W p l e (headSpec (Cond.code y_R_sort c_R_sort 5 none :: wsG) ({ frames := 0, cells := 0, slots := 0, locals := 0 } : Room)).room s m ([.ref (ad 0), .int a1] : List Value).toArray below meth c H locs 0 0 (MQ below (va_Qv post (kBR D ad cA cB) (kAR ad s.heap.size)) ([.ref (ad 0), .int a1] : List Value).toArray s 0 0 (kAR ad s.heap.size)) (F0 m 89 ls []) := ⟨_, rfl⟩
  have h := h G2 G17 G89
  have h := h (by
    intro x1 x2 σ h
    rw [hG2]
    intro H locs ls hP hS hl
    refine lv_iload_n hx hb d_R_sort_2 rfl (lv_at hl 2 rfl) ?_
    refine lv_iload_n hx hb d_R_sort_3 rfl (lv_at hl 1 rfl) ?_
    refine lv_icmp_ge (tgt := 103) hx hb d_R_sort_4 (by decide) (fun cn => ?_) (fun cn => ?_)
    · have h := h.1 cn
      exact W.vret hx hb hr (fun t ht hW => ⟨⟨σ, rfl, h, kBR_of ht hP⟩, hS.F ht⟩) hS.2.2 d_R_sort_103 hlocks
    · have h := h.2 cn
      refine lv_aload_n hx hb d_R_sort_7 rfl (lv_at hl 0 rfl) ?_
      refine va_get (D := D) (ci := 4) (v := .ref (ad 17)) (C := RX4) (T := TX4) (N := 27) hx hb htg inG_X4 hown hK hP 0 rfl rfl 22 (by decide) (htg _ m_641) (fun _ h9 => h9) rfl d_R_sort_8 ?_
      refine lv_iload_n hx hb d_R_sort_11 rfl (lv_at hl 2 rfl) ?_
      have hi := h.1
      have h := h.2
      refine va_iald hx hb hK hP 17 0 rfl rfl hi d_R_sort_12 ?_
      refine lv_topi (fun v1 ev1 => ?_)
      have h := h v1 ev1
      refine lv_istore_n (lv' := [(3, .int v1), (0, .ref (ad 0)), (1, .int x1), (2, .int x2)]) hx hb d_R_sort_13 rfl hl (by decide) rfl (fun ls hl => ?_)
      refine lv_iload_n hx hb d_R_sort_14 rfl (lv_at hl 3 rfl) ?_
      refine lv_istore (lv' := [(4, .int x2), (3, .int v1), (0, .ref (ad 0)), (1, .int x1), (2, .int x2)]) hx hb d_R_sort_15 hl (by decide) rfl (fun ls hl => ?_)
      rw [hG17] at h
      exact h _ _ _ hP hS (lv_sub hl [2, 3, 4, 1, 0] rfl))
  have h := h (by
    intro x1 x2 x3 x4 σ h
    rw [hG17]
    intro H locs ls hP hS hl
    refine lv_iload hx hb d_R_sort_17 (lv_at hl 4 rfl) ?_
    refine lv_if_le (tgt := 89) hx hb d_R_sort_19 (by decide) (fun cn => ?_) (fun cn => ?_)
    · have h := h.1 cn
      rw [hG89] at h
      exact h _ _ _ hP hS (lv_sub hl [0, 1, 2, 3, 4] rfl)
    · have h := h.2 cn
      refine lv_aload_n hx hb d_R_sort_22 rfl (lv_at hl 0 rfl) ?_
      refine va_get (D := D) (ci := 4) (v := .ref (ad 18)) (C := RX4) (T := TX4) (N := 27) hx hb htg inG_X4 hown hK hP 0 rfl rfl 23 (by decide) (htg _ m_642) (fun _ h9 => h9) rfl d_R_sort_23 ?_
      refine lv_iload_n hx hb d_R_sort_26 rfl (lv_at hl 3 rfl) ?_
      have hi := h.1
      have h := h.2
      refine va_iald hx hb hK hP 18 0 rfl rfl hi d_R_sort_27 ?_
      refine lv_aload_n hx hb d_R_sort_28 rfl (lv_at hl 0 rfl) ?_
      refine va_get (D := D) (ci := 4) (v := .ref (ad 19)) (C := RX4) (T := TX4) (N := 27) hx hb htg inG_X4 hown hK hP 0 rfl rfl 24 (by decide) (htg _ m_643) (fun _ h9 => h9) rfl d_R_sort_29 ?_
      refine lv_aload_n hx hb d_R_sort_32 rfl (lv_at hl 0 rfl) ?_
      refine va_get (D := D) (ci := 4) (v := .ref (ad 17)) (C := RX4) (T := TX4) (N := 27) hx hb htg inG_X4 hown hK hP 0 rfl rfl 22 (by decide) (htg _ m_641) (fun _ h9 => h9) rfl d_R_sort_33 ?_
      refine lv_iload hx hb d_R_sort_36 (lv_at hl 4 rfl) ?_
      refine lv_iconst (v := 1) hx hb d_R_sort_38 (by decide) ?_
      refine lv_isub hx hb d_R_sort_39 ?_
      have hi := h.1
      have h := h.2
      refine va_iald hx hb hK hP 17 0 rfl rfl hi d_R_sort_40 ?_
      have hi := h.1
      have h := h.2
      refine va_iald hx hb hK hP 19 0 rfl rfl hi d_R_sort_41 ?_
      refine lv_imul hx hb d_R_sort_42 ?_
      refine lv_aload_n hx hb d_R_sort_43 rfl (lv_at hl 0 rfl) ?_
      refine va_get (D := D) (ci := 4) (v := .ref (ad 18)) (C := RX4) (T := TX4) (N := 27) hx hb htg inG_X4 hown hK hP 0 rfl rfl 23 (by decide) (htg _ m_642) (fun _ h9 => h9) rfl d_R_sort_44 ?_
      refine lv_aload_n hx hb d_R_sort_47 rfl (lv_at hl 0 rfl) ?_
      refine va_get (D := D) (ci := 4) (v := .ref (ad 17)) (C := RX4) (T := TX4) (N := 27) hx hb htg inG_X4 hown hK hP 0 rfl rfl 22 (by decide) (htg _ m_641) (fun _ h9 => h9) rfl d_R_sort_48 ?_
      refine lv_iload hx hb d_R_sort_51 (lv_at hl 4 rfl) ?_
      refine lv_iconst (v := 1) hx hb d_R_sort_53 (by decide) ?_
      refine lv_isub hx hb d_R_sort_54 ?_
      have hi := h.1
      have h := h.2
      refine va_iald hx hb hK hP 17 0 rfl rfl hi d_R_sort_55 ?_
      have hi := h.1
      have h := h.2
      refine va_iald hx hb hK hP 18 0 rfl rfl hi d_R_sort_56 ?_
      refine lv_aload_n hx hb d_R_sort_57 rfl (lv_at hl 0 rfl) ?_
      refine va_get (D := D) (ci := 4) (v := .ref (ad 19)) (C := RX4) (T := TX4) (N := 27) hx hb htg inG_X4 hown hK hP 0 rfl rfl 24 (by decide) (htg _ m_643) (fun _ h9 => h9) rfl d_R_sort_58 ?_
      refine lv_iload_n hx hb d_R_sort_61 rfl (lv_at hl 3 rfl) ?_
      have hi := h.1
      have h := h.2
      refine va_iald hx hb hK hP 19 0 rfl rfl hi d_R_sort_62 ?_
      refine lv_imul hx hb d_R_sort_63 ?_
      refine lv_icmp_ge (tgt := 89) hx hb d_R_sort_64 (by decide) (fun cn => ?_) (fun cn => ?_)
      · have h := h.1 cn
        rw [hG89] at h
        exact h _ _ _ hP hS (lv_sub hl [0, 1, 2, 3, 4] rfl)
      · have h := h.2 cn
        refine lv_aload_n hx hb d_R_sort_67 rfl (lv_at hl 0 rfl) ?_
        refine va_get (D := D) (ci := 4) (v := .ref (ad 17)) (C := RX4) (T := TX4) (N := 27) hx hb htg inG_X4 hown hK hP 0 rfl rfl 22 (by decide) (htg _ m_641) (fun _ h9 => h9) rfl d_R_sort_68 ?_
        refine lv_iload hx hb d_R_sort_71 (lv_at hl 4 rfl) ?_
        refine lv_aload_n hx hb d_R_sort_73 rfl (lv_at hl 0 rfl) ?_
        refine va_get (D := D) (ci := 4) (v := .ref (ad 17)) (C := RX4) (T := TX4) (N := 27) hx hb htg inG_X4 hown hK hP 0 rfl rfl 22 (by decide) (htg _ m_641) (fun _ h9 => h9) rfl d_R_sort_74 ?_
        refine lv_iload hx hb d_R_sort_77 (lv_at hl 4 rfl) ?_
        refine lv_iconst (v := 1) hx hb d_R_sort_79 (by decide) ?_
        refine lv_isub hx hb d_R_sort_80 ?_
        have hi := h.1
        have h := h.2
        refine va_iald hx hb hK hP 17 0 rfl rfl hi d_R_sort_81 ?_
        have hi := h.1
        have h := h.2
        refine va_iast hx hb hK hP (hD _) hS 17 0 rfl rfl hi d_R_sort_82 (fun H locs hP _ hS => ?_)
        obtain ⟨σ2, eσ2⟩ : ∃ z : S0, z = st σ 17 x4.toNatClampNeg (σ 17 (x4 - 1).toNatClampNeg) := ⟨_, rfl⟩
        have hP : va_P D vwCl (wR ad cA cB σ2) H := by rw [eσ2]; exact hP
        have h := h σ2 eσ2
        refine lv_iinc (v := (x4 + (-1))) (lv' := [(4, .int (x4 + (-1))), (0, .ref (ad 0)), (1, .int x1), (2, .int x2), (3, .int x3)]) hx hb d_R_sort_83 hl (k := 4) rfl rfl (by decide) rfl (fun ls hl => ?_)
        refine lv_goto (tgt := 17) hx hb d_R_sort_86 (by decide) ?_
        rw [hG17] at h
        exact h _ _ _ hP hS (lv_sub hl [1, 2, 3, 4, 0] rfl))
  have h := h (by
    intro x1 x2 x3 x4 σ h
    rw [hG89]
    intro H locs ls hP hS hl
    refine lv_aload_n hx hb d_R_sort_89 rfl (lv_at hl 0 rfl) ?_
    refine va_get (D := D) (ci := 4) (v := .ref (ad 17)) (C := RX4) (T := TX4) (N := 27) hx hb htg inG_X4 hown hK hP 0 rfl rfl 22 (by decide) (htg _ m_641) (fun _ h9 => h9) rfl d_R_sort_90 ?_
    refine lv_iload hx hb d_R_sort_93 (lv_at hl 4 rfl) ?_
    refine lv_iload_n hx hb d_R_sort_95 rfl (lv_at hl 3 rfl) ?_
    have hi := h.1
    have h := h.2
    refine va_iast hx hb hK hP (hD _) hS 17 0 rfl rfl hi d_R_sort_96 (fun H locs hP _ hS => ?_)
    obtain ⟨σ3, eσ3⟩ : ∃ z : S0, z = st σ 17 x4.toNatClampNeg x3 := ⟨_, rfl⟩
    have hP : va_P D vwCl (wR ad cA cB σ3) H := by rw [eσ3]; exact hP
    have h := h σ3 eσ3
    refine lv_iinc (v := (x2 + 1)) (lv' := [(2, .int (x2 + 1)), (0, .ref (ad 0)), (1, .int x1), (3, .int x3), (4, .int x4)]) hx hb d_R_sort_97 hl (k := 2) rfl rfl (by decide) rfl (fun ls hl => ?_)
    refine lv_goto (tgt := 2) hx hb d_R_sort_100 (by decide) ?_
    rw [hG2] at h
    exact h _ _ _ hP hS (lv_sub hl [1, 2, 0] rfl))
  obtain ⟨H, eH⟩ : ∃ z, z = s.heap := ⟨_, rfl⟩
  have hP : va_P D vwCl (wR ad cA cB σ) H := by rw [eH]; exact hP
  have hS : va_S (kAR ad s.heap.size) s.heap H [] := by rw [eH]; exact hS
  show W p l e (headSpec (Cond.code y_R_sort c_R_sort 5 none :: wsG) ({ frames := 0, cells := 0, slots := 0, locals := 0 } : Room)).room s m ([.ref (ad 0), .int a1] : List Value).toArray below meth c s.heap [] 0 0 (MQ below (va_Qv post (kBR D ad cA cB) (kAR ad s.heap.size)) ([.ref (ad 0), .int a1] : List Value).toArray s 0 0 (kAR ad s.heap.size)) (F0 m 0 ls [])
  suffices k : W p l e (headSpec (Cond.code y_R_sort c_R_sort 5 none :: wsG) ({ frames := 0, cells := 0, slots := 0, locals := 0 } : Room)).room s m ([.ref (ad 0), .int a1] : List Value).toArray below meth c H [] 0 0 (MQ below (va_Qv post (kBR D ad cA cB) (kAR ad s.heap.size)) ([.ref (ad 0), .int a1] : List Value).toArray s 0 0 (kAR ad s.heap.size)) (F0 m 0 ls []) by rw [eH] at k; exact k
  refine lv_iconst (v := 1) hx hb d_R_sort_0 (by decide) ?_
  refine lv_istore_n (lv' := [(2, .int 1), (0, .ref (ad 0)), (1, .int a1)]) hx hb d_R_sort_1 rfl hl (by decide) rfl (fun ls hl => ?_)
  rw [hG2] at h
  exact h _ _ _ hP hS (lv_sub hl [1, 2, 0] rfl)
set_option maxHeartbeats 4000000 in
set_option maxRecDepth 100000 in
theorem met_R_order (l : Launch) (D : va_G) (ad : Nat → Nat) (cA cB : ClassId) (hap : kapR ad) (σ : S0) (sz : Nat) (a1 a2 : Int32) (post : S0 → Prop) (h : Sp_R_order a1 a2 σ post) : Met l y_R_order (Cond.code y_R_order c_R_order 7 none :: wsG) ({ frames := 1, cells := 0, slots := 0, locals := 24 } : Room) (kPcR D ad cA cB σ sz [.ref (ad 0), .int a1, .int a2]) (va_Qv post (kBR D ad cA cB) (kAR ad sz)) 0 0 (kAR ad sz) := by
  refine Met.ofW (cc := c_R_order) (maxL := 7) (ret := none) (by decide) rfl ?_
  intro p e s m args below meth c s₁ B hml hv
  obtain ⟨rfl, hsz, hP, hK, hF⟩ := hv
  have hx := B.exec
  have hb := B.bytes
  have hr := B.returns
  have hts := atoms_spec (ws := (Cond.code y_R_order c_R_order 7 none :: wsG)) B.pre
  have htg : ∀ w ∈ wsG, w.before ([.ref (ad 0), .int a1, .int a2] : List Value).toArray s = true := fun w h => hts w (List.mem_cons_of_mem _ h)
  have hown : s.vm.findClass RX4 = some m.cls := findClass_of_methodNamed B.named
  have hlocks := B.notSynchronized
  subst hsz
  have hD : ∀ σ, va_D (kAR ad s.heap.size) (wR ad cA cB σ) := fun σ => wR_D hap cA cB σ _
  have hS : va_S (kAR ad s.heap.size) s.heap s.heap [] := va_S.rf
  have hl := lv_entry ([.ref (ad 0), .int a1, .int a2]) (n := 7) (Nat.le_of_ble_eq_true rfl)
  rw [lg_entry_eq]
  generalize (lg_sl ([.ref (ad 0), .int a1, .int a2]) ++ List.replicate (7 - (lg_sl ([.ref (ad 0), .int a1, .int a2])).length) Slot.unset).toArray = ls at hl ⊢
  have hl : lv_has ls 7 [(0, .ref (ad 0)), (1, .int a1), (2, .int a2)] := hl
  unfold Sp_R_order at h
  obtain ⟨G5, hG5⟩ : ∃ G : Int32 → Int32 → Int32 → Int32 → S0 → Prop, G = fun (x1 x2 x3 x4 : Int32) (σ : S0) => ∀ (H : Heap) (locs : List Loc) (ls : Array Slot), va_P D vwCl (wR ad cA cB σ) H → va_S (kAR ad s.heap.size) s.heap H locs → lv_has ls 7 [(0, .ref (ad 0)), (1, .int x1), (2, .int x2), (3, .int x3), (4, .int x4)] → W p l e (headSpec (Cond.code y_R_order c_R_order 7 none :: wsG) ({ frames := 1, cells := 0, slots := 0, locals := 24 } : Room)).room s m ([.ref (ad 0), .int a1, .int a2] : List Value).toArray below meth c H locs 0 0 (MQ below (va_Qv post (kBR D ad cA cB) (kAR ad s.heap.size)) ([.ref (ad 0), .int a1, .int a2] : List Value).toArray s 0 0 (kAR ad s.heap.size)) (F0 m 5 ls []) := ⟨_, rfl⟩
  obtain ⟨G73, hG73⟩ : ∃ G : Int32 → Int32 → Int32 → Int32 → S0 → Prop, G = fun (x1 x2 x3 x4 : Int32) (σ : S0) => ∀ (H : Heap) (locs : List Loc) (ls : Array Slot), va_P D vwCl (wR ad cA cB σ) H → va_S (kAR ad s.heap.size) s.heap H locs → lv_has ls 7 [(0, .ref (ad 0)), (1, .int x1), (2, .int x2), (3, .int x3), (4, .int x4)] → W p l e (headSpec (Cond.code y_R_order c_R_order 7 none :: wsG) ({ frames := 1, cells := 0, slots := 0, locals := 24 } : Room)).room s m ([.ref (ad 0), .int a1, .int a2] : List Value).toArray below meth c H locs 0 0 (MQ below (va_Qv post (kBR D ad cA cB) (kAR ad s.heap.size)) ([.ref (ad 0), .int a1, .int a2] : List Value).toArray s 0 0 (kAR ad s.heap.size)) (F0 m 73 ls []) := ⟨_, rfl⟩
  obtain ⟨G103, hG103⟩ : ∃ G : Int32 → Int32 → Int32 → Int32 → Int32 → S0 → Prop, G = fun (x1 x2 x3 x4 t0 : Int32) (σ : S0) => ∀ (H : Heap) (locs : List Loc) (ls : Array Slot), va_P D vwCl (wR ad cA cB σ) H → va_S (kAR ad s.heap.size) s.heap H locs → lv_has ls 7 [(0, .ref (ad 0)), (1, .int x1), (2, .int x2), (3, .int x3), (4, .int x4)] → W p l e (headSpec (Cond.code y_R_order c_R_order 7 none :: wsG) ({ frames := 1, cells := 0, slots := 0, locals := 24 } : Room)).room s m ([.ref (ad 0), .int a1, .int a2] : List Value).toArray below meth c H locs 0 0 (MQ below (va_Qv post (kBR D ad cA cB) (kAR ad s.heap.size)) ([.ref (ad 0), .int a1, .int a2] : List Value).toArray s 0 0 (kAR ad s.heap.size)) (F0 m 103 ls [.int t0]) := ⟨_, rfl⟩
  obtain ⟨G126, hG126⟩ : ∃ G : Int32 → Int32 → Int32 → Int32 → Int32 → Int32 → S0 → Prop, G = fun (x1 x2 x3 x4 x5 t0 : Int32) (σ : S0) => ∀ (H : Heap) (locs : List Loc) (ls : Array Slot), va_P D vwCl (wR ad cA cB σ) H → va_S (kAR ad s.heap.size) s.heap H locs → lv_has ls 7 [(0, .ref (ad 0)), (1, .int x1), (2, .int x2), (3, .int x3), (4, .int x4), (5, .int x5)] → W p l e (headSpec (Cond.code y_R_order c_R_order 7 none :: wsG) ({ frames := 1, cells := 0, slots := 0, locals := 24 } : Room)).room s m ([.ref (ad 0), .int a1, .int a2] : List Value).toArray below meth c H locs 0 0 (MQ below (va_Qv post (kBR D ad cA cB) (kAR ad s.heap.size)) ([.ref (ad 0), .int a1, .int a2] : List Value).toArray s 0 0 (kAR ad s.heap.size)) (F0 m 126 ls [.int t0]) := ⟨_, rfl⟩
  obtain ⟨G179, hG179⟩ : ∃ G : Int32 → Int32 → S0 → Prop, G = fun (x3 x4 : Int32) (σ : S0) => ∀ (H : Heap) (locs : List Loc) (ls : Array Slot), va_P D vwCl (wR ad cA cB σ) H → va_S (kAR ad s.heap.size) s.heap H locs → lv_has ls 7 [(0, .ref (ad 0)), (3, .int x3), (4, .int x4)] → W p l e (headSpec (Cond.code y_R_order c_R_order 7 none :: wsG) ({ frames := 1, cells := 0, slots := 0, locals := 24 } : Room)).room s m ([.ref (ad 0), .int a1, .int a2] : List Value).toArray below meth c H locs 0 0 (MQ below (va_Qv post (kBR D ad cA cB) (kAR ad s.heap.size)) ([.ref (ad 0), .int a1, .int a2] : List Value).toArray s 0 0 (kAR ad s.heap.size)) (F0 m 179 ls []) := ⟨_, rfl⟩
  obtain ⟨G243, hG243⟩ : ∃ G : Int32 → Int32 → S0 → Prop, G = fun (x3 x4 : Int32) (σ : S0) => ∀ (H : Heap) (locs : List Loc) (ls : Array Slot), va_P D vwCl (wR ad cA cB σ) H → va_S (kAR ad s.heap.size) s.heap H locs → lv_has ls 7 [(0, .ref (ad 0)), (3, .int x3), (4, .int x4)] → W p l e (headSpec (Cond.code y_R_order c_R_order 7 none :: wsG) ({ frames := 1, cells := 0, slots := 0, locals := 24 } : Room)).room s m ([.ref (ad 0), .int a1, .int a2] : List Value).toArray below meth c H locs 0 0 (MQ below (va_Qv post (kBR D ad cA cB) (kAR ad s.heap.size)) ([.ref (ad 0), .int a1, .int a2] : List Value).toArray s 0 0 (kAR ad s.heap.size)) (F0 m 243 ls []) := ⟨_, rfl⟩
  have h := h G5 G73 G103 G126 G179 G243
  have h := h (by
    intro x1 x2 x3 x4 σ h
    rw [hG5]
    intro H locs ls hP hS hl
    refine lv_iload hx hb d_R_order_5 (lv_at hl 4 rfl) ?_
    refine lv_bipush (v := 16) hx hb d_R_order_7 (by decide) ?_
    refine lv_aload_n hx hb d_R_order_9 rfl (lv_at hl 0 rfl) ?_
    refine va_get (D := D) (ci := 4) (v := .int (σ 0 3)) (C := RX4) (T := TX4) (N := 27) hx hb htg inG_X4 hown hK hP 0 rfl rfl 13 (by decide) (htg _ m_632) (fun _ h9 => h9) rfl d_R_order_10 ?_
    refine lv_iadd hx hb d_R_order_13 ?_
    refine lv_icmp_ge (tgt := 70) hx hb d_R_order_14 (by decide) (fun cn => ?_) (fun cn => ?_)
    · have h := h.1 cn
      refine lv_iconst (v := 0) hx hb d_R_order_70 (by decide) ?_
      refine lv_istore (lv' := [(4, .int 0), (0, .ref (ad 0)), (1, .int x1), (2, .int x2), (3, .int x3)]) hx hb d_R_order_71 hl (by decide) rfl (fun ls hl => ?_)
      rw [hG73] at h
      exact h _ _ _ hP hS (lv_sub hl [1, 2, 3, 4, 0] rfl)
    · have h := h.2 cn
      refine lv_aload_n hx hb d_R_order_17 rfl (lv_at hl 0 rfl) ?_
      refine va_get (D := D) (ci := 4) (v := .ref (ad 8)) (C := RX4) (T := TX4) (N := 27) hx hb htg inG_X4 hown hK hP 0 rfl rfl 10 (by decide) (htg _ m_629) (fun _ h9 => h9) rfl d_R_order_18 ?_
      refine lv_iload hx hb d_R_order_21 (lv_at hl 4 rfl) ?_
      have hi := h.1
      have h := h.2
      refine va_iald hx hb hK hP 8 0 rfl rfl hi d_R_order_23 ?_
      refine lv_iload_n hx hb d_R_order_24 rfl (lv_at hl 1 rfl) ?_
      refine lv_icmp_eq (tgt := 31) hx hb d_R_order_25 (by decide) (fun cn => ?_) (fun cn => ?_)
      · have h := h.1 cn
        refine lv_aload_n hx hb d_R_order_31 rfl (lv_at hl 0 rfl) ?_
        refine va_get (D := D) (ci := 4) (v := .ref (ad 17)) (C := RX4) (T := TX4) (N := 27) hx hb htg inG_X4 hown hK hP 0 rfl rfl 22 (by decide) (htg _ m_641) (fun _ h9 => h9) rfl d_R_order_32 ?_
        refine lv_aload_n hx hb d_R_order_35 rfl (lv_at hl 0 rfl) ?_
        refine va_get (D := D) (ci := 4) (v := .ref (ad 9)) (C := RX4) (T := TX4) (N := 27) hx hb htg inG_X4 hown hK hP 0 rfl rfl 11 (by decide) (htg _ m_630) (fun _ h9 => h9) rfl d_R_order_36 ?_
        refine lv_iload hx hb d_R_order_39 (lv_at hl 4 rfl) ?_
        have hi := h.1
        have h := h.2
        refine va_iald hx hb hK hP 9 0 rfl rfl hi d_R_order_41 ?_
        refine lv_iload hx hb d_R_order_42 (lv_at hl 4 rfl) ?_
        have hi := h.1
        have h := h.2
        refine va_iast hx hb hK hP (hD _) hS 17 0 rfl rfl hi d_R_order_44 (fun H locs hP _ hS => ?_)
        obtain ⟨σ1, eσ1⟩ : ∃ z : S0, z = st σ 17 (σ 9 x4.toNatClampNeg).toNatClampNeg x4 := ⟨_, rfl⟩
        have hP : va_P D vwCl (wR ad cA cB σ1) H := by rw [eσ1]; exact hP
        have h := h σ1 eσ1
        refine lv_iinc (v := (x3 + 1)) (lv' := [(3, .int (x3 + 1)), (0, .ref (ad 0)), (1, .int x1), (2, .int x2), (4, .int x4)]) hx hb d_R_order_45 hl (k := 3) rfl rfl (by decide) rfl (fun ls hl => ?_)
        refine lv_aload_n hx hb d_R_order_48 rfl (lv_at hl 1 rfl) ?_
        refine va_get (D := D) (ci := 4) (v := .ref (ad 18)) (C := RX4) (T := TX4) (N := 27) hx hb htg inG_X4 hown hK hP 0 rfl rfl 23 (by decide) (htg _ m_642) (fun _ h9 => h9) rfl d_R_order_49 ?_
        refine lv_iload hx hb d_R_order_52 (lv_at hl 4 rfl) ?_
        refine lv_iconst (v := 0) hx hb d_R_order_54 (by decide) ?_
        have hi := h.1
        have h := h.2
        refine va_iast hx hb hK hP (hD _) hS 18 0 rfl rfl hi d_R_order_55 (fun H locs hP _ hS => ?_)
        obtain ⟨σ2, eσ2⟩ : ∃ z : S0, z = st σ1 18 x4.toNatClampNeg 0 := ⟨_, rfl⟩
        have hP : va_P D vwCl (wR ad cA cB σ2) H := by rw [eσ2]; exact hP
        have h := h σ2 eσ2
        refine lv_aload_n hx hb d_R_order_56 rfl (lv_at hl 1 rfl) ?_
        refine va_get (D := D) (ci := 4) (v := .ref (ad 19)) (C := RX4) (T := TX4) (N := 27) hx hb htg inG_X4 hown hK hP 0 rfl rfl 24 (by decide) (htg _ m_643) (fun _ h9 => h9) rfl d_R_order_57 ?_
        refine lv_iload hx hb d_R_order_60 (lv_at hl 4 rfl) ?_
        refine lv_iconst (v := 0) hx hb d_R_order_62 (by decide) ?_
        have hi := h.1
        have h := h.2
        refine va_iast hx hb hK hP (hD _) hS 19 0 rfl rfl hi d_R_order_63 (fun H locs hP _ hS => ?_)
        obtain ⟨σ3, eσ3⟩ : ∃ z : S0, z = st σ2 19 x4.toNatClampNeg 0 := ⟨_, rfl⟩
        have hP : va_P D vwCl (wR ad cA cB σ3) H := by rw [eσ3]; exact hP
        have h := h σ3 eσ3
        refine lv_iinc (v := (x4 + 1)) (lv' := [(4, .int (x4 + 1)), (3, .int (x3 + 1)), (0, .ref (ad 0)), (1, .int x1), (2, .int x2)]) hx hb d_R_order_64 hl (k := 4) rfl rfl (by decide) rfl (fun ls hl => ?_)
        refine lv_goto (tgt := 5) hx hb d_R_order_67 (by decide) ?_
        rw [hG5] at h
        exact h _ _ _ hP hS (lv_sub hl [2, 3, 4, 1, 0] rfl)
      · have h := h.2 cn
        refine lv_goto (tgt := 64) hx hb d_R_order_28 (by decide) ?_
        refine lv_iinc (v := (x4 + 1)) (lv' := [(4, .int (x4 + 1)), (0, .ref (ad 0)), (1, .int x1), (2, .int x2), (3, .int x3)]) hx hb d_R_order_64 hl (k := 4) rfl rfl (by decide) rfl (fun ls hl => ?_)
        refine lv_goto (tgt := 5) hx hb d_R_order_67 (by decide) ?_
        rw [hG5] at h
        exact h _ _ _ hP hS (lv_sub hl [1, 2, 3, 4, 0] rfl))
  have h := h (by
    intro x1 x2 x3 x4 σ h
    rw [hG73]
    intro H locs ls hP hS hl
    refine lv_iload hx hb d_R_order_73 (lv_at hl 4 rfl) ?_
    refine lv_aload_n hx hb d_R_order_75 rfl (lv_at hl 0 rfl) ?_
    refine va_get (D := D) (ci := 4) (v := .int (σ 0 4)) (C := RX4) (T := TX4) (N := 27) hx hb htg inG_X4 hown hK hP 0 rfl rfl 16 (by decide) (htg _ m_635) (fun _ h9 => h9) rfl d_R_order_76 ?_
    refine lv_icmp_ge (tgt := 176) hx hb d_R_order_79 (by decide) (fun cn => ?_) (fun cn => ?_)
    · have h := h.1 cn
      refine lv_iconst (v := 0) hx hb d_R_order_176 (by decide) ?_
      refine lv_istore (lv' := [(4, .int 0), (0, .ref (ad 0)), (1, .int x1), (2, .int x2), (3, .int x3)]) hx hb d_R_order_177 hl (by decide) rfl (fun ls hl => ?_)
      rw [hG179] at h
      exact h _ _ _ hP hS (lv_sub hl [1, 4, 0] rfl)
    · have h := h.2 cn
      refine lv_iload_n hx hb d_R_order_82 rfl (lv_at hl 2 rfl) ?_
      refine lv_if_eq (tgt := 96) hx hb d_R_order_83 (by decide) (fun cn => ?_) (fun cn => ?_)
      · have h := h.1 cn
        refine lv_aload_n hx hb d_R_order_96 rfl (lv_at hl 0 rfl) ?_
        refine va_get (D := D) (ci := 4) (v := .ref (ad 11)) (C := RX4) (T := TX4) (N := 27) hx hb htg inG_X4 hown hK hP 0 rfl rfl 14 (by decide) (htg _ m_633) (fun _ h9 => h9) rfl d_R_order_97 ?_
        refine lv_iload hx hb d_R_order_100 (lv_at hl 4 rfl) ?_
        have hi := h.1
        have h := h.2
        refine va_iald hx hb hK hP 11 0 rfl rfl hi d_R_order_102 ?_
        rw [hG103] at h
        exact h _ _ _ hP hS (lv_sub hl [0, 1, 2, 3, 4] rfl)
      · have h := h.2 cn
        refine lv_aload_n hx hb d_R_order_86 rfl (lv_at hl 0 rfl) ?_
        refine va_get (D := D) (ci := 4) (v := .ref (ad 12)) (C := RX4) (T := TX4) (N := 27) hx hb htg inG_X4 hown hK hP 0 rfl rfl 15 (by decide) (htg _ m_634) (fun _ h9 => h9) rfl d_R_order_87 ?_
        refine lv_iload hx hb d_R_order_90 (lv_at hl 4 rfl) ?_
        have hi := h.1
        have h := h.2
        refine va_iald hx hb hK hP 12 0 rfl rfl hi d_R_order_92 ?_
        refine lv_goto (tgt := 103) hx hb d_R_order_93 (by decide) ?_
        rw [hG103] at h
        exact h _ _ _ hP hS (lv_sub hl [0, 1, 2, 3, 4] rfl))
  have h := h (by
    intro x1 x2 x3 x4 t0 σ h
    rw [hG103]
    intro H locs ls hP hS hl
    refine lv_istore (lv' := [(5, .int t0), (0, .ref (ad 0)), (1, .int x1), (2, .int x2), (3, .int x3), (4, .int x4)]) hx hb d_R_order_103 hl (by decide) rfl (fun ls hl => ?_)
    refine lv_iload_n hx hb d_R_order_105 rfl (lv_at hl 3 rfl) ?_
    refine lv_if_eq (tgt := 119) hx hb d_R_order_106 (by decide) (fun cn => ?_) (fun cn => ?_)
    · have h := h.1 cn
      refine lv_aload_n hx hb d_R_order_119 rfl (lv_at hl 1 rfl) ?_
      refine va_get (D := D) (ci := 4) (v := .ref (ad 12)) (C := RX4) (T := TX4) (N := 27) hx hb htg inG_X4 hown hK hP 0 rfl rfl 15 (by decide) (htg _ m_634) (fun _ h9 => h9) rfl d_R_order_120 ?_
      refine lv_iload hx hb d_R_order_123 (lv_at hl 5 rfl) ?_
      have hi := h.1
      have h := h.2
      refine va_iald hx hb hK hP 12 0 rfl rfl hi d_R_order_125 ?_
      rw [hG126] at h
      exact h _ _ _ hP hS (lv_sub hl [1, 2, 3, 4, 5, 0] rfl)
    · have h := h.2 cn
      refine lv_aload_n hx hb d_R_order_109 rfl (lv_at hl 1 rfl) ?_
      refine va_get (D := D) (ci := 4) (v := .ref (ad 11)) (C := RX4) (T := TX4) (N := 27) hx hb htg inG_X4 hown hK hP 0 rfl rfl 14 (by decide) (htg _ m_633) (fun _ h9 => h9) rfl d_R_order_110 ?_
      refine lv_iload hx hb d_R_order_113 (lv_at hl 5 rfl) ?_
      have hi := h.1
      have h := h.2
      refine va_iald hx hb hK hP 11 0 rfl rfl hi d_R_order_115 ?_
      refine lv_goto (tgt := 126) hx hb d_R_order_116 (by decide) ?_
      rw [hG126] at h
      exact h _ _ _ hP hS (lv_sub hl [1, 2, 3, 4, 5, 0] rfl))
  have h := h (by
    intro x1 x2 x3 x4 x5 t0 σ h
    rw [hG126]
    intro H locs ls hP hS hl
    refine lv_istore (lv' := [(6, .int t0), (0, .ref (ad 0)), (1, .int x1), (2, .int x2), (3, .int x3), (4, .int x4), (5, .int x5)]) hx hb d_R_order_126 hl (by decide) rfl (fun ls hl => ?_)
    refine lv_aload_n hx hb d_R_order_128 rfl (lv_at hl 1 rfl) ?_
    refine va_get (D := D) (ci := 4) (v := .ref (ad 8)) (C := RX4) (T := TX4) (N := 27) hx hb htg inG_X4 hown hK hP 0 rfl rfl 10 (by decide) (htg _ m_629) (fun _ h9 => h9) rfl d_R_order_129 ?_
    refine lv_iload hx hb d_R_order_132 (lv_at hl 6 rfl) ?_
    have hi := h.1
    have h := h.2
    refine va_iald hx hb hK hP 8 0 rfl rfl hi d_R_order_134 ?_
    refine lv_iload_n hx hb d_R_order_135 rfl (lv_at hl 2 rfl) ?_
    refine lv_icmp_eq (tgt := 142) hx hb d_R_order_136 (by decide) (fun cn => ?_) (fun cn => ?_)
    · have h := h.1 cn
      refine lv_aload_n hx hb d_R_order_142 rfl (lv_at hl 1 rfl) ?_
      refine va_get (D := D) (ci := 4) (v := .ref (ad 18)) (C := RX4) (T := TX4) (N := 27) hx hb htg inG_X4 hown hK hP 0 rfl rfl 23 (by decide) (htg _ m_642) (fun _ h9 => h9) rfl d_R_order_143 ?_
      refine lv_iload hx hb d_R_order_146 (lv_at hl 6 rfl) ?_
      refine lv_dup2_11 hx hb d_R_order_148 rfl rfl ?_
      have hi := h.1
      have h := h.2
      refine va_iald hx hb hK hP 18 0 rfl rfl hi d_R_order_149 ?_
      refine lv_aload_n hx hb d_R_order_150 rfl (lv_at hl 1 rfl) ?_
      refine va_get (D := D) (ci := 4) (v := .ref (ad 9)) (C := RX4) (T := TX4) (N := 27) hx hb htg inG_X4 hown hK hP 0 rfl rfl 11 (by decide) (htg _ m_630) (fun _ h9 => h9) rfl d_R_order_151 ?_
      refine lv_iload hx hb d_R_order_154 (lv_at hl 0 rfl) ?_
      have hi := h.1
      have h := h.2
      refine va_iald hx hb hK hP 9 0 rfl rfl hi d_R_order_156 ?_
      refine lv_iadd hx hb d_R_order_157 ?_
      have hi := h.1
      have h := h.2
      refine va_iast hx hb hK hP (hD _) hS 18 0 rfl rfl hi d_R_order_158 (fun H locs hP _ hS => ?_)
      obtain ⟨σ9, eσ9⟩ : ∃ z : S0, z = st σ 18 x5.toNatClampNeg ((σ 18 x5.toNatClampNeg) + (σ 9 t0.toNatClampNeg)) := ⟨_, rfl⟩
      have hP : va_P D vwCl (wR ad cA cB σ9) H := by rw [eσ9]; exact hP
      have h := h σ9 eσ9
      refine lv_aload_n hx hb d_R_order_159 rfl (lv_at hl 1 rfl) ?_
      refine va_get (D := D) (ci := 4) (v := .ref (ad 19)) (C := RX4) (T := TX4) (N := 27) hx hb htg inG_X4 hown hK hP 0 rfl rfl 24 (by decide) (htg _ m_643) (fun _ h9 => h9) rfl d_R_order_160 ?_
      refine lv_iload hx hb d_R_order_163 (lv_at hl 6 rfl) ?_
      refine lv_dup2_11 hx hb d_R_order_165 rfl rfl ?_
      have hi := h.1
      have h := h.2
      refine va_iald hx hb hK hP 19 0 rfl rfl hi d_R_order_166 ?_
      refine lv_iconst (v := 1) hx hb d_R_order_167 (by decide) ?_
      refine lv_iadd hx hb d_R_order_168 ?_
      have hi := h.1
      have h := h.2
      refine va_iast hx hb hK hP (hD _) hS 19 0 rfl rfl hi d_R_order_169 (fun H locs hP _ hS => ?_)
      obtain ⟨σ10, eσ10⟩ : ∃ z : S0, z = st σ9 19 x5.toNatClampNeg ((σ9 19 x5.toNatClampNeg) + 1) := ⟨_, rfl⟩
      have hP : va_P D vwCl (wR ad cA cB σ10) H := by rw [eσ10]; exact hP
      have h := h σ10 eσ10
      refine lv_iinc (v := (x4 + 1)) (lv' := [(4, .int (x4 + 1)), (6, .int t0), (0, .ref (ad 0)), (1, .int x1), (2, .int x2), (3, .int x3), (5, .int x5)]) hx hb d_R_order_170 hl (k := 5) rfl rfl (by decide) rfl (fun ls hl => ?_)
      refine lv_goto (tgt := 73) hx hb d_R_order_173 (by decide) ?_
      rw [hG73] at h
      exact h _ _ _ hP hS (lv_sub hl [2, 3, 4, 5, 0] rfl)
    · have h := h.2 cn
      refine lv_goto (tgt := 170) hx hb d_R_order_139 (by decide) ?_
      refine lv_iinc (v := (x4 + 1)) (lv' := [(4, .int (x4 + 1)), (6, .int t0), (0, .ref (ad 0)), (1, .int x1), (2, .int x2), (3, .int x3), (5, .int x5)]) hx hb d_R_order_170 hl (k := 5) rfl rfl (by decide) rfl (fun ls hl => ?_)
      refine lv_goto (tgt := 73) hx hb d_R_order_173 (by decide) ?_
      rw [hG73] at h
      exact h _ _ _ hP hS (lv_sub hl [2, 3, 4, 5, 0] rfl))
  have h := h (by
    intro x3 x4 σ h
    rw [hG179]
    intro H locs ls hP hS hl
    refine lv_iload hx hb d_R_order_179 (lv_at hl 2 rfl) ?_
    refine lv_iload_n hx hb d_R_order_181 rfl (lv_at hl 1 rfl) ?_
    refine lv_icmp_ge (tgt := 235) hx hb d_R_order_182 (by decide) (fun cn => ?_) (fun cn => ?_)
    · have h := h.1 cn
      refine lv_aload_n hx hb d_R_order_235 rfl (lv_at hl 0 rfl) ?_
      refine lv_iload_n hx hb d_R_order_236 rfl (lv_at hl 1 rfl) ?_
      refine kR_v (va_runV (As := [.int x3]) (rest := []) ⟨hx, hb, hml, hown, htg⟩ (met_R_sort l D ad cA cB hap σ H.size x3 _ h) (cwV 1 htg (kG (kG_V m_828 m_830 m_48 m_57 (kG_self m_831))) rfl rfl rfl (by decide +kernel) ⟨Nat.le_of_ble_eq_true rfl, Nat.le_of_ble_eq_true rfl⟩) (kR_preV hK hF hP hS 0 rfl rfl _) rfl rfl hl.1 rfl (lv_room (Nat.le_of_ble_eq_true rfl)) d_R_order_237 ⟨Nat.le_of_ble_eq_true rfl, Nat.le_of_ble_eq_true rfl⟩) hS (fun σ4 H locs h hP hS => ?_)
      refine lv_iconst (v := 0) hx hb d_R_order_240 (by decide) ?_
      refine lv_istore (lv' := [(4, .int 0), (0, .ref (ad 0)), (3, .int x3)]) hx hb d_R_order_241 hl (by decide) rfl (fun ls hl => ?_)
      rw [hG243] at h
      exact h _ _ _ hP hS (lv_sub hl [1, 2, 0] rfl)
    · have h := h.2 cn
      refine lv_aload_n hx hb d_R_order_185 rfl (lv_at hl 0 rfl) ?_
      refine va_get (D := D) (ci := 4) (v := .ref (ad 17)) (C := RX4) (T := TX4) (N := 27) hx hb htg inG_X4 hown hK hP 0 rfl rfl 22 (by decide) (htg _ m_641) (fun _ h9 => h9) rfl d_R_order_186 ?_
      refine lv_iload hx hb d_R_order_189 (lv_at hl 2 rfl) ?_
      have hi := h.1
      have h := h.2
      refine va_iald hx hb hK hP 17 0 rfl rfl hi d_R_order_191 ?_
      refine lv_topi (fun v5 ev5 => ?_)
      have h := h v5 ev5
      refine lv_istore (lv' := [(5, .int v5), (0, .ref (ad 0)), (3, .int x3), (4, .int x4)]) hx hb d_R_order_192 hl (by decide) rfl (fun ls hl => ?_)
      refine lv_aload_n hx hb d_R_order_194 rfl (lv_at hl 1 rfl) ?_
      refine va_get (D := D) (ci := 4) (v := .ref (ad 19)) (C := RX4) (T := TX4) (N := 27) hx hb htg inG_X4 hown hK hP 0 rfl rfl 24 (by decide) (htg _ m_643) (fun _ h9 => h9) rfl d_R_order_195 ?_
      refine lv_iload hx hb d_R_order_198 (lv_at hl 0 rfl) ?_
      have hi := h.1
      have h := h.2
      refine va_iald hx hb hK hP 19 0 rfl rfl hi d_R_order_200 ?_
      refine lv_if_le (tgt := 207) hx hb d_R_order_201 (by decide) (fun cn => ?_) (fun cn => ?_)
      · have h := h.1 cn
        refine lv_aload_n hx hb d_R_order_207 rfl (lv_at hl 1 rfl) ?_
        refine va_get (D := D) (ci := 4) (v := .ref (ad 18)) (C := RX4) (T := TX4) (N := 27) hx hb htg inG_X4 hown hK hP 0 rfl rfl 23 (by decide) (htg _ m_642) (fun _ h9 => h9) rfl d_R_order_208 ?_
        refine lv_iload hx hb d_R_order_211 (lv_at hl 0 rfl) ?_
        refine lv_aload_n hx hb d_R_order_213 rfl (lv_at hl 1 rfl) ?_
        refine va_get (D := D) (ci := 4) (v := .ref (ad 9)) (C := RX4) (T := TX4) (N := 27) hx hb htg inG_X4 hown hK hP 0 rfl rfl 11 (by decide) (htg _ m_630) (fun _ h9 => h9) rfl d_R_order_214 ?_
        refine lv_iload hx hb d_R_order_217 (lv_at hl 0 rfl) ?_
        have hi := h.1
        have h := h.2
        refine va_iald hx hb hK hP 9 0 rfl rfl hi d_R_order_219 ?_
        have hi := h.1
        have h := h.2
        refine va_iast hx hb hK hP (hD _) hS 18 0 rfl rfl hi d_R_order_220 (fun H locs hP _ hS => ?_)
        obtain ⟨σ6, eσ6⟩ : ∃ z : S0, z = st σ 18 v5.toNatClampNeg (σ 9 v5.toNatClampNeg) := ⟨_, rfl⟩
        have hP : va_P D vwCl (wR ad cA cB σ6) H := by rw [eσ6]; exact hP
        have h := h σ6 eσ6
        refine lv_aload_n hx hb d_R_order_221 rfl (lv_at hl 1 rfl) ?_
        refine va_get (D := D) (ci := 4) (v := .ref (ad 19)) (C := RX4) (T := TX4) (N := 27) hx hb htg inG_X4 hown hK hP 0 rfl rfl 24 (by decide) (htg _ m_643) (fun _ h9 => h9) rfl d_R_order_222 ?_
        refine lv_iload hx hb d_R_order_225 (lv_at hl 0 rfl) ?_
        refine lv_iconst (v := 1) hx hb d_R_order_227 (by decide) ?_
        have hi := h.1
        have h := h.2
        refine va_iast hx hb hK hP (hD _) hS 19 0 rfl rfl hi d_R_order_228 (fun H locs hP _ hS => ?_)
        obtain ⟨σ7, eσ7⟩ : ∃ z : S0, z = st σ6 19 v5.toNatClampNeg 1 := ⟨_, rfl⟩
        have hP : va_P D vwCl (wR ad cA cB σ7) H := by rw [eσ7]; exact hP
        have h := h σ7 eσ7
        refine lv_iinc (v := (x4 + 1)) (lv' := [(4, .int (x4 + 1)), (5, .int v5), (0, .ref (ad 0)), (3, .int x3)]) hx hb d_R_order_229 hl (k := 3) rfl rfl (by decide) rfl (fun ls hl => ?_)
        refine lv_goto (tgt := 179) hx hb d_R_order_232 (by decide) ?_
        rw [hG179] at h
        exact h _ _ _ hP hS (lv_sub hl [2, 3, 0] rfl)
      · have h := h.2 cn
        refine lv_goto (tgt := 229) hx hb d_R_order_204 (by decide) ?_
        refine lv_iinc (v := (x4 + 1)) (lv' := [(4, .int (x4 + 1)), (5, .int v5), (0, .ref (ad 0)), (3, .int x3)]) hx hb d_R_order_229 hl (k := 3) rfl rfl (by decide) rfl (fun ls hl => ?_)
        refine lv_goto (tgt := 179) hx hb d_R_order_232 (by decide) ?_
        rw [hG179] at h
        exact h _ _ _ hP hS (lv_sub hl [2, 3, 0] rfl))
  have h := h (by
    intro x3 x4 σ h
    rw [hG243]
    intro H locs ls hP hS hl
    refine lv_iload hx hb d_R_order_243 (lv_at hl 2 rfl) ?_
    refine lv_iload_n hx hb d_R_order_245 rfl (lv_at hl 1 rfl) ?_
    refine lv_icmp_ge (tgt := 269) hx hb d_R_order_246 (by decide) (fun cn => ?_) (fun cn => ?_)
    · have h := h.1 cn
      exact W.vret hx hb hr (fun t ht hW => ⟨⟨σ, rfl, h, kBR_of ht hP⟩, hS.F ht⟩) hS.2.2 d_R_order_269 hlocks
    · have h := h.2 cn
      refine lv_aload_n hx hb d_R_order_249 rfl (lv_at hl 0 rfl) ?_
      refine va_get (D := D) (ci := 4) (v := .ref (ad 9)) (C := RX4) (T := TX4) (N := 27) hx hb htg inG_X4 hown hK hP 0 rfl rfl 11 (by decide) (htg _ m_630) (fun _ h9 => h9) rfl d_R_order_250 ?_
      refine lv_aload_n hx hb d_R_order_253 rfl (lv_at hl 0 rfl) ?_
      refine va_get (D := D) (ci := 4) (v := .ref (ad 17)) (C := RX4) (T := TX4) (N := 27) hx hb htg inG_X4 hown hK hP 0 rfl rfl 22 (by decide) (htg _ m_641) (fun _ h9 => h9) rfl d_R_order_254 ?_
      refine lv_iload hx hb d_R_order_257 (lv_at hl 2 rfl) ?_
      have hi := h.1
      have h := h.2
      refine va_iald hx hb hK hP 17 0 rfl rfl hi d_R_order_259 ?_
      refine lv_iload hx hb d_R_order_260 (lv_at hl 2 rfl) ?_
      have hi := h.1
      have h := h.2
      refine va_iast hx hb hK hP (hD _) hS 9 0 rfl rfl hi d_R_order_262 (fun H locs hP _ hS => ?_)
      obtain ⟨σ8, eσ8⟩ : ∃ z : S0, z = st σ 9 (σ 17 x4.toNatClampNeg).toNatClampNeg x4 := ⟨_, rfl⟩
      have hP : va_P D vwCl (wR ad cA cB σ8) H := by rw [eσ8]; exact hP
      have h := h σ8 eσ8
      refine lv_iinc (v := (x4 + 1)) (lv' := [(4, .int (x4 + 1)), (0, .ref (ad 0)), (3, .int x3)]) hx hb d_R_order_263 hl (k := 2) rfl rfl (by decide) rfl (fun ls hl => ?_)
      refine lv_goto (tgt := 243) hx hb d_R_order_266 (by decide) ?_
      rw [hG243] at h
      exact h _ _ _ hP hS (lv_sub hl [1, 2, 0] rfl))
  obtain ⟨H, eH⟩ : ∃ z, z = s.heap := ⟨_, rfl⟩
  have hP : va_P D vwCl (wR ad cA cB σ) H := by rw [eH]; exact hP
  have hS : va_S (kAR ad s.heap.size) s.heap H [] := by rw [eH]; exact hS
  show W p l e (headSpec (Cond.code y_R_order c_R_order 7 none :: wsG) ({ frames := 1, cells := 0, slots := 0, locals := 24 } : Room)).room s m ([.ref (ad 0), .int a1, .int a2] : List Value).toArray below meth c s.heap [] 0 0 (MQ below (va_Qv post (kBR D ad cA cB) (kAR ad s.heap.size)) ([.ref (ad 0), .int a1, .int a2] : List Value).toArray s 0 0 (kAR ad s.heap.size)) (F0 m 0 ls [])
  suffices k : W p l e (headSpec (Cond.code y_R_order c_R_order 7 none :: wsG) ({ frames := 1, cells := 0, slots := 0, locals := 24 } : Room)).room s m ([.ref (ad 0), .int a1, .int a2] : List Value).toArray below meth c H [] 0 0 (MQ below (va_Qv post (kBR D ad cA cB) (kAR ad s.heap.size)) ([.ref (ad 0), .int a1, .int a2] : List Value).toArray s 0 0 (kAR ad s.heap.size)) (F0 m 0 ls []) by rw [eH] at k; exact k
  refine lv_iconst (v := 0) hx hb d_R_order_0 (by decide) ?_
  refine lv_istore_n (lv' := [(3, .int 0), (0, .ref (ad 0)), (1, .int a1), (2, .int a2)]) hx hb d_R_order_1 rfl hl (by decide) rfl (fun ls hl => ?_)
  refine lv_iconst (v := 0) hx hb d_R_order_2 (by decide) ?_
  refine lv_istore (lv' := [(4, .int 0), (3, .int 0), (0, .ref (ad 0)), (1, .int a1), (2, .int a2)]) hx hb d_R_order_3 hl (by decide) rfl (fun ls hl => ?_)
  rw [hG5] at h
  exact h _ _ _ hP hS (lv_sub hl [2, 3, 4, 1, 0] rfl)
set_option maxHeartbeats 4000000 in
set_option maxRecDepth 100000 in
theorem met_R_round (l : Launch) (D : va_G) (ad : Nat → Nat) (cA cB : ClassId) (hap : kapR ad) (σ : S0) (sz : Nat) (post : S0 → Prop) (h : Sp_R_round  σ post) : Met l y_R_round (Cond.code y_R_round c_R_round 3 none :: wsG) ({ frames := 3, cells := 0, slots := 0, locals := 66 } : Room) (kPcR D ad cA cB σ sz [.ref (ad 0)]) (va_Qv post (kBR D ad cA cB) (kAR ad sz)) 0 0 (kAR ad sz) := by
  refine Met.ofW (cc := c_R_round) (maxL := 3) (ret := none) (by decide) rfl ?_
  intro p e s m args below meth c s₁ B hml hv
  obtain ⟨rfl, hsz, hP, hK, hF⟩ := hv
  have hx := B.exec
  have hb := B.bytes
  have hr := B.returns
  have hts := atoms_spec (ws := (Cond.code y_R_round c_R_round 3 none :: wsG)) B.pre
  have htg : ∀ w ∈ wsG, w.before ([.ref (ad 0)] : List Value).toArray s = true := fun w h => hts w (List.mem_cons_of_mem _ h)
  have hown : s.vm.findClass RX4 = some m.cls := findClass_of_methodNamed B.named
  have hlocks := B.notSynchronized
  subst hsz
  have hD : ∀ σ, va_D (kAR ad s.heap.size) (wR ad cA cB σ) := fun σ => wR_D hap cA cB σ _
  have hS : va_S (kAR ad s.heap.size) s.heap s.heap [] := va_S.rf
  have hl := lv_entry ([.ref (ad 0)]) (n := 3) (Nat.le_of_ble_eq_true rfl)
  rw [lg_entry_eq]
  generalize (lg_sl ([.ref (ad 0)]) ++ List.replicate (3 - (lg_sl ([.ref (ad 0)])).length) Slot.unset).toArray = ls at hl ⊢
  have hl : lv_has ls 3 [(0, .ref (ad 0))] := hl
  unfold Sp_R_round at h
  obtain ⟨G7, hG7⟩ : ∃ G : Int32 → Int32 → S0 → Prop, G = fun (x1 x2 : Int32) (σ : S0) => ∀ (H : Heap) (locs : List Loc) (ls : Array Slot), va_P D vwCl (wR ad cA cB σ) H → va_S (kAR ad s.heap.size) s.heap H locs → lv_has ls 3 [(0, .ref (ad 0)), (1, .int x1), (2, .int x2)] → W p l e (headSpec (Cond.code y_R_round c_R_round 3 none :: wsG) ({ frames := 3, cells := 0, slots := 0, locals := 66 } : Room)).room s m ([.ref (ad 0)] : List Value).toArray below meth c H locs 0 0 (MQ below (va_Qv post (kBR D ad cA cB) (kAR ad s.heap.size)) ([.ref (ad 0)] : List Value).toArray s 0 0 (kAR ad s.heap.size)) (F0 m 7 ls []) := ⟨_, rfl⟩
  obtain ⟨G28, hG28⟩ : ∃ G : Int32 → S0 → Prop, G = fun (x2 : Int32) (σ : S0) => ∀ (H : Heap) (locs : List Loc) (ls : Array Slot), va_P D vwCl (wR ad cA cB σ) H → va_S (kAR ad s.heap.size) s.heap H locs → lv_has ls 3 [(0, .ref (ad 0)), (2, .int x2)] → W p l e (headSpec (Cond.code y_R_round c_R_round 3 none :: wsG) ({ frames := 3, cells := 0, slots := 0, locals := 66 } : Room)).room s m ([.ref (ad 0)] : List Value).toArray below meth c H locs 0 0 (MQ below (va_Qv post (kBR D ad cA cB) (kAR ad s.heap.size)) ([.ref (ad 0)] : List Value).toArray s 0 0 (kAR ad s.heap.size)) (F0 m 28 ls []) := ⟨_, rfl⟩
  have h := h G7 G28
  have h := h (by
    intro x1 x2 σ h
    rw [hG7]
    intro H locs ls hP hS hl
    refine lv_iload_n hx hb d_R_round_7 rfl (lv_at hl 2 rfl) ?_
    refine lv_iload_n hx hb d_R_round_8 rfl (lv_at hl 1 rfl) ?_
    refine lv_icmp_gt (tgt := 24) hx hb d_R_round_9 (by decide) (fun cn => ?_) (fun cn => ?_)
    · have h := h.1 cn
      refine lv_iload_n hx hb d_R_round_24 rfl (lv_at hl 1 rfl) ?_
      refine lv_iconst (v := 1) hx hb d_R_round_25 (by decide) ?_
      refine lv_isub hx hb d_R_round_26 ?_
      refine lv_topi (fun v3 ev3 => ?_)
      have h := h v3 ev3
      refine lv_istore_n (lv' := [(2, .int v3), (0, .ref (ad 0)), (1, .int x1)]) hx hb d_R_round_27 rfl hl (by decide) rfl (fun ls hl => ?_)
      rw [hG28] at h
      exact h _ _ _ hP hS (lv_sub hl [1, 0] rfl)
    · have h := h.2 cn
      refine lv_aload_n hx hb d_R_round_12 rfl (lv_at hl 0 rfl) ?_
      refine lv_iload_n hx hb d_R_round_13 rfl (lv_at hl 2 rfl) ?_
      refine lv_iconst (v := 1) hx hb d_R_round_14 (by decide) ?_
      refine kR_v (va_runV (As := [.int x2, .int 1]) (rest := []) ⟨hx, hb, hml, hown, htg⟩ (met_R_order l D ad cA cB hap σ H.size x2 1 _ h) (cwV 2 htg (kG (kG_V m_824 m_826 m_47 m_57 (kG_self m_827))) rfl rfl rfl (by decide +kernel) ⟨Nat.le_of_ble_eq_true rfl, Nat.le_of_ble_eq_true rfl⟩) (kR_preV hK hF hP hS 0 rfl rfl _) rfl rfl hl.1 rfl (lv_room (Nat.le_of_ble_eq_true rfl)) d_R_round_15 ⟨Nat.le_of_ble_eq_true rfl, Nat.le_of_ble_eq_true rfl⟩) hS (fun σ4 H locs h hP hS => ?_)
      refine lv_iinc (v := (x2 + 1)) (lv' := [(2, .int (x2 + 1)), (0, .ref (ad 0)), (1, .int x1)]) hx hb d_R_round_18 hl (k := 2) rfl rfl (by decide) rfl (fun ls hl => ?_)
      refine lv_goto (tgt := 7) hx hb d_R_round_21 (by decide) ?_
      rw [hG7] at h
      exact h _ _ _ hP hS (lv_sub hl [1, 2, 0] rfl))
  have h := h (by
    intro x2 σ h
    rw [hG28]
    intro H locs ls hP hS hl
    refine lv_iload_n hx hb d_R_round_28 rfl (lv_at hl 1 rfl) ?_
    refine lv_if_lt (tgt := 44) hx hb d_R_round_29 (by decide) (fun cn => ?_) (fun cn => ?_)
    · have h := h.1 cn
      exact W.vret hx hb hr (fun t ht hW => ⟨⟨σ, rfl, h, kBR_of ht hP⟩, hS.F ht⟩) hS.2.2 d_R_round_44 hlocks
    · have h := h.2 cn
      refine lv_aload_n hx hb d_R_round_32 rfl (lv_at hl 0 rfl) ?_
      refine lv_iload_n hx hb d_R_round_33 rfl (lv_at hl 1 rfl) ?_
      refine lv_iconst (v := 0) hx hb d_R_round_34 (by decide) ?_
      refine kR_v (va_runV (As := [.int x2, .int 0]) (rest := []) ⟨hx, hb, hml, hown, htg⟩ (met_R_order l D ad cA cB hap σ H.size x2 0 _ h) (cwV 2 htg (kG (kG_V m_824 m_826 m_47 m_57 (kG_self m_827))) rfl rfl rfl (by decide +kernel) ⟨Nat.le_of_ble_eq_true rfl, Nat.le_of_ble_eq_true rfl⟩) (kR_preV hK hF hP hS 0 rfl rfl _) rfl rfl hl.1 rfl (lv_room (Nat.le_of_ble_eq_true rfl)) d_R_round_35 ⟨Nat.le_of_ble_eq_true rfl, Nat.le_of_ble_eq_true rfl⟩) hS (fun σ5 H locs h hP hS => ?_)
      refine lv_iinc (v := (x2 + (-1))) (lv' := [(2, .int (x2 + (-1))), (0, .ref (ad 0))]) hx hb d_R_round_38 hl (k := 1) rfl rfl (by decide) rfl (fun ls hl => ?_)
      refine lv_goto (tgt := 28) hx hb d_R_round_41 (by decide) ?_
      rw [hG28] at h
      exact h _ _ _ hP hS (lv_sub hl [1, 0] rfl))
  obtain ⟨H, eH⟩ : ∃ z, z = s.heap := ⟨_, rfl⟩
  have hP : va_P D vwCl (wR ad cA cB σ) H := by rw [eH]; exact hP
  have hS : va_S (kAR ad s.heap.size) s.heap H [] := by rw [eH]; exact hS
  show W p l e (headSpec (Cond.code y_R_round c_R_round 3 none :: wsG) ({ frames := 3, cells := 0, slots := 0, locals := 66 } : Room)).room s m ([.ref (ad 0)] : List Value).toArray below meth c s.heap [] 0 0 (MQ below (va_Qv post (kBR D ad cA cB) (kAR ad s.heap.size)) ([.ref (ad 0)] : List Value).toArray s 0 0 (kAR ad s.heap.size)) (F0 m 0 ls [])
  suffices k : W p l e (headSpec (Cond.code y_R_round c_R_round 3 none :: wsG) ({ frames := 3, cells := 0, slots := 0, locals := 66 } : Room)).room s m ([.ref (ad 0)] : List Value).toArray below meth c H [] 0 0 (MQ below (va_Qv post (kBR D ad cA cB) (kAR ad s.heap.size)) ([.ref (ad 0)] : List Value).toArray s 0 0 (kAR ad s.heap.size)) (F0 m 0 ls []) by rw [eH] at k; exact k
  refine lv_aload_n hx hb d_R_round_0 rfl (lv_at hl 0 rfl) ?_
  refine kR_i (va_runV (As := []) (rest := []) ⟨hx, hb, hml, hown, htg⟩ (met_R_lastRow l D ad cA cB hap σ H.size _ h) (cwV 0 htg (kG (kG_V m_820 m_822 m_46 m_57 (kG_self m_823))) rfl rfl rfl (by decide +kernel) ⟨Nat.le_of_ble_eq_true rfl, Nat.le_of_ble_eq_true rfl⟩) (kR_preV hK hF hP hS 0 rfl rfl _) rfl rfl hl.1 rfl (lv_room (Nat.le_of_ble_eq_true rfl)) d_R_round_1 ⟨Nat.le_of_ble_eq_true rfl, Nat.le_of_ble_eq_true rfl⟩) hS (fun r2 σ1 H locs h hP hS => ?_)
  refine lv_istore_n (lv' := [(1, .int r2), (0, .ref (ad 0))]) hx hb d_R_round_4 rfl hl (by decide) rfl (fun ls hl => ?_)
  refine lv_iconst (v := 1) hx hb d_R_round_5 (by decide) ?_
  refine lv_istore_n (lv' := [(2, .int 1), (1, .int r2), (0, .ref (ad 0))]) hx hb d_R_round_6 rfl hl (by decide) rfl (fun ls hl => ?_)
  rw [hG7] at h
  exact h _ _ _ hP hS (lv_sub hl [2, 1, 0] rfl)
set_option maxHeartbeats 4000000 in
set_option maxRecDepth 100000 in
theorem met_R_draw (l : Launch) (D : va_G) (ad : Nat → Nat) (cA cB : ClassId) (hap : kapR ad) (σ : S0) (sz : Nat) (a1 : Int32) (post : Int32 → S0 → Prop) (h : Sp_R_draw a1 σ post) : Met l y_R_draw (Cond.code y_R_draw c_R_draw 4 (some .int) :: wsG) ({ frames := 4, cells := 0, slots := 0, locals := 90 } : Room) (kPcR D ad cA cB σ sz [.ref (ad 0), .int a1]) (va_Qi post (kBR D ad cA cB) (kAR ad sz)) 0 0 (kAR ad sz) := by
  refine Met.ofW (cc := c_R_draw) (maxL := 4) (ret := (some .int)) (by decide) rfl ?_
  intro p e s m args below meth c s₁ B hml hv
  obtain ⟨rfl, hsz, hP, hK, hF⟩ := hv
  have hx := B.exec
  have hb := B.bytes
  have hr := B.returns
  have hts := atoms_spec (ws := (Cond.code y_R_draw c_R_draw 4 (some .int) :: wsG)) B.pre
  have htg : ∀ w ∈ wsG, w.before ([.ref (ad 0), .int a1] : List Value).toArray s = true := fun w h => hts w (List.mem_cons_of_mem _ h)
  have hown : s.vm.findClass RX4 = some m.cls := findClass_of_methodNamed B.named
  have hlocks := B.notSynchronized
  subst hsz
  have hD : ∀ σ, va_D (kAR ad s.heap.size) (wR ad cA cB σ) := fun σ => wR_D hap cA cB σ _
  have hS : va_S (kAR ad s.heap.size) s.heap s.heap [] := va_S.rf
  have hl := lv_entry ([.ref (ad 0), .int a1]) (n := 4) (Nat.le_of_ble_eq_true rfl)
  rw [lg_entry_eq]
  generalize (lg_sl ([.ref (ad 0), .int a1]) ++ List.replicate (4 - (lg_sl ([.ref (ad 0), .int a1])).length) Slot.unset).toArray = ls at hl ⊢
  have hl : lv_has ls 4 [(0, .ref (ad 0)), (1, .int a1)] := hl
  unfold Sp_R_draw at h
  obtain ⟨G16, hG16⟩ : ∃ G : Int32 → Int32 → S0 → Prop, G = fun (x1 t1 : Int32) (σ : S0) => ∀ (H : Heap) (locs : List Loc) (ls : Array Slot), va_P D vwCl (wR ad cA cB σ) H → va_S (kAR ad s.heap.size) s.heap H locs → lv_has ls 4 [(0, .ref (ad 0)), (1, .int x1)] → W p l e (headSpec (Cond.code y_R_draw c_R_draw 4 (some .int) :: wsG) ({ frames := 4, cells := 0, slots := 0, locals := 90 } : Room)).room s m ([.ref (ad 0), .int a1] : List Value).toArray below meth c H locs 0 0 (MQ below (va_Qi post (kBR D ad cA cB) (kAR ad s.heap.size)) ([.ref (ad 0), .int a1] : List Value).toArray s 0 0 (kAR ad s.heap.size)) (F0 m 16 ls [.int t1, .ref (ad 0)]) := ⟨_, rfl⟩
  obtain ⟨G36, hG36⟩ : ∃ G : Int32 → Int32 → S0 → Prop, G = fun (x1 x2 : Int32) (σ : S0) => ∀ (H : Heap) (locs : List Loc) (ls : Array Slot), va_P D vwCl (wR ad cA cB σ) H → va_S (kAR ad s.heap.size) s.heap H locs → lv_has ls 4 [(0, .ref (ad 0)), (1, .int x1), (2, .int x2)] → W p l e (headSpec (Cond.code y_R_draw c_R_draw 4 (some .int) :: wsG) ({ frames := 4, cells := 0, slots := 0, locals := 90 } : Room)).room s m ([.ref (ad 0), .int a1] : List Value).toArray below meth c H locs 0 0 (MQ below (va_Qi post (kBR D ad cA cB) (kAR ad s.heap.size)) ([.ref (ad 0), .int a1] : List Value).toArray s 0 0 (kAR ad s.heap.size)) (F0 m 36 ls []) := ⟨_, rfl⟩
  obtain ⟨G117, hG117⟩ : ∃ G : Int32 → Int32 → Int32 → S0 → Prop, G = fun (x1 x2 x3 : Int32) (σ : S0) => ∀ (H : Heap) (locs : List Loc) (ls : Array Slot), va_P D vwCl (wR ad cA cB σ) H → va_S (kAR ad s.heap.size) s.heap H locs → lv_has ls 4 [(0, .ref (ad 0)), (1, .int x1), (2, .int x2), (3, .int x3)] → W p l e (headSpec (Cond.code y_R_draw c_R_draw 4 (some .int) :: wsG) ({ frames := 4, cells := 0, slots := 0, locals := 90 } : Room)).room s m ([.ref (ad 0), .int a1] : List Value).toArray below meth c H locs 0 0 (MQ below (va_Qi post (kBR D ad cA cB) (kAR ad s.heap.size)) ([.ref (ad 0), .int a1] : List Value).toArray s 0 0 (kAR ad s.heap.size)) (F0 m 117 ls []) := ⟨_, rfl⟩
  obtain ⟨G150, hG150⟩ : ∃ G : Int32 → Int32 → Int32 → S0 → Prop, G = fun (x1 x2 x3 : Int32) (σ : S0) => ∀ (H : Heap) (locs : List Loc) (ls : Array Slot), va_P D vwCl (wR ad cA cB σ) H → va_S (kAR ad s.heap.size) s.heap H locs → lv_has ls 4 [(0, .ref (ad 0)), (1, .int x1), (2, .int x2), (3, .int x3)] → W p l e (headSpec (Cond.code y_R_draw c_R_draw 4 (some .int) :: wsG) ({ frames := 4, cells := 0, slots := 0, locals := 90 } : Room)).room s m ([.ref (ad 0), .int a1] : List Value).toArray below meth c H locs 0 0 (MQ below (va_Qi post (kBR D ad cA cB) (kAR ad s.heap.size)) ([.ref (ad 0), .int a1] : List Value).toArray s 0 0 (kAR ad s.heap.size)) (F0 m 150 ls []) := ⟨_, rfl⟩
  have h := h G16 G36 G117 G150
  have h := h (by
    intro x1 t1 σ h
    rw [hG16]
    intro H locs ls hP hS hl
    refine lv_iconst (v := 0) hx hb d_R_draw_16 (by decide) ?_
    refine kR_i (va_runV (As := [.int t1, .int 0]) (rest := []) ⟨hx, hb, hml, hown, htg⟩ (met_R_throwing l D ad cA cB hap σ H.size t1 0 _ h) (cwV 2 htg (kG (kG_V m_716 m_718 m_26 m_57 (kG_self m_719))) rfl rfl rfl (by decide +kernel) ⟨Nat.le_of_ble_eq_true rfl, Nat.le_of_ble_eq_true rfl⟩) (kR_preV hK hF hP hS 0 rfl rfl _) rfl rfl hl.1 rfl (lv_room (Nat.le_of_ble_eq_true rfl)) d_R_draw_17 ⟨Nat.le_of_ble_eq_true rfl, Nat.le_of_ble_eq_true rfl⟩) hS (fun r4 σ3 H locs h hP hS => ?_)
    refine lv_if_eq (tgt := 25) hx hb d_R_draw_20 (by decide) (fun cn => ?_) (fun cn => ?_)
    · have h := h.1 cn
      refine lv_aload_n hx hb d_R_draw_25 rfl (lv_at hl 0 rfl) ?_
      refine lv_iconst (v := 0) hx hb d_R_draw_26 (by decide) ?_
      refine va_put (D := D) (ci := 4) (v := .int 0) (ty := .boolean) (C := RX4) (T := TX4) (N := 27) hx hb htg inG_X4 tyX4 tyX4_ok nmX4 hown hK hP (hD _) hS 0 rfl rfl 8 (by decide) (htg _ m_627) (fun _ h9 => h9) rfl (by decide +kernel) rfl rfl (Nat.le_of_ble_eq_true rfl) d_R_draw_27 (fun H locs hP _ hS => ?_)
      obtain ⟨σ5, eσ5⟩ : ∃ z : S0, z = st σ3 0 1 0 := ⟨_, rfl⟩
      have hP : va_P D vwCl (wR ad cA cB σ5) H := by rw [eσ5]; exact hP
      have h := h σ5 eσ5
      refine lv_aload_n hx hb d_R_draw_30 rfl (lv_at hl 0 rfl) ?_
      refine kR_v (va_runV (As := []) (rest := []) ⟨hx, hb, hml, hown, htg⟩ (met_R_findOver l D ad cA cB hap σ5 H.size _ h) (cwV 0 htg (kG (kG_V m_724 m_726 m_28 m_57 (kG_self m_727))) rfl rfl rfl (by decide +kernel) ⟨Nat.le_of_ble_eq_true rfl, Nat.le_of_ble_eq_true rfl⟩) (kR_preV hK hF hP hS 0 rfl rfl _) rfl rfl hl.1 rfl (lv_room (Nat.le_of_ble_eq_true rfl)) d_R_draw_31 ⟨Nat.le_of_ble_eq_true rfl, Nat.le_of_ble_eq_true rfl⟩) hS (fun σ6 H locs h hP hS => ?_)
      refine lv_iconst (v := 0) hx hb d_R_draw_34 (by decide) ?_
      refine lv_istore_n (lv' := [(2, .int 0), (0, .ref (ad 0)), (1, .int x1)]) hx hb d_R_draw_35 rfl hl (by decide) rfl (fun ls hl => ?_)
      rw [hG36] at h
      exact h _ _ _ hP hS (lv_sub hl [1, 2, 0] rfl)
    · have h := h.2 cn
      refine lv_iconst (v := 0) hx hb d_R_draw_23 (by decide) ?_
      exact W.iret (v := 0) hx hb hr (fun t ht hW => ⟨⟨_, σ3, rfl, h, kBR_of ht hP⟩, hS.F ht⟩) hS.2.2 d_R_draw_24 hlocks)
  have h := h (by
    intro x1 x2 σ h
    rw [hG36]
    intro H locs ls hP hS hl
    refine lv_iload_n hx hb d_R_draw_36 rfl (lv_at hl 2 rfl) ?_
    refine lv_sipush (v := 256) hx hb d_R_draw_37 (by decide) ?_
    refine lv_icmp_ge (tgt := 67) hx hb d_R_draw_40 (by decide) (fun cn => ?_) (fun cn => ?_)
    · have h := h.1 cn
      refine lv_aload_n hx hb d_R_draw_67 rfl (lv_at hl 0 rfl) ?_
      refine kR_v (va_runV (As := []) (rest := []) ⟨hx, hb, hml, hown, htg⟩ (met_R_findLinks l D ad cA cB hap σ H.size _ h) (cwV 0 htg (kG (kG_V m_768 m_770 m_33 m_57 (kG_self m_771))) rfl rfl rfl (by decide +kernel) ⟨Nat.le_of_ble_eq_true rfl, Nat.le_of_ble_eq_true rfl⟩) (kR_preV hK hF hP hS 0 rfl rfl _) rfl rfl hl.1 rfl (lv_room (Nat.le_of_ble_eq_true rfl)) d_R_draw_68 ⟨Nat.le_of_ble_eq_true rfl, Nat.le_of_ble_eq_true rfl⟩) hS (fun σ7 H locs h hP hS => ?_)
      refine lv_aload_n hx hb d_R_draw_71 rfl (lv_at hl 0 rfl) ?_
      refine kR_v (va_runV (As := []) (rest := []) ⟨hx, hb, hml, hown, htg⟩ (met_R_findRows l D ad cA cB hap σ7 H.size _ h) (cwV 0 htg (kG (kG_V m_784 m_786 m_37 m_57 (kG_self m_787))) rfl rfl rfl (by decide +kernel) ⟨Nat.le_of_ble_eq_true rfl, Nat.le_of_ble_eq_true rfl⟩) (kR_preV hK hF hP hS 0 rfl rfl _) rfl rfl hl.1 rfl (lv_room (Nat.le_of_ble_eq_true rfl)) d_R_draw_72 ⟨Nat.le_of_ble_eq_true rfl, Nat.le_of_ble_eq_true rfl⟩) hS (fun σ8 H locs h hP hS => ?_)
      refine lv_aload_n hx hb d_R_draw_75 rfl (lv_at hl 0 rfl) ?_
      refine kR_i (va_runV (As := []) (rest := []) ⟨hx, hb, hml, hown, htg⟩ (met_R_findBends l D ad cA cB hap σ8 H.size _ h) (cwV 0 htg (kG (kG_V m_792 m_794 m_39 m_57 (kG_self m_795))) rfl rfl rfl (by decide +kernel) ⟨Nat.le_of_ble_eq_true rfl, Nat.le_of_ble_eq_true rfl⟩) (kR_preV hK hF hP hS 0 rfl rfl _) rfl rfl hl.1 rfl (lv_room (Nat.le_of_ble_eq_true rfl)) d_R_draw_76 ⟨Nat.le_of_ble_eq_true rfl, Nat.le_of_ble_eq_true rfl⟩) hS (fun r10 σ9 H locs h hP hS => ?_)
      refine lv_if_ne (tgt := 85) hx hb d_R_draw_79 (by decide) (fun cn => ?_) (fun cn => ?_)
      · have h := h.1 cn
        refine lv_aload_n hx hb d_R_draw_85 rfl (lv_at hl 0 rfl) ?_
        refine lv_iload_n hx hb d_R_draw_86 rfl (lv_at hl 1 rfl) ?_
        refine va_put (D := D) (ci := 4) (v := .int x1) (ty := .int) (C := RX4) (T := TX4) (N := 27) hx hb htg inG_X4 tyX4 tyX4_ok nmX4 hown hK hP (hD _) hS 0 rfl rfl 9 (by decide) (htg _ m_628) (fun _ h9 => h9) rfl (by decide +kernel) rfl rfl (Nat.le_of_ble_eq_true rfl) d_R_draw_87 (fun H locs hP _ hS => ?_)
        obtain ⟨σ11, eσ11⟩ : ∃ z : S0, z = st σ9 0 2 x1 := ⟨_, rfl⟩
        have hP : va_P D vwCl (wR ad cA cB σ11) H := by rw [eσ11]; exact hP
        have h := h σ11 eσ11
        refine lv_aload_n hx hb d_R_draw_90 rfl (lv_at hl 0 rfl) ?_
        refine kR_v (va_runV (As := []) (rest := []) ⟨hx, hb, hml, hown, htg⟩ (met_R_placeAll l D ad cA cB hap σ11 H.size _ h) (cwV 0 htg (kG (kG_V m_804 m_806 m_42 m_57 (kG_self m_807))) rfl rfl rfl (by decide +kernel) ⟨Nat.le_of_ble_eq_true rfl, Nat.le_of_ble_eq_true rfl⟩) (kR_preV hK hF hP hS 0 rfl rfl _) rfl rfl hl.1 rfl (lv_room (Nat.le_of_ble_eq_true rfl)) d_R_draw_91 ⟨Nat.le_of_ble_eq_true rfl, Nat.le_of_ble_eq_true rfl⟩) hS (fun σ12 H locs h hP hS => ?_)
        refine lv_aload_n hx hb d_R_draw_94 rfl (lv_at hl 0 rfl) ?_
        refine va_get (D := D) (ci := 4) (v := .ref (ad 16)) (C := RX4) (T := TX4) (N := 27) hx hb htg inG_X4 hown hK hP 0 rfl rfl 21 (by decide) (htg _ m_640) (fun _ h9 => h9) rfl d_R_draw_95 ?_
        refine lv_iconst (v := 0) hx hb d_R_draw_98 (by decide) ?_
        refine lv_aload_n hx hb d_R_draw_99 rfl (lv_at hl 0 rfl) ?_
        refine kR_i (va_runV (As := []) (rest := [.int 0, .ref (ad 16)]) ⟨hx, hb, hml, hown, htg⟩ (met_R_crossedNow l D ad cA cB hap σ12 H.size _ h) (cwV 0 htg (kG (kG_V m_808 m_810 m_43 m_57 (kG_self m_811))) rfl rfl rfl (by decide +kernel) ⟨Nat.le_of_ble_eq_true rfl, Nat.le_of_ble_eq_true rfl⟩) (kR_preV hK hF hP hS 0 rfl rfl _) rfl rfl hl.1 rfl (lv_room (Nat.le_of_ble_eq_true rfl)) d_R_draw_100 ⟨Nat.le_of_ble_eq_true rfl, Nat.le_of_ble_eq_true rfl⟩) hS (fun r14 σ13 H locs h hP hS => ?_)
        have hi := h.1
        have h := h.2
        refine va_iast hx hb hK hP (hD _) hS 16 0 rfl rfl hi d_R_draw_103 (fun H locs hP _ hS => ?_)
        obtain ⟨σ15, eσ15⟩ : ∃ z : S0, z = st σ13 16 (0 : Int32).toNatClampNeg r14 := ⟨_, rfl⟩
        have hP : va_P D vwCl (wR ad cA cB σ15) H := by rw [eσ15]; exact hP
        have h := h σ15 eσ15
        refine lv_aload_n hx hb d_R_draw_104 rfl (lv_at hl 0 rfl) ?_
        refine va_get (D := D) (ci := 4) (v := .ref (ad 16)) (C := RX4) (T := TX4) (N := 27) hx hb htg inG_X4 hown hK hP 0 rfl rfl 21 (by decide) (htg _ m_640) (fun _ h9 => h9) rfl d_R_draw_105 ?_
        refine lv_iconst (v := 0) hx hb d_R_draw_108 (by decide) ?_
        have hi := h.1
        have h := h.2
        refine va_iald hx hb hK hP 16 0 rfl rfl hi d_R_draw_109 ?_
        refine lv_topi (fun v16 ev16 => ?_)
        have h := h v16 ev16
        refine lv_istore_n (lv' := [(2, .int v16), (0, .ref (ad 0)), (1, .int x1)]) hx hb d_R_draw_110 rfl hl (by decide) rfl (fun ls hl => ?_)
        refine lv_aload_n hx hb d_R_draw_111 rfl (lv_at hl 1 rfl) ?_
        refine kR_v (va_runV (As := []) (rest := []) ⟨hx, hb, hml, hown, htg⟩ (met_R_keep l D ad cA cB hap σ15 H.size _ h) (cwV 0 htg (kG (kG_V m_812 m_814 m_44 m_57 (kG_self m_815))) rfl rfl rfl (by decide +kernel) ⟨Nat.le_of_ble_eq_true rfl, Nat.le_of_ble_eq_true rfl⟩) (kR_preV hK hF hP hS 0 rfl rfl _) rfl rfl hl.1 rfl (lv_room (Nat.le_of_ble_eq_true rfl)) d_R_draw_112 ⟨Nat.le_of_ble_eq_true rfl, Nat.le_of_ble_eq_true rfl⟩) hS (fun σ17 H locs h hP hS => ?_)
        refine lv_iconst (v := 1) hx hb d_R_draw_115 (by decide) ?_
        refine lv_istore_n (lv' := [(3, .int 1), (2, .int v16), (0, .ref (ad 0)), (1, .int x1)]) hx hb d_R_draw_116 rfl hl (by decide) rfl (fun ls hl => ?_)
        rw [hG117] at h
        exact h _ _ _ hP hS (lv_sub hl [2, 3, 1, 0] rfl)
      · have h := h.2 cn
        refine lv_bipush (v := (-3)) hx hb d_R_draw_82 (by decide) ?_
        exact W.iret (v := (-3)) hx hb hr (fun t ht hW => ⟨⟨_, σ9, rfl, h, kBR_of ht hP⟩, hS.F ht⟩) hS.2.2 d_R_draw_84 hlocks
    · have h := h.2 cn
      refine lv_aload_n hx hb d_R_draw_43 rfl (lv_at hl 0 rfl) ?_
      refine lv_iload_n hx hb d_R_draw_44 rfl (lv_at hl 2 rfl) ?_
      refine lv_bipush (v := 16) hx hb d_R_draw_45 (by decide) ?_
      refine lv_idiv hx hb d_R_draw_47 (by decide) ?_
      refine lv_iload_n hx hb d_R_draw_48 rfl (lv_at hl 2 rfl) ?_
      refine lv_bipush (v := 16) hx hb d_R_draw_49 (by decide) ?_
      refine lv_irem hx hb d_R_draw_51 (by decide) ?_
      refine kR_i (va_runV (As := [.int (x2 / 16), .int (x2 - x2 / 16 * 16)]) (rest := []) ⟨hx, hb, hml, hown, htg⟩ (met_R_misfits l D ad cA cB hap σ H.size (x2 / 16) (x2 - x2 / 16 * 16) _ h) (cwV 2 htg (kG (kG_V m_756 m_758 m_31 m_57 (kG_self m_759))) rfl rfl rfl (by decide +kernel) ⟨Nat.le_of_ble_eq_true rfl, Nat.le_of_ble_eq_true rfl⟩) (kR_preV hK hF hP hS 0 rfl rfl _) rfl rfl hl.1 rfl (lv_room (Nat.le_of_ble_eq_true rfl)) d_R_draw_52 ⟨Nat.le_of_ble_eq_true rfl, Nat.le_of_ble_eq_true rfl⟩) hS (fun r19 σ18 H locs h hP hS => ?_)
      refine lv_if_eq (tgt := 61) hx hb d_R_draw_55 (by decide) (fun cn => ?_) (fun cn => ?_)
      · have h := h.1 cn
        refine lv_iinc (v := (x2 + 1)) (lv' := [(2, .int (x2 + 1)), (0, .ref (ad 0)), (1, .int x1)]) hx hb d_R_draw_61 hl (k := 2) rfl rfl (by decide) rfl (fun ls hl => ?_)
        refine lv_goto (tgt := 36) hx hb d_R_draw_64 (by decide) ?_
        rw [hG36] at h
        exact h _ _ _ hP hS (lv_sub hl [1, 2, 0] rfl)
      · have h := h.2 cn
        refine lv_bipush (v := (-2)) hx hb d_R_draw_58 (by decide) ?_
        exact W.iret (v := (-2)) hx hb hr (fun t ht hW => ⟨⟨_, σ18, rfl, h, kBR_of ht hP⟩, hS.F ht⟩) hS.2.2 d_R_draw_60 hlocks)
  have h := h (by
    intro x1 x2 x3 σ h
    rw [hG117]
    intro H locs ls hP hS hl
    refine lv_iload_n hx hb d_R_draw_117 rfl (lv_at hl 3 rfl) ?_
    refine lv_iload_n hx hb d_R_draw_118 rfl (lv_at hl 1 rfl) ?_
    refine lv_icmp_gt (tgt := 177) hx hb d_R_draw_119 (by decide) (fun cn => ?_) (fun cn => ?_)
    · have h := h.1 cn
      refine lv_aload_n hx hb d_R_draw_177 rfl (lv_at hl 0 rfl) ?_
      refine lv_iconst (v := 1) hx hb d_R_draw_178 (by decide) ?_
      refine va_put (D := D) (ci := 4) (v := .int 1) (ty := .boolean) (C := RX4) (T := TX4) (N := 27) hx hb htg inG_X4 tyX4 tyX4_ok nmX4 hown hK hP (hD _) hS 0 rfl rfl 8 (by decide) (htg _ m_627) (fun _ h9 => h9) rfl (by decide +kernel) rfl rfl (Nat.le_of_ble_eq_true rfl) d_R_draw_179 (fun H locs hP _ hS => ?_)
      obtain ⟨σ20, eσ20⟩ : ∃ z : S0, z = st σ 0 1 1 := ⟨_, rfl⟩
      have hP : va_P D vwCl (wR ad cA cB σ20) H := by rw [eσ20]; exact hP
      have h := h σ20 eσ20
      refine lv_aload_n hx hb d_R_draw_182 rfl (lv_at hl 0 rfl) ?_
      refine kR_v (va_runV (As := []) (rest := []) ⟨hx, hb, hml, hown, htg⟩ (met_R_write l D ad cA cB hap σ20 H.size _ h) (cwV 0 htg (kG (kG_V m_832 m_834 m_49 m_57 (kG_self m_835))) rfl rfl rfl (by decide +kernel) ⟨Nat.le_of_ble_eq_true rfl, Nat.le_of_ble_eq_true rfl⟩) (kR_preV hK hF hP hS 0 rfl rfl _) rfl rfl hl.1 rfl (lv_room (Nat.le_of_ble_eq_true rfl)) d_R_draw_183 ⟨Nat.le_of_ble_eq_true rfl, Nat.le_of_ble_eq_true rfl⟩) hS (fun σ21 H locs h hP hS => ?_)
      refine lv_iload_n hx hb d_R_draw_186 rfl (lv_at hl 2 rfl) ?_
      exact W.iret (v := x2) hx hb hr (fun t ht hW => ⟨⟨_, σ21, rfl, h, kBR_of ht hP⟩, hS.F ht⟩) hS.2.2 d_R_draw_187 hlocks
    · have h := h.2 cn
      refine lv_aload_n hx hb d_R_draw_122 rfl (lv_at hl 0 rfl) ?_
      refine kR_v (va_runV (As := []) (rest := []) ⟨hx, hb, hml, hown, htg⟩ (met_R_round l D ad cA cB hap σ H.size _ h) (cwV 0 htg (kG (kG_V m_816 m_818 m_45 m_57 (kG_self m_819))) rfl rfl rfl (by decide +kernel) ⟨Nat.le_of_ble_eq_true rfl, Nat.le_of_ble_eq_true rfl⟩) (kR_preV hK hF hP hS 0 rfl rfl _) rfl rfl hl.1 rfl (lv_room (Nat.le_of_ble_eq_true rfl)) d_R_draw_123 ⟨Nat.le_of_ble_eq_true rfl, Nat.le_of_ble_eq_true rfl⟩) hS (fun σ22 H locs h hP hS => ?_)
      refine lv_aload_n hx hb d_R_draw_126 rfl (lv_at hl 0 rfl) ?_
      refine va_get (D := D) (ci := 4) (v := .ref (ad 16)) (C := RX4) (T := TX4) (N := 27) hx hb htg inG_X4 hown hK hP 0 rfl rfl 21 (by decide) (htg _ m_640) (fun _ h9 => h9) rfl d_R_draw_127 ?_
      refine lv_iload_n hx hb d_R_draw_130 rfl (lv_at hl 3 rfl) ?_
      refine lv_aload_n hx hb d_R_draw_131 rfl (lv_at hl 0 rfl) ?_
      refine kR_i (va_runV (As := []) (rest := [.int x3, .ref (ad 16)]) ⟨hx, hb, hml, hown, htg⟩ (met_R_crossedNow l D ad cA cB hap σ22 H.size _ h) (cwV 0 htg (kG (kG_V m_808 m_810 m_43 m_57 (kG_self m_811))) rfl rfl rfl (by decide +kernel) ⟨Nat.le_of_ble_eq_true rfl, Nat.le_of_ble_eq_true rfl⟩) (kR_preV hK hF hP hS 0 rfl rfl _) rfl rfl hl.1 rfl (lv_room (Nat.le_of_ble_eq_true rfl)) d_R_draw_132 ⟨Nat.le_of_ble_eq_true rfl, Nat.le_of_ble_eq_true rfl⟩) hS (fun r24 σ23 H locs h hP hS => ?_)
      have hi := h.1
      have h := h.2
      refine va_iast hx hb hK hP (hD _) hS 16 0 rfl rfl hi d_R_draw_135 (fun H locs hP _ hS => ?_)
      obtain ⟨σ25, eσ25⟩ : ∃ z : S0, z = st σ23 16 x3.toNatClampNeg r24 := ⟨_, rfl⟩
      have hP : va_P D vwCl (wR ad cA cB σ25) H := by rw [eσ25]; exact hP
      have h := h σ25 eσ25
      refine lv_aload_n hx hb d_R_draw_136 rfl (lv_at hl 0 rfl) ?_
      refine va_get (D := D) (ci := 4) (v := .ref (ad 16)) (C := RX4) (T := TX4) (N := 27) hx hb htg inG_X4 hown hK hP 0 rfl rfl 21 (by decide) (htg _ m_640) (fun _ h9 => h9) rfl d_R_draw_137 ?_
      refine lv_iload_n hx hb d_R_draw_140 rfl (lv_at hl 3 rfl) ?_
      have hi := h.1
      have h := h.2
      refine va_iald hx hb hK hP 16 0 rfl rfl hi d_R_draw_141 ?_
      refine lv_iload_n hx hb d_R_draw_142 rfl (lv_at hl 2 rfl) ?_
      refine lv_icmp_ge (tgt := 150) hx hb d_R_draw_143 (by decide) (fun cn => ?_) (fun cn => ?_)
      · have h := h.1 cn
        rw [hG150] at h
        exact h _ _ _ hP hS (lv_sub hl [0, 1, 2, 3] rfl)
      · have h := h.2 cn
        refine lv_aload_n hx hb d_R_draw_146 rfl (lv_at hl 0 rfl) ?_
        refine kR_v (va_runV (As := []) (rest := []) ⟨hx, hb, hml, hown, htg⟩ (met_R_keep l D ad cA cB hap σ25 H.size _ h) (cwV 0 htg (kG (kG_V m_812 m_814 m_44 m_57 (kG_self m_815))) rfl rfl rfl (by decide +kernel) ⟨Nat.le_of_ble_eq_true rfl, Nat.le_of_ble_eq_true rfl⟩) (kR_preV hK hF hP hS 0 rfl rfl _) rfl rfl hl.1 rfl (lv_room (Nat.le_of_ble_eq_true rfl)) d_R_draw_147 ⟨Nat.le_of_ble_eq_true rfl, Nat.le_of_ble_eq_true rfl⟩) hS (fun σ26 H locs h hP hS => ?_)
        rw [hG150] at h
        exact h _ _ _ hP hS (lv_sub hl [0, 1, 2, 3] rfl))
  have h := h (by
    intro x1 x2 x3 σ h
    rw [hG150]
    intro H locs ls hP hS hl
    refine lv_aload_n hx hb d_R_draw_150 rfl (lv_at hl 0 rfl) ?_
    refine va_get (D := D) (ci := 4) (v := .ref (ad 16)) (C := RX4) (T := TX4) (N := 27) hx hb htg inG_X4 hown hK hP 0 rfl rfl 21 (by decide) (htg _ m_640) (fun _ h9 => h9) rfl d_R_draw_151 ?_
    refine lv_iload_n hx hb d_R_draw_154 rfl (lv_at hl 3 rfl) ?_
    have hi := h.1
    have h := h.2
    refine va_iald hx hb hK hP 16 0 rfl rfl hi d_R_draw_155 ?_
    refine lv_iload_n hx hb d_R_draw_156 rfl (lv_at hl 2 rfl) ?_
    refine lv_icmp_ge (tgt := 169) hx hb d_R_draw_157 (by decide) (fun cn => ?_) (fun cn => ?_)
    · have h := h.1 cn
      refine lv_iload_n hx hb d_R_draw_169 rfl (lv_at hl 2 rfl) ?_
      refine lv_istore_n (lv' := [(2, .int x2), (0, .ref (ad 0)), (1, .int x1), (3, .int x3)]) hx hb d_R_draw_170 rfl hl (by decide) rfl (fun ls hl => ?_)
      refine lv_iinc (v := (x3 + 1)) (lv' := [(3, .int (x3 + 1)), (2, .int x2), (0, .ref (ad 0)), (1, .int x1)]) hx hb d_R_draw_171 hl (k := 3) rfl rfl (by decide) rfl (fun ls hl => ?_)
      refine lv_goto (tgt := 117) hx hb d_R_draw_174 (by decide) ?_
      rw [hG117] at h
      exact h _ _ _ hP hS (lv_sub hl [2, 3, 1, 0] rfl)
    · have h := h.2 cn
      refine lv_aload_n hx hb d_R_draw_160 rfl (lv_at hl 0 rfl) ?_
      refine va_get (D := D) (ci := 4) (v := .ref (ad 16)) (C := RX4) (T := TX4) (N := 27) hx hb htg inG_X4 hown hK hP 0 rfl rfl 21 (by decide) (htg _ m_640) (fun _ h9 => h9) rfl d_R_draw_161 ?_
      refine lv_iload_n hx hb d_R_draw_164 rfl (lv_at hl 3 rfl) ?_
      have hi := h.1
      have h := h.2
      refine va_iald hx hb hK hP 16 0 rfl rfl hi d_R_draw_165 ?_
      refine lv_goto (tgt := 170) hx hb d_R_draw_166 (by decide) ?_
      refine lv_topi (fun v27 ev27 => ?_)
      have h := h v27 ev27
      refine lv_istore_n (lv' := [(2, .int v27), (0, .ref (ad 0)), (1, .int x1), (3, .int x3)]) hx hb d_R_draw_170 rfl hl (by decide) rfl (fun ls hl => ?_)
      refine lv_iinc (v := (x3 + 1)) (lv' := [(3, .int (x3 + 1)), (2, .int v27), (0, .ref (ad 0)), (1, .int x1)]) hx hb d_R_draw_171 hl (k := 3) rfl rfl (by decide) rfl (fun ls hl => ?_)
      refine lv_goto (tgt := 117) hx hb d_R_draw_174 (by decide) ?_
      rw [hG117] at h
      exact h _ _ _ hP hS (lv_sub hl [2, 3, 1, 0] rfl))
  obtain ⟨H, eH⟩ : ∃ z, z = s.heap := ⟨_, rfl⟩
  have hP : va_P D vwCl (wR ad cA cB σ) H := by rw [eH]; exact hP
  have hS : va_S (kAR ad s.heap.size) s.heap H [] := by rw [eH]; exact hS
  show W p l e (headSpec (Cond.code y_R_draw c_R_draw 4 (some .int) :: wsG) ({ frames := 4, cells := 0, slots := 0, locals := 90 } : Room)).room s m ([.ref (ad 0), .int a1] : List Value).toArray below meth c s.heap [] 0 0 (MQ below (va_Qi post (kBR D ad cA cB) (kAR ad s.heap.size)) ([.ref (ad 0), .int a1] : List Value).toArray s 0 0 (kAR ad s.heap.size)) (F0 m 0 ls [])
  suffices k : W p l e (headSpec (Cond.code y_R_draw c_R_draw 4 (some .int) :: wsG) ({ frames := 4, cells := 0, slots := 0, locals := 90 } : Room)).room s m ([.ref (ad 0), .int a1] : List Value).toArray below meth c H [] 0 0 (MQ below (va_Qi post (kBR D ad cA cB) (kAR ad s.heap.size)) ([.ref (ad 0), .int a1] : List Value).toArray s 0 0 (kAR ad s.heap.size)) (F0 m 0 ls []) by rw [eH] at k; exact k
  refine lv_aload_n hx hb d_R_draw_0 rfl (lv_at hl 0 rfl) ?_
  refine lv_iload_n hx hb d_R_draw_1 rfl (lv_at hl 1 rfl) ?_
  refine lv_iconst (v := 0) hx hb d_R_draw_2 (by decide) ?_
  refine lv_bipush (v := 12) hx hb d_R_draw_3 (by decide) ?_
  refine kR_i (va_runS (As := [.int a1, .int 0, .int 12]) (rest := [.ref (ad 0)]) ⟨hx, hb, hml, hown, htg⟩ (met_R_in l D ad cA cB hap σ H.size a1 0 12 _ h) (cwS 3 htg (kG (kG_S m_713 m_714 m_57 (kG_self m_715))) rfl rfl rfl (by decide +kernel) ⟨Nat.le_of_ble_eq_true rfl, Nat.le_of_ble_eq_true rfl⟩) (kR_pre hK hF hP hS _) rfl rfl hl.1 rfl (lv_room (Nat.le_of_ble_eq_true rfl)) d_R_draw_5 ⟨Nat.le_of_ble_eq_true rfl, Nat.le_of_ble_eq_true rfl⟩) hS (fun r2 σ1 H locs h hP hS => ?_)
  refine lv_if_ne (tgt := 15) hx hb d_R_draw_8 (by decide) (fun cn => ?_) (fun cn => ?_)
  · have h := h.1 cn
    refine lv_iconst (v := 0) hx hb d_R_draw_15 (by decide) ?_
    rw [hG16] at h
    exact h _ _ _ hP hS (lv_sub hl [0, 1] rfl)
  · have h := h.2 cn
    refine lv_iconst (v := 1) hx hb d_R_draw_11 (by decide) ?_
    refine lv_goto (tgt := 16) hx hb d_R_draw_12 (by decide) ?_
    rw [hG16] at h
    exact h _ _ _ hP hS (lv_sub hl [0, 1] rfl)
set_option maxHeartbeats 4000000 in
set_option maxRecDepth 100000 in
theorem met_R_crossings (l : Launch) (D : va_G) (ad : Nat → Nat) (cA cB : ClassId) (hap : kapR ad) (σ : S0) (sz : Nat) (a1 : Int32) (post : Int32 → S0 → Prop) (h : Sp_R_crossings a1 σ post) : Met l y_R_crossings (Cond.code y_R_crossings c_R_crossings 2 (some .int) :: wsG) ({ frames := 1, cells := 0, slots := 0, locals := 22 } : Room) (kPcR D ad cA cB σ sz [.ref (ad 0), .int a1]) (va_Qi post (kBR D ad cA cB) (kAR ad sz)) 0 0 (kAR ad sz) := by
  refine Met.ofW (cc := c_R_crossings) (maxL := 2) (ret := (some .int)) (by decide) rfl ?_
  intro p e s m args below meth c s₁ B hml hv
  obtain ⟨rfl, hsz, hP, hK, hF⟩ := hv
  have hx := B.exec
  have hb := B.bytes
  have hr := B.returns
  have hts := atoms_spec (ws := (Cond.code y_R_crossings c_R_crossings 2 (some .int) :: wsG)) B.pre
  have htg : ∀ w ∈ wsG, w.before ([.ref (ad 0), .int a1] : List Value).toArray s = true := fun w h => hts w (List.mem_cons_of_mem _ h)
  have hown : s.vm.findClass RX4 = some m.cls := findClass_of_methodNamed B.named
  have hlocks := B.notSynchronized
  subst hsz
  have hD : ∀ σ, va_D (kAR ad s.heap.size) (wR ad cA cB σ) := fun σ => wR_D hap cA cB σ _
  have hS : va_S (kAR ad s.heap.size) s.heap s.heap [] := va_S.rf
  have hl := lv_entry ([.ref (ad 0), .int a1]) (n := 2) (Nat.le_of_ble_eq_true rfl)
  rw [lg_entry_eq]
  generalize (lg_sl ([.ref (ad 0), .int a1]) ++ List.replicate (2 - (lg_sl ([.ref (ad 0), .int a1])).length) Slot.unset).toArray = ls at hl ⊢
  have hl : lv_has ls 2 [(0, .ref (ad 0)), (1, .int a1)] := hl
  unfold Sp_R_crossings at h
  obtain ⟨G25, hG25⟩ : ∃ G : Int32 → Int32 → S0 → Prop, G = fun (x1 t1 : Int32) (σ : S0) => ∀ (H : Heap) (locs : List Loc) (ls : Array Slot), va_P D vwCl (wR ad cA cB σ) H → va_S (kAR ad s.heap.size) s.heap H locs → lv_has ls 2 [(0, .ref (ad 0)), (1, .int x1)] → W p l e (headSpec (Cond.code y_R_crossings c_R_crossings 2 (some .int) :: wsG) ({ frames := 1, cells := 0, slots := 0, locals := 22 } : Room)).room s m ([.ref (ad 0), .int a1] : List Value).toArray below meth c H locs 0 0 (MQ below (va_Qi post (kBR D ad cA cB) (kAR ad s.heap.size)) ([.ref (ad 0), .int a1] : List Value).toArray s 0 0 (kAR ad s.heap.size)) (F0 m 25 ls [.int t1, .ref (ad 0)]) := ⟨_, rfl⟩
  obtain ⟨G37, hG37⟩ : ∃ G : Int32 → Int32 → Int32 → S0 → Prop, G = fun (x1 t1 t2 : Int32) (σ : S0) => ∀ (H : Heap) (locs : List Loc) (ls : Array Slot), va_P D vwCl (wR ad cA cB σ) H → va_S (kAR ad s.heap.size) s.heap H locs → lv_has ls 2 [(0, .ref (ad 0)), (1, .int x1)] → W p l e (headSpec (Cond.code y_R_crossings c_R_crossings 2 (some .int) :: wsG) ({ frames := 1, cells := 0, slots := 0, locals := 22 } : Room)).room s m ([.ref (ad 0), .int a1] : List Value).toArray below meth c H locs 0 0 (MQ below (va_Qi post (kBR D ad cA cB) (kAR ad s.heap.size)) ([.ref (ad 0), .int a1] : List Value).toArray s 0 0 (kAR ad s.heap.size)) (F0 m 37 ls [.int t2, .int t1, .ref (ad 0)]) := ⟨_, rfl⟩
  have h := h G25 G37
  have h := h (by
    intro x1 t1 σ h
    rw [hG25]
    intro H locs ls hP hS hl
    refine lv_aload_n hx hb d_R_crossings_25 rfl (lv_at hl 0 rfl) ?_
    refine va_get (D := D) (ci := 4) (v := .int (σ 0 1)) (C := RX4) (T := TX4) (N := 27) hx hb htg inG_X4 hown hK hP 0 rfl rfl 8 (by decide) (htg _ m_627) (fun _ h9 => h9) rfl d_R_crossings_26 ?_
    refine lv_if_ne (tgt := 36) hx hb d_R_crossings_29 (by decide) (fun cn => ?_) (fun cn => ?_)
    · have h := h.1 cn
      refine lv_iconst (v := 0) hx hb d_R_crossings_36 (by decide) ?_
      rw [hG37] at h
      exact h _ _ _ hP hS (lv_sub hl [0, 1] rfl)
    · have h := h.2 cn
      refine lv_iconst (v := 1) hx hb d_R_crossings_32 (by decide) ?_
      refine lv_goto (tgt := 37) hx hb d_R_crossings_33 (by decide) ?_
      rw [hG37] at h
      exact h _ _ _ hP hS (lv_sub hl [0, 1] rfl))
  have h := h (by
    intro x1 t1 t2 σ h
    rw [hG37]
    intro H locs ls hP hS hl
    refine kR_i (va_runV (As := [.int t1, .int t2]) (rest := []) ⟨hx, hb, hml, hown, htg⟩ (met_R_throwing l D ad cA cB hap σ H.size t1 t2 _ h) (cwV 2 htg (kG (kG_V m_716 m_718 m_26 m_57 (kG_self m_719))) rfl rfl rfl (by decide +kernel) ⟨Nat.le_of_ble_eq_true rfl, Nat.le_of_ble_eq_true rfl⟩) (kR_preV hK hF hP hS 0 rfl rfl _) rfl rfl hl.1 rfl (lv_room (Nat.le_of_ble_eq_true rfl)) d_R_crossings_37 ⟨Nat.le_of_ble_eq_true rfl, Nat.le_of_ble_eq_true rfl⟩) hS (fun r2 σ1 H locs h hP hS => ?_)
    refine lv_if_eq (tgt := 45) hx hb d_R_crossings_40 (by decide) (fun cn => ?_) (fun cn => ?_)
    · have h := h.1 cn
      refine lv_aload_n hx hb d_R_crossings_45 rfl (lv_at hl 0 rfl) ?_
      refine va_get (D := D) (ci := 4) (v := .ref (ad 16)) (C := RX4) (T := TX4) (N := 27) hx hb htg inG_X4 hown hK hP 0 rfl rfl 21 (by decide) (htg _ m_640) (fun _ h9 => h9) rfl d_R_crossings_46 ?_
      refine lv_iload_n hx hb d_R_crossings_49 rfl (lv_at hl 1 rfl) ?_
      have hi := h.1
      have h := h.2
      refine va_iald hx hb hK hP 16 0 rfl rfl hi d_R_crossings_50 ?_
      exact W.iret (v := (σ1 16 x1.toNatClampNeg)) hx hb hr (fun t ht hW => ⟨⟨_, σ1, rfl, h, kBR_of ht hP⟩, hS.F ht⟩) hS.2.2 d_R_crossings_51 hlocks
    · have h := h.2 cn
      refine lv_iconst (v := 0) hx hb d_R_crossings_43 (by decide) ?_
      exact W.iret (v := 0) hx hb hr (fun t ht hW => ⟨⟨_, σ1, rfl, h, kBR_of ht hP⟩, hS.F ht⟩) hS.2.2 d_R_crossings_44 hlocks)
  obtain ⟨H, eH⟩ : ∃ z, z = s.heap := ⟨_, rfl⟩
  have hP : va_P D vwCl (wR ad cA cB σ) H := by rw [eH]; exact hP
  have hS : va_S (kAR ad s.heap.size) s.heap H [] := by rw [eH]; exact hS
  show W p l e (headSpec (Cond.code y_R_crossings c_R_crossings 2 (some .int) :: wsG) ({ frames := 1, cells := 0, slots := 0, locals := 22 } : Room)).room s m ([.ref (ad 0), .int a1] : List Value).toArray below meth c s.heap [] 0 0 (MQ below (va_Qi post (kBR D ad cA cB) (kAR ad s.heap.size)) ([.ref (ad 0), .int a1] : List Value).toArray s 0 0 (kAR ad s.heap.size)) (F0 m 0 ls [])
  suffices k : W p l e (headSpec (Cond.code y_R_crossings c_R_crossings 2 (some .int) :: wsG) ({ frames := 1, cells := 0, slots := 0, locals := 22 } : Room)).room s m ([.ref (ad 0), .int a1] : List Value).toArray below meth c H [] 0 0 (MQ below (va_Qi post (kBR D ad cA cB) (kAR ad s.heap.size)) ([.ref (ad 0), .int a1] : List Value).toArray s 0 0 (kAR ad s.heap.size)) (F0 m 0 ls []) by rw [eH] at k; exact k
  refine lv_aload_n hx hb d_R_crossings_0 rfl (lv_at hl 0 rfl) ?_
  refine lv_iload_n hx hb d_R_crossings_1 rfl (lv_at hl 1 rfl) ?_
  refine lv_if_lt (tgt := 20) hx hb d_R_crossings_2 (by decide) (fun cn => ?_) (fun cn => ?_)
  · have h := h.1 cn
    refine lv_iconst (v := 1) hx hb d_R_crossings_20 (by decide) ?_
    refine lv_goto (tgt := 25) hx hb d_R_crossings_21 (by decide) ?_
    rw [hG25] at h
    exact h _ _ _ hP hS (lv_sub hl [0, 1] rfl)
  · have h := h.2 cn
    refine lv_aload_n hx hb d_R_crossings_5 rfl (lv_at hl 0 rfl) ?_
    refine va_get (D := D) (ci := 4) (v := .int (σ 0 1)) (C := RX4) (T := TX4) (N := 27) hx hb htg inG_X4 hown hK hP 0 rfl rfl 8 (by decide) (htg _ m_627) (fun _ h9 => h9) rfl d_R_crossings_6 ?_
    refine lv_if_eq (tgt := 24) hx hb d_R_crossings_9 (by decide) (fun cn => ?_) (fun cn => ?_)
    · have h := h.1 cn
      refine lv_iconst (v := 0) hx hb d_R_crossings_24 (by decide) ?_
      rw [hG25] at h
      exact h _ _ _ hP hS (lv_sub hl [0, 1] rfl)
    · have h := h.2 cn
      refine lv_iload_n hx hb d_R_crossings_12 rfl (lv_at hl 1 rfl) ?_
      refine lv_aload_n hx hb d_R_crossings_13 rfl (lv_at hl 0 rfl) ?_
      refine va_get (D := D) (ci := 4) (v := .int (σ 0 2)) (C := RX4) (T := TX4) (N := 27) hx hb htg inG_X4 hown hK hP 0 rfl rfl 9 (by decide) (htg _ m_628) (fun _ h9 => h9) rfl d_R_crossings_14 ?_
      refine lv_icmp_le (tgt := 24) hx hb d_R_crossings_17 (by decide) (fun cn => ?_) (fun cn => ?_)
      · have h := h.1 cn
        refine lv_iconst (v := 0) hx hb d_R_crossings_24 (by decide) ?_
        rw [hG25] at h
        exact h _ _ _ hP hS (lv_sub hl [0, 1] rfl)
      · have h := h.2 cn
        refine lv_iconst (v := 1) hx hb d_R_crossings_20 (by decide) ?_
        refine lv_goto (tgt := 25) hx hb d_R_crossings_21 (by decide) ?_
        rw [hG25] at h
        exact h _ _ _ hP hS (lv_sub hl [0, 1] rfl)
set_option maxHeartbeats 4000000 in
set_option maxRecDepth 100000 in
theorem met_R_at (l : Launch) (D : va_G) (ad : Nat → Nat) (cA cB : ClassId) (hap : kapR ad) (σ : S0) (sz : Nat) (a1 a2 : Int32) (post : Int32 → S0 → Prop) (h : Sp_R_at a1 a2 σ post) : Met l y_R_at (Cond.code y_R_at c_R_at 4 (some .int) :: wsG) ({ frames := 2, cells := 0, slots := 0, locals := 44 } : Room) (kPcR D ad cA cB σ sz [.ref (ad 0), .int a1, .int a2]) (va_Qi post (kBR D ad cA cB) (kAR ad sz)) 0 0 (kAR ad sz) := by
  refine Met.ofW (cc := c_R_at) (maxL := 4) (ret := (some .int)) (by decide) rfl ?_
  intro p e s m args below meth c s₁ B hml hv
  obtain ⟨rfl, hsz, hP, hK, hF⟩ := hv
  have hx := B.exec
  have hb := B.bytes
  have hr := B.returns
  have hts := atoms_spec (ws := (Cond.code y_R_at c_R_at 4 (some .int) :: wsG)) B.pre
  have htg : ∀ w ∈ wsG, w.before ([.ref (ad 0), .int a1, .int a2] : List Value).toArray s = true := fun w h => hts w (List.mem_cons_of_mem _ h)
  have hown : s.vm.findClass RX4 = some m.cls := findClass_of_methodNamed B.named
  have hlocks := B.notSynchronized
  subst hsz
  have hD : ∀ σ, va_D (kAR ad s.heap.size) (wR ad cA cB σ) := fun σ => wR_D hap cA cB σ _
  have hS : va_S (kAR ad s.heap.size) s.heap s.heap [] := va_S.rf
  have hl := lv_entry ([.ref (ad 0), .int a1, .int a2]) (n := 4) (Nat.le_of_ble_eq_true rfl)
  rw [lg_entry_eq]
  generalize (lg_sl ([.ref (ad 0), .int a1, .int a2]) ++ List.replicate (4 - (lg_sl ([.ref (ad 0), .int a1, .int a2])).length) Slot.unset).toArray = ls at hl ⊢
  have hl : lv_has ls 4 [(0, .ref (ad 0)), (1, .int a1), (2, .int a2)] := hl
  unfold Sp_R_at at h
  obtain ⟨G22, hG22⟩ : ∃ G : Int32 → Int32 → Int32 → S0 → Prop, G = fun (x1 x2 t1 : Int32) (σ : S0) => ∀ (H : Heap) (locs : List Loc) (ls : Array Slot), va_P D vwCl (wR ad cA cB σ) H → va_S (kAR ad s.heap.size) s.heap H locs → lv_has ls 4 [(0, .ref (ad 0)), (1, .int x1), (2, .int x2)] → W p l e (headSpec (Cond.code y_R_at c_R_at 4 (some .int) :: wsG) ({ frames := 2, cells := 0, slots := 0, locals := 44 } : Room)).room s m ([.ref (ad 0), .int a1, .int a2] : List Value).toArray below meth c H locs 0 0 (MQ below (va_Qi post (kBR D ad cA cB) (kAR ad s.heap.size)) ([.ref (ad 0), .int a1, .int a2] : List Value).toArray s 0 0 (kAR ad s.heap.size)) (F0 m 22 ls [.int t1, .ref (ad 0)]) := ⟨_, rfl⟩
  obtain ⟨G34, hG34⟩ : ∃ G : Int32 → Int32 → Int32 → Int32 → S0 → Prop, G = fun (x1 x2 t1 t2 : Int32) (σ : S0) => ∀ (H : Heap) (locs : List Loc) (ls : Array Slot), va_P D vwCl (wR ad cA cB σ) H → va_S (kAR ad s.heap.size) s.heap H locs → lv_has ls 4 [(0, .ref (ad 0)), (1, .int x1), (2, .int x2)] → W p l e (headSpec (Cond.code y_R_at c_R_at 4 (some .int) :: wsG) ({ frames := 2, cells := 0, slots := 0, locals := 44 } : Room)).room s m ([.ref (ad 0), .int a1, .int a2] : List Value).toArray below meth c H locs 0 0 (MQ below (va_Qi post (kBR D ad cA cB) (kAR ad s.heap.size)) ([.ref (ad 0), .int a1, .int a2] : List Value).toArray s 0 0 (kAR ad s.heap.size)) (F0 m 34 ls [.int t2, .int t1, .ref (ad 0)]) := ⟨_, rfl⟩
  have h := h G22 G34
  have h := h (by
    intro x1 x2 t1 σ h
    rw [hG22]
    intro H locs ls hP hS hl
    refine lv_aload_n hx hb d_R_at_22 rfl (lv_at hl 0 rfl) ?_
    refine va_get (D := D) (ci := 4) (v := .int (σ 0 1)) (C := RX4) (T := TX4) (N := 27) hx hb htg inG_X4 hown hK hP 0 rfl rfl 8 (by decide) (htg _ m_627) (fun _ h9 => h9) rfl d_R_at_23 ?_
    refine lv_if_ne (tgt := 33) hx hb d_R_at_26 (by decide) (fun cn => ?_) (fun cn => ?_)
    · have h := h.1 cn
      refine lv_iconst (v := 0) hx hb d_R_at_33 (by decide) ?_
      rw [hG34] at h
      exact h _ _ _ hP hS (lv_sub hl [0, 1, 2] rfl)
    · have h := h.2 cn
      refine lv_iconst (v := 1) hx hb d_R_at_29 (by decide) ?_
      refine lv_goto (tgt := 34) hx hb d_R_at_30 (by decide) ?_
      rw [hG34] at h
      exact h _ _ _ hP hS (lv_sub hl [0, 1, 2] rfl))
  have h := h (by
    intro x1 x2 t1 t2 σ h
    rw [hG34]
    intro H locs ls hP hS hl
    refine kR_i (va_runV (As := [.int t1, .int t2]) (rest := []) ⟨hx, hb, hml, hown, htg⟩ (met_R_throwing l D ad cA cB hap σ H.size t1 t2 _ h) (cwV 2 htg (kG (kG_V m_716 m_718 m_26 m_57 (kG_self m_719))) rfl rfl rfl (by decide +kernel) ⟨Nat.le_of_ble_eq_true rfl, Nat.le_of_ble_eq_true rfl⟩) (kR_preV hK hF hP hS 0 rfl rfl _) rfl rfl hl.1 rfl (lv_room (Nat.le_of_ble_eq_true rfl)) d_R_at_34 ⟨Nat.le_of_ble_eq_true rfl, Nat.le_of_ble_eq_true rfl⟩) hS (fun r6 σ5 H locs h hP hS => ?_)
    refine lv_if_eq (tgt := 42) hx hb d_R_at_37 (by decide) (fun cn => ?_) (fun cn => ?_)
    · have h := h.1 cn
      refine lv_aload_n hx hb d_R_at_42 rfl (lv_at hl 0 rfl) ?_
      refine va_get (D := D) (ci := 4) (v := .ref (ad 2)) (C := RX4) (T := TX4) (N := 27) hx hb htg inG_X4 hown hK hP 0 rfl rfl 2 (by decide) (htg _ m_621) (fun _ h9 => h9) rfl d_R_at_43 ?_
      refine lv_iload_n hx hb d_R_at_46 rfl (lv_at hl 1 rfl) ?_
      have hi := h.1
      have h := h.2
      refine va_iald hx hb hK hP 2 0 rfl rfl hi d_R_at_47 ?_
      refine lv_topi (fun v7 ev7 => ?_)
      have h := h v7 ev7
      refine lv_istore_n (lv' := [(3, .int v7), (0, .ref (ad 0)), (1, .int x1), (2, .int x2)]) hx hb d_R_at_48 rfl hl (by decide) rfl (fun ls hl => ?_)
      refine lv_aload_n hx hb d_R_at_49 rfl (lv_at hl 1 rfl) ?_
      refine lv_iload_n hx hb d_R_at_50 rfl (lv_at hl 0 rfl) ?_
      refine kR_i (va_runV (As := [.int v7]) (rest := []) ⟨hx, hb, hml, hown, htg⟩ (met_R_isDrawn l D ad cA cB hap σ5 H.size v7 _ h) (cwV 1 htg (kG (kG_V m_776 m_778 m_35 m_57 (kG_self m_779))) rfl rfl rfl (by decide +kernel) ⟨Nat.le_of_ble_eq_true rfl, Nat.le_of_ble_eq_true rfl⟩) (kR_preV hK hF hP hS 0 rfl rfl _) rfl rfl hl.1 rfl (lv_room (Nat.le_of_ble_eq_true rfl)) d_R_at_51 ⟨Nat.le_of_ble_eq_true rfl, Nat.le_of_ble_eq_true rfl⟩) hS (fun r9 σ8 H locs h hP hS => ?_)
      refine lv_if_ne (tgt := 59) hx hb d_R_at_54 (by decide) (fun cn => ?_) (fun cn => ?_)
      · have h := h.1 cn
        refine lv_iload_n hx hb d_R_at_59 rfl (lv_at hl 3 rfl) ?_
        refine lv_if_ne (tgt := 72) hx hb d_R_at_60 (by decide) (fun cn => ?_) (fun cn => ?_)
        · have h := h.1 cn
          refine lv_aload_n hx hb d_R_at_72 rfl (lv_at hl 1 rfl) ?_
          refine va_get (D := D) (ci := 4) (v := .ref (ad 10)) (C := RX4) (T := TX4) (N := 27) hx hb htg inG_X4 hown hK hP 0 rfl rfl 12 (by decide) (htg _ m_631) (fun _ h9 => h9) rfl d_R_at_73 ?_
          refine lv_iload_n hx hb d_R_at_76 rfl (lv_at hl 0 rfl) ?_
          have hi := h.1
          have h := h.2
          refine va_iald hx hb hK hP 10 0 rfl rfl hi d_R_at_77 ?_
          exact W.iret (v := (σ8 10 v7.toNatClampNeg)) hx hb hr (fun t ht hW => ⟨⟨_, σ8, rfl, h, kBR_of ht hP⟩, hS.F ht⟩) hS.2.2 d_R_at_78 hlocks
        · have h := h.2 cn
          refine lv_aload_n hx hb d_R_at_63 rfl (lv_at hl 1 rfl) ?_
          refine va_get (D := D) (ci := 4) (v := .ref (ad 8)) (C := RX4) (T := TX4) (N := 27) hx hb htg inG_X4 hown hK hP 0 rfl rfl 10 (by decide) (htg _ m_629) (fun _ h9 => h9) rfl d_R_at_64 ?_
          refine lv_iload_n hx hb d_R_at_67 rfl (lv_at hl 0 rfl) ?_
          have hi := h.1
          have h := h.2
          refine va_iald hx hb hK hP 8 0 rfl rfl hi d_R_at_68 ?_
          refine lv_goto (tgt := 78) hx hb d_R_at_69 (by decide) ?_
          exact W.iret (v := (σ8 8 v7.toNatClampNeg)) hx hb hr (fun t ht hW => ⟨⟨_, σ8, rfl, h, kBR_of ht hP⟩, hS.F ht⟩) hS.2.2 d_R_at_78 hlocks
      · have h := h.2 cn
        refine lv_iconst (v := (-1)) hx hb d_R_at_57 (by decide) ?_
        exact W.iret (v := (-1)) hx hb hr (fun t ht hW => ⟨⟨_, σ8, rfl, h, kBR_of ht hP⟩, hS.F ht⟩) hS.2.2 d_R_at_58 hlocks
    · have h := h.2 cn
      refine lv_iconst (v := 0) hx hb d_R_at_40 (by decide) ?_
      exact W.iret (v := 0) hx hb hr (fun t ht hW => ⟨⟨_, σ5, rfl, h, kBR_of ht hP⟩, hS.F ht⟩) hS.2.2 d_R_at_41 hlocks)
  obtain ⟨H, eH⟩ : ∃ z, z = s.heap := ⟨_, rfl⟩
  have hP : va_P D vwCl (wR ad cA cB σ) H := by rw [eH]; exact hP
  have hS : va_S (kAR ad s.heap.size) s.heap H [] := by rw [eH]; exact hS
  show W p l e (headSpec (Cond.code y_R_at c_R_at 4 (some .int) :: wsG) ({ frames := 2, cells := 0, slots := 0, locals := 44 } : Room)).room s m ([.ref (ad 0), .int a1, .int a2] : List Value).toArray below meth c s.heap [] 0 0 (MQ below (va_Qi post (kBR D ad cA cB) (kAR ad s.heap.size)) ([.ref (ad 0), .int a1, .int a2] : List Value).toArray s 0 0 (kAR ad s.heap.size)) (F0 m 0 ls [])
  suffices k : W p l e (headSpec (Cond.code y_R_at c_R_at 4 (some .int) :: wsG) ({ frames := 2, cells := 0, slots := 0, locals := 44 } : Room)).room s m ([.ref (ad 0), .int a1, .int a2] : List Value).toArray below meth c H [] 0 0 (MQ below (va_Qi post (kBR D ad cA cB) (kAR ad s.heap.size)) ([.ref (ad 0), .int a1, .int a2] : List Value).toArray s 0 0 (kAR ad s.heap.size)) (F0 m 0 ls []) by rw [eH] at k; exact k
  refine lv_aload_n hx hb d_R_at_0 rfl (lv_at hl 0 rfl) ?_
  refine lv_iload_n hx hb d_R_at_1 rfl (lv_at hl 1 rfl) ?_
  refine kR_i (va_runS (As := [.int a1]) (rest := [.ref (ad 0)]) ⟨hx, hb, hml, hown, htg⟩ (met_R_isContext l D ad cA cB hap σ H.size a1 _ h) (cwS 1 htg (kG (kG_S m_710 m_711 m_57 (kG_self m_712))) rfl rfl rfl (by decide +kernel) ⟨Nat.le_of_ble_eq_true rfl, Nat.le_of_ble_eq_true rfl⟩) (kR_pre hK hF hP hS _) rfl rfl hl.1 rfl (lv_room (Nat.le_of_ble_eq_true rfl)) d_R_at_2 ⟨Nat.le_of_ble_eq_true rfl, Nat.le_of_ble_eq_true rfl⟩) hS (fun r2 σ1 H locs h hP hS => ?_)
  refine lv_if_eq (tgt := 17) hx hb d_R_at_5 (by decide) (fun cn => ?_) (fun cn => ?_)
  · have h := h.1 cn
    refine lv_iconst (v := 1) hx hb d_R_at_17 (by decide) ?_
    refine lv_goto (tgt := 22) hx hb d_R_at_18 (by decide) ?_
    rw [hG22] at h
    exact h _ _ _ hP hS (lv_sub hl [0, 1, 2] rfl)
  · have h := h.2 cn
    refine lv_iload_n hx hb d_R_at_8 rfl (lv_at hl 2 rfl) ?_
    refine lv_iconst (v := 0) hx hb d_R_at_9 (by decide) ?_
    refine lv_iconst (v := 1) hx hb d_R_at_10 (by decide) ?_
    refine kR_i (va_runS (As := [.int a2, .int 0, .int 1]) (rest := [.ref (ad 0)]) ⟨hx, hb, hml, hown, htg⟩ (met_R_in l D ad cA cB hap σ1 H.size a2 0 1 _ h) (cwS 3 htg (kG (kG_S m_713 m_714 m_57 (kG_self m_715))) rfl rfl rfl (by decide +kernel) ⟨Nat.le_of_ble_eq_true rfl, Nat.le_of_ble_eq_true rfl⟩) (kR_pre hK hF hP hS _) rfl rfl hl.1 rfl (lv_room (Nat.le_of_ble_eq_true rfl)) d_R_at_11 ⟨Nat.le_of_ble_eq_true rfl, Nat.le_of_ble_eq_true rfl⟩) hS (fun r4 σ3 H locs h hP hS => ?_)
    refine lv_if_ne (tgt := 21) hx hb d_R_at_14 (by decide) (fun cn => ?_) (fun cn => ?_)
    · have h := h.1 cn
      refine lv_iconst (v := 0) hx hb d_R_at_21 (by decide) ?_
      rw [hG22] at h
      exact h _ _ _ hP hS (lv_sub hl [0, 1, 2] rfl)
    · have h := h.2 cn
      refine lv_iconst (v := 1) hx hb d_R_at_17 (by decide) ?_
      refine lv_goto (tgt := 22) hx hb d_R_at_18 (by decide) ?_
      rw [hG22] at h
      exact h _ _ _ hP hS (lv_sub hl [0, 1, 2] rfl)
set_option maxHeartbeats 4000000 in
set_option maxRecDepth 100000 in
theorem met_R_links (l : Launch) (D : va_G) (ad : Nat → Nat) (cA cB : ClassId) (hap : kapR ad) (σ : S0) (sz : Nat) (post : Int32 → S0 → Prop) (h : Sp_R_links  σ post) : Met l y_R_links (Cond.code y_R_links c_R_links 1 (some .int) :: wsG) ({ frames := 1, cells := 0, slots := 0, locals := 22 } : Room) (kPcR D ad cA cB σ sz [.ref (ad 0)]) (va_Qi post (kBR D ad cA cB) (kAR ad sz)) 0 0 (kAR ad sz) := by
  refine Met.ofW (cc := c_R_links) (maxL := 1) (ret := (some .int)) (by decide) rfl ?_
  intro p e s m args below meth c s₁ B hml hv
  obtain ⟨rfl, hsz, hP, hK, hF⟩ := hv
  have hx := B.exec
  have hb := B.bytes
  have hr := B.returns
  have hts := atoms_spec (ws := (Cond.code y_R_links c_R_links 1 (some .int) :: wsG)) B.pre
  have htg : ∀ w ∈ wsG, w.before ([.ref (ad 0)] : List Value).toArray s = true := fun w h => hts w (List.mem_cons_of_mem _ h)
  have hown : s.vm.findClass RX4 = some m.cls := findClass_of_methodNamed B.named
  have hlocks := B.notSynchronized
  subst hsz
  have hD : ∀ σ, va_D (kAR ad s.heap.size) (wR ad cA cB σ) := fun σ => wR_D hap cA cB σ _
  have hS : va_S (kAR ad s.heap.size) s.heap s.heap [] := va_S.rf
  have hl := lv_entry ([.ref (ad 0)]) (n := 1) (Nat.le_of_ble_eq_true rfl)
  rw [lg_entry_eq]
  generalize (lg_sl ([.ref (ad 0)]) ++ List.replicate (1 - (lg_sl ([.ref (ad 0)])).length) Slot.unset).toArray = ls at hl ⊢
  have hl : lv_has ls 1 [(0, .ref (ad 0))] := hl
  unfold Sp_R_links at h
  obtain ⟨G13, hG13⟩ : ∃ G : Int32 → S0 → Prop, G = fun (t1 : Int32) (σ : S0) => ∀ (H : Heap) (locs : List Loc) (ls : Array Slot), va_P D vwCl (wR ad cA cB σ) H → va_S (kAR ad s.heap.size) s.heap H locs → lv_has ls 1 [(0, .ref (ad 0))] → W p l e (headSpec (Cond.code y_R_links c_R_links 1 (some .int) :: wsG) ({ frames := 1, cells := 0, slots := 0, locals := 22 } : Room)).room s m ([.ref (ad 0)] : List Value).toArray below meth c H locs 0 0 (MQ below (va_Qi post (kBR D ad cA cB) (kAR ad s.heap.size)) ([.ref (ad 0)] : List Value).toArray s 0 0 (kAR ad s.heap.size)) (F0 m 13 ls [.int t1, .ref (ad 0)]) := ⟨_, rfl⟩
  have h := h G13
  have h := h (by
    intro t1 σ h
    rw [hG13]
    intro H locs ls hP hS hl
    refine lv_iconst (v := 0) hx hb d_R_links_13 (by decide) ?_
    refine kR_i (va_runV (As := [.int t1, .int 0]) (rest := []) ⟨hx, hb, hml, hown, htg⟩ (met_R_throwing l D ad cA cB hap σ H.size t1 0 _ h) (cwV 2 htg (kG (kG_V m_716 m_718 m_26 m_57 (kG_self m_719))) rfl rfl rfl (by decide +kernel) ⟨Nat.le_of_ble_eq_true rfl, Nat.le_of_ble_eq_true rfl⟩) (kR_preV hK hF hP hS 0 rfl rfl _) rfl rfl hl.1 rfl (lv_room (Nat.le_of_ble_eq_true rfl)) d_R_links_14 ⟨Nat.le_of_ble_eq_true rfl, Nat.le_of_ble_eq_true rfl⟩) hS (fun r2 σ1 H locs h hP hS => ?_)
    refine lv_if_eq (tgt := 24) hx hb d_R_links_17 (by decide) (fun cn => ?_) (fun cn => ?_)
    · have h := h.1 cn
      refine lv_aload_n hx hb d_R_links_24 rfl (lv_at hl 0 rfl) ?_
      refine va_get (D := D) (ci := 4) (v := .int (σ1 0 5)) (C := RX4) (T := TX4) (N := 27) hx hb htg inG_X4 hown hK hP 0 rfl rfl 20 (by decide) (htg _ m_639) (fun _ h9 => h9) rfl d_R_links_25 ?_
      exact W.iret (v := (σ1 0 5)) hx hb hr (fun t ht hW => ⟨⟨_, σ1, rfl, h, kBR_of ht hP⟩, hS.F ht⟩) hS.2.2 d_R_links_28 hlocks
    · have h := h.2 cn
      refine lv_iconst (v := 0) hx hb d_R_links_20 (by decide) ?_
      refine lv_goto (tgt := 28) hx hb d_R_links_21 (by decide) ?_
      exact W.iret (v := 0) hx hb hr (fun t ht hW => ⟨⟨_, σ1, rfl, h, kBR_of ht hP⟩, hS.F ht⟩) hS.2.2 d_R_links_28 hlocks)
  obtain ⟨H, eH⟩ : ∃ z, z = s.heap := ⟨_, rfl⟩
  have hP : va_P D vwCl (wR ad cA cB σ) H := by rw [eH]; exact hP
  have hS : va_S (kAR ad s.heap.size) s.heap H [] := by rw [eH]; exact hS
  show W p l e (headSpec (Cond.code y_R_links c_R_links 1 (some .int) :: wsG) ({ frames := 1, cells := 0, slots := 0, locals := 22 } : Room)).room s m ([.ref (ad 0)] : List Value).toArray below meth c s.heap [] 0 0 (MQ below (va_Qi post (kBR D ad cA cB) (kAR ad s.heap.size)) ([.ref (ad 0)] : List Value).toArray s 0 0 (kAR ad s.heap.size)) (F0 m 0 ls [])
  suffices k : W p l e (headSpec (Cond.code y_R_links c_R_links 1 (some .int) :: wsG) ({ frames := 1, cells := 0, slots := 0, locals := 22 } : Room)).room s m ([.ref (ad 0)] : List Value).toArray below meth c H [] 0 0 (MQ below (va_Qi post (kBR D ad cA cB) (kAR ad s.heap.size)) ([.ref (ad 0)] : List Value).toArray s 0 0 (kAR ad s.heap.size)) (F0 m 0 ls []) by rw [eH] at k; exact k
  refine lv_aload_n hx hb d_R_links_0 rfl (lv_at hl 0 rfl) ?_
  refine lv_aload_n hx hb d_R_links_1 rfl (lv_at hl 0 rfl) ?_
  refine va_get (D := D) (ci := 4) (v := .int (σ 0 1)) (C := RX4) (T := TX4) (N := 27) hx hb htg inG_X4 hown hK hP 0 rfl rfl 8 (by decide) (htg _ m_627) (fun _ h9 => h9) rfl d_R_links_2 ?_
  refine lv_if_ne (tgt := 12) hx hb d_R_links_5 (by decide) (fun cn => ?_) (fun cn => ?_)
  · have h := h.1 cn
    refine lv_iconst (v := 0) hx hb d_R_links_12 (by decide) ?_
    rw [hG13] at h
    exact h _ _ _ hP hS (lv_sub hl [0] rfl)
  · have h := h.2 cn
    refine lv_iconst (v := 1) hx hb d_R_links_8 (by decide) ?_
    refine lv_goto (tgt := 13) hx hb d_R_links_9 (by decide) ?_
    rw [hG13] at h
    exact h _ _ _ hP hS (lv_sub hl [0] rfl)
set_option maxHeartbeats 4000000 in
set_option maxRecDepth 100000 in
theorem met_R_link (l : Launch) (D : va_G) (ad : Nat → Nat) (cA cB : ClassId) (hap : kapR ad) (σ : S0) (sz : Nat) (a1 a2 : Int32) (post : Int32 → S0 → Prop) (h : Sp_R_link a1 a2 σ post) : Met l y_R_link (Cond.code y_R_link c_R_link 4 (some .int) :: wsG) ({ frames := 1, cells := 0, slots := 0, locals := 22 } : Room) (kPcR D ad cA cB σ sz [.ref (ad 0), .int a1, .int a2]) (va_Qi post (kBR D ad cA cB) (kAR ad sz)) 0 0 (kAR ad sz) := by
  refine Met.ofW (cc := c_R_link) (maxL := 4) (ret := (some .int)) (by decide) rfl ?_
  intro p e s m args below meth c s₁ B hml hv
  obtain ⟨rfl, hsz, hP, hK, hF⟩ := hv
  have hx := B.exec
  have hb := B.bytes
  have hr := B.returns
  have hts := atoms_spec (ws := (Cond.code y_R_link c_R_link 4 (some .int) :: wsG)) B.pre
  have htg : ∀ w ∈ wsG, w.before ([.ref (ad 0), .int a1, .int a2] : List Value).toArray s = true := fun w h => hts w (List.mem_cons_of_mem _ h)
  have hown : s.vm.findClass RX4 = some m.cls := findClass_of_methodNamed B.named
  have hlocks := B.notSynchronized
  subst hsz
  have hD : ∀ σ, va_D (kAR ad s.heap.size) (wR ad cA cB σ) := fun σ => wR_D hap cA cB σ _
  have hS : va_S (kAR ad s.heap.size) s.heap s.heap [] := va_S.rf
  have hl := lv_entry ([.ref (ad 0), .int a1, .int a2]) (n := 4) (Nat.le_of_ble_eq_true rfl)
  rw [lg_entry_eq]
  generalize (lg_sl ([.ref (ad 0), .int a1, .int a2]) ++ List.replicate (4 - (lg_sl ([.ref (ad 0), .int a1, .int a2])).length) Slot.unset).toArray = ls at hl ⊢
  have hl : lv_has ls 4 [(0, .ref (ad 0)), (1, .int a1), (2, .int a2)] := hl
  unfold Sp_R_link at h
  obtain ⟨G39, hG39⟩ : ∃ G : Int32 → Int32 → Int32 → S0 → Prop, G = fun (x1 x2 t0 : Int32) (σ : S0) => ∀ (H : Heap) (locs : List Loc) (ls : Array Slot), va_P D vwCl (wR ad cA cB σ) H → va_S (kAR ad s.heap.size) s.heap H locs → lv_has ls 4 [(0, .ref (ad 0)), (1, .int x1), (2, .int x2)] → W p l e (headSpec (Cond.code y_R_link c_R_link 4 (some .int) :: wsG) ({ frames := 1, cells := 0, slots := 0, locals := 22 } : Room)).room s m ([.ref (ad 0), .int a1, .int a2] : List Value).toArray below meth c H locs 0 0 (MQ below (va_Qi post (kBR D ad cA cB) (kAR ad s.heap.size)) ([.ref (ad 0), .int a1, .int a2] : List Value).toArray s 0 0 (kAR ad s.heap.size)) (F0 m 39 ls [.int t0]) := ⟨_, rfl⟩
  obtain ⟨G54, hG54⟩ : ∃ G : Int32 → Int32 → Int32 → Int32 → S0 → Prop, G = fun (x1 x2 t1 t2 : Int32) (σ : S0) => ∀ (H : Heap) (locs : List Loc) (ls : Array Slot), va_P D vwCl (wR ad cA cB σ) H → va_S (kAR ad s.heap.size) s.heap H locs → lv_has ls 4 [(0, .ref (ad 0)), (1, .int x1), (2, .int x2)] → W p l e (headSpec (Cond.code y_R_link c_R_link 4 (some .int) :: wsG) ({ frames := 1, cells := 0, slots := 0, locals := 22 } : Room)).room s m ([.ref (ad 0), .int a1, .int a2] : List Value).toArray below meth c H locs 0 0 (MQ below (va_Qi post (kBR D ad cA cB) (kAR ad s.heap.size)) ([.ref (ad 0), .int a1, .int a2] : List Value).toArray s 0 0 (kAR ad s.heap.size)) (F0 m 54 ls [.int t2, .int t1, .ref (ad 0)]) := ⟨_, rfl⟩
  have h := h G39 G54
  have h := h (by
    intro x1 x2 t0 σ h
    rw [hG39]
    intro H locs ls hP hS hl
    refine lv_istore_n (lv' := [(3, .int t0), (0, .ref (ad 0)), (1, .int x1), (2, .int x2)]) hx hb d_R_link_39 rfl hl (by decide) rfl (fun ls hl => ?_)
    refine lv_aload_n hx hb d_R_link_40 rfl (lv_at hl 1 rfl) ?_
    refine lv_iload_n hx hb d_R_link_41 rfl (lv_at hl 0 rfl) ?_
    refine lv_aload_n hx hb d_R_link_42 rfl (lv_at hl 1 rfl) ?_
    refine va_get (D := D) (ci := 4) (v := .int (σ 0 1)) (C := RX4) (T := TX4) (N := 27) hx hb htg inG_X4 hown hK hP 0 rfl rfl 8 (by decide) (htg _ m_627) (fun _ h9 => h9) rfl d_R_link_43 ?_
    refine lv_if_ne (tgt := 53) hx hb d_R_link_46 (by decide) (fun cn => ?_) (fun cn => ?_)
    · have h := h.1 cn
      refine lv_iconst (v := 0) hx hb d_R_link_53 (by decide) ?_
      rw [hG54] at h
      exact h _ _ _ hP hS (lv_sub hl [1, 2, 3] rfl)
    · have h := h.2 cn
      refine lv_iconst (v := 1) hx hb d_R_link_49 (by decide) ?_
      refine lv_goto (tgt := 54) hx hb d_R_link_50 (by decide) ?_
      rw [hG54] at h
      exact h _ _ _ hP hS (lv_sub hl [1, 2, 3] rfl))
  have h := h (by
    intro x1 x2 t1 t2 σ h
    rw [hG54]
    intro H locs ls hP hS hl
    refine kR_i (va_runV (As := [.int t1, .int t2]) (rest := []) ⟨hx, hb, hml, hown, htg⟩ (met_R_throwing l D ad cA cB hap σ H.size t1 t2 _ h) (cwV 2 htg (kG (kG_V m_716 m_718 m_26 m_57 (kG_self m_719))) rfl rfl rfl (by decide +kernel) ⟨Nat.le_of_ble_eq_true rfl, Nat.le_of_ble_eq_true rfl⟩) (kR_preV hK hF hP hS 0 rfl rfl _) rfl rfl hl.1 rfl (lv_room (Nat.le_of_ble_eq_true rfl)) d_R_link_54 ⟨Nat.le_of_ble_eq_true rfl, Nat.le_of_ble_eq_true rfl⟩) hS (fun r4 σ3 H locs h hP hS => ?_)
    refine lv_if_eq (tgt := 62) hx hb d_R_link_57 (by decide) (fun cn => ?_) (fun cn => ?_)
    · have h := h.1 cn
      refine lv_iload_n hx hb d_R_link_62 rfl (lv_at hl 2 rfl) ?_
      by_cases cn0 : x2 = 0
      · have h := h.1.1 cn0
        refine lv_tableIn (tgt := 88) hx hb d_R_link_63 (by rw [cn0]; decide) (by rw [cn0]; decide) (by rw [cn0]; rfl) (by decide) ?_
        refine lv_aload_n hx hb d_R_link_88 rfl (lv_at hl 0 rfl) ?_
        refine va_get (D := D) (ci := 4) (v := .ref (ad 13)) (C := RX4) (T := TX4) (N := 27) hx hb htg inG_X4 hown hK hP 0 rfl rfl 17 (by decide) (htg _ m_636) (fun _ h9 => h9) rfl d_R_link_89 ?_
        refine lv_iload_n hx hb d_R_link_92 rfl (lv_at hl 1 rfl) ?_
        have hi := h.1
        have h := h.2
        refine va_iald hx hb hK hP 13 0 rfl rfl hi d_R_link_93 ?_
        exact W.iret (v := (σ3 13 x1.toNatClampNeg)) hx hb hr (fun t ht hW => ⟨⟨_, σ3, rfl, h, kBR_of ht hP⟩, hS.F ht⟩) hS.2.2 d_R_link_94 hlocks
      by_cases cn1 : x2 = 1
      · have h := h.1.2.1 cn1
        refine lv_tableIn (tgt := 95) hx hb d_R_link_63 (by rw [cn1]; decide) (by rw [cn1]; decide) (by rw [cn1]; rfl) (by decide) ?_
        refine lv_aload_n hx hb d_R_link_95 rfl (lv_at hl 0 rfl) ?_
        refine va_get (D := D) (ci := 4) (v := .ref (ad 14)) (C := RX4) (T := TX4) (N := 27) hx hb htg inG_X4 hown hK hP 0 rfl rfl 18 (by decide) (htg _ m_637) (fun _ h9 => h9) rfl d_R_link_96 ?_
        refine lv_iload_n hx hb d_R_link_99 rfl (lv_at hl 1 rfl) ?_
        have hi := h.1
        have h := h.2
        refine va_iald hx hb hK hP 14 0 rfl rfl hi d_R_link_100 ?_
        exact W.iret (v := (σ3 14 x1.toNatClampNeg)) hx hb hr (fun t ht hW => ⟨⟨_, σ3, rfl, h, kBR_of ht hP⟩, hS.F ht⟩) hS.2.2 d_R_link_101 hlocks
      by_cases cn2 : x2 = 2
      · have h := h.1.2.2 cn2
        refine lv_tableIn (tgt := 102) hx hb d_R_link_63 (by rw [cn2]; decide) (by rw [cn2]; decide) (by rw [cn2]; rfl) (by decide) ?_
        refine lv_aload_n hx hb d_R_link_102 rfl (lv_at hl 0 rfl) ?_
        refine lv_iload_n hx hb d_R_link_103 rfl (lv_at hl 1 rfl) ?_
        refine kR_i (va_runV (As := [.int x1]) (rest := []) ⟨hx, hb, hml, hown, htg⟩ (met_R_bendsOf l D ad cA cB hap σ3 H.size x1 _ h) (cwV 1 htg (kG (kG_V m_796 m_798 m_40 m_57 (kG_self m_799))) rfl rfl rfl (by decide +kernel) ⟨Nat.le_of_ble_eq_true rfl, Nat.le_of_ble_eq_true rfl⟩) (kR_preV hK hF hP hS 0 rfl rfl _) rfl rfl hl.1 rfl (lv_room (Nat.le_of_ble_eq_true rfl)) d_R_link_104 ⟨Nat.le_of_ble_eq_true rfl, Nat.le_of_ble_eq_true rfl⟩) hS (fun r6 σ5 H locs h hP hS => ?_)
        exact W.iret (v := r6) hx hb hr (fun t ht hW => ⟨⟨_, σ5, rfl, h, kBR_of ht hP⟩, hS.F ht⟩) hS.2.2 d_R_link_107 hlocks
      have h := h.2 ⟨cn0, cn1, cn2⟩
      refine lv_tableOut (tgt := 108) hx hb d_R_link_63 (sw_out 2 (by decide) (fun j hj => by rcases Nat.lt_or_ge j 1 with q | q; (have : j = 0 := by omega); subst this; exact cn0; rcases Nat.lt_or_ge j 2 with q | q; (have : j = 1 := by omega); subst this; exact cn1; rcases Nat.lt_or_ge j 3 with q | q; (have : j = 2 := by omega); subst this; exact cn2; omega)) (by decide) ?_
      refine lv_aload_n hx hb d_R_link_108 rfl (lv_at hl 0 rfl) ?_
      refine va_get (D := D) (ci := 4) (v := .ref (ad 10)) (C := RX4) (T := TX4) (N := 27) hx hb htg inG_X4 hown hK hP 0 rfl rfl 12 (by decide) (htg _ m_631) (fun _ h9 => h9) rfl d_R_link_109 ?_
      refine lv_aload_n hx hb d_R_link_112 rfl (lv_at hl 0 rfl) ?_
      refine va_get (D := D) (ci := 4) (v := .ref (ad 15)) (C := RX4) (T := TX4) (N := 27) hx hb htg inG_X4 hown hK hP 0 rfl rfl 19 (by decide) (htg _ m_638) (fun _ h9 => h9) rfl d_R_link_113 ?_
      refine lv_iload_n hx hb d_R_link_116 rfl (lv_at hl 1 rfl) ?_
      have hi := h.1
      have h := h.2
      refine va_iald hx hb hK hP 15 0 rfl rfl hi d_R_link_117 ?_
      refine lv_iload_n hx hb d_R_link_118 rfl (lv_at hl 2 rfl) ?_
      refine lv_iadd hx hb d_R_link_119 ?_
      refine lv_iconst (v := 3) hx hb d_R_link_120 (by decide) ?_
      refine lv_isub hx hb d_R_link_121 ?_
      have hi := h.1
      have h := h.2
      refine va_iald hx hb hK hP 10 0 rfl rfl hi d_R_link_122 ?_
      exact W.iret (v := (σ3 10 (((σ3 15 x1.toNatClampNeg) + x2) - 3).toNatClampNeg)) hx hb hr (fun t ht hW => ⟨⟨_, σ3, rfl, h, kBR_of ht hP⟩, hS.F ht⟩) hS.2.2 d_R_link_123 hlocks
    · have h := h.2 cn
      refine lv_iconst (v := 0) hx hb d_R_link_60 (by decide) ?_
      exact W.iret (v := 0) hx hb hr (fun t ht hW => ⟨⟨_, σ3, rfl, h, kBR_of ht hP⟩, hS.F ht⟩) hS.2.2 d_R_link_61 hlocks)
  obtain ⟨H, eH⟩ : ∃ z, z = s.heap := ⟨_, rfl⟩
  have hP : va_P D vwCl (wR ad cA cB σ) H := by rw [eH]; exact hP
  have hS : va_S (kAR ad s.heap.size) s.heap H [] := by rw [eH]; exact hS
  show W p l e (headSpec (Cond.code y_R_link c_R_link 4 (some .int) :: wsG) ({ frames := 1, cells := 0, slots := 0, locals := 22 } : Room)).room s m ([.ref (ad 0), .int a1, .int a2] : List Value).toArray below meth c s.heap [] 0 0 (MQ below (va_Qi post (kBR D ad cA cB) (kAR ad s.heap.size)) ([.ref (ad 0), .int a1, .int a2] : List Value).toArray s 0 0 (kAR ad s.heap.size)) (F0 m 0 ls [])
  suffices k : W p l e (headSpec (Cond.code y_R_link c_R_link 4 (some .int) :: wsG) ({ frames := 1, cells := 0, slots := 0, locals := 22 } : Room)).room s m ([.ref (ad 0), .int a1, .int a2] : List Value).toArray below meth c H [] 0 0 (MQ below (va_Qi post (kBR D ad cA cB) (kAR ad s.heap.size)) ([.ref (ad 0), .int a1, .int a2] : List Value).toArray s 0 0 (kAR ad s.heap.size)) (F0 m 0 ls []) by rw [eH] at k; exact k
  refine lv_iload_n hx hb d_R_link_0 rfl (lv_at hl 1 rfl) ?_
  refine lv_if_lt (tgt := 34) hx hb d_R_link_1 (by decide) (fun cn => ?_) (fun cn => ?_)
  · have h := h.1 cn
    refine lv_iconst (v := 1) hx hb d_R_link_34 (by decide) ?_
    refine lv_goto (tgt := 39) hx hb d_R_link_35 (by decide) ?_
    rw [hG39] at h
    exact h _ _ _ hP hS (lv_sub hl [0, 1, 2] rfl)
  · have h := h.2 cn
    refine lv_iload_n hx hb d_R_link_4 rfl (lv_at hl 2 rfl) ?_
    refine lv_if_lt (tgt := 34) hx hb d_R_link_5 (by decide) (fun cn => ?_) (fun cn => ?_)
    · have h := h.1 cn
      refine lv_iconst (v := 1) hx hb d_R_link_34 (by decide) ?_
      refine lv_goto (tgt := 39) hx hb d_R_link_35 (by decide) ?_
      rw [hG39] at h
      exact h _ _ _ hP hS (lv_sub hl [0, 1, 2] rfl)
    · have h := h.2 cn
      refine lv_aload_n hx hb d_R_link_8 rfl (lv_at hl 0 rfl) ?_
      refine va_get (D := D) (ci := 4) (v := .int (σ 0 1)) (C := RX4) (T := TX4) (N := 27) hx hb htg inG_X4 hown hK hP 0 rfl rfl 8 (by decide) (htg _ m_627) (fun _ h9 => h9) rfl d_R_link_9 ?_
      refine lv_if_eq (tgt := 38) hx hb d_R_link_12 (by decide) (fun cn => ?_) (fun cn => ?_)
      · have h := h.1 cn
        refine lv_iconst (v := 0) hx hb d_R_link_38 (by decide) ?_
        rw [hG39] at h
        exact h _ _ _ hP hS (lv_sub hl [0, 1, 2] rfl)
      · have h := h.2 cn
        refine lv_iload_n hx hb d_R_link_15 rfl (lv_at hl 1 rfl) ?_
        refine lv_aload_n hx hb d_R_link_16 rfl (lv_at hl 0 rfl) ?_
        refine va_get (D := D) (ci := 4) (v := .int (σ 0 5)) (C := RX4) (T := TX4) (N := 27) hx hb htg inG_X4 hown hK hP 0 rfl rfl 20 (by decide) (htg _ m_639) (fun _ h9 => h9) rfl d_R_link_17 ?_
        refine lv_icmp_ge (tgt := 34) hx hb d_R_link_20 (by decide) (fun cn => ?_) (fun cn => ?_)
        · have h := h.1 cn
          refine lv_iconst (v := 1) hx hb d_R_link_34 (by decide) ?_
          refine lv_goto (tgt := 39) hx hb d_R_link_35 (by decide) ?_
          rw [hG39] at h
          exact h _ _ _ hP hS (lv_sub hl [0, 1, 2] rfl)
        · have h := h.2 cn
          refine lv_iload_n hx hb d_R_link_23 rfl (lv_at hl 2 rfl) ?_
          refine lv_iconst (v := 2) hx hb d_R_link_24 (by decide) ?_
          refine lv_aload_n hx hb d_R_link_25 rfl (lv_at hl 0 rfl) ?_
          refine lv_iload_n hx hb d_R_link_26 rfl (lv_at hl 1 rfl) ?_
          refine kR_i (va_runV (As := [.int a1]) (rest := [.int 2, .int a2]) ⟨hx, hb, hml, hown, htg⟩ (met_R_bendsOf l D ad cA cB hap σ H.size a1 _ h) (cwV 1 htg (kG (kG_V m_796 m_798 m_40 m_57 (kG_self m_799))) rfl rfl rfl (by decide +kernel) ⟨Nat.le_of_ble_eq_true rfl, Nat.le_of_ble_eq_true rfl⟩) (kR_preV hK hF hP hS 0 rfl rfl _) rfl rfl hl.1 rfl (lv_room (Nat.le_of_ble_eq_true rfl)) d_R_link_27 ⟨Nat.le_of_ble_eq_true rfl, Nat.le_of_ble_eq_true rfl⟩) hS (fun r2 σ1 H locs h hP hS => ?_)
          refine lv_iadd hx hb d_R_link_30 ?_
          refine lv_icmp_le (tgt := 38) hx hb d_R_link_31 (by decide) (fun cn => ?_) (fun cn => ?_)
          · have h := h.1 cn
            refine lv_iconst (v := 0) hx hb d_R_link_38 (by decide) ?_
            rw [hG39] at h
            exact h _ _ _ hP hS (lv_sub hl [0, 1, 2] rfl)
          · have h := h.2 cn
            refine lv_iconst (v := 1) hx hb d_R_link_34 (by decide) ?_
            refine lv_goto (tgt := 39) hx hb d_R_link_35 (by decide) ?_
            rw [hG39] at h
            exact h _ _ _ hP hS (lv_sub hl [0, 1, 2] rfl)
set_option maxHeartbeats 4000000 in
set_option maxRecDepth 100000 in
theorem met_R_command (l : Launch) (D : va_G) (ad : Nat → Nat) (cA cB : ClassId) (hap : kapR ad) (σ : S0) (sz : Nat) (a1 : Int32) (post : Int32 → S0 → Prop) (h : Sp_R_command a1 σ post) : Met l y_R_command (Cond.code y_R_command c_R_command 2 (some .int) :: wsG) ({ frames := 1, cells := 0, slots := 0, locals := 22 } : Room) (kPcR D ad cA cB σ sz [.ref (ad 0), .int a1]) (va_Qi post (kBR D ad cA cB) (kAR ad sz)) 0 0 (kAR ad sz) := by
  refine Met.ofW (cc := c_R_command) (maxL := 2) (ret := (some .int)) (by decide) rfl ?_
  intro p e s m args below meth c s₁ B hml hv
  obtain ⟨rfl, hsz, hP, hK, hF⟩ := hv
  have hx := B.exec
  have hb := B.bytes
  have hr := B.returns
  have hts := atoms_spec (ws := (Cond.code y_R_command c_R_command 2 (some .int) :: wsG)) B.pre
  have htg : ∀ w ∈ wsG, w.before ([.ref (ad 0), .int a1] : List Value).toArray s = true := fun w h => hts w (List.mem_cons_of_mem _ h)
  have hown : s.vm.findClass RX4 = some m.cls := findClass_of_methodNamed B.named
  have hlocks := B.notSynchronized
  subst hsz
  have hD : ∀ σ, va_D (kAR ad s.heap.size) (wR ad cA cB σ) := fun σ => wR_D hap cA cB σ _
  have hS : va_S (kAR ad s.heap.size) s.heap s.heap [] := va_S.rf
  have hl := lv_entry ([.ref (ad 0), .int a1]) (n := 2) (Nat.le_of_ble_eq_true rfl)
  rw [lg_entry_eq]
  generalize (lg_sl ([.ref (ad 0), .int a1]) ++ List.replicate (2 - (lg_sl ([.ref (ad 0), .int a1])).length) Slot.unset).toArray = ls at hl ⊢
  have hl : lv_has ls 2 [(0, .ref (ad 0)), (1, .int a1)] := hl
  unfold Sp_R_command at h
  obtain ⟨G26, hG26⟩ : ∃ G : Int32 → Int32 → S0 → Prop, G = fun (x1 t1 : Int32) (σ : S0) => ∀ (H : Heap) (locs : List Loc) (ls : Array Slot), va_P D vwCl (wR ad cA cB σ) H → va_S (kAR ad s.heap.size) s.heap H locs → lv_has ls 2 [(0, .ref (ad 0)), (1, .int x1)] → W p l e (headSpec (Cond.code y_R_command c_R_command 2 (some .int) :: wsG) ({ frames := 1, cells := 0, slots := 0, locals := 22 } : Room)).room s m ([.ref (ad 0), .int a1] : List Value).toArray below meth c H locs 0 0 (MQ below (va_Qi post (kBR D ad cA cB) (kAR ad s.heap.size)) ([.ref (ad 0), .int a1] : List Value).toArray s 0 0 (kAR ad s.heap.size)) (F0 m 26 ls [.int t1, .ref (ad 0)]) := ⟨_, rfl⟩
  obtain ⟨G38, hG38⟩ : ∃ G : Int32 → Int32 → Int32 → S0 → Prop, G = fun (x1 t1 t2 : Int32) (σ : S0) => ∀ (H : Heap) (locs : List Loc) (ls : Array Slot), va_P D vwCl (wR ad cA cB σ) H → va_S (kAR ad s.heap.size) s.heap H locs → lv_has ls 2 [(0, .ref (ad 0)), (1, .int x1)] → W p l e (headSpec (Cond.code y_R_command c_R_command 2 (some .int) :: wsG) ({ frames := 1, cells := 0, slots := 0, locals := 22 } : Room)).room s m ([.ref (ad 0), .int a1] : List Value).toArray below meth c H locs 0 0 (MQ below (va_Qi post (kBR D ad cA cB) (kAR ad s.heap.size)) ([.ref (ad 0), .int a1] : List Value).toArray s 0 0 (kAR ad s.heap.size)) (F0 m 38 ls [.int t2, .int t1, .ref (ad 0)]) := ⟨_, rfl⟩
  have h := h G26 G38
  have h := h (by
    intro x1 t1 σ h
    rw [hG26]
    intro H locs ls hP hS hl
    refine lv_aload_n hx hb d_R_command_26 rfl (lv_at hl 0 rfl) ?_
    refine va_get (D := D) (ci := 4) (v := .int (σ 0 1)) (C := RX4) (T := TX4) (N := 27) hx hb htg inG_X4 hown hK hP 0 rfl rfl 8 (by decide) (htg _ m_627) (fun _ h9 => h9) rfl d_R_command_27 ?_
    refine lv_if_ne (tgt := 37) hx hb d_R_command_30 (by decide) (fun cn => ?_) (fun cn => ?_)
    · have h := h.1 cn
      refine lv_iconst (v := 0) hx hb d_R_command_37 (by decide) ?_
      rw [hG38] at h
      exact h _ _ _ hP hS (lv_sub hl [0, 1] rfl)
    · have h := h.2 cn
      refine lv_iconst (v := 1) hx hb d_R_command_33 (by decide) ?_
      refine lv_goto (tgt := 38) hx hb d_R_command_34 (by decide) ?_
      rw [hG38] at h
      exact h _ _ _ hP hS (lv_sub hl [0, 1] rfl))
  have h := h (by
    intro x1 t1 t2 σ h
    rw [hG38]
    intro H locs ls hP hS hl
    refine kR_i (va_runV (As := [.int t1, .int t2]) (rest := []) ⟨hx, hb, hml, hown, htg⟩ (met_R_throwing l D ad cA cB hap σ H.size t1 t2 _ h) (cwV 2 htg (kG (kG_V m_716 m_718 m_26 m_57 (kG_self m_719))) rfl rfl rfl (by decide +kernel) ⟨Nat.le_of_ble_eq_true rfl, Nat.le_of_ble_eq_true rfl⟩) (kR_preV hK hF hP hS 0 rfl rfl _) rfl rfl hl.1 rfl (lv_room (Nat.le_of_ble_eq_true rfl)) d_R_command_38 ⟨Nat.le_of_ble_eq_true rfl, Nat.le_of_ble_eq_true rfl⟩) hS (fun r2 σ1 H locs h hP hS => ?_)
    refine lv_if_eq (tgt := 46) hx hb d_R_command_41 (by decide) (fun cn => ?_) (fun cn => ?_)
    · have h := h.1 cn
      refine lv_iload_n hx hb d_R_command_46 rfl (lv_at hl 1 rfl) ?_
      refine lv_iconst (v := (-1)) hx hb d_R_command_47 (by decide) ?_
      refine lv_icmp_ne (tgt := 58) hx hb d_R_command_48 (by decide) (fun cn => ?_) (fun cn => ?_)
      · have h := h.1 cn
        refine lv_aload_n hx hb d_R_command_58 rfl (lv_at hl 0 rfl) ?_
        refine va_get (D := D) (ci := 4) (v := .ref (ad 20)) (C := RX4) (T := TX4) (N := 27) hx hb htg inG_X4 hown hK hP 0 rfl rfl 25 (by decide) (htg _ m_644) (fun _ h9 => h9) rfl d_R_command_59 ?_
        refine lv_iload_n hx hb d_R_command_62 rfl (lv_at hl 1 rfl) ?_
        have hi := h.1
        have h := h.2
        refine va_iald hx hb hK hP 20 0 rfl rfl hi d_R_command_63 ?_
        exact W.iret (v := (σ1 20 x1.toNatClampNeg)) hx hb hr (fun t ht hW => ⟨⟨_, σ1, rfl, h, kBR_of ht hP⟩, hS.F ht⟩) hS.2.2 d_R_command_64 hlocks
      · have h := h.2 cn
        refine lv_aload_n hx hb d_R_command_51 rfl (lv_at hl 0 rfl) ?_
        refine va_get (D := D) (ci := 4) (v := .int (σ1 0 6)) (C := RX4) (T := TX4) (N := 27) hx hb htg inG_X4 hown hK hP 0 rfl rfl 26 (by decide) (htg _ m_645) (fun _ h9 => h9) rfl d_R_command_52 ?_
        refine lv_goto (tgt := 64) hx hb d_R_command_55 (by decide) ?_
        exact W.iret (v := (σ1 0 6)) hx hb hr (fun t ht hW => ⟨⟨_, σ1, rfl, h, kBR_of ht hP⟩, hS.F ht⟩) hS.2.2 d_R_command_64 hlocks
    · have h := h.2 cn
      refine lv_iconst (v := 0) hx hb d_R_command_44 (by decide) ?_
      exact W.iret (v := 0) hx hb hr (fun t ht hW => ⟨⟨_, σ1, rfl, h, kBR_of ht hP⟩, hS.F ht⟩) hS.2.2 d_R_command_45 hlocks)
  obtain ⟨H, eH⟩ : ∃ z, z = s.heap := ⟨_, rfl⟩
  have hP : va_P D vwCl (wR ad cA cB σ) H := by rw [eH]; exact hP
  have hS : va_S (kAR ad s.heap.size) s.heap H [] := by rw [eH]; exact hS
  show W p l e (headSpec (Cond.code y_R_command c_R_command 2 (some .int) :: wsG) ({ frames := 1, cells := 0, slots := 0, locals := 22 } : Room)).room s m ([.ref (ad 0), .int a1] : List Value).toArray below meth c s.heap [] 0 0 (MQ below (va_Qi post (kBR D ad cA cB) (kAR ad s.heap.size)) ([.ref (ad 0), .int a1] : List Value).toArray s 0 0 (kAR ad s.heap.size)) (F0 m 0 ls [])
  suffices k : W p l e (headSpec (Cond.code y_R_command c_R_command 2 (some .int) :: wsG) ({ frames := 1, cells := 0, slots := 0, locals := 22 } : Room)).room s m ([.ref (ad 0), .int a1] : List Value).toArray below meth c H [] 0 0 (MQ below (va_Qi post (kBR D ad cA cB) (kAR ad s.heap.size)) ([.ref (ad 0), .int a1] : List Value).toArray s 0 0 (kAR ad s.heap.size)) (F0 m 0 ls []) by rw [eH] at k; exact k
  refine lv_aload_n hx hb d_R_command_0 rfl (lv_at hl 0 rfl) ?_
  refine lv_iload_n hx hb d_R_command_1 rfl (lv_at hl 1 rfl) ?_
  refine lv_iconst (v := (-1)) hx hb d_R_command_2 (by decide) ?_
  refine lv_icmp_lt (tgt := 21) hx hb d_R_command_3 (by decide) (fun cn => ?_) (fun cn => ?_)
  · have h := h.1 cn
    refine lv_iconst (v := 1) hx hb d_R_command_21 (by decide) ?_
    refine lv_goto (tgt := 26) hx hb d_R_command_22 (by decide) ?_
    rw [hG26] at h
    exact h _ _ _ hP hS (lv_sub hl [0, 1] rfl)
  · have h := h.2 cn
    refine lv_aload_n hx hb d_R_command_6 rfl (lv_at hl 0 rfl) ?_
    refine va_get (D := D) (ci := 4) (v := .int (σ 0 1)) (C := RX4) (T := TX4) (N := 27) hx hb htg inG_X4 hown hK hP 0 rfl rfl 8 (by decide) (htg _ m_627) (fun _ h9 => h9) rfl d_R_command_7 ?_
    refine lv_if_eq (tgt := 25) hx hb d_R_command_10 (by decide) (fun cn => ?_) (fun cn => ?_)
    · have h := h.1 cn
      refine lv_iconst (v := 0) hx hb d_R_command_25 (by decide) ?_
      rw [hG26] at h
      exact h _ _ _ hP hS (lv_sub hl [0, 1] rfl)
    · have h := h.2 cn
      refine lv_iload_n hx hb d_R_command_13 rfl (lv_at hl 1 rfl) ?_
      refine lv_aload_n hx hb d_R_command_14 rfl (lv_at hl 0 rfl) ?_
      refine va_get (D := D) (ci := 4) (v := .int (σ 0 6)) (C := RX4) (T := TX4) (N := 27) hx hb htg inG_X4 hown hK hP 0 rfl rfl 26 (by decide) (htg _ m_645) (fun _ h9 => h9) rfl d_R_command_15 ?_
      refine lv_icmp_lt (tgt := 25) hx hb d_R_command_18 (by decide) (fun cn => ?_) (fun cn => ?_)
      · have h := h.1 cn
        refine lv_iconst (v := 0) hx hb d_R_command_25 (by decide) ?_
        rw [hG26] at h
        exact h _ _ _ hP hS (lv_sub hl [0, 1] rfl)
      · have h := h.2 cn
        refine lv_iconst (v := 1) hx hb d_R_command_21 (by decide) ?_
        refine lv_goto (tgt := 26) hx hb d_R_command_22 (by decide) ?_
        rw [hG26] at h
        exact h _ _ _ hP hS (lv_sub hl [0, 1] rfl)
set_option maxHeartbeats 4000000 in
set_option maxRecDepth 100000 in
theorem met_R_count (l : Launch) (D : va_G) (ad : Nat → Nat) (cA cB : ClassId) (hap : kapR ad) (σ : S0) (sz : Nat) (a1 : Int32) (post : Int32 → S0 → Prop) (h : Sp_R_count a1 σ post) : Met l y_R_count (Cond.code y_R_count c_R_count 4 (some .int) :: wsG) ({ frames := 3, cells := 0, slots := 0, locals := 66 } : Room) (kPcR D ad cA cB σ sz [.ref (ad 0), .int a1]) (va_Qi post (kBR D ad cA cB) (kAR ad sz)) 0 0 (kAR ad sz) := by
  refine Met.ofW (cc := c_R_count) (maxL := 4) (ret := (some .int)) (by decide) rfl ?_
  intro p e s m args below meth c s₁ B hml hv
  obtain ⟨rfl, hsz, hP, hK, hF⟩ := hv
  have hx := B.exec
  have hb := B.bytes
  have hr := B.returns
  have hts := atoms_spec (ws := (Cond.code y_R_count c_R_count 4 (some .int) :: wsG)) B.pre
  have htg : ∀ w ∈ wsG, w.before ([.ref (ad 0), .int a1] : List Value).toArray s = true := fun w h => hts w (List.mem_cons_of_mem _ h)
  have hown : s.vm.findClass RX4 = some m.cls := findClass_of_methodNamed B.named
  have hlocks := B.notSynchronized
  subst hsz
  have hD : ∀ σ, va_D (kAR ad s.heap.size) (wR ad cA cB σ) := fun σ => wR_D hap cA cB σ _
  have hS : va_S (kAR ad s.heap.size) s.heap s.heap [] := va_S.rf
  have hl := lv_entry ([.ref (ad 0), .int a1]) (n := 4) (Nat.le_of_ble_eq_true rfl)
  rw [lg_entry_eq]
  generalize (lg_sl ([.ref (ad 0), .int a1]) ++ List.replicate (4 - (lg_sl ([.ref (ad 0), .int a1])).length) Slot.unset).toArray = ls at hl ⊢
  have hl : lv_has ls 4 [(0, .ref (ad 0)), (1, .int a1)] := hl
  unfold Sp_R_count at h
  obtain ⟨G15, hG15⟩ : ∃ G : Int32 → Int32 → S0 → Prop, G = fun (x1 t1 : Int32) (σ : S0) => ∀ (H : Heap) (locs : List Loc) (ls : Array Slot), va_P D vwCl (wR ad cA cB σ) H → va_S (kAR ad s.heap.size) s.heap H locs → lv_has ls 4 [(0, .ref (ad 0)), (1, .int x1)] → W p l e (headSpec (Cond.code y_R_count c_R_count 4 (some .int) :: wsG) ({ frames := 3, cells := 0, slots := 0, locals := 66 } : Room)).room s m ([.ref (ad 0), .int a1] : List Value).toArray below meth c H locs 0 0 (MQ below (va_Qi post (kBR D ad cA cB) (kAR ad s.heap.size)) ([.ref (ad 0), .int a1] : List Value).toArray s 0 0 (kAR ad s.heap.size)) (F0 m 15 ls [.int t1, .ref (ad 0)]) := ⟨_, rfl⟩
  obtain ⟨G28, hG28⟩ : ∃ G : Int32 → Int32 → Int32 → S0 → Prop, G = fun (x1 x2 x3 : Int32) (σ : S0) => ∀ (H : Heap) (locs : List Loc) (ls : Array Slot), va_P D vwCl (wR ad cA cB σ) H → va_S (kAR ad s.heap.size) s.heap H locs → lv_has ls 4 [(0, .ref (ad 0)), (1, .int x1), (2, .int x2), (3, .int x3)] → W p l e (headSpec (Cond.code y_R_count c_R_count 4 (some .int) :: wsG) ({ frames := 3, cells := 0, slots := 0, locals := 66 } : Room)).room s m ([.ref (ad 0), .int a1] : List Value).toArray below meth c H locs 0 0 (MQ below (va_Qi post (kBR D ad cA cB) (kAR ad s.heap.size)) ([.ref (ad 0), .int a1] : List Value).toArray s 0 0 (kAR ad s.heap.size)) (F0 m 28 ls []) := ⟨_, rfl⟩
  obtain ⟨G53, hG53⟩ : ∃ G : Int32 → Int32 → Int32 → Int32 → S0 → Prop, G = fun (x1 x3 t0 t1 : Int32) (σ : S0) => ∀ (H : Heap) (locs : List Loc) (ls : Array Slot), va_P D vwCl (wR ad cA cB σ) H → va_S (kAR ad s.heap.size) s.heap H locs → lv_has ls 4 [(0, .ref (ad 0)), (1, .int x1), (3, .int x3)] → W p l e (headSpec (Cond.code y_R_count c_R_count 4 (some .int) :: wsG) ({ frames := 3, cells := 0, slots := 0, locals := 66 } : Room)).room s m ([.ref (ad 0), .int a1] : List Value).toArray below meth c H locs 0 0 (MQ below (va_Qi post (kBR D ad cA cB) (kAR ad s.heap.size)) ([.ref (ad 0), .int a1] : List Value).toArray s 0 0 (kAR ad s.heap.size)) (F0 m 53 ls [.int t1, .int t0]) := ⟨_, rfl⟩
  obtain ⟨G63, hG63⟩ : ∃ G : Int32 → Int32 → Int32 → S0 → Prop, G = fun (x1 x2 x3 : Int32) (σ : S0) => ∀ (H : Heap) (locs : List Loc) (ls : Array Slot), va_P D vwCl (wR ad cA cB σ) H → va_S (kAR ad s.heap.size) s.heap H locs → lv_has ls 4 [(0, .ref (ad 0)), (1, .int x1), (2, .int x2), (3, .int x3)] → W p l e (headSpec (Cond.code y_R_count c_R_count 4 (some .int) :: wsG) ({ frames := 3, cells := 0, slots := 0, locals := 66 } : Room)).room s m ([.ref (ad 0), .int a1] : List Value).toArray below meth c H locs 0 0 (MQ below (va_Qi post (kBR D ad cA cB) (kAR ad s.heap.size)) ([.ref (ad 0), .int a1] : List Value).toArray s 0 0 (kAR ad s.heap.size)) (F0 m 63 ls []) := ⟨_, rfl⟩
  obtain ⟨G90, hG90⟩ : ∃ G : Int32 → Int32 → Int32 → Int32 → S0 → Prop, G = fun (x1 x3 t0 t1 : Int32) (σ : S0) => ∀ (H : Heap) (locs : List Loc) (ls : Array Slot), va_P D vwCl (wR ad cA cB σ) H → va_S (kAR ad s.heap.size) s.heap H locs → lv_has ls 4 [(0, .ref (ad 0)), (1, .int x1), (3, .int x3)] → W p l e (headSpec (Cond.code y_R_count c_R_count 4 (some .int) :: wsG) ({ frames := 3, cells := 0, slots := 0, locals := 66 } : Room)).room s m ([.ref (ad 0), .int a1] : List Value).toArray below meth c H locs 0 0 (MQ below (va_Qi post (kBR D ad cA cB) (kAR ad s.heap.size)) ([.ref (ad 0), .int a1] : List Value).toArray s 0 0 (kAR ad s.heap.size)) (F0 m 90 ls [.int t1, .int t0]) := ⟨_, rfl⟩
  obtain ⟨G100, hG100⟩ : ∃ G : Int32 → Int32 → Int32 → S0 → Prop, G = fun (x1 x2 x3 : Int32) (σ : S0) => ∀ (H : Heap) (locs : List Loc) (ls : Array Slot), va_P D vwCl (wR ad cA cB σ) H → va_S (kAR ad s.heap.size) s.heap H locs → lv_has ls 4 [(0, .ref (ad 0)), (1, .int x1), (2, .int x2), (3, .int x3)] → W p l e (headSpec (Cond.code y_R_count c_R_count 4 (some .int) :: wsG) ({ frames := 3, cells := 0, slots := 0, locals := 66 } : Room)).room s m ([.ref (ad 0), .int a1] : List Value).toArray below meth c H locs 0 0 (MQ below (va_Qi post (kBR D ad cA cB) (kAR ad s.heap.size)) ([.ref (ad 0), .int a1] : List Value).toArray s 0 0 (kAR ad s.heap.size)) (F0 m 100 ls []) := ⟨_, rfl⟩
  obtain ⟨G135, hG135⟩ : ∃ G : Int32 → Int32 → Int32 → Int32 → S0 → Prop, G = fun (x1 x3 t0 t1 : Int32) (σ : S0) => ∀ (H : Heap) (locs : List Loc) (ls : Array Slot), va_P D vwCl (wR ad cA cB σ) H → va_S (kAR ad s.heap.size) s.heap H locs → lv_has ls 4 [(0, .ref (ad 0)), (1, .int x1), (3, .int x3)] → W p l e (headSpec (Cond.code y_R_count c_R_count 4 (some .int) :: wsG) ({ frames := 3, cells := 0, slots := 0, locals := 66 } : Room)).room s m ([.ref (ad 0), .int a1] : List Value).toArray below meth c H locs 0 0 (MQ below (va_Qi post (kBR D ad cA cB) (kAR ad s.heap.size)) ([.ref (ad 0), .int a1] : List Value).toArray s 0 0 (kAR ad s.heap.size)) (F0 m 135 ls [.int t1, .int t0]) := ⟨_, rfl⟩
  obtain ⟨G143, hG143⟩ : ∃ G : Int32 → Int32 → S0 → Prop, G = fun (x1 x2 : Int32) (σ : S0) => ∀ (H : Heap) (locs : List Loc) (ls : Array Slot), va_P D vwCl (wR ad cA cB σ) H → va_S (kAR ad s.heap.size) s.heap H locs → lv_has ls 4 [(0, .ref (ad 0)), (1, .int x1), (2, .int x2)] → W p l e (headSpec (Cond.code y_R_count c_R_count 4 (some .int) :: wsG) ({ frames := 3, cells := 0, slots := 0, locals := 66 } : Room)).room s m ([.ref (ad 0), .int a1] : List Value).toArray below meth c H locs 0 0 (MQ below (va_Qi post (kBR D ad cA cB) (kAR ad s.heap.size)) ([.ref (ad 0), .int a1] : List Value).toArray s 0 0 (kAR ad s.heap.size)) (F0 m 143 ls []) := ⟨_, rfl⟩
  have h := h G15 G28 G53 G63 G90 G100 G135 G143
  have h := h (by
    intro x1 t1 σ h
    rw [hG15]
    intro H locs ls hP hS hl
    refine lv_iconst (v := 0) hx hb d_R_count_15 (by decide) ?_
    refine kR_i (va_runV (As := [.int t1, .int 0]) (rest := []) ⟨hx, hb, hml, hown, htg⟩ (met_R_throwing l D ad cA cB hap σ H.size t1 0 _ h) (cwV 2 htg (kG (kG_V m_716 m_718 m_26 m_57 (kG_self m_719))) rfl rfl rfl (by decide +kernel) ⟨Nat.le_of_ble_eq_true rfl, Nat.le_of_ble_eq_true rfl⟩) (kR_preV hK hF hP hS 0 rfl rfl _) rfl rfl hl.1 rfl (lv_room (Nat.le_of_ble_eq_true rfl)) d_R_count_16 ⟨Nat.le_of_ble_eq_true rfl, Nat.le_of_ble_eq_true rfl⟩) hS (fun r4 σ3 H locs h hP hS => ?_)
    refine lv_if_eq (tgt := 24) hx hb d_R_count_19 (by decide) (fun cn => ?_) (fun cn => ?_)
    · have h := h.1 cn
      refine lv_iconst (v := 0) hx hb d_R_count_24 (by decide) ?_
      refine lv_istore_n (lv' := [(2, .int 0), (0, .ref (ad 0)), (1, .int x1)]) hx hb d_R_count_25 rfl hl (by decide) rfl (fun ls hl => ?_)
      refine lv_iconst (v := 0) hx hb d_R_count_26 (by decide) ?_
      refine lv_istore_n (lv' := [(3, .int 0), (2, .int 0), (0, .ref (ad 0)), (1, .int x1)]) hx hb d_R_count_27 rfl hl (by decide) rfl (fun ls hl => ?_)
      rw [hG28] at h
      exact h _ _ _ hP hS (lv_sub hl [2, 3, 1, 0] rfl)
    · have h := h.2 cn
      refine lv_iconst (v := 0) hx hb d_R_count_22 (by decide) ?_
      exact W.iret (v := 0) hx hb hr (fun t ht hW => ⟨⟨_, σ3, rfl, h, kBR_of ht hP⟩, hS.F ht⟩) hS.2.2 d_R_count_23 hlocks)
  have h := h (by
    intro x1 x2 x3 σ h
    rw [hG28]
    intro H locs ls hP hS hl
    refine lv_iload_n hx hb d_R_count_28 rfl (lv_at hl 3 rfl) ?_
    refine lv_bipush (v := 16) hx hb d_R_count_29 (by decide) ?_
    refine lv_icmp_ge (tgt := 61) hx hb d_R_count_31 (by decide) (fun cn => ?_) (fun cn => ?_)
    · have h := h.1 cn
      refine lv_iconst (v := 0) hx hb d_R_count_61 (by decide) ?_
      refine lv_istore_n (lv' := [(3, .int 0), (0, .ref (ad 0)), (1, .int x1), (2, .int x2)]) hx hb d_R_count_62 rfl hl (by decide) rfl (fun ls hl => ?_)
      rw [hG63] at h
      exact h _ _ _ hP hS (lv_sub hl [1, 2, 3, 0] rfl)
    · have h := h.2 cn
      refine lv_iload_n hx hb d_R_count_34 rfl (lv_at hl 1 rfl) ?_
      refine lv_if_ne (tgt := 61) hx hb d_R_count_35 (by decide) (fun cn => ?_) (fun cn => ?_)
      · have h := h.1 cn
        refine lv_iconst (v := 0) hx hb d_R_count_61 (by decide) ?_
        refine lv_istore_n (lv' := [(3, .int 0), (0, .ref (ad 0)), (1, .int x1), (2, .int x2)]) hx hb d_R_count_62 rfl hl (by decide) rfl (fun ls hl => ?_)
        rw [hG63] at h
        exact h _ _ _ hP hS (lv_sub hl [1, 2, 3, 0] rfl)
      · have h := h.2 cn
        refine lv_iload_n hx hb d_R_count_38 rfl (lv_at hl 2 rfl) ?_
        refine lv_aload_n hx hb d_R_count_39 rfl (lv_at hl 0 rfl) ?_
        refine va_get (D := D) (ci := 4) (v := .ref (ad 5)) (C := RX4) (T := TX4) (N := 27) hx hb htg inG_X4 hown hK hP 0 rfl rfl 5 (by decide) (htg _ m_624) (fun _ h9 => h9) rfl d_R_count_40 ?_
        refine lv_iload_n hx hb d_R_count_43 rfl (lv_at hl 3 rfl) ?_
        have hi := h.1
        have h := h.2
        refine va_zald hx hb hK hP 5 1 rfl rfl hi d_R_count_44 ?_
        refine lv_if_eq (tgt := 52) hx hb d_R_count_45 (by decide) (fun cn => ?_) (fun cn => ?_)
        · have h := h.1 cn
          refine lv_iconst (v := 0) hx hb d_R_count_52 (by decide) ?_
          rw [hG53] at h
          exact h _ _ _ hP hS (lv_sub hl [0, 1, 3] rfl)
        · have h := h.2 cn
          refine lv_iconst (v := 1) hx hb d_R_count_48 (by decide) ?_
          refine lv_goto (tgt := 53) hx hb d_R_count_49 (by decide) ?_
          rw [hG53] at h
          exact h _ _ _ hP hS (lv_sub hl [0, 1, 3] rfl))
  have h := h (by
    intro x1 x3 t0 t1 σ h
    rw [hG53]
    intro H locs ls hP hS hl
    refine lv_iadd hx hb d_R_count_53 ?_
    refine lv_topi (fun v5 ev5 => ?_)
    have h := h v5 ev5
    refine lv_istore_n (lv' := [(2, .int v5), (0, .ref (ad 0)), (1, .int x1), (3, .int x3)]) hx hb d_R_count_54 rfl hl (by decide) rfl (fun ls hl => ?_)
    refine lv_iinc (v := (x3 + 1)) (lv' := [(3, .int (x3 + 1)), (2, .int v5), (0, .ref (ad 0)), (1, .int x1)]) hx hb d_R_count_55 hl (k := 3) rfl rfl (by decide) rfl (fun ls hl => ?_)
    refine lv_goto (tgt := 28) hx hb d_R_count_58 (by decide) ?_
    rw [hG28] at h
    exact h _ _ _ hP hS (lv_sub hl [2, 3, 1, 0] rfl))
  have h := h (by
    intro x1 x2 x3 σ h
    rw [hG63]
    intro H locs ls hP hS hl
    refine lv_iload_n hx hb d_R_count_63 rfl (lv_at hl 3 rfl) ?_
    refine lv_sipush (v := 256) hx hb d_R_count_64 (by decide) ?_
    refine lv_icmp_ge (tgt := 98) hx hb d_R_count_67 (by decide) (fun cn => ?_) (fun cn => ?_)
    · have h := h.1 cn
      refine lv_iconst (v := 0) hx hb d_R_count_98 (by decide) ?_
      refine lv_istore_n (lv' := [(3, .int 0), (0, .ref (ad 0)), (1, .int x1), (2, .int x2)]) hx hb d_R_count_99 rfl hl (by decide) rfl (fun ls hl => ?_)
      rw [hG100] at h
      exact h _ _ _ hP hS (lv_sub hl [1, 2, 3, 0] rfl)
    · have h := h.2 cn
      refine lv_iload_n hx hb d_R_count_70 rfl (lv_at hl 1 rfl) ?_
      refine lv_iconst (v := 1) hx hb d_R_count_71 (by decide) ?_
      refine lv_icmp_ne (tgt := 98) hx hb d_R_count_72 (by decide) (fun cn => ?_) (fun cn => ?_)
      · have h := h.1 cn
        refine lv_iconst (v := 0) hx hb d_R_count_98 (by decide) ?_
        refine lv_istore_n (lv' := [(3, .int 0), (0, .ref (ad 0)), (1, .int x1), (2, .int x2)]) hx hb d_R_count_99 rfl hl (by decide) rfl (fun ls hl => ?_)
        rw [hG100] at h
        exact h _ _ _ hP hS (lv_sub hl [1, 2, 3, 0] rfl)
      · have h := h.2 cn
        refine lv_iload_n hx hb d_R_count_75 rfl (lv_at hl 2 rfl) ?_
        refine lv_aload_n hx hb d_R_count_76 rfl (lv_at hl 0 rfl) ?_
        refine va_get (D := D) (ci := 4) (v := .ref (ad 1)) (C := RX4) (T := TX4) (N := 27) hx hb htg inG_X4 hown hK hP 0 rfl rfl 1 (by decide) (htg _ m_620) (fun _ h9 => h9) rfl d_R_count_77 ?_
        refine lv_iload_n hx hb d_R_count_80 rfl (lv_at hl 3 rfl) ?_
        have hi := h.1
        have h := h.2
        refine va_zald hx hb hK hP 1 1 rfl rfl hi d_R_count_81 ?_
        refine lv_if_eq (tgt := 89) hx hb d_R_count_82 (by decide) (fun cn => ?_) (fun cn => ?_)
        · have h := h.1 cn
          refine lv_iconst (v := 0) hx hb d_R_count_89 (by decide) ?_
          rw [hG90] at h
          exact h _ _ _ hP hS (lv_sub hl [0, 1, 3] rfl)
        · have h := h.2 cn
          refine lv_iconst (v := 1) hx hb d_R_count_85 (by decide) ?_
          refine lv_goto (tgt := 90) hx hb d_R_count_86 (by decide) ?_
          rw [hG90] at h
          exact h _ _ _ hP hS (lv_sub hl [0, 1, 3] rfl))
  have h := h (by
    intro x1 x3 t0 t1 σ h
    rw [hG90]
    intro H locs ls hP hS hl
    refine lv_iadd hx hb d_R_count_90 ?_
    refine lv_topi (fun v8 ev8 => ?_)
    have h := h v8 ev8
    refine lv_istore_n (lv' := [(2, .int v8), (0, .ref (ad 0)), (1, .int x1), (3, .int x3)]) hx hb d_R_count_91 rfl hl (by decide) rfl (fun ls hl => ?_)
    refine lv_iinc (v := (x3 + 1)) (lv' := [(3, .int (x3 + 1)), (2, .int v8), (0, .ref (ad 0)), (1, .int x1)]) hx hb d_R_count_92 hl (k := 3) rfl rfl (by decide) rfl (fun ls hl => ?_)
    refine lv_goto (tgt := 63) hx hb d_R_count_95 (by decide) ?_
    rw [hG63] at h
    exact h _ _ _ hP hS (lv_sub hl [2, 3, 1, 0] rfl))
  have h := h (by
    intro x1 x2 x3 σ h
    rw [hG100]
    intro H locs ls hP hS hl
    refine lv_iload_n hx hb d_R_count_100 rfl (lv_at hl 3 rfl) ?_
    refine lv_bipush (v := 16) hx hb d_R_count_101 (by decide) ?_
    refine lv_icmp_ge (tgt := 143) hx hb d_R_count_103 (by decide) (fun cn => ?_) (fun cn => ?_)
    · have h := h.1 cn
      rw [hG143] at h
      exact h _ _ _ hP hS (lv_sub hl [0, 1, 2] rfl)
    · have h := h.2 cn
      refine lv_iload_n hx hb d_R_count_106 rfl (lv_at hl 1 rfl) ?_
      refine lv_iconst (v := 2) hx hb d_R_count_107 (by decide) ?_
      refine lv_icmp_ne (tgt := 143) hx hb d_R_count_108 (by decide) (fun cn => ?_) (fun cn => ?_)
      · have h := h.1 cn
        rw [hG143] at h
        exact h _ _ _ hP hS (lv_sub hl [0, 1, 2] rfl)
      · have h := h.2 cn
        refine lv_iload_n hx hb d_R_count_111 rfl (lv_at hl 2 rfl) ?_
        refine lv_aload_n hx hb d_R_count_112 rfl (lv_at hl 0 rfl) ?_
        refine va_get (D := D) (ci := 4) (v := .ref (ad 2)) (C := RX4) (T := TX4) (N := 27) hx hb htg inG_X4 hown hK hP 0 rfl rfl 2 (by decide) (htg _ m_621) (fun _ h9 => h9) rfl d_R_count_113 ?_
        refine lv_iload_n hx hb d_R_count_116 rfl (lv_at hl 3 rfl) ?_
        have hi := h.1
        have h := h.2
        refine va_iald hx hb hK hP 2 0 rfl rfl hi d_R_count_117 ?_
        refine lv_iload_n hx hb d_R_count_118 rfl (lv_at hl 3 rfl) ?_
        refine lv_icmp_ne (tgt := 134) hx hb d_R_count_119 (by decide) (fun cn => ?_) (fun cn => ?_)
        · have h := h.1 cn
          refine lv_iconst (v := 0) hx hb d_R_count_134 (by decide) ?_
          rw [hG135] at h
          exact h _ _ _ hP hS (lv_sub hl [0, 1, 3] rfl)
        · have h := h.2 cn
          refine lv_aload_n hx hb d_R_count_122 rfl (lv_at hl 0 rfl) ?_
          refine lv_iload_n hx hb d_R_count_123 rfl (lv_at hl 3 rfl) ?_
          refine kR_i (va_runV (As := [.int x3]) (rest := [.int x2]) ⟨hx, hb, hml, hown, htg⟩ (met_R_isThere l D ad cA cB hap σ H.size x3 _ h) (cwV 1 htg (kG (kG_V m_780 m_782 m_36 m_57 (kG_self m_783))) rfl rfl rfl (by decide +kernel) ⟨Nat.le_of_ble_eq_true rfl, Nat.le_of_ble_eq_true rfl⟩) (kR_preV hK hF hP hS 0 rfl rfl _) rfl rfl hl.1 rfl (lv_room (Nat.le_of_ble_eq_true rfl)) d_R_count_124 ⟨Nat.le_of_ble_eq_true rfl, Nat.le_of_ble_eq_true rfl⟩) hS (fun r7 σ6 H locs h hP hS => ?_)
          refine lv_if_eq (tgt := 134) hx hb d_R_count_127 (by decide) (fun cn => ?_) (fun cn => ?_)
          · have h := h.1 cn
            refine lv_iconst (v := 0) hx hb d_R_count_134 (by decide) ?_
            rw [hG135] at h
            exact h _ _ _ hP hS (lv_sub hl [0, 1, 3] rfl)
          · have h := h.2 cn
            refine lv_iconst (v := 1) hx hb d_R_count_130 (by decide) ?_
            refine lv_goto (tgt := 135) hx hb d_R_count_131 (by decide) ?_
            rw [hG135] at h
            exact h _ _ _ hP hS (lv_sub hl [0, 1, 3] rfl))
  have h := h (by
    intro x1 x3 t0 t1 σ h
    rw [hG135]
    intro H locs ls hP hS hl
    refine lv_iadd hx hb d_R_count_135 ?_
    refine lv_topi (fun v11 ev11 => ?_)
    have h := h v11 ev11
    refine lv_istore_n (lv' := [(2, .int v11), (0, .ref (ad 0)), (1, .int x1), (3, .int x3)]) hx hb d_R_count_136 rfl hl (by decide) rfl (fun ls hl => ?_)
    refine lv_iinc (v := (x3 + 1)) (lv' := [(3, .int (x3 + 1)), (2, .int v11), (0, .ref (ad 0)), (1, .int x1)]) hx hb d_R_count_137 hl (k := 3) rfl rfl (by decide) rfl (fun ls hl => ?_)
    refine lv_goto (tgt := 100) hx hb d_R_count_140 (by decide) ?_
    rw [hG100] at h
    exact h _ _ _ hP hS (lv_sub hl [2, 3, 1, 0] rfl))
  have h := h (by
    intro x1 x2 σ h
    rw [hG143]
    intro H locs ls hP hS hl
    refine lv_iload_n hx hb d_R_count_143 rfl (lv_at hl 1 rfl) ?_
    refine lv_iconst (v := 3) hx hb d_R_count_144 (by decide) ?_
    refine lv_icmp_ge (tgt := 150) hx hb d_R_count_145 (by decide) (fun cn => ?_) (fun cn => ?_)
    · have h := h.1 cn
      refine lv_aload_n hx hb d_R_count_150 rfl (lv_at hl 0 rfl) ?_
      refine va_get (D := D) (ci := 4) (v := .int (σ 0 1)) (C := RX4) (T := TX4) (N := 27) hx hb htg inG_X4 hown hK hP 0 rfl rfl 8 (by decide) (htg _ m_627) (fun _ h9 => h9) rfl d_R_count_151 ?_
      refine lv_if_ne (tgt := 161) hx hb d_R_count_154 (by decide) (fun cn => ?_) (fun cn => ?_)
      · have h := h.1 cn
        refine lv_iload_n hx hb d_R_count_161 rfl (lv_at hl 1 rfl) ?_
        refine lv_iconst (v := 3) hx hb d_R_count_162 (by decide) ?_
        refine lv_icmp_ne (tgt := 175) hx hb d_R_count_163 (by decide) (fun cn => ?_) (fun cn => ?_)
        · have h := h.1 cn
          refine lv_aload_n hx hb d_R_count_175 rfl (lv_at hl 0 rfl) ?_
          refine va_get (D := D) (ci := 4) (v := .int (σ 0 3)) (C := RX4) (T := TX4) (N := 27) hx hb htg inG_X4 hown hK hP 0 rfl rfl 13 (by decide) (htg _ m_632) (fun _ h9 => h9) rfl d_R_count_176 ?_
          exact W.iret (v := (σ 0 3)) hx hb hr (fun t ht hW => ⟨⟨_, σ, rfl, h, kBR_of ht hP⟩, hS.F ht⟩) hS.2.2 d_R_count_179 hlocks
        · have h := h.2 cn
          refine lv_aload_n hx hb d_R_count_166 rfl (lv_at hl 0 rfl) ?_
          refine kR_i (va_runV (As := []) (rest := []) ⟨hx, hb, hml, hown, htg⟩ (met_R_lastRow l D ad cA cB hap σ H.size _ h) (cwV 0 htg (kG (kG_V m_820 m_822 m_46 m_57 (kG_self m_823))) rfl rfl rfl (by decide +kernel) ⟨Nat.le_of_ble_eq_true rfl, Nat.le_of_ble_eq_true rfl⟩) (kR_preV hK hF hP hS 0 rfl rfl _) rfl rfl hl.1 rfl (lv_room (Nat.le_of_ble_eq_true rfl)) d_R_count_167 ⟨Nat.le_of_ble_eq_true rfl, Nat.le_of_ble_eq_true rfl⟩) hS (fun r10 σ9 H locs h hP hS => ?_)
          refine lv_iconst (v := 1) hx hb d_R_count_170 (by decide) ?_
          refine lv_iadd hx hb d_R_count_171 ?_
          refine lv_goto (tgt := 179) hx hb d_R_count_172 (by decide) ?_
          exact W.iret (v := (r10 + 1)) hx hb hr (fun t ht hW => ⟨⟨_, σ9, rfl, h, kBR_of ht hP⟩, hS.F ht⟩) hS.2.2 d_R_count_179 hlocks
      · have h := h.2 cn
        refine lv_iconst (v := 0) hx hb d_R_count_157 (by decide) ?_
        refine lv_goto (tgt := 179) hx hb d_R_count_158 (by decide) ?_
        exact W.iret (v := 0) hx hb hr (fun t ht hW => ⟨⟨_, σ, rfl, h, kBR_of ht hP⟩, hS.F ht⟩) hS.2.2 d_R_count_179 hlocks
    · have h := h.2 cn
      refine lv_iload_n hx hb d_R_count_148 rfl (lv_at hl 2 rfl) ?_
      exact W.iret (v := x2) hx hb hr (fun t ht hW => ⟨⟨_, σ, rfl, h, kBR_of ht hP⟩, hS.F ht⟩) hS.2.2 d_R_count_149 hlocks)
  obtain ⟨H, eH⟩ : ∃ z, z = s.heap := ⟨_, rfl⟩
  have hP : va_P D vwCl (wR ad cA cB σ) H := by rw [eH]; exact hP
  have hS : va_S (kAR ad s.heap.size) s.heap H [] := by rw [eH]; exact hS
  show W p l e (headSpec (Cond.code y_R_count c_R_count 4 (some .int) :: wsG) ({ frames := 3, cells := 0, slots := 0, locals := 66 } : Room)).room s m ([.ref (ad 0), .int a1] : List Value).toArray below meth c s.heap [] 0 0 (MQ below (va_Qi post (kBR D ad cA cB) (kAR ad s.heap.size)) ([.ref (ad 0), .int a1] : List Value).toArray s 0 0 (kAR ad s.heap.size)) (F0 m 0 ls [])
  suffices k : W p l e (headSpec (Cond.code y_R_count c_R_count 4 (some .int) :: wsG) ({ frames := 3, cells := 0, slots := 0, locals := 66 } : Room)).room s m ([.ref (ad 0), .int a1] : List Value).toArray below meth c H [] 0 0 (MQ below (va_Qi post (kBR D ad cA cB) (kAR ad s.heap.size)) ([.ref (ad 0), .int a1] : List Value).toArray s 0 0 (kAR ad s.heap.size)) (F0 m 0 ls []) by rw [eH] at k; exact k
  refine lv_aload_n hx hb d_R_count_0 rfl (lv_at hl 0 rfl) ?_
  refine lv_iload_n hx hb d_R_count_1 rfl (lv_at hl 1 rfl) ?_
  refine lv_iconst (v := 0) hx hb d_R_count_2 (by decide) ?_
  refine lv_iconst (v := 4) hx hb d_R_count_3 (by decide) ?_
  refine kR_i (va_runS (As := [.int a1, .int 0, .int 4]) (rest := [.ref (ad 0)]) ⟨hx, hb, hml, hown, htg⟩ (met_R_in l D ad cA cB hap σ H.size a1 0 4 _ h) (cwS 3 htg (kG (kG_S m_713 m_714 m_57 (kG_self m_715))) rfl rfl rfl (by decide +kernel) ⟨Nat.le_of_ble_eq_true rfl, Nat.le_of_ble_eq_true rfl⟩) (kR_pre hK hF hP hS _) rfl rfl hl.1 rfl (lv_room (Nat.le_of_ble_eq_true rfl)) d_R_count_4 ⟨Nat.le_of_ble_eq_true rfl, Nat.le_of_ble_eq_true rfl⟩) hS (fun r2 σ1 H locs h hP hS => ?_)
  refine lv_if_ne (tgt := 14) hx hb d_R_count_7 (by decide) (fun cn => ?_) (fun cn => ?_)
  · have h := h.1 cn
    refine lv_iconst (v := 0) hx hb d_R_count_14 (by decide) ?_
    rw [hG15] at h
    exact h _ _ _ hP hS (lv_sub hl [0, 1] rfl)
  · have h := h.2 cn
    refine lv_iconst (v := 1) hx hb d_R_count_10 (by decide) ?_
    refine lv_goto (tgt := 15) hx hb d_R_count_11 (by decide) ?_
    rw [hG15] at h
    exact h _ _ _ hP hS (lv_sub hl [0, 1] rfl)
