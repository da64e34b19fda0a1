/-- private static int above(MatrixSheets, int, int, long[]) -/
def Sp_L_above (p0 p1 : Int32) (σ : S0) (g : Nat → Int64) (post : Int32 → S0 → (Nat → Int64) → Prop) : Prop := Sp_M_above p0 p1 σ (fun r σ1 => post 0 σ1 (vp_updL g 0 r.toInt64)) (fun k σ1 => (k = 0 ∧ post 1 σ1 g))
set_option maxHeartbeats 4000000 in
set_option maxRecDepth 100000 in
theorem met_L_above (l : Launch) (hl0 : l.stackTraces = false) (D : va_G) (ad : Nat → Nat) (cA cB cL : ClassId) (hap : kapC ad) (σ : S0) (qo : Nat) (hqo : ∀ k, k < 26 → ad k ≠ qo) (g : Nat → Int64) (sz : Nat) (p0 p1 : Int32) (post : Int32 → S0 → (Nat → Int64) → Prop) (h : Sp_L_above p0 p1 σ g post) : Met l y_L_above (Cond.codeWith y_L_above c_L_above 5 (some .int) [(0, 10, 13, 13)] :: wsG) ({ frames := 9, cells := 1, slots := 6, locals := 152 } : Room) (kPcL D ad cA cB cL σ qo g sz [.ref (ad 0), .int p0, .int p1, .ref qo]) (va_Qi (fun (r : Int32) (u : S0 × (Nat → Int64)) => post r u.1 u.2) (kBL D ad cA cB cL qo) (kAL ad qo sz)) 1 6 (kAL ad qo sz) := by
  refine va_MetW (cc := c_L_above) (maxL := 5) (ret := (some .int)) (hh := [(0, 10, 13, 13)]) (by decide) rfl ?_
  intro p e s m args below meth c s₁ B hml hv
  obtain ⟨rfl, hsz, hP, hK, hF, hN⟩ := hv
  have hx := B.exec
  have hb := B.bytes
  have hr := B.returns
  have hts := atoms_spec (ws := (Cond.codeWith y_L_above c_L_above 5 (some .int) [(0, 10, 13, 13)] :: wsG)) B.pre
  have htg : ∀ w ∈ wsG, w.before ([.ref (ad 0), .int p0, .int p1, .ref qo] : List Value).toArray s = true := fun w h => hts w (List.mem_cons_of_mem _ h)
  have htab : c.exceptionTable.toList = tableOf [(0, 10, 13, 13)] := vx_table (x := y_L_above) B (hts _ List.mem_cons_self)
  have hown : s.vm.findClass RL = some m.cls := findClass_of_methodNamed B.named
  have hlocks := B.notSynchronized
  subst hsz
  have hE := hF.1
  have hl := lv_entry ([.ref (ad 0), .int p0, .int p1, .ref qo]) (n := 5) (Nat.le_of_ble_eq_true rfl)
  rw [lg_entry_eq]
  generalize (lg_sl ([.ref (ad 0), .int p0, .int p1, .ref qo]) ++ List.replicate (5 - (lg_sl ([.ref (ad 0), .int p0, .int p1, .ref qo])).length) Slot.unset).toArray = ls at hl ⊢
  have hl : lv_has ls 5 [(0, .ref (ad 0)), (1, .int p0), (2, .int p1), (3, .ref qo)] := hl
  unfold Sp_L_above at h
  have hPc : va_P D vwCl (wC ad cA cB σ) s.heap := hP.sub [0, 1, 2, 3, 4, 5, 6, 7, 8, 9, 10, 11, 12, 13, 14, 15, 16, 17, 18, 19, 20, 21, 22, 23, 24, 25] rfl
  have hKc : va_K D vwCl (ktyC cA cB) s := hK.sub [0, 1] rfl
  refine lv_aload_n hx hb d_L_above_0 rfl (lv_at hl 3 rfl) ?_
  refine lv_iconst (v := 0) hx hb d_L_above_1 (by decide) ?_
  refine lv_aload_n hx hb d_L_above_2 rfl (lv_at hl 0 rfl) ?_
  refine lv_iload_n hx hb d_L_above_3 rfl (lv_at hl 1 rfl) ?_
  refine lv_iload_n hx hb d_L_above_4 rfl (lv_at hl 2 rfl) ?_
  refine kL_call (vx_runV (As := [.int p0, .int p1]) (rest := [.int 0, .ref qo]) ⟨hx, hb, hml, hown, htg⟩ (metx_M_above l hl0 D ad cA cB hap σ s.heap.size p0 p1 _ _ h) (cwV 2 htg (kG (kG_V m_234 m_235 m_236 m_53 (kG_self m_237))) rfl rfl rfl (by decide +kernel) ⟨Nat.le_of_ble_eq_true rfl, Nat.le_of_ble_eq_true rfl⟩) (kC_preV hKc hF hPc va_S.rf 0 rfl rfl _) rfl rfl hl.1 rfl (lv_room (Nat.le_of_ble_eq_true rfl)) d_L_above_5 ⟨Nat.le_of_ble_eq_true rfl, Nat.le_of_ble_eq_true rfl⟩) hP hqo (fun ce q9 k σ1 H locs h hP hS hcell hv hcl => ?_) (fun r σ1 H locs h hP hS => ?_)
  · obtain ⟨rfl, h⟩ := h
    refine vx_catch (name := "java/lang/IndexOutOfBoundsException") hown [] ⟨0, 10, 13, 13⟩ [] (by rw [htab]; rfl) (fun z hz => by cases hz) rfl (by decide) (htg _ m_233) (va_Nw.use rfl (hE _ me_246)) hcell hv hcl ?_
    refine lv_astore (lv' := [(4, .ref q9), (0, .ref (ad 0)), (1, .int p0), (2, .int p1), (3, .ref qo)]) hx hb d_L_above_13 hl (by decide) rfl (fun ls hl => ?_)
    refine lv_iconst (v := 1) hx hb d_L_above_15 (by decide) ?_
    refine W.widen (k := 1) (n := 6) (Nat.le_of_ble_eq_true rfl) (Nat.le_of_ble_eq_true rfl) ?_
    exact W.iret (v := 1) hx hb hr (fun t ht hW => ⟨⟨_, (σ1, g), rfl, h, by show va_P D vwCl _ t.heap; rw [ht]; exact hP⟩, hS.F ht⟩) hS.2.2 d_L_above_16 hlocks
  · refine lv_i2l (v := r.toInt64) hx hb d_L_above_8 rfl ?_
    refine va_last hx hb hK hP (kL_D hap hqo) hS 26 2 rfl rfl kin0 d_L_above_9 (fun H locs hP _ hS => ?_)
    have hP : va_P D vwCl (wC ad cA cB σ1 ++ kO qo cL (vp_updL g 0 r.toInt64)) H := hP
    refine lv_goto (tgt := 17) hx hb d_L_above_10 (by decide) ?_
    refine lv_iconst (v := 0) hx hb d_L_above_17 (by decide) ?_
    refine W.widen (k := 1) (n := 6) (Nat.le_of_ble_eq_true rfl) (Nat.le_of_ble_eq_true rfl) ?_
    exact W.iret (v := 0) hx hb hr (fun t ht hW => ⟨⟨_, (σ1, vp_updL g 0 r.toInt64), rfl, h, by show va_P D vwCl _ t.heap; rw [ht]; exact hP⟩, hS.F ht⟩) hS.2.2 d_L_above_18 hlocks
/-- private static int same(MatrixSheets, int, int, long[]) -/
def Sp_L_same (p0 p1 : Int32) (σ : S0) (g : Nat → Int64) (post : Int32 → S0 → (Nat → Int64) → Prop) : Prop := Sp_M_same p0 p1 σ (fun r σ1 => post 0 σ1 (vp_updL g 0 r.toInt64)) (fun k σ1 => (k = 0 ∧ post 1 σ1 g))
set_option maxHeartbeats 4000000 in
set_option maxRecDepth 100000 in
theorem met_L_same (l : Launch) (hl0 : l.stackTraces = false) (D : va_G) (ad : Nat → Nat) (cA cB cL : ClassId) (hap : kapC ad) (σ : S0) (qo : Nat) (hqo : ∀ k, k < 26 → ad k ≠ qo) (g : Nat → Int64) (sz : Nat) (p0 p1 : Int32) (post : Int32 → S0 → (Nat → Int64) → Prop) (h : Sp_L_same p0 p1 σ g post) : Met l y_L_same (Cond.codeWith y_L_same c_L_same 5 (some .int) [(0, 10, 13, 13)] :: wsG) ({ frames := 9, cells := 1, slots := 6, locals := 152 } : Room) (kPcL D ad cA cB cL σ qo g sz [.ref (ad 0), .int p0, .int p1, .ref qo]) (va_Qi (fun (r : Int32) (u : S0 × (Nat → Int64)) => post r u.1 u.2) (kBL D ad cA cB cL qo) (kAL ad qo sz)) 1 6 (kAL ad qo sz) := by
  refine va_MetW (cc := c_L_same) (maxL := 5) (ret := (some .int)) (hh := [(0, 10, 13, 13)]) (by decide) rfl ?_
  intro p e s m args below meth c s₁ B hml hv
  obtain ⟨rfl, hsz, hP, hK, hF, hN⟩ := hv
  have hx := B.exec
  have hb := B.bytes
  have hr := B.returns
  have hts := atoms_spec (ws := (Cond.codeWith y_L_same c_L_same 5 (some .int) [(0, 10, 13, 13)] :: wsG)) B.pre
  have htg : ∀ w ∈ wsG, w.before ([.ref (ad 0), .int p0, .int p1, .ref qo] : List Value).toArray s = true := fun w h => hts w (List.mem_cons_of_mem _ h)
  have htab : c.exceptionTable.toList = tableOf [(0, 10, 13, 13)] := vx_table (x := y_L_same) B (hts _ List.mem_cons_self)
  have hown : s.vm.findClass RL = some m.cls := findClass_of_methodNamed B.named
  have hlocks := B.notSynchronized
  subst hsz
  have hE := hF.1
  have hl := lv_entry ([.ref (ad 0), .int p0, .int p1, .ref qo]) (n := 5) (Nat.le_of_ble_eq_true rfl)
  rw [lg_entry_eq]
  generalize (lg_sl ([.ref (ad 0), .int p0, .int p1, .ref qo]) ++ List.replicate (5 - (lg_sl ([.ref (ad 0), .int p0, .int p1, .ref qo])).length) Slot.unset).toArray = ls at hl ⊢
  have hl : lv_has ls 5 [(0, .ref (ad 0)), (1, .int p0), (2, .int p1), (3, .ref qo)] := hl
  unfold Sp_L_same at h
  have hPc : va_P D vwCl (wC ad cA cB σ) s.heap := hP.sub [0, 1, 2, 3, 4, 5, 6, 7, 8, 9, 10, 11, 12, 13, 14, 15, 16, 17, 18, 19, 20, 21, 22, 23, 24, 25] rfl
  have hKc : va_K D vwCl (ktyC cA cB) s := hK.sub [0, 1] rfl
  refine lv_aload_n hx hb d_L_same_0 rfl (lv_at hl 3 rfl) ?_
  refine lv_iconst (v := 0) hx hb d_L_same_1 (by decide) ?_
  refine lv_aload_n hx hb d_L_same_2 rfl (lv_at hl 0 rfl) ?_
  refine lv_iload_n hx hb d_L_same_3 rfl (lv_at hl 1 rfl) ?_
  refine lv_iload_n hx hb d_L_same_4 rfl (lv_at hl 2 rfl) ?_
  refine kL_call (vx_runV (As := [.int p0, .int p1]) (rest := [.int 0, .ref qo]) ⟨hx, hb, hml, hown, htg⟩ (metx_M_same l hl0 D ad cA cB hap σ s.heap.size p0 p1 _ _ h) (cwV 2 htg (kG (kG_V m_345 m_346 m_347 m_53 (kG_self m_348))) rfl rfl rfl (by decide +kernel) ⟨Nat.le_of_ble_eq_true rfl, Nat.le_of_ble_eq_true rfl⟩) (kC_preV hKc hF hPc va_S.rf 0 rfl rfl _) rfl rfl hl.1 rfl (lv_room (Nat.le_of_ble_eq_true rfl)) d_L_same_5 ⟨Nat.le_of_ble_eq_true rfl, Nat.le_of_ble_eq_true rfl⟩) hP hqo (fun ce q9 k σ1 H locs h hP hS hcell hv hcl => ?_) (fun r σ1 H locs h hP hS => ?_)
  · obtain ⟨rfl, h⟩ := h
    refine vx_catch (name := "java/lang/IndexOutOfBoundsException") hown [] ⟨0, 10, 13, 13⟩ [] (by rw [htab]; rfl) (fun z hz => by cases hz) rfl (by decide) (htg _ m_233) (va_Nw.use rfl (hE _ me_246)) hcell hv hcl ?_
    refine lv_astore (lv' := [(4, .ref q9), (0, .ref (ad 0)), (1, .int p0), (2, .int p1), (3, .ref qo)]) hx hb d_L_same_13 hl (by decide) rfl (fun ls hl => ?_)
    refine lv_iconst (v := 1) hx hb d_L_same_15 (by decide) ?_
    refine W.widen (k := 1) (n := 6) (Nat.le_of_ble_eq_true rfl) (Nat.le_of_ble_eq_true rfl) ?_
    exact W.iret (v := 1) hx hb hr (fun t ht hW => ⟨⟨_, (σ1, g), rfl, h, by show va_P D vwCl _ t.heap; rw [ht]; exact hP⟩, hS.F ht⟩) hS.2.2 d_L_same_16 hlocks
  · refine lv_i2l (v := r.toInt64) hx hb d_L_same_8 rfl ?_
    refine va_last hx hb hK hP (kL_D hap hqo) hS 26 2 rfl rfl kin0 d_L_same_9 (fun H locs hP _ hS => ?_)
    have hP : va_P D vwCl (wC ad cA cB σ1 ++ kO qo cL (vp_updL g 0 r.toInt64)) H := hP
    refine lv_goto (tgt := 17) hx hb d_L_same_10 (by decide) ?_
    refine lv_iconst (v := 0) hx hb d_L_same_17 (by decide) ?_
    refine W.widen (k := 1) (n := 6) (Nat.le_of_ble_eq_true rfl) (Nat.le_of_ble_eq_true rfl) ?_
    exact W.iret (v := 0) hx hb hr (fun t ht hW => ⟨⟨_, (σ1, vp_updL g 0 r.toInt64), rfl, h, by show va_P D vwCl _ t.heap; rw [ht]; exact hP⟩, hS.F ht⟩) hS.2.2 d_L_same_18 hlocks
/-- private static int phase(MatrixSheets, int, int, long[]) -/
def Sp_L_phase (p0 p1 : Int32) (σ : S0) (g : Nat → Int64) (post : Int32 → S0 → (Nat → Int64) → Prop) : Prop := Sp_M_phase p0 p1 σ (fun r σ1 => post 0 σ1 (vp_updL g 0 r.toInt64)) (fun k σ1 => (k = 0 ∧ post 1 σ1 g) ∨ (k = 2 ∧ post 2 σ1 g))
set_option maxHeartbeats 4000000 in
set_option maxRecDepth 100000 in
theorem met_L_phase (l : Launch) (hl0 : l.stackTraces = false) (D : va_G) (ad : Nat → Nat) (cA cB cL : ClassId) (hap : kapC ad) (σ : S0) (qo : Nat) (hqo : ∀ k, k < 26 → ad k ≠ qo) (g : Nat → Int64) (sz : Nat) (p0 p1 : Int32) (post : Int32 → S0 → (Nat → Int64) → Prop) (h : Sp_L_phase p0 p1 σ g post) : Met l y_L_phase (Cond.codeWith y_L_phase c_L_phase 5 (some .int) [(0, 10, 13, 13), (0, 10, 17, 21)] :: wsG) ({ frames := 9, cells := 1, slots := 6, locals := 152 } : Room) (kPcL D ad cA cB cL σ qo g sz [.ref (ad 0), .int p0, .int p1, .ref qo]) (va_Qi (fun (r : Int32) (u : S0 × (Nat → Int64)) => post r u.1 u.2) (kBL D ad cA cB cL qo) (kAL ad qo sz)) 1 6 (kAL ad qo sz) := by
  refine va_MetW (cc := c_L_phase) (maxL := 5) (ret := (some .int)) (hh := [(0, 10, 13, 13), (0, 10, 17, 21)]) (by decide) rfl ?_
  intro p e s m args below meth c s₁ B hml hv
  obtain ⟨rfl, hsz, hP, hK, hF, hN⟩ := hv
  have hx := B.exec
  have hb := B.bytes
  have hr := B.returns
  have hts := atoms_spec (ws := (Cond.codeWith y_L_phase c_L_phase 5 (some .int) [(0, 10, 13, 13), (0, 10, 17, 21)] :: wsG)) B.pre
  have htg : ∀ w ∈ wsG, w.before ([.ref (ad 0), .int p0, .int p1, .ref qo] : List Value).toArray s = true := fun w h => hts w (List.mem_cons_of_mem _ h)
  have htab : c.exceptionTable.toList = tableOf [(0, 10, 13, 13), (0, 10, 17, 21)] := vx_table (x := y_L_phase) B (hts _ List.mem_cons_self)
  have hown : s.vm.findClass RL = some m.cls := findClass_of_methodNamed B.named
  have hlocks := B.notSynchronized
  subst hsz
  have hE := hF.1
  have hl := lv_entry ([.ref (ad 0), .int p0, .int p1, .ref qo]) (n := 5) (Nat.le_of_ble_eq_true rfl)
  rw [lg_entry_eq]
  generalize (lg_sl ([.ref (ad 0), .int p0, .int p1, .ref qo]) ++ List.replicate (5 - (lg_sl ([.ref (ad 0), .int p0, .int p1, .ref qo])).length) Slot.unset).toArray = ls at hl ⊢
  have hl : lv_has ls 5 [(0, .ref (ad 0)), (1, .int p0), (2, .int p1), (3, .ref qo)] := hl
  unfold Sp_L_phase at h
  have hPc : va_P D vwCl (wC ad cA cB σ) s.heap := hP.sub [0, 1, 2, 3, 4, 5, 6, 7, 8, 9, 10, 11, 12, 13, 14, 15, 16, 17, 18, 19, 20, 21, 22, 23, 24, 25] rfl
  have hKc : va_K D vwCl (ktyC cA cB) s := hK.sub [0, 1] rfl
  refine lv_aload_n hx hb d_L_phase_0 rfl (lv_at hl 3 rfl) ?_
  refine lv_iconst (v := 0) hx hb d_L_phase_1 (by decide) ?_
  refine lv_aload_n hx hb d_L_phase_2 rfl (lv_at hl 0 rfl) ?_
  refine lv_iload_n hx hb d_L_phase_3 rfl (lv_at hl 1 rfl) ?_
  refine lv_iload_n hx hb d_L_phase_4 rfl (lv_at hl 2 rfl) ?_
  refine kL_call (vx_runV (As := [.int p0, .int p1]) (rest := [.int 0, .ref qo]) ⟨hx, hb, hml, hown, htg⟩ (metx_M_phase l hl0 D ad cA cB hap σ s.heap.size p0 p1 _ _ h) (cwV 2 htg (kG (kG_V m_367 m_368 m_369 m_53 (kG_self m_370))) rfl rfl rfl (by decide +kernel) ⟨Nat.le_of_ble_eq_true rfl, Nat.le_of_ble_eq_true rfl⟩) (kC_preV hKc hF hPc va_S.rf 0 rfl rfl _) rfl rfl hl.1 rfl (lv_room (Nat.le_of_ble_eq_true rfl)) d_L_phase_5 ⟨Nat.le_of_ble_eq_true rfl, Nat.le_of_ble_eq_true rfl⟩) hP hqo (fun ce q9 k σ1 H locs h hP hS hcell hv hcl => ?_) (fun r σ1 H locs h hP hS => ?_)
  · rcases h with ⟨rfl, h⟩ | ⟨rfl, h⟩
    · refine vx_catch (name := "java/lang/IndexOutOfBoundsException") hown [] ⟨0, 10, 13, 13⟩ [⟨0, 10, 17, 21⟩] (by rw [htab]; rfl) (fun z hz => by cases hz) rfl (by decide) (htg _ m_233) (va_Nw.use rfl (hE _ me_246)) hcell hv hcl ?_
      refine lv_astore (lv' := [(4, .ref q9), (0, .ref (ad 0)), (1, .int p0), (2, .int p1), (3, .ref qo)]) hx hb d_L_phase_13 hl (by decide) rfl (fun ls hl => ?_)
      refine lv_iconst (v := 1) hx hb d_L_phase_15 (by decide) ?_
      refine W.widen (k := 1) (n := 6) (Nat.le_of_ble_eq_true rfl) (Nat.le_of_ble_eq_true rfl) ?_
      exact W.iret (v := 1) hx hb hr (fun t ht hW => ⟨⟨_, (σ1, g), rfl, h, by show va_P D vwCl _ t.heap; rw [ht]; exact hP⟩, hS.F ht⟩) hS.2.2 d_L_phase_16 hlocks
    · refine vx_catch (name := "java/lang/IllegalArgumentException") hown [⟨0, 10, 13, 13⟩] ⟨0, 10, 17, 21⟩ [] (by rw [htab]; rfl) (fun z hz => by rw [List.mem_singleton] at hz; subst hz; exact Or.inr ⟨by decide, "java/lang/IndexOutOfBoundsException", htg _ m_233, hN.2⟩) rfl (by decide) (htg _ m_366) (va_Nw.use rfl (hE _ me_373)) hcell hv hcl ?_
      refine lv_astore (lv' := [(4, .ref q9), (0, .ref (ad 0)), (1, .int p0), (2, .int p1), (3, .ref qo)]) hx hb d_L_phase_17 hl (by decide) rfl (fun ls hl => ?_)
      refine lv_iconst (v := 2) hx hb d_L_phase_19 (by decide) ?_
      refine W.widen (k := 1) (n := 6) (Nat.le_of_ble_eq_true rfl) (Nat.le_of_ble_eq_true rfl) ?_
      exact W.iret (v := 2) hx hb hr (fun t ht hW => ⟨⟨_, (σ1, g), rfl, h, by show va_P D vwCl _ t.heap; rw [ht]; exact hP⟩, hS.F ht⟩) hS.2.2 d_L_phase_20 hlocks
  · refine lv_i2l (v := r.toInt64) hx hb d_L_phase_8 rfl ?_
    refine va_last hx hb hK hP (kL_D hap hqo) hS 26 2 rfl rfl kin0 d_L_phase_9 (fun H locs hP _ hS => ?_)
    have hP : va_P D vwCl (wC ad cA cB σ1 ++ kO qo cL (vp_updL g 0 r.toInt64)) H := hP
    refine lv_goto (tgt := 21) hx hb d_L_phase_10 (by decide) ?_
    refine lv_iconst (v := 0) hx hb d_L_phase_21 (by decide) ?_
    refine W.widen (k := 1) (n := 6) (Nat.le_of_ble_eq_true rfl) (Nat.le_of_ble_eq_true rfl) ?_
    exact W.iret (v := 0) hx hb hr (fun t ht hW => ⟨⟨_, (σ1, vp_updL g 0 r.toInt64), rfl, h, by show va_P D vwCl _ t.heap; rw [ht]; exact hP⟩, hS.F ht⟩) hS.2.2 d_L_phase_22 hlocks
/-- private static int hide(MatrixSheets, int, boolean, long[]) -/
def Sp_L_hide (p0 p1 : Int32) (σ : S0) (g : Nat → Int64) (post : Int32 → S0 → (Nat → Int64) → Prop) : Prop := Sp_M_hide p0 p1 σ (fun r σ1 => post 0 σ1 (vp_updL g 0 (if r = 0 then 0 else 1))) (fun k σ1 => (k = 0 ∧ post 1 σ1 g))
set_option maxHeartbeats 4000000 in
set_option maxRecDepth 100000 in
theorem met_L_hide (l : Launch) (hl0 : l.stackTraces = false) (D : va_G) (ad : Nat → Nat) (cA cB cL : ClassId) (hap : kapC ad) (σ : S0) (qo : Nat) (hqo : ∀ k, k < 26 → ad k ≠ qo) (g : Nat → Int64) (sz : Nat) (p0 p1 : Int32) (post : Int32 → S0 → (Nat → Int64) → Prop) (h : Sp_L_hide p0 p1 σ g post) : Met l y_L_hide (Cond.codeWith y_L_hide c_L_hide 5 (some .int) [(0, 17, 20, 13)] :: wsG) ({ frames := 9, cells := 1, slots := 6, locals := 152 } : Room) (kPcL D ad cA cB cL σ qo g sz [.ref (ad 0), .int p0, .int p1, .ref qo]) (va_Qi (fun (r : Int32) (u : S0 × (Nat → Int64)) => post r u.1 u.2) (kBL D ad cA cB cL qo) (kAL ad qo sz)) 1 6 (kAL ad qo sz) := by
  refine va_MetW (cc := c_L_hide) (maxL := 5) (ret := (some .int)) (hh := [(0, 17, 20, 13)]) (by decide) rfl ?_
  intro p e s m args below meth c s₁ B hml hv
  obtain ⟨rfl, hsz, hP, hK, hF, hN⟩ := hv
  have hx := B.exec
  have hb := B.bytes
  have hr := B.returns
  have hts := atoms_spec (ws := (Cond.codeWith y_L_hide c_L_hide 5 (some .int) [(0, 17, 20, 13)] :: wsG)) B.pre
  have htg : ∀ w ∈ wsG, w.before ([.ref (ad 0), .int p0, .int p1, .ref qo] : List Value).toArray s = true := fun w h => hts w (List.mem_cons_of_mem _ h)
  have htab : c.exceptionTable.toList = tableOf [(0, 17, 20, 13)] := vx_table (x := y_L_hide) B (hts _ List.mem_cons_self)
  have hown : s.vm.findClass RL = some m.cls := findClass_of_methodNamed B.named
  have hlocks := B.notSynchronized
  subst hsz
  have hE := hF.1
  have hl := lv_entry ([.ref (ad 0), .int p0, .int p1, .ref qo]) (n := 5) (Nat.le_of_ble_eq_true rfl)
  rw [lg_entry_eq]
  generalize (lg_sl ([.ref (ad 0), .int p0, .int p1, .ref qo]) ++ List.replicate (5 - (lg_sl ([.ref (ad 0), .int p0, .int p1, .ref qo])).length) Slot.unset).toArray = ls at hl ⊢
  have hl : lv_has ls 5 [(0, .ref (ad 0)), (1, .int p0), (2, .int p1), (3, .ref qo)] := hl
  unfold Sp_L_hide at h
  have hPc : va_P D vwCl (wC ad cA cB σ) s.heap := hP.sub [0, 1, 2, 3, 4, 5, 6, 7, 8, 9, 10, 11, 12, 13, 14, 15, 16, 17, 18, 19, 20, 21, 22, 23, 24, 25] rfl
  have hKc : va_K D vwCl (ktyC cA cB) s := hK.sub [0, 1] rfl
  refine lv_aload_n hx hb d_L_hide_0 rfl (lv_at hl 3 rfl) ?_
  refine lv_iconst (v := 0) hx hb d_L_hide_1 (by decide) ?_
  refine lv_aload_n hx hb d_L_hide_2 rfl (lv_at hl 0 rfl) ?_
  refine lv_iload_n hx hb d_L_hide_3 rfl (lv_at hl 1 rfl) ?_
  refine lv_iload_n hx hb d_L_hide_4 rfl (lv_at hl 2 rfl) ?_
  refine kL_call (vx_runV (As := [.int p0, .int p1]) (rest := [.int 0, .ref qo]) ⟨hx, hb, hml, hown, htg⟩ (metx_M_hide l hl0 D ad cA cB hap σ s.heap.size p0 p1 _ _ h) (cwV 2 htg (kG (kG_V m_394 m_395 m_396 m_53 (kG_self m_397))) rfl rfl rfl (by decide +kernel) ⟨Nat.le_of_ble_eq_true rfl, Nat.le_of_ble_eq_true rfl⟩) (kC_preV hKc hF hPc va_S.rf 0 rfl rfl _) rfl rfl hl.1 rfl (lv_room (Nat.le_of_ble_eq_true rfl)) d_L_hide_5 ⟨Nat.le_of_ble_eq_true rfl, Nat.le_of_ble_eq_true rfl⟩) hP hqo (fun ce q9 k σ1 H locs h hP hS hcell hv hcl => ?_) (fun r σ1 H locs h hP hS => ?_)
  · obtain ⟨rfl, h⟩ := h
    refine vx_catch (name := "java/lang/IndexOutOfBoundsException") hown [] ⟨0, 17, 20, 13⟩ [] (by rw [htab]; rfl) (fun z hz => by cases hz) rfl (by decide) (htg _ m_233) (va_Nw.use rfl (hE _ me_246)) hcell hv hcl ?_
    refine lv_astore (lv' := [(4, .ref q9), (0, .ref (ad 0)), (1, .int p0), (2, .int p1), (3, .ref qo)]) hx hb d_L_hide_20 hl (by decide) rfl (fun ls hl => ?_)
    refine lv_iconst (v := 1) hx hb d_L_hide_22 (by decide) ?_
    refine W.widen (k := 1) (n := 6) (Nat.le_of_ble_eq_true rfl) (Nat.le_of_ble_eq_true rfl) ?_
    exact W.iret (v := 1) hx hb hr (fun t ht hW => ⟨⟨_, (σ1, g), rfl, h, by show va_P D vwCl _ t.heap; rw [ht]; exact hP⟩, hS.F ht⟩) hS.2.2 d_L_hide_23 hlocks
  · refine lv_if_eq (tgt := 15) hx hb d_L_hide_8 (by decide) (fun cn => ?_) (fun cn => ?_)
    · rw [if_pos cn] at h
      refine lv_lconst (v := 0) hx hb d_L_hide_15 rfl ?_
      refine va_last hx hb hK hP (kL_D hap hqo) hS 26 2 rfl rfl kin0 d_L_hide_16 (fun H locs hP _ hS => ?_)
      have hP : va_P D vwCl (wC ad cA cB σ1 ++ kO qo cL (vp_updL g 0 0)) H := hP
      refine lv_goto (tgt := 24) hx hb d_L_hide_17 (by decide) ?_
      refine lv_iconst (v := 0) hx hb d_L_hide_24 (by decide) ?_
      refine W.widen (k := 1) (n := 6) (Nat.le_of_ble_eq_true rfl) (Nat.le_of_ble_eq_true rfl) ?_
      exact W.iret (v := 0) hx hb hr (fun t ht hW => ⟨⟨_, (σ1, vp_updL g 0 0), rfl, h, by show va_P D vwCl _ t.heap; rw [ht]; exact hP⟩, hS.F ht⟩) hS.2.2 d_L_hide_25 hlocks
    · rw [if_neg cn] at h
      refine lv_lconst (v := 1) hx hb d_L_hide_11 rfl ?_
      refine lv_goto (tgt := 16) hx hb d_L_hide_12 (by decide) ?_
      refine va_last hx hb hK hP (kL_D hap hqo) hS 26 2 rfl rfl kin0 d_L_hide_16 (fun H locs hP _ hS => ?_)
      have hP : va_P D vwCl (wC ad cA cB σ1 ++ kO qo cL (vp_updL g 0 1)) H := hP
      refine lv_goto (tgt := 24) hx hb d_L_hide_17 (by decide) ?_
      refine lv_iconst (v := 0) hx hb d_L_hide_24 (by decide) ?_
      refine W.widen (k := 1) (n := 6) (Nat.le_of_ble_eq_true rfl) (Nat.le_of_ble_eq_true rfl) ?_
      exact W.iret (v := 0) hx hb hr (fun t ht hW => ⟨⟨_, (σ1, vp_updL g 0 1), rfl, h, by show va_P D vwCl _ t.heap; rw [ht]; exact hP⟩, hS.F ht⟩) hS.2.2 d_L_hide_25 hlocks
/-- private static int group(MatrixSheets, int, long[]) -/
def Sp_L_group (p0 : Int32) (σ : S0) (g : Nat → Int64) (post : Int32 → S0 → (Nat → Int64) → Prop) : Prop := Sp_M_group p0 σ (fun r σ1 => post 0 σ1 (vp_updL g 0 r.toInt64)) (fun k σ1 => (k = 0 ∧ post 1 σ1 g))
set_option maxHeartbeats 4000000 in
set_option maxRecDepth 100000 in
theorem met_L_group (l : Launch) (hl0 : l.stackTraces = false) (D : va_G) (ad : Nat → Nat) (cA cB cL : ClassId) (hap : kapC ad) (σ : S0) (qo : Nat) (hqo : ∀ k, k < 26 → ad k ≠ qo) (g : Nat → Int64) (sz : Nat) (p0 : Int32) (post : Int32 → S0 → (Nat → Int64) → Prop) (h : Sp_L_group p0 σ g post) : Met l y_L_group (Cond.codeWith y_L_group c_L_group 4 (some .int) [(0, 9, 12, 13)] :: wsG) ({ frames := 9, cells := 1, slots := 6, locals := 151 } : Room) (kPcL D ad cA cB cL σ qo g sz [.ref (ad 0), .int p0, .ref qo]) (va_Qi (fun (r : Int32) (u : S0 × (Nat → Int64)) => post r u.1 u.2) (kBL D ad cA cB cL qo) (kAL ad qo sz)) 1 6 (kAL ad qo sz) := by
  refine va_MetW (cc := c_L_group) (maxL := 4) (ret := (some .int)) (hh := [(0, 9, 12, 13)]) (by decide) rfl ?_
  intro p e s m args below meth c s₁ B hml hv
  obtain ⟨rfl, hsz, hP, hK, hF, hN⟩ := hv
  have hx := B.exec
  have hb := B.bytes
  have hr := B.returns
  have hts := atoms_spec (ws := (Cond.codeWith y_L_group c_L_group 4 (some .int) [(0, 9, 12, 13)] :: wsG)) B.pre
  have htg : ∀ w ∈ wsG, w.before ([.ref (ad 0), .int p0, .ref qo] : List Value).toArray s = true := fun w h => hts w (List.mem_cons_of_mem _ h)
  have htab : c.exceptionTable.toList = tableOf [(0, 9, 12, 13)] := vx_table (x := y_L_group) B (hts _ List.mem_cons_self)
  have hown : s.vm.findClass RL = some m.cls := findClass_of_methodNamed B.named
  have hlocks := B.notSynchronized
  subst hsz
  have hE := hF.1
  have hl := lv_entry ([.ref (ad 0), .int p0, .ref qo]) (n := 4) (Nat.le_of_ble_eq_true rfl)
  rw [lg_entry_eq]
  generalize (lg_sl ([.ref (ad 0), .int p0, .ref qo]) ++ List.replicate (4 - (lg_sl ([.ref (ad 0), .int p0, .ref qo])).length) Slot.unset).toArray = ls at hl ⊢
  have hl : lv_has ls 4 [(0, .ref (ad 0)), (1, .int p0), (2, .ref qo)] := hl
  unfold Sp_L_group at h
  have hPc : va_P D vwCl (wC ad cA cB σ) s.heap := hP.sub [0, 1, 2, 3, 4, 5, 6, 7, 8, 9, 10, 11, 12, 13, 14, 15, 16, 17, 18, 19, 20, 21, 22, 23, 24, 25] rfl
  have hKc : va_K D vwCl (ktyC cA cB) s := hK.sub [0, 1] rfl
  refine lv_aload_n hx hb d_L_group_0 rfl (lv_at hl 2 rfl) ?_
  refine lv_iconst (v := 0) hx hb d_L_group_1 (by decide) ?_
  refine lv_aload_n hx hb d_L_group_2 rfl (lv_at hl 0 rfl) ?_
  refine lv_iload_n hx hb d_L_group_3 rfl (lv_at hl 1 rfl) ?_
  refine kL_call (vx_runV (As := [.int p0]) (rest := [.int 0, .ref qo]) ⟨hx, hb, hml, hown, htg⟩ (metx_M_group l hl0 D ad cA cB hap σ s.heap.size p0 _ _ h) (cwV 1 htg (kG (kG_V m_405 m_406 m_407 m_53 (kG_self m_408))) rfl rfl rfl (by decide +kernel) ⟨Nat.le_of_ble_eq_true rfl, Nat.le_of_ble_eq_true rfl⟩) (kC_preV hKc hF hPc va_S.rf 0 rfl rfl _) rfl rfl hl.1 rfl (lv_room (Nat.le_of_ble_eq_true rfl)) d_L_group_4 ⟨Nat.le_of_ble_eq_true rfl, Nat.le_of_ble_eq_true rfl⟩) hP hqo (fun ce q9 k σ1 H locs h hP hS hcell hv hcl => ?_) (fun r σ1 H locs h hP hS => ?_)
  · obtain ⟨rfl, h⟩ := h
    refine vx_catch (name := "java/lang/IndexOutOfBoundsException") hown [] ⟨0, 9, 12, 13⟩ [] (by rw [htab]; rfl) (fun z hz => by cases hz) rfl (by decide) (htg _ m_233) (va_Nw.use rfl (hE _ me_246)) hcell hv hcl ?_
    refine lv_astore_n (lv' := [(3, .ref q9), (0, .ref (ad 0)), (1, .int p0), (2, .ref qo)]) hx hb d_L_group_12 rfl hl (by decide) rfl (fun ls hl => ?_)
    refine lv_iconst (v := 1) hx hb d_L_group_13 (by decide) ?_
    refine W.widen (k := 1) (n := 6) (Nat.le_of_ble_eq_true rfl) (Nat.le_of_ble_eq_true rfl) ?_
    exact W.iret (v := 1) hx hb hr (fun t ht hW => ⟨⟨_, (σ1, g), rfl, h, by show va_P D vwCl _ t.heap; rw [ht]; exact hP⟩, hS.F ht⟩) hS.2.2 d_L_group_14 hlocks
  · refine lv_i2l (v := r.toInt64) hx hb d_L_group_7 rfl ?_
    refine va_last hx hb hK hP (kL_D hap hqo) hS 26 2 rfl rfl kin0 d_L_group_8 (fun H locs hP _ hS => ?_)
    have hP : va_P D vwCl (wC ad cA cB σ1 ++ kO qo cL (vp_updL g 0 r.toInt64)) H := hP
    refine lv_goto (tgt := 15) hx hb d_L_group_9 (by decide) ?_
    refine lv_iconst (v := 0) hx hb d_L_group_15 (by decide) ?_
    refine W.widen (k := 1) (n := 6) (Nat.le_of_ble_eq_true rfl) (Nat.le_of_ble_eq_true rfl) ?_
    exact W.iret (v := 0) hx hb hr (fun t ht hW => ⟨⟨_, (σ1, vp_updL g 0 r.toInt64), rfl, h, by show va_P D vwCl _ t.heap; rw [ht]; exact hP⟩, hS.F ht⟩) hS.2.2 d_L_group_16 hlocks
/-- private static int misfit(MatrixSheets, int, int, long[]) -/
def Sp_L_misfit (p0 p1 : Int32) (σ : S0) (g : Nat → Int64) (post : Int32 → S0 → (Nat → Int64) → Prop) : Prop := Sp_M_misfit p0 p1 σ (fun r σ1 => post 0 σ1 (vp_updL g 0 r.toInt64)) (fun k σ1 => (k = 0 ∧ post 1 σ1 g))
set_option maxHeartbeats 4000000 in
set_option maxRecDepth 100000 in
theorem met_L_misfit (l : Launch) (hl0 : l.stackTraces = false) (D : va_G) (ad : Nat → Nat) (cA cB cL : ClassId) (hap : kapC ad) (σ : S0) (qo : Nat) (hqo : ∀ k, k < 26 → ad k ≠ qo) (g : Nat → Int64) (sz : Nat) (p0 p1 : Int32) (post : Int32 → S0 → (Nat → Int64) → Prop) (h : Sp_L_misfit p0 p1 σ g post) : Met l y_L_misfit (Cond.codeWith y_L_misfit c_L_misfit 5 (some .int) [(0, 10, 13, 13)] :: wsG) ({ frames := 8, cells := 1, slots := 6, locals := 133 } : Room) (kPcL D ad cA cB cL σ qo g sz [.ref (ad 0), .int p0, .int p1, .ref qo]) (va_Qi (fun (r : Int32) (u : S0 × (Nat → Int64)) => post r u.1 u.2) (kBL D ad cA cB cL qo) (kAL ad qo sz)) 1 6 (kAL ad qo sz) := by
  refine va_MetW (cc := c_L_misfit) (maxL := 5) (ret := (some .int)) (hh := [(0, 10, 13, 13)]) (by decide) rfl ?_
  intro p e s m args below meth c s₁ B hml hv
  obtain ⟨rfl, hsz, hP, hK, hF, hN⟩ := hv
  have hx := B.exec
  have hb := B.bytes
  have hr := B.returns
  have hts := atoms_spec (ws := (Cond.codeWith y_L_misfit c_L_misfit 5 (some .int) [(0, 10, 13, 13)] :: wsG)) B.pre
  have htg : ∀ w ∈ wsG, w.before ([.ref (ad 0), .int p0, .int p1, .ref qo] : List Value).toArray s = true := fun w h => hts w (List.mem_cons_of_mem _ h)
  have htab : c.exceptionTable.toList = tableOf [(0, 10, 13, 13)] := vx_table (x := y_L_misfit) B (hts _ List.mem_cons_self)
  have hown : s.vm.findClass RL = some m.cls := findClass_of_methodNamed B.named
  have hlocks := B.notSynchronized
  subst hsz
  have hE := hF.1
  have hl := lv_entry ([.ref (ad 0), .int p0, .int p1, .ref qo]) (n := 5) (Nat.le_of_ble_eq_true rfl)
  rw [lg_entry_eq]
  generalize (lg_sl ([.ref (ad 0), .int p0, .int p1, .ref qo]) ++ List.replicate (5 - (lg_sl ([.ref (ad 0), .int p0, .int p1, .ref qo])).length) Slot.unset).toArray = ls at hl ⊢
  have hl : lv_has ls 5 [(0, .ref (ad 0)), (1, .int p0), (2, .int p1), (3, .ref qo)] := hl
  unfold Sp_L_misfit at h
  have hPc : va_P D vwCl (wC ad cA cB σ) s.heap := hP.sub [0, 1, 2, 3, 4, 5, 6, 7, 8, 9, 10, 11, 12, 13, 14, 15, 16, 17, 18, 19, 20, 21, 22, 23, 24, 25] rfl
  have hKc : va_K D vwCl (ktyC cA cB) s := hK.sub [0, 1] rfl
  refine lv_aload_n hx hb d_L_misfit_0 rfl (lv_at hl 3 rfl) ?_
  refine lv_iconst (v := 0) hx hb d_L_misfit_1 (by decide) ?_
  refine lv_aload_n hx hb d_L_misfit_2 rfl (lv_at hl 0 rfl) ?_
  refine lv_iload_n hx hb d_L_misfit_3 rfl (lv_at hl 1 rfl) ?_
  refine lv_iload_n hx hb d_L_misfit_4 rfl (lv_at hl 2 rfl) ?_
  refine kL_call (vx_runV (As := [.int p0, .int p1]) (rest := [.int 0, .ref qo]) ⟨hx, hb, hml, hown, htg⟩ (metx_M_misfit l hl0 D ad cA cB hap σ s.heap.size p0 p1 _ _ h) (cwV 2 htg (kG (kG_V m_412 m_413 m_414 m_53 (kG_self m_415))) rfl rfl rfl (by decide +kernel) ⟨Nat.le_of_ble_eq_true rfl, Nat.le_of_ble_eq_true rfl⟩) (kC_preV hKc hF hPc va_S.rf 0 rfl rfl _) rfl rfl hl.1 rfl (lv_room (Nat.le_of_ble_eq_true rfl)) d_L_misfit_5 ⟨Nat.le_of_ble_eq_true rfl, Nat.le_of_ble_eq_true rfl⟩) hP hqo (fun ce q9 k σ1 H locs h hP hS hcell hv hcl => ?_) (fun r σ1 H locs h hP hS => ?_)
  · obtain ⟨rfl, h⟩ := h
    refine vx_catch (name := "java/lang/IndexOutOfBoundsException") hown [] ⟨0, 10, 13, 13⟩ [] (by rw [htab]; rfl) (fun z hz => by cases hz) rfl (by decide) (htg _ m_233) (va_Nw.use rfl (hE _ me_246)) hcell hv hcl ?_
    refine lv_astore (lv' := [(4, .ref q9), (0, .ref (ad 0)), (1, .int p0), (2, .int p1), (3, .ref qo)]) hx hb d_L_misfit_13 hl (by decide) rfl (fun ls hl => ?_)
    refine lv_iconst (v := 1) hx hb d_L_misfit_15 (by decide) ?_
    refine W.widen (k := 1) (n := 6) (Nat.le_of_ble_eq_true rfl) (Nat.le_of_ble_eq_true rfl) ?_
    exact W.iret (v := 1) hx hb hr (fun t ht hW => ⟨⟨_, (σ1, g), rfl, h, by show va_P D vwCl _ t.heap; rw [ht]; exact hP⟩, hS.F ht⟩) hS.2.2 d_L_misfit_16 hlocks
  · refine lv_i2l (v := r.toInt64) hx hb d_L_misfit_8 rfl ?_
    refine va_last hx hb hK hP (kL_D hap hqo) hS 26 2 rfl rfl kin0 d_L_misfit_9 (fun H locs hP _ hS => ?_)
    have hP : va_P D vwCl (wC ad cA cB σ1 ++ kO qo cL (vp_updL g 0 r.toInt64)) H := hP
    refine lv_goto (tgt := 17) hx hb d_L_misfit_10 (by decide) ?_
    refine lv_iconst (v := 0) hx hb d_L_misfit_17 (by decide) ?_
    refine W.widen (k := 1) (n := 6) (Nat.le_of_ble_eq_true rfl) (Nat.le_of_ble_eq_true rfl) ?_
    exact W.iret (v := 0) hx hb hr (fun t ht hW => ⟨⟨_, (σ1, vp_updL g 0 r.toInt64), rfl, h, by show va_P D vwCl _ t.heap; rw [ht]; exact hP⟩, hS.F ht⟩) hS.2.2 d_L_misfit_18 hlocks
/-- private static int draw(MatrixSheets, int, long[]) -/
def Sp_L_draw (p0 : Int32) (σ : S0) (g : Nat → Int64) (post : Int32 → S0 → (Nat → Int64) → Prop) : Prop := Sp_M_draw p0 σ (fun r σ1 => post 0 σ1 (vp_updL g 0 r.toInt64)) (fun k σ1 => (k = 2 ∧ post 1 σ1 g))
set_option maxHeartbeats 4000000 in
set_option maxRecDepth 100000 in
theorem met_L_draw (l : Launch) (hl0 : l.stackTraces = false) (D : va_G) (ad : Nat → Nat) (cA cB cL : ClassId) (hap : kapC ad) (σ : S0) (qo : Nat) (hqo : ∀ k, k < 26 → ad k ≠ qo) (g : Nat → Int64) (sz : Nat) (p0 : Int32) (post : Int32 → S0 → (Nat → Int64) → Prop) (h : Sp_L_draw p0 σ g post) : Met l y_L_draw (Cond.codeWith y_L_draw c_L_draw 4 (some .int) [(0, 9, 12, 21)] :: wsG) ({ frames := 7, cells := 1, slots := 6, locals := 138 } : Room) (kPcL D ad cA cB cL σ qo g sz [.ref (ad 0), .int p0, .ref qo]) (va_Qi (fun (r : Int32) (u : S0 × (Nat → Int64)) => post r u.1 u.2) (kBL D ad cA cB cL qo) (kAL ad qo sz)) 1 6 (kAL ad qo sz) := by
  refine va_MetW (cc := c_L_draw) (maxL := 4) (ret := (some .int)) (hh := [(0, 9, 12, 21)]) (by decide) rfl ?_
  intro p e s m args below meth c s₁ B hml hv
  obtain ⟨rfl, hsz, hP, hK, hF, hN⟩ := hv
  have hx := B.exec
  have hb := B.bytes
  have hr := B.returns
  have hts := atoms_spec (ws := (Cond.codeWith y_L_draw c_L_draw 4 (some .int) [(0, 9, 12, 21)] :: wsG)) B.pre
  have htg : ∀ w ∈ wsG, w.before ([.ref (ad 0), .int p0, .ref qo] : List Value).toArray s = true := fun w h => hts w (List.mem_cons_of_mem _ h)
  have htab : c.exceptionTable.toList = tableOf [(0, 9, 12, 21)] := vx_table (x := y_L_draw) B (hts _ List.mem_cons_self)
  have hown : s.vm.findClass RL = some m.cls := findClass_of_methodNamed B.named
  have hlocks := B.notSynchronized
  subst hsz
  have hE := hF.1
  have hl := lv_entry ([.ref (ad 0), .int p0, .ref qo]) (n := 4) (Nat.le_of_ble_eq_true rfl)
  rw [lg_entry_eq]
  generalize (lg_sl ([.ref (ad 0), .int p0, .ref qo]) ++ List.replicate (4 - (lg_sl ([.ref (ad 0), .int p0, .ref qo])).length) Slot.unset).toArray = ls at hl ⊢
  have hl : lv_has ls 4 [(0, .ref (ad 0)), (1, .int p0), (2, .ref qo)] := hl
  unfold Sp_L_draw at h
  have hPc : va_P D vwCl (wC ad cA cB σ) s.heap := hP.sub [0, 1, 2, 3, 4, 5, 6, 7, 8, 9, 10, 11, 12, 13, 14, 15, 16, 17, 18, 19, 20, 21, 22, 23, 24, 25] rfl
  have hKc : va_K D vwCl (ktyC cA cB) s := hK.sub [0, 1] rfl
  refine lv_aload_n hx hb d_L_draw_0 rfl (lv_at hl 2 rfl) ?_
  refine lv_iconst (v := 0) hx hb d_L_draw_1 (by decide) ?_
  refine lv_aload_n hx hb d_L_draw_2 rfl (lv_at hl 0 rfl) ?_
  refine lv_iload_n hx hb d_L_draw_3 rfl (lv_at hl 1 rfl) ?_
  refine kL_call (vx_runV (As := [.int p0]) (rest := [.int 0, .ref qo]) ⟨hx, hb, hml, hown, htg⟩ (metx_M_draw l hl0 D ad cA cB hap σ s.heap.size p0 _ _ h) (cwV 1 htg (kG (kG_V m_427 m_428 m_429 m_53 (kG_self m_430))) rfl rfl rfl (by decide +kernel) ⟨Nat.le_of_ble_eq_true rfl, Nat.le_of_ble_eq_true rfl⟩) (kC_preV hKc hF hPc va_S.rf 0 rfl rfl _) rfl rfl hl.1 rfl (lv_room (Nat.le_of_ble_eq_true rfl)) d_L_draw_4 ⟨Nat.le_of_ble_eq_true rfl, Nat.le_of_ble_eq_true rfl⟩) hP hqo (fun ce q9 k σ1 H locs h hP hS hcell hv hcl => ?_) (fun r σ1 H locs h hP hS => ?_)
  · obtain ⟨rfl, h⟩ := h
    refine vx_catch (name := "java/lang/IllegalArgumentException") hown [] ⟨0, 9, 12, 21⟩ [] (by rw [htab]; rfl) (fun z hz => by cases hz) rfl (by decide) (htg _ m_366) (va_Nw.use rfl (hE _ me_373)) hcell hv hcl ?_
    refine lv_astore_n (lv' := [(3, .ref q9), (0, .ref (ad 0)), (1, .int p0), (2, .ref qo)]) hx hb d_L_draw_12 rfl hl (by decide) rfl (fun ls hl => ?_)
    refine lv_iconst (v := 1) hx hb d_L_draw_13 (by decide) ?_
    refine W.widen (k := 1) (n := 6) (Nat.le_of_ble_eq_true rfl) (Nat.le_of_ble_eq_true rfl) ?_
    exact W.iret (v := 1) hx hb hr (fun t ht hW => ⟨⟨_, (σ1, g), rfl, h, by show va_P D vwCl _ t.heap; rw [ht]; exact hP⟩, hS.F ht⟩) hS.2.2 d_L_draw_14 hlocks
  · refine lv_i2l (v := r.toInt64) hx hb d_L_draw_7 rfl ?_
    refine va_last hx hb hK hP (kL_D hap hqo) hS 26 2 rfl rfl kin0 d_L_draw_8 (fun H locs hP _ hS => ?_)
    have hP : va_P D vwCl (wC ad cA cB σ1 ++ kO qo cL (vp_updL g 0 r.toInt64)) H := hP
    refine lv_goto (tgt := 15) hx hb d_L_draw_9 (by decide) ?_
    refine lv_iconst (v := 0) hx hb d_L_draw_15 (by decide) ?_
    refine W.widen (k := 1) (n := 6) (Nat.le_of_ble_eq_true rfl) (Nat.le_of_ble_eq_true rfl) ?_
    exact W.iret (v := 0) hx hb hr (fun t ht hW => ⟨⟨_, (σ1, vp_updL g 0 r.toInt64), rfl, h, by show va_P D vwCl _ t.heap; rw [ht]; exact hP⟩, hS.F ht⟩) hS.2.2 d_L_draw_16 hlocks
/-- private static int crossings(MatrixSheets, int, long[]) -/
def Sp_L_crossings (p0 : Int32) (σ : S0) (g : Nat → Int64) (post : Int32 → S0 → (Nat → Int64) → Prop) : Prop := Sp_M_crossings p0 σ (fun r σ1 => post 0 σ1 (vp_updL g 0 r.toInt64)) (fun k σ1 => (k = 0 ∧ post 1 σ1 g) ∨ (k = 1 ∧ post 2 σ1 g))
set_option maxHeartbeats 4000000 in
set_option maxRecDepth 100000 in
theorem met_L_crossings (l : Launch) (hl0 : l.stackTraces = false) (D : va_G) (ad : Nat → Nat) (cA cB cL : ClassId) (hap : kapC ad) (σ : S0) (qo : Nat) (hqo : ∀ k, k < 26 → ad k ≠ qo) (g : Nat → Int64) (sz : Nat) (p0 : Int32) (post : Int32 → S0 → (Nat → Int64) → Prop) (h : Sp_L_crossings p0 σ g post) : Met l y_L_crossings (Cond.codeWith y_L_crossings c_L_crossings 4 (some .int) [(0, 9, 12, 13), (0, 9, 15, 40)] :: wsG) ({ frames := 8, cells := 1, slots := 6, locals := 131 } : Room) (kPcL D ad cA cB cL σ qo g sz [.ref (ad 0), .int p0, .ref qo]) (va_Qi (fun (r : Int32) (u : S0 × (Nat → Int64)) => post r u.1 u.2) (kBL D ad cA cB cL qo) (kAL ad qo sz)) 1 6 (kAL ad qo sz) := by
  refine va_MetW (cc := c_L_crossings) (maxL := 4) (ret := (some .int)) (hh := [(0, 9, 12, 13), (0, 9, 15, 40)]) (by decide) rfl ?_
  intro p e s m args below meth c s₁ B hml hv
  obtain ⟨rfl, hsz, hP, hK, hF, hN⟩ := hv
  have hx := B.exec
  have hb := B.bytes
  have hr := B.returns
  have hts := atoms_spec (ws := (Cond.codeWith y_L_crossings c_L_crossings 4 (some .int) [(0, 9, 12, 13), (0, 9, 15, 40)] :: wsG)) B.pre
  have htg : ∀ w ∈ wsG, w.before ([.ref (ad 0), .int p0, .ref qo] : List Value).toArray s = true := fun w h => hts w (List.mem_cons_of_mem _ h)
  have htab : c.exceptionTable.toList = tableOf [(0, 9, 12, 13), (0, 9, 15, 40)] := vx_table (x := y_L_crossings) B (hts _ List.mem_cons_self)
  have hown : s.vm.findClass RL = some m.cls := findClass_of_methodNamed B.named
  have hlocks := B.notSynchronized
  subst hsz
  have hE := hF.1
  have hl := lv_entry ([.ref (ad 0), .int p0, .ref qo]) (n := 4) (Nat.le_of_ble_eq_true rfl)
  rw [lg_entry_eq]
  generalize (lg_sl ([.ref (ad 0), .int p0, .ref qo]) ++ List.replicate (4 - (lg_sl ([.ref (ad 0), .int p0, .ref qo])).length) Slot.unset).toArray = ls at hl ⊢
  have hl : lv_has ls 4 [(0, .ref (ad 0)), (1, .int p0), (2, .ref qo)] := hl
  unfold Sp_L_crossings at h
  have hPc : va_P D vwCl (wC ad cA cB σ) s.heap := hP.sub [0, 1, 2, 3, 4, 5, 6, 7, 8, 9, 10, 11, 12, 13, 14, 15, 16, 17, 18, 19, 20, 21, 22, 23, 24, 25] rfl
  have hKc : va_K D vwCl (ktyC cA cB) s := hK.sub [0, 1] rfl
  refine lv_aload_n hx hb d_L_crossings_0 rfl (lv_at hl 2 rfl) ?_
  refine lv_iconst (v := 0) hx hb d_L_crossings_1 (by decide) ?_
  refine lv_aload_n hx hb d_L_crossings_2 rfl (lv_at hl 0 rfl) ?_
  refine lv_iload_n hx hb d_L_crossings_3 rfl (lv_at hl 1 rfl) ?_
  refine kL_call (vx_runV (As := [.int p0]) (rest := [.int 0, .ref qo]) ⟨hx, hb, hml, hown, htg⟩ (metx_M_crossings l hl0 D ad cA cB hap σ s.heap.size p0 _ _ h) (cwV 1 htg (kG (kG_V m_528 m_529 m_530 m_53 (kG_self m_531))) rfl rfl rfl (by decide +kernel) ⟨Nat.le_of_ble_eq_true rfl, Nat.le_of_ble_eq_true rfl⟩) (kC_preV hKc hF hPc va_S.rf 0 rfl rfl _) rfl rfl hl.1 rfl (lv_room (Nat.le_of_ble_eq_true rfl)) d_L_crossings_4 ⟨Nat.le_of_ble_eq_true rfl, Nat.le_of_ble_eq_true rfl⟩) hP hqo (fun ce q9 k σ1 H locs h hP hS hcell hv hcl => ?_) (fun r σ1 H locs h hP hS => ?_)
  · rcases h with ⟨rfl, h⟩ | ⟨rfl, h⟩
    · refine vx_catch (name := "java/lang/IndexOutOfBoundsException") hown [] ⟨0, 9, 12, 13⟩ [⟨0, 9, 15, 40⟩] (by rw [htab]; rfl) (fun z hz => by cases hz) rfl (by decide) (htg _ m_233) (va_Nw.use rfl (hE _ me_246)) hcell hv hcl ?_
      refine lv_astore_n (lv' := [(3, .ref q9), (0, .ref (ad 0)), (1, .int p0), (2, .ref qo)]) hx hb d_L_crossings_12 rfl hl (by decide) rfl (fun ls hl => ?_)
      refine lv_iconst (v := 1) hx hb d_L_crossings_13 (by decide) ?_
      refine W.widen (k := 1) (n := 6) (Nat.le_of_ble_eq_true rfl) (Nat.le_of_ble_eq_true rfl) ?_
      exact W.iret (v := 1) hx hb hr (fun t ht hW => ⟨⟨_, (σ1, g), rfl, h, by show va_P D vwCl _ t.heap; rw [ht]; exact hP⟩, hS.F ht⟩) hS.2.2 d_L_crossings_14 hlocks
    · refine vx_catch (name := "java/lang/IllegalStateException") hown [⟨0, 9, 12, 13⟩] ⟨0, 9, 15, 40⟩ [] (by rw [htab]; rfl) (fun z hz => by rw [List.mem_singleton] at hz; subst hz; exact Or.inr ⟨by decide, "java/lang/IndexOutOfBoundsException", htg _ m_233, hN.1⟩) rfl (by decide) (htg _ m_527) (va_Nw.use rfl (hE _ me_538)) hcell hv hcl ?_
      refine lv_astore_n (lv' := [(3, .ref q9), (0, .ref (ad 0)), (1, .int p0), (2, .ref qo)]) hx hb d_L_crossings_15 rfl hl (by decide) rfl (fun ls hl => ?_)
      refine lv_iconst (v := 2) hx hb d_L_crossings_16 (by decide) ?_
      refine W.widen (k := 1) (n := 6) (Nat.le_of_ble_eq_true rfl) (Nat.le_of_ble_eq_true rfl) ?_
      exact W.iret (v := 2) hx hb hr (fun t ht hW => ⟨⟨_, (σ1, g), rfl, h, by show va_P D vwCl _ t.heap; rw [ht]; exact hP⟩, hS.F ht⟩) hS.2.2 d_L_crossings_17 hlocks
  · refine lv_i2l (v := r.toInt64) hx hb d_L_crossings_7 rfl ?_
    refine va_last hx hb hK hP (kL_D hap hqo) hS 26 2 rfl rfl kin0 d_L_crossings_8 (fun H locs hP _ hS => ?_)
    have hP : va_P D vwCl (wC ad cA cB σ1 ++ kO qo cL (vp_updL g 0 r.toInt64)) H := hP
    refine lv_goto (tgt := 18) hx hb d_L_crossings_9 (by decide) ?_
    refine lv_iconst (v := 0) hx hb d_L_crossings_18 (by decide) ?_
    refine W.widen (k := 1) (n := 6) (Nat.le_of_ble_eq_true rfl) (Nat.le_of_ble_eq_true rfl) ?_
    exact W.iret (v := 0) hx hb hr (fun t ht hW => ⟨⟨_, (σ1, vp_updL g 0 r.toInt64), rfl, h, by show va_P D vwCl _ t.heap; rw [ht]; exact hP⟩, hS.F ht⟩) hS.2.2 d_L_crossings_19 hlocks
/-- private static int at(MatrixSheets, int, int, long[]) -/
def Sp_L_at (p0 p1 : Int32) (σ : S0) (g : Nat → Int64) (post : Int32 → S0 → (Nat → Int64) → Prop) : Prop := Sp_M_at p0 p1 σ (fun r σ1 => post 0 σ1 (vp_updL g 0 r.toInt64)) (fun k σ1 => (k = 0 ∧ post 1 σ1 g) ∨ (k = 1 ∧ post 2 σ1 g))
set_option maxHeartbeats 4000000 in
set_option maxRecDepth 100000 in
theorem met_L_at (l : Launch) (hl0 : l.stackTraces = false) (D : va_G) (ad : Nat → Nat) (cA cB cL : ClassId) (hap : kapC ad) (σ : S0) (qo : Nat) (hqo : ∀ k, k < 26 → ad k ≠ qo) (g : Nat → Int64) (sz : Nat) (p0 p1 : Int32) (post : Int32 → S0 → (Nat → Int64) → Prop) (h : Sp_L_at p0 p1 σ g post) : Met l y_L_at (Cond.codeWith y_L_at c_L_at 5 (some .int) [(0, 10, 13, 13), (0, 10, 17, 40)] :: wsG) ({ frames := 9, cells := 1, slots := 6, locals := 153 } : Room) (kPcL D ad cA cB cL σ qo g sz [.ref (ad 0), .int p0, .int p1, .ref qo]) (va_Qi (fun (r : Int32) (u : S0 × (Nat → Int64)) => post r u.1 u.2) (kBL D ad cA cB cL qo) (kAL ad qo sz)) 1 6 (kAL ad qo sz) := by
  refine va_MetW (cc := c_L_at) (maxL := 5) (ret := (some .int)) (hh := [(0, 10, 13, 13), (0, 10, 17, 40)]) (by decide) rfl ?_
  intro p e s m args below meth c s₁ B hml hv
  obtain ⟨rfl, hsz, hP, hK, hF, hN⟩ := hv
  have hx := B.exec
  have hb := B.bytes
  have hr := B.returns
  have hts := atoms_spec (ws := (Cond.codeWith y_L_at c_L_at 5 (some .int) [(0, 10, 13, 13), (0, 10, 17, 40)] :: wsG)) B.pre
  have htg : ∀ w ∈ wsG, w.before ([.ref (ad 0), .int p0, .int p1, .ref qo] : List Value).toArray s = true := fun w h => hts w (List.mem_cons_of_mem _ h)
  have htab : c.exceptionTable.toList = tableOf [(0, 10, 13, 13), (0, 10, 17, 40)] := vx_table (x := y_L_at) B (hts _ List.mem_cons_self)
  have hown : s.vm.findClass RL = some m.cls := findClass_of_methodNamed B.named
  have hlocks := B.notSynchronized
  subst hsz
  have hE := hF.1
  have hl := lv_entry ([.ref (ad 0), .int p0, .int p1, .ref qo]) (n := 5) (Nat.le_of_ble_eq_true rfl)
  rw [lg_entry_eq]
  generalize (lg_sl ([.ref (ad 0), .int p0, .int p1, .ref qo]) ++ List.replicate (5 - (lg_sl ([.ref (ad 0), .int p0, .int p1, .ref qo])).length) Slot.unset).toArray = ls at hl ⊢
  have hl : lv_has ls 5 [(0, .ref (ad 0)), (1, .int p0), (2, .int p1), (3, .ref qo)] := hl
  unfold Sp_L_at at h
  have hPc : va_P D vwCl (wC ad cA cB σ) s.heap := hP.sub [0, 1, 2, 3, 4, 5, 6, 7, 8, 9, 10, 11, 12, 13, 14, 15, 16, 17, 18, 19, 20, 21, 22, 23, 24, 25] rfl
  have hKc : va_K D vwCl (ktyC cA cB) s := hK.sub [0, 1] rfl
  refine lv_aload_n hx hb d_L_at_0 rfl (lv_at hl 3 rfl) ?_
  refine lv_iconst (v := 0) hx hb d_L_at_1 (by decide) ?_
  refine lv_aload_n hx hb d_L_at_2 rfl (lv_at hl 0 rfl) ?_
  refine lv_iload_n hx hb d_L_at_3 rfl (lv_at hl 1 rfl) ?_
  refine lv_iload_n hx hb d_L_at_4 rfl (lv_at hl 2 rfl) ?_
  refine kL_call (vx_runV (As := [.int p0, .int p1]) (rest := [.int 0, .ref qo]) ⟨hx, hb, hml, hown, htg⟩ (metx_M_at l hl0 D ad cA cB hap σ s.heap.size p0 p1 _ _ h) (cwV 2 htg (kG (kG_V m_555 m_556 m_557 m_53 (kG_self m_558))) rfl rfl rfl (by decide +kernel) ⟨Nat.le_of_ble_eq_true rfl, Nat.le_of_ble_eq_true rfl⟩) (kC_preV hKc hF hPc va_S.rf 0 rfl rfl _) rfl rfl hl.1 rfl (lv_room (Nat.le_of_ble_eq_true rfl)) d_L_at_5 ⟨Nat.le_of_ble_eq_true rfl, Nat.le_of_ble_eq_true rfl⟩) hP hqo (fun ce q9 k σ1 H locs h hP hS hcell hv hcl => ?_) (fun r σ1 H locs h hP hS => ?_)
  · rcases h with ⟨rfl, h⟩ | ⟨rfl, h⟩
    · refine vx_catch (name := "java/lang/IndexOutOfBoundsException") hown [] ⟨0, 10, 13, 13⟩ [⟨0, 10, 17, 40⟩] (by rw [htab]; rfl) (fun z hz => by cases hz) rfl (by decide) (htg _ m_233) (va_Nw.use rfl (hE _ me_246)) hcell hv hcl ?_
      refine lv_astore (lv' := [(4, .ref q9), (0, .ref (ad 0)), (1, .int p0), (2, .int p1), (3, .ref qo)]) hx hb d_L_at_13 hl (by decide) rfl (fun ls hl => ?_)
      refine lv_iconst (v := 1) hx hb d_L_at_15 (by decide) ?_
      refine W.widen (k := 1) (n := 6) (Nat.le_of_ble_eq_true rfl) (Nat.le_of_ble_eq_true rfl) ?_
      exact W.iret (v := 1) hx hb hr (fun t ht hW => ⟨⟨_, (σ1, g), rfl, h, by show va_P D vwCl _ t.heap; rw [ht]; exact hP⟩, hS.F ht⟩) hS.2.2 d_L_at_16 hlocks
    · refine vx_catch (name := "java/lang/IllegalStateException") hown [⟨0, 10, 13, 13⟩] ⟨0, 10, 17, 40⟩ [] (by rw [htab]; rfl) (fun z hz => by rw [List.mem_singleton] at hz; subst hz; exact Or.inr ⟨by decide, "java/lang/IndexOutOfBoundsException", htg _ m_233, hN.1⟩) rfl (by decide) (htg _ m_527) (va_Nw.use rfl (hE _ me_538)) hcell hv hcl ?_
      refine lv_astore (lv' := [(4, .ref q9), (0, .ref (ad 0)), (1, .int p0), (2, .int p1), (3, .ref qo)]) hx hb d_L_at_17 hl (by decide) rfl (fun ls hl => ?_)
      refine lv_iconst (v := 2) hx hb d_L_at_19 (by decide) ?_
      refine W.widen (k := 1) (n := 6) (Nat.le_of_ble_eq_true rfl) (Nat.le_of_ble_eq_true rfl) ?_
      exact W.iret (v := 2) hx hb hr (fun t ht hW => ⟨⟨_, (σ1, g), rfl, h, by show va_P D vwCl _ t.heap; rw [ht]; exact hP⟩, hS.F ht⟩) hS.2.2 d_L_at_20 hlocks
  · refine lv_i2l (v := r.toInt64) hx hb d_L_at_8 rfl ?_
    refine va_last hx hb hK hP (kL_D hap hqo) hS 26 2 rfl rfl kin0 d_L_at_9 (fun H locs hP _ hS => ?_)
    have hP : va_P D vwCl (wC ad cA cB σ1 ++ kO qo cL (vp_updL g 0 r.toInt64)) H := hP
    refine lv_goto (tgt := 21) hx hb d_L_at_10 (by decide) ?_
    refine lv_iconst (v := 0) hx hb d_L_at_21 (by decide) ?_
    refine W.widen (k := 1) (n := 6) (Nat.le_of_ble_eq_true rfl) (Nat.le_of_ble_eq_true rfl) ?_
    exact W.iret (v := 0) hx hb hr (fun t ht hW => ⟨⟨_, (σ1, vp_updL g 0 r.toInt64), rfl, h, by show va_P D vwCl _ t.heap; rw [ht]; exact hP⟩, hS.F ht⟩) hS.2.2 d_L_at_22 hlocks
/-- private static int links(MatrixSheets, long[]) -/
def Sp_L_links (σ : S0) (g : Nat → Int64) (post : Int32 → S0 → (Nat → Int64) → Prop) : Prop := Sp_M_links  σ (fun r σ1 => post 0 σ1 (vp_updL g 0 r.toInt64)) (fun k σ1 => (k = 1 ∧ post 1 σ1 g))
set_option maxHeartbeats 4000000 in
set_option maxRecDepth 100000 in
theorem met_L_links (l : Launch) (hl0 : l.stackTraces = false) (D : va_G) (ad : Nat → Nat) (cA cB cL : ClassId) (hap : kapC ad) (σ : S0) (qo : Nat) (hqo : ∀ k, k < 26 → ad k ≠ qo) (g : Nat → Int64) (sz : Nat) (post : Int32 → S0 → (Nat → Int64) → Prop) (h : Sp_L_links  σ g post) : Met l y_L_links (Cond.codeWith y_L_links c_L_links 3 (some .int) [(0, 8, 11, 40)] :: wsG) ({ frames := 8, cells := 1, slots := 6, locals := 130 } : Room) (kPcL D ad cA cB cL σ qo g sz [.ref (ad 0), .ref qo]) (va_Qi (fun (r : Int32) (u : S0 × (Nat → Int64)) => post r u.1 u.2) (kBL D ad cA cB cL qo) (kAL ad qo sz)) 1 6 (kAL ad qo sz) := by
  refine va_MetW (cc := c_L_links) (maxL := 3) (ret := (some .int)) (hh := [(0, 8, 11, 40)]) (by decide) rfl ?_
  intro p e s m args below meth c s₁ B hml hv
  obtain ⟨rfl, hsz, hP, hK, hF, hN⟩ := hv
  have hx := B.exec
  have hb := B.bytes
  have hr := B.returns
  have hts := atoms_spec (ws := (Cond.codeWith y_L_links c_L_links 3 (some .int) [(0, 8, 11, 40)] :: wsG)) B.pre
  have htg : ∀ w ∈ wsG, w.before ([.ref (ad 0), .ref qo] : List Value).toArray s = true := fun w h => hts w (List.mem_cons_of_mem _ h)
  have htab : c.exceptionTable.toList = tableOf [(0, 8, 11, 40)] := vx_table (x := y_L_links) B (hts _ List.mem_cons_self)
  have hown : s.vm.findClass RL = some m.cls := findClass_of_methodNamed B.named
  have hlocks := B.notSynchronized
  subst hsz
  have hE := hF.1
  have hl := lv_entry ([.ref (ad 0), .ref qo]) (n := 3) (Nat.le_of_ble_eq_true rfl)
  rw [lg_entry_eq]
  generalize (lg_sl ([.ref (ad 0), .ref qo]) ++ List.replicate (3 - (lg_sl ([.ref (ad 0), .ref qo])).length) Slot.unset).toArray = ls at hl ⊢
  have hl : lv_has ls 3 [(0, .ref (ad 0)), (1, .ref qo)] := hl
  unfold Sp_L_links at h
  have hPc : va_P D vwCl (wC ad cA cB σ) s.heap := hP.sub [0, 1, 2, 3, 4, 5, 6, 7, 8, 9, 10, 11, 12, 13, 14, 15, 16, 17, 18, 19, 20, 21, 22, 23, 24, 25] rfl
  have hKc : va_K D vwCl (ktyC cA cB) s := hK.sub [0, 1] rfl
  refine lv_aload_n hx hb d_L_links_0 rfl (lv_at hl 1 rfl) ?_
  refine lv_iconst (v := 0) hx hb d_L_links_1 (by decide) ?_
  refine lv_aload_n hx hb d_L_links_2 rfl (lv_at hl 0 rfl) ?_
  refine kL_call (vx_runV (As := []) (rest := [.int 0, .ref qo]) ⟨hx, hb, hml, hown, htg⟩ (metx_M_links l hl0 D ad cA cB hap σ s.heap.size  _ _ h) (cwV 0 htg (kG (kG_V m_562 m_563 m_564 m_53 (kG_self m_565))) rfl rfl rfl (by decide +kernel) ⟨Nat.le_of_ble_eq_true rfl, Nat.le_of_ble_eq_true rfl⟩) (kC_preV hKc hF hPc va_S.rf 0 rfl rfl _) rfl rfl hl.1 rfl (lv_room (Nat.le_of_ble_eq_true rfl)) d_L_links_3 ⟨Nat.le_of_ble_eq_true rfl, Nat.le_of_ble_eq_true rfl⟩) hP hqo (fun ce q9 k σ1 H locs h hP hS hcell hv hcl => ?_) (fun r σ1 H locs h hP hS => ?_)
  · obtain ⟨rfl, h⟩ := h
    refine vx_catch (name := "java/lang/IllegalStateException") hown [] ⟨0, 8, 11, 40⟩ [] (by rw [htab]; rfl) (fun z hz => by cases hz) rfl (by decide) (htg _ m_527) (va_Nw.use rfl (hE _ me_538)) hcell hv hcl ?_
    refine lv_astore_n (lv' := [(2, .ref q9), (0, .ref (ad 0)), (1, .ref qo)]) hx hb d_L_links_11 rfl hl (by decide) rfl (fun ls hl => ?_)
    refine lv_iconst (v := 1) hx hb d_L_links_12 (by decide) ?_
    refine W.widen (k := 1) (n := 6) (Nat.le_of_ble_eq_true rfl) (Nat.le_of_ble_eq_true rfl) ?_
    exact W.iret (v := 1) hx hb hr (fun t ht hW => ⟨⟨_, (σ1, g), rfl, h, by show va_P D vwCl _ t.heap; rw [ht]; exact hP⟩, hS.F ht⟩) hS.2.2 d_L_links_13 hlocks
  · refine lv_i2l (v := r.toInt64) hx hb d_L_links_6 rfl ?_
    refine va_last hx hb hK hP (kL_D hap hqo) hS 26 2 rfl rfl kin0 d_L_links_7 (fun H locs hP _ hS => ?_)
    have hP : va_P D vwCl (wC ad cA cB σ1 ++ kO qo cL (vp_updL g 0 r.toInt64)) H := hP
    refine lv_goto (tgt := 14) hx hb d_L_links_8 (by decide) ?_
    refine lv_iconst (v := 0) hx hb d_L_links_14 (by decide) ?_
    refine W.widen (k := 1) (n := 6) (Nat.le_of_ble_eq_true rfl) (Nat.le_of_ble_eq_true rfl) ?_
    exact W.iret (v := 0) hx hb hr (fun t ht hW => ⟨⟨_, (σ1, vp_updL g 0 r.toInt64), rfl, h, by show va_P D vwCl _ t.heap; rw [ht]; exact hP⟩, hS.F ht⟩) hS.2.2 d_L_links_15 hlocks
/-- private static int link(MatrixSheets, int, int, long[]) -/
def Sp_L_link (p0 p1 : Int32) (σ : S0) (g : Nat → Int64) (post : Int32 → S0 → (Nat → Int64) → Prop) : Prop := Sp_M_link p0 p1 σ (fun r σ1 => post 0 σ1 (vp_updL g 0 r.toInt64)) (fun k σ1 => (k = 0 ∧ post 1 σ1 g) ∨ (k = 1 ∧ post 2 σ1 g))
set_option maxHeartbeats 4000000 in
set_option maxRecDepth 100000 in
theorem met_L_link (l : Launch) (hl0 : l.stackTraces = false) (D : va_G) (ad : Nat → Nat) (cA cB cL : ClassId) (hap : kapC ad) (σ : S0) (qo : Nat) (hqo : ∀ k, k < 26 → ad k ≠ qo) (g : Nat → Int64) (sz : Nat) (p0 p1 : Int32) (post : Int32 → S0 → (Nat → Int64) → Prop) (h : Sp_L_link p0 p1 σ g post) : Met l y_L_link (Cond.codeWith y_L_link c_L_link 5 (some .int) [(0, 10, 13, 13), (0, 10, 17, 40)] :: wsG) ({ frames := 8, cells := 1, slots := 6, locals := 132 } : Room) (kPcL D ad cA cB cL σ qo g sz [.ref (ad 0), .int p0, .int p1, .ref qo]) (va_Qi (fun (r : Int32) (u : S0 × (Nat → Int64)) => post r u.1 u.2) (kBL D ad cA cB cL qo) (kAL ad qo sz)) 1 6 (kAL ad qo sz) := by
  refine va_MetW (cc := c_L_link) (maxL := 5) (ret := (some .int)) (hh := [(0, 10, 13, 13), (0, 10, 17, 40)]) (by decide) rfl ?_
  intro p e s m args below meth c s₁ B hml hv
  obtain ⟨rfl, hsz, hP, hK, hF, hN⟩ := hv
  have hx := B.exec
  have hb := B.bytes
  have hr := B.returns
  have hts := atoms_spec (ws := (Cond.codeWith y_L_link c_L_link 5 (some .int) [(0, 10, 13, 13), (0, 10, 17, 40)] :: wsG)) B.pre
  have htg : ∀ w ∈ wsG, w.before ([.ref (ad 0), .int p0, .int p1, .ref qo] : List Value).toArray s = true := fun w h => hts w (List.mem_cons_of_mem _ h)
  have htab : c.exceptionTable.toList = tableOf [(0, 10, 13, 13), (0, 10, 17, 40)] := vx_table (x := y_L_link) B (hts _ List.mem_cons_self)
  have hown : s.vm.findClass RL = some m.cls := findClass_of_methodNamed B.named
  have hlocks := B.notSynchronized
  subst hsz
  have hE := hF.1
  have hl := lv_entry ([.ref (ad 0), .int p0, .int p1, .ref qo]) (n := 5) (Nat.le_of_ble_eq_true rfl)
  rw [lg_entry_eq]
  generalize (lg_sl ([.ref (ad 0), .int p0, .int p1, .ref qo]) ++ List.replicate (5 - (lg_sl ([.ref (ad 0), .int p0, .int p1, .ref qo])).length) Slot.unset).toArray = ls at hl ⊢
  have hl : lv_has ls 5 [(0, .ref (ad 0)), (1, .int p0), (2, .int p1), (3, .ref qo)] := hl
  unfold Sp_L_link at h
  have hPc : va_P D vwCl (wC ad cA cB σ) s.heap := hP.sub [0, 1, 2, 3, 4, 5, 6, 7, 8, 9, 10, 11, 12, 13, 14, 15, 16, 17, 18, 19, 20, 21, 22, 23, 24, 25] rfl
  have hKc : va_K D vwCl (ktyC cA cB) s := hK.sub [0, 1] rfl
  refine lv_aload_n hx hb d_L_link_0 rfl (lv_at hl 3 rfl) ?_
  refine lv_iconst (v := 0) hx hb d_L_link_1 (by decide) ?_
  refine lv_aload_n hx hb d_L_link_2 rfl (lv_at hl 0 rfl) ?_
  refine lv_iload_n hx hb d_L_link_3 rfl (lv_at hl 1 rfl) ?_
  refine lv_iload_n hx hb d_L_link_4 rfl (lv_at hl 2 rfl) ?_
  refine kL_call (vx_runV (As := [.int p0, .int p1]) (rest := [.int 0, .ref qo]) ⟨hx, hb, hml, hown, htg⟩ (metx_M_link l hl0 D ad cA cB hap σ s.heap.size p0 p1 _ _ h) (cwV 2 htg (kG (kG_V m_569 m_570 m_571 m_53 (kG_self m_572))) rfl rfl rfl (by decide +kernel) ⟨Nat.le_of_ble_eq_true rfl, Nat.le_of_ble_eq_true rfl⟩) (kC_preV hKc hF hPc va_S.rf 0 rfl rfl _) rfl rfl hl.1 rfl (lv_room (Nat.le_of_ble_eq_true rfl)) d_L_link_5 ⟨Nat.le_of_ble_eq_true rfl, Nat.le_of_ble_eq_true rfl⟩) hP hqo (fun ce q9 k σ1 H locs h hP hS hcell hv hcl => ?_) (fun r σ1 H locs h hP hS => ?_)
  · rcases h with ⟨rfl, h⟩ | ⟨rfl, h⟩
    · refine vx_catch (name := "java/lang/IndexOutOfBoundsException") hown [] ⟨0, 10, 13, 13⟩ [⟨0, 10, 17, 40⟩] (by rw [htab]; rfl) (fun z hz => by cases hz) rfl (by decide) (htg _ m_233) (va_Nw.use rfl (hE _ me_246)) hcell hv hcl ?_
      refine lv_astore (lv' := [(4, .ref q9), (0, .ref (ad 0)), (1, .int p0), (2, .int p1), (3, .ref qo)]) hx hb d_L_link_13 hl (by decide) rfl (fun ls hl => ?_)
      refine lv_iconst (v := 1) hx hb d_L_link_15 (by decide) ?_
      refine W.widen (k := 1) (n := 6) (Nat.le_of_ble_eq_true rfl) (Nat.le_of_ble_eq_true rfl) ?_
      exact W.iret (v := 1) hx hb hr (fun t ht hW => ⟨⟨_, (σ1, g), rfl, h, by show va_P D vwCl _ t.heap; rw [ht]; exact hP⟩, hS.F ht⟩) hS.2.2 d_L_link_16 hlocks
    · refine vx_catch (name := "java/lang/IllegalStateException") hown [⟨0, 10, 13, 13⟩] ⟨0, 10, 17, 40⟩ [] (by rw [htab]; rfl) (fun z hz => by rw [List.mem_singleton] at hz; subst hz; exact Or.inr ⟨by decide, "java/lang/IndexOutOfBoundsException", htg _ m_233, hN.1⟩) rfl (by decide) (htg _ m_527) (va_Nw.use rfl (hE _ me_538)) hcell hv hcl ?_
      refine lv_astore (lv' := [(4, .ref q9), (0, .ref (ad 0)), (1, .int p0), (2, .int p1), (3, .ref qo)]) hx hb d_L_link_17 hl (by decide) rfl (fun ls hl => ?_)
      refine lv_iconst (v := 2) hx hb d_L_link_19 (by decide) ?_
      refine W.widen (k := 1) (n := 6) (Nat.le_of_ble_eq_true rfl) (Nat.le_of_ble_eq_true rfl) ?_
      exact W.iret (v := 2) hx hb hr (fun t ht hW => ⟨⟨_, (σ1, g), rfl, h, by show va_P D vwCl _ t.heap; rw [ht]; exact hP⟩, hS.F ht⟩) hS.2.2 d_L_link_20 hlocks
  · refine lv_i2l (v := r.toInt64) hx hb d_L_link_8 rfl ?_
    refine va_last hx hb hK hP (kL_D hap hqo) hS 26 2 rfl rfl kin0 d_L_link_9 (fun H locs hP _ hS => ?_)
    have hP : va_P D vwCl (wC ad cA cB σ1 ++ kO qo cL (vp_updL g 0 r.toInt64)) H := hP
    refine lv_goto (tgt := 21) hx hb d_L_link_10 (by decide) ?_
    refine lv_iconst (v := 0) hx hb d_L_link_21 (by decide) ?_
    refine W.widen (k := 1) (n := 6) (Nat.le_of_ble_eq_true rfl) (Nat.le_of_ble_eq_true rfl) ?_
    exact W.iret (v := 0) hx hb hr (fun t ht hW => ⟨⟨_, (σ1, vp_updL g 0 r.toInt64), rfl, h, by show va_P D vwCl _ t.heap; rw [ht]; exact hP⟩, hS.F ht⟩) hS.2.2 d_L_link_22 hlocks
/-- private static int command(MatrixSheets, int, long[]) -/
def Sp_L_command (p0 : Int32) (σ : S0) (g : Nat → Int64) (post : Int32 → S0 → (Nat → Int64) → Prop) : Prop := Sp_M_command p0 σ (fun r σ1 => post 0 σ1 (vp_updL g 0 r.toInt64)) (fun k σ1 => (k = 0 ∧ post 1 σ1 g) ∨ (k = 1 ∧ post 2 σ1 g))
set_option maxHeartbeats 4000000 in
set_option maxRecDepth 100000 in
theorem met_L_command (l : Launch) (hl0 : l.stackTraces = false) (D : va_G) (ad : Nat → Nat) (cA cB cL : ClassId) (hap : kapC ad) (σ : S0) (qo : Nat) (hqo : ∀ k, k < 26 → ad k ≠ qo) (g : Nat → Int64) (sz : Nat) (p0 : Int32) (post : Int32 → S0 → (Nat → Int64) → Prop) (h : Sp_L_command p0 σ g post) : Met l y_L_command (Cond.codeWith y_L_command c_L_command 4 (some .int) [(0, 9, 12, 13), (0, 9, 15, 40)] :: wsG) ({ frames := 8, cells := 1, slots := 6, locals := 133 } : Room) (kPcL D ad cA cB cL σ qo g sz [.ref (ad 0), .int p0, .ref qo]) (va_Qi (fun (r : Int32) (u : S0 × (Nat → Int64)) => post r u.1 u.2) (kBL D ad cA cB cL qo) (kAL ad qo sz)) 1 6 (kAL ad qo sz) := by
  refine va_MetW (cc := c_L_command) (maxL := 4) (ret := (some .int)) (hh := [(0, 9, 12, 13), (0, 9, 15, 40)]) (by decide) rfl ?_
  intro p e s m args below meth c s₁ B hml hv
  obtain ⟨rfl, hsz, hP, hK, hF, hN⟩ := hv
  have hx := B.exec
  have hb := B.bytes
  have hr := B.returns
  have hts := atoms_spec (ws := (Cond.codeWith y_L_command c_L_command 4 (some .int) [(0, 9, 12, 13), (0, 9, 15, 40)] :: wsG)) B.pre
  have htg : ∀ w ∈ wsG, w.before ([.ref (ad 0), .int p0, .ref qo] : List Value).toArray s = true := fun w h => hts w (List.mem_cons_of_mem _ h)
  have htab : c.exceptionTable.toList = tableOf [(0, 9, 12, 13), (0, 9, 15, 40)] := vx_table (x := y_L_command) B (hts _ List.mem_cons_self)
  have hown : s.vm.findClass RL = some m.cls := findClass_of_methodNamed B.named
  have hlocks := B.notSynchronized
  subst hsz
  have hE := hF.1
  have hl := lv_entry ([.ref (ad 0), .int p0, .ref qo]) (n := 4) (Nat.le_of_ble_eq_true rfl)
  rw [lg_entry_eq]
  generalize (lg_sl ([.ref (ad 0), .int p0, .ref qo]) ++ List.replicate (4 - (lg_sl ([.ref (ad 0), .int p0, .ref qo])).length) Slot.unset).toArray = ls at hl ⊢
  have hl : lv_has ls 4 [(0, .ref (ad 0)), (1, .int p0), (2, .ref qo)] := hl
  unfold Sp_L_command at h
  have hPc : va_P D vwCl (wC ad cA cB σ) s.heap := hP.sub [0, 1, 2, 3, 4, 5, 6, 7, 8, 9, 10, 11, 12, 13, 14, 15, 16, 17, 18, 19, 20, 21, 22, 23, 24, 25] rfl
  have hKc : va_K D vwCl (ktyC cA cB) s := hK.sub [0, 1] rfl
  refine lv_aload_n hx hb d_L_command_0 rfl (lv_at hl 2 rfl) ?_
  refine lv_iconst (v := 0) hx hb d_L_command_1 (by decide) ?_
  refine lv_aload_n hx hb d_L_command_2 rfl (lv_at hl 0 rfl) ?_
  refine lv_iload_n hx hb d_L_command_3 rfl (lv_at hl 1 rfl) ?_
  refine kL_call (vx_runV (As := [.int p0]) (rest := [.int 0, .ref qo]) ⟨hx, hb, hml, hown, htg⟩ (metx_M_command l hl0 D ad cA cB hap σ s.heap.size p0 _ _ h) (cwV 1 htg (kG (kG_V m_578 m_579 m_580 m_53 (kG_self m_581))) rfl rfl rfl (by decide +kernel) ⟨Nat.le_of_ble_eq_true rfl, Nat.le_of_ble_eq_true rfl⟩) (kC_preV hKc hF hPc va_S.rf 0 rfl rfl _) rfl rfl hl.1 rfl (lv_room (Nat.le_of_ble_eq_true rfl)) d_L_command_4 ⟨Nat.le_of_ble_eq_true rfl, Nat.le_of_ble_eq_true rfl⟩) hP hqo (fun ce q9 k σ1 H locs h hP hS hcell hv hcl => ?_) (fun r σ1 H locs h hP hS => ?_)
  · rcases h with ⟨rfl, h⟩ | ⟨rfl, h⟩
    · refine vx_catch (name := "java/lang/IndexOutOfBoundsException") hown [] ⟨0, 9, 12, 13⟩ [⟨0, 9, 15, 40⟩] (by rw [htab]; rfl) (fun z hz => by cases hz) rfl (by decide) (htg _ m_233) (va_Nw.use rfl (hE _ me_246)) hcell hv hcl ?_
      refine lv_astore_n (lv' := [(3, .ref q9), (0, .ref (ad 0)), (1, .int p0), (2, .ref qo)]) hx hb d_L_command_12 rfl hl (by decide) rfl (fun ls hl => ?_)
      refine lv_iconst (v := 1) hx hb d_L_command_13 (by decide) ?_
      refine W.widen (k := 1) (n := 6) (Nat.le_of_ble_eq_true rfl) (Nat.le_of_ble_eq_true rfl) ?_
      exact W.iret (v := 1) hx hb hr (fun t ht hW => ⟨⟨_, (σ1, g), rfl, h, by show va_P D vwCl _ t.heap; rw [ht]; exact hP⟩, hS.F ht⟩) hS.2.2 d_L_command_14 hlocks
    · refine vx_catch (name := "java/lang/IllegalStateException") hown [⟨0, 9, 12, 13⟩] ⟨0, 9, 15, 40⟩ [] (by rw [htab]; rfl) (fun z hz => by rw [List.mem_singleton] at hz; subst hz; exact Or.inr ⟨by decide, "java/lang/IndexOutOfBoundsException", htg _ m_233, hN.1⟩) rfl (by decide) (htg _ m_527) (va_Nw.use rfl (hE _ me_538)) hcell hv hcl ?_
      refine lv_astore_n (lv' := [(3, .ref q9), (0, .ref (ad 0)), (1, .int p0), (2, .ref qo)]) hx hb d_L_command_15 rfl hl (by decide) rfl (fun ls hl => ?_)
      refine lv_iconst (v := 2) hx hb d_L_command_16 (by decide) ?_
      refine W.widen (k := 1) (n := 6) (Nat.le_of_ble_eq_true rfl) (Nat.le_of_ble_eq_true rfl) ?_
      exact W.iret (v := 2) hx hb hr (fun t ht hW => ⟨⟨_, (σ1, g), rfl, h, by show va_P D vwCl _ t.heap; rw [ht]; exact hP⟩, hS.F ht⟩) hS.2.2 d_L_command_17 hlocks
  · refine lv_i2l (v := r.toInt64) hx hb d_L_command_7 rfl ?_
    refine va_last hx hb hK hP (kL_D hap hqo) hS 26 2 rfl rfl kin0 d_L_command_8 (fun H locs hP _ hS => ?_)
    have hP : va_P D vwCl (wC ad cA cB σ1 ++ kO qo cL (vp_updL g 0 r.toInt64)) H := hP
    refine lv_goto (tgt := 18) hx hb d_L_command_9 (by decide) ?_
    refine lv_iconst (v := 0) hx hb d_L_command_18 (by decide) ?_
    refine W.widen (k := 1) (n := 6) (Nat.le_of_ble_eq_true rfl) (Nat.le_of_ble_eq_true rfl) ?_
    exact W.iret (v := 0) hx hb hr (fun t ht hW => ⟨⟨_, (σ1, vp_updL g 0 r.toInt64), rfl, h, by show va_P D vwCl _ t.heap; rw [ht]; exact hP⟩, hS.F ht⟩) hS.2.2 d_L_command_19 hlocks
/-- private static int count(MatrixSheets, int, long[]) -/
def Sp_L_count (p0 : Int32) (σ : S0) (g : Nat → Int64) (post : Int32 → S0 → (Nat → Int64) → Prop) : Prop := Sp_M_count p0 σ (fun r σ1 => post 0 σ1 (vp_updL g 0 r.toInt64)) (fun k σ1 => (k = 0 ∧ post 1 σ1 g))
set_option maxHeartbeats 4000000 in
set_option maxRecDepth 100000 in
theorem met_L_count (l : Launch) (hl0 : l.stackTraces = false) (D : va_G) (ad : Nat → Nat) (cA cB cL : ClassId) (hap : kapC ad) (σ : S0) (qo : Nat) (hqo : ∀ k, k < 26 → ad k ≠ qo) (g : Nat → Int64) (sz : Nat) (p0 : Int32) (post : Int32 → S0 → (Nat → Int64) → Prop) (h : Sp_L_count p0 σ g post) : Met l y_L_count (Cond.codeWith y_L_count c_L_count 4 (some .int) [(0, 9, 12, 13)] :: wsG) ({ frames := 7, cells := 1, slots := 6, locals := 111 } : Room) (kPcL D ad cA cB cL σ qo g sz [.ref (ad 0), .int p0, .ref qo]) (va_Qi (fun (r : Int32) (u : S0 × (Nat → Int64)) => post r u.1 u.2) (kBL D ad cA cB cL qo) (kAL ad qo sz)) 1 6 (kAL ad qo sz) := by
  refine va_MetW (cc := c_L_count) (maxL := 4) (ret := (some .int)) (hh := [(0, 9, 12, 13)]) (by decide) rfl ?_
  intro p e s m args below meth c s₁ B hml hv
  obtain ⟨rfl, hsz, hP, hK, hF, hN⟩ := hv
  have hx := B.exec
  have hb := B.bytes
  have hr := B.returns
  have hts := atoms_spec (ws := (Cond.codeWith y_L_count c_L_count 4 (some .int) [(0, 9, 12, 13)] :: wsG)) B.pre
  have htg : ∀ w ∈ wsG, w.before ([.ref (ad 0), .int p0, .ref qo] : List Value).toArray s = true := fun w h => hts w (List.mem_cons_of_mem _ h)
  have htab : c.exceptionTable.toList = tableOf [(0, 9, 12, 13)] := vx_table (x := y_L_count) B (hts _ List.mem_cons_self)
  have hown : s.vm.findClass RL = some m.cls := findClass_of_methodNamed B.named
  have hlocks := B.notSynchronized
  subst hsz
  have hE := hF.1
  have hl := lv_entry ([.ref (ad 0), .int p0, .ref qo]) (n := 4) (Nat.le_of_ble_eq_true rfl)
  rw [lg_entry_eq]
  generalize (lg_sl ([.ref (ad 0), .int p0, .ref qo]) ++ List.replicate (4 - (lg_sl ([.ref (ad 0), .int p0, .ref qo])).length) Slot.unset).toArray = ls at hl ⊢
  have hl : lv_has ls 4 [(0, .ref (ad 0)), (1, .int p0), (2, .ref qo)] := hl
  unfold Sp_L_count at h
  have hPc : va_P D vwCl (wC ad cA cB σ) s.heap := hP.sub [0, 1, 2, 3, 4, 5, 6, 7, 8, 9, 10, 11, 12, 13, 14, 15, 16, 17, 18, 19, 20, 21, 22, 23, 24, 25] rfl
  have hKc : va_K D vwCl (ktyC cA cB) s := hK.sub [0, 1] rfl
  refine lv_aload_n hx hb d_L_count_0 rfl (lv_at hl 2 rfl) ?_
  refine lv_iconst (v := 0) hx hb d_L_count_1 (by decide) ?_
  refine lv_aload_n hx hb d_L_count_2 rfl (lv_at hl 0 rfl) ?_
  refine lv_iload_n hx hb d_L_count_3 rfl (lv_at hl 1 rfl) ?_
  refine kL_call (vx_runV (As := [.int p0]) (rest := [.int 0, .ref qo]) ⟨hx, hb, hml, hown, htg⟩ (metx_M_count l hl0 D ad cA cB hap σ s.heap.size p0 _ _ h) (cwV 1 htg (kG (kG_V m_607 m_608 m_609 m_53 (kG_self m_610))) rfl rfl rfl (by decide +kernel) ⟨Nat.le_of_ble_eq_true rfl, Nat.le_of_ble_eq_true rfl⟩) (kC_preV hKc hF hPc va_S.rf 0 rfl rfl _) rfl rfl hl.1 rfl (lv_room (Nat.le_of_ble_eq_true rfl)) d_L_count_4 ⟨Nat.le_of_ble_eq_true rfl, Nat.le_of_ble_eq_true rfl⟩) hP hqo (fun ce q9 k σ1 H locs h hP hS hcell hv hcl => ?_) (fun r σ1 H locs h hP hS => ?_)
  · obtain ⟨rfl, h⟩ := h
    refine vx_catch (name := "java/lang/IndexOutOfBoundsException") hown [] ⟨0, 9, 12, 13⟩ [] (by rw [htab]; rfl) (fun z hz => by cases hz) rfl (by decide) (htg _ m_233) (va_Nw.use rfl (hE _ me_246)) hcell hv hcl ?_
    refine lv_astore_n (lv' := [(3, .ref q9), (0, .ref (ad 0)), (1, .int p0), (2, .ref qo)]) hx hb d_L_count_12 rfl hl (by decide) rfl (fun ls hl => ?_)
    refine lv_iconst (v := 1) hx hb d_L_count_13 (by decide) ?_
    refine W.widen (k := 1) (n := 6) (Nat.le_of_ble_eq_true rfl) (Nat.le_of_ble_eq_true rfl) ?_
    exact W.iret (v := 1) hx hb hr (fun t ht hW => ⟨⟨_, (σ1, g), rfl, h, by show va_P D vwCl _ t.heap; rw [ht]; exact hP⟩, hS.F ht⟩) hS.2.2 d_L_count_14 hlocks
  · refine lv_i2l (v := r.toInt64) hx hb d_L_count_7 rfl ?_
    refine va_last hx hb hK hP (kL_D hap hqo) hS 26 2 rfl rfl kin0 d_L_count_8 (fun H locs hP _ hS => ?_)
    have hP : va_P D vwCl (wC ad cA cB σ1 ++ kO qo cL (vp_updL g 0 r.toInt64)) H := hP
    refine lv_goto (tgt := 15) hx hb d_L_count_9 (by decide) ?_
    refine lv_iconst (v := 0) hx hb d_L_count_15 (by decide) ?_
    refine W.widen (k := 1) (n := 6) (Nat.le_of_ble_eq_true rfl) (Nat.le_of_ble_eq_true rfl) ?_
    exact W.iret (v := 0) hx hb hr (fun t ht hW => ⟨⟨_, (σ1, vp_updL g 0 r.toInt64), rfl, h, by show va_P D vwCl _ t.heap; rw [ht]; exact hP⟩, hS.F ht⟩) hS.2.2 d_L_count_16 hlocks
