theorem d_L_above_0 : decode c_L_above 0 = .ok (.aload_n 3, 1) := by decide +kernel
theorem d_L_above_1 : decode c_L_above 1 = .ok (.iconst 0, 1) := by decide +kernel
theorem d_L_above_2 : decode c_L_above 2 = .ok (.aload_n 0, 1) := by decide +kernel
theorem d_L_above_3 : decode c_L_above 3 = .ok (.iload_n 1, 1) := by decide +kernel
theorem d_L_above_4 : decode c_L_above 4 = .ok (.iload_n 2, 1) := by decide +kernel
theorem d_L_above_5 : decode c_L_above 5 = .ok (.invokevirtual 7, 3) := by decide +kernel
theorem d_L_above_8 : decode c_L_above 8 = .ok (.i2l, 1) := by decide +kernel
theorem d_L_above_9 : decode c_L_above 9 = .ok (.lastore, 1) := by decide +kernel
theorem d_L_above_10 : decode c_L_above 10 = .ok (.goto 7, 3) := by decide +kernel
theorem d_L_above_13 : decode c_L_above 13 = .ok (.astore 4, 2) := by decide +kernel
theorem d_L_above_15 : decode c_L_above 15 = .ok (.iconst 1, 1) := by decide +kernel
theorem d_L_above_16 : decode c_L_above 16 = .ok (.ireturn, 1) := by decide +kernel
theorem d_L_above_17 : decode c_L_above 17 = .ok (.iconst 0, 1) := by decide +kernel
theorem d_L_above_18 : decode c_L_above 18 = .ok (.ireturn, 1) := by decide +kernel
theorem d_L_same_0 : decode c_L_same 0 = .ok (.aload_n 3, 1) := by decide +kernel
theorem d_L_same_1 : decode c_L_same 1 = .ok (.iconst 0, 1) := by decide +kernel
theorem d_L_same_2 : decode c_L_same 2 = .ok (.aload_n 0, 1) := by decide +kernel
theorem d_L_same_3 : decode c_L_same 3 = .ok (.iload_n 1, 1) := by decide +kernel
theorem d_L_same_4 : decode c_L_same 4 = .ok (.iload_n 2, 1) := by decide +kernel
theorem d_L_same_5 : decode c_L_same 5 = .ok (.invokevirtual 15, 3) := by decide +kernel
theorem d_L_same_8 : decode c_L_same 8 = .ok (.i2l, 1) := by decide +kernel
theorem d_L_same_9 : decode c_L_same 9 = .ok (.lastore, 1) := by decide +kernel
theorem d_L_same_10 : decode c_L_same 10 = .ok (.goto 7, 3) := by decide +kernel
theorem d_L_same_13 : decode c_L_same 13 = .ok (.astore 4, 2) := by decide +kernel
theorem d_L_same_15 : decode c_L_same 15 = .ok (.iconst 1, 1) := by decide +kernel
theorem d_L_same_16 : decode c_L_same 16 = .ok (.ireturn, 1) := by decide +kernel
theorem d_L_same_17 : decode c_L_same 17 = .ok (.iconst 0, 1) := by decide +kernel
theorem d_L_same_18 : decode c_L_same 18 = .ok (.ireturn, 1) := by decide +kernel
theorem d_L_phase_0 : decode c_L_phase 0 = .ok (.aload_n 3, 1) := by decide +kernel
theorem d_L_phase_1 : decode c_L_phase 1 = .ok (.iconst 0, 1) := by decide +kernel
theorem d_L_phase_2 : decode c_L_phase 2 = .ok (.aload_n 0, 1) := by decide +kernel
theorem d_L_phase_3 : decode c_L_phase 3 = .ok (.iload_n 1, 1) := by decide +kernel
theorem d_L_phase_4 : decode c_L_phase 4 = .ok (.iload_n 2, 1) := by decide +kernel
theorem d_L_phase_5 : decode c_L_phase 5 = .ok (.invokevirtual 18, 3) := by decide +kernel
theorem d_L_phase_8 : decode c_L_phase 8 = .ok (.i2l, 1) := by decide +kernel
theorem d_L_phase_9 : decode c_L_phase 9 = .ok (.lastore, 1) := by decide +kernel
theorem d_L_phase_10 : decode c_L_phase 10 = .ok (.goto 11, 3) := by decide +kernel
theorem d_L_phase_13 : decode c_L_phase 13 = .ok (.astore 4, 2) := by decide +kernel
theorem d_L_phase_15 : decode c_L_phase 15 = .ok (.iconst 1, 1) := by decide +kernel
theorem d_L_phase_16 : decode c_L_phase 16 = .ok (.ireturn, 1) := by decide +kernel
theorem d_L_phase_17 : decode c_L_phase 17 = .ok (.astore 4, 2) := by decide +kernel
theorem d_L_phase_19 : decode c_L_phase 19 = .ok (.iconst 2, 1) := by decide +kernel
theorem d_L_phase_20 : decode c_L_phase 20 = .ok (.ireturn, 1) := by decide +kernel
theorem d_L_phase_21 : decode c_L_phase 21 = .ok (.iconst 0, 1) := by decide +kernel
theorem d_L_phase_22 : decode c_L_phase 22 = .ok (.ireturn, 1) := by decide +kernel
theorem d_L_hide_0 : decode c_L_hide 0 = .ok (.aload_n 3, 1) := by decide +kernel
theorem d_L_hide_1 : decode c_L_hide 1 = .ok (.iconst 0, 1) := by decide +kernel
theorem d_L_hide_2 : decode c_L_hide 2 = .ok (.aload_n 0, 1) := by decide +kernel
theorem d_L_hide_3 : decode c_L_hide 3 = .ok (.iload_n 1, 1) := by decide +kernel
theorem d_L_hide_4 : decode c_L_hide 4 = .ok (.iload_n 2, 1) := by decide +kernel
theorem d_L_hide_5 : decode c_L_hide 5 = .ok (.invokevirtual 23, 3) := by decide +kernel
theorem d_L_hide_8 : decode c_L_hide 8 = .ok (.ifCond .eq 7, 3) := by decide +kernel
theorem d_L_hide_11 : decode c_L_hide 11 = .ok (.lconst 1, 1) := by decide +kernel
theorem d_L_hide_12 : decode c_L_hide 12 = .ok (.goto 4, 3) := by decide +kernel
theorem d_L_hide_15 : decode c_L_hide 15 = .ok (.lconst 0, 1) := by decide +kernel
theorem d_L_hide_16 : decode c_L_hide 16 = .ok (.lastore, 1) := by decide +kernel
theorem d_L_hide_17 : decode c_L_hide 17 = .ok (.goto 7, 3) := by decide +kernel
theorem d_L_hide_20 : decode c_L_hide 20 = .ok (.astore 4, 2) := by decide +kernel
theorem d_L_hide_22 : decode c_L_hide 22 = .ok (.iconst 1, 1) := by decide +kernel
theorem d_L_hide_23 : decode c_L_hide 23 = .ok (.ireturn, 1) := by decide +kernel
theorem d_L_hide_24 : decode c_L_hide 24 = .ok (.iconst 0, 1) := by decide +kernel
theorem d_L_hide_25 : decode c_L_hide 25 = .ok (.ireturn, 1) := by decide +kernel
theorem d_L_group_0 : decode c_L_group 0 = .ok (.aload_n 2, 1) := by decide +kernel
theorem d_L_group_1 : decode c_L_group 1 = .ok (.iconst 0, 1) := by decide +kernel
theorem d_L_group_2 : decode c_L_group 2 = .ok (.aload_n 0, 1) := by decide +kernel
theorem d_L_group_3 : decode c_L_group 3 = .ok (.iload_n 1, 1) := by decide +kernel
theorem d_L_group_4 : decode c_L_group 4 = .ok (.invokevirtual 27, 3) := by decide +kernel
theorem d_L_group_7 : decode c_L_group 7 = .ok (.i2l, 1) := by decide +kernel
theorem d_L_group_8 : decode c_L_group 8 = .ok (.lastore, 1) := by decide +kernel
theorem d_L_group_9 : decode c_L_group 9 = .ok (.goto 6, 3) := by decide +kernel
theorem d_L_group_12 : decode c_L_group 12 = .ok (.astore_n 3, 1) := by decide +kernel
theorem d_L_group_13 : decode c_L_group 13 = .ok (.iconst 1, 1) := by decide +kernel
theorem d_L_group_14 : decode c_L_group 14 = .ok (.ireturn, 1) := by decide +kernel
theorem d_L_group_15 : decode c_L_group 15 = .ok (.iconst 0, 1) := by decide +kernel
theorem d_L_group_16 : decode c_L_group 16 = .ok (.ireturn, 1) := by decide +kernel
theorem d_L_misfit_0 : decode c_L_misfit 0 = .ok (.aload_n 3, 1) := by decide +kernel
theorem d_L_misfit_1 : decode c_L_misfit 1 = .ok (.iconst 0, 1) := by decide +kernel
theorem d_L_misfit_2 : decode c_L_misfit 2 = .ok (.aload_n 0, 1) := by decide +kernel
theorem d_L_misfit_3 : decode c_L_misfit 3 = .ok (.iload_n 1, 1) := by decide +kernel
theorem d_L_misfit_4 : decode c_L_misfit 4 = .ok (.iload_n 2, 1) := by decide +kernel
theorem d_L_misfit_5 : decode c_L_misfit 5 = .ok (.invokevirtual 31, 3) := by decide +kernel
theorem d_L_misfit_8 : decode c_L_misfit 8 = .ok (.i2l, 1) := by decide +kernel
theorem d_L_misfit_9 : decode c_L_misfit 9 = .ok (.lastore, 1) := by decide +kernel
theorem d_L_misfit_10 : decode c_L_misfit 10 = .ok (.goto 7, 3) := by decide +kernel
theorem d_L_misfit_13 : decode c_L_misfit 13 = .ok (.astore 4, 2) := by decide +kernel
theorem d_L_misfit_15 : decode c_L_misfit 15 = .ok (.iconst 1, 1) := by decide +kernel
theorem d_L_misfit_16 : decode c_L_misfit 16 = .ok (.ireturn, 1) := by decide +kernel
theorem d_L_misfit_17 : decode c_L_misfit 17 = .ok (.iconst 0, 1) := by decide +kernel
theorem d_L_misfit_18 : decode c_L_misfit 18 = .ok (.ireturn, 1) := by decide +kernel
theorem d_L_draw_0 : decode c_L_draw 0 = .ok (.aload_n 2, 1) := by decide +kernel
theorem d_L_draw_1 : decode c_L_draw 1 = .ok (.iconst 0, 1) := by decide +kernel
theorem d_L_draw_2 : decode c_L_draw 2 = .ok (.aload_n 0, 1) := by decide +kernel
theorem d_L_draw_3 : decode c_L_draw 3 = .ok (.iload_n 1, 1) := by decide +kernel
theorem d_L_draw_4 : decode c_L_draw 4 = .ok (.invokevirtual 34, 3) := by decide +kernel
theorem d_L_draw_7 : decode c_L_draw 7 = .ok (.i2l, 1) := by decide +kernel
theorem d_L_draw_8 : decode c_L_draw 8 = .ok (.lastore, 1) := by decide +kernel
theorem d_L_draw_9 : decode c_L_draw 9 = .ok (.goto 6, 3) := by decide +kernel
theorem d_L_draw_12 : decode c_L_draw 12 = .ok (.astore_n 3, 1) := by decide +kernel
theorem d_L_draw_13 : decode c_L_draw 13 = .ok (.iconst 1, 1) := by decide +kernel
theorem d_L_draw_14 : decode c_L_draw 14 = .ok (.ireturn, 1) := by decide +kernel
theorem d_L_draw_15 : decode c_L_draw 15 = .ok (.iconst 0, 1) := by decide +kernel
theorem d_L_draw_16 : decode c_L_draw 16 = .ok (.ireturn, 1) := by decide +kernel
theorem d_L_crossings_0 : decode c_L_crossings 0 = .ok (.aload_n 2, 1) := by decide +kernel
theorem d_L_crossings_1 : decode c_L_crossings 1 = .ok (.iconst 0, 1) := by decide +kernel
theorem d_L_crossings_2 : decode c_L_crossings 2 = .ok (.aload_n 0, 1) := by decide +kernel
theorem d_L_crossings_3 : decode c_L_crossings 3 = .ok (.iload_n 1, 1) := by decide +kernel
theorem d_L_crossings_4 : decode c_L_crossings 4 = .ok (.invokevirtual 37, 3) := by decide +kernel
theorem d_L_crossings_7 : decode c_L_crossings 7 = .ok (.i2l, 1) := by decide +kernel
theorem d_L_crossings_8 : decode c_L_crossings 8 = .ok (.lastore, 1) := by decide +kernel
theorem d_L_crossings_9 : decode c_L_crossings 9 = .ok (.goto 9, 3) := by decide +kernel
theorem d_L_crossings_12 : decode c_L_crossings 12 = .ok (.astore_n 3, 1) := by decide +kernel
theorem d_L_crossings_13 : decode c_L_crossings 13 = .ok (.iconst 1, 1) := by decide +kernel
theorem d_L_crossings_14 : decode c_L_crossings 14 = .ok (.ireturn, 1) := by decide +kernel
theorem d_L_crossings_15 : decode c_L_crossings 15 = .ok (.astore_n 3, 1) := by decide +kernel
theorem d_L_crossings_16 : decode c_L_crossings 16 = .ok (.iconst 2, 1) := by decide +kernel
theorem d_L_crossings_17 : decode c_L_crossings 17 = .ok (.ireturn, 1) := by decide +kernel
theorem d_L_crossings_18 : decode c_L_crossings 18 = .ok (.iconst 0, 1) := by decide +kernel
theorem d_L_crossings_19 : decode c_L_crossings 19 = .ok (.ireturn, 1) := by decide +kernel
theorem d_L_at_0 : decode c_L_at 0 = .ok (.aload_n 3, 1) := by decide +kernel
theorem d_L_at_1 : decode c_L_at 1 = .ok (.iconst 0, 1) := by decide +kernel
theorem d_L_at_2 : decode c_L_at 2 = .ok (.aload_n 0, 1) := by decide +kernel
theorem d_L_at_3 : decode c_L_at 3 = .ok (.iload_n 1, 1) := by decide +kernel
theorem d_L_at_4 : decode c_L_at 4 = .ok (.iload_n 2, 1) := by decide +kernel
theorem d_L_at_5 : decode c_L_at 5 = .ok (.invokevirtual 42, 3) := by decide +kernel
theorem d_L_at_8 : decode c_L_at 8 = .ok (.i2l, 1) := by decide +kernel
theorem d_L_at_9 : decode c_L_at 9 = .ok (.lastore, 1) := by decide +kernel
theorem d_L_at_10 : decode c_L_at 10 = .ok (.goto 11, 3) := by decide +kernel
theorem d_L_at_13 : decode c_L_at 13 = .ok (.astore 4, 2) := by decide +kernel
theorem d_L_at_15 : decode c_L_at 15 = .ok (.iconst 1, 1) := by decide +kernel
theorem d_L_at_16 : decode c_L_at 16 = .ok (.ireturn, 1) := by decide +kernel
theorem d_L_at_17 : decode c_L_at 17 = .ok (.astore 4, 2) := by decide +kernel
theorem d_L_at_19 : decode c_L_at 19 = .ok (.iconst 2, 1) := by decide +kernel
theorem d_L_at_20 : decode c_L_at 20 = .ok (.ireturn, 1) := by decide +kernel
theorem d_L_at_21 : decode c_L_at 21 = .ok (.iconst 0, 1) := by decide +kernel
theorem d_L_at_22 : decode c_L_at 22 = .ok (.ireturn, 1) := by decide +kernel
theorem d_L_links_0 : decode c_L_links 0 = .ok (.aload_n 1, 1) := by decide +kernel
theorem d_L_links_1 : decode c_L_links 1 = .ok (.iconst 0, 1) := by decide +kernel
theorem d_L_links_2 : decode c_L_links 2 = .ok (.aload_n 0, 1) := by decide +kernel
theorem d_L_links_3 : decode c_L_links 3 = .ok (.invokevirtual 45, 3) := by decide +kernel
theorem d_L_links_6 : decode c_L_links 6 = .ok (.i2l, 1) := by decide +kernel
theorem d_L_links_7 : decode c_L_links 7 = .ok (.lastore, 1) := by decide +kernel
theorem d_L_links_8 : decode c_L_links 8 = .ok (.goto 6, 3) := by decide +kernel
theorem d_L_links_11 : decode c_L_links 11 = .ok (.astore_n 2, 1) := by decide +kernel
theorem d_L_links_12 : decode c_L_links 12 = .ok (.iconst 1, 1) := by decide +kernel
theorem d_L_links_13 : decode c_L_links 13 = .ok (.ireturn, 1) := by decide +kernel
theorem d_L_links_14 : decode c_L_links 14 = .ok (.iconst 0, 1) := by decide +kernel
theorem d_L_links_15 : decode c_L_links 15 = .ok (.ireturn, 1) := by decide +kernel
theorem d_L_link_0 : decode c_L_link 0 = .ok (.aload_n 3, 1) := by decide +kernel
theorem d_L_link_1 : decode c_L_link 1 = .ok (.iconst 0, 1) := by decide +kernel
theorem d_L_link_2 : decode c_L_link 2 = .ok (.aload_n 0, 1) := by decide +kernel
theorem d_L_link_3 : decode c_L_link 3 = .ok (.iload_n 1, 1) := by decide +kernel
theorem d_L_link_4 : decode c_L_link 4 = .ok (.iload_n 2, 1) := by decide +kernel
theorem d_L_link_5 : decode c_L_link 5 = .ok (.invokevirtual 49, 3) := by decide +kernel
theorem d_L_link_8 : decode c_L_link 8 = .ok (.i2l, 1) := by decide +kernel
theorem d_L_link_9 : decode c_L_link 9 = .ok (.lastore, 1) := by decide +kernel
theorem d_L_link_10 : decode c_L_link 10 = .ok (.goto 11, 3) := by decide +kernel
theorem d_L_link_13 : decode c_L_link 13 = .ok (.astore 4, 2) := by decide +kernel
theorem d_L_link_15 : decode c_L_link 15 = .ok (.iconst 1, 1) := by decide +kernel
theorem d_L_link_16 : decode c_L_link 16 = .ok (.ireturn, 1) := by decide +kernel
theorem d_L_link_17 : decode c_L_link 17 = .ok (.astore 4, 2) := by decide +kernel
theorem d_L_link_19 : decode c_L_link 19 = .ok (.iconst 2, 1) := by decide +kernel
theorem d_L_link_20 : decode c_L_link 20 = .ok (.ireturn, 1) := by decide +kernel
theorem d_L_link_21 : decode c_L_link 21 = .ok (.iconst 0, 1) := by decide +kernel
theorem d_L_link_22 : decode c_L_link 22 = .ok (.ireturn, 1) := by decide +kernel
theorem d_L_command_0 : decode c_L_command 0 = .ok (.aload_n 2, 1) := by decide +kernel
theorem d_L_command_1 : decode c_L_command 1 = .ok (.iconst 0, 1) := by decide +kernel
theorem d_L_command_2 : decode c_L_command 2 = .ok (.aload_n 0, 1) := by decide +kernel
theorem d_L_command_3 : decode c_L_command 3 = .ok (.iload_n 1, 1) := by decide +kernel
theorem d_L_command_4 : decode c_L_command 4 = .ok (.invokevirtual 52, 3) := by decide +kernel
theorem d_L_command_7 : decode c_L_command 7 = .ok (.i2l, 1) := by decide +kernel
theorem d_L_command_8 : decode c_L_command 8 = .ok (.lastore, 1) := by decide +kernel
theorem d_L_command_9 : decode c_L_command 9 = .ok (.goto 9, 3) := by decide +kernel
theorem d_L_command_12 : decode c_L_command 12 = .ok (.astore_n 3, 1) := by decide +kernel
theorem d_L_command_13 : decode c_L_command 13 = .ok (.iconst 1, 1) := by decide +kernel
theorem d_L_command_14 : decode c_L_command 14 = .ok (.ireturn, 1) := by decide +kernel
theorem d_L_command_15 : decode c_L_command 15 = .ok (.astore_n 3, 1) := by decide +kernel
theorem d_L_command_16 : decode c_L_command 16 = .ok (.iconst 2, 1) := by decide +kernel
theorem d_L_command_17 : decode c_L_command 17 = .ok (.ireturn, 1) := by decide +kernel
theorem d_L_command_18 : decode c_L_command 18 = .ok (.iconst 0, 1) := by decide +kernel
theorem d_L_command_19 : decode c_L_command 19 = .ok (.ireturn, 1) := by decide +kernel
theorem d_L_count_0 : decode c_L_count 0 = .ok (.aload_n 2, 1) := by decide +kernel
theorem d_L_count_1 : decode c_L_count 1 = .ok (.iconst 0, 1) := by decide +kernel
theorem d_L_count_2 : decode c_L_count 2 = .ok (.aload_n 0, 1) := by decide +kernel
theorem d_L_count_3 : decode c_L_count 3 = .ok (.iload_n 1, 1) := by decide +kernel
theorem d_L_count_4 : decode c_L_count 4 = .ok (.invokevirtual 55, 3) := by decide +kernel
theorem d_L_count_7 : decode c_L_count 7 = .ok (.i2l, 1) := by decide +kernel
theorem d_L_count_8 : decode c_L_count 8 = .ok (.lastore, 1) := by decide +kernel
theorem d_L_count_9 : decode c_L_count 9 = .ok (.goto 6, 3) := by decide +kernel
theorem d_L_count_12 : decode c_L_count 12 = .ok (.astore_n 3, 1) := by decide +kernel
theorem d_L_count_13 : decode c_L_count 13 = .ok (.iconst 1, 1) := by decide +kernel
theorem d_L_count_14 : decode c_L_count 14 = .ok (.ireturn, 1) := by decide +kernel
theorem d_L_count_15 : decode c_L_count 15 = .ok (.iconst 0, 1) := by decide +kernel
theorem d_L_count_16 : decode c_L_count 16 = .ok (.ireturn, 1) := by decide +kernel
/-! the law's wrappers: the class's world and one row of longs -/
def kNL (U : State) : Prop := va_Nc "java/lang/IllegalStateException" "java/lang/IndexOutOfBoundsException" U ∧ va_Nc "java/lang/IllegalArgumentException" "java/lang/IndexOutOfBoundsException" U
abbrev kO (qo : Nat) (cL : ClassId) (g : Nat → Int64) : va_W := [(qo, .inl (cL, 1, .inr (.inl g)))]
abbrev ktyL (cA cB cL : ClassId) : List (ClassId × FieldType) := [(cA, .int), (cB, .boolean), (cL, .long)]
def kAL (ad : Nat → Nat) (qo sz : Nat) : Nat → Prop := fun q => kAC ad sz q ∨ q = qo
def kPcL (D : va_G) (ad : Nat → Nat) (cA cB cL : ClassId) (σ : S0) (qo : Nat) (g : Nat → Int64) (sz : Nat) (av : List Value) : Array Value → State → Prop := va_Pc av (fun U => U.heap.size = sz ∧ va_P D vwCl (wC ad cA cB σ ++ kO qo cL g) U.heap ∧ va_K D vwCl (ktyL cA cB cL) U ∧ kFC ad sz U ∧ kNL U)
def kBL (D : va_G) (ad : Nat → Nat) (cA cB cL : ClassId) (qo : Nat) (u : S0 × (Nat → Int64)) (t : State) : Prop := va_P D vwCl (wC ad cA cB u.1 ++ kO qo cL u.2) t.heap
theorem kL_D {ad : Nat → Nat} (hap : kapC ad) {cA cB cL : ClassId} {σ : S0} {qo sz : Nat} {g : Nat → Int64} (hqo : ∀ k, k < 26 → ad k ≠ qo) : va_D (kAL ad qo sz) (wC ad cA cB σ ++ kO qo cL g) :=
  va_D.app ((wC_D hap cA cB σ sz).weaken (fun _ _ _ h => Or.inl h)) ⟨fun i j p q hi hj _ => by
      have h1 := (List.getElem?_eq_some_iff.mp hi).1
      have h2 := (List.getElem?_eq_some_iff.mp hj).1
      simp at h1 h2; omega, fun k q hk => by
      have h1 := (List.getElem?_eq_some_iff.mp hk).1
      simp at h1; subst h1; cases hk; exact Or.inr rfl⟩ (fun i j p q hi hj h => by
      obtain ⟨a1, a2⟩ := wC_at hi
      have h1 := (List.getElem?_eq_some_iff.mp hj).1
      simp at h1; subst h1; cases hj
      exact hqo i a1 (by rw [← a2]; exact h))
theorem kin0 : vp_in 0 1 := by unfold vp_in; decide
section KL
variable {p : Program} {l : Launch} {e : Env} {R : Room} {s : State} {m : MethodId} {args : Array Value} {below : List Frame} {meth : Method} {c : Code} {cells slots : Nat} {Q : State → Prop}
variable {D : va_G} {ad : Nat → Nat} {cA cB cL : ClassId} {σ : S0} {qo : Nat} {g : Nat → Int64} {pc : Nat} {ls : Array Slot} {rest st0 : List Value} {a : Array Value} {mc ms : Nat} {px : Nat → S0 → Prop}
theorem kL_call {post : Int32 → S0 → Prop} (hr : vx_Run p l e R s m args below meth c s.heap [] cells slots mc ms (F0 m pc ls st0) rest (va_Qi post (kBC D ad cA cB) (kAC ad s.heap.size) a) (kX D ad cA cB px s.heap.size) (kAC ad s.heap.size)) (hP : va_P D vwCl (wC ad cA cB σ ++ kO qo cL g) s.heap) (hqo : ∀ k, k < 26 → ad k ≠ qo)
    (kx : ∀ (ce : Cell) (q9 : Addr) (k : Nat) (σ1 : S0) (H1 : Heap) (locs1 : List Loc), px k σ1 → va_P D vwCl (wC ad cA cB σ1 ++ kO qo cL g) H1 → va_S (kAL ad qo s.heap.size) s.heap H1 locs1 → H1[q9]? = some ce → ce.vm = .none → s.vm.findClass (kexn k) = some ce.cls → vx_W p l e R s m args below meth c H1 locs1 (cells + mc) (slots + ms) Q (F0 m pc ls rest) q9)
    (kk : ∀ (r : Int32) (σ1 : S0) (H1 : Heap) (locs1 : List Loc), post r σ1 → va_P D vwCl (wC ad cA cB σ1 ++ kO qo cL g) H1 → va_S (kAL ad qo s.heap.size) s.heap H1 locs1 → W p l e R s m args below meth c H1 locs1 (cells + mc) (slots + ms) Q (F0 m (pc + 3) ls (.int r :: rest))) : W p l e R s m args below meth c s.heap [] cells slots Q (F0 m pc ls st0) := by
  have hS : va_S (kAL ad qo s.heap.size) s.heap s.heap [] := va_S.rf
  have hPo : va_P D vwCl (kO qo cL g) s.heap := hP.sub [26] rfl
  have hlt : qo < s.heap.size := (hPo 0 _ rfl).lt
  have hnA : ¬ kAC ad s.heap.size qo := fun h => h.elim (fun ⟨k, h1, h2⟩ => hqo k h1 h2.symm) (fun h => absurd h (Nat.not_le.mpr hlt))
  have kept : ∀ H1 : Heap, (∀ q : Nat, q < s.heap.size → ¬ kAC ad s.heap.size q → H1[q]? = s.heap[q]?) → va_P D vwCl (kO qo cL g) H1 := fun H1 hk => hPo.kept (fun k q hq => by
    have h1 := (List.getElem?_eq_some_iff.mp hq).1
    simp at h1; subst h1; cases hq
    exact hk qo hlt hnA)
  refine vx_calli hr hS (fun q _ h => Or.inl h) (fun q h => Or.inl h) (fun q _ h => Or.inl h) (fun E ce q9 u t H1 locs1 ht _ hp hB _ hk hS1 hcell hv hcl => ?_) (fun r u t H1 locs1 ht _ hp hB _ hk hS1 => ?_)
  · obtain ⟨rfl, hB⟩ := hB
    exact kx ce q9 u.1 u.2 H1 locs1 hp (va_P.app (by rw [← ht]; exact hB) (kept H1 hk)) hS1 hcell hv hcl
  · exact kk r u H1 locs1 hp (va_P.app (by rw [← ht]; exact hB) (kept H1 hk)) hS1
end KL
theorem m_232 : Cond.codeWith y_L_above c_L_above 5 (some .int) [(0, 10, 13, 13)] ∈ wsG := wsG_in (List.mem_of_getElem? (i := 232) (by decide +kernel)) (by decide +kernel)
theorem m_233 : Cond.classLink RL 13 "java/lang/IndexOutOfBoundsException" ∈ wsG := wsG_in (List.mem_of_getElem? (i := 233) (by decide +kernel)) (by decide +kernel)
theorem m_234 : Cond.methodLink RL 7 y_M_above ∈ wsG := wsG_in (List.mem_of_getElem? (i := 234) (by decide +kernel)) (by decide +kernel)
theorem m_235 : Cond.instanceMethod y_M_above ∈ wsG := wsG_in (List.mem_of_getElem? (i := 235) (by decide +kernel)) (by decide +kernel)
theorem m_236 : Cond.selects RX3 y_M_above y_M_above ∈ wsG := wsG_in (List.mem_of_getElem? (i := 236) (by decide +kernel)) (by decide +kernel)
theorem m_237 : Cond.code y_M_above c_M_above 3 (some .int) ∈ wsG := wsG_in (List.mem_of_getElem? (i := 237) (by decide +kernel)) (by decide +kernel)
theorem m_344 : Cond.codeWith y_L_same c_L_same 5 (some .int) [(0, 10, 13, 13)] ∈ wsG := wsG_in (List.mem_of_getElem? (i := 344) (by decide +kernel)) (by decide +kernel)
theorem m_345 : Cond.methodLink RL 15 y_M_same ∈ wsG := wsG_in (List.mem_of_getElem? (i := 345) (by decide +kernel)) (by decide +kernel)
theorem m_346 : Cond.instanceMethod y_M_same ∈ wsG := wsG_in (List.mem_of_getElem? (i := 346) (by decide +kernel)) (by decide +kernel)
theorem m_347 : Cond.selects RX3 y_M_same y_M_same ∈ wsG := wsG_in (List.mem_of_getElem? (i := 347) (by decide +kernel)) (by decide +kernel)
theorem m_348 : Cond.code y_M_same c_M_same 3 (some .int) ∈ wsG := wsG_in (List.mem_of_getElem? (i := 348) (by decide +kernel)) (by decide +kernel)
theorem m_365 : Cond.codeWith y_L_phase c_L_phase 5 (some .int) [(0, 10, 13, 13), (0, 10, 17, 21)] ∈ wsG := wsG_in (List.mem_of_getElem? (i := 365) (by decide +kernel)) (by decide +kernel)
theorem m_366 : Cond.classLink RL 21 "java/lang/IllegalArgumentException" ∈ wsG := wsG_in (List.mem_of_getElem? (i := 366) (by decide +kernel)) (by decide +kernel)
theorem m_367 : Cond.methodLink RL 18 y_M_phase ∈ wsG := wsG_in (List.mem_of_getElem? (i := 367) (by decide +kernel)) (by decide +kernel)
theorem m_368 : Cond.instanceMethod y_M_phase ∈ wsG := wsG_in (List.mem_of_getElem? (i := 368) (by decide +kernel)) (by decide +kernel)
theorem m_369 : Cond.selects RX3 y_M_phase y_M_phase ∈ wsG := wsG_in (List.mem_of_getElem? (i := 369) (by decide +kernel)) (by decide +kernel)
theorem m_370 : Cond.code y_M_phase c_M_phase 3 (some .int) ∈ wsG := wsG_in (List.mem_of_getElem? (i := 370) (by decide +kernel)) (by decide +kernel)
theorem m_393 : Cond.codeWith y_L_hide c_L_hide 5 (some .int) [(0, 17, 20, 13)] ∈ wsG := wsG_in (List.mem_of_getElem? (i := 393) (by decide +kernel)) (by decide +kernel)
theorem m_394 : Cond.methodLink RL 23 y_M_hide ∈ wsG := wsG_in (List.mem_of_getElem? (i := 394) (by decide +kernel)) (by decide +kernel)
theorem m_395 : Cond.instanceMethod y_M_hide ∈ wsG := wsG_in (List.mem_of_getElem? (i := 395) (by decide +kernel)) (by decide +kernel)
theorem m_396 : Cond.selects RX3 y_M_hide y_M_hide ∈ wsG := wsG_in (List.mem_of_getElem? (i := 396) (by decide +kernel)) (by decide +kernel)
theorem m_397 : Cond.code y_M_hide c_M_hide 3 (some .boolean) ∈ wsG := wsG_in (List.mem_of_getElem? (i := 397) (by decide +kernel)) (by decide +kernel)
theorem m_404 : Cond.codeWith y_L_group c_L_group 4 (some .int) [(0, 9, 12, 13)] ∈ wsG := wsG_in (List.mem_of_getElem? (i := 404) (by decide +kernel)) (by decide +kernel)
theorem m_405 : Cond.methodLink RL 27 y_M_group ∈ wsG := wsG_in (List.mem_of_getElem? (i := 405) (by decide +kernel)) (by decide +kernel)
theorem m_406 : Cond.instanceMethod y_M_group ∈ wsG := wsG_in (List.mem_of_getElem? (i := 406) (by decide +kernel)) (by decide +kernel)
theorem m_407 : Cond.selects RX3 y_M_group y_M_group ∈ wsG := wsG_in (List.mem_of_getElem? (i := 407) (by decide +kernel)) (by decide +kernel)
theorem m_408 : Cond.code y_M_group c_M_group 2 (some .int) ∈ wsG := wsG_in (List.mem_of_getElem? (i := 408) (by decide +kernel)) (by decide +kernel)
theorem m_411 : Cond.codeWith y_L_misfit c_L_misfit 5 (some .int) [(0, 10, 13, 13)] ∈ wsG := wsG_in (List.mem_of_getElem? (i := 411) (by decide +kernel)) (by decide +kernel)
theorem m_412 : Cond.methodLink RL 31 y_M_misfit ∈ wsG := wsG_in (List.mem_of_getElem? (i := 412) (by decide +kernel)) (by decide +kernel)
theorem m_413 : Cond.instanceMethod y_M_misfit ∈ wsG := wsG_in (List.mem_of_getElem? (i := 413) (by decide +kernel)) (by decide +kernel)
theorem m_414 : Cond.selects RX3 y_M_misfit y_M_misfit ∈ wsG := wsG_in (List.mem_of_getElem? (i := 414) (by decide +kernel)) (by decide +kernel)
theorem m_415 : Cond.code y_M_misfit c_M_misfit 4 (some .int) ∈ wsG := wsG_in (List.mem_of_getElem? (i := 415) (by decide +kernel)) (by decide +kernel)
theorem m_426 : Cond.codeWith y_L_draw c_L_draw 4 (some .int) [(0, 9, 12, 21)] ∈ wsG := wsG_in (List.mem_of_getElem? (i := 426) (by decide +kernel)) (by decide +kernel)
theorem m_427 : Cond.methodLink RL 34 y_M_draw ∈ wsG := wsG_in (List.mem_of_getElem? (i := 427) (by decide +kernel)) (by decide +kernel)
theorem m_428 : Cond.instanceMethod y_M_draw ∈ wsG := wsG_in (List.mem_of_getElem? (i := 428) (by decide +kernel)) (by decide +kernel)
theorem m_429 : Cond.selects RX3 y_M_draw y_M_draw ∈ wsG := wsG_in (List.mem_of_getElem? (i := 429) (by decide +kernel)) (by decide +kernel)
theorem m_430 : Cond.code y_M_draw c_M_draw 3 (some .int) ∈ wsG := wsG_in (List.mem_of_getElem? (i := 430) (by decide +kernel)) (by decide +kernel)
theorem m_526 : Cond.codeWith y_L_crossings c_L_crossings 4 (some .int) [(0, 9, 12, 13), (0, 9, 15, 40)] ∈ wsG := wsG_in (List.mem_of_getElem? (i := 526) (by decide +kernel)) (by decide +kernel)
theorem m_527 : Cond.classLink RL 40 "java/lang/IllegalStateException" ∈ wsG := wsG_in (List.mem_of_getElem? (i := 527) (by decide +kernel)) (by decide +kernel)
theorem m_528 : Cond.methodLink RL 37 y_M_crossings ∈ wsG := wsG_in (List.mem_of_getElem? (i := 528) (by decide +kernel)) (by decide +kernel)
theorem m_529 : Cond.instanceMethod y_M_crossings ∈ wsG := wsG_in (List.mem_of_getElem? (i := 529) (by decide +kernel)) (by decide +kernel)
theorem m_530 : Cond.selects RX3 y_M_crossings y_M_crossings ∈ wsG := wsG_in (List.mem_of_getElem? (i := 530) (by decide +kernel)) (by decide +kernel)
theorem m_531 : Cond.code y_M_crossings c_M_crossings 2 (some .int) ∈ wsG := wsG_in (List.mem_of_getElem? (i := 531) (by decide +kernel)) (by decide +kernel)
theorem m_554 : Cond.codeWith y_L_at c_L_at 5 (some .int) [(0, 10, 13, 13), (0, 10, 17, 40)] ∈ wsG := wsG_in (List.mem_of_getElem? (i := 554) (by decide +kernel)) (by decide +kernel)
theorem m_555 : Cond.methodLink RL 42 y_M_at ∈ wsG := wsG_in (List.mem_of_getElem? (i := 555) (by decide +kernel)) (by decide +kernel)
theorem m_556 : Cond.instanceMethod y_M_at ∈ wsG := wsG_in (List.mem_of_getElem? (i := 556) (by decide +kernel)) (by decide +kernel)
theorem m_557 : Cond.selects RX3 y_M_at y_M_at ∈ wsG := wsG_in (List.mem_of_getElem? (i := 557) (by decide +kernel)) (by decide +kernel)
theorem m_558 : Cond.code y_M_at c_M_at 4 (some .int) ∈ wsG := wsG_in (List.mem_of_getElem? (i := 558) (by decide +kernel)) (by decide +kernel)
theorem m_561 : Cond.codeWith y_L_links c_L_links 3 (some .int) [(0, 8, 11, 40)] ∈ wsG := wsG_in (List.mem_of_getElem? (i := 561) (by decide +kernel)) (by decide +kernel)
theorem m_562 : Cond.methodLink RL 45 y_M_links ∈ wsG := wsG_in (List.mem_of_getElem? (i := 562) (by decide +kernel)) (by decide +kernel)
theorem m_563 : Cond.instanceMethod y_M_links ∈ wsG := wsG_in (List.mem_of_getElem? (i := 563) (by decide +kernel)) (by decide +kernel)
theorem m_564 : Cond.selects RX3 y_M_links y_M_links ∈ wsG := wsG_in (List.mem_of_getElem? (i := 564) (by decide +kernel)) (by decide +kernel)
theorem m_565 : Cond.code y_M_links c_M_links 1 (some .int) ∈ wsG := wsG_in (List.mem_of_getElem? (i := 565) (by decide +kernel)) (by decide +kernel)
theorem m_568 : Cond.codeWith y_L_link c_L_link 5 (some .int) [(0, 10, 13, 13), (0, 10, 17, 40)] ∈ wsG := wsG_in (List.mem_of_getElem? (i := 568) (by decide +kernel)) (by decide +kernel)
theorem m_569 : Cond.methodLink RL 49 y_M_link ∈ wsG := wsG_in (List.mem_of_getElem? (i := 569) (by decide +kernel)) (by decide +kernel)
theorem m_570 : Cond.instanceMethod y_M_link ∈ wsG := wsG_in (List.mem_of_getElem? (i := 570) (by decide +kernel)) (by decide +kernel)
theorem m_571 : Cond.selects RX3 y_M_link y_M_link ∈ wsG := wsG_in (List.mem_of_getElem? (i := 571) (by decide +kernel)) (by decide +kernel)
theorem m_572 : Cond.code y_M_link c_M_link 3 (some .int) ∈ wsG := wsG_in (List.mem_of_getElem? (i := 572) (by decide +kernel)) (by decide +kernel)
theorem m_577 : Cond.codeWith y_L_command c_L_command 4 (some .int) [(0, 9, 12, 13), (0, 9, 15, 40)] ∈ wsG := wsG_in (List.mem_of_getElem? (i := 577) (by decide +kernel)) (by decide +kernel)
theorem m_578 : Cond.methodLink RL 52 y_M_command ∈ wsG := wsG_in (List.mem_of_getElem? (i := 578) (by decide +kernel)) (by decide +kernel)
theorem m_579 : Cond.instanceMethod y_M_command ∈ wsG := wsG_in (List.mem_of_getElem? (i := 579) (by decide +kernel)) (by decide +kernel)
theorem m_580 : Cond.selects RX3 y_M_command y_M_command ∈ wsG := wsG_in (List.mem_of_getElem? (i := 580) (by decide +kernel)) (by decide +kernel)
theorem m_581 : Cond.code y_M_command c_M_command 4 (some .int) ∈ wsG := wsG_in (List.mem_of_getElem? (i := 581) (by decide +kernel)) (by decide +kernel)
theorem m_606 : Cond.codeWith y_L_count c_L_count 4 (some .int) [(0, 9, 12, 13)] ∈ wsG := wsG_in (List.mem_of_getElem? (i := 606) (by decide +kernel)) (by decide +kernel)
theorem m_607 : Cond.methodLink RL 55 y_M_count ∈ wsG := wsG_in (List.mem_of_getElem? (i := 607) (by decide +kernel)) (by decide +kernel)
theorem m_608 : Cond.instanceMethod y_M_count ∈ wsG := wsG_in (List.mem_of_getElem? (i := 608) (by decide +kernel)) (by decide +kernel)
theorem m_609 : Cond.selects RX3 y_M_count y_M_count ∈ wsG := wsG_in (List.mem_of_getElem? (i := 609) (by decide +kernel)) (by decide +kernel)
theorem m_610 : Cond.code y_M_count c_M_count 2 (some .int) ∈ wsG := wsG_in (List.mem_of_getElem? (i := 610) (by decide +kernel)) (by decide +kernel)
theorem me_246 : Cond.castable "java/lang/IndexOutOfBoundsException" "java/lang/IndexOutOfBoundsException" ∈ wsE := wsE_in (List.mem_of_getElem? (i := 246) (by decide +kernel)) (by decide +kernel)
theorem me_373 : Cond.castable "java/lang/IllegalArgumentException" "java/lang/IllegalArgumentException" ∈ wsE := wsE_in (List.mem_of_getElem? (i := 373) (by decide +kernel)) (by decide +kernel)
theorem me_538 : Cond.castable "java/lang/IllegalStateException" "java/lang/IllegalStateException" ∈ wsE := wsE_in (List.mem_of_getElem? (i := 538) (by decide +kernel)) (by decide +kernel)
