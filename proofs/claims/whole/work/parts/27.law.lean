set_option maxHeartbeats 8000000 in
set_option maxRecDepth 100000 in
theorem law_loop {p : Program} {l : Launch} {e : Env} {s : State} {m : MethodId} {below : List Frame} {meth : Method} {c : Code} {D : va_G} {cA cB cL : ClassId} {b L : Nat} {xs : Nat → Int32} (hl0 : l.stackTraces = false) (hL : L ≤ 1536) (C0 : lw_At p s m meth c b L xs)
    (hK : va_K D vwCl (ktyL cA cB cL) s) (hF : kF0 s) (hN : kNL s) (Inv : S0 → S0 → Prop) (hstep : ∀ v a b σ τ g, Inv σ τ → LStep v a b σ τ g (fun σ1 τ1 _ => Inv σ1 τ1)) {ad ar : Nat → Nat} {qo : Nat} (hd : kdis s ad ar qo) :
    ∀ (n j : Nat), L + 3 ≤ 3 * j + 3 * n → 3 * j ≤ L + 2 → j ≤ 512 → ∀ (σ τ : S0) (g : Nat → Int64), Inv σ τ → ∀ (H : Heap) (locs : List Loc) (ls : Array Slot), va_P D vwCl (wC ad cA cB σ ++ kO qo cL g) H → va_P D vwCl (wR ar cA cB τ) H → va_S (kA0 s) s.heap H locs → lv_has ls 7 [(0, .ref b), (1, .ref (ad 0)), (2, .ref (ar 0)), (3, .ref qo), (4, .int (nI (3 * j)))] →
      W p l e room_1 s m #[Value.ref b] below meth c H locs (48 + j) (7527 + 6 * j) (lw_Z below #[Value.ref b] s) (F0 m 23 ls []) := by
  obtain ⟨hx, hb, hr, hml, hown, hts, hX, hbl, hlocks, hgv⟩ := C0
  have htg : ∀ w ∈ wsG, w.before #[Value.ref b] s = true := fun w h => hts w (wsG_tbl w h)
  have hown : s.vm.findClass RL = some m.cls := hown
  have hbA : ¬ kA0 s b := Nat.not_le.mpr hbl
  intro n
  induction n with
  | zero =>
    intro j h1 h2
    exact absurd h1 (by omega)
  | succ n ih =>
    intro j hj1 hj2 hj3 σ τ g hinv H locs ls hP hR hS hl
    have hx4 : ∃ z, z = nI (3 * j) := ⟨_, rfl⟩
    obtain ⟨x4, ex4⟩ := hx4
    rw [← ex4] at hl
    have tail : j < 512 → 3 * j + 3 ≤ L → ∀ (σ τ : S0) (g : Nat → Int64), Inv σ τ → ∀ (H : Heap) (locs : List Loc) (ls : Array Slot), va_P D vwCl (wC ad cA cB σ ++ kO qo cL g) H → va_P D vwCl (wR ar cA cB τ) H → va_S (kA0 s) s.heap H locs → lv_has ls 7 [(0, .ref b), (1, .ref (ad 0)), (2, .ref (ar 0)), (3, .ref qo), (4, .int x4)] → W p l e room_1 s m #[Value.ref b] below meth c H locs (48 + j + 1) (7527 + 6 * j + 6) (lw_Z below #[Value.ref b] s) (F0 m 927 ls []) := by
      intro h512 hjL σ τ g hinv H locs ls hP hR hS hl
      refine lv_iinc (v := x4 + 3) (lv' := [(4, .int (x4 + 3)), (0, .ref b), (1, .ref (ad 0)), (2, .ref (ar 0)), (3, .ref qo)]) hx hb d_L_law_927 hl (k := 4) rfl rfl (by decide) rfl (fun ls hl => ?_)
      refine lv_goto (tgt := 23) hx hb d_L_law_930 (by decide) ?_
      have e9 : x4 + 3 = nI (3 * (j + 1)) := by rw [ex4, show (3 : Int32) = nI 3 from rfl, nI_add]; rfl
      rw [e9] at hl
      refine W.widen (k := 48 + (j + 1)) (n := 7527 + 6 * (j + 1)) (by omega) (by omega) ?_
      exact ih (j + 1) (by omega) (by omega) (by omega) σ τ g hinv H locs ls hP hR hS (lv_sub hl [1, 2, 3, 4, 0] rfl)
    refine lv_iload hx hb d_L_law_23 (lv_at hl 4 rfl) ?_
    refine lv_aload_n hx hb d_L_law_25 rfl (lv_at hl 0 rfl) ?_
    refine va_slen hx hb hX hbl hbA hS d_L_law_26 ?_
    refine lv_iconst (v := 3) hx hb d_L_law_27 (by decide) ?_
    refine lv_isub hx hb d_L_law_28 ?_
    refine lv_icmp_gt (tgt := 933) hx hb d_L_law_29 (by decide) (fun cn => ?_) (fun cn => ?_)
    · refine lv_iconst (v := 1) hx hb d_L_law_933 (by decide) ?_
      refine va_forget (fun q hq => hS.2.2 q hq) ?_
      refine W.widen (k := 1077) (n := 15749) (by omega) (by omega) ?_
      exact lw_ret hx hb hr hlocks d_L_law_934
    have hjL : 3 * j + 3 ≤ L := by rw [ex4, kgt hL hj3] at cn; omega
    have h512 : j < 512 := by omega
    have hi0 : vp_in x4 L := by rw [ex4]; exact vp_in_nI (by omega) (by omega)
    have hi1 : vp_in (x4 + 1) L := by rw [ex4]; exact kin (d := 1) hL (by omega)
    have hi2 : vp_in (x4 + 2) L := by rw [ex4]; exact kin (d := 2) hL (by omega)
    refine lv_aload_n hx hb d_L_law_32 rfl (lv_at hl 0 rfl) ?_
    refine lv_iload hx hb d_L_law_33 (lv_at hl 4 rfl) ?_
    refine va_sld hx hb hX hbl hbA hS hi0 d_L_law_35 ?_
    refine lv_bipush (v := 15) hx hb d_L_law_36 (by decide) ?_
    refine lv_iand hx hb d_L_law_38 ?_
    refine lv_topi (fun v ev => ?_)
    have hs := hstep v (xs (x4 + 1).toNatClampNeg) (xs (x4 + 2).toNatClampNeg) σ τ g hinv
    unfold LStep at hs
    by_cases cc0 : v = 0
    · have h := hs.1 cc0
      refine lv_tableIn (tgt := 104) hx hb d_L_law_39 (by rw [cc0]; decide) (by rw [cc0]; decide) (by rw [cc0]; rfl) (by decide) ?_
      refine lv_aload_n hx hb d_L_law_104 rfl (lv_at hl 1 rfl) ?_
      refine lv_aload_n hx hb d_L_law_105 rfl (lv_at hl 0 rfl) ?_
      refine lv_iload hx hb d_L_law_106 (lv_at hl 4 rfl) ?_
      refine lv_iconst (v := 1) hx hb d_L_law_108 (by decide) ?_
      refine lv_iadd hx hb d_L_law_109 ?_
      refine va_sld hx hb hX hbl hbA hS hi1 d_L_law_110 ?_
      refine lv_aload_n hx hb d_L_law_111 rfl (lv_at hl 0 rfl) ?_
      refine lv_iload hx hb d_L_law_112 (lv_at hl 4 rfl) ?_
      refine lv_iconst (v := 2) hx hb d_L_law_114 (by decide) ?_
      refine lv_iadd hx hb d_L_law_115 ?_
      refine va_sld hx hb hX hbl hbA hS hi2 d_L_law_116 ?_
      refine lv_aload_n hx hb d_L_law_117 rfl (lv_at hl 3 rfl) ?_
      refine kLL_w (vx_runSW (As := [.ref (ad 0), .int (xs (x4 + 1).toNatClampNeg), .int (xs (x4 + 2).toNatClampNeg), .ref qo]) (rest := []) ⟨hx, hb, hml, hown, htg⟩ (met_L_above l hl0 D ad cA cB cL hd.1 σ qo hd.2.2.2.1 g H.size ((xs (x4 + 1).toNatClampNeg)) ((xs (x4 + 2).toNatClampNeg)) _ h) (vx_cwSW 4 htg (kG (kG_SW m_230 m_231 m_52 (kG_self m_232))) rfl rfl rfl (by decide +kernel) ⟨Nat.le_of_ble_eq_true rfl, Nat.le_of_ble_eq_true rfl⟩) (kLL_pre hK hF hN hd hP hS _) rfl rfl hl.1 rfl (lv_room (Nat.le_of_ble_eq_true rfl)) d_L_law_118 ⟨(show 48 + j + 1 ≤ 1077 by omega), (show 7527 + 6 * j + 6 ≤ 15749 by omega)⟩) hd hS hR (fun r5 σ1 g1 H locs h hP hR hS => ?_)
      refine lv_istore (lv' := [(5, .int r5), (0, .ref b), (1, .ref (ad 0)), (2, .ref (ar 0)), (3, .ref qo), (4, .int x4)]) hx hb d_L_law_121 hl (by decide) rfl (fun ls hl => ?_)
      refine lv_aload_n hx hb d_L_law_123 rfl (lv_at hl 3 rfl) ?_
      refine lv_aload_n hx hb d_L_law_124 rfl (lv_at hl 1 rfl) ?_
      refine lv_iload hx hb d_L_law_125 (lv_at hl 5 rfl) ?_
      refine lv_iconst (v := 1) hx hb d_L_law_127 (by decide) ?_
      refine lv_iadd hx hb d_L_law_128 ?_
      refine va_sld hx hb hX hbl hbA hS hi1 d_L_law_129 ?_
      refine lv_aload_n hx hb d_L_law_130 rfl (lv_at hl 1 rfl) ?_
      refine lv_iload hx hb d_L_law_131 (lv_at hl 5 rfl) ?_
      refine lv_iconst (v := 2) hx hb d_L_law_133 (by decide) ?_
      refine lv_iadd hx hb d_L_law_134 ?_
      refine va_sld hx hb hX hbl hbA hS hi2 d_L_law_135 ?_
      refine kLL_m (va_runV (As := [.int (xs (x4 + 1).toNatClampNeg), .int (xs (x4 + 2).toNatClampNeg)]) (rest := []) ⟨hx, hb, hml, hown, htg⟩ (met_R_above l D ar cA cB hd.2.1 τ H.size ((xs (x4 + 1).toNatClampNeg)) ((xs (x4 + 2).toNatClampNeg)) _ h) (cwV 2 htg (kG (kG_V m_706 m_707 m_708 m_57 (kG_self m_709))) rfl rfl rfl (by decide +kernel) ⟨Nat.le_of_ble_eq_true rfl, Nat.le_of_ble_eq_true rfl⟩) (kLL_preV hK hR _) rfl rfl hl.1 rfl (lv_room (Nat.le_of_ble_eq_true rfl)) d_L_law_136 ⟨(show 48 + j + 1 + 0 ≤ 1077 by omega), (show 7527 + 6 * j + 6 + 0 ≤ 15749 by omega)⟩) hd hS hP (fun r6 τ1 H locs h hP hR hS => ?_)
      refine lv_istore (lv' := [(6, .int r6), (5, .int r5), (0, .ref b), (1, .ref (ad 0)), (2, .ref (ar 0)), (3, .ref qo), (4, .int x4)]) hx hb d_L_law_139 hl (by decide) rfl (fun ls hl => ?_)
      refine lv_aload_n hx hb d_L_law_141 rfl (lv_at hl 4 rfl) ?_
      refine kLL_m (va_runV (As := []) (rest := []) ⟨hx, hb, hml, hown, htg⟩ (met_R_thrown l D ar cA cB hd.2.1 τ1 H.size  _ h) (cwV 0 htg (kG (kG_V m_702 m_703 m_704 m_57 (kG_self m_705))) rfl rfl rfl (by decide +kernel) ⟨Nat.le_of_ble_eq_true rfl, Nat.le_of_ble_eq_true rfl⟩) (kLL_preV hK hR _) rfl rfl hl.1 rfl (lv_room (Nat.le_of_ble_eq_true rfl)) d_L_law_142 ⟨(show 48 + j + 1 + 0 + 0 ≤ 1077 by omega), (show 7527 + 6 * j + 6 + 0 + 0 ≤ 15749 by omega)⟩) hd hS hP (fun r7 τ2 H locs h hP hR hS => ?_)
      refine lv_iload hx hb d_L_law_145 (lv_at hl 1 rfl) ?_
      refine lv_icmp_eq (tgt := 152) hx hb d_L_law_147 (by decide) (fun cn2 => ?_) (fun cn2 => absurd h.1 cn2)
      refine lv_iload hx hb d_L_law_152 (lv_at hl 1 rfl) ?_
      refine lv_if_ne (tgt := 169) hx hb d_L_law_154 (by decide) (fun cn3 => ?_) (fun cn3 => ?_)
      · refine lv_goto (tgt := 927) hx hb d_L_law_169 (by decide) ?_
        refine W.widen (k := 48 + j + 1) (n := 7527 + 6 * j + 6) (by omega) (by omega) ?_
        exact tail h512 hjL σ1 τ2 g1 h.2.2 H locs ls hP hR hS (lv_sub hl [2, 3, 4, 5, 6] rfl)
      · have h4 := h.2.1 cn3
        refine lv_aload_n hx hb d_L_law_157 rfl (lv_at hl 5 rfl) ?_
        refine lv_iconst (v := 0) hx hb d_L_law_158 (by decide) ?_
        refine va_lald hx hb hK hP 26 2 rfl rfl kin0 d_L_law_159 ?_
        refine lv_iload hx hb d_L_law_160 (lv_at hl 0 rfl) ?_
        refine lv_i2l (v := r6.toInt64) hx hb d_L_law_162 rfl ?_
        refine W.lcmp hx hb d_L_law_163 ?_
        refine lv_if_eq (tgt := 169) hx hb d_L_law_164 (by decide) (fun cn5 => ?_) (fun cn5 => absurd ((lg_cmp_eq _ _).mpr h4) cn5)
        refine lv_goto (tgt := 927) hx hb d_L_law_169 (by decide) ?_
        refine W.widen (k := 48 + j + 1) (n := 7527 + 6 * j + 6) (by omega) (by omega) ?_
        exact tail h512 hjL σ1 τ2 g1 h.2.2 H locs ls hP hR hS (lv_sub hl [2, 3, 4, 5, 6] rfl)
    by_cases cc1 : v = 1
    · have h := hs.2.1 cc1
      refine lv_tableIn (tgt := 172) hx hb d_L_law_39 (by rw [cc1]; decide) (by rw [cc1]; decide) (by rw [cc1]; rfl) (by decide) ?_
      refine lv_aload_n hx hb d_L_law_172 rfl (lv_at hl 1 rfl) ?_
      refine lv_aload_n hx hb d_L_law_173 rfl (lv_at hl 0 rfl) ?_
      refine lv_iload hx hb d_L_law_174 (lv_at hl 4 rfl) ?_
      refine lv_iconst (v := 1) hx hb d_L_law_176 (by decide) ?_
      refine lv_iadd hx hb d_L_law_177 ?_
      refine va_sld hx hb hX hbl hbA hS hi1 d_L_law_178 ?_
      refine lv_aload_n hx hb d_L_law_179 rfl (lv_at hl 0 rfl) ?_
      refine lv_iload hx hb d_L_law_180 (lv_at hl 4 rfl) ?_
      refine lv_iconst (v := 2) hx hb d_L_law_182 (by decide) ?_
      refine lv_iadd hx hb d_L_law_183 ?_
      refine va_sld hx hb hX hbl hbA hS hi2 d_L_law_184 ?_
      refine lv_aload_n hx hb d_L_law_185 rfl (lv_at hl 3 rfl) ?_
      refine kLL_w (vx_runSW (As := [.ref (ad 0), .int (xs (x4 + 1).toNatClampNeg), .int (xs (x4 + 2).toNatClampNeg), .ref qo]) (rest := []) ⟨hx, hb, hml, hown, htg⟩ (met_L_same l hl0 D ad cA cB cL hd.1 σ qo hd.2.2.2.1 g H.size ((xs (x4 + 1).toNatClampNeg)) ((xs (x4 + 2).toNatClampNeg)) _ h) (vx_cwSW 4 htg (kG (kG_SW m_342 m_343 m_52 (kG_self m_344))) rfl rfl rfl (by decide +kernel) ⟨Nat.le_of_ble_eq_true rfl, Nat.le_of_ble_eq_true rfl⟩) (kLL_pre hK hF hN hd hP hS _) rfl rfl hl.1 rfl (lv_room (Nat.le_of_ble_eq_true rfl)) d_L_law_186 ⟨(show 48 + j + 1 ≤ 1077 by omega), (show 7527 + 6 * j + 6 ≤ 15749 by omega)⟩) hd hS hR (fun r5 σ1 g1 H locs h hP hR hS => ?_)
      refine lv_istore (lv' := [(5, .int r5), (0, .ref b), (1, .ref (ad 0)), (2, .ref (ar 0)), (3, .ref qo), (4, .int x4)]) hx hb d_L_law_189 hl (by decide) rfl (fun ls hl => ?_)
      refine lv_aload_n hx hb d_L_law_191 rfl (lv_at hl 3 rfl) ?_
      refine lv_aload_n hx hb d_L_law_192 rfl (lv_at hl 1 rfl) ?_
      refine lv_iload hx hb d_L_law_193 (lv_at hl 5 rfl) ?_
      refine lv_iconst (v := 1) hx hb d_L_law_195 (by decide) ?_
      refine lv_iadd hx hb d_L_law_196 ?_
      refine va_sld hx hb hX hbl hbA hS hi1 d_L_law_197 ?_
      refine lv_aload_n hx hb d_L_law_198 rfl (lv_at hl 1 rfl) ?_
      refine lv_iload hx hb d_L_law_199 (lv_at hl 5 rfl) ?_
      refine lv_iconst (v := 2) hx hb d_L_law_201 (by decide) ?_
      refine lv_iadd hx hb d_L_law_202 ?_
      refine va_sld hx hb hX hbl hbA hS hi2 d_L_law_203 ?_
      refine kLL_m (va_runV (As := [.int (xs (x4 + 1).toNatClampNeg), .int (xs (x4 + 2).toNatClampNeg)]) (rest := []) ⟨hx, hb, hml, hown, htg⟩ (met_R_same l D ar cA cB hd.2.1 τ H.size ((xs (x4 + 1).toNatClampNeg)) ((xs (x4 + 2).toNatClampNeg)) _ h) (cwV 2 htg (kG (kG_V m_736 m_737 m_738 m_57 (kG_self m_739))) rfl rfl rfl (by decide +kernel) ⟨Nat.le_of_ble_eq_true rfl, Nat.le_of_ble_eq_true rfl⟩) (kLL_preV hK hR _) rfl rfl hl.1 rfl (lv_room (Nat.le_of_ble_eq_true rfl)) d_L_law_204 ⟨(show 48 + j + 1 + 0 ≤ 1077 by omega), (show 7527 + 6 * j + 6 + 0 ≤ 15749 by omega)⟩) hd hS hP (fun r6 τ1 H locs h hP hR hS => ?_)
      refine lv_istore (lv' := [(6, .int r6), (5, .int r5), (0, .ref b), (1, .ref (ad 0)), (2, .ref (ar 0)), (3, .ref qo), (4, .int x4)]) hx hb d_L_law_207 hl (by decide) rfl (fun ls hl => ?_)
      refine lv_aload_n hx hb d_L_law_209 rfl (lv_at hl 4 rfl) ?_
      refine kLL_m (va_runV (As := []) (rest := []) ⟨hx, hb, hml, hown, htg⟩ (met_R_thrown l D ar cA cB hd.2.1 τ1 H.size  _ h) (cwV 0 htg (kG (kG_V m_702 m_703 m_704 m_57 (kG_self m_705))) rfl rfl rfl (by decide +kernel) ⟨Nat.le_of_ble_eq_true rfl, Nat.le_of_ble_eq_true rfl⟩) (kLL_preV hK hR _) rfl rfl hl.1 rfl (lv_room (Nat.le_of_ble_eq_true rfl)) d_L_law_210 ⟨(show 48 + j + 1 + 0 + 0 ≤ 1077 by omega), (show 7527 + 6 * j + 6 + 0 + 0 ≤ 15749 by omega)⟩) hd hS hP (fun r7 τ2 H locs h hP hR hS => ?_)
      refine lv_iload hx hb d_L_law_213 (lv_at hl 1 rfl) ?_
      refine lv_icmp_eq (tgt := 220) hx hb d_L_law_215 (by decide) (fun cn2 => ?_) (fun cn2 => absurd h.1 cn2)
      refine lv_iload hx hb d_L_law_220 (lv_at hl 1 rfl) ?_
      refine lv_if_ne (tgt := 237) hx hb d_L_law_222 (by decide) (fun cn3 => ?_) (fun cn3 => ?_)
      · refine lv_goto (tgt := 927) hx hb d_L_law_237 (by decide) ?_
        refine W.widen (k := 48 + j + 1) (n := 7527 + 6 * j + 6) (by omega) (by omega) ?_
        exact tail h512 hjL σ1 τ2 g1 h.2.2 H locs ls hP hR hS (lv_sub hl [2, 3, 4, 5, 6] rfl)
      · have h4 := h.2.1 cn3
        refine lv_aload_n hx hb d_L_law_225 rfl (lv_at hl 5 rfl) ?_
        refine lv_iconst (v := 0) hx hb d_L_law_226 (by decide) ?_
        refine va_lald hx hb hK hP 26 2 rfl rfl kin0 d_L_law_227 ?_
        refine lv_iload hx hb d_L_law_228 (lv_at hl 0 rfl) ?_
        refine lv_i2l (v := r6.toInt64) hx hb d_L_law_230 rfl ?_
        refine W.lcmp hx hb d_L_law_231 ?_
        refine lv_if_eq (tgt := 237) hx hb d_L_law_232 (by decide) (fun cn5 => ?_) (fun cn5 => absurd ((lg_cmp_eq _ _).mpr h4) cn5)
        refine lv_goto (tgt := 927) hx hb d_L_law_237 (by decide) ?_
        refine W.widen (k := 48 + j + 1) (n := 7527 + 6 * j + 6) (by omega) (by omega) ?_
        exact tail h512 hjL σ1 τ2 g1 h.2.2 H locs ls hP hR hS (lv_sub hl [2, 3, 4, 5, 6] rfl)
    by_cases cc2 : v = 2
    · have h := hs.2.2.1 cc2
      refine lv_tableIn (tgt := 240) hx hb d_L_law_39 (by rw [cc2]; decide) (by rw [cc2]; decide) (by rw [cc2]; rfl) (by decide) ?_
      refine lv_aload_n hx hb d_L_law_240 rfl (lv_at hl 1 rfl) ?_
      refine lv_aload_n hx hb d_L_law_241 rfl (lv_at hl 0 rfl) ?_
      refine lv_iload hx hb d_L_law_242 (lv_at hl 4 rfl) ?_
      refine lv_iconst (v := 1) hx hb d_L_law_244 (by decide) ?_
      refine lv_iadd hx hb d_L_law_245 ?_
      refine va_sld hx hb hX hbl hbA hS hi1 d_L_law_246 ?_
      refine lv_aload_n hx hb d_L_law_247 rfl (lv_at hl 0 rfl) ?_
      refine lv_iload hx hb d_L_law_248 (lv_at hl 4 rfl) ?_
      refine lv_iconst (v := 2) hx hb d_L_law_250 (by decide) ?_
      refine lv_iadd hx hb d_L_law_251 ?_
      refine va_sld hx hb hX hbl hbA hS hi2 d_L_law_252 ?_
      refine lv_aload_n hx hb d_L_law_253 rfl (lv_at hl 3 rfl) ?_
      refine kLL_w (vx_runSW (As := [.ref (ad 0), .int (xs (x4 + 1).toNatClampNeg), .int (xs (x4 + 2).toNatClampNeg), .ref qo]) (rest := []) ⟨hx, hb, hml, hown, htg⟩ (met_L_phase l hl0 D ad cA cB cL hd.1 σ qo hd.2.2.2.1 g H.size ((xs (x4 + 1).toNatClampNeg)) ((xs (x4 + 2).toNatClampNeg)) _ h) (vx_cwSW 4 htg (kG (kG_SW m_363 m_364 m_52 (kG_self m_365))) rfl rfl rfl (by decide +kernel) ⟨Nat.le_of_ble_eq_true rfl, Nat.le_of_ble_eq_true rfl⟩) (kLL_pre hK hF hN hd hP hS _) rfl rfl hl.1 rfl (lv_room (Nat.le_of_ble_eq_true rfl)) d_L_law_254 ⟨(show 48 + j + 1 ≤ 1077 by omega), (show 7527 + 6 * j + 6 ≤ 15749 by omega)⟩) hd hS hR (fun r5 σ1 g1 H locs h hP hR hS => ?_)
      refine lv_istore (lv' := [(5, .int r5), (0, .ref b), (1, .ref (ad 0)), (2, .ref (ar 0)), (3, .ref qo), (4, .int x4)]) hx hb d_L_law_257 hl (by decide) rfl (fun ls hl => ?_)
      refine lv_aload_n hx hb d_L_law_259 rfl (lv_at hl 3 rfl) ?_
      refine lv_aload_n hx hb d_L_law_260 rfl (lv_at hl 1 rfl) ?_
      refine lv_iload hx hb d_L_law_261 (lv_at hl 5 rfl) ?_
      refine lv_iconst (v := 1) hx hb d_L_law_263 (by decide) ?_
      refine lv_iadd hx hb d_L_law_264 ?_
      refine va_sld hx hb hX hbl hbA hS hi1 d_L_law_265 ?_
      refine lv_aload_n hx hb d_L_law_266 rfl (lv_at hl 1 rfl) ?_
      refine lv_iload hx hb d_L_law_267 (lv_at hl 5 rfl) ?_
      refine lv_iconst (v := 2) hx hb d_L_law_269 (by decide) ?_
      refine lv_iadd hx hb d_L_law_270 ?_
      refine va_sld hx hb hX hbl hbA hS hi2 d_L_law_271 ?_
      refine kLL_m (va_runV (As := [.int (xs (x4 + 1).toNatClampNeg), .int (xs (x4 + 2).toNatClampNeg)]) (rest := []) ⟨hx, hb, hml, hown, htg⟩ (met_R_phase l D ar cA cB hd.2.1 τ H.size ((xs (x4 + 1).toNatClampNeg)) ((xs (x4 + 2).toNatClampNeg)) _ h) (cwV 2 htg (kG (kG_V m_740 m_741 m_742 m_57 (kG_self m_743))) rfl rfl rfl (by decide +kernel) ⟨Nat.le_of_ble_eq_true rfl, Nat.le_of_ble_eq_true rfl⟩) (kLL_preV hK hR _) rfl rfl hl.1 rfl (lv_room (Nat.le_of_ble_eq_true rfl)) d_L_law_272 ⟨(show 48 + j + 1 + 0 ≤ 1077 by omega), (show 7527 + 6 * j + 6 + 0 ≤ 15749 by omega)⟩) hd hS hP (fun r6 τ1 H locs h hP hR hS => ?_)
      refine lv_istore (lv' := [(6, .int r6), (5, .int r5), (0, .ref b), (1, .ref (ad 0)), (2, .ref (ar 0)), (3, .ref qo), (4, .int x4)]) hx hb d_L_law_275 hl (by decide) rfl (fun ls hl => ?_)
      refine lv_aload_n hx hb d_L_law_277 rfl (lv_at hl 4 rfl) ?_
      refine kLL_m (va_runV (As := []) (rest := []) ⟨hx, hb, hml, hown, htg⟩ (met_R_thrown l D ar cA cB hd.2.1 τ1 H.size  _ h) (cwV 0 htg (kG (kG_V m_702 m_703 m_704 m_57 (kG_self m_705))) rfl rfl rfl (by decide +kernel) ⟨Nat.le_of_ble_eq_true rfl, Nat.le_of_ble_eq_true rfl⟩) (kLL_preV hK hR _) rfl rfl hl.1 rfl (lv_room (Nat.le_of_ble_eq_true rfl)) d_L_law_278 ⟨(show 48 + j + 1 + 0 + 0 ≤ 1077 by omega), (show 7527 + 6 * j + 6 + 0 + 0 ≤ 15749 by omega)⟩) hd hS hP (fun r7 τ2 H locs h hP hR hS => ?_)
      refine lv_iload hx hb d_L_law_281 (lv_at hl 1 rfl) ?_
      refine lv_icmp_eq (tgt := 288) hx hb d_L_law_283 (by decide) (fun cn2 => ?_) (fun cn2 => absurd h.1 cn2)
      refine lv_iload hx hb d_L_law_288 (lv_at hl 1 rfl) ?_
      refine lv_if_ne (tgt := 305) hx hb d_L_law_290 (by decide) (fun cn3 => ?_) (fun cn3 => ?_)
      · refine lv_goto (tgt := 927) hx hb d_L_law_305 (by decide) ?_
        refine W.widen (k := 48 + j + 1) (n := 7527 + 6 * j + 6) (by omega) (by omega) ?_
        exact tail h512 hjL σ1 τ2 g1 h.2.2 H locs ls hP hR hS (lv_sub hl [2, 3, 4, 5, 6] rfl)
      · have h4 := h.2.1 cn3
        refine lv_aload_n hx hb d_L_law_293 rfl (lv_at hl 5 rfl) ?_
        refine lv_iconst (v := 0) hx hb d_L_law_294 (by decide) ?_
        refine va_lald hx hb hK hP 26 2 rfl rfl kin0 d_L_law_295 ?_
        refine lv_iload hx hb d_L_law_296 (lv_at hl 0 rfl) ?_
        refine lv_i2l (v := r6.toInt64) hx hb d_L_law_298 rfl ?_
        refine W.lcmp hx hb d_L_law_299 ?_
        refine lv_if_eq (tgt := 305) hx hb d_L_law_300 (by decide) (fun cn5 => ?_) (fun cn5 => absurd ((lg_cmp_eq _ _).mpr h4) cn5)
        refine lv_goto (tgt := 927) hx hb d_L_law_305 (by decide) ?_
        refine W.widen (k := 48 + j + 1) (n := 7527 + 6 * j + 6) (by omega) (by omega) ?_
        exact tail h512 hjL σ1 τ2 g1 h.2.2 H locs ls hP hR hS (lv_sub hl [2, 3, 4, 5, 6] rfl)
    by_cases cc3 : v = 3
    · have h := hs.2.2.2.1 cc3
      refine lv_tableIn (tgt := 308) hx hb d_L_law_39 (by rw [cc3]; decide) (by rw [cc3]; decide) (by rw [cc3]; rfl) (by decide) ?_
      refine lv_aload_n hx hb d_L_law_308 rfl (lv_at hl 1 rfl) ?_
      refine lv_aload_n hx hb d_L_law_309 rfl (lv_at hl 0 rfl) ?_
      refine lv_iload hx hb d_L_law_310 (lv_at hl 4 rfl) ?_
      refine lv_iconst (v := 1) hx hb d_L_law_312 (by decide) ?_
      refine lv_iadd hx hb d_L_law_313 ?_
      refine va_sld hx hb hX hbl hbA hS hi1 d_L_law_314 ?_
      refine lv_aload_n hx hb d_L_law_315 rfl (lv_at hl 0 rfl) ?_
      refine lv_iload hx hb d_L_law_316 (lv_at hl 4 rfl) ?_
      refine lv_iconst (v := 2) hx hb d_L_law_318 (by decide) ?_
      refine lv_iadd hx hb d_L_law_319 ?_
      refine va_sld hx hb hX hbl hbA hS hi2 d_L_law_320 ?_
      refine lv_if_eq (tgt := 328) hx hb d_L_law_321 (by decide) (fun cz => ?_) (fun cz => ?_)
      · rw [if_pos cz] at h
        refine lv_iconst (v := 0) hx hb d_L_law_328 (by decide) ?_
        refine lv_aload_n hx hb d_L_law_329 rfl (lv_at hl 3 rfl) ?_
        refine kLL_w (vx_runSW (As := [.ref (ad 0), .int (xs (x4 + 1).toNatClampNeg), .int 0, .ref qo]) (rest := []) ⟨hx, hb, hml, hown, htg⟩ (met_L_hide l hl0 D ad cA cB cL hd.1 σ qo hd.2.2.2.1 g H.size (xs (x4 + 1).toNatClampNeg) 0 _ h) (vx_cwSW 4 htg (kG (kG_SW m_391 m_392 m_52 (kG_self m_393))) rfl rfl rfl (by decide +kernel) ⟨Nat.le_of_ble_eq_true rfl, Nat.le_of_ble_eq_true rfl⟩) (kLL_pre hK hF hN hd hP hS _) rfl rfl hl.1 rfl (lv_room (Nat.le_of_ble_eq_true rfl)) d_L_law_330 ⟨(show 48 + j + 1 ≤ 1077 by omega), (show 7527 + 6 * j + 6 ≤ 15749 by omega)⟩) hd hS hR (fun r5 σ1 g1 H locs h hP hR hS => ?_)
        refine lv_istore (lv' := [(5, .int r5), (0, .ref b), (1, .ref (ad 0)), (2, .ref (ar 0)), (3, .ref qo), (4, .int x4)]) hx hb d_L_law_333 hl (by decide) rfl (fun ls hl => ?_)
        refine lv_aload_n hx hb d_L_law_335 rfl (lv_at hl 3 rfl) ?_
        refine lv_aload_n hx hb d_L_law_336 rfl (lv_at hl 1 rfl) ?_
        refine lv_iload hx hb d_L_law_337 (lv_at hl 5 rfl) ?_
        refine lv_iconst (v := 1) hx hb d_L_law_339 (by decide) ?_
        refine lv_iadd hx hb d_L_law_340 ?_
        refine va_sld hx hb hX hbl hbA hS hi1 d_L_law_341 ?_
        refine lv_aload_n hx hb d_L_law_342 rfl (lv_at hl 1 rfl) ?_
        refine lv_iload hx hb d_L_law_343 (lv_at hl 5 rfl) ?_
        refine lv_iconst (v := 2) hx hb d_L_law_345 (by decide) ?_
        refine lv_iadd hx hb d_L_law_346 ?_
        refine va_sld hx hb hX hbl hbA hS hi2 d_L_law_347 ?_
        refine lv_if_eq (tgt := 355) hx hb d_L_law_348 (by decide) (fun _ => ?_) (fun cy => absurd cz cy)
        refine lv_iconst (v := 0) hx hb d_L_law_355 (by decide) ?_
        refine kLL_m (va_runV (As := [.int (xs (x4 + 1).toNatClampNeg), .int 0]) (rest := []) ⟨hx, hb, hml, hown, htg⟩ (met_R_hide l D ar cA cB hd.2.1 τ H.size (xs (x4 + 1).toNatClampNeg) 0 _ h) (cwV 2 htg (kG (kG_V m_744 m_745 m_746 m_57 (kG_self m_747))) rfl rfl rfl (by decide +kernel) ⟨Nat.le_of_ble_eq_true rfl, Nat.le_of_ble_eq_true rfl⟩) (kLL_preV hK hR _) rfl rfl hl.1 rfl (lv_room (Nat.le_of_ble_eq_true rfl)) d_L_law_356 ⟨(show 48 + j + 1 + 0 ≤ 1077 by omega), (show 7527 + 6 * j + 6 + 0 ≤ 15749 by omega)⟩) hd hS hP (fun r6 τ1 H locs h hP hR hS => ?_)
        refine lv_istore (lv' := [(6, .int r6), (5, .int r5), (0, .ref b), (1, .ref (ad 0)), (2, .ref (ar 0)), (3, .ref qo), (4, .int x4)]) hx hb d_L_law_359 hl (by decide) rfl (fun ls hl => ?_)
        refine lv_aload_n hx hb d_L_law_361 rfl (lv_at hl 4 rfl) ?_
        refine kLL_m (va_runV (As := []) (rest := []) ⟨hx, hb, hml, hown, htg⟩ (met_R_thrown l D ar cA cB hd.2.1 τ1 H.size  _ h) (cwV 0 htg (kG (kG_V m_702 m_703 m_704 m_57 (kG_self m_705))) rfl rfl rfl (by decide +kernel) ⟨Nat.le_of_ble_eq_true rfl, Nat.le_of_ble_eq_true rfl⟩) (kLL_preV hK hR _) rfl rfl hl.1 rfl (lv_room (Nat.le_of_ble_eq_true rfl)) d_L_law_362 ⟨(show 48 + j + 1 + 0 + 0 ≤ 1077 by omega), (show 7527 + 6 * j + 6 + 0 + 0 ≤ 15749 by omega)⟩) hd hS hP (fun r7 τ2 H locs h hP hR hS => ?_)
        refine lv_iload hx hb d_L_law_365 (lv_at hl 1 rfl) ?_
        refine lv_icmp_eq (tgt := 372) hx hb d_L_law_367 (by decide) (fun cn2 => ?_) (fun cn2 => absurd h.1 cn2)
        refine lv_iload hx hb d_L_law_372 (lv_at hl 1 rfl) ?_
        refine lv_if_ne (tgt := 396) hx hb d_L_law_374 (by decide) (fun cn3 => ?_) (fun cn3 => ?_)
        · refine lv_goto (tgt := 927) hx hb d_L_law_396 (by decide) ?_
          refine W.widen (k := 48 + j + 1) (n := 7527 + 6 * j + 6) (by omega) (by omega) ?_
          exact tail h512 hjL σ1 τ2 g1 h.2.2 H locs ls hP hR hS (lv_sub hl [2, 3, 4, 5, 6] rfl)
        · have h4 := h.2.1 cn3
          refine lv_aload_n hx hb d_L_law_377 rfl (lv_at hl 5 rfl) ?_
          refine lv_iconst (v := 0) hx hb d_L_law_378 (by decide) ?_
          refine va_lald hx hb hK hP 26 2 rfl rfl kin0 d_L_law_379 ?_
          refine lv_iload hx hb d_L_law_380 (lv_at hl 0 rfl) ?_
          refine lv_if_eq (tgt := 389) hx hb d_L_law_382 (by decide) (fun cn6 => ?_) (fun cn6 => ?_)
          · rw [if_pos cn6] at h4
            refine lv_lconst (v := 0) hx hb d_L_law_389 rfl ?_
            refine W.lcmp hx hb d_L_law_390 ?_
            refine lv_if_eq (tgt := 396) hx hb d_L_law_391 (by decide) (fun cn5 => ?_) (fun cn5 => absurd ((lg_cmp_eq _ _).mpr h4) cn5)
            refine lv_goto (tgt := 927) hx hb d_L_law_396 (by decide) ?_
            refine W.widen (k := 48 + j + 1) (n := 7527 + 6 * j + 6) (by omega) (by omega) ?_
            exact tail h512 hjL σ1 τ2 g1 h.2.2 H locs ls hP hR hS (lv_sub hl [2, 3, 4, 5, 6] rfl)
          · rw [if_neg cn6] at h4
            refine lv_lconst (v := 1) hx hb d_L_law_385 rfl ?_
            refine lv_goto (tgt := 390) hx hb d_L_law_386 (by decide) ?_
            refine W.lcmp hx hb d_L_law_390 ?_
            refine lv_if_eq (tgt := 396) hx hb d_L_law_391 (by decide) (fun cn5 => ?_) (fun cn5 => absurd ((lg_cmp_eq _ _).mpr h4) cn5)
            refine lv_goto (tgt := 927) hx hb d_L_law_396 (by decide) ?_
            refine W.widen (k := 48 + j + 1) (n := 7527 + 6 * j + 6) (by omega) (by omega) ?_
            exact tail h512 hjL σ1 τ2 g1 h.2.2 H locs ls hP hR hS (lv_sub hl [2, 3, 4, 5, 6] rfl)
      · rw [if_neg cz] at h
        refine lv_iconst (v := 1) hx hb d_L_law_324 (by decide) ?_
        refine lv_goto (tgt := 329) hx hb d_L_law_325 (by decide) ?_
        refine lv_aload_n hx hb d_L_law_329 rfl (lv_at hl 3 rfl) ?_
        refine kLL_w (vx_runSW (As := [.ref (ad 0), .int (xs (x4 + 1).toNatClampNeg), .int 1, .ref qo]) (rest := []) ⟨hx, hb, hml, hown, htg⟩ (met_L_hide l hl0 D ad cA cB cL hd.1 σ qo hd.2.2.2.1 g H.size (xs (x4 + 1).toNatClampNeg) 1 _ h) (vx_cwSW 4 htg (kG (kG_SW m_391 m_392 m_52 (kG_self m_393))) rfl rfl rfl (by decide +kernel) ⟨Nat.le_of_ble_eq_true rfl, Nat.le_of_ble_eq_true rfl⟩) (kLL_pre hK hF hN hd hP hS _) rfl rfl hl.1 rfl (lv_room (Nat.le_of_ble_eq_true rfl)) d_L_law_330 ⟨(show 48 + j + 1 ≤ 1077 by omega), (show 7527 + 6 * j + 6 ≤ 15749 by omega)⟩) hd hS hR (fun r5 σ1 g1 H locs h hP hR hS => ?_)
        refine lv_istore (lv' := [(5, .int r5), (0, .ref b), (1, .ref (ad 0)), (2, .ref (ar 0)), (3, .ref qo), (4, .int x4)]) hx hb d_L_law_333 hl (by decide) rfl (fun ls hl => ?_)
        refine lv_aload_n hx hb d_L_law_335 rfl (lv_at hl 3 rfl) ?_
        refine lv_aload_n hx hb d_L_law_336 rfl (lv_at hl 1 rfl) ?_
        refine lv_iload hx hb d_L_law_337 (lv_at hl 5 rfl) ?_
        refine lv_iconst (v := 1) hx hb d_L_law_339 (by decide) ?_
        refine lv_iadd hx hb d_L_law_340 ?_
        refine va_sld hx hb hX hbl hbA hS hi1 d_L_law_341 ?_
        refine lv_aload_n hx hb d_L_law_342 rfl (lv_at hl 1 rfl) ?_
        refine lv_iload hx hb d_L_law_343 (lv_at hl 5 rfl) ?_
        refine lv_iconst (v := 2) hx hb d_L_law_345 (by decide) ?_
        refine lv_iadd hx hb d_L_law_346 ?_
        refine va_sld hx hb hX hbl hbA hS hi2 d_L_law_347 ?_
        refine lv_if_eq (tgt := 355) hx hb d_L_law_348 (by decide) (fun cy => absurd cy cz) (fun _ => ?_)
        refine lv_iconst (v := 1) hx hb d_L_law_351 (by decide) ?_
        refine lv_goto (tgt := 356) hx hb d_L_law_352 (by decide) ?_
        refine kLL_m (va_runV (As := [.int (xs (x4 + 1).toNatClampNeg), .int 1]) (rest := []) ⟨hx, hb, hml, hown, htg⟩ (met_R_hide l D ar cA cB hd.2.1 τ H.size (xs (x4 + 1).toNatClampNeg) 1 _ h) (cwV 2 htg (kG (kG_V m_744 m_745 m_746 m_57 (kG_self m_747))) rfl rfl rfl (by decide +kernel) ⟨Nat.le_of_ble_eq_true rfl, Nat.le_of_ble_eq_true rfl⟩) (kLL_preV hK hR _) rfl rfl hl.1 rfl (lv_room (Nat.le_of_ble_eq_true rfl)) d_L_law_356 ⟨(show 48 + j + 1 + 0 ≤ 1077 by omega), (show 7527 + 6 * j + 6 + 0 ≤ 15749 by omega)⟩) hd hS hP (fun r6 τ1 H locs h hP hR hS => ?_)
        refine lv_istore (lv' := [(6, .int r6), (5, .int r5), (0, .ref b), (1, .ref (ad 0)), (2, .ref (ar 0)), (3, .ref qo), (4, .int x4)]) hx hb d_L_law_359 hl (by decide) rfl (fun ls hl => ?_)
        refine lv_aload_n hx hb d_L_law_361 rfl (lv_at hl 4 rfl) ?_
        refine kLL_m (va_runV (As := []) (rest := []) ⟨hx, hb, hml, hown, htg⟩ (met_R_thrown l D ar cA cB hd.2.1 τ1 H.size  _ h) (cwV 0 htg (kG (kG_V m_702 m_703 m_704 m_57 (kG_self m_705))) rfl rfl rfl (by decide +kernel) ⟨Nat.le_of_ble_eq_true rfl, Nat.le_of_ble_eq_true rfl⟩) (kLL_preV hK hR _) rfl rfl hl.1 rfl (lv_room (Nat.le_of_ble_eq_true rfl)) d_L_law_362 ⟨(show 48 + j + 1 + 0 + 0 ≤ 1077 by omega), (show 7527 + 6 * j + 6 + 0 + 0 ≤ 15749 by omega)⟩) hd hS hP (fun r7 τ2 H locs h hP hR hS => ?_)
        refine lv_iload hx hb d_L_law_365 (lv_at hl 1 rfl) ?_
        refine lv_icmp_eq (tgt := 372) hx hb d_L_law_367 (by decide) (fun cn2 => ?_) (fun cn2 => absurd h.1 cn2)
        refine lv_iload hx hb d_L_law_372 (lv_at hl 1 rfl) ?_
        refine lv_if_ne (tgt := 396) hx hb d_L_law_374 (by decide) (fun cn3 => ?_) (fun cn3 => ?_)
        · refine lv_goto (tgt := 927) hx hb d_L_law_396 (by decide) ?_
          refine W.widen (k := 48 + j + 1) (n := 7527 + 6 * j + 6) (by omega) (by omega) ?_
          exact tail h512 hjL σ1 τ2 g1 h.2.2 H locs ls hP hR hS (lv_sub hl [2, 3, 4, 5, 6] rfl)
        · have h4 := h.2.1 cn3
          refine lv_aload_n hx hb d_L_law_377 rfl (lv_at hl 5 rfl) ?_
          refine lv_iconst (v := 0) hx hb d_L_law_378 (by decide) ?_
          refine va_lald hx hb hK hP 26 2 rfl rfl kin0 d_L_law_379 ?_
          refine lv_iload hx hb d_L_law_380 (lv_at hl 0 rfl) ?_
          refine lv_if_eq (tgt := 389) hx hb d_L_law_382 (by decide) (fun cn6 => ?_) (fun cn6 => ?_)
          · rw [if_pos cn6] at h4
            refine lv_lconst (v := 0) hx hb d_L_law_389 rfl ?_
            refine W.lcmp hx hb d_L_law_390 ?_
            refine lv_if_eq (tgt := 396) hx hb d_L_law_391 (by decide) (fun cn5 => ?_) (fun cn5 => absurd ((lg_cmp_eq _ _).mpr h4) cn5)
            refine lv_goto (tgt := 927) hx hb d_L_law_396 (by decide) ?_
            refine W.widen (k := 48 + j + 1) (n := 7527 + 6 * j + 6) (by omega) (by omega) ?_
            exact tail h512 hjL σ1 τ2 g1 h.2.2 H locs ls hP hR hS (lv_sub hl [2, 3, 4, 5, 6] rfl)
          · rw [if_neg cn6] at h4
            refine lv_lconst (v := 1) hx hb d_L_law_385 rfl ?_
            refine lv_goto (tgt := 390) hx hb d_L_law_386 (by decide) ?_
            refine W.lcmp hx hb d_L_law_390 ?_
            refine lv_if_eq (tgt := 396) hx hb d_L_law_391 (by decide) (fun cn5 => ?_) (fun cn5 => absurd ((lg_cmp_eq _ _).mpr h4) cn5)
            refine lv_goto (tgt := 927) hx hb d_L_law_396 (by decide) ?_
            refine W.widen (k := 48 + j + 1) (n := 7527 + 6 * j + 6) (by omega) (by omega) ?_
            exact tail h512 hjL σ1 τ2 g1 h.2.2 H locs ls hP hR hS (lv_sub hl [2, 3, 4, 5, 6] rfl)
    by_cases cc4 : v = 4
    · have h := hs.2.2.2.2.1 cc4
      refine lv_tableIn (tgt := 399) hx hb d_L_law_39 (by rw [cc4]; decide) (by rw [cc4]; decide) (by rw [cc4]; rfl) (by decide) ?_
      refine lv_aload_n hx hb d_L_law_399 rfl (lv_at hl 1 rfl) ?_
      refine lv_aload_n hx hb d_L_law_400 rfl (lv_at hl 0 rfl) ?_
      refine lv_iload hx hb d_L_law_401 (lv_at hl 4 rfl) ?_
      refine lv_iconst (v := 1) hx hb d_L_law_403 (by decide) ?_
      refine lv_iadd hx hb d_L_law_404 ?_
      refine va_sld hx hb hX hbl hbA hS hi1 d_L_law_405 ?_
      refine lv_aload_n hx hb d_L_law_406 rfl (lv_at hl 3 rfl) ?_
      refine kLL_w (vx_runSW (As := [.ref (ad 0), .int (xs (x4 + 1).toNatClampNeg), .ref qo]) (rest := []) ⟨hx, hb, hml, hown, htg⟩ (met_L_group l hl0 D ad cA cB cL hd.1 σ qo hd.2.2.2.1 g H.size ((xs (x4 + 1).toNatClampNeg)) _ h) (vx_cwSW 3 htg (kG (kG_SW m_402 m_403 m_52 (kG_self m_404))) rfl rfl rfl (by decide +kernel) ⟨Nat.le_of_ble_eq_true rfl, Nat.le_of_ble_eq_true rfl⟩) (kLL_pre hK hF hN hd hP hS _) rfl rfl hl.1 rfl (lv_room (Nat.le_of_ble_eq_true rfl)) d_L_law_407 ⟨(show 48 + j + 1 ≤ 1077 by omega), (show 7527 + 6 * j + 6 ≤ 15749 by omega)⟩) hd hS hR (fun r5 σ1 g1 H locs h hP hR hS => ?_)
      refine lv_istore (lv' := [(5, .int r5), (0, .ref b), (1, .ref (ad 0)), (2, .ref (ar 0)), (3, .ref qo), (4, .int x4)]) hx hb d_L_law_410 hl (by decide) rfl (fun ls hl => ?_)
      refine lv_aload_n hx hb d_L_law_412 rfl (lv_at hl 3 rfl) ?_
      refine lv_aload_n hx hb d_L_law_413 rfl (lv_at hl 1 rfl) ?_
      refine lv_iload hx hb d_L_law_414 (lv_at hl 5 rfl) ?_
      refine lv_iconst (v := 1) hx hb d_L_law_416 (by decide) ?_
      refine lv_iadd hx hb d_L_law_417 ?_
      refine va_sld hx hb hX hbl hbA hS hi1 d_L_law_418 ?_
      refine kLL_m (va_runV (As := [.int (xs (x4 + 1).toNatClampNeg)]) (rest := []) ⟨hx, hb, hml, hown, htg⟩ (met_R_group l D ar cA cB hd.2.1 τ H.size ((xs (x4 + 1).toNatClampNeg)) _ h) (cwV 1 htg (kG (kG_V m_748 m_749 m_750 m_57 (kG_self m_751))) rfl rfl rfl (by decide +kernel) ⟨Nat.le_of_ble_eq_true rfl, Nat.le_of_ble_eq_true rfl⟩) (kLL_preV hK hR _) rfl rfl hl.1 rfl (lv_room (Nat.le_of_ble_eq_true rfl)) d_L_law_419 ⟨(show 48 + j + 1 + 0 ≤ 1077 by omega), (show 7527 + 6 * j + 6 + 0 ≤ 15749 by omega)⟩) hd hS hP (fun r6 τ1 H locs h hP hR hS => ?_)
      refine lv_istore (lv' := [(6, .int r6), (5, .int r5), (0, .ref b), (1, .ref (ad 0)), (2, .ref (ar 0)), (3, .ref qo), (4, .int x4)]) hx hb d_L_law_422 hl (by decide) rfl (fun ls hl => ?_)
      refine lv_aload_n hx hb d_L_law_424 rfl (lv_at hl 4 rfl) ?_
      refine kLL_m (va_runV (As := []) (rest := []) ⟨hx, hb, hml, hown, htg⟩ (met_R_thrown l D ar cA cB hd.2.1 τ1 H.size  _ h) (cwV 0 htg (kG (kG_V m_702 m_703 m_704 m_57 (kG_self m_705))) rfl rfl rfl (by decide +kernel) ⟨Nat.le_of_ble_eq_true rfl, Nat.le_of_ble_eq_true rfl⟩) (kLL_preV hK hR _) rfl rfl hl.1 rfl (lv_room (Nat.le_of_ble_eq_true rfl)) d_L_law_425 ⟨(show 48 + j + 1 + 0 + 0 ≤ 1077 by omega), (show 7527 + 6 * j + 6 + 0 + 0 ≤ 15749 by omega)⟩) hd hS hP (fun r7 τ2 H locs h hP hR hS => ?_)
      refine lv_iload hx hb d_L_law_428 (lv_at hl 1 rfl) ?_
      refine lv_icmp_eq (tgt := 435) hx hb d_L_law_430 (by decide) (fun cn2 => ?_) (fun cn2 => absurd h.1 cn2)
      refine lv_iload hx hb d_L_law_435 (lv_at hl 1 rfl) ?_
      refine lv_if_ne (tgt := 452) hx hb d_L_law_437 (by decide) (fun cn3 => ?_) (fun cn3 => ?_)
      · refine lv_goto (tgt := 927) hx hb d_L_law_452 (by decide) ?_
        refine W.widen (k := 48 + j + 1) (n := 7527 + 6 * j + 6) (by omega) (by omega) ?_
        exact tail h512 hjL σ1 τ2 g1 h.2.2 H locs ls hP hR hS (lv_sub hl [2, 3, 4, 5, 6] rfl)
      · have h4 := h.2.1 cn3
        refine lv_aload_n hx hb d_L_law_440 rfl (lv_at hl 5 rfl) ?_
        refine lv_iconst (v := 0) hx hb d_L_law_441 (by decide) ?_
        refine va_lald hx hb hK hP 26 2 rfl rfl kin0 d_L_law_442 ?_
        refine lv_iload hx hb d_L_law_443 (lv_at hl 0 rfl) ?_
        refine lv_i2l (v := r6.toInt64) hx hb d_L_law_445 rfl ?_
        refine W.lcmp hx hb d_L_law_446 ?_
        refine lv_if_eq (tgt := 452) hx hb d_L_law_447 (by decide) (fun cn5 => ?_) (fun cn5 => absurd ((lg_cmp_eq _ _).mpr h4) cn5)
        refine lv_goto (tgt := 927) hx hb d_L_law_452 (by decide) ?_
        refine W.widen (k := 48 + j + 1) (n := 7527 + 6 * j + 6) (by omega) (by omega) ?_
        exact tail h512 hjL σ1 τ2 g1 h.2.2 H locs ls hP hR hS (lv_sub hl [2, 3, 4, 5, 6] rfl)
    by_cases cc5 : v = 5
    · have h := hs.2.2.2.2.2.1 cc5
      refine lv_tableIn (tgt := 455) hx hb d_L_law_39 (by rw [cc5]; decide) (by rw [cc5]; decide) (by rw [cc5]; rfl) (by decide) ?_
      refine lv_aload_n hx hb d_L_law_455 rfl (lv_at hl 1 rfl) ?_
      refine lv_aload_n hx hb d_L_law_456 rfl (lv_at hl 0 rfl) ?_
      refine lv_iload hx hb d_L_law_457 (lv_at hl 4 rfl) ?_
      refine lv_iconst (v := 1) hx hb d_L_law_459 (by decide) ?_
      refine lv_iadd hx hb d_L_law_460 ?_
      refine va_sld hx hb hX hbl hbA hS hi1 d_L_law_461 ?_
      refine lv_aload_n hx hb d_L_law_462 rfl (lv_at hl 0 rfl) ?_
      refine lv_iload hx hb d_L_law_463 (lv_at hl 4 rfl) ?_
      refine lv_iconst (v := 2) hx hb d_L_law_465 (by decide) ?_
      refine lv_iadd hx hb d_L_law_466 ?_
      refine va_sld hx hb hX hbl hbA hS hi2 d_L_law_467 ?_
      refine lv_aload_n hx hb d_L_law_468 rfl (lv_at hl 3 rfl) ?_
      refine kLL_w (vx_runSW (As := [.ref (ad 0), .int (xs (x4 + 1).toNatClampNeg), .int (xs (x4 + 2).toNatClampNeg), .ref qo]) (rest := []) ⟨hx, hb, hml, hown, htg⟩ (met_L_misfit l hl0 D ad cA cB cL hd.1 σ qo hd.2.2.2.1 g H.size ((xs (x4 + 1).toNatClampNeg)) ((xs (x4 + 2).toNatClampNeg)) _ h) (vx_cwSW 4 htg (kG (kG_SW m_409 m_410 m_52 (kG_self m_411))) rfl rfl rfl (by decide +kernel) ⟨Nat.le_of_ble_eq_true rfl, Nat.le_of_ble_eq_true rfl⟩) (kLL_pre hK hF hN hd hP hS _) rfl rfl hl.1 rfl (lv_room (Nat.le_of_ble_eq_true rfl)) d_L_law_469 ⟨(show 48 + j + 1 ≤ 1077 by omega), (show 7527 + 6 * j + 6 ≤ 15749 by omega)⟩) hd hS hR (fun r5 σ1 g1 H locs h hP hR hS => ?_)
      refine lv_istore (lv' := [(5, .int r5), (0, .ref b), (1, .ref (ad 0)), (2, .ref (ar 0)), (3, .ref qo), (4, .int x4)]) hx hb d_L_law_472 hl (by decide) rfl (fun ls hl => ?_)
      refine lv_aload_n hx hb d_L_law_474 rfl (lv_at hl 3 rfl) ?_
      refine lv_aload_n hx hb d_L_law_475 rfl (lv_at hl 1 rfl) ?_
      refine lv_iload hx hb d_L_law_476 (lv_at hl 5 rfl) ?_
      refine lv_iconst (v := 1) hx hb d_L_law_478 (by decide) ?_
      refine lv_iadd hx hb d_L_law_479 ?_
      refine va_sld hx hb hX hbl hbA hS hi1 d_L_law_480 ?_
      refine lv_aload_n hx hb d_L_law_481 rfl (lv_at hl 1 rfl) ?_
      refine lv_iload hx hb d_L_law_482 (lv_at hl 5 rfl) ?_
      refine lv_iconst (v := 2) hx hb d_L_law_484 (by decide) ?_
      refine lv_iadd hx hb d_L_law_485 ?_
      refine va_sld hx hb hX hbl hbA hS hi2 d_L_law_486 ?_
      refine kLL_m (va_runV (As := [.int (xs (x4 + 1).toNatClampNeg), .int (xs (x4 + 2).toNatClampNeg)]) (rest := []) ⟨hx, hb, hml, hown, htg⟩ (met_R_misfit l D ar cA cB hd.2.1 τ H.size ((xs (x4 + 1).toNatClampNeg)) ((xs (x4 + 2).toNatClampNeg)) _ h) (cwV 2 htg (kG (kG_V m_752 m_753 m_754 m_57 (kG_self m_755))) rfl rfl rfl (by decide +kernel) ⟨Nat.le_of_ble_eq_true rfl, Nat.le_of_ble_eq_true rfl⟩) (kLL_preV hK hR _) rfl rfl hl.1 rfl (lv_room (Nat.le_of_ble_eq_true rfl)) d_L_law_487 ⟨(show 48 + j + 1 + 0 ≤ 1077 by omega), (show 7527 + 6 * j + 6 + 0 ≤ 15749 by omega)⟩) hd hS hP (fun r6 τ1 H locs h hP hR hS => ?_)
      refine lv_istore (lv' := [(6, .int r6), (5, .int r5), (0, .ref b), (1, .ref (ad 0)), (2, .ref (ar 0)), (3, .ref qo), (4, .int x4)]) hx hb d_L_law_490 hl (by decide) rfl (fun ls hl => ?_)
      refine lv_aload_n hx hb d_L_law_492 rfl (lv_at hl 4 rfl) ?_
      refine kLL_m (va_runV (As := []) (rest := []) ⟨hx, hb, hml, hown, htg⟩ (met_R_thrown l D ar cA cB hd.2.1 τ1 H.size  _ h) (cwV 0 htg (kG (kG_V m_702 m_703 m_704 m_57 (kG_self m_705))) rfl rfl rfl (by decide +kernel) ⟨Nat.le_of_ble_eq_true rfl, Nat.le_of_ble_eq_true rfl⟩) (kLL_preV hK hR _) rfl rfl hl.1 rfl (lv_room (Nat.le_of_ble_eq_true rfl)) d_L_law_493 ⟨(show 48 + j + 1 + 0 + 0 ≤ 1077 by omega), (show 7527 + 6 * j + 6 + 0 + 0 ≤ 15749 by omega)⟩) hd hS hP (fun r7 τ2 H locs h hP hR hS => ?_)
      refine lv_iload hx hb d_L_law_496 (lv_at hl 1 rfl) ?_
      refine lv_icmp_eq (tgt := 503) hx hb d_L_law_498 (by decide) (fun cn2 => ?_) (fun cn2 => absurd h.1 cn2)
      refine lv_iload hx hb d_L_law_503 (lv_at hl 1 rfl) ?_
      refine lv_if_ne (tgt := 520) hx hb d_L_law_505 (by decide) (fun cn3 => ?_) (fun cn3 => ?_)
      · refine lv_goto (tgt := 927) hx hb d_L_law_520 (by decide) ?_
        refine W.widen (k := 48 + j + 1) (n := 7527 + 6 * j + 6) (by omega) (by omega) ?_
        exact tail h512 hjL σ1 τ2 g1 h.2.2 H locs ls hP hR hS (lv_sub hl [2, 3, 4, 5, 6] rfl)
      · have h4 := h.2.1 cn3
        refine lv_aload_n hx hb d_L_law_508 rfl (lv_at hl 5 rfl) ?_
        refine lv_iconst (v := 0) hx hb d_L_law_509 (by decide) ?_
        refine va_lald hx hb hK hP 26 2 rfl rfl kin0 d_L_law_510 ?_
        refine lv_iload hx hb d_L_law_511 (lv_at hl 0 rfl) ?_
        refine lv_i2l (v := r6.toInt64) hx hb d_L_law_513 rfl ?_
        refine W.lcmp hx hb d_L_law_514 ?_
        refine lv_if_eq (tgt := 520) hx hb d_L_law_515 (by decide) (fun cn5 => ?_) (fun cn5 => absurd ((lg_cmp_eq _ _).mpr h4) cn5)
        refine lv_goto (tgt := 927) hx hb d_L_law_520 (by decide) ?_
        refine W.widen (k := 48 + j + 1) (n := 7527 + 6 * j + 6) (by omega) (by omega) ?_
        exact tail h512 hjL σ1 τ2 g1 h.2.2 H locs ls hP hR hS (lv_sub hl [2, 3, 4, 5, 6] rfl)
    by_cases cc6 : v = 6
    · have h := hs.2.2.2.2.2.2.1 cc6
      refine lv_tableIn (tgt := 523) hx hb d_L_law_39 (by rw [cc6]; decide) (by rw [cc6]; decide) (by rw [cc6]; rfl) (by decide) ?_
      refine lv_aload_n hx hb d_L_law_523 rfl (lv_at hl 1 rfl) ?_
      refine lv_aload_n hx hb d_L_law_524 rfl (lv_at hl 0 rfl) ?_
      refine lv_iload hx hb d_L_law_525 (lv_at hl 4 rfl) ?_
      refine lv_iconst (v := 1) hx hb d_L_law_527 (by decide) ?_
      refine lv_iadd hx hb d_L_law_528 ?_
      refine va_sld hx hb hX hbl hbA hS hi1 d_L_law_529 ?_
      refine lv_aload_n hx hb d_L_law_530 rfl (lv_at hl 3 rfl) ?_
      refine kLL_w (vx_runSW (As := [.ref (ad 0), .int (xs (x4 + 1).toNatClampNeg), .ref qo]) (rest := []) ⟨hx, hb, hml, hown, htg⟩ (met_L_draw l hl0 D ad cA cB cL hd.1 σ qo hd.2.2.2.1 g H.size ((xs (x4 + 1).toNatClampNeg)) _ h) (vx_cwSW 3 htg (kG (kG_SW m_424 m_425 m_52 (kG_self m_426))) rfl rfl rfl (by decide +kernel) ⟨Nat.le_of_ble_eq_true rfl, Nat.le_of_ble_eq_true rfl⟩) (kLL_pre hK hF hN hd hP hS _) rfl rfl hl.1 rfl (lv_room (Nat.le_of_ble_eq_true rfl)) d_L_law_531 ⟨(show 48 + j + 1 ≤ 1077 by omega), (show 7527 + 6 * j + 6 ≤ 15749 by omega)⟩) hd hS hR (fun r5 σ1 g1 H locs h hP hR hS => ?_)
      refine lv_istore (lv' := [(5, .int r5), (0, .ref b), (1, .ref (ad 0)), (2, .ref (ar 0)), (3, .ref qo), (4, .int x4)]) hx hb d_L_law_534 hl (by decide) rfl (fun ls hl => ?_)
      refine lv_aload_n hx hb d_L_law_536 rfl (lv_at hl 3 rfl) ?_
      refine lv_aload_n hx hb d_L_law_537 rfl (lv_at hl 1 rfl) ?_
      refine lv_iload hx hb d_L_law_538 (lv_at hl 5 rfl) ?_
      refine lv_iconst (v := 1) hx hb d_L_law_540 (by decide) ?_
      refine lv_iadd hx hb d_L_law_541 ?_
      refine va_sld hx hb hX hbl hbA hS hi1 d_L_law_542 ?_
      refine kLL_m (va_runV (As := [.int (xs (x4 + 1).toNatClampNeg)]) (rest := []) ⟨hx, hb, hml, hown, htg⟩ (met_R_draw l D ar cA cB hd.2.1 τ H.size ((xs (x4 + 1).toNatClampNeg)) _ h) (cwV 1 htg (kG (kG_V m_764 m_765 m_766 m_57 (kG_self m_767))) rfl rfl rfl (by decide +kernel) ⟨Nat.le_of_ble_eq_true rfl, Nat.le_of_ble_eq_true rfl⟩) (kLL_preV hK hR _) rfl rfl hl.1 rfl (lv_room (Nat.le_of_ble_eq_true rfl)) d_L_law_543 ⟨(show 48 + j + 1 + 0 ≤ 1077 by omega), (show 7527 + 6 * j + 6 + 0 ≤ 15749 by omega)⟩) hd hS hP (fun r6 τ1 H locs h hP hR hS => ?_)
      refine lv_istore (lv' := [(6, .int r6), (5, .int r5), (0, .ref b), (1, .ref (ad 0)), (2, .ref (ar 0)), (3, .ref qo), (4, .int x4)]) hx hb d_L_law_546 hl (by decide) rfl (fun ls hl => ?_)
      refine lv_aload_n hx hb d_L_law_548 rfl (lv_at hl 4 rfl) ?_
      refine kLL_m (va_runV (As := []) (rest := []) ⟨hx, hb, hml, hown, htg⟩ (met_R_thrown l D ar cA cB hd.2.1 τ1 H.size  _ h) (cwV 0 htg (kG (kG_V m_702 m_703 m_704 m_57 (kG_self m_705))) rfl rfl rfl (by decide +kernel) ⟨Nat.le_of_ble_eq_true rfl, Nat.le_of_ble_eq_true rfl⟩) (kLL_preV hK hR _) rfl rfl hl.1 rfl (lv_room (Nat.le_of_ble_eq_true rfl)) d_L_law_549 ⟨(show 48 + j + 1 + 0 + 0 ≤ 1077 by omega), (show 7527 + 6 * j + 6 + 0 + 0 ≤ 15749 by omega)⟩) hd hS hP (fun r7 τ2 H locs h hP hR hS => ?_)
      refine lv_iload hx hb d_L_law_552 (lv_at hl 1 rfl) ?_
      refine lv_icmp_eq (tgt := 559) hx hb d_L_law_554 (by decide) (fun cn2 => ?_) (fun cn2 => absurd h.1 cn2)
      refine lv_iload hx hb d_L_law_559 (lv_at hl 1 rfl) ?_
      refine lv_if_ne (tgt := 576) hx hb d_L_law_561 (by decide) (fun cn3 => ?_) (fun cn3 => ?_)
      · refine lv_goto (tgt := 927) hx hb d_L_law_576 (by decide) ?_
        refine W.widen (k := 48 + j + 1) (n := 7527 + 6 * j + 6) (by omega) (by omega) ?_
        exact tail h512 hjL σ1 τ2 g1 h.2.2 H locs ls hP hR hS (lv_sub hl [2, 3, 4, 5, 6] rfl)
      · have h4 := h.2.1 cn3
        refine lv_aload_n hx hb d_L_law_564 rfl (lv_at hl 5 rfl) ?_
        refine lv_iconst (v := 0) hx hb d_L_law_565 (by decide) ?_
        refine va_lald hx hb hK hP 26 2 rfl rfl kin0 d_L_law_566 ?_
        refine lv_iload hx hb d_L_law_567 (lv_at hl 0 rfl) ?_
        refine lv_i2l (v := r6.toInt64) hx hb d_L_law_569 rfl ?_
        refine W.lcmp hx hb d_L_law_570 ?_
        refine lv_if_eq (tgt := 576) hx hb d_L_law_571 (by decide) (fun cn5 => ?_) (fun cn5 => absurd ((lg_cmp_eq _ _).mpr h4) cn5)
        refine lv_goto (tgt := 927) hx hb d_L_law_576 (by decide) ?_
        refine W.widen (k := 48 + j + 1) (n := 7527 + 6 * j + 6) (by omega) (by omega) ?_
        exact tail h512 hjL σ1 τ2 g1 h.2.2 H locs ls hP hR hS (lv_sub hl [2, 3, 4, 5, 6] rfl)
    by_cases cc7 : v = 7
    · have h := hs.2.2.2.2.2.2.2.1 cc7
      refine lv_tableIn (tgt := 579) hx hb d_L_law_39 (by rw [cc7]; decide) (by rw [cc7]; decide) (by rw [cc7]; rfl) (by decide) ?_
      refine lv_aload_n hx hb d_L_law_579 rfl (lv_at hl 1 rfl) ?_
      refine lv_aload_n hx hb d_L_law_580 rfl (lv_at hl 0 rfl) ?_
      refine lv_iload hx hb d_L_law_581 (lv_at hl 4 rfl) ?_
      refine lv_iconst (v := 1) hx hb d_L_law_583 (by decide) ?_
      refine lv_iadd hx hb d_L_law_584 ?_
      refine va_sld hx hb hX hbl hbA hS hi1 d_L_law_585 ?_
      refine lv_aload_n hx hb d_L_law_586 rfl (lv_at hl 3 rfl) ?_
      refine kLL_w (vx_runSW (As := [.ref (ad 0), .int (xs (x4 + 1).toNatClampNeg), .ref qo]) (rest := []) ⟨hx, hb, hml, hown, htg⟩ (met_L_crossings l hl0 D ad cA cB cL hd.1 σ qo hd.2.2.2.1 g H.size ((xs (x4 + 1).toNatClampNeg)) _ h) (vx_cwSW 3 htg (kG (kG_SW m_524 m_525 m_52 (kG_self m_526))) rfl rfl rfl (by decide +kernel) ⟨Nat.le_of_ble_eq_true rfl, Nat.le_of_ble_eq_true rfl⟩) (kLL_pre hK hF hN hd hP hS _) rfl rfl hl.1 rfl (lv_room (Nat.le_of_ble_eq_true rfl)) d_L_law_587 ⟨(show 48 + j + 1 ≤ 1077 by omega), (show 7527 + 6 * j + 6 ≤ 15749 by omega)⟩) hd hS hR (fun r5 σ1 g1 H locs h hP hR hS => ?_)
      refine lv_istore (lv' := [(5, .int r5), (0, .ref b), (1, .ref (ad 0)), (2, .ref (ar 0)), (3, .ref qo), (4, .int x4)]) hx hb d_L_law_590 hl (by decide) rfl (fun ls hl => ?_)
      refine lv_aload_n hx hb d_L_law_592 rfl (lv_at hl 3 rfl) ?_
      refine lv_aload_n hx hb d_L_law_593 rfl (lv_at hl 1 rfl) ?_
      refine lv_iload hx hb d_L_law_594 (lv_at hl 5 rfl) ?_
      refine lv_iconst (v := 1) hx hb d_L_law_596 (by decide) ?_
      refine lv_iadd hx hb d_L_law_597 ?_
      refine va_sld hx hb hX hbl hbA hS hi1 d_L_law_598 ?_
      refine kLL_m (va_runV (As := [.int (xs (x4 + 1).toNatClampNeg)]) (rest := []) ⟨hx, hb, hml, hown, htg⟩ (met_R_crossings l D ar cA cB hd.2.1 τ H.size ((xs (x4 + 1).toNatClampNeg)) _ h) (cwV 1 htg (kG (kG_V m_844 m_845 m_846 m_57 (kG_self m_847))) rfl rfl rfl (by decide +kernel) ⟨Nat.le_of_ble_eq_true rfl, Nat.le_of_ble_eq_true rfl⟩) (kLL_preV hK hR _) rfl rfl hl.1 rfl (lv_room (Nat.le_of_ble_eq_true rfl)) d_L_law_599 ⟨(show 48 + j + 1 + 0 ≤ 1077 by omega), (show 7527 + 6 * j + 6 + 0 ≤ 15749 by omega)⟩) hd hS hP (fun r6 τ1 H locs h hP hR hS => ?_)
      refine lv_istore (lv' := [(6, .int r6), (5, .int r5), (0, .ref b), (1, .ref (ad 0)), (2, .ref (ar 0)), (3, .ref qo), (4, .int x4)]) hx hb d_L_law_602 hl (by decide) rfl (fun ls hl => ?_)
      refine lv_aload_n hx hb d_L_law_604 rfl (lv_at hl 4 rfl) ?_
      refine kLL_m (va_runV (As := []) (rest := []) ⟨hx, hb, hml, hown, htg⟩ (met_R_thrown l D ar cA cB hd.2.1 τ1 H.size  _ h) (cwV 0 htg (kG (kG_V m_702 m_703 m_704 m_57 (kG_self m_705))) rfl rfl rfl (by decide +kernel) ⟨Nat.le_of_ble_eq_true rfl, Nat.le_of_ble_eq_true rfl⟩) (kLL_preV hK hR _) rfl rfl hl.1 rfl (lv_room (Nat.le_of_ble_eq_true rfl)) d_L_law_605 ⟨(show 48 + j + 1 + 0 + 0 ≤ 1077 by omega), (show 7527 + 6 * j + 6 + 0 + 0 ≤ 15749 by omega)⟩) hd hS hP (fun r7 τ2 H locs h hP hR hS => ?_)
      refine lv_iload hx hb d_L_law_608 (lv_at hl 1 rfl) ?_
      refine lv_icmp_eq (tgt := 615) hx hb d_L_law_610 (by decide) (fun cn2 => ?_) (fun cn2 => absurd h.1 cn2)
      refine lv_iload hx hb d_L_law_615 (lv_at hl 1 rfl) ?_
      refine lv_if_ne (tgt := 632) hx hb d_L_law_617 (by decide) (fun cn3 => ?_) (fun cn3 => ?_)
      · refine lv_goto (tgt := 927) hx hb d_L_law_632 (by decide) ?_
        refine W.widen (k := 48 + j + 1) (n := 7527 + 6 * j + 6) (by omega) (by omega) ?_
        exact tail h512 hjL σ1 τ2 g1 h.2.2 H locs ls hP hR hS (lv_sub hl [2, 3, 4, 5, 6] rfl)
      · have h4 := h.2.1 cn3
        refine lv_aload_n hx hb d_L_law_620 rfl (lv_at hl 5 rfl) ?_
        refine lv_iconst (v := 0) hx hb d_L_law_621 (by decide) ?_
        refine va_lald hx hb hK hP 26 2 rfl rfl kin0 d_L_law_622 ?_
        refine lv_iload hx hb d_L_law_623 (lv_at hl 0 rfl) ?_
        refine lv_i2l (v := r6.toInt64) hx hb d_L_law_625 rfl ?_
        refine W.lcmp hx hb d_L_law_626 ?_
        refine lv_if_eq (tgt := 632) hx hb d_L_law_627 (by decide) (fun cn5 => ?_) (fun cn5 => absurd ((lg_cmp_eq _ _).mpr h4) cn5)
        refine lv_goto (tgt := 927) hx hb d_L_law_632 (by decide) ?_
        refine W.widen (k := 48 + j + 1) (n := 7527 + 6 * j + 6) (by omega) (by omega) ?_
        exact tail h512 hjL σ1 τ2 g1 h.2.2 H locs ls hP hR hS (lv_sub hl [2, 3, 4, 5, 6] rfl)
    by_cases cc8 : v = 8
    · have h := hs.2.2.2.2.2.2.2.2.1 cc8
      refine lv_tableIn (tgt := 635) hx hb d_L_law_39 (by rw [cc8]; decide) (by rw [cc8]; decide) (by rw [cc8]; rfl) (by decide) ?_
      refine lv_aload_n hx hb d_L_law_635 rfl (lv_at hl 1 rfl) ?_
      refine lv_aload_n hx hb d_L_law_636 rfl (lv_at hl 0 rfl) ?_
      refine lv_iload hx hb d_L_law_637 (lv_at hl 4 rfl) ?_
      refine lv_iconst (v := 1) hx hb d_L_law_639 (by decide) ?_
      refine lv_iadd hx hb d_L_law_640 ?_
      refine va_sld hx hb hX hbl hbA hS hi1 d_L_law_641 ?_
      refine lv_aload_n hx hb d_L_law_642 rfl (lv_at hl 0 rfl) ?_
      refine lv_iload hx hb d_L_law_643 (lv_at hl 4 rfl) ?_
      refine lv_iconst (v := 2) hx hb d_L_law_645 (by decide) ?_
      refine lv_iadd hx hb d_L_law_646 ?_
      refine va_sld hx hb hX hbl hbA hS hi2 d_L_law_647 ?_
      refine lv_aload_n hx hb d_L_law_648 rfl (lv_at hl 3 rfl) ?_
      refine kLL_w (vx_runSW (As := [.ref (ad 0), .int (xs (x4 + 1).toNatClampNeg), .int (xs (x4 + 2).toNatClampNeg), .ref qo]) (rest := []) ⟨hx, hb, hml, hown, htg⟩ (met_L_at l hl0 D ad cA cB cL hd.1 σ qo hd.2.2.2.1 g H.size ((xs (x4 + 1).toNatClampNeg)) ((xs (x4 + 2).toNatClampNeg)) _ h) (vx_cwSW 4 htg (kG (kG_SW m_552 m_553 m_52 (kG_self m_554))) rfl rfl rfl (by decide +kernel) ⟨Nat.le_of_ble_eq_true rfl, Nat.le_of_ble_eq_true rfl⟩) (kLL_pre hK hF hN hd hP hS _) rfl rfl hl.1 rfl (lv_room (Nat.le_of_ble_eq_true rfl)) d_L_law_649 ⟨(show 48 + j + 1 ≤ 1077 by omega), (show 7527 + 6 * j + 6 ≤ 15749 by omega)⟩) hd hS hR (fun r5 σ1 g1 H locs h hP hR hS => ?_)
      refine lv_istore (lv' := [(5, .int r5), (0, .ref b), (1, .ref (ad 0)), (2, .ref (ar 0)), (3, .ref qo), (4, .int x4)]) hx hb d_L_law_652 hl (by decide) rfl (fun ls hl => ?_)
      refine lv_aload_n hx hb d_L_law_654 rfl (lv_at hl 3 rfl) ?_
      refine lv_aload_n hx hb d_L_law_655 rfl (lv_at hl 1 rfl) ?_
      refine lv_iload hx hb d_L_law_656 (lv_at hl 5 rfl) ?_
      refine lv_iconst (v := 1) hx hb d_L_law_658 (by decide) ?_
      refine lv_iadd hx hb d_L_law_659 ?_
      refine va_sld hx hb hX hbl hbA hS hi1 d_L_law_660 ?_
      refine lv_aload_n hx hb d_L_law_661 rfl (lv_at hl 1 rfl) ?_
      refine lv_iload hx hb d_L_law_662 (lv_at hl 5 rfl) ?_
      refine lv_iconst (v := 2) hx hb d_L_law_664 (by decide) ?_
      refine lv_iadd hx hb d_L_law_665 ?_
      refine va_sld hx hb hX hbl hbA hS hi2 d_L_law_666 ?_
      refine kLL_m (va_runV (As := [.int (xs (x4 + 1).toNatClampNeg), .int (xs (x4 + 2).toNatClampNeg)]) (rest := []) ⟨hx, hb, hml, hown, htg⟩ (met_R_at l D ar cA cB hd.2.1 τ H.size ((xs (x4 + 1).toNatClampNeg)) ((xs (x4 + 2).toNatClampNeg)) _ h) (cwV 2 htg (kG (kG_V m_848 m_849 m_850 m_57 (kG_self m_851))) rfl rfl rfl (by decide +kernel) ⟨Nat.le_of_ble_eq_true rfl, Nat.le_of_ble_eq_true rfl⟩) (kLL_preV hK hR _) rfl rfl hl.1 rfl (lv_room (Nat.le_of_ble_eq_true rfl)) d_L_law_667 ⟨(show 48 + j + 1 + 0 ≤ 1077 by omega), (show 7527 + 6 * j + 6 + 0 ≤ 15749 by omega)⟩) hd hS hP (fun r6 τ1 H locs h hP hR hS => ?_)
      refine lv_istore (lv' := [(6, .int r6), (5, .int r5), (0, .ref b), (1, .ref (ad 0)), (2, .ref (ar 0)), (3, .ref qo), (4, .int x4)]) hx hb d_L_law_670 hl (by decide) rfl (fun ls hl => ?_)
      refine lv_aload_n hx hb d_L_law_672 rfl (lv_at hl 4 rfl) ?_
      refine kLL_m (va_runV (As := []) (rest := []) ⟨hx, hb, hml, hown, htg⟩ (met_R_thrown l D ar cA cB hd.2.1 τ1 H.size  _ h) (cwV 0 htg (kG (kG_V m_702 m_703 m_704 m_57 (kG_self m_705))) rfl rfl rfl (by decide +kernel) ⟨Nat.le_of_ble_eq_true rfl, Nat.le_of_ble_eq_true rfl⟩) (kLL_preV hK hR _) rfl rfl hl.1 rfl (lv_room (Nat.le_of_ble_eq_true rfl)) d_L_law_673 ⟨(show 48 + j + 1 + 0 + 0 ≤ 1077 by omega), (show 7527 + 6 * j + 6 + 0 + 0 ≤ 15749 by omega)⟩) hd hS hP (fun r7 τ2 H locs h hP hR hS => ?_)
      refine lv_iload hx hb d_L_law_676 (lv_at hl 1 rfl) ?_
      refine lv_icmp_eq (tgt := 683) hx hb d_L_law_678 (by decide) (fun cn2 => ?_) (fun cn2 => absurd h.1 cn2)
      refine lv_iload hx hb d_L_law_683 (lv_at hl 1 rfl) ?_
      refine lv_if_ne (tgt := 700) hx hb d_L_law_685 (by decide) (fun cn3 => ?_) (fun cn3 => ?_)
      · refine lv_goto (tgt := 927) hx hb d_L_law_700 (by decide) ?_
        refine W.widen (k := 48 + j + 1) (n := 7527 + 6 * j + 6) (by omega) (by omega) ?_
        exact tail h512 hjL σ1 τ2 g1 h.2.2 H locs ls hP hR hS (lv_sub hl [2, 3, 4, 5, 6] rfl)
      · have h4 := h.2.1 cn3
        refine lv_aload_n hx hb d_L_law_688 rfl (lv_at hl 5 rfl) ?_
        refine lv_iconst (v := 0) hx hb d_L_law_689 (by decide) ?_
        refine va_lald hx hb hK hP 26 2 rfl rfl kin0 d_L_law_690 ?_
        refine lv_iload hx hb d_L_law_691 (lv_at hl 0 rfl) ?_
        refine lv_i2l (v := r6.toInt64) hx hb d_L_law_693 rfl ?_
        refine W.lcmp hx hb d_L_law_694 ?_
        refine lv_if_eq (tgt := 700) hx hb d_L_law_695 (by decide) (fun cn5 => ?_) (fun cn5 => absurd ((lg_cmp_eq _ _).mpr h4) cn5)
        refine lv_goto (tgt := 927) hx hb d_L_law_700 (by decide) ?_
        refine W.widen (k := 48 + j + 1) (n := 7527 + 6 * j + 6) (by omega) (by omega) ?_
        exact tail h512 hjL σ1 τ2 g1 h.2.2 H locs ls hP hR hS (lv_sub hl [2, 3, 4, 5, 6] rfl)
    by_cases cc9 : v = 9
    · have h := hs.2.2.2.2.2.2.2.2.2.1 cc9
      refine lv_tableIn (tgt := 703) hx hb d_L_law_39 (by rw [cc9]; decide) (by rw [cc9]; decide) (by rw [cc9]; rfl) (by decide) ?_
      refine lv_aload_n hx hb d_L_law_703 rfl (lv_at hl 1 rfl) ?_
      refine lv_aload_n hx hb d_L_law_704 rfl (lv_at hl 3 rfl) ?_
      refine kLL_w (vx_runSW (As := [.ref (ad 0), .ref qo]) (rest := []) ⟨hx, hb, hml, hown, htg⟩ (met_L_links l hl0 D ad cA cB cL hd.1 σ qo hd.2.2.2.1 g H.size  _ h) (vx_cwSW 2 htg (kG (kG_SW m_559 m_560 m_52 (kG_self m_561))) rfl rfl rfl (by decide +kernel) ⟨Nat.le_of_ble_eq_true rfl, Nat.le_of_ble_eq_true rfl⟩) (kLL_pre hK hF hN hd hP hS _) rfl rfl hl.1 rfl (lv_room (Nat.le_of_ble_eq_true rfl)) d_L_law_705 ⟨(show 48 + j + 1 ≤ 1077 by omega), (show 7527 + 6 * j + 6 ≤ 15749 by omega)⟩) hd hS hR (fun r5 σ1 g1 H locs h hP hR hS => ?_)
      refine lv_istore (lv' := [(5, .int r5), (0, .ref b), (1, .ref (ad 0)), (2, .ref (ar 0)), (3, .ref qo), (4, .int x4)]) hx hb d_L_law_708 hl (by decide) rfl (fun ls hl => ?_)
      refine lv_aload_n hx hb d_L_law_710 rfl (lv_at hl 3 rfl) ?_
      refine kLL_m (va_runV (As := []) (rest := []) ⟨hx, hb, hml, hown, htg⟩ (met_R_links l D ar cA cB hd.2.1 τ H.size  _ h) (cwV 0 htg (kG (kG_V m_852 m_853 m_854 m_57 (kG_self m_855))) rfl rfl rfl (by decide +kernel) ⟨Nat.le_of_ble_eq_true rfl, Nat.le_of_ble_eq_true rfl⟩) (kLL_preV hK hR _) rfl rfl hl.1 rfl (lv_room (Nat.le_of_ble_eq_true rfl)) d_L_law_711 ⟨(show 48 + j + 1 + 0 ≤ 1077 by omega), (show 7527 + 6 * j + 6 + 0 ≤ 15749 by omega)⟩) hd hS hP (fun r6 τ1 H locs h hP hR hS => ?_)
      refine lv_istore (lv' := [(6, .int r6), (5, .int r5), (0, .ref b), (1, .ref (ad 0)), (2, .ref (ar 0)), (3, .ref qo), (4, .int x4)]) hx hb d_L_law_714 hl (by decide) rfl (fun ls hl => ?_)
      refine lv_aload_n hx hb d_L_law_716 rfl (lv_at hl 4 rfl) ?_
      refine kLL_m (va_runV (As := []) (rest := []) ⟨hx, hb, hml, hown, htg⟩ (met_R_thrown l D ar cA cB hd.2.1 τ1 H.size  _ h) (cwV 0 htg (kG (kG_V m_702 m_703 m_704 m_57 (kG_self m_705))) rfl rfl rfl (by decide +kernel) ⟨Nat.le_of_ble_eq_true rfl, Nat.le_of_ble_eq_true rfl⟩) (kLL_preV hK hR _) rfl rfl hl.1 rfl (lv_room (Nat.le_of_ble_eq_true rfl)) d_L_law_717 ⟨(show 48 + j + 1 + 0 + 0 ≤ 1077 by omega), (show 7527 + 6 * j + 6 + 0 + 0 ≤ 15749 by omega)⟩) hd hS hP (fun r7 τ2 H locs h hP hR hS => ?_)
      refine lv_iload hx hb d_L_law_720 (lv_at hl 1 rfl) ?_
      refine lv_icmp_eq (tgt := 727) hx hb d_L_law_722 (by decide) (fun cn2 => ?_) (fun cn2 => absurd h.1 cn2)
      refine lv_iload hx hb d_L_law_727 (lv_at hl 1 rfl) ?_
      refine lv_if_ne (tgt := 744) hx hb d_L_law_729 (by decide) (fun cn3 => ?_) (fun cn3 => ?_)
      · refine lv_goto (tgt := 927) hx hb d_L_law_744 (by decide) ?_
        refine W.widen (k := 48 + j + 1) (n := 7527 + 6 * j + 6) (by omega) (by omega) ?_
        exact tail h512 hjL σ1 τ2 g1 h.2.2 H locs ls hP hR hS (lv_sub hl [2, 3, 4, 5, 6] rfl)
      · have h4 := h.2.1 cn3
        refine lv_aload_n hx hb d_L_law_732 rfl (lv_at hl 5 rfl) ?_
        refine lv_iconst (v := 0) hx hb d_L_law_733 (by decide) ?_
        refine va_lald hx hb hK hP 26 2 rfl rfl kin0 d_L_law_734 ?_
        refine lv_iload hx hb d_L_law_735 (lv_at hl 0 rfl) ?_
        refine lv_i2l (v := r6.toInt64) hx hb d_L_law_737 rfl ?_
        refine W.lcmp hx hb d_L_law_738 ?_
        refine lv_if_eq (tgt := 744) hx hb d_L_law_739 (by decide) (fun cn5 => ?_) (fun cn5 => absurd ((lg_cmp_eq _ _).mpr h4) cn5)
        refine lv_goto (tgt := 927) hx hb d_L_law_744 (by decide) ?_
        refine W.widen (k := 48 + j + 1) (n := 7527 + 6 * j + 6) (by omega) (by omega) ?_
        exact tail h512 hjL σ1 τ2 g1 h.2.2 H locs ls hP hR hS (lv_sub hl [2, 3, 4, 5, 6] rfl)
    by_cases cc10 : v = 10
    · have h := hs.2.2.2.2.2.2.2.2.2.2.1 cc10
      refine lv_tableIn (tgt := 747) hx hb d_L_law_39 (by rw [cc10]; decide) (by rw [cc10]; decide) (by rw [cc10]; rfl) (by decide) ?_
      refine lv_aload_n hx hb d_L_law_747 rfl (lv_at hl 1 rfl) ?_
      refine lv_aload_n hx hb d_L_law_748 rfl (lv_at hl 0 rfl) ?_
      refine lv_iload hx hb d_L_law_749 (lv_at hl 4 rfl) ?_
      refine lv_iconst (v := 1) hx hb d_L_law_751 (by decide) ?_
      refine lv_iadd hx hb d_L_law_752 ?_
      refine va_sld hx hb hX hbl hbA hS hi1 d_L_law_753 ?_
      refine lv_aload_n hx hb d_L_law_754 rfl (lv_at hl 0 rfl) ?_
      refine lv_iload hx hb d_L_law_755 (lv_at hl 4 rfl) ?_
      refine lv_iconst (v := 2) hx hb d_L_law_757 (by decide) ?_
      refine lv_iadd hx hb d_L_law_758 ?_
      refine va_sld hx hb hX hbl hbA hS hi2 d_L_law_759 ?_
      refine lv_aload_n hx hb d_L_law_760 rfl (lv_at hl 3 rfl) ?_
      refine kLL_w (vx_runSW (As := [.ref (ad 0), .int (xs (x4 + 1).toNatClampNeg), .int (xs (x4 + 2).toNatClampNeg), .ref qo]) (rest := []) ⟨hx, hb, hml, hown, htg⟩ (met_L_link l hl0 D ad cA cB cL hd.1 σ qo hd.2.2.2.1 g H.size ((xs (x4 + 1).toNatClampNeg)) ((xs (x4 + 2).toNatClampNeg)) _ h) (vx_cwSW 4 htg (kG (kG_SW m_566 m_567 m_52 (kG_self m_568))) rfl rfl rfl (by decide +kernel) ⟨Nat.le_of_ble_eq_true rfl, Nat.le_of_ble_eq_true rfl⟩) (kLL_pre hK hF hN hd hP hS _) rfl rfl hl.1 rfl (lv_room (Nat.le_of_ble_eq_true rfl)) d_L_law_761 ⟨(show 48 + j + 1 ≤ 1077 by omega), (show 7527 + 6 * j + 6 ≤ 15749 by omega)⟩) hd hS hR (fun r5 σ1 g1 H locs h hP hR hS => ?_)
      refine lv_istore (lv' := [(5, .int r5), (0, .ref b), (1, .ref (ad 0)), (2, .ref (ar 0)), (3, .ref qo), (4, .int x4)]) hx hb d_L_law_764 hl (by decide) rfl (fun ls hl => ?_)
      refine lv_aload_n hx hb d_L_law_766 rfl (lv_at hl 3 rfl) ?_
      refine lv_aload_n hx hb d_L_law_767 rfl (lv_at hl 1 rfl) ?_
      refine lv_iload hx hb d_L_law_768 (lv_at hl 5 rfl) ?_
      refine lv_iconst (v := 1) hx hb d_L_law_770 (by decide) ?_
      refine lv_iadd hx hb d_L_law_771 ?_
      refine va_sld hx hb hX hbl hbA hS hi1 d_L_law_772 ?_
      refine lv_aload_n hx hb d_L_law_773 rfl (lv_at hl 1 rfl) ?_
      refine lv_iload hx hb d_L_law_774 (lv_at hl 5 rfl) ?_
      refine lv_iconst (v := 2) hx hb d_L_law_776 (by decide) ?_
      refine lv_iadd hx hb d_L_law_777 ?_
      refine va_sld hx hb hX hbl hbA hS hi2 d_L_law_778 ?_
      refine kLL_m (va_runV (As := [.int (xs (x4 + 1).toNatClampNeg), .int (xs (x4 + 2).toNatClampNeg)]) (rest := []) ⟨hx, hb, hml, hown, htg⟩ (met_R_link l D ar cA cB hd.2.1 τ H.size ((xs (x4 + 1).toNatClampNeg)) ((xs (x4 + 2).toNatClampNeg)) _ h) (cwV 2 htg (kG (kG_V m_856 m_857 m_858 m_57 (kG_self m_859))) rfl rfl rfl (by decide +kernel) ⟨Nat.le_of_ble_eq_true rfl, Nat.le_of_ble_eq_true rfl⟩) (kLL_preV hK hR _) rfl rfl hl.1 rfl (lv_room (Nat.le_of_ble_eq_true rfl)) d_L_law_779 ⟨(show 48 + j + 1 + 0 ≤ 1077 by omega), (show 7527 + 6 * j + 6 + 0 ≤ 15749 by omega)⟩) hd hS hP (fun r6 τ1 H locs h hP hR hS => ?_)
      refine lv_istore (lv' := [(6, .int r6), (5, .int r5), (0, .ref b), (1, .ref (ad 0)), (2, .ref (ar 0)), (3, .ref qo), (4, .int x4)]) hx hb d_L_law_782 hl (by decide) rfl (fun ls hl => ?_)
      refine lv_aload_n hx hb d_L_law_784 rfl (lv_at hl 4 rfl) ?_
      refine kLL_m (va_runV (As := []) (rest := []) ⟨hx, hb, hml, hown, htg⟩ (met_R_thrown l D ar cA cB hd.2.1 τ1 H.size  _ h) (cwV 0 htg (kG (kG_V m_702 m_703 m_704 m_57 (kG_self m_705))) rfl rfl rfl (by decide +kernel) ⟨Nat.le_of_ble_eq_true rfl, Nat.le_of_ble_eq_true rfl⟩) (kLL_preV hK hR _) rfl rfl hl.1 rfl (lv_room (Nat.le_of_ble_eq_true rfl)) d_L_law_785 ⟨(show 48 + j + 1 + 0 + 0 ≤ 1077 by omega), (show 7527 + 6 * j + 6 + 0 + 0 ≤ 15749 by omega)⟩) hd hS hP (fun r7 τ2 H locs h hP hR hS => ?_)
      refine lv_iload hx hb d_L_law_788 (lv_at hl 1 rfl) ?_
      refine lv_icmp_eq (tgt := 795) hx hb d_L_law_790 (by decide) (fun cn2 => ?_) (fun cn2 => absurd h.1 cn2)
      refine lv_iload hx hb d_L_law_795 (lv_at hl 1 rfl) ?_
      refine lv_if_ne (tgt := 812) hx hb d_L_law_797 (by decide) (fun cn3 => ?_) (fun cn3 => ?_)
      · refine lv_goto (tgt := 927) hx hb d_L_law_812 (by decide) ?_
        refine W.widen (k := 48 + j + 1) (n := 7527 + 6 * j + 6) (by omega) (by omega) ?_
        exact tail h512 hjL σ1 τ2 g1 h.2.2 H locs ls hP hR hS (lv_sub hl [2, 3, 4, 5, 6] rfl)
      · have h4 := h.2.1 cn3
        refine lv_aload_n hx hb d_L_law_800 rfl (lv_at hl 5 rfl) ?_
        refine lv_iconst (v := 0) hx hb d_L_law_801 (by decide) ?_
        refine va_lald hx hb hK hP 26 2 rfl rfl kin0 d_L_law_802 ?_
        refine lv_iload hx hb d_L_law_803 (lv_at hl 0 rfl) ?_
        refine lv_i2l (v := r6.toInt64) hx hb d_L_law_805 rfl ?_
        refine W.lcmp hx hb d_L_law_806 ?_
        refine lv_if_eq (tgt := 812) hx hb d_L_law_807 (by decide) (fun cn5 => ?_) (fun cn5 => absurd ((lg_cmp_eq _ _).mpr h4) cn5)
        refine lv_goto (tgt := 927) hx hb d_L_law_812 (by decide) ?_
        refine W.widen (k := 48 + j + 1) (n := 7527 + 6 * j + 6) (by omega) (by omega) ?_
        exact tail h512 hjL σ1 τ2 g1 h.2.2 H locs ls hP hR hS (lv_sub hl [2, 3, 4, 5, 6] rfl)
    by_cases cc11 : v = 11
    · have h := hs.2.2.2.2.2.2.2.2.2.2.2.1 cc11
      refine lv_tableIn (tgt := 815) hx hb d_L_law_39 (by rw [cc11]; decide) (by rw [cc11]; decide) (by rw [cc11]; rfl) (by decide) ?_
      refine lv_aload_n hx hb d_L_law_815 rfl (lv_at hl 1 rfl) ?_
      refine lv_aload_n hx hb d_L_law_816 rfl (lv_at hl 0 rfl) ?_
      refine lv_iload hx hb d_L_law_817 (lv_at hl 4 rfl) ?_
      refine lv_iconst (v := 1) hx hb d_L_law_819 (by decide) ?_
      refine lv_iadd hx hb d_L_law_820 ?_
      refine va_sld hx hb hX hbl hbA hS hi1 d_L_law_821 ?_
      refine lv_aload_n hx hb d_L_law_822 rfl (lv_at hl 3 rfl) ?_
      refine kLL_w (vx_runSW (As := [.ref (ad 0), .int (xs (x4 + 1).toNatClampNeg), .ref qo]) (rest := []) ⟨hx, hb, hml, hown, htg⟩ (met_L_command l hl0 D ad cA cB cL hd.1 σ qo hd.2.2.2.1 g H.size ((xs (x4 + 1).toNatClampNeg)) _ h) (vx_cwSW 3 htg (kG (kG_SW m_575 m_576 m_52 (kG_self m_577))) rfl rfl rfl (by decide +kernel) ⟨Nat.le_of_ble_eq_true rfl, Nat.le_of_ble_eq_true rfl⟩) (kLL_pre hK hF hN hd hP hS _) rfl rfl hl.1 rfl (lv_room (Nat.le_of_ble_eq_true rfl)) d_L_law_823 ⟨(show 48 + j + 1 ≤ 1077 by omega), (show 7527 + 6 * j + 6 ≤ 15749 by omega)⟩) hd hS hR (fun r5 σ1 g1 H locs h hP hR hS => ?_)
      refine lv_istore (lv' := [(5, .int r5), (0, .ref b), (1, .ref (ad 0)), (2, .ref (ar 0)), (3, .ref qo), (4, .int x4)]) hx hb d_L_law_826 hl (by decide) rfl (fun ls hl => ?_)
      refine lv_aload_n hx hb d_L_law_828 rfl (lv_at hl 3 rfl) ?_
      refine lv_aload_n hx hb d_L_law_829 rfl (lv_at hl 1 rfl) ?_
      refine lv_iload hx hb d_L_law_830 (lv_at hl 5 rfl) ?_
      refine lv_iconst (v := 1) hx hb d_L_law_832 (by decide) ?_
      refine lv_iadd hx hb d_L_law_833 ?_
      refine va_sld hx hb hX hbl hbA hS hi1 d_L_law_834 ?_
      refine kLL_m (va_runV (As := [.int (xs (x4 + 1).toNatClampNeg)]) (rest := []) ⟨hx, hb, hml, hown, htg⟩ (met_R_command l D ar cA cB hd.2.1 τ H.size ((xs (x4 + 1).toNatClampNeg)) _ h) (cwV 1 htg (kG (kG_V m_860 m_861 m_862 m_57 (kG_self m_863))) rfl rfl rfl (by decide +kernel) ⟨Nat.le_of_ble_eq_true rfl, Nat.le_of_ble_eq_true rfl⟩) (kLL_preV hK hR _) rfl rfl hl.1 rfl (lv_room (Nat.le_of_ble_eq_true rfl)) d_L_law_835 ⟨(show 48 + j + 1 + 0 ≤ 1077 by omega), (show 7527 + 6 * j + 6 + 0 ≤ 15749 by omega)⟩) hd hS hP (fun r6 τ1 H locs h hP hR hS => ?_)
      refine lv_istore (lv' := [(6, .int r6), (5, .int r5), (0, .ref b), (1, .ref (ad 0)), (2, .ref (ar 0)), (3, .ref qo), (4, .int x4)]) hx hb d_L_law_838 hl (by decide) rfl (fun ls hl => ?_)
      refine lv_aload_n hx hb d_L_law_840 rfl (lv_at hl 4 rfl) ?_
      refine kLL_m (va_runV (As := []) (rest := []) ⟨hx, hb, hml, hown, htg⟩ (met_R_thrown l D ar cA cB hd.2.1 τ1 H.size  _ h) (cwV 0 htg (kG (kG_V m_702 m_703 m_704 m_57 (kG_self m_705))) rfl rfl rfl (by decide +kernel) ⟨Nat.le_of_ble_eq_true rfl, Nat.le_of_ble_eq_true rfl⟩) (kLL_preV hK hR _) rfl rfl hl.1 rfl (lv_room (Nat.le_of_ble_eq_true rfl)) d_L_law_841 ⟨(show 48 + j + 1 + 0 + 0 ≤ 1077 by omega), (show 7527 + 6 * j + 6 + 0 + 0 ≤ 15749 by omega)⟩) hd hS hP (fun r7 τ2 H locs h hP hR hS => ?_)
      refine lv_iload hx hb d_L_law_844 (lv_at hl 1 rfl) ?_
      refine lv_icmp_eq (tgt := 851) hx hb d_L_law_846 (by decide) (fun cn2 => ?_) (fun cn2 => absurd h.1 cn2)
      refine lv_iload hx hb d_L_law_851 (lv_at hl 1 rfl) ?_
      refine lv_if_ne (tgt := 868) hx hb d_L_law_853 (by decide) (fun cn3 => ?_) (fun cn3 => ?_)
      · refine lv_goto (tgt := 927) hx hb d_L_law_868 (by decide) ?_
        refine W.widen (k := 48 + j + 1) (n := 7527 + 6 * j + 6) (by omega) (by omega) ?_
        exact tail h512 hjL σ1 τ2 g1 h.2.2 H locs ls hP hR hS (lv_sub hl [2, 3, 4, 5, 6] rfl)
      · have h4 := h.2.1 cn3
        refine lv_aload_n hx hb d_L_law_856 rfl (lv_at hl 5 rfl) ?_
        refine lv_iconst (v := 0) hx hb d_L_law_857 (by decide) ?_
        refine va_lald hx hb hK hP 26 2 rfl rfl kin0 d_L_law_858 ?_
        refine lv_iload hx hb d_L_law_859 (lv_at hl 0 rfl) ?_
        refine lv_i2l (v := r6.toInt64) hx hb d_L_law_861 rfl ?_
        refine W.lcmp hx hb d_L_law_862 ?_
        refine lv_if_eq (tgt := 868) hx hb d_L_law_863 (by decide) (fun cn5 => ?_) (fun cn5 => absurd ((lg_cmp_eq _ _).mpr h4) cn5)
        refine lv_goto (tgt := 927) hx hb d_L_law_868 (by decide) ?_
        refine W.widen (k := 48 + j + 1) (n := 7527 + 6 * j + 6) (by omega) (by omega) ?_
        exact tail h512 hjL σ1 τ2 g1 h.2.2 H locs ls hP hR hS (lv_sub hl [2, 3, 4, 5, 6] rfl)
    by_cases cc12 : v = 12
    · have h := hs.2.2.2.2.2.2.2.2.2.2.2.2.1 cc12
      refine lv_tableIn (tgt := 871) hx hb d_L_law_39 (by rw [cc12]; decide) (by rw [cc12]; decide) (by rw [cc12]; rfl) (by decide) ?_
      refine lv_aload_n hx hb d_L_law_871 rfl (lv_at hl 1 rfl) ?_
      refine lv_aload_n hx hb d_L_law_872 rfl (lv_at hl 0 rfl) ?_
      refine lv_iload hx hb d_L_law_873 (lv_at hl 4 rfl) ?_
      refine lv_iconst (v := 1) hx hb d_L_law_875 (by decide) ?_
      refine lv_iadd hx hb d_L_law_876 ?_
      refine va_sld hx hb hX hbl hbA hS hi1 d_L_law_877 ?_
      refine lv_aload_n hx hb d_L_law_878 rfl (lv_at hl 3 rfl) ?_
      refine kLL_w (vx_runSW (As := [.ref (ad 0), .int (xs (x4 + 1).toNatClampNeg), .ref qo]) (rest := []) ⟨hx, hb, hml, hown, htg⟩ (met_L_count l hl0 D ad cA cB cL hd.1 σ qo hd.2.2.2.1 g H.size ((xs (x4 + 1).toNatClampNeg)) _ h) (vx_cwSW 3 htg (kG (kG_SW m_604 m_605 m_52 (kG_self m_606))) rfl rfl rfl (by decide +kernel) ⟨Nat.le_of_ble_eq_true rfl, Nat.le_of_ble_eq_true rfl⟩) (kLL_pre hK hF hN hd hP hS _) rfl rfl hl.1 rfl (lv_room (Nat.le_of_ble_eq_true rfl)) d_L_law_879 ⟨(show 48 + j + 1 ≤ 1077 by omega), (show 7527 + 6 * j + 6 ≤ 15749 by omega)⟩) hd hS hR (fun r5 σ1 g1 H locs h hP hR hS => ?_)
      refine lv_istore (lv' := [(5, .int r5), (0, .ref b), (1, .ref (ad 0)), (2, .ref (ar 0)), (3, .ref qo), (4, .int x4)]) hx hb d_L_law_882 hl (by decide) rfl (fun ls hl => ?_)
      refine lv_aload_n hx hb d_L_law_884 rfl (lv_at hl 3 rfl) ?_
      refine lv_aload_n hx hb d_L_law_885 rfl (lv_at hl 1 rfl) ?_
      refine lv_iload hx hb d_L_law_886 (lv_at hl 5 rfl) ?_
      refine lv_iconst (v := 1) hx hb d_L_law_888 (by decide) ?_
      refine lv_iadd hx hb d_L_law_889 ?_
      refine va_sld hx hb hX hbl hbA hS hi1 d_L_law_890 ?_
      refine kLL_m (va_runV (As := [.int (xs (x4 + 1).toNatClampNeg)]) (rest := []) ⟨hx, hb, hml, hown, htg⟩ (met_R_count l D ar cA cB hd.2.1 τ H.size ((xs (x4 + 1).toNatClampNeg)) _ h) (cwV 1 htg (kG (kG_V m_864 m_865 m_866 m_57 (kG_self m_867))) rfl rfl rfl (by decide +kernel) ⟨Nat.le_of_ble_eq_true rfl, Nat.le_of_ble_eq_true rfl⟩) (kLL_preV hK hR _) rfl rfl hl.1 rfl (lv_room (Nat.le_of_ble_eq_true rfl)) d_L_law_891 ⟨(show 48 + j + 1 + 0 ≤ 1077 by omega), (show 7527 + 6 * j + 6 + 0 ≤ 15749 by omega)⟩) hd hS hP (fun r6 τ1 H locs h hP hR hS => ?_)
      refine lv_istore (lv' := [(6, .int r6), (5, .int r5), (0, .ref b), (1, .ref (ad 0)), (2, .ref (ar 0)), (3, .ref qo), (4, .int x4)]) hx hb d_L_law_894 hl (by decide) rfl (fun ls hl => ?_)
      refine lv_aload_n hx hb d_L_law_896 rfl (lv_at hl 4 rfl) ?_
      refine kLL_m (va_runV (As := []) (rest := []) ⟨hx, hb, hml, hown, htg⟩ (met_R_thrown l D ar cA cB hd.2.1 τ1 H.size  _ h) (cwV 0 htg (kG (kG_V m_702 m_703 m_704 m_57 (kG_self m_705))) rfl rfl rfl (by decide +kernel) ⟨Nat.le_of_ble_eq_true rfl, Nat.le_of_ble_eq_true rfl⟩) (kLL_preV hK hR _) rfl rfl hl.1 rfl (lv_room (Nat.le_of_ble_eq_true rfl)) d_L_law_897 ⟨(show 48 + j + 1 + 0 + 0 ≤ 1077 by omega), (show 7527 + 6 * j + 6 + 0 + 0 ≤ 15749 by omega)⟩) hd hS hP (fun r7 τ2 H locs h hP hR hS => ?_)
      refine lv_iload hx hb d_L_law_900 (lv_at hl 1 rfl) ?_
      refine lv_icmp_eq (tgt := 907) hx hb d_L_law_902 (by decide) (fun cn2 => ?_) (fun cn2 => absurd h.1 cn2)
      refine lv_iload hx hb d_L_law_907 (lv_at hl 1 rfl) ?_
      refine lv_if_ne (tgt := 924) hx hb d_L_law_909 (by decide) (fun cn3 => ?_) (fun cn3 => ?_)
      · refine lv_goto (tgt := 927) hx hb d_L_law_924 (by decide) ?_
        refine W.widen (k := 48 + j + 1) (n := 7527 + 6 * j + 6) (by omega) (by omega) ?_
        exact tail h512 hjL σ1 τ2 g1 h.2.2 H locs ls hP hR hS (lv_sub hl [2, 3, 4, 5, 6] rfl)
      · have h4 := h.2.1 cn3
        refine lv_aload_n hx hb d_L_law_912 rfl (lv_at hl 5 rfl) ?_
        refine lv_iconst (v := 0) hx hb d_L_law_913 (by decide) ?_
        refine va_lald hx hb hK hP 26 2 rfl rfl kin0 d_L_law_914 ?_
        refine lv_iload hx hb d_L_law_915 (lv_at hl 0 rfl) ?_
        refine lv_i2l (v := r6.toInt64) hx hb d_L_law_917 rfl ?_
        refine W.lcmp hx hb d_L_law_918 ?_
        refine lv_if_eq (tgt := 924) hx hb d_L_law_919 (by decide) (fun cn5 => ?_) (fun cn5 => absurd ((lg_cmp_eq _ _).mpr h4) cn5)
        refine lv_goto (tgt := 927) hx hb d_L_law_924 (by decide) ?_
        refine W.widen (k := 48 + j + 1) (n := 7527 + 6 * j + 6) (by omega) (by omega) ?_
        exact tail h512 hjL σ1 τ2 g1 h.2.2 H locs ls hP hR hS (lv_sub hl [2, 3, 4, 5, 6] rfl)
    have h := hs.2.2.2.2.2.2.2.2.2.2.2.2.2 ⟨cc0, cc1, cc2, cc3, cc4, cc5, cc6, cc7, cc8, cc9, cc10, cc11, cc12⟩
    refine lv_tableOut (tgt := 927) hx hb d_L_law_39 (sw_out 12 (by decide) (fun k hk => by rcases Nat.lt_or_ge k 1 with q | q; (have : k = 0 := by omega); subst this; exact cc0; rcases Nat.lt_or_ge k 2 with q | q; (have : k = 1 := by omega); subst this; exact cc1; rcases Nat.lt_or_ge k 3 with q | q; (have : k = 2 := by omega); subst this; exact cc2; rcases Nat.lt_or_ge k 4 with q | q; (have : k = 3 := by omega); subst this; exact cc3; rcases Nat.lt_or_ge k 5 with q | q; (have : k = 4 := by omega); subst this; exact cc4; rcases Nat.lt_or_ge k 6 with q | q; (have : k = 5 := by omega); subst this; exact cc5; rcases Nat.lt_or_ge k 7 with q | q; (have : k = 6 := by omega); subst this; exact cc6; rcases Nat.lt_or_ge k 8 with q | q; (have : k = 7 := by omega); subst this; exact cc7; rcases Nat.lt_or_ge k 9 with q | q; (have : k = 8 := by omega); subst this; exact cc8; rcases Nat.lt_or_ge k 10 with q | q; (have : k = 9 := by omega); subst this; exact cc9; rcases Nat.lt_or_ge k 11 with q | q; (have : k = 10 := by omega); subst this; exact cc10; rcases Nat.lt_or_ge k 12 with q | q; (have : k = 11 := by omega); subst this; exact cc11; rcases Nat.lt_or_ge k 13 with q | q; (have : k = 12 := by omega); subst this; exact cc12; omega)) (by decide) ?_
    refine W.widen (k := 48 + j + 1) (n := 7527 + 6 * j + 6) (by omega) (by omega) ?_
    exact tail h512 hjL σ τ g h H locs ls hP hR hS hl
