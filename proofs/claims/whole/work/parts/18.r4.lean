/-! ===== VectorRoundsModel.drawn(II)I: world M ===== -/
theorem i_X8_drawn : yX8_drawn.cls = RX8 ∧ yX8_drawn.cls ≠ "java/lang/invoke/MethodHandle" ∧ yX8_drawn.cls ≠ "java/lang/invoke/VarHandle" ∧ (parseMethodDescriptor yX8_drawn.desc).map (fun d => d.parameters.length) = some 2 := by decide +kernel
theorem k_X8_drawn_c176 : Cond.constant RX8 176 (1103515245) ∈ wsX8_drawn := by decide +kernel
theorem k_X8_drawn_f7 : Cond.fieldLink RX8 7 RX8 "s" "[I" ∈ wsX8_drawn := by decide +kernel
theorem u_X8_drawn_8 : ∀ w ∈ u_ws RX8 TX8 26, w ∈ wsX8_drawn := by decide +kernel
set_option maxHeartbeats 4000000 in
set_option maxRecDepth 100000 in
theorem c_X8_drawn (l : Launch) (D : va_G) (cI : ClassId) (tys : List (ClassId × FieldType)) (ht : tys[0]? = some (cI, .int)) (a : Nat → Nat) (σ : qM) (x1 : Int32) (x2 : Int32) : q_Met l yX8_drawn wsX8_drawn ({ frames := 2, cells := 0, slots := 0, locals := 64 }) [.ref (a 0), .int x1, .int x2] D tys (p_M cI a) σ (f_X8_drawn σ x1 x2) := by
  refine x_ofWi (cc := cX8_drawn) (maxL := 9) (ret := (some .int)) (by decide +kernel) rfl (pf_M cI a) (Nat.le_of_ble_eq_true rfl) ?_
  intro p e s m below meth c A ls qq h hx hb hml hr hlocks hown hts hK hP hD hA hS hl
  have hown : s.vm.findClass RX8 = some m.cls := hown
  have hl : lv_has ls 9 [(0, .ref (a 0)), (1, .int x1), (2, .int x2)] := hl
  have main : ∀ k9 : Nat, (∀ (σ : qM) (x8 x9 x10 : Int32) (H : Heap) (locs : List Loc) (ls : Array Slot), q_it (D_X8_drawn) k9 0 σ [x8, x9, x10] = some qq → va_P D vwCl (p_M cI a σ) H → va_S A s.heap H locs → lv_has ls 9 [(0, .ref (a 0)), (2, .int x8), (3, .int x9), (4, .int x10)] → W p l e ({ frames := 2, cells := 0, slots := 0, locals := 64 }) s m [.ref (a 0), .int x1, .int x2].toArray below meth c H locs 0 0 (MQ below (va_Qi (fun r τ => (r, τ) = qq) (fun τ t => va_P D vwCl ((p_M cI a) τ) t.heap) A) [.ref (a 0), .int x1, .int x2].toArray s 0 0 A) (F0 m 30 ls [])) ∧ (∀ (σ : qM) (x26 x27 x28 x29 : Int32) (H : Heap) (locs : List Loc) (ls : Array Slot), q_it (D_X8_drawn) k9 1 σ [x26, x27, x28, x29] = some qq → va_P D vwCl (p_M cI a σ) H → va_S A s.heap H locs → lv_has ls 9 [(0, .ref (a 0)), (2, .int x26), (3, .int x27), (4, .int x28), (8, .int x29)] → W p l e ({ frames := 2, cells := 0, slots := 0, locals := 64 }) s m [.ref (a 0), .int x1, .int x2].toArray below meth c H locs 0 0 (MQ below (va_Qi (fun r τ => (r, τ) = qq) (fun τ t => va_P D vwCl ((p_M cI a) τ) t.heap) A) [.ref (a 0), .int x1, .int x2].toArray s 0 0 A) (F0 m 134 ls [])) := by
    intro k9
    induction k9 with
    | zero => exact ⟨(fun _ _ _ _ _ _ _ h _ _ _ => (q_no (show (none : qR) = some qq from h)).elim), (fun _ _ _ _ _ _ _ _ h _ _ _ => (q_no (show (none : qR) = some qq from h)).elim)⟩
    | succ k9 ih =>
      obtain ⟨i30, i134⟩ := ih
      refine ⟨?_, ?_⟩
      · intro σ x8 x9 x10 H locs ls h hP hS hl
        have h : b_X8_drawn_30 (q_it (D_X8_drawn) k9) σ x8 x9 x10 = some qq := h
        unfold b_X8_drawn_30 at h
        refine lv_iload hx hb dX8_drawn_30 (lv_at hl 3 rfl) ?_
        refine lv_iload_n hx hb dX8_drawn_32 rfl (lv_at hl 1 rfl) ?_
        refine lv_icmp_ge (tgt := 182) hx hb dX8_drawn_33 (by decide) (fun c11 => ?_) (fun c11 => ?_)
        · have h := if_t c11 h
          refine lv_aload_n hx hb dX8_drawn_182 rfl (lv_at hl 0 rfl) ?_
          refine x_getr (C := RX8) (k := 1) hx hb hts u_X8_drawn_8 hown hK hP (g_M_0 cI a σ) rfl (by decide) ⟨rfl, rfl, rfl⟩ k_X8_drawn_f7 rfl dX8_drawn_183 ?_
          refine lv_iconst (v := 1) hx hb dX8_drawn_186 (by decide +kernel) ?_
          refine x_iald (t0 := 0) hx hb hK hP ht h (g_M_1 cI a σ) dX8_drawn_187 (fun x12 h => ?_)
          exact x_iret (p_M cI a) hx hb hr hlocks hP hS dX8_drawn_188 h
        · have h := if_f c11 h
          refine lv_iload_n hx hb dX8_drawn_36 rfl (lv_at hl 2 rfl) ?_
          refine lv_ldc (v := 1103515245) hx hb hown (hts _ k_X8_drawn_c176) dX8_drawn_37 ?_
          refine x_imul hx hb dX8_drawn_39 h (fun x13 h => ?_)
          refine lv_sipush (v := 12345) hx hb dX8_drawn_40 (by decide +kernel) ?_
          refine x_iadd hx hb dX8_drawn_43 h (fun x14 h => ?_)
          refine lv_istore_n (lv' := [(3, .int x14), (0, .ref (a 0)), (2, .int x8), (4, .int x10)]) hx hb dX8_drawn_44 rfl hl (by decide) rfl (fun ls hl => ?_)
          refine lv_iload_n hx hb dX8_drawn_45 rfl (lv_at hl 0 rfl) ?_
          refine lv_bipush (v := 16) hx hb dX8_drawn_46 (by decide +kernel) ?_
          refine x_iushr hx hb dX8_drawn_48 h (fun x15 h => ?_)
          refine lv_sipush (v := 32767) hx hb dX8_drawn_49 (by decide +kernel) ?_
          refine x_iand hx hb dX8_drawn_52 h (fun x16 h => ?_)
          refine lv_istore (lv' := [(5, .int x16), (3, .int x14), (0, .ref (a 0)), (2, .int x8), (4, .int x10)]) hx hb dX8_drawn_53 hl (by decide) rfl (fun ls hl => ?_)
          refine lv_iload hx hb dX8_drawn_55 (lv_at hl 0 rfl) ?_
          refine lv_aload_n hx hb dX8_drawn_57 rfl (lv_at hl 2 rfl) ?_
          refine x_getr (C := RX8) (k := 1) hx hb hts u_X8_drawn_8 hown hK hP (g_M_0 cI a σ) rfl (by decide) ⟨rfl, rfl, rfl⟩ k_X8_drawn_f7 rfl dX8_drawn_58 ?_
          refine lv_iconst (v := 0) hx hb dX8_drawn_61 (by decide +kernel) ?_
          refine x_iald (t0 := 0) hx hb hK hP ht h (g_M_1 cI a σ) dX8_drawn_62 (fun x17 h => ?_)
          refine x_irem hx hb dX8_drawn_63 h (fun x18 h => ?_)
          refine lv_istore (lv' := [(6, .int x18), (5, .int x16), (3, .int x14), (0, .ref (a 0)), (2, .int x8), (4, .int x10)]) hx hb dX8_drawn_64 hl (by decide) rfl (fun ls hl => ?_)
          refine lv_iload hx hb dX8_drawn_66 (lv_at hl 1 rfl) ?_
          refine lv_bipush (v := 10) hx hb dX8_drawn_68 (by decide +kernel) ?_
          refine x_idiv hx hb dX8_drawn_70 h (fun x19 h => ?_)
          refine lv_aload_n hx hb dX8_drawn_71 rfl (lv_at hl 3 rfl) ?_
          refine x_getr (C := RX8) (k := 1) hx hb hts u_X8_drawn_8 hown hK hP (g_M_0 cI a σ) rfl (by decide) ⟨rfl, rfl, rfl⟩ k_X8_drawn_f7 rfl dX8_drawn_72 ?_
          refine lv_iconst (v := 0) hx hb dX8_drawn_75 (by decide +kernel) ?_
          refine x_iald (t0 := 0) hx hb hK hP ht h (g_M_1 cI a σ) dX8_drawn_76 (fun x20 h => ?_)
          refine x_irem hx hb dX8_drawn_77 h (fun x21 h => ?_)
          refine lv_istore (lv' := [(7, .int x21), (6, .int x18), (5, .int x16), (3, .int x14), (0, .ref (a 0)), (2, .int x8), (4, .int x10)]) hx hb dX8_drawn_78 hl (by decide) rfl (fun ls hl => ?_)
          refine lv_iload hx hb dX8_drawn_80 (lv_at hl 1 rfl) ?_
          refine lv_iload hx hb dX8_drawn_82 (lv_at hl 0 rfl) ?_
          refine lv_icmp_ne (tgt := 90) hx hb dX8_drawn_84 (by decide) (fun c22 => ?_) (fun c22 => ?_)
          · have h := if_f c22 h
            refine lv_aload_n hx hb dX8_drawn_90 rfl (lv_at hl 4 rfl) ?_
            refine lv_iload hx hb dX8_drawn_91 (lv_at hl 1 rfl) ?_
            refine lv_iload hx hb dX8_drawn_93 (lv_at hl 0 rfl) ?_
            refine x_cVi (p_M cI a) (p_M cI a) (fun τ => τ) [] [.int x18, .int x21] hx hb hml hl.1 hown hts hK hP hD hS hA rfl (c_X8_linkOf l D cI tys ht a σ x18 x21) gX8_drawn_X8_linkOf rfl ⟨rfl, rfl⟩ i_X8_linkOf ⟨Nat.le_of_ble_eq_true rfl, Nat.le_of_ble_eq_true rfl⟩ q_frI (g_M_0 cI a σ) rfl rfl (Nat.le_of_ble_eq_true rfl) ⟨Nat.zero_le _, Nat.zero_le _⟩ dX8_drawn_95 h (fun x24 H locs s23 hP hS h => ?_)
            refine lv_istore (lv' := [(8, .int x24), (7, .int x21), (6, .int x18), (5, .int x16), (3, .int x14), (0, .ref (a 0)), (2, .int x8), (4, .int x10)]) hx hb dX8_drawn_98 hl (by decide) rfl (fun ls hl => ?_)
            refine lv_iload hx hb dX8_drawn_100 (lv_at hl 0 rfl) ?_
            refine lv_if_ge (tgt := 134) hx hb dX8_drawn_102 (by decide) (fun c25 => ?_) (fun c25 => ?_)
            · have h := if_t c25 h
              exact i134 s23 x8 x14 x10 x24 _ _ _ h hP hS (lv_sub hl [5, 6, 4, 7, 0] rfl)
            · have h := if_f c25 h
              refine lv_aload_n hx hb dX8_drawn_105 rfl (lv_at hl 5 rfl) ?_
              refine x_getr (C := RX8) (k := 1) hx hb hts u_X8_drawn_8 hown hK hP (g_M_0 cI a s23) rfl (by decide) ⟨rfl, rfl, rfl⟩ k_X8_drawn_f7 rfl dX8_drawn_106 ?_
              refine lv_iconst (v := 1) hx hb dX8_drawn_109 (by decide +kernel) ?_
              refine x_iald (t0 := 0) hx hb hK hP ht h (g_M_1 cI a s23) dX8_drawn_110 (fun x30 h => ?_)
              refine lv_bipush (v := 24) hx hb dX8_drawn_111 (by decide +kernel) ?_
              refine lv_icmp_ge (tgt := 134) hx hb dX8_drawn_113 (by decide) (fun c31 => ?_) (fun c31 => ?_)
              · have h := if_t c31 h
                exact i134 s23 x8 x14 x10 x24 _ _ _ h hP hS (lv_sub hl [5, 6, 4, 7, 0] rfl)
              · have h := if_f c31 h
                refine lv_aload_n hx hb dX8_drawn_116 rfl (lv_at hl 5 rfl) ?_
                refine lv_iload hx hb dX8_drawn_117 (lv_at hl 2 rfl) ?_
                refine lv_iload hx hb dX8_drawn_119 (lv_at hl 1 rfl) ?_
                refine lv_iconst (v := 1) hx hb dX8_drawn_121 (by decide +kernel) ?_
                refine lv_iload hx hb dX8_drawn_122 (lv_at hl 3 rfl) ?_
                refine lv_bipush (v := 100) hx hb dX8_drawn_124 (by decide +kernel) ?_
                refine x_idiv hx hb dX8_drawn_126 h (fun x32 h => ?_)
                refine lv_bipush (v := 15) hx hb dX8_drawn_127 (by decide +kernel) ?_
                refine x_irem hx hb dX8_drawn_129 h (fun x33 h => ?_)
                refine x_iadd hx hb dX8_drawn_130 h (fun x34 h => ?_)
                refine x_cVv (p_M cI a) (p_M cI a) (fun τ => τ) [] [.int x18, .int x21, .int x34] hx hb hml hl.1 hown hts hK hP hD hS hA rfl (c_X8_addLink l D cI tys ht a s23 x18 x21 x34) gX8_drawn_X8_addLink rfl ⟨rfl, rfl⟩ i_X8_addLink ⟨Nat.le_of_ble_eq_true rfl, Nat.le_of_ble_eq_true rfl⟩ q_frI (g_M_0 cI a s23) rfl rfl (Nat.le_of_ble_eq_true rfl) ⟨Nat.zero_le _, Nat.zero_le _⟩ dX8_drawn_131 h (fun H locs s35 hP hS h => ?_)
                exact i134 s35 x8 x14 x10 x24 _ _ _ h hP hS (lv_sub hl [5, 6, 4, 7, 0] rfl)
          · have h := if_t c22 h
            refine lv_goto (tgt := 176) hx hb dX8_drawn_87 (by decide) ?_
            refine x_iinc (k := 6) (w := 1) hx hb dX8_drawn_176 hl rfl (by decide +kernel) (by decide) (fun v9 => [(4, .int v9), (7, .int x21), (6, .int x18), (5, .int x16), (3, .int x14), (0, .ref (a 0)), (2, .int x8)]) (fun v9 => rfl) h (fun x36 ls hl h => ?_)
            have hl : lv_has ls 9 [(4, .int x36), (7, .int x21), (6, .int x18), (5, .int x16), (3, .int x14), (0, .ref (a 0)), (2, .int x8)] := hl
            refine lv_goto (tgt := 30) hx hb dX8_drawn_179 (by decide) ?_
            exact i30 σ x8 x14 x36 _ _ _ h hP hS (lv_sub hl [5, 6, 4, 0] rfl)
      · intro σ x26 x27 x28 x29 H locs ls h hP hS hl
        have h : b_X8_drawn_134 (q_it (D_X8_drawn) k9) σ x26 x27 x28 x29 = some qq := h
        unfold b_X8_drawn_134 at h
        refine lv_iload hx hb dX8_drawn_134 (lv_at hl 4 rfl) ?_
        refine lv_if_ge (tgt := 142) hx hb dX8_drawn_136 (by decide) (fun c37 => ?_) (fun c37 => ?_)
        · have h := if_t c37 h
          refine lv_aload_n hx hb dX8_drawn_142 rfl (lv_at hl 0 rfl) ?_
          refine x_getr (C := RX8) (k := 1) hx hb hts u_X8_drawn_8 hown hK hP (g_M_0 cI a σ) rfl (by decide) ⟨rfl, rfl, rfl⟩ k_X8_drawn_f7 rfl dX8_drawn_143 ?_
          refine lv_bipush (v := 100) hx hb dX8_drawn_146 (by decide +kernel) ?_
          refine lv_iload hx hb dX8_drawn_148 (lv_at hl 4 rfl) ?_
          refine x_iadd hx hb dX8_drawn_150 h (fun x38 h => ?_)
          refine x_iald (t0 := 0) hx hb hK hP ht h (g_M_1 cI a σ) dX8_drawn_151 (fun x39 h => ?_)
          refine lv_iconst (v := 1) hx hb dX8_drawn_152 (by decide +kernel) ?_
          refine lv_icmp_ne (tgt := 165) hx hb dX8_drawn_153 (by decide) (fun c40 => ?_) (fun c40 => ?_)
          · have h := if_f c40 h
            refine lv_aload_n hx hb dX8_drawn_165 rfl (lv_at hl 0 rfl) ?_
            refine x_getr (C := RX8) (k := 1) hx hb hts u_X8_drawn_8 hown hK hP (g_M_0 cI a σ) rfl (by decide) ⟨rfl, rfl, rfl⟩ k_X8_drawn_f7 rfl dX8_drawn_166 ?_
            refine lv_bipush (v := 100) hx hb dX8_drawn_169 (by decide +kernel) ?_
            refine lv_iload hx hb dX8_drawn_171 (lv_at hl 4 rfl) ?_
            refine x_iadd hx hb dX8_drawn_173 h (fun x41 h => ?_)
            refine lv_iconst (v := 1) hx hb dX8_drawn_174 (by decide +kernel) ?_
            refine x_iast (p_M cI a) (t0 := 0) hx hb hK hP hD hS ht h (g_M_1 cI a σ) (fun j9 v9 => (s_M_1 cI a σ _)) dX8_drawn_175 (fun H locs s42 hP hS h => ?_)
            refine x_iinc (k := 3) (w := 1) hx hb dX8_drawn_176 hl rfl (by decide +kernel) (by decide) (fun v9 => [(4, .int v9), (0, .ref (a 0)), (2, .int x26), (3, .int x27), (8, .int x29)]) (fun v9 => rfl) h (fun x43 ls hl h => ?_)
            have hl : lv_has ls 9 [(4, .int x43), (0, .ref (a 0)), (2, .int x26), (3, .int x27), (8, .int x29)] := hl
            refine lv_goto (tgt := 30) hx hb dX8_drawn_179 (by decide) ?_
            exact i30 s42 x26 x27 x43 _ _ _ h hP hS (lv_sub hl [1, 2, 3, 0] rfl)
          · have h := if_t c40 h
            refine lv_aload_n hx hb dX8_drawn_156 rfl (lv_at hl 0 rfl) ?_
            refine lv_iload hx hb dX8_drawn_157 (lv_at hl 4 rfl) ?_
            refine x_cVv (p_M cI a) (p_M cI a) (fun τ => τ) [] [.int x29] hx hb hml hl.1 hown hts hK hP hD hS hA rfl (c_X8_cut l D cI tys ht a σ x29) gX8_drawn_X8_cut rfl ⟨rfl, rfl⟩ i_X8_cut ⟨Nat.le_of_ble_eq_true rfl, Nat.le_of_ble_eq_true rfl⟩ q_frI (g_M_0 cI a σ) rfl rfl (Nat.le_of_ble_eq_true rfl) ⟨Nat.zero_le _, Nat.zero_le _⟩ dX8_drawn_159 h (fun H locs s44 hP hS h => ?_)
            refine lv_goto (tgt := 176) hx hb dX8_drawn_162 (by decide) ?_
            refine x_iinc (k := 3) (w := 1) hx hb dX8_drawn_176 hl rfl (by decide +kernel) (by decide) (fun v9 => [(4, .int v9), (0, .ref (a 0)), (2, .int x26), (3, .int x27), (8, .int x29)]) (fun v9 => rfl) h (fun x45 ls hl h => ?_)
            have hl : lv_has ls 9 [(4, .int x45), (0, .ref (a 0)), (2, .int x26), (3, .int x27), (8, .int x29)] := hl
            refine lv_goto (tgt := 30) hx hb dX8_drawn_179 (by decide) ?_
            exact i30 s44 x26 x27 x45 _ _ _ h hP hS (lv_sub hl [1, 2, 3, 0] rfl)
        · have h := if_f c37 h
          refine lv_goto (tgt := 176) hx hb dX8_drawn_139 (by decide) ?_
          refine x_iinc (k := 3) (w := 1) hx hb dX8_drawn_176 hl rfl (by decide +kernel) (by decide) (fun v9 => [(4, .int v9), (0, .ref (a 0)), (2, .int x26), (3, .int x27), (8, .int x29)]) (fun v9 => rfl) h (fun x46 ls hl h => ?_)
          have hl : lv_has ls 9 [(4, .int x46), (0, .ref (a 0)), (2, .int x26), (3, .int x27), (8, .int x29)] := hl
          refine lv_goto (tgt := 30) hx hb dX8_drawn_179 (by decide) ?_
          exact i30 σ x26 x27 x46 _ _ _ h hP hS (lv_sub hl [1, 2, 3, 0] rfl)
  have i30 : ∀ (σ : qM) (x8 x9 x10 : Int32) (H : Heap) (locs : List Loc) (ls : Array Slot), q_lim (D_X8_drawn) 0 σ [x8, x9, x10] = some qq → va_P D vwCl (p_M cI a σ) H → va_S A s.heap H locs → lv_has ls 9 [(0, .ref (a 0)), (2, .int x8), (3, .int x9), (4, .int x10)] → W p l e ({ frames := 2, cells := 0, slots := 0, locals := 64 }) s m [.ref (a 0), .int x1, .int x2].toArray below meth c H locs 0 0 (MQ below (va_Qi (fun r τ => (r, τ) = qq) (fun τ t => va_P D vwCl ((p_M cI a) τ) t.heap) A) [.ref (a 0), .int x1, .int x2].toArray s 0 0 A) (F0 m 30 ls []) := by
    intro σ x8 x9 x10 H locs ls h hP hS hl
    obtain ⟨k9, h⟩ := q_lim_n h
    exact (main k9).1 σ x8 x9 x10 H locs ls h hP hS hl
  have i134 : ∀ (σ : qM) (x26 x27 x28 x29 : Int32) (H : Heap) (locs : List Loc) (ls : Array Slot), q_lim (D_X8_drawn) 1 σ [x26, x27, x28, x29] = some qq → va_P D vwCl (p_M cI a σ) H → va_S A s.heap H locs → lv_has ls 9 [(0, .ref (a 0)), (2, .int x26), (3, .int x27), (4, .int x28), (8, .int x29)] → W p l e ({ frames := 2, cells := 0, slots := 0, locals := 64 }) s m [.ref (a 0), .int x1, .int x2].toArray below meth c H locs 0 0 (MQ below (va_Qi (fun r τ => (r, τ) = qq) (fun τ t => va_P D vwCl ((p_M cI a) τ) t.heap) A) [.ref (a 0), .int x1, .int x2].toArray s 0 0 A) (F0 m 134 ls []) := by
    intro σ x26 x27 x28 x29 H locs ls h hP hS hl
    obtain ⟨k9, h⟩ := q_lim_n h
    exact (main k9).2 σ x26 x27 x28 x29 H locs ls h hP hS hl
  have h : e_X8_drawn (q_lim (D_X8_drawn)) σ x1 x2 = some qq := h
  unfold e_X8_drawn at h
  refine lv_iload_n hx hb dX8_drawn_0 rfl (lv_at hl 2 rfl) ?_
  refine lv_iconst (v := 1) hx hb dX8_drawn_1 (by decide +kernel) ?_
  refine lv_bipush (v := 12) hx hb dX8_drawn_2 (by decide +kernel) ?_
  refine x_cSi (p_M cI a) (fun _ => []) (fun _ => σ) [] [.int x2, .int 1, .int 12] hx hb hml hl.1 hown hts hK hP hD hS hA rfl (c_X8_in l D cI tys ht σ x2 1 12) gX8_drawn_X8_in rfl ⟨rfl, rfl⟩ i_X8_in ⟨Nat.le_of_ble_eq_true rfl, Nat.le_of_ble_eq_true rfl⟩ (q_fr0 (fun _ => rfl)) rfl (Nat.le_of_ble_eq_true rfl) ⟨Nat.zero_le _, Nat.zero_le _⟩ dX8_drawn_4 h (fun x4 H locs s3 hP hS h => ?_)
  refine lv_if_ne (tgt := 12) hx hb dX8_drawn_7 (by decide) (fun c5 => ?_) (fun c5 => ?_)
  · have h := if_f c5 h
    refine lv_aload_n hx hb dX8_drawn_12 rfl (lv_at hl 0 rfl) ?_
    refine x_getr (C := RX8) (k := 1) hx hb hts u_X8_drawn_8 hown hK hP (g_M_0 cI a s3) rfl (by decide) ⟨rfl, rfl, rfl⟩ k_X8_drawn_f7 rfl dX8_drawn_13 ?_
    refine lv_iconst (v := 0) hx hb dX8_drawn_16 (by decide +kernel) ?_
    refine x_iald (t0 := 0) hx hb hK hP ht h (g_M_1 cI a s3) dX8_drawn_17 (fun x6 h => ?_)
    refine lv_iconst (v := 2) hx hb dX8_drawn_18 (by decide +kernel) ?_
    refine lv_icmp_ge (tgt := 25) hx hb dX8_drawn_19 (by decide) (fun c7 => ?_) (fun c7 => ?_)
    · have h := if_t c7 h
      refine lv_iload_n hx hb dX8_drawn_25 rfl (lv_at hl 1 rfl) ?_
      refine lv_istore_n (lv' := [(3, .int x1), (0, .ref (a 0)), (1, .int x1), (2, .int x2)]) hx hb dX8_drawn_26 rfl hl (by decide) rfl (fun ls hl => ?_)
      refine lv_iconst (v := 0) hx hb dX8_drawn_27 (by decide +kernel) ?_
      refine lv_istore (lv' := [(4, .int 0), (3, .int x1), (0, .ref (a 0)), (1, .int x1), (2, .int x2)]) hx hb dX8_drawn_28 hl (by decide) rfl (fun ls hl => ?_)
      exact i30 s3 x2 x1 0 _ _ _ h hP hS (lv_sub hl [2, 4, 1, 0] rfl)
    · have h := if_f c7 h
      refine lv_bipush (v := (-5)) hx hb dX8_drawn_22 (by decide +kernel) ?_
      exact x_iret (p_M cI a) hx hb hr hlocks hP hS dX8_drawn_24 h
  · have h := if_t c5 h
    refine lv_iconst (v := (-1)) hx hb dX8_drawn_10 (by decide +kernel) ?_
    exact x_iret (p_M cI a) hx hb hr hlocks hP hS dX8_drawn_11 h
/-! ===== VectorRoundsModel.feed(I)I: world M ===== -/
theorem i_X8_feed : yX8_feed.cls = RX8 ∧ yX8_feed.cls ≠ "java/lang/invoke/MethodHandle" ∧ yX8_feed.cls ≠ "java/lang/invoke/VarHandle" ∧ (parseMethodDescriptor yX8_feed.desc).map (fun d => d.parameters.length) = some 1 := by decide +kernel
theorem k_X8_feed_f177 : Cond.fieldLink RX8 177 RX8 "taped" "I" ∈ wsX8_feed := by decide +kernel
theorem k_X8_feed_f49 : Cond.fieldLink RX8 49 RX8 "tape" "[I" ∈ wsX8_feed := by decide +kernel
theorem u_X8_feed_8 : ∀ w ∈ u_ws RX8 TX8 26, w ∈ wsX8_feed := by decide +kernel
set_option maxHeartbeats 4000000 in
set_option maxRecDepth 100000 in
theorem c_X8_feed (l : Launch) (D : va_G) (cI : ClassId) (tys : List (ClassId × FieldType)) (ht : tys[0]? = some (cI, .int)) (a : Nat → Nat) (σ : qM) (x1 : Int32) : q_Met l yX8_feed wsX8_feed ({ frames := 1, cells := 0, slots := 0, locals := 22 }) [.ref (a 0), .int x1] D tys (p_M cI a) σ (f_X8_feed σ x1) := by
  refine x_ofWi (cc := cX8_feed) (maxL := 2) (ret := (some .int)) (by decide +kernel) rfl (pf_M cI a) (Nat.le_of_ble_eq_true rfl) ?_
  intro p e s m below meth c A ls qq h hx hb hml hr hlocks hown hts hK hP hD hA hS hl
  have hown : s.vm.findClass RX8 = some m.cls := hown
  have hl : lv_has ls 2 [(0, .ref (a 0)), (1, .int x1)] := hl
  unfold f_X8_feed at h
  refine lv_iload_n hx hb dX8_feed_0 rfl (lv_at hl 1 rfl) ?_
  refine lv_iconst (v := 0) hx hb dX8_feed_1 (by decide +kernel) ?_
  refine lv_sipush (v := 255) hx hb dX8_feed_2 (by decide +kernel) ?_
  refine x_cSi (p_M cI a) (fun _ => []) (fun _ => σ) [] [.int x1, .int 0, .int 255] hx hb hml hl.1 hown hts hK hP hD hS hA rfl (c_X8_in l D cI tys ht σ x1 0 255) gX8_feed_X8_in rfl ⟨rfl, rfl⟩ i_X8_in ⟨Nat.le_of_ble_eq_true rfl, Nat.le_of_ble_eq_true rfl⟩ (q_fr0 (fun _ => rfl)) rfl (Nat.le_of_ble_eq_true rfl) ⟨Nat.zero_le _, Nat.zero_le _⟩ dX8_feed_5 h (fun x3 H locs s2 hP hS h => ?_)
  refine lv_if_ne (tgt := 13) hx hb dX8_feed_8 (by decide) (fun c4 => ?_) (fun c4 => ?_)
  · have h := if_f c4 h
    refine lv_aload_n hx hb dX8_feed_13 rfl (lv_at hl 0 rfl) ?_
    refine x_geti (C := RX8) (k := 17) hx hb hts u_X8_feed_8 hown hK hP (g_M_0 cI a s2) rfl (by decide) ⟨rfl, rfl, rfl⟩ k_X8_feed_f177 rfl dX8_feed_14 h (fun x5 h => ?_)
    refine lv_bipush (v := 120) hx hb dX8_feed_17 (by decide +kernel) ?_
    refine lv_icmp_ne (tgt := 25) hx hb dX8_feed_19 (by decide) (fun c6 => ?_) (fun c6 => ?_)
    · have h := if_f c6 h
      refine lv_aload_n hx hb dX8_feed_25 rfl (lv_at hl 0 rfl) ?_
      refine x_getr (C := RX8) (k := 16) hx hb hts u_X8_feed_8 hown hK hP (g_M_0 cI a s2) rfl (by decide) ⟨rfl, rfl, rfl⟩ k_X8_feed_f49 rfl dX8_feed_26 ?_
      refine lv_aload_n hx hb dX8_feed_29 rfl (lv_at hl 0 rfl) ?_
      refine x_geti (C := RX8) (k := 17) hx hb hts u_X8_feed_8 hown hK hP (g_M_0 cI a s2) rfl (by decide) ⟨rfl, rfl, rfl⟩ k_X8_feed_f177 rfl dX8_feed_30 h (fun x7 h => ?_)
      refine lv_iload_n hx hb dX8_feed_33 rfl (lv_at hl 1 rfl) ?_
      refine x_iast (p_M cI a) (t0 := 0) hx hb hK hP hD hS ht h (g_M_14 cI a s2) (fun j9 v9 => (s_M_14 cI a s2 _)) dX8_feed_34 (fun H locs s8 hP hS h => ?_)
      refine lv_aload_n hx hb dX8_feed_35 rfl (lv_at hl 0 rfl) ?_
      refine lv_dup hx hb dX8_feed_36 rfl ?_
      refine x_geti (C := RX8) (k := 17) hx hb hts u_X8_feed_8 hown hK hP (g_M_0 cI a s8) rfl (by decide) ⟨rfl, rfl, rfl⟩ k_X8_feed_f177 rfl dX8_feed_37 h (fun x9 h => ?_)
      refine lv_iconst (v := 1) hx hb dX8_feed_40 (by decide +kernel) ?_
      refine x_iadd hx hb dX8_feed_41 h (fun x10 h => ?_)
      refine x_puti (p_M cI a) (C := RX8) (k := 17) hx hb hts u_X8_feed_8 tyX8 tyX8_ok nmX8 hown hK hP hD hS h (g_M_0 cI a s8) rfl (by decide) ⟨rfl, rfl, rfl⟩ k_X8_feed_f177 rfl rfl rfl rfl (Nat.le_of_ble_eq_true rfl) (s_M_0_17 cI a s8 x10) dX8_feed_42 (fun H locs s11 hP hS h => ?_)
      refine lv_aload_n hx hb dX8_feed_45 rfl (lv_at hl 0 rfl) ?_
      refine x_geti (C := RX8) (k := 17) hx hb hts u_X8_feed_8 hown hK hP (g_M_0 cI a s11) rfl (by decide) ⟨rfl, rfl, rfl⟩ k_X8_feed_f177 rfl dX8_feed_46 h (fun x12 h => ?_)
      exact x_iret (p_M cI a) hx hb hr hlocks hP hS dX8_feed_49 h
    · have h := if_t c6 h
      refine lv_bipush (v := (-3)) hx hb dX8_feed_22 (by decide +kernel) ?_
      exact x_iret (p_M cI a) hx hb hr hlocks hP hS dX8_feed_24 h
  · have h := if_t c4 h
    refine lv_iconst (v := (-1)) hx hb dX8_feed_11 (by decide +kernel) ?_
    exact x_iret (p_M cI a) hx hb hr hlocks hP hS dX8_feed_12 h
/-! ===== VectorRoundsModel.here()I: world M ===== -/
theorem i_X8_here : yX8_here.cls = RX8 ∧ yX8_here.cls ≠ "java/lang/invoke/MethodHandle" ∧ yX8_here.cls ≠ "java/lang/invoke/VarHandle" ∧ (parseMethodDescriptor yX8_here.desc).map (fun d => d.parameters.length) = some 0 := by decide +kernel
theorem k_X8_here_f177 : Cond.fieldLink RX8 177 RX8 "taped" "I" ∈ wsX8_here := by decide +kernel
theorem k_X8_here_f180 : Cond.fieldLink RX8 180 RX8 "at" "I" ∈ wsX8_here := by decide +kernel
theorem k_X8_here_f49 : Cond.fieldLink RX8 49 RX8 "tape" "[I" ∈ wsX8_here := by decide +kernel
theorem u_X8_here_8 : ∀ w ∈ u_ws RX8 TX8 26, w ∈ wsX8_here := by decide +kernel
set_option maxHeartbeats 4000000 in
set_option maxRecDepth 100000 in
theorem c_X8_here (l : Launch) (D : va_G) (cI : ClassId) (tys : List (ClassId × FieldType)) (ht : tys[0]? = some (cI, .int)) (a : Nat → Nat) (σ : qM) : q_Met l yX8_here wsX8_here ({ frames := 0, cells := 0, slots := 0, locals := 0 }) [.ref (a 0)] D tys (p_M cI a) σ (f_X8_here σ) := by
  refine x_ofWi (cc := cX8_here) (maxL := 1) (ret := (some .int)) (by decide +kernel) rfl (pf_M cI a) (Nat.le_of_ble_eq_true rfl) ?_
  intro p e s m below meth c A ls qq h hx hb hml hr hlocks hown hts hK hP hD hA hS hl
  have hown : s.vm.findClass RX8 = some m.cls := hown
  have hl : lv_has ls 1 [(0, .ref (a 0))] := hl
  unfold f_X8_here at h
  refine lv_aload_n hx hb dX8_here_0 rfl (lv_at hl 0 rfl) ?_
  refine x_geti (C := RX8) (k := 18) hx hb hts u_X8_here_8 hown hK hP (g_M_0 cI a σ) rfl (by decide) ⟨rfl, rfl, rfl⟩ k_X8_here_f180 rfl dX8_here_1 h (fun x1 h => ?_)
  refine lv_aload_n hx hb dX8_here_4 rfl (lv_at hl 0 rfl) ?_
  refine x_geti (C := RX8) (k := 17) hx hb hts u_X8_here_8 hown hK hP (g_M_0 cI a σ) rfl (by decide) ⟨rfl, rfl, rfl⟩ k_X8_here_f177 rfl dX8_here_5 h (fun x2 h => ?_)
  refine lv_icmp_ge (tgt := 23) hx hb dX8_here_8 (by decide) (fun c3 => ?_) (fun c3 => ?_)
  · have h := if_t c3 h
    refine lv_iconst (v := (-1)) hx hb dX8_here_23 (by decide +kernel) ?_
    exact x_iret (p_M cI a) hx hb hr hlocks hP hS dX8_here_24 h
  · have h := if_f c3 h
    refine lv_aload_n hx hb dX8_here_11 rfl (lv_at hl 0 rfl) ?_
    refine x_getr (C := RX8) (k := 16) hx hb hts u_X8_here_8 hown hK hP (g_M_0 cI a σ) rfl (by decide) ⟨rfl, rfl, rfl⟩ k_X8_here_f49 rfl dX8_here_12 ?_
    refine lv_aload_n hx hb dX8_here_15 rfl (lv_at hl 0 rfl) ?_
    refine x_geti (C := RX8) (k := 18) hx hb hts u_X8_here_8 hown hK hP (g_M_0 cI a σ) rfl (by decide) ⟨rfl, rfl, rfl⟩ k_X8_here_f180 rfl dX8_here_16 h (fun x4 h => ?_)
    refine x_iald (t0 := 0) hx hb hK hP ht h (g_M_14 cI a σ) dX8_here_19 (fun x5 h => ?_)
    refine lv_goto (tgt := 24) hx hb dX8_here_20 (by decide) ?_
    exact x_iret (p_M cI a) hx hb hr hlocks hP hS dX8_here_24 h
/-! ===== VectorRoundsModel.numbersOf(I)I: world E ===== -/
theorem i_X8_numbersOf : yX8_numbersOf.cls ≠ "java/lang/invoke/MethodHandle" ∧ yX8_numbersOf.cls ≠ "java/lang/invoke/VarHandle" ∧ (parseMethodDescriptor yX8_numbersOf.desc).map (fun d => d.parameters.length) = some 1 := by decide +kernel
set_option maxHeartbeats 4000000 in
set_option maxRecDepth 100000 in
theorem c_X8_numbersOf (l : Launch) (D : va_G) (cI : ClassId) (tys : List (ClassId × FieldType)) (ht : tys[0]? = some (cI, .int)) (σ : qM) (x1 : Int32) : q_Met l yX8_numbersOf wsX8_numbersOf ({ frames := 0, cells := 0, slots := 0, locals := 0 }) [.int x1] D tys (fun _ => []) σ (f_X8_numbersOf σ x1) := by
  refine x_ofWi (cc := cX8_numbersOf) (maxL := 1) (ret := (some .int)) (by decide +kernel) rfl (fun _ _ => rfl) (Nat.le_of_ble_eq_true rfl) ?_
  intro p e s m below meth c A ls qq h hx hb hml hr hlocks hown hts hK hP hD hA hS hl
  have hown : s.vm.findClass RX8 = some m.cls := hown
  have hl : lv_has ls 1 [(0, .int x1)] := hl
  unfold f_X8_numbersOf at h
  refine lv_iload_n hx hb dX8_numbersOf_0 rfl (lv_at hl 0 rfl) ?_
  refine lv_bipush (v := 110) hx hb dX8_numbersOf_1 (by decide +kernel) ?_
  refine lv_icmp_ne (tgt := 10) hx hb dX8_numbersOf_3 (by decide) (fun c2 => ?_) (fun c2 => ?_)
  · have h := if_f c2 h
    refine lv_iload_n hx hb dX8_numbersOf_10 rfl (lv_at hl 0 rfl) ?_
    refine lv_bipush (v := 108) hx hb dX8_numbersOf_11 (by decide +kernel) ?_
    refine lv_icmp_ne (tgt := 20) hx hb dX8_numbersOf_13 (by decide) (fun c3 => ?_) (fun c3 => ?_)
    · have h := if_f c3 h
      refine lv_iload_n hx hb dX8_numbersOf_20 rfl (lv_at hl 0 rfl) ?_
      refine lv_bipush (v := 119) hx hb dX8_numbersOf_21 (by decide +kernel) ?_
      refine lv_icmp_ne (tgt := 30) hx hb dX8_numbersOf_23 (by decide) (fun c4 => ?_) (fun c4 => ?_)
      · have h := if_f c4 h
        refine lv_iconst (v := 1) hx hb dX8_numbersOf_30 (by decide +kernel) ?_
        exact x_iret (fun _ => []) hx hb hr hlocks hP hS dX8_numbersOf_31 h
      · have h := if_t c4 h
        refine lv_iconst (v := 2) hx hb dX8_numbersOf_26 (by decide +kernel) ?_
        refine lv_goto (tgt := 31) hx hb dX8_numbersOf_27 (by decide) ?_
        exact x_iret (fun _ => []) hx hb hr hlocks hP hS dX8_numbersOf_31 h
    · have h := if_t c3 h
      refine lv_iconst (v := 3) hx hb dX8_numbersOf_16 (by decide +kernel) ?_
      refine lv_goto (tgt := 31) hx hb dX8_numbersOf_17 (by decide) ?_
      exact x_iret (fun _ => []) hx hb hr hlocks hP hS dX8_numbersOf_31 h
  · have h := if_t c2 h
    refine lv_iconst (v := 0) hx hb dX8_numbersOf_6 (by decide +kernel) ?_
    refine lv_goto (tgt := 31) hx hb dX8_numbersOf_7 (by decide) ?_
    exact x_iret (fun _ => []) hx hb hr hlocks hP hS dX8_numbersOf_31 h
/-! ===== VectorRoundsModel.readNumber(II)V: world M ===== -/
theorem i_X8_readNumber : yX8_readNumber.cls = RX8 ∧ yX8_readNumber.cls ≠ "java/lang/invoke/MethodHandle" ∧ yX8_readNumber.cls ≠ "java/lang/invoke/VarHandle" ∧ (parseMethodDescriptor yX8_readNumber.desc).map (fun d => d.parameters.length) = some 2 := by decide +kernel
theorem k_X8_readNumber_f180 : Cond.fieldLink RX8 180 RX8 "at" "I" ∈ wsX8_readNumber := by decide +kernel
theorem k_X8_readNumber_f186 : Cond.fieldLink RX8 186 RX8 "fault" "I" ∈ wsX8_readNumber := by decide +kernel
theorem k_X8_readNumber_f55 : Cond.fieldLink RX8 55 RX8 "lineNumber" "[I" ∈ wsX8_readNumber := by decide +kernel
theorem u_X8_readNumber_8 : ∀ w ∈ u_ws RX8 TX8 26, w ∈ wsX8_readNumber := by decide +kernel
set_option maxHeartbeats 4000000 in
set_option maxRecDepth 100000 in
theorem c_X8_readNumber (l : Launch) (D : va_G) (cI : ClassId) (tys : List (ClassId × FieldType)) (ht : tys[0]? = some (cI, .int)) (a : Nat → Nat) (σ : qM) (x1 : Int32) (x2 : Int32) : q_Mev l yX8_readNumber wsX8_readNumber ({ frames := 1, cells := 0, slots := 0, locals := 22 }) [.ref (a 0), .int x1, .int x2] D tys (p_M cI a) σ (f_X8_readNumber σ x1 x2) := by
  refine x_ofWv (cc := cX8_readNumber) (maxL := 5) (ret := none) (by decide +kernel) rfl (pf_M cI a) (Nat.le_of_ble_eq_true rfl) ?_
  intro p e s m below meth c A ls qq h hx hb hml hr hlocks hown hts hK hP hD hA hS hl
  have hown : s.vm.findClass RX8 = some m.cls := hown
  have hl : lv_has ls 5 [(0, .ref (a 0)), (1, .int x1), (2, .int x2)] := hl
  have main : ∀ k9 : Nat, (∀ (σ : qM) (x10 x11 x12 x13 : Int32) (H : Heap) (locs : List Loc) (ls : Array Slot), q_it (D_X8_readNumber) k9 0 σ [x10, x11, x12, x13] = some qq → va_P D vwCl (p_M cI a σ) H → va_S A s.heap H locs → lv_has ls 5 [(0, .ref (a 0)), (1, .int x10), (2, .int x11), (3, .int x12), (4, .int x13)] → W p l e ({ frames := 1, cells := 0, slots := 0, locals := 22 }) s m [.ref (a 0), .int x1, .int x2].toArray below meth c H locs 0 0 (MQ below (va_Qv (fun τ => ((0 : Int32), τ) = qq) (fun τ t => va_P D vwCl ((p_M cI a) τ) t.heap) A) [.ref (a 0), .int x1, .int x2].toArray s 0 0 A) (F0 m 36 ls [])) ∧ (∀ (σ : qM) (x19 x20 x21 x22 : Int32) (H : Heap) (locs : List Loc) (ls : Array Slot), q_it (D_X8_readNumber) k9 1 σ [x19, x20, x21, x22] = some qq → va_P D vwCl (p_M cI a σ) H → va_S A s.heap H locs → lv_has ls 5 [(0, .ref (a 0)), (1, .int x19), (2, .int x20), (3, .int x21), (4, .int x22)] → W p l e ({ frames := 1, cells := 0, slots := 0, locals := 22 }) s m [.ref (a 0), .int x1, .int x2].toArray below meth c H locs 0 0 (MQ below (va_Qv (fun τ => ((0 : Int32), τ) = qq) (fun τ t => va_P D vwCl ((p_M cI a) τ) t.heap) A) [.ref (a 0), .int x1, .int x2].toArray s 0 0 A) (F0 m 88 ls [])) ∧ (∀ (σ : qM) (x38 x39 x40 : Int32) (H : Heap) (locs : List Loc) (ls : Array Slot), q_it (D_X8_readNumber) k9 2 σ [x38, x39, x40] = some qq → va_P D vwCl (p_M cI a σ) H → va_S A s.heap H locs → lv_has ls 5 [(0, .ref (a 0)), (1, .int x38), (2, .int x39), (4, .int x40)] → W p l e ({ frames := 1, cells := 0, slots := 0, locals := 22 }) s m [.ref (a 0), .int x1, .int x2].toArray below meth c H locs 0 0 (MQ below (va_Qv (fun τ => ((0 : Int32), τ) = qq) (fun τ t => va_P D vwCl ((p_M cI a) τ) t.heap) A) [.ref (a 0), .int x1, .int x2].toArray s 0 0 A) (F0 m 104 ls [])) := by
    intro k9
    induction k9 with
    | zero => exact ⟨(fun _ _ _ _ _ _ _ _ h _ _ _ => (q_no (show (none : qR) = some qq from h)).elim), (fun _ _ _ _ _ _ _ _ h _ _ _ => (q_no (show (none : qR) = some qq from h)).elim), (fun _ _ _ _ _ _ _ h _ _ _ => (q_no (show (none : qR) = some qq from h)).elim)⟩
    | succ k9 ih =>
      obtain ⟨i36, i88, i104⟩ := ih
      refine ⟨?_, ?_, ?_⟩
      · intro σ x10 x11 x12 x13 H locs ls h hP hS hl
        have h : b_X8_readNumber_36 (q_it (D_X8_readNumber) k9) σ x10 x11 x12 x13 = some qq := h
        unfold b_X8_readNumber_36 at h
        refine lv_aload_n hx hb dX8_readNumber_36 rfl (lv_at hl 0 rfl) ?_
        refine x_geti (C := RX8) (k := 18) hx hb hts u_X8_readNumber_8 hown hK hP (g_M_0 cI a σ) rfl (by decide) ⟨rfl, rfl, rfl⟩ k_X8_readNumber_f180 rfl dX8_readNumber_37 h (fun x16 h => ?_)
        refine lv_iload_n hx hb dX8_readNumber_40 rfl (lv_at hl 3 rfl) ?_
        refine lv_iconst (v := 2) hx hb dX8_readNumber_41 (by decide +kernel) ?_
        refine x_iadd hx hb dX8_readNumber_42 h (fun x17 h => ?_)
        refine lv_icmp_ge (tgt := 88) hx hb dX8_readNumber_43 (by decide) (fun c18 => ?_) (fun c18 => ?_)
        · have h := if_t c18 h
          exact i88 σ x10 x11 x12 x13 _ _ _ h hP hS (lv_sub hl [0, 1, 2, 3, 4] rfl)
        · have h := if_f c18 h
          refine lv_aload_n hx hb dX8_readNumber_46 rfl (lv_at hl 0 rfl) ?_
          refine x_cVi (p_M cI a) (p_M cI a) (fun τ => τ) [] [] hx hb hml hl.1 hown hts hK hP hD hS hA rfl (c_X8_here l D cI tys ht a σ) gX8_readNumber_X8_here rfl ⟨rfl, rfl⟩ i_X8_here ⟨Nat.le_of_ble_eq_true rfl, Nat.le_of_ble_eq_true rfl⟩ q_frI (g_M_0 cI a σ) rfl rfl (Nat.le_of_ble_eq_true rfl) ⟨Nat.zero_le _, Nat.zero_le _⟩ dX8_readNumber_47 h (fun x24 H locs s23 hP hS h => ?_)
          refine lv_bipush (v := 48) hx hb dX8_readNumber_50 (by decide +kernel) ?_
          refine lv_bipush (v := 57) hx hb dX8_readNumber_52 (by decide +kernel) ?_
          refine x_cSi (p_M cI a) (fun _ => []) (fun _ => s23) [] [.int x24, .int 48, .int 57] hx hb hml hl.1 hown hts hK hP hD hS hA rfl (c_X8_in l D cI tys ht s23 x24 48 57) gX8_readNumber_X8_in rfl ⟨rfl, rfl⟩ i_X8_in ⟨Nat.le_of_ble_eq_true rfl, Nat.le_of_ble_eq_true rfl⟩ (q_fr0 (fun _ => rfl)) rfl (Nat.le_of_ble_eq_true rfl) ⟨Nat.zero_le _, Nat.zero_le _⟩ dX8_readNumber_54 h (fun x26 H locs s25 hP hS h => ?_)
          refine lv_if_eq (tgt := 88) hx hb dX8_readNumber_57 (by decide) (fun c27 => ?_) (fun c27 => ?_)
          · have h := if_t c27 h
            exact i88 s25 x10 x11 x12 x13 _ _ _ h hP hS (lv_sub hl [0, 1, 2, 3, 4] rfl)
          · have h := if_f c27 h
            refine lv_bipush (v := 10) hx hb dX8_readNumber_60 (by decide +kernel) ?_
            refine lv_iload hx hb dX8_readNumber_62 (lv_at hl 4 rfl) ?_
            refine x_imul hx hb dX8_readNumber_64 h (fun x28 h => ?_)
            refine lv_aload_n hx hb dX8_readNumber_65 rfl (lv_at hl 0 rfl) ?_
            refine x_cVi (p_M cI a) (p_M cI a) (fun τ => τ) [.int x28] [] hx hb hml hl.1 hown hts hK hP hD hS hA rfl (c_X8_here l D cI tys ht a s25) gX8_readNumber_X8_here rfl ⟨rfl, rfl⟩ i_X8_here ⟨Nat.le_of_ble_eq_true rfl, Nat.le_of_ble_eq_true rfl⟩ q_frI (g_M_0 cI a s25) rfl rfl (Nat.le_of_ble_eq_true rfl) ⟨Nat.zero_le _, Nat.zero_le _⟩ dX8_readNumber_66 h (fun x30 H locs s29 hP hS h => ?_)
            refine x_iadd hx hb dX8_readNumber_69 h (fun x31 h => ?_)
            refine lv_bipush (v := 48) hx hb dX8_readNumber_70 (by decide +kernel) ?_
            refine x_isub hx hb dX8_readNumber_72 h (fun x32 h => ?_)
            refine lv_istore (lv' := [(4, .int x32), (0, .ref (a 0)), (1, .int x10), (2, .int x11), (3, .int x12)]) hx hb dX8_readNumber_73 hl (by decide) rfl (fun ls hl => ?_)
            refine lv_aload_n hx hb dX8_readNumber_75 rfl (lv_at hl 1 rfl) ?_
            refine lv_dup hx hb dX8_readNumber_76 rfl ?_
            refine x_geti (C := RX8) (k := 18) hx hb hts u_X8_readNumber_8 hown hK hP (g_M_0 cI a s29) rfl (by decide) ⟨rfl, rfl, rfl⟩ k_X8_readNumber_f180 rfl dX8_readNumber_77 h (fun x33 h => ?_)
            refine lv_iconst (v := 1) hx hb dX8_readNumber_80 (by decide +kernel) ?_
            refine x_iadd hx hb dX8_readNumber_81 h (fun x34 h => ?_)
            refine x_puti (p_M cI a) (C := RX8) (k := 18) hx hb hts u_X8_readNumber_8 tyX8 tyX8_ok nmX8 hown hK hP hD hS h (g_M_0 cI a s29) rfl (by decide) ⟨rfl, rfl, rfl⟩ k_X8_readNumber_f180 rfl rfl rfl rfl (Nat.le_of_ble_eq_true rfl) (s_M_0_18 cI a s29 x34) dX8_readNumber_82 (fun H locs s35 hP hS h => ?_)
            refine lv_goto (tgt := 36) hx hb dX8_readNumber_85 (by decide) ?_
            exact i36 s35 x10 x11 x12 x32 _ _ _ h hP hS (lv_sub hl [1, 2, 3, 4, 0] rfl)
      · intro σ x19 x20 x21 x22 H locs ls h hP hS hl
        have h : b_X8_readNumber_88 (q_it (D_X8_readNumber) k9) σ x19 x20 x21 x22 = some qq := h
        unfold b_X8_readNumber_88 at h
        refine lv_aload_n hx hb dX8_readNumber_88 rfl (lv_at hl 0 rfl) ?_
        refine x_geti (C := RX8) (k := 18) hx hb hts u_X8_readNumber_8 hown hK hP (g_M_0 cI a σ) rfl (by decide) ⟨rfl, rfl, rfl⟩ k_X8_readNumber_f180 rfl dX8_readNumber_89 h (fun x36 h => ?_)
        refine lv_iload_n hx hb dX8_readNumber_92 rfl (lv_at hl 3 rfl) ?_
        refine lv_icmp_ne (tgt := 104) hx hb dX8_readNumber_93 (by decide) (fun c37 => ?_) (fun c37 => ?_)
        · have h := if_f c37 h
          exact i104 σ x19 x20 x22 _ _ _ h hP hS (lv_sub hl [0, 1, 2, 4] rfl)
        · have h := if_t c37 h
          refine lv_aload_n hx hb dX8_readNumber_96 rfl (lv_at hl 0 rfl) ?_
          refine lv_aload_n hx hb dX8_readNumber_97 rfl (lv_at hl 0 rfl) ?_
          refine x_geti (C := RX8) (k := 18) hx hb hts u_X8_readNumber_8 hown hK hP (g_M_0 cI a σ) rfl (by decide) ⟨rfl, rfl, rfl⟩ k_X8_readNumber_f180 rfl dX8_readNumber_98 h (fun x41 h => ?_)
          refine x_puti (p_M cI a) (C := RX8) (k := 19) hx hb hts u_X8_readNumber_8 tyX8 tyX8_ok nmX8 hown hK hP hD hS h (g_M_0 cI a σ) rfl (by decide) ⟨rfl, rfl, rfl⟩ k_X8_readNumber_f186 rfl rfl rfl rfl (Nat.le_of_ble_eq_true rfl) (s_M_0_19 cI a σ x41) dX8_readNumber_101 (fun H locs s42 hP hS h => ?_)
          exact i104 s42 x19 x20 x22 _ _ _ h hP hS (lv_sub hl [0, 1, 2, 4] rfl)
      · intro σ x38 x39 x40 H locs ls h hP hS hl
        have h : b_X8_readNumber_104 (q_it (D_X8_readNumber) k9) σ x38 x39 x40 = some qq := h
        unfold b_X8_readNumber_104 at h
        refine lv_aload_n hx hb dX8_readNumber_104 rfl (lv_at hl 0 rfl) ?_
        refine x_getr (C := RX8) (k := 21) hx hb hts u_X8_readNumber_8 hown hK hP (g_M_0 cI a σ) rfl (by decide) ⟨rfl, rfl, rfl⟩ k_X8_readNumber_f55 rfl dX8_readNumber_105 ?_
        refine lv_iconst (v := 3) hx hb dX8_readNumber_108 (by decide +kernel) ?_
        refine lv_iload_n hx hb dX8_readNumber_109 rfl (lv_at hl 1 rfl) ?_
        refine x_imul hx hb dX8_readNumber_110 h (fun x43 h => ?_)
        refine lv_iload_n hx hb dX8_readNumber_111 rfl (lv_at hl 2 rfl) ?_
        refine x_iadd hx hb dX8_readNumber_112 h (fun x44 h => ?_)
        refine lv_iload hx hb dX8_readNumber_113 (lv_at hl 3 rfl) ?_
        refine x_iast (p_M cI a) (t0 := 0) hx hb hK hP hD hS ht h (g_M_16 cI a σ) (fun j9 v9 => (s_M_16 cI a σ _)) dX8_readNumber_115 (fun H locs s45 hP hS h => ?_)
        exact x_vret (p_M cI a) hx hb hr hlocks hP hS dX8_readNumber_116 h
  have i36 : ∀ (σ : qM) (x10 x11 x12 x13 : Int32) (H : Heap) (locs : List Loc) (ls : Array Slot), q_lim (D_X8_readNumber) 0 σ [x10, x11, x12, x13] = some qq → va_P D vwCl (p_M cI a σ) H → va_S A s.heap H locs → lv_has ls 5 [(0, .ref (a 0)), (1, .int x10), (2, .int x11), (3, .int x12), (4, .int x13)] → W p l e ({ frames := 1, cells := 0, slots := 0, locals := 22 }) s m [.ref (a 0), .int x1, .int x2].toArray below meth c H locs 0 0 (MQ below (va_Qv (fun τ => ((0 : Int32), τ) = qq) (fun τ t => va_P D vwCl ((p_M cI a) τ) t.heap) A) [.ref (a 0), .int x1, .int x2].toArray s 0 0 A) (F0 m 36 ls []) := by
    intro σ x10 x11 x12 x13 H locs ls h hP hS hl
    obtain ⟨k9, h⟩ := q_lim_n h
    exact (main k9).1 σ x10 x11 x12 x13 H locs ls h hP hS hl
  have i88 : ∀ (σ : qM) (x19 x20 x21 x22 : Int32) (H : Heap) (locs : List Loc) (ls : Array Slot), q_lim (D_X8_readNumber) 1 σ [x19, x20, x21, x22] = some qq → va_P D vwCl (p_M cI a σ) H → va_S A s.heap H locs → lv_has ls 5 [(0, .ref (a 0)), (1, .int x19), (2, .int x20), (3, .int x21), (4, .int x22)] → W p l e ({ frames := 1, cells := 0, slots := 0, locals := 22 }) s m [.ref (a 0), .int x1, .int x2].toArray below meth c H locs 0 0 (MQ below (va_Qv (fun τ => ((0 : Int32), τ) = qq) (fun τ t => va_P D vwCl ((p_M cI a) τ) t.heap) A) [.ref (a 0), .int x1, .int x2].toArray s 0 0 A) (F0 m 88 ls []) := by
    intro σ x19 x20 x21 x22 H locs ls h hP hS hl
    obtain ⟨k9, h⟩ := q_lim_n h
    exact (main k9).2.1 σ x19 x20 x21 x22 H locs ls h hP hS hl
  have i104 : ∀ (σ : qM) (x38 x39 x40 : Int32) (H : Heap) (locs : List Loc) (ls : Array Slot), q_lim (D_X8_readNumber) 2 σ [x38, x39, x40] = some qq → va_P D vwCl (p_M cI a σ) H → va_S A s.heap H locs → lv_has ls 5 [(0, .ref (a 0)), (1, .int x38), (2, .int x39), (4, .int x40)] → W p l e ({ frames := 1, cells := 0, slots := 0, locals := 22 }) s m [.ref (a 0), .int x1, .int x2].toArray below meth c H locs 0 0 (MQ below (va_Qv (fun τ => ((0 : Int32), τ) = qq) (fun τ t => va_P D vwCl ((p_M cI a) τ) t.heap) A) [.ref (a 0), .int x1, .int x2].toArray s 0 0 A) (F0 m 104 ls []) := by
    intro σ x38 x39 x40 H locs ls h hP hS hl
    obtain ⟨k9, h⟩ := q_lim_n h
    exact (main k9).2.2 σ x38 x39 x40 H locs ls h hP hS hl
  have h : e_X8_readNumber (q_lim (D_X8_readNumber)) σ x1 x2 = some qq := h
  unfold e_X8_readNumber at h
  refine lv_aload_n hx hb dX8_readNumber_0 rfl (lv_at hl 0 rfl) ?_
  refine x_cVi (p_M cI a) (p_M cI a) (fun τ => τ) [] [] hx hb hml hl.1 hown hts hK hP hD hS hA rfl (c_X8_here l D cI tys ht a σ) gX8_readNumber_X8_here rfl ⟨rfl, rfl⟩ i_X8_here ⟨Nat.le_of_ble_eq_true rfl, Nat.le_of_ble_eq_true rfl⟩ q_frI (g_M_0 cI a σ) rfl rfl (Nat.le_of_ble_eq_true rfl) ⟨Nat.zero_le _, Nat.zero_le _⟩ dX8_readNumber_1 h (fun x4 H locs s3 hP hS h => ?_)
  refine lv_bipush (v := 32) hx hb dX8_readNumber_4 (by decide +kernel) ?_
  refine lv_icmp_eq (tgt := 18) hx hb dX8_readNumber_6 (by decide) (fun c5 => ?_) (fun c5 => ?_)
  · have h := if_t c5 h
    refine lv_aload_n hx hb dX8_readNumber_18 rfl (lv_at hl 0 rfl) ?_
    refine lv_dup hx hb dX8_readNumber_19 rfl ?_
    refine x_geti (C := RX8) (k := 18) hx hb hts u_X8_readNumber_8 hown hK hP (g_M_0 cI a s3) rfl (by decide) ⟨rfl, rfl, rfl⟩ k_X8_readNumber_f180 rfl dX8_readNumber_20 h (fun x6 h => ?_)
    refine lv_iconst (v := 1) hx hb dX8_readNumber_23 (by decide +kernel) ?_
    refine x_iadd hx hb dX8_readNumber_24 h (fun x7 h => ?_)
    refine x_puti (p_M cI a) (C := RX8) (k := 18) hx hb hts u_X8_readNumber_8 tyX8 tyX8_ok nmX8 hown hK hP hD hS h (g_M_0 cI a s3) rfl (by decide) ⟨rfl, rfl, rfl⟩ k_X8_readNumber_f180 rfl rfl rfl rfl (Nat.le_of_ble_eq_true rfl) (s_M_0_18 cI a s3 x7) dX8_readNumber_25 (fun H locs s8 hP hS h => ?_)
    refine lv_aload_n hx hb dX8_readNumber_28 rfl (lv_at hl 0 rfl) ?_
    refine x_geti (C := RX8) (k := 18) hx hb hts u_X8_readNumber_8 hown hK hP (g_M_0 cI a s8) rfl (by decide) ⟨rfl, rfl, rfl⟩ k_X8_readNumber_f180 rfl dX8_readNumber_29 h (fun x9 h => ?_)
    refine lv_istore_n (lv' := [(3, .int x9), (0, .ref (a 0)), (1, .int x1), (2, .int x2)]) hx hb dX8_readNumber_32 rfl hl (by decide) rfl (fun ls hl => ?_)
    refine lv_iconst (v := 0) hx hb dX8_readNumber_33 (by decide +kernel) ?_
    refine lv_istore (lv' := [(4, .int 0), (3, .int x9), (0, .ref (a 0)), (1, .int x1), (2, .int x2)]) hx hb dX8_readNumber_34 hl (by decide) rfl (fun ls hl => ?_)
    exact i36 s8 x1 x2 x9 0 _ _ _ h hP hS (lv_sub hl [2, 3, 4, 1, 0] rfl)
  · have h := if_f c5 h
    refine lv_aload_n hx hb dX8_readNumber_9 rfl (lv_at hl 0 rfl) ?_
    refine lv_aload_n hx hb dX8_readNumber_10 rfl (lv_at hl 0 rfl) ?_
    refine x_geti (C := RX8) (k := 18) hx hb hts u_X8_readNumber_8 hown hK hP (g_M_0 cI a s3) rfl (by decide) ⟨rfl, rfl, rfl⟩ k_X8_readNumber_f180 rfl dX8_readNumber_11 h (fun x14 h => ?_)
    refine x_puti (p_M cI a) (C := RX8) (k := 19) hx hb hts u_X8_readNumber_8 tyX8 tyX8_ok nmX8 hown hK hP hD hS h (g_M_0 cI a s3) rfl (by decide) ⟨rfl, rfl, rfl⟩ k_X8_readNumber_f186 rfl rfl rfl rfl (Nat.le_of_ble_eq_true rfl) (s_M_0_19 cI a s3 x14) dX8_readNumber_14 (fun H locs s15 hP hS h => ?_)
    exact x_vret (p_M cI a) hx hb hr hlocks hP hS dX8_readNumber_17 h
/-! ===== VectorRoundsModel.readLine(I)V: world M ===== -/
theorem i_X8_readLine : yX8_readLine.cls = RX8 ∧ yX8_readLine.cls ≠ "java/lang/invoke/MethodHandle" ∧ yX8_readLine.cls ≠ "java/lang/invoke/VarHandle" ∧ (parseMethodDescriptor yX8_readLine.desc).map (fun d => d.parameters.length) = some 1 := by decide +kernel
theorem k_X8_readLine_f180 : Cond.fieldLink RX8 180 RX8 "at" "I" ∈ wsX8_readLine := by decide +kernel
theorem k_X8_readLine_f186 : Cond.fieldLink RX8 186 RX8 "fault" "I" ∈ wsX8_readLine := by decide +kernel
theorem k_X8_readLine_f52 : Cond.fieldLink RX8 52 RX8 "lineKind" "[I" ∈ wsX8_readLine := by decide +kernel
theorem u_X8_readLine_8 : ∀ w ∈ u_ws RX8 TX8 26, w ∈ wsX8_readLine := by decide +kernel
set_option maxHeartbeats 4000000 in
set_option maxRecDepth 100000 in
theorem c_X8_readLine (l : Launch) (D : va_G) (cI : ClassId) (tys : List (ClassId × FieldType)) (ht : tys[0]? = some (cI, .int)) (a : Nat → Nat) (σ : qM) (x1 : Int32) : q_Mev l yX8_readLine wsX8_readLine ({ frames := 2, cells := 0, slots := 0, locals := 46 }) [.ref (a 0), .int x1] D tys (p_M cI a) σ (f_X8_readLine σ x1) := by
  refine x_ofWv (cc := cX8_readLine) (maxL := 4) (ret := none) (by decide +kernel) rfl (pf_M cI a) (Nat.le_of_ble_eq_true rfl) ?_
  intro p e s m below meth c A ls qq h hx hb hml hr hlocks hown hts hK hP hD hA hS hl
  have hown : s.vm.findClass RX8 = some m.cls := hown
  have hl : lv_has ls 4 [(0, .ref (a 0)), (1, .int x1)] := hl
  have main : ∀ k9 : Nat, (∀ (σ : qM) (x5 x6 : Int32) (H : Heap) (locs : List Loc) (ls : Array Slot), q_it (D_X8_readLine) k9 0 σ [x5, x6] = some qq → va_P D vwCl (p_M cI a σ) H → va_S A s.heap H locs → lv_has ls 4 [(0, .ref (a 0)), (1, .int x5), (2, .int x6)] → W p l e ({ frames := 2, cells := 0, slots := 0, locals := 46 }) s m [.ref (a 0), .int x1].toArray below meth c H locs 0 0 (MQ below (va_Qv (fun τ => ((0 : Int32), τ) = qq) (fun τ t => va_P D vwCl ((p_M cI a) τ) t.heap) A) [.ref (a 0), .int x1].toArray s 0 0 A) (F0 m 68 ls [])) ∧ (∀ (σ : qM) (x21 x22 x23 : Int32) (H : Heap) (locs : List Loc) (ls : Array Slot), q_it (D_X8_readLine) k9 1 σ [x21, x22, x23] = some qq → va_P D vwCl (p_M cI a σ) H → va_S A s.heap H locs → lv_has ls 4 [(0, .ref (a 0)), (1, .int x21), (2, .int x22), (3, .int x23)] → W p l e ({ frames := 2, cells := 0, slots := 0, locals := 46 }) s m [.ref (a 0), .int x1].toArray below meth c H locs 0 0 (MQ below (va_Qv (fun τ => ((0 : Int32), τ) = qq) (fun τ t => va_P D vwCl ((p_M cI a) τ) t.heap) A) [.ref (a 0), .int x1].toArray s 0 0 A) (F0 m 87 ls [])) := by
    intro k9
    induction k9 with
    | zero => exact ⟨(fun _ _ _ _ _ _ h _ _ _ => (q_no (show (none : qR) = some qq from h)).elim), (fun _ _ _ _ _ _ _ h _ _ _ => (q_no (show (none : qR) = some qq from h)).elim)⟩
    | succ k9 ih =>
      obtain ⟨i68, i87⟩ := ih
      refine ⟨?_, ?_⟩
      · intro σ x5 x6 H locs ls h hP hS hl
        have h : b_X8_readLine_68 (q_it (D_X8_readLine) k9) σ x5 x6 = some qq := h
        unfold b_X8_readLine_68 at h
        refine lv_aload_n hx hb dX8_readLine_68 rfl (lv_at hl 0 rfl) ?_
        refine x_getr (C := RX8) (k := 20) hx hb hts u_X8_readLine_8 hown hK hP (g_M_0 cI a σ) rfl (by decide) ⟨rfl, rfl, rfl⟩ k_X8_readLine_f52 rfl dX8_readLine_69 ?_
        refine lv_iload_n hx hb dX8_readLine_72 rfl (lv_at hl 1 rfl) ?_
        refine lv_iload_n hx hb dX8_readLine_73 rfl (lv_at hl 2 rfl) ?_
        refine x_iast (p_M cI a) (t0 := 0) hx hb hK hP hD hS ht h (g_M_15 cI a σ) (fun j9 v9 => (s_M_15 cI a σ _)) dX8_readLine_74 (fun H locs s17 hP hS h => ?_)
        refine lv_aload_n hx hb dX8_readLine_75 rfl (lv_at hl 0 rfl) ?_
        refine lv_dup hx hb dX8_readLine_76 rfl ?_
        refine x_geti (C := RX8) (k := 18) hx hb hts u_X8_readLine_8 hown hK hP (g_M_0 cI a s17) rfl (by decide) ⟨rfl, rfl, rfl⟩ k_X8_readLine_f180 rfl dX8_readLine_77 h (fun x18 h => ?_)
        refine lv_iconst (v := 1) hx hb dX8_readLine_80 (by decide +kernel) ?_
        refine x_iadd hx hb dX8_readLine_81 h (fun x19 h => ?_)
        refine x_puti (p_M cI a) (C := RX8) (k := 18) hx hb hts u_X8_readLine_8 tyX8 tyX8_ok nmX8 hown hK hP hD hS h (g_M_0 cI a s17) rfl (by decide) ⟨rfl, rfl, rfl⟩ k_X8_readLine_f180 rfl rfl rfl rfl (Nat.le_of_ble_eq_true rfl) (s_M_0_18 cI a s17 x19) dX8_readLine_82 (fun H locs s20 hP hS h => ?_)
        refine lv_iconst (v := 0) hx hb dX8_readLine_85 (by decide +kernel) ?_
        refine lv_istore_n (lv' := [(3, .int 0), (0, .ref (a 0)), (1, .int x5), (2, .int x6)]) hx hb dX8_readLine_86 rfl hl (by decide) rfl (fun ls hl => ?_)
        exact i87 s20 x5 x6 0 _ _ _ h hP hS (lv_sub hl [1, 2, 3, 0] rfl)
      · intro σ x21 x22 x23 H locs ls h hP hS hl
        have h : b_X8_readLine_87 (q_it (D_X8_readLine) k9) σ x21 x22 x23 = some qq := h
        unfold b_X8_readLine_87 at h
        refine lv_iload_n hx hb dX8_readLine_87 rfl (lv_at hl 3 rfl) ?_
        refine lv_iload_n hx hb dX8_readLine_88 rfl (lv_at hl 2 rfl) ?_
        refine x_cSi (p_M cI a) (fun _ => []) (fun _ => σ) [.int x23] [.int x22] hx hb hml hl.1 hown hts hK hP hD hS hA rfl (c_X8_numbersOf l D cI tys ht σ x22) gX8_readLine_X8_numbersOf rfl ⟨rfl, rfl⟩ i_X8_numbersOf ⟨Nat.le_of_ble_eq_true rfl, Nat.le_of_ble_eq_true rfl⟩ (q_fr0 (fun _ => rfl)) rfl (Nat.le_of_ble_eq_true rfl) ⟨Nat.zero_le _, Nat.zero_le _⟩ dX8_readLine_89 h (fun x25 H locs s24 hP hS h => ?_)
        refine lv_icmp_ge (tgt := 114) hx hb dX8_readLine_92 (by decide) (fun c26 => ?_) (fun c26 => ?_)
        · have h := if_t c26 h
          exact x_vret (p_M cI a) hx hb hr hlocks hP hS dX8_readLine_114 h
        · have h := if_f c26 h
          refine lv_aload_n hx hb dX8_readLine_95 rfl (lv_at hl 0 rfl) ?_
          refine x_geti (C := RX8) (k := 19) hx hb hts u_X8_readLine_8 hown hK hP (g_M_0 cI a s24) rfl (by decide) ⟨rfl, rfl, rfl⟩ k_X8_readLine_f186 rfl dX8_readLine_96 h (fun x27 h => ?_)
          refine lv_if_ge (tgt := 114) hx hb dX8_readLine_99 (by decide) (fun c28 => ?_) (fun c28 => ?_)
          · have h := if_t c28 h
            exact x_vret (p_M cI a) hx hb hr hlocks hP hS dX8_readLine_114 h
          · have h := if_f c28 h
            refine lv_aload_n hx hb dX8_readLine_102 rfl (lv_at hl 0 rfl) ?_
            refine lv_iload_n hx hb dX8_readLine_103 rfl (lv_at hl 1 rfl) ?_
            refine lv_iload_n hx hb dX8_readLine_104 rfl (lv_at hl 3 rfl) ?_
            refine x_cVv (p_M cI a) (p_M cI a) (fun τ => τ) [] [.int x21, .int x23] hx hb hml hl.1 hown hts hK hP hD hS hA rfl (c_X8_readNumber l D cI tys ht a s24 x21 x23) gX8_readLine_X8_readNumber rfl ⟨rfl, rfl⟩ i_X8_readNumber ⟨Nat.le_of_ble_eq_true rfl, Nat.le_of_ble_eq_true rfl⟩ q_frI (g_M_0 cI a s24) rfl rfl (Nat.le_of_ble_eq_true rfl) ⟨Nat.zero_le _, Nat.zero_le _⟩ dX8_readLine_105 h (fun H locs s29 hP hS h => ?_)
            refine x_iinc (k := 3) (w := 1) hx hb dX8_readLine_108 hl rfl (by decide +kernel) (by decide) (fun v9 => [(3, .int v9), (0, .ref (a 0)), (1, .int x21), (2, .int x22)]) (fun v9 => rfl) h (fun x30 ls hl h => ?_)
            have hl : lv_has ls 4 [(3, .int x30), (0, .ref (a 0)), (1, .int x21), (2, .int x22)] := hl
            refine lv_goto (tgt := 87) hx hb dX8_readLine_111 (by decide) ?_
            exact i87 s29 x21 x22 x30 _ _ _ h hP hS (lv_sub hl [1, 2, 3, 0] rfl)
  have i68 : ∀ (σ : qM) (x5 x6 : Int32) (H : Heap) (locs : List Loc) (ls : Array Slot), q_lim (D_X8_readLine) 0 σ [x5, x6] = some qq → va_P D vwCl (p_M cI a σ) H → va_S A s.heap H locs → lv_has ls 4 [(0, .ref (a 0)), (1, .int x5), (2, .int x6)] → W p l e ({ frames := 2, cells := 0, slots := 0, locals := 46 }) s m [.ref (a 0), .int x1].toArray below meth c H locs 0 0 (MQ below (va_Qv (fun τ => ((0 : Int32), τ) = qq) (fun τ t => va_P D vwCl ((p_M cI a) τ) t.heap) A) [.ref (a 0), .int x1].toArray s 0 0 A) (F0 m 68 ls []) := by
    intro σ x5 x6 H locs ls h hP hS hl
    obtain ⟨k9, h⟩ := q_lim_n h
    exact (main k9).1 σ x5 x6 H locs ls h hP hS hl
  have i87 : ∀ (σ : qM) (x21 x22 x23 : Int32) (H : Heap) (locs : List Loc) (ls : Array Slot), q_lim (D_X8_readLine) 1 σ [x21, x22, x23] = some qq → va_P D vwCl (p_M cI a σ) H → va_S A s.heap H locs → lv_has ls 4 [(0, .ref (a 0)), (1, .int x21), (2, .int x22), (3, .int x23)] → W p l e ({ frames := 2, cells := 0, slots := 0, locals := 46 }) s m [.ref (a 0), .int x1].toArray below meth c H locs 0 0 (MQ below (va_Qv (fun τ => ((0 : Int32), τ) = qq) (fun τ t => va_P D vwCl ((p_M cI a) τ) t.heap) A) [.ref (a 0), .int x1].toArray s 0 0 A) (F0 m 87 ls []) := by
    intro σ x21 x22 x23 H locs ls h hP hS hl
    obtain ⟨k9, h⟩ := q_lim_n h
    exact (main k9).2 σ x21 x22 x23 H locs ls h hP hS hl
  have h : e_X8_readLine (q_lim (D_X8_readLine)) σ x1 = some qq := h
  unfold e_X8_readLine at h
  refine lv_aload_n hx hb dX8_readLine_0 rfl (lv_at hl 0 rfl) ?_
  refine x_cVi (p_M cI a) (p_M cI a) (fun τ => τ) [] [] hx hb hml hl.1 hown hts hK hP hD hS hA rfl (c_X8_here l D cI tys ht a σ) gX8_readLine_X8_here rfl ⟨rfl, rfl⟩ i_X8_here ⟨Nat.le_of_ble_eq_true rfl, Nat.le_of_ble_eq_true rfl⟩ q_frI (g_M_0 cI a σ) rfl rfl (Nat.le_of_ble_eq_true rfl) ⟨Nat.zero_le _, Nat.zero_le _⟩ dX8_readLine_1 h (fun x3 H locs s2 hP hS h => ?_)
  refine lv_istore_n (lv' := [(2, .int x3), (0, .ref (a 0)), (1, .int x1)]) hx hb dX8_readLine_4 rfl hl (by decide) rfl (fun ls hl => ?_)
  refine lv_iload_n hx hb dX8_readLine_5 rfl (lv_at hl 0 rfl) ?_
  refine lv_bipush (v := 110) hx hb dX8_readLine_6 (by decide +kernel) ?_
  refine lv_icmp_eq (tgt := 68) hx hb dX8_readLine_8 (by decide) (fun c4 => ?_) (fun c4 => ?_)
  · have h := if_t c4 h
    exact i68 s2 x1 x3 _ _ _ h hP hS (lv_sub hl [1, 2, 0] rfl)
  · have h := if_f c4 h
    refine lv_iload_n hx hb dX8_readLine_11 rfl (lv_at hl 0 rfl) ?_
    refine lv_bipush (v := 108) hx hb dX8_readLine_12 (by decide +kernel) ?_
    refine lv_icmp_eq (tgt := 68) hx hb dX8_readLine_14 (by decide) (fun c7 => ?_) (fun c7 => ?_)
    · have h := if_t c7 h
      exact i68 s2 x1 x3 _ _ _ h hP hS (lv_sub hl [1, 2, 0] rfl)
    · have h := if_f c7 h
      refine lv_iload_n hx hb dX8_readLine_17 rfl (lv_at hl 0 rfl) ?_
      refine lv_bipush (v := 99) hx hb dX8_readLine_18 (by decide +kernel) ?_
      refine lv_icmp_eq (tgt := 68) hx hb dX8_readLine_20 (by decide) (fun c8 => ?_) (fun c8 => ?_)
      · have h := if_t c8 h
        exact i68 s2 x1 x3 _ _ _ h hP hS (lv_sub hl [1, 2, 0] rfl)
      · have h := if_f c8 h
        refine lv_iload_n hx hb dX8_readLine_23 rfl (lv_at hl 0 rfl) ?_
        refine lv_bipush (v := 117) hx hb dX8_readLine_24 (by decide +kernel) ?_
        refine lv_icmp_eq (tgt := 68) hx hb dX8_readLine_26 (by decide) (fun c9 => ?_) (fun c9 => ?_)
        · have h := if_t c9 h
          exact i68 s2 x1 x3 _ _ _ h hP hS (lv_sub hl [1, 2, 0] rfl)
        · have h := if_f c9 h
          refine lv_iload_n hx hb dX8_readLine_29 rfl (lv_at hl 0 rfl) ?_
          refine lv_bipush (v := 119) hx hb dX8_readLine_30 (by decide +kernel) ?_
          refine lv_icmp_eq (tgt := 68) hx hb dX8_readLine_32 (by decide) (fun c10 => ?_) (fun c10 => ?_)
          · have h := if_t c10 h
            exact i68 s2 x1 x3 _ _ _ h hP hS (lv_sub hl [1, 2, 0] rfl)
          · have h := if_f c10 h
            refine lv_iload_n hx hb dX8_readLine_35 rfl (lv_at hl 0 rfl) ?_
            refine lv_bipush (v := 104) hx hb dX8_readLine_36 (by decide +kernel) ?_
            refine lv_icmp_eq (tgt := 68) hx hb dX8_readLine_38 (by decide) (fun c11 => ?_) (fun c11 => ?_)
            · have h := if_t c11 h
              exact i68 s2 x1 x3 _ _ _ h hP hS (lv_sub hl [1, 2, 0] rfl)
            · have h := if_f c11 h
              refine lv_iload_n hx hb dX8_readLine_41 rfl (lv_at hl 0 rfl) ?_
              refine lv_bipush (v := 113) hx hb dX8_readLine_42 (by decide +kernel) ?_
              refine lv_icmp_eq (tgt := 68) hx hb dX8_readLine_44 (by decide) (fun c12 => ?_) (fun c12 => ?_)
              · have h := if_t c12 h
                exact i68 s2 x1 x3 _ _ _ h hP hS (lv_sub hl [1, 2, 0] rfl)
              · have h := if_f c12 h
                refine lv_iload_n hx hb dX8_readLine_47 rfl (lv_at hl 0 rfl) ?_
                refine lv_bipush (v := 100) hx hb dX8_readLine_48 (by decide +kernel) ?_
                refine lv_icmp_eq (tgt := 68) hx hb dX8_readLine_50 (by decide) (fun c13 => ?_) (fun c13 => ?_)
                · have h := if_t c13 h
                  exact i68 s2 x1 x3 _ _ _ h hP hS (lv_sub hl [1, 2, 0] rfl)
                · have h := if_f c13 h
                  refine lv_iload_n hx hb dX8_readLine_53 rfl (lv_at hl 0 rfl) ?_
                  refine lv_bipush (v := 114) hx hb dX8_readLine_54 (by decide +kernel) ?_
                  refine lv_icmp_eq (tgt := 68) hx hb dX8_readLine_56 (by decide) (fun c14 => ?_) (fun c14 => ?_)
                  · have h := if_t c14 h
                    exact i68 s2 x1 x3 _ _ _ h hP hS (lv_sub hl [1, 2, 0] rfl)
                  · have h := if_f c14 h
                    refine lv_aload_n hx hb dX8_readLine_59 rfl (lv_at hl 1 rfl) ?_
                    refine lv_aload_n hx hb dX8_readLine_60 rfl (lv_at hl 1 rfl) ?_
                    refine x_geti (C := RX8) (k := 18) hx hb hts u_X8_readLine_8 hown hK hP (g_M_0 cI a s2) rfl (by decide) ⟨rfl, rfl, rfl⟩ k_X8_readLine_f180 rfl dX8_readLine_61 h (fun x15 h => ?_)
                    refine x_puti (p_M cI a) (C := RX8) (k := 19) hx hb hts u_X8_readLine_8 tyX8 tyX8_ok nmX8 hown hK hP hD hS h (g_M_0 cI a s2) rfl (by decide) ⟨rfl, rfl, rfl⟩ k_X8_readLine_f186 rfl rfl rfl rfl (Nat.le_of_ble_eq_true rfl) (s_M_0_19 cI a s2 x15) dX8_readLine_64 (fun H locs s16 hP hS h => ?_)
                    exact x_vret (p_M cI a) hx hb hr hlocks hP hS dX8_readLine_67 h
/-! ===== VectorRoundsModel.doLine(I)I: world M ===== -/
theorem i_X8_doLine : yX8_doLine.cls = RX8 ∧ yX8_doLine.cls ≠ "java/lang/invoke/MethodHandle" ∧ yX8_doLine.cls ≠ "java/lang/invoke/VarHandle" ∧ (parseMethodDescriptor yX8_doLine.desc).map (fun d => d.parameters.length) = some 1 := by decide +kernel
theorem k_X8_doLine_f52 : Cond.fieldLink RX8 52 RX8 "lineKind" "[I" ∈ wsX8_doLine := by decide +kernel
theorem k_X8_doLine_f55 : Cond.fieldLink RX8 55 RX8 "lineNumber" "[I" ∈ wsX8_doLine := by decide +kernel
theorem u_X8_doLine_8 : ∀ w ∈ u_ws RX8 TX8 26, w ∈ wsX8_doLine := by decide +kernel
set_option maxHeartbeats 4000000 in
set_option maxRecDepth 100000 in
theorem c_X8_doLine (l : Launch) (D : va_G) (cI : ClassId) (tys : List (ClassId × FieldType)) (ht : tys[0]? = some (cI, .int)) (a : Nat → Nat) (σ : qM) (x1 : Int32) : q_Met l yX8_doLine wsX8_doLine ({ frames := 4, cells := 0, slots := 0, locals := 113 }) [.ref (a 0), .int x1] D tys (p_M cI a) σ (f_X8_doLine σ x1) := by
  refine x_ofWi (cc := cX8_doLine) (maxL := 4) (ret := (some .int)) (by decide +kernel) rfl (pf_M cI a) (Nat.le_of_ble_eq_true rfl) ?_
  intro p e s m below meth c A ls qq h hx hb hml hr hlocks hown hts hK hP hD hA hS hl
  have hown : s.vm.findClass RX8 = some m.cls := hown
  have hl : lv_has ls 4 [(0, .ref (a 0)), (1, .int x1)] := hl
  unfold f_X8_doLine at h
  refine lv_aload_n hx hb dX8_doLine_0 rfl (lv_at hl 0 rfl) ?_
  refine x_getr (C := RX8) (k := 21) hx hb hts u_X8_doLine_8 hown hK hP (g_M_0 cI a σ) rfl (by decide) ⟨rfl, rfl, rfl⟩ k_X8_doLine_f55 rfl dX8_doLine_1 ?_
  refine lv_iconst (v := 3) hx hb dX8_doLine_4 (by decide +kernel) ?_
  refine lv_iload_n hx hb dX8_doLine_5 rfl (lv_at hl 1 rfl) ?_
  refine x_imul hx hb dX8_doLine_6 h (fun x2 h => ?_)
  refine x_iald (t0 := 0) hx hb hK hP ht h (g_M_16 cI a σ) dX8_doLine_7 (fun x3 h => ?_)
  refine lv_istore_n (lv' := [(2, .int x3), (0, .ref (a 0)), (1, .int x1)]) hx hb dX8_doLine_8 rfl hl (by decide) rfl (fun ls hl => ?_)
  refine lv_aload_n hx hb dX8_doLine_9 rfl (lv_at hl 1 rfl) ?_
  refine x_getr (C := RX8) (k := 21) hx hb hts u_X8_doLine_8 hown hK hP (g_M_0 cI a σ) rfl (by decide) ⟨rfl, rfl, rfl⟩ k_X8_doLine_f55 rfl dX8_doLine_10 ?_
  refine lv_iconst (v := 3) hx hb dX8_doLine_13 (by decide +kernel) ?_
  refine lv_iload_n hx hb dX8_doLine_14 rfl (lv_at hl 2 rfl) ?_
  refine x_imul hx hb dX8_doLine_15 h (fun x4 h => ?_)
  refine lv_iconst (v := 1) hx hb dX8_doLine_16 (by decide +kernel) ?_
  refine x_iadd hx hb dX8_doLine_17 h (fun x5 h => ?_)
  refine x_iald (t0 := 0) hx hb hK hP ht h (g_M_16 cI a σ) dX8_doLine_18 (fun x6 h => ?_)
  refine lv_istore_n (lv' := [(3, .int x6), (2, .int x3), (0, .ref (a 0)), (1, .int x1)]) hx hb dX8_doLine_19 rfl hl (by decide) rfl (fun ls hl => ?_)
  refine lv_aload_n hx hb dX8_doLine_20 rfl (lv_at hl 2 rfl) ?_
  refine x_getr (C := RX8) (k := 20) hx hb hts u_X8_doLine_8 hown hK hP (g_M_0 cI a σ) rfl (by decide) ⟨rfl, rfl, rfl⟩ k_X8_doLine_f52 rfl dX8_doLine_21 ?_
  refine lv_iload_n hx hb dX8_doLine_24 rfl (lv_at hl 3 rfl) ?_
  refine x_iald (t0 := 0) hx hb hK hP ht h (g_M_15 cI a σ) dX8_doLine_25 (fun x7 h => ?_)
  by_cases c8 : x7 = 99
  · have h := if_t c8 h
    refine x_tsw_in (v := 99) (off := 120) (tgt := 146) hx hb dX8_doLine_26 c8 (by decide +kernel) ?_
    refine lv_aload_n hx hb dX8_doLine_146 rfl (lv_at hl 2 rfl) ?_
    refine lv_iload_n hx hb dX8_doLine_147 rfl (lv_at hl 1 rfl) ?_
    refine lv_iconst (v := 0) hx hb dX8_doLine_148 (by decide +kernel) ?_
    refine x_cVi (p_M cI a) (p_M cI a) (fun τ => τ) [] [.int x3, .int 0] hx hb hml hl.1 hown hts hK hP hD hS hA rfl (c_X8_turn l D cI tys ht a σ x3 0) gX8_doLine_X8_turn rfl ⟨rfl, rfl⟩ i_X8_turn ⟨Nat.le_of_ble_eq_true rfl, Nat.le_of_ble_eq_true rfl⟩ q_frI (g_M_0 cI a σ) rfl rfl (Nat.le_of_ble_eq_true rfl) ⟨Nat.zero_le _, Nat.zero_le _⟩ dX8_doLine_149 h (fun x10 H locs s9 hP hS h => ?_)
    exact x_iret (p_M cI a) hx hb hr hlocks hP hS dX8_doLine_152 h
  have h := if_f c8 h
  by_cases c11 : x7 = 100
  · have h := if_t c11 h
    refine x_tsw_in (v := 100) (off := 155) (tgt := 181) hx hb dX8_doLine_26 c11 (by decide +kernel) ?_
    refine lv_aload_n hx hb dX8_doLine_181 rfl (lv_at hl 2 rfl) ?_
    refine lv_iconst (v := 2) hx hb dX8_doLine_182 (by decide +kernel) ?_
    refine lv_iload_n hx hb dX8_doLine_183 rfl (lv_at hl 1 rfl) ?_
    refine x_cVi (p_M cI a) (p_M cI a) (fun τ => τ) [] [.int 2, .int x3] hx hb hml hl.1 hown hts hK hP hD hS hA rfl (c_X8_rule l D cI tys ht a σ 2 x3) gX8_doLine_X8_rule rfl ⟨rfl, rfl⟩ i_X8_rule ⟨Nat.le_of_ble_eq_true rfl, Nat.le_of_ble_eq_true rfl⟩ q_frI (g_M_0 cI a σ) rfl rfl (Nat.le_of_ble_eq_true rfl) ⟨Nat.zero_le _, Nat.zero_le _⟩ dX8_doLine_184 h (fun x13 H locs s12 hP hS h => ?_)
    exact x_iret (p_M cI a) hx hb hr hlocks hP hS dX8_doLine_187 h
  have h := if_f c11 h
  by_cases c14 : x7 = 101
  · have h := if_t c14 h
    refine x_tsw_in (v := 101) (off := 162) (tgt := 188) hx hb dX8_doLine_26 c14 (by decide +kernel) ?_
    refine lv_aload_n hx hb dX8_doLine_188 rfl (lv_at hl 2 rfl) ?_
    refine lv_iload_n hx hb dX8_doLine_189 rfl (lv_at hl 1 rfl) ?_
    refine x_cVi (p_M cI a) (p_M cI a) (fun τ => τ) [] [.int x3] hx hb hml hl.1 hown hts hK hP hD hS hA rfl (c_X8_rounds l D cI tys ht a σ x3) gX8_doLine_X8_rounds rfl ⟨rfl, rfl⟩ i_X8_rounds ⟨Nat.le_of_ble_eq_true rfl, Nat.le_of_ble_eq_true rfl⟩ q_frI (g_M_0 cI a σ) rfl rfl (Nat.le_of_ble_eq_true rfl) ⟨Nat.zero_le _, Nat.zero_le _⟩ dX8_doLine_190 h (fun x16 H locs s15 hP hS h => ?_)
    exact x_iret (p_M cI a) hx hb hr hlocks hP hS dX8_doLine_193 h
  have h := if_f c14 h
  by_cases c17 : x7 = 102
  · have h := if_t c17 h
    refine x_tsw_in (v := 102) (off := 162) (tgt := 188) hx hb dX8_doLine_26 c17 (by decide +kernel) ?_
    refine lv_aload_n hx hb dX8_doLine_188 rfl (lv_at hl 2 rfl) ?_
    refine lv_iload_n hx hb dX8_doLine_189 rfl (lv_at hl 1 rfl) ?_
    refine x_cVi (p_M cI a) (p_M cI a) (fun τ => τ) [] [.int x3] hx hb hml hl.1 hown hts hK hP hD hS hA rfl (c_X8_rounds l D cI tys ht a σ x3) gX8_doLine_X8_rounds rfl ⟨rfl, rfl⟩ i_X8_rounds ⟨Nat.le_of_ble_eq_true rfl, Nat.le_of_ble_eq_true rfl⟩ q_frI (g_M_0 cI a σ) rfl rfl (Nat.le_of_ble_eq_true rfl) ⟨Nat.zero_le _, Nat.zero_le _⟩ dX8_doLine_190 h (fun x19 H locs s18 hP hS h => ?_)
    exact x_iret (p_M cI a) hx hb hr hlocks hP hS dX8_doLine_193 h
  have h := if_f c17 h
  by_cases c20 : x7 = 103
  · have h := if_t c20 h
    refine x_tsw_in (v := 103) (off := 162) (tgt := 188) hx hb dX8_doLine_26 c20 (by decide +kernel) ?_
    refine lv_aload_n hx hb dX8_doLine_188 rfl (lv_at hl 2 rfl) ?_
    refine lv_iload_n hx hb dX8_doLine_189 rfl (lv_at hl 1 rfl) ?_
    refine x_cVi (p_M cI a) (p_M cI a) (fun τ => τ) [] [.int x3] hx hb hml hl.1 hown hts hK hP hD hS hA rfl (c_X8_rounds l D cI tys ht a σ x3) gX8_doLine_X8_rounds rfl ⟨rfl, rfl⟩ i_X8_rounds ⟨Nat.le_of_ble_eq_true rfl, Nat.le_of_ble_eq_true rfl⟩ q_frI (g_M_0 cI a σ) rfl rfl (Nat.le_of_ble_eq_true rfl) ⟨Nat.zero_le _, Nat.zero_le _⟩ dX8_doLine_190 h (fun x22 H locs s21 hP hS h => ?_)
    exact x_iret (p_M cI a) hx hb hr hlocks hP hS dX8_doLine_193 h
  have h := if_f c20 h
  by_cases c23 : x7 = 104
  · have h := if_t c23 h
    refine x_tsw_in (v := 104) (off := 141) (tgt := 167) hx hb dX8_doLine_26 c23 (by decide +kernel) ?_
    refine lv_aload_n hx hb dX8_doLine_167 rfl (lv_at hl 2 rfl) ?_
    refine lv_iconst (v := 0) hx hb dX8_doLine_168 (by decide +kernel) ?_
    refine lv_iload_n hx hb dX8_doLine_169 rfl (lv_at hl 1 rfl) ?_
    refine x_cVi (p_M cI a) (p_M cI a) (fun τ => τ) [] [.int 0, .int x3] hx hb hml hl.1 hown hts hK hP hD hS hA rfl (c_X8_rule l D cI tys ht a σ 0 x3) gX8_doLine_X8_rule rfl ⟨rfl, rfl⟩ i_X8_rule ⟨Nat.le_of_ble_eq_true rfl, Nat.le_of_ble_eq_true rfl⟩ q_frI (g_M_0 cI a σ) rfl rfl (Nat.le_of_ble_eq_true rfl) ⟨Nat.zero_le _, Nat.zero_le _⟩ dX8_doLine_170 h (fun x25 H locs s24 hP hS h => ?_)
    exact x_iret (p_M cI a) hx hb hr hlocks hP hS dX8_doLine_173 h
  have h := if_f c23 h
  by_cases c26 : x7 = 105
  · have h := if_t c26 h
    refine x_tsw_in (v := 105) (off := 162) (tgt := 188) hx hb dX8_doLine_26 c26 (by decide +kernel) ?_
    refine lv_aload_n hx hb dX8_doLine_188 rfl (lv_at hl 2 rfl) ?_
    refine lv_iload_n hx hb dX8_doLine_189 rfl (lv_at hl 1 rfl) ?_
    refine x_cVi (p_M cI a) (p_M cI a) (fun τ => τ) [] [.int x3] hx hb hml hl.1 hown hts hK hP hD hS hA rfl (c_X8_rounds l D cI tys ht a σ x3) gX8_doLine_X8_rounds rfl ⟨rfl, rfl⟩ i_X8_rounds ⟨Nat.le_of_ble_eq_true rfl, Nat.le_of_ble_eq_true rfl⟩ q_frI (g_M_0 cI a σ) rfl rfl (Nat.le_of_ble_eq_true rfl) ⟨Nat.zero_le _, Nat.zero_le _⟩ dX8_doLine_190 h (fun x28 H locs s27 hP hS h => ?_)
    exact x_iret (p_M cI a) hx hb hr hlocks hP hS dX8_doLine_193 h
  have h := if_f c26 h
  by_cases c29 : x7 = 106
  · have h := if_t c29 h
    refine x_tsw_in (v := 106) (off := 162) (tgt := 188) hx hb dX8_doLine_26 c29 (by decide +kernel) ?_
    refine lv_aload_n hx hb dX8_doLine_188 rfl (lv_at hl 2 rfl) ?_
    refine lv_iload_n hx hb dX8_doLine_189 rfl (lv_at hl 1 rfl) ?_
    refine x_cVi (p_M cI a) (p_M cI a) (fun τ => τ) [] [.int x3] hx hb hml hl.1 hown hts hK hP hD hS hA rfl (c_X8_rounds l D cI tys ht a σ x3) gX8_doLine_X8_rounds rfl ⟨rfl, rfl⟩ i_X8_rounds ⟨Nat.le_of_ble_eq_true rfl, Nat.le_of_ble_eq_true rfl⟩ q_frI (g_M_0 cI a σ) rfl rfl (Nat.le_of_ble_eq_true rfl) ⟨Nat.zero_le _, Nat.zero_le _⟩ dX8_doLine_190 h (fun x31 H locs s30 hP hS h => ?_)
    exact x_iret (p_M cI a) hx hb hr hlocks hP hS dX8_doLine_193 h
  have h := if_f c29 h
  by_cases c32 : x7 = 107
  · have h := if_t c32 h
    refine x_tsw_in (v := 107) (off := 162) (tgt := 188) hx hb dX8_doLine_26 c32 (by decide +kernel) ?_
    refine lv_aload_n hx hb dX8_doLine_188 rfl (lv_at hl 2 rfl) ?_
    refine lv_iload_n hx hb dX8_doLine_189 rfl (lv_at hl 1 rfl) ?_
    refine x_cVi (p_M cI a) (p_M cI a) (fun τ => τ) [] [.int x3] hx hb hml hl.1 hown hts hK hP hD hS hA rfl (c_X8_rounds l D cI tys ht a σ x3) gX8_doLine_X8_rounds rfl ⟨rfl, rfl⟩ i_X8_rounds ⟨Nat.le_of_ble_eq_true rfl, Nat.le_of_ble_eq_true rfl⟩ q_frI (g_M_0 cI a σ) rfl rfl (Nat.le_of_ble_eq_true rfl) ⟨Nat.zero_le _, Nat.zero_le _⟩ dX8_doLine_190 h (fun x34 H locs s33 hP hS h => ?_)
    exact x_iret (p_M cI a) hx hb hr hlocks hP hS dX8_doLine_193 h
  have h := if_f c32 h
  by_cases c35 : x7 = 108
  · have h := if_t c35 h
    refine x_tsw_in (v := 108) (off := 103) (tgt := 129) hx hb dX8_doLine_26 c35 (by decide +kernel) ?_
    refine lv_aload_n hx hb dX8_doLine_129 rfl (lv_at hl 2 rfl) ?_
    refine lv_iload_n hx hb dX8_doLine_130 rfl (lv_at hl 1 rfl) ?_
    refine lv_iload_n hx hb dX8_doLine_131 rfl (lv_at hl 0 rfl) ?_
    refine lv_aload_n hx hb dX8_doLine_132 rfl (lv_at hl 2 rfl) ?_
    refine x_getr (C := RX8) (k := 21) hx hb hts u_X8_doLine_8 hown hK hP (g_M_0 cI a σ) rfl (by decide) ⟨rfl, rfl, rfl⟩ k_X8_doLine_f55 rfl dX8_doLine_133 ?_
    refine lv_iconst (v := 3) hx hb dX8_doLine_136 (by decide +kernel) ?_
    refine lv_iload_n hx hb dX8_doLine_137 rfl (lv_at hl 3 rfl) ?_
    refine x_imul hx hb dX8_doLine_138 h (fun x36 h => ?_)
    refine lv_iconst (v := 2) hx hb dX8_doLine_139 (by decide +kernel) ?_
    refine x_iadd hx hb dX8_doLine_140 h (fun x37 h => ?_)
    refine x_iald (t0 := 0) hx hb hK hP ht h (g_M_16 cI a σ) dX8_doLine_141 (fun x38 h => ?_)
    refine x_cVi (p_M cI a) (p_M cI a) (fun τ => τ) [] [.int x3, .int x6, .int x38] hx hb hml hl.1 hown hts hK hP hD hS hA rfl (c_X8_link l D cI tys ht a σ x3 x6 x38) gX8_doLine_X8_link rfl ⟨rfl, rfl⟩ i_X8_link ⟨Nat.le_of_ble_eq_true rfl, Nat.le_of_ble_eq_true rfl⟩ q_frI (g_M_0 cI a σ) rfl rfl (Nat.le_of_ble_eq_true rfl) ⟨Nat.zero_le _, Nat.zero_le _⟩ dX8_doLine_142 h (fun x40 H locs s39 hP hS h => ?_)
    exact x_iret (p_M cI a) hx hb hr hlocks hP hS dX8_doLine_145 h
  have h := if_f c35 h
  by_cases c41 : x7 = 109
  · have h := if_t c41 h
    refine x_tsw_in (v := 109) (off := 162) (tgt := 188) hx hb dX8_doLine_26 c41 (by decide +kernel) ?_
    refine lv_aload_n hx hb dX8_doLine_188 rfl (lv_at hl 2 rfl) ?_
    refine lv_iload_n hx hb dX8_doLine_189 rfl (lv_at hl 1 rfl) ?_
    refine x_cVi (p_M cI a) (p_M cI a) (fun τ => τ) [] [.int x3] hx hb hml hl.1 hown hts hK hP hD hS hA rfl (c_X8_rounds l D cI tys ht a σ x3) gX8_doLine_X8_rounds rfl ⟨rfl, rfl⟩ i_X8_rounds ⟨Nat.le_of_ble_eq_true rfl, Nat.le_of_ble_eq_true rfl⟩ q_frI (g_M_0 cI a σ) rfl rfl (Nat.le_of_ble_eq_true rfl) ⟨Nat.zero_le _, Nat.zero_le _⟩ dX8_doLine_190 h (fun x43 H locs s42 hP hS h => ?_)
    exact x_iret (p_M cI a) hx hb hr hlocks hP hS dX8_doLine_193 h
  have h := if_f c41 h
  by_cases c44 : x7 = 110
  · have h := if_t c44 h
    refine x_tsw_in (v := 110) (off := 98) (tgt := 124) hx hb dX8_doLine_26 c44 (by decide +kernel) ?_
    refine lv_aload_n hx hb dX8_doLine_124 rfl (lv_at hl 2 rfl) ?_
    refine x_cVi (p_M cI a) (p_M cI a) (fun τ => τ) [] [] hx hb hml hl.1 hown hts hK hP hD hS hA rfl (c_X8_router l D cI tys ht a σ) gX8_doLine_X8_router rfl ⟨rfl, rfl⟩ i_X8_router ⟨Nat.le_of_ble_eq_true rfl, Nat.le_of_ble_eq_true rfl⟩ q_frI (g_M_0 cI a σ) rfl rfl (Nat.le_of_ble_eq_true rfl) ⟨Nat.zero_le _, Nat.zero_le _⟩ dX8_doLine_125 h (fun x46 H locs s45 hP hS h => ?_)
    exact x_iret (p_M cI a) hx hb hr hlocks hP hS dX8_doLine_128 h
  have h := if_f c44 h
  by_cases c47 : x7 = 111
  · have h := if_t c47 h
    refine x_tsw_in (v := 111) (off := 162) (tgt := 188) hx hb dX8_doLine_26 c47 (by decide +kernel) ?_
    refine lv_aload_n hx hb dX8_doLine_188 rfl (lv_at hl 2 rfl) ?_
    refine lv_iload_n hx hb dX8_doLine_189 rfl (lv_at hl 1 rfl) ?_
    refine x_cVi (p_M cI a) (p_M cI a) (fun τ => τ) [] [.int x3] hx hb hml hl.1 hown hts hK hP hD hS hA rfl (c_X8_rounds l D cI tys ht a σ x3) gX8_doLine_X8_rounds rfl ⟨rfl, rfl⟩ i_X8_rounds ⟨Nat.le_of_ble_eq_true rfl, Nat.le_of_ble_eq_true rfl⟩ q_frI (g_M_0 cI a σ) rfl rfl (Nat.le_of_ble_eq_true rfl) ⟨Nat.zero_le _, Nat.zero_le _⟩ dX8_doLine_190 h (fun x49 H locs s48 hP hS h => ?_)
    exact x_iret (p_M cI a) hx hb hr hlocks hP hS dX8_doLine_193 h
  have h := if_f c47 h
  by_cases c50 : x7 = 112
  · have h := if_t c50 h
    refine x_tsw_in (v := 112) (off := 162) (tgt := 188) hx hb dX8_doLine_26 c50 (by decide +kernel) ?_
    refine lv_aload_n hx hb dX8_doLine_188 rfl (lv_at hl 2 rfl) ?_
    refine lv_iload_n hx hb dX8_doLine_189 rfl (lv_at hl 1 rfl) ?_
    refine x_cVi (p_M cI a) (p_M cI a) (fun τ => τ) [] [.int x3] hx hb hml hl.1 hown hts hK hP hD hS hA rfl (c_X8_rounds l D cI tys ht a σ x3) gX8_doLine_X8_rounds rfl ⟨rfl, rfl⟩ i_X8_rounds ⟨Nat.le_of_ble_eq_true rfl, Nat.le_of_ble_eq_true rfl⟩ q_frI (g_M_0 cI a σ) rfl rfl (Nat.le_of_ble_eq_true rfl) ⟨Nat.zero_le _, Nat.zero_le _⟩ dX8_doLine_190 h (fun x52 H locs s51 hP hS h => ?_)
    exact x_iret (p_M cI a) hx hb hr hlocks hP hS dX8_doLine_193 h
  have h := if_f c50 h
  by_cases c53 : x7 = 113
  · have h := if_t c53 h
    refine x_tsw_in (v := 113) (off := 148) (tgt := 174) hx hb dX8_doLine_26 c53 (by decide +kernel) ?_
    refine lv_aload_n hx hb dX8_doLine_174 rfl (lv_at hl 2 rfl) ?_
    refine lv_iconst (v := 1) hx hb dX8_doLine_175 (by decide +kernel) ?_
    refine lv_iload_n hx hb dX8_doLine_176 rfl (lv_at hl 1 rfl) ?_
    refine x_cVi (p_M cI a) (p_M cI a) (fun τ => τ) [] [.int 1, .int x3] hx hb hml hl.1 hown hts hK hP hD hS hA rfl (c_X8_rule l D cI tys ht a σ 1 x3) gX8_doLine_X8_rule rfl ⟨rfl, rfl⟩ i_X8_rule ⟨Nat.le_of_ble_eq_true rfl, Nat.le_of_ble_eq_true rfl⟩ q_frI (g_M_0 cI a σ) rfl rfl (Nat.le_of_ble_eq_true rfl) ⟨Nat.zero_le _, Nat.zero_le _⟩ dX8_doLine_177 h (fun x55 H locs s54 hP hS h => ?_)
    exact x_iret (p_M cI a) hx hb hr hlocks hP hS dX8_doLine_180 h
  have h := if_f c53 h
  by_cases c56 : x7 = 114
  · have h := if_t c56 h
    refine x_tsw_in (v := 114) (off := 162) (tgt := 188) hx hb dX8_doLine_26 c56 (by decide +kernel) ?_
    refine lv_aload_n hx hb dX8_doLine_188 rfl (lv_at hl 2 rfl) ?_
    refine lv_iload_n hx hb dX8_doLine_189 rfl (lv_at hl 1 rfl) ?_
    refine x_cVi (p_M cI a) (p_M cI a) (fun τ => τ) [] [.int x3] hx hb hml hl.1 hown hts hK hP hD hS hA rfl (c_X8_rounds l D cI tys ht a σ x3) gX8_doLine_X8_rounds rfl ⟨rfl, rfl⟩ i_X8_rounds ⟨Nat.le_of_ble_eq_true rfl, Nat.le_of_ble_eq_true rfl⟩ q_frI (g_M_0 cI a σ) rfl rfl (Nat.le_of_ble_eq_true rfl) ⟨Nat.zero_le _, Nat.zero_le _⟩ dX8_doLine_190 h (fun x58 H locs s57 hP hS h => ?_)
    exact x_iret (p_M cI a) hx hb hr hlocks hP hS dX8_doLine_193 h
  have h := if_f c56 h
  by_cases c59 : x7 = 115
  · have h := if_t c59 h
    refine x_tsw_in (v := 115) (off := 162) (tgt := 188) hx hb dX8_doLine_26 c59 (by decide +kernel) ?_
    refine lv_aload_n hx hb dX8_doLine_188 rfl (lv_at hl 2 rfl) ?_
    refine lv_iload_n hx hb dX8_doLine_189 rfl (lv_at hl 1 rfl) ?_
    refine x_cVi (p_M cI a) (p_M cI a) (fun τ => τ) [] [.int x3] hx hb hml hl.1 hown hts hK hP hD hS hA rfl (c_X8_rounds l D cI tys ht a σ x3) gX8_doLine_X8_rounds rfl ⟨rfl, rfl⟩ i_X8_rounds ⟨Nat.le_of_ble_eq_true rfl, Nat.le_of_ble_eq_true rfl⟩ q_frI (g_M_0 cI a σ) rfl rfl (Nat.le_of_ble_eq_true rfl) ⟨Nat.zero_le _, Nat.zero_le _⟩ dX8_doLine_190 h (fun x61 H locs s60 hP hS h => ?_)
    exact x_iret (p_M cI a) hx hb hr hlocks hP hS dX8_doLine_193 h
  have h := if_f c59 h
  by_cases c62 : x7 = 116
  · have h := if_t c62 h
    refine x_tsw_in (v := 116) (off := 162) (tgt := 188) hx hb dX8_doLine_26 c62 (by decide +kernel) ?_
    refine lv_aload_n hx hb dX8_doLine_188 rfl (lv_at hl 2 rfl) ?_
    refine lv_iload_n hx hb dX8_doLine_189 rfl (lv_at hl 1 rfl) ?_
    refine x_cVi (p_M cI a) (p_M cI a) (fun τ => τ) [] [.int x3] hx hb hml hl.1 hown hts hK hP hD hS hA rfl (c_X8_rounds l D cI tys ht a σ x3) gX8_doLine_X8_rounds rfl ⟨rfl, rfl⟩ i_X8_rounds ⟨Nat.le_of_ble_eq_true rfl, Nat.le_of_ble_eq_true rfl⟩ q_frI (g_M_0 cI a σ) rfl rfl (Nat.le_of_ble_eq_true rfl) ⟨Nat.zero_le _, Nat.zero_le _⟩ dX8_doLine_190 h (fun x64 H locs s63 hP hS h => ?_)
    exact x_iret (p_M cI a) hx hb hr hlocks hP hS dX8_doLine_193 h
  have h := if_f c62 h
  by_cases c65 : x7 = 117
  · have h := if_t c65 h
    refine x_tsw_in (v := 117) (off := 127) (tgt := 153) hx hb dX8_doLine_26 c65 (by decide +kernel) ?_
    refine lv_aload_n hx hb dX8_doLine_153 rfl (lv_at hl 2 rfl) ?_
    refine lv_iload_n hx hb dX8_doLine_154 rfl (lv_at hl 1 rfl) ?_
    refine lv_iconst (v := 1) hx hb dX8_doLine_155 (by decide +kernel) ?_
    refine x_cVi (p_M cI a) (p_M cI a) (fun τ => τ) [] [.int x3, .int 1] hx hb hml hl.1 hown hts hK hP hD hS hA rfl (c_X8_turn l D cI tys ht a σ x3 1) gX8_doLine_X8_turn rfl ⟨rfl, rfl⟩ i_X8_turn ⟨Nat.le_of_ble_eq_true rfl, Nat.le_of_ble_eq_true rfl⟩ q_frI (g_M_0 cI a σ) rfl rfl (Nat.le_of_ble_eq_true rfl) ⟨Nat.zero_le _, Nat.zero_le _⟩ dX8_doLine_156 h (fun x67 H locs s66 hP hS h => ?_)
    exact x_iret (p_M cI a) hx hb hr hlocks hP hS dX8_doLine_159 h
  have h := if_f c65 h
  by_cases c68 : x7 = 118
  · have h := if_t c68 h
    refine x_tsw_in (v := 118) (off := 162) (tgt := 188) hx hb dX8_doLine_26 c68 (by decide +kernel) ?_
    refine lv_aload_n hx hb dX8_doLine_188 rfl (lv_at hl 2 rfl) ?_
    refine lv_iload_n hx hb dX8_doLine_189 rfl (lv_at hl 1 rfl) ?_
    refine x_cVi (p_M cI a) (p_M cI a) (fun τ => τ) [] [.int x3] hx hb hml hl.1 hown hts hK hP hD hS hA rfl (c_X8_rounds l D cI tys ht a σ x3) gX8_doLine_X8_rounds rfl ⟨rfl, rfl⟩ i_X8_rounds ⟨Nat.le_of_ble_eq_true rfl, Nat.le_of_ble_eq_true rfl⟩ q_frI (g_M_0 cI a σ) rfl rfl (Nat.le_of_ble_eq_true rfl) ⟨Nat.zero_le _, Nat.zero_le _⟩ dX8_doLine_190 h (fun x70 H locs s69 hP hS h => ?_)
    exact x_iret (p_M cI a) hx hb hr hlocks hP hS dX8_doLine_193 h
  have h := if_f c68 h
  by_cases c71 : x7 = 119
  · have h := if_t c71 h
    refine x_tsw_in (v := 119) (off := 134) (tgt := 160) hx hb dX8_doLine_26 c71 (by decide +kernel) ?_
    refine lv_aload_n hx hb dX8_doLine_160 rfl (lv_at hl 2 rfl) ?_
    refine lv_iload_n hx hb dX8_doLine_161 rfl (lv_at hl 1 rfl) ?_
    refine lv_iload_n hx hb dX8_doLine_162 rfl (lv_at hl 0 rfl) ?_
    refine x_cVi (p_M cI a) (p_M cI a) (fun τ => τ) [] [.int x3, .int x6] hx hb hml hl.1 hown hts hK hP hD hS hA rfl (c_X8_cost l D cI tys ht a σ x3 x6) gX8_doLine_X8_cost rfl ⟨rfl, rfl⟩ i_X8_cost ⟨Nat.le_of_ble_eq_true rfl, Nat.le_of_ble_eq_true rfl⟩ q_frI (g_M_0 cI a σ) rfl rfl (Nat.le_of_ble_eq_true rfl) ⟨Nat.zero_le _, Nat.zero_le _⟩ dX8_doLine_163 h (fun x73 H locs s72 hP hS h => ?_)
    exact x_iret (p_M cI a) hx hb hr hlocks hP hS dX8_doLine_166 h
  have h := if_f c71 h
  refine x_tsw_out (tgt := 188) hx hb dX8_doLine_26 21 (by decide) (fun k9 hk9 => ?_) (by decide) ?_
  · rcases (show k9 = 0 ∨ k9 = 1 ∨ k9 = 2 ∨ k9 = 3 ∨ k9 = 4 ∨ k9 = 5 ∨ k9 = 6 ∨ k9 = 7 ∨ k9 = 8 ∨ k9 = 9 ∨ k9 = 10 ∨ k9 = 11 ∨ k9 = 12 ∨ k9 = 13 ∨ k9 = 14 ∨ k9 = 15 ∨ k9 = 16 ∨ k9 = 17 ∨ k9 = 18 ∨ k9 = 19 ∨ k9 = 20 by omega) with rfl | rfl | rfl | rfl | rfl | rfl | rfl | rfl | rfl | rfl | rfl | rfl | rfl | rfl | rfl | rfl | rfl | rfl | rfl | rfl | rfl
    · exact fun h9 => c8 (h9.trans (by decide +kernel))
    · exact fun h9 => c11 (h9.trans (by decide +kernel))
    · exact fun h9 => c14 (h9.trans (by decide +kernel))
    · exact fun h9 => c17 (h9.trans (by decide +kernel))
    · exact fun h9 => c20 (h9.trans (by decide +kernel))
    · exact fun h9 => c23 (h9.trans (by decide +kernel))
    · exact fun h9 => c26 (h9.trans (by decide +kernel))
    · exact fun h9 => c29 (h9.trans (by decide +kernel))
    · exact fun h9 => c32 (h9.trans (by decide +kernel))
    · exact fun h9 => c35 (h9.trans (by decide +kernel))
    · exact fun h9 => c41 (h9.trans (by decide +kernel))
    · exact fun h9 => c44 (h9.trans (by decide +kernel))
    · exact fun h9 => c47 (h9.trans (by decide +kernel))
    · exact fun h9 => c50 (h9.trans (by decide +kernel))
    · exact fun h9 => c53 (h9.trans (by decide +kernel))
    · exact fun h9 => c56 (h9.trans (by decide +kernel))
    · exact fun h9 => c59 (h9.trans (by decide +kernel))
    · exact fun h9 => c62 (h9.trans (by decide +kernel))
    · exact fun h9 => c65 (h9.trans (by decide +kernel))
    · exact fun h9 => c68 (h9.trans (by decide +kernel))
    · exact fun h9 => c71 (h9.trans (by decide +kernel))
  refine lv_aload_n hx hb dX8_doLine_188 rfl (lv_at hl 2 rfl) ?_
  refine lv_iload_n hx hb dX8_doLine_189 rfl (lv_at hl 1 rfl) ?_
  refine x_cVi (p_M cI a) (p_M cI a) (fun τ => τ) [] [.int x3] hx hb hml hl.1 hown hts hK hP hD hS hA rfl (c_X8_rounds l D cI tys ht a σ x3) gX8_doLine_X8_rounds rfl ⟨rfl, rfl⟩ i_X8_rounds ⟨Nat.le_of_ble_eq_true rfl, Nat.le_of_ble_eq_true rfl⟩ q_frI (g_M_0 cI a σ) rfl rfl (Nat.le_of_ble_eq_true rfl) ⟨Nat.zero_le _, Nat.zero_le _⟩ dX8_doLine_190 h (fun x75 H locs s74 hP hS h => ?_)
  exact x_iret (p_M cI a) hx hb hr hlocks hP hS dX8_doLine_193 h
/-! ===== VectorRoundsModel.script()I: world M ===== -/
theorem i_X8_script : yX8_script.cls = RX8 ∧ yX8_script.cls ≠ "java/lang/invoke/MethodHandle" ∧ yX8_script.cls ≠ "java/lang/invoke/VarHandle" ∧ (parseMethodDescriptor yX8_script.desc).map (fun d => d.parameters.length) = some 0 := by decide +kernel
theorem k_X8_script_f16 : Cond.fieldLink RX8 16 RX8 "aside" "[I" ∈ wsX8_script := by decide +kernel
theorem k_X8_script_f177 : Cond.fieldLink RX8 177 RX8 "taped" "I" ∈ wsX8_script := by decide +kernel
theorem k_X8_script_f180 : Cond.fieldLink RX8 180 RX8 "at" "I" ∈ wsX8_script := by decide +kernel
theorem k_X8_script_f186 : Cond.fieldLink RX8 186 RX8 "fault" "I" ∈ wsX8_script := by decide +kernel
theorem k_X8_script_f7 : Cond.fieldLink RX8 7 RX8 "s" "[I" ∈ wsX8_script := by decide +kernel
theorem u_X8_script_8 : ∀ w ∈ u_ws RX8 TX8 26, w ∈ wsX8_script := by decide +kernel
set_option maxHeartbeats 4000000 in
set_option maxRecDepth 100000 in
theorem c_X8_script (l : Launch) (D : va_G) (cI : ClassId) (tys : List (ClassId × FieldType)) (ht : tys[0]? = some (cI, .int)) (a : Nat → Nat) (σ : qM) : q_Met l yX8_script wsX8_script ({ frames := 5, cells := 0, slots := 0, locals := 136 }) [.ref (a 0)] D tys (p_M cI a) σ (f_X8_script σ) := by
  refine x_ofWi (cc := cX8_script) (maxL := 3) (ret := (some .int)) (by decide +kernel) rfl (pf_M cI a) (Nat.le_of_ble_eq_true rfl) ?_
  intro p e s m below meth c A ls qq h hx hb hml hr hlocks hown hts hK hP hD hA hS hl
  have hown : s.vm.findClass RX8 = some m.cls := hown
  have hl : lv_has ls 3 [(0, .ref (a 0))] := hl
  have main : ∀ k9 : Nat, (∀ (σ : qM) (x4 : Int32) (H : Heap) (locs : List Loc) (ls : Array Slot), q_it (D_X8_script) k9 0 σ [x4] = some qq → va_P D vwCl (p_M cI a σ) H → va_S A s.heap H locs → lv_has ls 3 [(0, .ref (a 0)), (1, .int x4)] → W p l e ({ frames := 5, cells := 0, slots := 0, locals := 136 }) s m [.ref (a 0)].toArray below meth c H locs 0 0 (MQ below (va_Qi (fun r τ => (r, τ) = qq) (fun τ t => va_P D vwCl ((p_M cI a) τ) t.heap) A) [.ref (a 0)].toArray s 0 0 A) (F0 m 17 ls [])) ∧ (∀ (σ : qM) (x7 : Int32) (H : Heap) (locs : List Loc) (ls : Array Slot), q_it (D_X8_script) k9 1 σ [x7] = some qq → va_P D vwCl (p_M cI a σ) H → va_S A s.heap H locs → lv_has ls 3 [(0, .ref (a 0)), (1, .int x7)] → W p l e ({ frames := 5, cells := 0, slots := 0, locals := 136 }) s m [.ref (a 0)].toArray below meth c H locs 0 0 (MQ below (va_Qi (fun r τ => (r, τ) = qq) (fun τ t => va_P D vwCl ((p_M cI a) τ) t.heap) A) [.ref (a 0)].toArray s 0 0 A) (F0 m 54 ls [])) ∧ (∀ (σ : qM) (x18 : Int32) (H : Heap) (locs : List Loc) (ls : Array Slot), q_it (D_X8_script) k9 2 σ [x18] = some qq → va_P D vwCl (p_M cI a σ) H → va_S A s.heap H locs → lv_has ls 3 [(0, .ref (a 0)), (1, .int x18)] → W p l e ({ frames := 5, cells := 0, slots := 0, locals := 136 }) s m [.ref (a 0)].toArray below meth c H locs 0 0 (MQ below (va_Qi (fun r τ => (r, τ) = qq) (fun τ t => va_P D vwCl ((p_M cI a) τ) t.heap) A) [.ref (a 0)].toArray s 0 0 A) (F0 m 80 ls [])) ∧ (∀ (σ : qM) (x28 x29 : Int32) (H : Heap) (locs : List Loc) (ls : Array Slot), q_it (D_X8_script) k9 3 σ [x28, x29] = some qq → va_P D vwCl (p_M cI a σ) H → va_S A s.heap H locs → lv_has ls 3 [(0, .ref (a 0)), (1, .int x28), (2, .int x29)] → W p l e ({ frames := 5, cells := 0, slots := 0, locals := 136 }) s m [.ref (a 0)].toArray below meth c H locs 0 0 (MQ below (va_Qi (fun r τ => (r, τ) = qq) (fun τ t => va_P D vwCl ((p_M cI a) τ) t.heap) A) [.ref (a 0)].toArray s 0 0 A) (F0 m 114 ls [])) := by
    intro k9
    induction k9 with
    | zero => exact ⟨(fun _ _ _ _ _ h _ _ _ => (q_no (show (none : qR) = some qq from h)).elim), (fun _ _ _ _ _ h _ _ _ => (q_no (show (none : qR) = some qq from h)).elim), (fun _ _ _ _ _ h _ _ _ => (q_no (show (none : qR) = some qq from h)).elim), (fun _ _ _ _ _ _ h _ _ _ => (q_no (show (none : qR) = some qq from h)).elim)⟩
    | succ k9 ih =>
      obtain ⟨i17, i54, i80, i114⟩ := ih
      refine ⟨?_, ?_, ?_, ?_⟩
      · intro σ x4 H locs ls h hP hS hl
        have h : b_X8_script_17 (q_it (D_X8_script) k9) σ x4 = some qq := h
        unfold b_X8_script_17 at h
        refine lv_aload_n hx hb dX8_script_17 rfl (lv_at hl 0 rfl) ?_
        refine x_geti (C := RX8) (k := 19) hx hb hts u_X8_script_8 hown hK hP (g_M_0 cI a σ) rfl (by decide) ⟨rfl, rfl, rfl⟩ k_X8_script_f186 rfl dX8_script_18 h (fun x5 h => ?_)
        refine lv_if_ge (tgt := 54) hx hb dX8_script_21 (by decide) (fun c6 => ?_) (fun c6 => ?_)
        · have h := if_t c6 h
          exact i54 σ x4 _ _ _ h hP hS (lv_sub hl [0, 1] rfl)
        · have h := if_f c6 h
          refine lv_aload_n hx hb dX8_script_24 rfl (lv_at hl 0 rfl) ?_
          refine x_cVi (p_M cI a) (p_M cI a) (fun τ => τ) [] [] hx hb hml hl.1 hown hts hK hP hD hS hA rfl (c_X8_here l D cI tys ht a σ) gX8_script_X8_here rfl ⟨rfl, rfl⟩ i_X8_here ⟨Nat.le_of_ble_eq_true rfl, Nat.le_of_ble_eq_true rfl⟩ q_frI (g_M_0 cI a σ) rfl rfl (Nat.le_of_ble_eq_true rfl) ⟨Nat.zero_le _, Nat.zero_le _⟩ dX8_script_25 h (fun x9 H locs s8 hP hS h => ?_)
          refine lv_bipush (v := 59) hx hb dX8_script_28 (by decide +kernel) ?_
          refine lv_icmp_ne (tgt := 54) hx hb dX8_script_30 (by decide) (fun c10 => ?_) (fun c10 => ?_)
          · have h := if_f c10 h
            exact i54 s8 x4 _ _ _ h hP hS (lv_sub hl [0, 1] rfl)
          · have h := if_t c10 h
            refine lv_aload_n hx hb dX8_script_33 rfl (lv_at hl 0 rfl) ?_
            refine lv_dup hx hb dX8_script_34 rfl ?_
            refine x_geti (C := RX8) (k := 18) hx hb hts u_X8_script_8 hown hK hP (g_M_0 cI a s8) rfl (by decide) ⟨rfl, rfl, rfl⟩ k_X8_script_f180 rfl dX8_script_35 h (fun x11 h => ?_)
            refine lv_iconst (v := 1) hx hb dX8_script_38 (by decide +kernel) ?_
            refine x_iadd hx hb dX8_script_39 h (fun x12 h => ?_)
            refine x_puti (p_M cI a) (C := RX8) (k := 18) hx hb hts u_X8_script_8 tyX8 tyX8_ok nmX8 hown hK hP hD hS h (g_M_0 cI a s8) rfl (by decide) ⟨rfl, rfl, rfl⟩ k_X8_script_f180 rfl rfl rfl rfl (Nat.le_of_ble_eq_true rfl) (s_M_0_18 cI a s8 x12) dX8_script_40 (fun H locs s13 hP hS h => ?_)
            refine lv_aload_n hx hb dX8_script_43 rfl (lv_at hl 0 rfl) ?_
            refine lv_iload_n hx hb dX8_script_44 rfl (lv_at hl 1 rfl) ?_
            refine x_cVv (p_M cI a) (p_M cI a) (fun τ => τ) [] [.int x4] hx hb hml hl.1 hown hts hK hP hD hS hA rfl (c_X8_readLine l D cI tys ht a s13 x4) gX8_script_X8_readLine rfl ⟨rfl, rfl⟩ i_X8_readLine ⟨Nat.le_of_ble_eq_true rfl, Nat.le_of_ble_eq_true rfl⟩ q_frI (g_M_0 cI a s13) rfl rfl (Nat.le_of_ble_eq_true rfl) ⟨Nat.zero_le _, Nat.zero_le _⟩ dX8_script_45 h (fun H locs s14 hP hS h => ?_)
            refine x_iinc (k := 1) (w := 1) hx hb dX8_script_48 hl rfl (by decide +kernel) (by decide) (fun v9 => [(1, .int v9), (0, .ref (a 0))]) (fun v9 => rfl) h (fun x15 ls hl h => ?_)
            have hl : lv_has ls 3 [(1, .int x15), (0, .ref (a 0))] := hl
            refine lv_goto (tgt := 17) hx hb dX8_script_51 (by decide) ?_
            exact i17 s14 x15 _ _ _ h hP hS (lv_sub hl [1, 0] rfl)
      · intro σ x7 H locs ls h hP hS hl
        have h : b_X8_script_54 (q_it (D_X8_script) k9) σ x7 = some qq := h
        unfold b_X8_script_54 at h
        refine lv_aload_n hx hb dX8_script_54 rfl (lv_at hl 0 rfl) ?_
        refine x_geti (C := RX8) (k := 19) hx hb hts u_X8_script_8 hown hK hP (g_M_0 cI a σ) rfl (by decide) ⟨rfl, rfl, rfl⟩ k_X8_script_f186 rfl dX8_script_55 h (fun x16 h => ?_)
        refine lv_if_ge (tgt := 80) hx hb dX8_script_58 (by decide) (fun c17 => ?_) (fun c17 => ?_)
        · have h := if_t c17 h
          exact i80 σ x7 _ _ _ h hP hS (lv_sub hl [0, 1] rfl)
        · have h := if_f c17 h
          refine lv_aload_n hx hb dX8_script_61 rfl (lv_at hl 0 rfl) ?_
          refine x_geti (C := RX8) (k := 18) hx hb hts u_X8_script_8 hown hK hP (g_M_0 cI a σ) rfl (by decide) ⟨rfl, rfl, rfl⟩ k_X8_script_f180 rfl dX8_script_62 h (fun x19 h => ?_)
          refine lv_aload_n hx hb dX8_script_65 rfl (lv_at hl 0 rfl) ?_
          refine x_geti (C := RX8) (k := 17) hx hb hts u_X8_script_8 hown hK hP (g_M_0 cI a σ) rfl (by decide) ⟨rfl, rfl, rfl⟩ k_X8_script_f177 rfl dX8_script_66 h (fun x20 h => ?_)
          refine lv_icmp_ge (tgt := 80) hx hb dX8_script_69 (by decide) (fun c21 => ?_) (fun c21 => ?_)
          · have h := if_t c21 h
            exact i80 σ x7 _ _ _ h hP hS (lv_sub hl [0, 1] rfl)
          · have h := if_f c21 h
            refine lv_aload_n hx hb dX8_script_72 rfl (lv_at hl 0 rfl) ?_
            refine lv_aload_n hx hb dX8_script_73 rfl (lv_at hl 0 rfl) ?_
            refine x_geti (C := RX8) (k := 18) hx hb hts u_X8_script_8 hown hK hP (g_M_0 cI a σ) rfl (by decide) ⟨rfl, rfl, rfl⟩ k_X8_script_f180 rfl dX8_script_74 h (fun x22 h => ?_)
            refine x_puti (p_M cI a) (C := RX8) (k := 19) hx hb hts u_X8_script_8 tyX8 tyX8_ok nmX8 hown hK hP hD hS h (g_M_0 cI a σ) rfl (by decide) ⟨rfl, rfl, rfl⟩ k_X8_script_f186 rfl rfl rfl rfl (Nat.le_of_ble_eq_true rfl) (s_M_0_19 cI a σ x22) dX8_script_77 (fun H locs s23 hP hS h => ?_)
            exact i80 s23 x7 _ _ _ h hP hS (lv_sub hl [0, 1] rfl)
      · intro σ x18 H locs ls h hP hS hl
        have h : b_X8_script_80 (q_it (D_X8_script) k9) σ x18 = some qq := h
        unfold b_X8_script_80 at h
        refine lv_aload_n hx hb dX8_script_80 rfl (lv_at hl 0 rfl) ?_
        refine lv_iconst (v := 0) hx hb dX8_script_81 (by decide +kernel) ?_
        refine x_puti (p_M cI a) (C := RX8) (k := 17) hx hb hts u_X8_script_8 tyX8 tyX8_ok nmX8 hown hK hP hD hS h (g_M_0 cI a σ) rfl (by decide) ⟨rfl, rfl, rfl⟩ k_X8_script_f177 rfl rfl rfl rfl (Nat.le_of_ble_eq_true rfl) (s_M_0_17 cI a σ 0) dX8_script_82 (fun H locs s24 hP hS h => ?_)
        refine lv_aload_n hx hb dX8_script_85 rfl (lv_at hl 0 rfl) ?_
        refine x_geti (C := RX8) (k := 19) hx hb hts u_X8_script_8 hown hK hP (g_M_0 cI a s24) rfl (by decide) ⟨rfl, rfl, rfl⟩ k_X8_script_f186 rfl dX8_script_86 h (fun x25 h => ?_)
        refine lv_if_lt (tgt := 101) hx hb dX8_script_89 (by decide) (fun c26 => ?_) (fun c26 => ?_)
        · have h := if_t c26 h
          refine lv_aload_n hx hb dX8_script_101 rfl (lv_at hl 0 rfl) ?_
          refine x_getr (C := RX8) (k := 1) hx hb hts u_X8_script_8 hown hK hP (g_M_0 cI a s24) rfl (by decide) ⟨rfl, rfl, rfl⟩ k_X8_script_f7 rfl dX8_script_102 ?_
          refine lv_aload_n hx hb dX8_script_105 rfl (lv_at hl 0 rfl) ?_
          refine x_getr (C := RX8) (k := 3) hx hb hts u_X8_script_8 hown hK hP (g_M_0 cI a s24) rfl (by decide) ⟨rfl, rfl, rfl⟩ k_X8_script_f16 rfl dX8_script_106 ?_
          refine x_cSv (p_M cI a) (p_RR cI (q_sub2 1 1 3 a)) (q_put2 1 1 1 3 s24) [] [.ref (a 1), .ref (a 3)] hx hb hml hl.1 hown hts hK hP hD hS hA rfl (c_X8_copy l D cI tys ht (q_sub2 1 1 3 a) (q_sub2 1 1 3 s24)) gX8_script_X8_copy rfl ⟨rfl, rfl⟩ i_X8_copy ⟨Nat.le_of_ble_eq_true rfl, Nat.le_of_ble_eq_true rfl⟩ (fr_M_RR_1_3 cI a s24) rfl (Nat.le_of_ble_eq_true rfl) ⟨Nat.zero_le _, Nat.zero_le _⟩ dX8_script_109 h (fun H locs s27 hP hS h => ?_)
          refine lv_iconst (v := 0) hx hb dX8_script_112 (by decide +kernel) ?_
          refine lv_istore_n (lv' := [(2, .int 0), (0, .ref (a 0)), (1, .int x18)]) hx hb dX8_script_113 rfl hl (by decide) rfl (fun ls hl => ?_)
          exact i114 s27 x18 0 _ _ _ h hP hS (lv_sub hl [1, 2, 0] rfl)
        · have h := if_f c26 h
          refine lv_sipush (v := (-1000)) hx hb dX8_script_92 (by decide +kernel) ?_
          refine lv_aload_n hx hb dX8_script_95 rfl (lv_at hl 0 rfl) ?_
          refine x_geti (C := RX8) (k := 19) hx hb hts u_X8_script_8 hown hK hP (g_M_0 cI a s24) rfl (by decide) ⟨rfl, rfl, rfl⟩ k_X8_script_f186 rfl dX8_script_96 h (fun x30 h => ?_)
          refine x_isub hx hb dX8_script_99 h (fun x31 h => ?_)
          exact x_iret (p_M cI a) hx hb hr hlocks hP hS dX8_script_100 h
      · intro σ x28 x29 H locs ls h hP hS hl
        have h : b_X8_script_114 (q_it (D_X8_script) k9) σ x28 x29 = some qq := h
        unfold b_X8_script_114 at h
        refine lv_iload_n hx hb dX8_script_114 rfl (lv_at hl 2 rfl) ?_
        refine lv_iload_n hx hb dX8_script_115 rfl (lv_at hl 1 rfl) ?_
        refine lv_icmp_ge (tgt := 153) hx hb dX8_script_116 (by decide) (fun c32 => ?_) (fun c32 => ?_)
        · have h := if_t c32 h
          refine lv_iload_n hx hb dX8_script_153 rfl (lv_at hl 1 rfl) ?_
          exact x_iret (p_M cI a) hx hb hr hlocks hP hS dX8_script_154 h
        · have h := if_f c32 h
          refine lv_aload_n hx hb dX8_script_119 rfl (lv_at hl 0 rfl) ?_
          refine lv_iload_n hx hb dX8_script_120 rfl (lv_at hl 2 rfl) ?_
          refine x_cVi (p_M cI a) (p_M cI a) (fun τ => τ) [] [.int x29] hx hb hml hl.1 hown hts hK hP hD hS hA rfl (c_X8_doLine l D cI tys ht a σ x29) gX8_script_X8_doLine rfl ⟨rfl, rfl⟩ i_X8_doLine ⟨Nat.le_of_ble_eq_true rfl, Nat.le_of_ble_eq_true rfl⟩ q_frI (g_M_0 cI a σ) rfl rfl (Nat.le_of_ble_eq_true rfl) ⟨Nat.zero_le _, Nat.zero_le _⟩ dX8_script_121 h (fun x34 H locs s33 hP hS h => ?_)
          refine lv_if_lt (tgt := 130) hx hb dX8_script_124 (by decide) (fun c35 => ?_) (fun c35 => ?_)
          · have h := if_t c35 h
            refine lv_aload_n hx hb dX8_script_130 rfl (lv_at hl 0 rfl) ?_
            refine x_getr (C := RX8) (k := 3) hx hb hts u_X8_script_8 hown hK hP (g_M_0 cI a s33) rfl (by decide) ⟨rfl, rfl, rfl⟩ k_X8_script_f16 rfl dX8_script_131 ?_
            refine lv_aload_n hx hb dX8_script_134 rfl (lv_at hl 0 rfl) ?_
            refine x_getr (C := RX8) (k := 1) hx hb hts u_X8_script_8 hown hK hP (g_M_0 cI a s33) rfl (by decide) ⟨rfl, rfl, rfl⟩ k_X8_script_f7 rfl dX8_script_135 ?_
            refine x_cSv (p_M cI a) (p_RR cI (q_sub2 1 3 1 a)) (q_put2 1 3 1 1 s33) [] [.ref (a 3), .ref (a 1)] hx hb hml hl.1 hown hts hK hP hD hS hA rfl (c_X8_copy l D cI tys ht (q_sub2 1 3 1 a) (q_sub2 1 3 1 s33)) gX8_script_X8_copy rfl ⟨rfl, rfl⟩ i_X8_copy ⟨Nat.le_of_ble_eq_true rfl, Nat.le_of_ble_eq_true rfl⟩ (fr_M_RR_3_1 cI a s33) rfl (Nat.le_of_ble_eq_true rfl) ⟨Nat.zero_le _, Nat.zero_le _⟩ dX8_script_138 h (fun H locs s36 hP hS h => ?_)
            refine lv_sipush (v := (-2000)) hx hb dX8_script_141 (by decide +kernel) ?_
            refine lv_iload_n hx hb dX8_script_144 rfl (lv_at hl 2 rfl) ?_
            refine x_isub hx hb dX8_script_145 h (fun x37 h => ?_)
            exact x_iret (p_M cI a) hx hb hr hlocks hP hS dX8_script_146 h
          · have h := if_f c35 h
            refine lv_goto (tgt := 147) hx hb dX8_script_127 (by decide) ?_
            refine x_iinc (k := 2) (w := 1) hx hb dX8_script_147 hl rfl (by decide +kernel) (by decide) (fun v9 => [(2, .int v9), (0, .ref (a 0)), (1, .int x28)]) (fun v9 => rfl) h (fun x38 ls hl h => ?_)
            have hl : lv_has ls 3 [(2, .int x38), (0, .ref (a 0)), (1, .int x28)] := hl
            refine lv_goto (tgt := 114) hx hb dX8_script_150 (by decide) ?_
            exact i114 s33 x28 x38 _ _ _ h hP hS (lv_sub hl [1, 2, 0] rfl)
  have i17 : ∀ (σ : qM) (x4 : Int32) (H : Heap) (locs : List Loc) (ls : Array Slot), q_lim (D_X8_script) 0 σ [x4] = some qq → va_P D vwCl (p_M cI a σ) H → va_S A s.heap H locs → lv_has ls 3 [(0, .ref (a 0)), (1, .int x4)] → W p l e ({ frames := 5, cells := 0, slots := 0, locals := 136 }) s m [.ref (a 0)].toArray below meth c H locs 0 0 (MQ below (va_Qi (fun r τ => (r, τ) = qq) (fun τ t => va_P D vwCl ((p_M cI a) τ) t.heap) A) [.ref (a 0)].toArray s 0 0 A) (F0 m 17 ls []) := by
    intro σ x4 H locs ls h hP hS hl
    obtain ⟨k9, h⟩ := q_lim_n h
    exact (main k9).1 σ x4 H locs ls h hP hS hl
  have i54 : ∀ (σ : qM) (x7 : Int32) (H : Heap) (locs : List Loc) (ls : Array Slot), q_lim (D_X8_script) 1 σ [x7] = some qq → va_P D vwCl (p_M cI a σ) H → va_S A s.heap H locs → lv_has ls 3 [(0, .ref (a 0)), (1, .int x7)] → W p l e ({ frames := 5, cells := 0, slots := 0, locals := 136 }) s m [.ref (a 0)].toArray below meth c H locs 0 0 (MQ below (va_Qi (fun r τ => (r, τ) = qq) (fun τ t => va_P D vwCl ((p_M cI a) τ) t.heap) A) [.ref (a 0)].toArray s 0 0 A) (F0 m 54 ls []) := by
    intro σ x7 H locs ls h hP hS hl
    obtain ⟨k9, h⟩ := q_lim_n h
    exact (main k9).2.1 σ x7 H locs ls h hP hS hl
  have i80 : ∀ (σ : qM) (x18 : Int32) (H : Heap) (locs : List Loc) (ls : Array Slot), q_lim (D_X8_script) 2 σ [x18] = some qq → va_P D vwCl (p_M cI a σ) H → va_S A s.heap H locs → lv_has ls 3 [(0, .ref (a 0)), (1, .int x18)] → W p l e ({ frames := 5, cells := 0, slots := 0, locals := 136 }) s m [.ref (a 0)].toArray below meth c H locs 0 0 (MQ below (va_Qi (fun r τ => (r, τ) = qq) (fun τ t => va_P D vwCl ((p_M cI a) τ) t.heap) A) [.ref (a 0)].toArray s 0 0 A) (F0 m 80 ls []) := by
    intro σ x18 H locs ls h hP hS hl
    obtain ⟨k9, h⟩ := q_lim_n h
    exact (main k9).2.2.1 σ x18 H locs ls h hP hS hl
  have i114 : ∀ (σ : qM) (x28 x29 : Int32) (H : Heap) (locs : List Loc) (ls : Array Slot), q_lim (D_X8_script) 3 σ [x28, x29] = some qq → va_P D vwCl (p_M cI a σ) H → va_S A s.heap H locs → lv_has ls 3 [(0, .ref (a 0)), (1, .int x28), (2, .int x29)] → W p l e ({ frames := 5, cells := 0, slots := 0, locals := 136 }) s m [.ref (a 0)].toArray below meth c H locs 0 0 (MQ below (va_Qi (fun r τ => (r, τ) = qq) (fun τ t => va_P D vwCl ((p_M cI a) τ) t.heap) A) [.ref (a 0)].toArray s 0 0 A) (F0 m 114 ls []) := by
    intro σ x28 x29 H locs ls h hP hS hl
    obtain ⟨k9, h⟩ := q_lim_n h
    exact (main k9).2.2.2 σ x28 x29 H locs ls h hP hS hl
  have h : e_X8_script (q_lim (D_X8_script)) σ = some qq := h
  unfold e_X8_script at h
  refine lv_aload_n hx hb dX8_script_0 rfl (lv_at hl 0 rfl) ?_
  refine lv_iconst (v := 0) hx hb dX8_script_1 (by decide +kernel) ?_
  refine x_puti (p_M cI a) (C := RX8) (k := 18) hx hb hts u_X8_script_8 tyX8 tyX8_ok nmX8 hown hK hP hD hS h (g_M_0 cI a σ) rfl (by decide) ⟨rfl, rfl, rfl⟩ k_X8_script_f180 rfl rfl rfl rfl (Nat.le_of_ble_eq_true rfl) (s_M_0_18 cI a σ 0) dX8_script_2 (fun H locs s1 hP hS h => ?_)
  refine lv_aload_n hx hb dX8_script_5 rfl (lv_at hl 0 rfl) ?_
  refine lv_iconst (v := (-1)) hx hb dX8_script_6 (by decide +kernel) ?_
  refine x_puti (p_M cI a) (C := RX8) (k := 19) hx hb hts u_X8_script_8 tyX8 tyX8_ok nmX8 hown hK hP hD hS h (g_M_0 cI a s1) rfl (by decide) ⟨rfl, rfl, rfl⟩ k_X8_script_f186 rfl rfl rfl rfl (Nat.le_of_ble_eq_true rfl) (s_M_0_19 cI a s1 (-1)) dX8_script_7 (fun H locs s2 hP hS h => ?_)
  refine lv_aload_n hx hb dX8_script_10 rfl (lv_at hl 0 rfl) ?_
  refine lv_iconst (v := 0) hx hb dX8_script_11 (by decide +kernel) ?_
  refine x_cVv (p_M cI a) (p_M cI a) (fun τ => τ) [] [.int 0] hx hb hml hl.1 hown hts hK hP hD hS hA rfl (c_X8_readLine l D cI tys ht a s2 0) gX8_script_X8_readLine rfl ⟨rfl, rfl⟩ i_X8_readLine ⟨Nat.le_of_ble_eq_true rfl, Nat.le_of_ble_eq_true rfl⟩ q_frI (g_M_0 cI a s2) rfl rfl (Nat.le_of_ble_eq_true rfl) ⟨Nat.zero_le _, Nat.zero_le _⟩ dX8_script_12 h (fun H locs s3 hP hS h => ?_)
  refine lv_iconst (v := 1) hx hb dX8_script_15 (by decide +kernel) ?_
  refine lv_istore_n (lv' := [(1, .int 1), (0, .ref (a 0))]) hx hb dX8_script_16 rfl hl (by decide) rfl (fun ls hl => ?_)
  exact i17 s3 1 _ _ _ h hP hS (lv_sub hl [1, 0] rfl)
/-! ===== VectorRoundsModel.image()I: world M ===== -/
theorem i_X8_image : yX8_image.cls = RX8 ∧ yX8_image.cls ≠ "java/lang/invoke/MethodHandle" ∧ yX8_image.cls ≠ "java/lang/invoke/VarHandle" ∧ (parseMethodDescriptor yX8_image.desc).map (fun d => d.parameters.length) = some 0 := by decide +kernel
theorem k_X8_image_f220 : Cond.fieldLink RX8 220 RX8 "hasImage" "Z" ∈ wsX8_image := by decide +kernel
theorem k_X8_image_f58 : Cond.fieldLink RX8 58 RX8 "kept" "[I" ∈ wsX8_image := by decide +kernel
theorem k_X8_image_f7 : Cond.fieldLink RX8 7 RX8 "s" "[I" ∈ wsX8_image := by decide +kernel
theorem u_X8_image_8 : ∀ w ∈ u_ws RX8 TX8 26, w ∈ wsX8_image := by decide +kernel
set_option maxHeartbeats 4000000 in
set_option maxRecDepth 100000 in
theorem c_X8_image (l : Launch) (D : va_G) (cI : ClassId) (tys : List (ClassId × FieldType)) (ht : tys[0]? = some (cI, .int)) (a : Nat → Nat) (σ : qM) : q_Met l yX8_image wsX8_image ({ frames := 1, cells := 0, slots := 0, locals := 22 }) [.ref (a 0)] D tys (p_M cI a) σ (f_X8_image σ) := by
  refine x_ofWi (cc := cX8_image) (maxL := 1) (ret := (some .int)) (by decide +kernel) rfl (pf_M cI a) (Nat.le_of_ble_eq_true rfl) ?_
  intro p e s m below meth c A ls qq h hx hb hml hr hlocks hown hts hK hP hD hA hS hl
  have hown : s.vm.findClass RX8 = some m.cls := hown
  have hl : lv_has ls 1 [(0, .ref (a 0))] := hl
  unfold f_X8_image at h
  refine lv_aload_n hx hb dX8_image_0 rfl (lv_at hl 0 rfl) ?_
  refine lv_iconst (v := 1) hx hb dX8_image_1 (by decide +kernel) ?_
  have hb2 := (q_bo_of h).1
  have h := (q_bo_of h).2
  refine x_puti (p_M cI a) (C := RX8) (k := 22) hx hb hts u_X8_image_8 tyX8 tyX8_ok nmX8 hown hK hP hD hS h (g_M_0 cI a σ) rfl (by decide) ⟨rfl, rfl, rfl⟩ k_X8_image_f220 rfl rfl (q_nb hb2).1 (q_nb hb2).2 (Nat.le_of_ble_eq_true rfl) (s_M_0_22 cI a σ 1) dX8_image_2 (fun H locs s1 hP hS h => ?_)
  refine lv_aload_n hx hb dX8_image_5 rfl (lv_at hl 0 rfl) ?_
  refine x_getr (C := RX8) (k := 1) hx hb hts u_X8_image_8 hown hK hP (g_M_0 cI a s1) rfl (by decide) ⟨rfl, rfl, rfl⟩ k_X8_image_f7 rfl dX8_image_6 ?_
  refine lv_aload_n hx hb dX8_image_9 rfl (lv_at hl 0 rfl) ?_
  refine x_getr (C := RX8) (k := 23) hx hb hts u_X8_image_8 hown hK hP (g_M_0 cI a s1) rfl (by decide) ⟨rfl, rfl, rfl⟩ k_X8_image_f58 rfl dX8_image_10 ?_
  refine x_cSv (p_M cI a) (p_RR cI (q_sub2 1 1 17 a)) (q_put2 1 1 1 17 s1) [] [.ref (a 1), .ref (a 17)] hx hb hml hl.1 hown hts hK hP hD hS hA rfl (c_X8_copy l D cI tys ht (q_sub2 1 1 17 a) (q_sub2 1 1 17 s1)) gX8_image_X8_copy rfl ⟨rfl, rfl⟩ i_X8_copy ⟨Nat.le_of_ble_eq_true rfl, Nat.le_of_ble_eq_true rfl⟩ (fr_M_RR_1_17 cI a s1) rfl (Nat.le_of_ble_eq_true rfl) ⟨Nat.zero_le _, Nat.zero_le _⟩ dX8_image_13 h (fun H locs s3 hP hS h => ?_)
  refine lv_aload_n hx hb dX8_image_16 rfl (lv_at hl 0 rfl) ?_
  refine x_getr (C := RX8) (k := 1) hx hb hts u_X8_image_8 hown hK hP (g_M_0 cI a s3) rfl (by decide) ⟨rfl, rfl, rfl⟩ k_X8_image_f7 rfl dX8_image_17 ?_
  refine lv_iconst (v := 5) hx hb dX8_image_20 (by decide +kernel) ?_
  refine x_iald (t0 := 0) hx hb hK hP ht h (g_M_1 cI a s3) dX8_image_21 (fun x4 h => ?_)
  exact x_iret (p_M cI a) hx hb hr hlocks hP hS dX8_image_22 h
/-! ===== VectorRoundsModel.back()I: world M ===== -/
theorem i_X8_back : yX8_back.cls = RX8 ∧ yX8_back.cls ≠ "java/lang/invoke/MethodHandle" ∧ yX8_back.cls ≠ "java/lang/invoke/VarHandle" ∧ (parseMethodDescriptor yX8_back.desc).map (fun d => d.parameters.length) = some 0 := by decide +kernel
theorem k_X8_back_f220 : Cond.fieldLink RX8 220 RX8 "hasImage" "Z" ∈ wsX8_back := by decide +kernel
theorem k_X8_back_f58 : Cond.fieldLink RX8 58 RX8 "kept" "[I" ∈ wsX8_back := by decide +kernel
theorem k_X8_back_f7 : Cond.fieldLink RX8 7 RX8 "s" "[I" ∈ wsX8_back := by decide +kernel
theorem u_X8_back_8 : ∀ w ∈ u_ws RX8 TX8 26, w ∈ wsX8_back := by decide +kernel
set_option maxHeartbeats 4000000 in
set_option maxRecDepth 100000 in
theorem c_X8_back (l : Launch) (D : va_G) (cI : ClassId) (tys : List (ClassId × FieldType)) (ht : tys[0]? = some (cI, .int)) (a : Nat → Nat) (σ : qM) : q_Met l yX8_back wsX8_back ({ frames := 1, cells := 0, slots := 0, locals := 22 }) [.ref (a 0)] D tys (p_M cI a) σ (f_X8_back σ) := by
  refine x_ofWi (cc := cX8_back) (maxL := 1) (ret := (some .int)) (by decide +kernel) rfl (pf_M cI a) (Nat.le_of_ble_eq_true rfl) ?_
  intro p e s m below meth c A ls qq h hx hb hml hr hlocks hown hts hK hP hD hA hS hl
  have hown : s.vm.findClass RX8 = some m.cls := hown
  have hl : lv_has ls 1 [(0, .ref (a 0))] := hl
  unfold f_X8_back at h
  refine lv_aload_n hx hb dX8_back_0 rfl (lv_at hl 0 rfl) ?_
  refine x_geti (C := RX8) (k := 22) hx hb hts u_X8_back_8 hown hK hP (g_M_0 cI a σ) rfl (by decide) ⟨rfl, rfl, rfl⟩ k_X8_back_f220 rfl dX8_back_1 h (fun x1 h => ?_)
  refine lv_if_ne (tgt := 10) hx hb dX8_back_4 (by decide) (fun c2 => ?_) (fun c2 => ?_)
  · have h := if_f c2 h
    refine lv_aload_n hx hb dX8_back_10 rfl (lv_at hl 0 rfl) ?_
    refine x_getr (C := RX8) (k := 23) hx hb hts u_X8_back_8 hown hK hP (g_M_0 cI a σ) rfl (by decide) ⟨rfl, rfl, rfl⟩ k_X8_back_f58 rfl dX8_back_11 ?_
    refine lv_aload_n hx hb dX8_back_14 rfl (lv_at hl 0 rfl) ?_
    refine x_getr (C := RX8) (k := 1) hx hb hts u_X8_back_8 hown hK hP (g_M_0 cI a σ) rfl (by decide) ⟨rfl, rfl, rfl⟩ k_X8_back_f7 rfl dX8_back_15 ?_
    refine x_cSv (p_M cI a) (p_RR cI (q_sub2 1 17 1 a)) (q_put2 1 17 1 1 σ) [] [.ref (a 17), .ref (a 1)] hx hb hml hl.1 hown hts hK hP hD hS hA rfl (c_X8_copy l D cI tys ht (q_sub2 1 17 1 a) (q_sub2 1 17 1 σ)) gX8_back_X8_copy rfl ⟨rfl, rfl⟩ i_X8_copy ⟨Nat.le_of_ble_eq_true rfl, Nat.le_of_ble_eq_true rfl⟩ (fr_M_RR_17_1 cI a σ) rfl (Nat.le_of_ble_eq_true rfl) ⟨Nat.zero_le _, Nat.zero_le _⟩ dX8_back_18 h (fun H locs s3 hP hS h => ?_)
    refine lv_aload_n hx hb dX8_back_21 rfl (lv_at hl 0 rfl) ?_
    refine x_getr (C := RX8) (k := 1) hx hb hts u_X8_back_8 hown hK hP (g_M_0 cI a s3) rfl (by decide) ⟨rfl, rfl, rfl⟩ k_X8_back_f7 rfl dX8_back_22 ?_
    refine lv_iconst (v := 5) hx hb dX8_back_25 (by decide +kernel) ?_
    refine x_iald (t0 := 0) hx hb hK hP ht h (g_M_1 cI a s3) dX8_back_26 (fun x4 h => ?_)
    exact x_iret (p_M cI a) hx hb hr hlocks hP hS dX8_back_27 h
  · have h := if_t c2 h
    refine lv_bipush (v := (-5)) hx hb dX8_back_7 (by decide +kernel) ?_
    exact x_iret (p_M cI a) hx hb hr hlocks hP hS dX8_back_9 h
/-! ===== VectorRoundsModel.isHolder(I)Z: world E ===== -/
theorem i_X8_isHolder : yX8_isHolder.cls ≠ "java/lang/invoke/MethodHandle" ∧ yX8_isHolder.cls ≠ "java/lang/invoke/VarHandle" ∧ (parseMethodDescriptor yX8_isHolder.desc).map (fun d => d.parameters.length) = some 1 := by decide +kernel
set_option maxHeartbeats 4000000 in
set_option maxRecDepth 100000 in
theorem c_X8_isHolder (l : Launch) (D : va_G) (cI : ClassId) (tys : List (ClassId × FieldType)) (ht : tys[0]? = some (cI, .int)) (σ : qM) (x1 : Int32) : q_Met l yX8_isHolder wsX8_isHolder ({ frames := 1, cells := 0, slots := 0, locals := 22 }) [.int x1] D tys (fun _ => []) σ (f_X8_isHolder σ x1) := by
  refine x_ofWi (cc := cX8_isHolder) (maxL := 1) (ret := (some .boolean)) (by decide +kernel) rfl (fun _ _ => rfl) (Nat.le_of_ble_eq_true rfl) ?_
  intro p e s m below meth c A ls qq h hx hb hml hr hlocks hown hts hK hP hD hA hS hl
  have hown : s.vm.findClass RX8 = some m.cls := hown
  have hl : lv_has ls 1 [(0, .int x1)] := hl
  unfold f_X8_isHolder at h
  refine lv_iload_n hx hb dX8_isHolder_0 rfl (lv_at hl 0 rfl) ?_
  refine lv_iconst (v := 0) hx hb dX8_isHolder_1 (by decide +kernel) ?_
  refine lv_iconst (v := 5) hx hb dX8_isHolder_2 (by decide +kernel) ?_
  refine x_cSi (σ := σ) (σC := σ) (fun _ => []) (fun _ => []) (fun _ => σ) [] [.int x1, .int 0, .int 5] hx hb hml hl.1 hown hts hK hP hD hS hA rfl (c_X8_in l D cI tys ht σ x1 0 5) gX8_isHolder_X8_in rfl ⟨rfl, rfl⟩ i_X8_in ⟨Nat.le_of_ble_eq_true rfl, Nat.le_of_ble_eq_true rfl⟩ (q_fr0 (fun _ => rfl)) rfl (Nat.le_of_ble_eq_true rfl) ⟨Nat.zero_le _, Nat.zero_le _⟩ dX8_isHolder_3 h (fun x3 H locs s2 hP hS h => ?_)
  exact x_zret (fun _ => []) hx hb hr hlocks hP hS dX8_isHolder_6 h
/-! ===== VectorRoundsModel.hold(III)I: world M ===== -/
theorem i_X8_hold : yX8_hold.cls = RX8 ∧ yX8_hold.cls ≠ "java/lang/invoke/MethodHandle" ∧ yX8_hold.cls ≠ "java/lang/invoke/VarHandle" ∧ (parseMethodDescriptor yX8_hold.desc).map (fun d => d.parameters.length) = some 3 := by decide +kernel
theorem k_X8_hold_f61 : Cond.fieldLink RX8 61 RX8 "holds" "[I" ∈ wsX8_hold := by decide +kernel
theorem k_X8_hold_f64 : Cond.fieldLink RX8 64 RX8 "element" "[I" ∈ wsX8_hold := by decide +kernel
theorem k_X8_hold_f7 : Cond.fieldLink RX8 7 RX8 "s" "[I" ∈ wsX8_hold := by decide +kernel
theorem u_X8_hold_8 : ∀ w ∈ u_ws RX8 TX8 26, w ∈ wsX8_hold := by decide +kernel
set_option maxHeartbeats 4000000 in
set_option maxRecDepth 100000 in
theorem c_X8_hold (l : Launch) (D : va_G) (cI : ClassId) (tys : List (ClassId × FieldType)) (ht : tys[0]? = some (cI, .int)) (a : Nat → Nat) (σ : qM) (x1 : Int32) (x2 : Int32) (x3 : Int32) : q_Met l yX8_hold wsX8_hold ({ frames := 2, cells := 0, slots := 0, locals := 43 }) [.ref (a 0), .int x1, .int x2, .int x3] D tys (p_M cI a) σ (f_X8_hold σ x1 x2 x3) := by
  refine x_ofWi (cc := cX8_hold) (maxL := 6) (ret := (some .int)) (by decide +kernel) rfl (pf_M cI a) (Nat.le_of_ble_eq_true rfl) ?_
  intro p e s m below meth c A ls qq h hx hb hml hr hlocks hown hts hK hP hD hA hS hl
  have hown : s.vm.findClass RX8 = some m.cls := hown
  have hl : lv_has ls 6 [(0, .ref (a 0)), (1, .int x1), (2, .int x2), (3, .int x3)] := hl
  have i90 : ∀ (σ : qM) (x23 x24 x25 x26 : Int32) (H : Heap) (locs : List Loc) (ls : Array Slot), b_X8_hold_90 σ x23 x24 x25 x26 = some qq → va_P D vwCl (p_M cI a σ) H → va_S A s.heap H locs → lv_has ls 6 [(0, .ref (a 0)), (4, .int x23), (5, .int x24)] → W p l e ({ frames := 2, cells := 0, slots := 0, locals := 43 }) s m [.ref (a 0), .int x1, .int x2, .int x3].toArray below meth c H locs 0 0 (MQ below (va_Qi (fun r τ => (r, τ) = qq) (fun τ t => va_P D vwCl ((p_M cI a) τ) t.heap) A) [.ref (a 0), .int x1, .int x2, .int x3].toArray s 0 0 A) (F0 m 90 ls [.int x26, .int x25, .ref (a 19)]) := by
    intro σ x23 x24 x25 x26 H locs ls h hP hS hl
    unfold b_X8_hold_90 at h
    refine x_iast (p_M cI a) (t0 := 0) hx hb hK hP hD hS ht h (g_M_19 cI a σ) (fun j9 v9 => (s_M_19 cI a σ _)) dX8_hold_90 (fun H locs s27 hP hS h => ?_)
    refine lv_aload_n hx hb dX8_hold_91 rfl (lv_at hl 0 rfl) ?_
    refine x_getr (C := RX8) (k := 25) hx hb hts u_X8_hold_8 hown hK hP (g_M_0 cI a s27) rfl (by decide) ⟨rfl, rfl, rfl⟩ k_X8_hold_f64 rfl dX8_hold_92 ?_
    refine lv_iload hx hb dX8_hold_95 (lv_at hl 2 rfl) ?_
    refine lv_iconst (v := 2) hx hb dX8_hold_97 (by decide +kernel) ?_
    refine x_iadd hx hb dX8_hold_98 h (fun x28 h => ?_)
    refine lv_aload_n hx hb dX8_hold_99 rfl (lv_at hl 0 rfl) ?_
    refine x_getr (C := RX8) (k := 1) hx hb hts u_X8_hold_8 hown hK hP (g_M_0 cI a s27) rfl (by decide) ⟨rfl, rfl, rfl⟩ k_X8_hold_f7 rfl dX8_hold_100 ?_
    refine lv_sipush (v := 450) hx hb dX8_hold_103 (by decide +kernel) ?_
    refine lv_iload hx hb dX8_hold_106 (lv_at hl 1 rfl) ?_
    refine x_iadd hx hb dX8_hold_108 h (fun x29 h => ?_)
    refine x_iald (t0 := 0) hx hb hK hP ht h (g_M_1 cI a s27) dX8_hold_109 (fun x30 h => ?_)
    refine x_iast (p_M cI a) (t0 := 0) hx hb hK hP hD hS ht h (g_M_19 cI a s27) (fun j9 v9 => (s_M_19 cI a s27 _)) dX8_hold_110 (fun H locs s31 hP hS h => ?_)
    refine lv_aload_n hx hb dX8_hold_111 rfl (lv_at hl 0 rfl) ?_
    refine x_getr (C := RX8) (k := 25) hx hb hts u_X8_hold_8 hown hK hP (g_M_0 cI a s31) rfl (by decide) ⟨rfl, rfl, rfl⟩ k_X8_hold_f64 rfl dX8_hold_112 ?_
    refine lv_iload hx hb dX8_hold_115 (lv_at hl 2 rfl) ?_
    refine lv_iconst (v := 3) hx hb dX8_hold_117 (by decide +kernel) ?_
    refine x_iadd hx hb dX8_hold_118 h (fun x32 h => ?_)
    refine lv_aload_n hx hb dX8_hold_119 rfl (lv_at hl 0 rfl) ?_
    refine x_getr (C := RX8) (k := 1) hx hb hts u_X8_hold_8 hown hK hP (g_M_0 cI a s31) rfl (by decide) ⟨rfl, rfl, rfl⟩ k_X8_hold_f7 rfl dX8_hold_120 ?_
    refine lv_sipush (v := 350) hx hb dX8_hold_123 (by decide +kernel) ?_
    refine lv_iload hx hb dX8_hold_126 (lv_at hl 1 rfl) ?_
    refine x_iadd hx hb dX8_hold_128 h (fun x33 h => ?_)
    refine x_iald (t0 := 0) hx hb hK hP ht h (g_M_1 cI a s31) dX8_hold_129 (fun x34 h => ?_)
    refine x_iast (p_M cI a) (t0 := 0) hx hb hK hP hD hS ht h (g_M_19 cI a s31) (fun j9 v9 => (s_M_19 cI a s31 _)) dX8_hold_130 (fun H locs s35 hP hS h => ?_)
    refine lv_aload_n hx hb dX8_hold_131 rfl (lv_at hl 0 rfl) ?_
    refine x_getr (C := RX8) (k := 25) hx hb hts u_X8_hold_8 hown hK hP (g_M_0 cI a s35) rfl (by decide) ⟨rfl, rfl, rfl⟩ k_X8_hold_f64 rfl dX8_hold_132 ?_
    refine lv_iload hx hb dX8_hold_135 (lv_at hl 2 rfl) ?_
    refine lv_iconst (v := 4) hx hb dX8_hold_137 (by decide +kernel) ?_
    refine x_iadd hx hb dX8_hold_138 h (fun x36 h => ?_)
    refine lv_aload_n hx hb dX8_hold_139 rfl (lv_at hl 0 rfl) ?_
    refine x_getr (C := RX8) (k := 1) hx hb hts u_X8_hold_8 hown hK hP (g_M_0 cI a s35) rfl (by decide) ⟨rfl, rfl, rfl⟩ k_X8_hold_f7 rfl dX8_hold_140 ?_
    refine lv_sipush (v := 550) hx hb dX8_hold_143 (by decide +kernel) ?_
    refine lv_iload hx hb dX8_hold_146 (lv_at hl 1 rfl) ?_
    refine x_iadd hx hb dX8_hold_148 h (fun x37 h => ?_)
    refine x_iald (t0 := 0) hx hb hK hP ht h (g_M_1 cI a s35) dX8_hold_149 (fun x38 h => ?_)
    refine x_iast (p_M cI a) (t0 := 0) hx hb hK hP hD hS ht h (g_M_19 cI a s35) (fun j9 v9 => (s_M_19 cI a s35 _)) dX8_hold_150 (fun H locs s39 hP hS h => ?_)
    refine lv_iconst (v := 1) hx hb dX8_hold_151 (by decide +kernel) ?_
    exact x_iret (p_M cI a) hx hb hr hlocks hP hS dX8_hold_152 h
  unfold f_X8_hold at h
  refine lv_iload_n hx hb dX8_hold_0 rfl (lv_at hl 1 rfl) ?_
  refine x_cSi (p_M cI a) (fun _ => []) (fun _ => σ) [] [.int x1] hx hb hml hl.1 hown hts hK hP hD hS hA rfl (c_X8_isHolder l D cI tys ht σ x1) gX8_hold_X8_isHolder rfl ⟨rfl, rfl⟩ i_X8_isHolder ⟨Nat.le_of_ble_eq_true rfl, Nat.le_of_ble_eq_true rfl⟩ (q_fr0 (fun _ => rfl)) rfl (Nat.le_of_ble_eq_true rfl) ⟨Nat.zero_le _, Nat.zero_le _⟩ dX8_hold_1 h (fun x5 H locs s4 hP hS h => ?_)
  refine lv_if_eq (tgt := 23) hx hb dX8_hold_4 (by decide) (fun c6 => ?_) (fun c6 => ?_)
  · have h := if_t c6 h
    refine lv_iconst (v := (-1)) hx hb dX8_hold_23 (by decide +kernel) ?_
    exact x_iret (p_M cI a) hx hb hr hlocks hP hS dX8_hold_24 h
  · have h := if_f c6 h
    refine lv_aload_n hx hb dX8_hold_7 rfl (lv_at hl 0 rfl) ?_
    refine lv_iload_n hx hb dX8_hold_8 rfl (lv_at hl 2 rfl) ?_
    refine x_cVi (p_M cI a) (p_M cI a) (fun τ => τ) [] [.int x2] hx hb hml hl.1 hown hts hK hP hD hS hA rfl (c_X8_isRouter l D cI tys ht a s4 x2) gX8_hold_X8_isRouter rfl ⟨rfl, rfl⟩ i_X8_isRouter ⟨Nat.le_of_ble_eq_true rfl, Nat.le_of_ble_eq_true rfl⟩ q_frI (g_M_0 cI a s4) rfl rfl (Nat.le_of_ble_eq_true rfl) ⟨Nat.zero_le _, Nat.zero_le _⟩ dX8_hold_9 h (fun x8 H locs s7 hP hS h => ?_)
    refine lv_if_eq (tgt := 23) hx hb dX8_hold_12 (by decide) (fun c9 => ?_) (fun c9 => ?_)
    · have h := if_t c9 h
      refine lv_iconst (v := (-1)) hx hb dX8_hold_23 (by decide +kernel) ?_
      exact x_iret (p_M cI a) hx hb hr hlocks hP hS dX8_hold_24 h
    · have h := if_f c9 h
      refine lv_aload_n hx hb dX8_hold_15 rfl (lv_at hl 0 rfl) ?_
      refine lv_iload_n hx hb dX8_hold_16 rfl (lv_at hl 3 rfl) ?_
      refine x_cVi (p_M cI a) (p_M cI a) (fun τ => τ) [] [.int x3] hx hb hml hl.1 hown hts hK hP hD hS hA rfl (c_X8_isRouter l D cI tys ht a s7 x3) gX8_hold_X8_isRouter rfl ⟨rfl, rfl⟩ i_X8_isRouter ⟨Nat.le_of_ble_eq_true rfl, Nat.le_of_ble_eq_true rfl⟩ q_frI (g_M_0 cI a s7) rfl rfl (Nat.le_of_ble_eq_true rfl) ⟨Nat.zero_le _, Nat.zero_le _⟩ dX8_hold_17 h (fun x11 H locs s10 hP hS h => ?_)
      refine lv_if_ne (tgt := 25) hx hb dX8_hold_20 (by decide) (fun c12 => ?_) (fun c12 => ?_)
      · have h := if_f c12 h
        refine lv_aload_n hx hb dX8_hold_25 rfl (lv_at hl 0 rfl) ?_
        refine lv_iload_n hx hb dX8_hold_26 rfl (lv_at hl 2 rfl) ?_
        refine lv_iload_n hx hb dX8_hold_27 rfl (lv_at hl 3 rfl) ?_
        refine x_cVi (p_M cI a) (p_M cI a) (fun τ => τ) [] [.int x2, .int x3] hx hb hml hl.1 hown hts hK hP hD hS hA rfl (c_X8_entryOf l D cI tys ht a s10 x2 x3) gX8_hold_X8_entryOf rfl ⟨rfl, rfl⟩ i_X8_entryOf ⟨Nat.le_of_ble_eq_true rfl, Nat.le_of_ble_eq_true rfl⟩ q_frI (g_M_0 cI a s10) rfl rfl (Nat.le_of_ble_eq_true rfl) ⟨Nat.zero_le _, Nat.zero_le _⟩ dX8_hold_28 h (fun x14 H locs s13 hP hS h => ?_)
        refine lv_istore (lv' := [(4, .int x14), (0, .ref (a 0)), (1, .int x1), (2, .int x2), (3, .int x3)]) hx hb dX8_hold_31 hl (by decide) rfl (fun ls hl => ?_)
        refine lv_iload hx hb dX8_hold_33 (lv_at hl 0 rfl) ?_
        refine lv_if_ge (tgt := 41) hx hb dX8_hold_35 (by decide) (fun c15 => ?_) (fun c15 => ?_)
        · have h := if_t c15 h
          refine lv_aload_n hx hb dX8_hold_41 rfl (lv_at hl 1 rfl) ?_
          refine x_getr (C := RX8) (k := 24) hx hb hts u_X8_hold_8 hown hK hP (g_M_0 cI a s13) rfl (by decide) ⟨rfl, rfl, rfl⟩ k_X8_hold_f61 rfl dX8_hold_42 ?_
          refine lv_iload_n hx hb dX8_hold_45 rfl (lv_at hl 2 rfl) ?_
          refine lv_iconst (v := (-1)) hx hb dX8_hold_46 (by decide +kernel) ?_
          refine x_iast (p_M cI a) (t0 := 0) hx hb hK hP hD hS ht h (g_M_18 cI a s13) (fun j9 v9 => (s_M_18 cI a s13 _)) dX8_hold_47 (fun H locs s16 hP hS h => ?_)
          refine lv_bipush (v := 60) hx hb dX8_hold_48 (by decide +kernel) ?_
          refine lv_iload_n hx hb dX8_hold_50 rfl (lv_at hl 2 rfl) ?_
          refine x_imul hx hb dX8_hold_51 h (fun x17 h => ?_)
          refine lv_istore (lv' := [(5, .int x17), (4, .int x14), (0, .ref (a 0)), (1, .int x1), (2, .int x2), (3, .int x3)]) hx hb dX8_hold_52 hl (by decide) rfl (fun ls hl => ?_)
          refine lv_aload_n hx hb dX8_hold_54 rfl (lv_at hl 2 rfl) ?_
          refine x_getr (C := RX8) (k := 25) hx hb hts u_X8_hold_8 hown hK hP (g_M_0 cI a s16) rfl (by decide) ⟨rfl, rfl, rfl⟩ k_X8_hold_f64 rfl dX8_hold_55 ?_
          refine lv_iload hx hb dX8_hold_58 (lv_at hl 0 rfl) ?_
          refine lv_aload_n hx hb dX8_hold_60 rfl (lv_at hl 2 rfl) ?_
          refine x_getr (C := RX8) (k := 1) hx hb hts u_X8_hold_8 hown hK hP (g_M_0 cI a s16) rfl (by decide) ⟨rfl, rfl, rfl⟩ k_X8_hold_f7 rfl dX8_hold_61 ?_
          refine lv_sipush (v := 250) hx hb dX8_hold_64 (by decide +kernel) ?_
          refine lv_iload hx hb dX8_hold_67 (lv_at hl 1 rfl) ?_
          refine x_iadd hx hb dX8_hold_69 h (fun x18 h => ?_)
          refine x_iald (t0 := 0) hx hb hK hP ht h (g_M_1 cI a s16) dX8_hold_70 (fun x19 h => ?_)
          refine x_iast (p_M cI a) (t0 := 0) hx hb hK hP hD hS ht h (g_M_19 cI a s16) (fun j9 v9 => (s_M_19 cI a s16 _)) dX8_hold_71 (fun H locs s20 hP hS h => ?_)
          refine lv_aload_n hx hb dX8_hold_72 rfl (lv_at hl 2 rfl) ?_
          refine x_getr (C := RX8) (k := 25) hx hb hts u_X8_hold_8 hown hK hP (g_M_0 cI a s20) rfl (by decide) ⟨rfl, rfl, rfl⟩ k_X8_hold_f64 rfl dX8_hold_73 ?_
          refine lv_iload hx hb dX8_hold_76 (lv_at hl 0 rfl) ?_
          refine lv_iconst (v := 1) hx hb dX8_hold_78 (by decide +kernel) ?_
          refine x_iadd hx hb dX8_hold_79 h (fun x21 h => ?_)
          refine lv_iload_n hx hb dX8_hold_80 rfl (lv_at hl 4 rfl) ?_
          refine lv_iload_n hx hb dX8_hold_81 rfl (lv_at hl 5 rfl) ?_
          refine lv_icmp_ne (tgt := 89) hx hb dX8_hold_82 (by decide) (fun c22 => ?_) (fun c22 => ?_)
          · have h := if_f c22 h
            refine lv_iconst (v := 0) hx hb dX8_hold_89 (by decide +kernel) ?_
            exact i90 s20 x14 x17 x21 0 _ _ _ h hP hS (lv_sub hl [2, 1, 0] rfl)
          · have h := if_t c22 h
            refine lv_iconst (v := 1) hx hb dX8_hold_85 (by decide +kernel) ?_
            refine lv_goto (tgt := 90) hx hb dX8_hold_86 (by decide) ?_
            exact i90 s20 x14 x17 x21 1 _ _ _ h hP hS (lv_sub hl [2, 1, 0] rfl)
        · have h := if_f c15 h
          refine lv_bipush (v := (-2)) hx hb dX8_hold_38 (by decide +kernel) ?_
          exact x_iret (p_M cI a) hx hb hr hlocks hP hS dX8_hold_40 h
      · have h := if_t c12 h
        refine lv_iconst (v := (-1)) hx hb dX8_hold_23 (by decide +kernel) ?_
        exact x_iret (p_M cI a) hx hb hr hlocks hP hS dX8_hold_24 h
/-! ===== VectorRoundsModel.row(II)I: world M ===== -/
theorem i_X8_row : yX8_row.cls = RX8 ∧ yX8_row.cls ≠ "java/lang/invoke/MethodHandle" ∧ yX8_row.cls ≠ "java/lang/invoke/VarHandle" ∧ (parseMethodDescriptor yX8_row.desc).map (fun d => d.parameters.length) = some 2 := by decide +kernel
theorem k_X8_row_f61 : Cond.fieldLink RX8 61 RX8 "holds" "[I" ∈ wsX8_row := by decide +kernel
theorem k_X8_row_f64 : Cond.fieldLink RX8 64 RX8 "element" "[I" ∈ wsX8_row := by decide +kernel
theorem u_X8_row_8 : ∀ w ∈ u_ws RX8 TX8 26, w ∈ wsX8_row := by decide +kernel
set_option maxHeartbeats 4000000 in
set_option maxRecDepth 100000 in
theorem c_X8_row (l : Launch) (D : va_G) (cI : ClassId) (tys : List (ClassId × FieldType)) (ht : tys[0]? = some (cI, .int)) (a : Nat → Nat) (σ : qM) (x1 : Int32) (x2 : Int32) : q_Met l yX8_row wsX8_row ({ frames := 2, cells := 0, slots := 0, locals := 42 }) [.ref (a 0), .int x1, .int x2] D tys (p_M cI a) σ (f_X8_row σ x1 x2) := by
  refine x_ofWi (cc := cX8_row) (maxL := 4) (ret := (some .int)) (by decide +kernel) rfl (pf_M cI a) (Nat.le_of_ble_eq_true rfl) ?_
  intro p e s m below meth c A ls qq h hx hb hml hr hlocks hown hts hK hP hD hA hS hl
  have hown : s.vm.findClass RX8 = some m.cls := hown
  have hl : lv_has ls 4 [(0, .ref (a 0)), (1, .int x1), (2, .int x2)] := hl
  have main : ∀ k9 : Nat, (∀ (σ : qM) (x10 x11 : Int32) (H : Heap) (locs : List Loc) (ls : Array Slot), q_it (D_X8_row) k9 0 σ [x10, x11] = some qq → va_P D vwCl (p_M cI a σ) H → va_S A s.heap H locs → lv_has ls 4 [(0, .ref (a 0)), (1, .int x10), (3, .int x11)] → W p l e ({ frames := 2, cells := 0, slots := 0, locals := 42 }) s m [.ref (a 0), .int x1, .int x2].toArray below meth c H locs 0 0 (MQ below (va_Qi (fun r τ => (r, τ) = qq) (fun τ t => va_P D vwCl ((p_M cI a) τ) t.heap) A) [.ref (a 0), .int x1, .int x2].toArray s 0 0 A) (F0 m 42 ls [])) := by
    intro k9
    induction k9 with
    | zero => exact (fun _ _ _ _ _ _ h _ _ _ => (q_no (show (none : qR) = some qq from h)).elim)
    | succ k9 ih =>
      have i42 := ih
      refine ?_
      · intro σ x10 x11 H locs ls h hP hS hl
        have h : b_X8_row_42 (q_it (D_X8_row) k9) σ x10 x11 = some qq := h
        unfold b_X8_row_42 at h
        refine lv_iload_n hx hb dX8_row_42 rfl (lv_at hl 2 rfl) ?_
        refine lv_bipush (v := 60) hx hb dX8_row_43 (by decide +kernel) ?_
        refine lv_icmp_ge (tgt := 66) hx hb dX8_row_45 (by decide) (fun c13 => ?_) (fun c13 => ?_)
        · have h := if_t c13 h
          refine lv_iconst (v := 1) hx hb dX8_row_66 (by decide +kernel) ?_
          exact x_iret (p_M cI a) hx hb hr hlocks hP hS dX8_row_67 h
        · have h := if_f c13 h
          refine lv_aload_n hx hb dX8_row_48 rfl (lv_at hl 0 rfl) ?_
          refine x_getr (C := RX8) (k := 25) hx hb hts u_X8_row_8 hown hK hP (g_M_0 cI a σ) rfl (by decide) ⟨rfl, rfl, rfl⟩ k_X8_row_f64 rfl dX8_row_49 ?_
          refine lv_bipush (v := 60) hx hb dX8_row_52 (by decide +kernel) ?_
          refine lv_iload_n hx hb dX8_row_54 rfl (lv_at hl 1 rfl) ?_
          refine x_imul hx hb dX8_row_55 h (fun x14 h => ?_)
          refine lv_iload_n hx hb dX8_row_56 rfl (lv_at hl 2 rfl) ?_
          refine x_iadd hx hb dX8_row_57 h (fun x15 h => ?_)
          refine lv_iconst (v := 0) hx hb dX8_row_58 (by decide +kernel) ?_
          refine x_iast (p_M cI a) (t0 := 0) hx hb hK hP hD hS ht h (g_M_19 cI a σ) (fun j9 v9 => (s_M_19 cI a σ _)) dX8_row_59 (fun H locs s16 hP hS h => ?_)
          refine x_iinc (k := 2) (w := 1) hx hb dX8_row_60 hl rfl (by decide +kernel) (by decide) (fun v9 => [(3, .int v9), (0, .ref (a 0)), (1, .int x10)]) (fun v9 => rfl) h (fun x17 ls hl h => ?_)
          have hl : lv_has ls 4 [(3, .int x17), (0, .ref (a 0)), (1, .int x10)] := hl
          refine lv_goto (tgt := 42) hx hb dX8_row_63 (by decide) ?_
          exact i42 s16 x10 x17 _ _ _ h hP hS (lv_sub hl [1, 2, 0] rfl)
  have i42 : ∀ (σ : qM) (x10 x11 : Int32) (H : Heap) (locs : List Loc) (ls : Array Slot), q_lim (D_X8_row) 0 σ [x10, x11] = some qq → va_P D vwCl (p_M cI a σ) H → va_S A s.heap H locs → lv_has ls 4 [(0, .ref (a 0)), (1, .int x10), (3, .int x11)] → W p l e ({ frames := 2, cells := 0, slots := 0, locals := 42 }) s m [.ref (a 0), .int x1, .int x2].toArray below meth c H locs 0 0 (MQ below (va_Qi (fun r τ => (r, τ) = qq) (fun τ t => va_P D vwCl ((p_M cI a) τ) t.heap) A) [.ref (a 0), .int x1, .int x2].toArray s 0 0 A) (F0 m 42 ls []) := by
    intro σ x10 x11 H locs ls h hP hS hl
    obtain ⟨k9, h⟩ := q_lim_n h
    exact (main k9) σ x10 x11 H locs ls h hP hS hl
  have h : e_X8_row (q_lim (D_X8_row)) σ x1 x2 = some qq := h
  unfold e_X8_row at h
  refine lv_iload_n hx hb dX8_row_0 rfl (lv_at hl 1 rfl) ?_
  refine x_cSi (p_M cI a) (fun _ => []) (fun _ => σ) [] [.int x1] hx hb hml hl.1 hown hts hK hP hD hS hA rfl (c_X8_isHolder l D cI tys ht σ x1) gX8_row_X8_isHolder rfl ⟨rfl, rfl⟩ i_X8_isHolder ⟨Nat.le_of_ble_eq_true rfl, Nat.le_of_ble_eq_true rfl⟩ (q_fr0 (fun _ => rfl)) rfl (Nat.le_of_ble_eq_true rfl) ⟨Nat.zero_le _, Nat.zero_le _⟩ dX8_row_1 h (fun x4 H locs s3 hP hS h => ?_)
  refine lv_if_eq (tgt := 13) hx hb dX8_row_4 (by decide) (fun c5 => ?_) (fun c5 => ?_)
  · have h := if_t c5 h
    refine lv_iconst (v := (-1)) hx hb dX8_row_13 (by decide +kernel) ?_
    exact x_iret (p_M cI a) hx hb hr hlocks hP hS dX8_row_14 h
  · have h := if_f c5 h
    refine lv_iload_n hx hb dX8_row_7 rfl (lv_at hl 2 rfl) ?_
    refine lv_bipush (v := 60) hx hb dX8_row_8 (by decide +kernel) ?_
    refine lv_icmp_le (tgt := 15) hx hb dX8_row_10 (by decide) (fun c6 => ?_) (fun c6 => ?_)
    · have h := if_t c6 h
      refine lv_iload_n hx hb dX8_row_15 rfl (lv_at hl 2 rfl) ?_
      refine lv_iconst (v := (-1)) hx hb dX8_row_16 (by decide +kernel) ?_
      refine lv_icmp_ge (tgt := 23) hx hb dX8_row_17 (by decide) (fun c7 => ?_) (fun c7 => ?_)
      · have h := if_t c7 h
        refine lv_aload_n hx hb dX8_row_23 rfl (lv_at hl 0 rfl) ?_
        refine x_getr (C := RX8) (k := 24) hx hb hts u_X8_row_8 hown hK hP (g_M_0 cI a s3) rfl (by decide) ⟨rfl, rfl, rfl⟩ k_X8_row_f61 rfl dX8_row_24 ?_
        refine lv_iload_n hx hb dX8_row_27 rfl (lv_at hl 1 rfl) ?_
        refine lv_iload_n hx hb dX8_row_28 rfl (lv_at hl 2 rfl) ?_
        refine lv_iconst (v := (-1)) hx hb dX8_row_29 (by decide +kernel) ?_
        refine lv_icmp_ne (tgt := 38) hx hb dX8_row_30 (by decide) (fun c8 => ?_) (fun c8 => ?_)
        · have h := if_f c8 h
          refine lv_iload_n hx hb dX8_row_38 rfl (lv_at hl 2 rfl) ?_
          refine x_iast (p_M cI a) (t0 := 0) hx hb hK hP hD hS ht h (g_M_18 cI a s3) (fun j9 v9 => (s_M_18 cI a s3 _)) dX8_row_39 (fun H locs s9 hP hS h => ?_)
          refine lv_iconst (v := 0) hx hb dX8_row_40 (by decide +kernel) ?_
          refine lv_istore_n (lv' := [(3, .int 0), (0, .ref (a 0)), (1, .int x1), (2, .int x2)]) hx hb dX8_row_41 rfl hl (by decide) rfl (fun ls hl => ?_)
          exact i42 s9 x1 0 _ _ _ h hP hS (lv_sub hl [1, 2, 0] rfl)
        · have h := if_t c8 h
          refine lv_bipush (v := (-2)) hx hb dX8_row_33 (by decide +kernel) ?_
          refine lv_goto (tgt := 39) hx hb dX8_row_35 (by decide) ?_
          refine x_iast (p_M cI a) (t0 := 0) hx hb hK hP hD hS ht h (g_M_18 cI a s3) (fun j9 v9 => (s_M_18 cI a s3 _)) dX8_row_39 (fun H locs s12 hP hS h => ?_)
          refine lv_iconst (v := 0) hx hb dX8_row_40 (by decide +kernel) ?_
          refine lv_istore_n (lv' := [(3, .int 0), (0, .ref (a 0)), (1, .int x1), (2, .int x2)]) hx hb dX8_row_41 rfl hl (by decide) rfl (fun ls hl => ?_)
          exact i42 s12 x1 0 _ _ _ h hP hS (lv_sub hl [1, 2, 0] rfl)
      · have h := if_f c7 h
        refine lv_bipush (v := (-14)) hx hb dX8_row_20 (by decide +kernel) ?_
        exact x_iret (p_M cI a) hx hb hr hlocks hP hS dX8_row_22 h
    · have h := if_f c6 h
      refine lv_iconst (v := (-1)) hx hb dX8_row_13 (by decide +kernel) ?_
      exact x_iret (p_M cI a) hx hb hr hlocks hP hS dX8_row_14 h
/-! ===== VectorRoundsModel.put(III)I: world M ===== -/
theorem i_X8_put : yX8_put.cls = RX8 ∧ yX8_put.cls ≠ "java/lang/invoke/MethodHandle" ∧ yX8_put.cls ≠ "java/lang/invoke/VarHandle" ∧ (parseMethodDescriptor yX8_put.desc).map (fun d => d.parameters.length) = some 3 := by decide +kernel
theorem k_X8_put_c227 : Cond.constant RX8 227 (-2000000000) ∈ wsX8_put := by decide +kernel
theorem k_X8_put_f61 : Cond.fieldLink RX8 61 RX8 "holds" "[I" ∈ wsX8_put := by decide +kernel
theorem k_X8_put_f64 : Cond.fieldLink RX8 64 RX8 "element" "[I" ∈ wsX8_put := by decide +kernel
theorem u_X8_put_8 : ∀ w ∈ u_ws RX8 TX8 26, w ∈ wsX8_put := by decide +kernel
set_option maxHeartbeats 4000000 in
set_option maxRecDepth 100000 in
theorem c_X8_put (l : Launch) (D : va_G) (cI : ClassId) (tys : List (ClassId × FieldType)) (ht : tys[0]? = some (cI, .int)) (a : Nat → Nat) (σ : qM) (x1 : Int32) (x2 : Int32) (x3 : Int32) : q_Met l yX8_put wsX8_put ({ frames := 2, cells := 0, slots := 0, locals := 42 }) [.ref (a 0), .int x1, .int x2, .int x3] D tys (p_M cI a) σ (f_X8_put σ x1 x2 x3) := by
  refine x_ofWi (cc := cX8_put) (maxL := 5) (ret := (some .int)) (by decide +kernel) rfl (pf_M cI a) (Nat.le_of_ble_eq_true rfl) ?_
  intro p e s m below meth c A ls qq h hx hb hml hr hlocks hown hts hK hP hD hA hS hl
  have hown : s.vm.findClass RX8 = some m.cls := hown
  have hl : lv_has ls 5 [(0, .ref (a 0)), (1, .int x1), (2, .int x2), (3, .int x3)] := hl
  unfold f_X8_put at h
  refine lv_iload_n hx hb dX8_put_0 rfl (lv_at hl 1 rfl) ?_
  refine x_cSi (p_M cI a) (fun _ => []) (fun _ => σ) [] [.int x1] hx hb hml hl.1 hown hts hK hP hD hS hA rfl (c_X8_isHolder l D cI tys ht σ x1) gX8_put_X8_isHolder rfl ⟨rfl, rfl⟩ i_X8_isHolder ⟨Nat.le_of_ble_eq_true rfl, Nat.le_of_ble_eq_true rfl⟩ (q_fr0 (fun _ => rfl)) rfl (Nat.le_of_ble_eq_true rfl) ⟨Nat.zero_le _, Nat.zero_le _⟩ dX8_put_1 h (fun x5 H locs s4 hP hS h => ?_)
  refine lv_if_eq (tgt := 23) hx hb dX8_put_4 (by decide) (fun c6 => ?_) (fun c6 => ?_)
  · have h := if_t c6 h
    refine lv_ldc (v := -2000000000) hx hb hown (hts _ k_X8_put_c227) dX8_put_23 ?_
    exact x_iret (p_M cI a) hx hb hr hlocks hP hS dX8_put_25 h
  · have h := if_f c6 h
    refine lv_iload_n hx hb dX8_put_7 rfl (lv_at hl 2 rfl) ?_
    refine lv_iconst (v := 0) hx hb dX8_put_8 (by decide +kernel) ?_
    refine lv_aload_n hx hb dX8_put_9 rfl (lv_at hl 0 rfl) ?_
    refine x_getr (C := RX8) (k := 24) hx hb hts u_X8_put_8 hown hK hP (g_M_0 cI a s4) rfl (by decide) ⟨rfl, rfl, rfl⟩ k_X8_put_f61 rfl dX8_put_10 ?_
    refine lv_iload_n hx hb dX8_put_13 rfl (lv_at hl 1 rfl) ?_
    refine x_iald (t0 := 0) hx hb hK hP ht h (g_M_18 cI a s4) dX8_put_14 (fun x7 h => ?_)
    refine lv_iconst (v := 1) hx hb dX8_put_15 (by decide +kernel) ?_
    refine x_isub hx hb dX8_put_16 h (fun x8 h => ?_)
    refine x_cSi (p_M cI a) (fun _ => []) (fun _ => s4) [] [.int x2, .int 0, .int x8] hx hb hml hl.1 hown hts hK hP hD hS hA rfl (c_X8_in l D cI tys ht s4 x2 0 x8) gX8_put_X8_in rfl ⟨rfl, rfl⟩ i_X8_in ⟨Nat.le_of_ble_eq_true rfl, Nat.le_of_ble_eq_true rfl⟩ (q_fr0 (fun _ => rfl)) rfl (Nat.le_of_ble_eq_true rfl) ⟨Nat.zero_le _, Nat.zero_le _⟩ dX8_put_17 h (fun x10 H locs s9 hP hS h => ?_)
    refine lv_if_ne (tgt := 26) hx hb dX8_put_20 (by decide) (fun c11 => ?_) (fun c11 => ?_)
    · have h := if_f c11 h
      refine lv_aload_n hx hb dX8_put_26 rfl (lv_at hl 0 rfl) ?_
      refine x_getr (C := RX8) (k := 25) hx hb hts u_X8_put_8 hown hK hP (g_M_0 cI a s9) rfl (by decide) ⟨rfl, rfl, rfl⟩ k_X8_put_f64 rfl dX8_put_27 ?_
      refine lv_bipush (v := 60) hx hb dX8_put_30 (by decide +kernel) ?_
      refine lv_iload_n hx hb dX8_put_32 rfl (lv_at hl 1 rfl) ?_
      refine x_imul hx hb dX8_put_33 h (fun x12 h => ?_)
      refine lv_iload_n hx hb dX8_put_34 rfl (lv_at hl 2 rfl) ?_
      refine x_iadd hx hb dX8_put_35 h (fun x13 h => ?_)
      refine x_iald (t0 := 0) hx hb hK hP ht h (g_M_19 cI a s9) dX8_put_36 (fun x14 h => ?_)
      refine lv_istore (lv' := [(4, .int x14), (0, .ref (a 0)), (1, .int x1), (2, .int x2), (3, .int x3)]) hx hb dX8_put_37 hl (by decide) rfl (fun ls hl => ?_)
      refine lv_aload_n hx hb dX8_put_39 rfl (lv_at hl 1 rfl) ?_
      refine x_getr (C := RX8) (k := 25) hx hb hts u_X8_put_8 hown hK hP (g_M_0 cI a s9) rfl (by decide) ⟨rfl, rfl, rfl⟩ k_X8_put_f64 rfl dX8_put_40 ?_
      refine lv_bipush (v := 60) hx hb dX8_put_43 (by decide +kernel) ?_
      refine lv_iload_n hx hb dX8_put_45 rfl (lv_at hl 2 rfl) ?_
      refine x_imul hx hb dX8_put_46 h (fun x15 h => ?_)
      refine lv_iload_n hx hb dX8_put_47 rfl (lv_at hl 3 rfl) ?_
      refine x_iadd hx hb dX8_put_48 h (fun x16 h => ?_)
      refine lv_iload_n hx hb dX8_put_49 rfl (lv_at hl 4 rfl) ?_
      refine x_iast (p_M cI a) (t0 := 0) hx hb hK hP hD hS ht h (g_M_19 cI a s9) (fun j9 v9 => (s_M_19 cI a s9 _)) dX8_put_50 (fun H locs s17 hP hS h => ?_)
      refine lv_iload hx hb dX8_put_51 (lv_at hl 0 rfl) ?_
      exact x_iret (p_M cI a) hx hb hr hlocks hP hS dX8_put_53 h
    · have h := if_t c11 h
      refine lv_ldc (v := -2000000000) hx hb hown (hts _ k_X8_put_c227) dX8_put_23 ?_
      exact x_iret (p_M cI a) hx hb hr hlocks hP hS dX8_put_25 h
/-! ===== VectorRoundsModel.tells(II)I: world M ===== -/
theorem i_X8_tells : yX8_tells.cls = RX8 ∧ yX8_tells.cls ≠ "java/lang/invoke/MethodHandle" ∧ yX8_tells.cls ≠ "java/lang/invoke/VarHandle" ∧ (parseMethodDescriptor yX8_tells.desc).map (fun d => d.parameters.length) = some 2 := by decide +kernel
theorem k_X8_tells_f61 : Cond.fieldLink RX8 61 RX8 "holds" "[I" ∈ wsX8_tells := by decide +kernel
theorem k_X8_tells_f64 : Cond.fieldLink RX8 64 RX8 "element" "[I" ∈ wsX8_tells := by decide +kernel
theorem u_X8_tells_8 : ∀ w ∈ u_ws RX8 TX8 26, w ∈ wsX8_tells := by decide +kernel
set_option maxHeartbeats 4000000 in
set_option maxRecDepth 100000 in
theorem c_X8_tells (l : Launch) (D : va_G) (cI : ClassId) (tys : List (ClassId × FieldType)) (ht : tys[0]? = some (cI, .int)) (a : Nat → Nat) (σ : qM) (x1 : Int32) (x2 : Int32) : q_Met l yX8_tells wsX8_tells ({ frames := 2, cells := 0, slots := 0, locals := 42 }) [.ref (a 0), .int x1, .int x2] D tys (p_M cI a) σ (f_X8_tells σ x1 x2) := by
  refine x_ofWi (cc := cX8_tells) (maxL := 6) (ret := (some .int)) (by decide +kernel) rfl (pf_M cI a) (Nat.le_of_ble_eq_true rfl) ?_
  intro p e s m below meth c A ls qq h hx hb hml hr hlocks hown hts hK hP hD hA hS hl
  have hown : s.vm.findClass RX8 = some m.cls := hown
  have hl : lv_has ls 6 [(0, .ref (a 0)), (1, .int x1), (2, .int x2)] := hl
  have i84 : ∀ (σ : qM) (x22 x23 x24 x25 : Int32) (H : Heap) (locs : List Loc) (ls : Array Slot), b_X8_tells_84 σ x22 x23 x24 x25 = some qq → va_P D vwCl (p_M cI a σ) H → va_S A s.heap H locs → lv_has ls 6 [(0, .ref (a 0)), (2, .int x22), (3, .int x23), (4, .int x24)] → W p l e ({ frames := 2, cells := 0, slots := 0, locals := 42 }) s m [.ref (a 0), .int x1, .int x2].toArray below meth c H locs 0 0 (MQ below (va_Qi (fun r τ => (r, τ) = qq) (fun τ t => va_P D vwCl ((p_M cI a) τ) t.heap) A) [.ref (a 0), .int x1, .int x2].toArray s 0 0 A) (F0 m 84 ls [.int x25]) := by
    intro σ x22 x23 x24 x25 H locs ls h hP hS hl
    unfold b_X8_tells_84 at h
    refine lv_istore (lv' := [(5, .int x25), (0, .ref (a 0)), (2, .int x22), (3, .int x23), (4, .int x24)]) hx hb dX8_tells_84 hl (by decide) rfl (fun ls hl => ?_)
    refine lv_iload_n hx hb dX8_tells_86 rfl (lv_at hl 2 rfl) ?_
    refine lv_if_ne (tgt := 97) hx hb dX8_tells_87 (by decide) (fun c26 => ?_) (fun c26 => ?_)
    · have h := if_f c26 h
      refine lv_iload_n hx hb dX8_tells_97 rfl (lv_at hl 2 rfl) ?_
      refine lv_iconst (v := 1) hx hb dX8_tells_98 (by decide +kernel) ?_
      refine lv_icmp_ne (tgt := 121) hx hb dX8_tells_99 (by decide) (fun c27 => ?_) (fun c27 => ?_)
      · have h := if_f c27 h
        refine lv_iload_n hx hb dX8_tells_121 rfl (lv_at hl 2 rfl) ?_
        refine lv_iconst (v := 2) hx hb dX8_tells_122 (by decide +kernel) ?_
        refine lv_icmp_ne (tgt := 150) hx hb dX8_tells_123 (by decide) (fun c28 => ?_) (fun c28 => ?_)
        · have h := if_f c28 h
          refine lv_iload hx hb dX8_tells_150 (lv_at hl 0 rfl) ?_
          refine lv_if_eq (tgt := 166) hx hb dX8_tells_152 (by decide) (fun c29 => ?_) (fun c29 => ?_)
          · have h := if_t c29 h
            refine lv_bipush (v := (-12)) hx hb dX8_tells_166 (by decide +kernel) ?_
            exact x_iret (p_M cI a) hx hb hr hlocks hP hS dX8_tells_168 h
          · have h := if_f c29 h
            refine lv_aload_n hx hb dX8_tells_155 rfl (lv_at hl 1 rfl) ?_
            refine x_getr (C := RX8) (k := 25) hx hb hts u_X8_tells_8 hown hK hP (g_M_0 cI a σ) rfl (by decide) ⟨rfl, rfl, rfl⟩ k_X8_tells_f64 rfl dX8_tells_156 ?_
            refine lv_iload_n hx hb dX8_tells_159 rfl (lv_at hl 3 rfl) ?_
            refine lv_iconst (v := 4) hx hb dX8_tells_160 (by decide +kernel) ?_
            refine x_iadd hx hb dX8_tells_161 h (fun x30 h => ?_)
            refine x_iald (t0 := 0) hx hb hK hP ht h (g_M_19 cI a σ) dX8_tells_162 (fun x31 h => ?_)
            refine lv_goto (tgt := 168) hx hb dX8_tells_163 (by decide) ?_
            exact x_iret (p_M cI a) hx hb hr hlocks hP hS dX8_tells_168 h
        · have h := if_t c28 h
          refine lv_iload hx hb dX8_tells_126 (lv_at hl 4 rfl) ?_
          refine lv_if_ne (tgt := 147) hx hb dX8_tells_128 (by decide) (fun c32 => ?_) (fun c32 => ?_)
          · have h := if_f c32 h
            refine lv_bipush (v := (-12)) hx hb dX8_tells_147 (by decide +kernel) ?_
            exact x_iret (p_M cI a) hx hb hr hlocks hP hS dX8_tells_149 h
          · have h := if_t c32 h
            refine lv_iload hx hb dX8_tells_131 (lv_at hl 0 rfl) ?_
            refine lv_if_ne (tgt := 147) hx hb dX8_tells_133 (by decide) (fun c33 => ?_) (fun c33 => ?_)
            · have h := if_f c33 h
              refine lv_bipush (v := (-12)) hx hb dX8_tells_147 (by decide +kernel) ?_
              exact x_iret (p_M cI a) hx hb hr hlocks hP hS dX8_tells_149 h
            · have h := if_t c33 h
              refine lv_aload_n hx hb dX8_tells_136 rfl (lv_at hl 1 rfl) ?_
              refine x_getr (C := RX8) (k := 25) hx hb hts u_X8_tells_8 hown hK hP (g_M_0 cI a σ) rfl (by decide) ⟨rfl, rfl, rfl⟩ k_X8_tells_f64 rfl dX8_tells_137 ?_
              refine lv_iload_n hx hb dX8_tells_140 rfl (lv_at hl 3 rfl) ?_
              refine lv_iconst (v := 3) hx hb dX8_tells_141 (by decide +kernel) ?_
              refine x_iadd hx hb dX8_tells_142 h (fun x34 h => ?_)
              refine x_iald (t0 := 0) hx hb hK hP ht h (g_M_19 cI a σ) dX8_tells_143 (fun x35 h => ?_)
              refine lv_goto (tgt := 149) hx hb dX8_tells_144 (by decide) ?_
              exact x_iret (p_M cI a) hx hb hr hlocks hP hS dX8_tells_149 h
      · have h := if_t c27 h
        refine lv_iload hx hb dX8_tells_102 (lv_at hl 4 rfl) ?_
        refine lv_if_eq (tgt := 118) hx hb dX8_tells_104 (by decide) (fun c36 => ?_) (fun c36 => ?_)
        · have h := if_t c36 h
          refine lv_bipush (v := (-12)) hx hb dX8_tells_118 (by decide +kernel) ?_
          exact x_iret (p_M cI a) hx hb hr hlocks hP hS dX8_tells_120 h
        · have h := if_f c36 h
          refine lv_aload_n hx hb dX8_tells_107 rfl (lv_at hl 1 rfl) ?_
          refine x_getr (C := RX8) (k := 25) hx hb hts u_X8_tells_8 hown hK hP (g_M_0 cI a σ) rfl (by decide) ⟨rfl, rfl, rfl⟩ k_X8_tells_f64 rfl dX8_tells_108 ?_
          refine lv_iload_n hx hb dX8_tells_111 rfl (lv_at hl 3 rfl) ?_
          refine lv_iconst (v := 2) hx hb dX8_tells_112 (by decide +kernel) ?_
          refine x_iadd hx hb dX8_tells_113 h (fun x37 h => ?_)
          refine x_iald (t0 := 0) hx hb hK hP ht h (g_M_19 cI a σ) dX8_tells_114 (fun x38 h => ?_)
          refine lv_goto (tgt := 120) hx hb dX8_tells_115 (by decide) ?_
          exact x_iret (p_M cI a) hx hb hr hlocks hP hS dX8_tells_120 h
    · have h := if_t c26 h
      refine lv_aload_n hx hb dX8_tells_90 rfl (lv_at hl 1 rfl) ?_
      refine x_getr (C := RX8) (k := 25) hx hb hts u_X8_tells_8 hown hK hP (g_M_0 cI a σ) rfl (by decide) ⟨rfl, rfl, rfl⟩ k_X8_tells_f64 rfl dX8_tells_91 ?_
      refine lv_iload_n hx hb dX8_tells_94 rfl (lv_at hl 3 rfl) ?_
      refine x_iald (t0 := 0) hx hb hK hP ht h (g_M_19 cI a σ) dX8_tells_95 (fun x39 h => ?_)
      exact x_iret (p_M cI a) hx hb hr hlocks hP hS dX8_tells_96 h
  have i66 : ∀ (σ : qM) (x17 x18 x19 : Int32) (H : Heap) (locs : List Loc) (ls : Array Slot), b_X8_tells_66 σ x17 x18 x19 = some qq → va_P D vwCl (p_M cI a σ) H → va_S A s.heap H locs → lv_has ls 6 [(0, .ref (a 0)), (2, .int x17), (3, .int x18)] → W p l e ({ frames := 2, cells := 0, slots := 0, locals := 42 }) s m [.ref (a 0), .int x1, .int x2].toArray below meth c H locs 0 0 (MQ below (va_Qi (fun r τ => (r, τ) = qq) (fun τ t => va_P D vwCl ((p_M cI a) τ) t.heap) A) [.ref (a 0), .int x1, .int x2].toArray s 0 0 A) (F0 m 66 ls [.int x19]) := by
    intro σ x17 x18 x19 H locs ls h hP hS hl
    unfold b_X8_tells_66 at h
    refine lv_istore (lv' := [(4, .int x19), (0, .ref (a 0)), (2, .int x17), (3, .int x18)]) hx hb dX8_tells_66 hl (by decide) rfl (fun ls hl => ?_)
    refine lv_aload_n hx hb dX8_tells_68 rfl (lv_at hl 1 rfl) ?_
    refine x_getr (C := RX8) (k := 25) hx hb hts u_X8_tells_8 hown hK hP (g_M_0 cI a σ) rfl (by decide) ⟨rfl, rfl, rfl⟩ k_X8_tells_f64 rfl dX8_tells_69 ?_
    refine lv_iload_n hx hb dX8_tells_72 rfl (lv_at hl 3 rfl) ?_
    refine x_iald (t0 := 0) hx hb hK hP ht h (g_M_19 cI a σ) dX8_tells_73 (fun x20 h => ?_)
    refine lv_bipush (v := 16) hx hb dX8_tells_74 (by decide +kernel) ?_
    refine lv_icmp_ne (tgt := 83) hx hb dX8_tells_76 (by decide) (fun c21 => ?_) (fun c21 => ?_)
    · have h := if_f c21 h
      refine lv_iconst (v := 0) hx hb dX8_tells_83 (by decide +kernel) ?_
      exact i84 σ x17 x18 x19 0 _ _ _ h hP hS (lv_sub hl [1, 2, 3, 0] rfl)
    · have h := if_t c21 h
      refine lv_iconst (v := 1) hx hb dX8_tells_79 (by decide +kernel) ?_
      refine lv_goto (tgt := 84) hx hb dX8_tells_80 (by decide) ?_
      exact i84 σ x17 x18 x19 1 _ _ _ h hP hS (lv_sub hl [1, 2, 3, 0] rfl)
  unfold f_X8_tells at h
  refine lv_iload_n hx hb dX8_tells_0 rfl (lv_at hl 1 rfl) ?_
  refine x_cSi (p_M cI a) (fun _ => []) (fun _ => σ) [] [.int x1] hx hb hml hl.1 hown hts hK hP hD hS hA rfl (c_X8_isHolder l D cI tys ht σ x1) gX8_tells_X8_isHolder rfl ⟨rfl, rfl⟩ i_X8_isHolder ⟨Nat.le_of_ble_eq_true rfl, Nat.le_of_ble_eq_true rfl⟩ (q_fr0 (fun _ => rfl)) rfl (Nat.le_of_ble_eq_true rfl) ⟨Nat.zero_le _, Nat.zero_le _⟩ dX8_tells_1 h (fun x4 H locs s3 hP hS h => ?_)
  refine lv_if_eq (tgt := 16) hx hb dX8_tells_4 (by decide) (fun c5 => ?_) (fun c5 => ?_)
  · have h := if_t c5 h
    refine lv_iconst (v := (-1)) hx hb dX8_tells_16 (by decide +kernel) ?_
    exact x_iret (p_M cI a) hx hb hr hlocks hP hS dX8_tells_17 h
  · have h := if_f c5 h
    refine lv_iload_n hx hb dX8_tells_7 rfl (lv_at hl 2 rfl) ?_
    refine lv_iconst (v := 0) hx hb dX8_tells_8 (by decide +kernel) ?_
    refine lv_iconst (v := 3) hx hb dX8_tells_9 (by decide +kernel) ?_
    refine x_cSi (p_M cI a) (fun _ => []) (fun _ => s3) [] [.int x2, .int 0, .int 3] hx hb hml hl.1 hown hts hK hP hD hS hA rfl (c_X8_in l D cI tys ht s3 x2 0 3) gX8_tells_X8_in rfl ⟨rfl, rfl⟩ i_X8_in ⟨Nat.le_of_ble_eq_true rfl, Nat.le_of_ble_eq_true rfl⟩ (q_fr0 (fun _ => rfl)) rfl (Nat.le_of_ble_eq_true rfl) ⟨Nat.zero_le _, Nat.zero_le _⟩ dX8_tells_10 h (fun x7 H locs s6 hP hS h => ?_)
    refine lv_if_ne (tgt := 18) hx hb dX8_tells_13 (by decide) (fun c8 => ?_) (fun c8 => ?_)
    · have h := if_f c8 h
      refine lv_aload_n hx hb dX8_tells_18 rfl (lv_at hl 0 rfl) ?_
      refine x_getr (C := RX8) (k := 24) hx hb hts u_X8_tells_8 hown hK hP (g_M_0 cI a s6) rfl (by decide) ⟨rfl, rfl, rfl⟩ k_X8_tells_f61 rfl dX8_tells_19 ?_
      refine lv_iload_n hx hb dX8_tells_22 rfl (lv_at hl 1 rfl) ?_
      refine x_iald (t0 := 0) hx hb hK hP ht h (g_M_18 cI a s6) dX8_tells_23 (fun x9 h => ?_)
      refine lv_bipush (v := (-2)) hx hb dX8_tells_24 (by decide +kernel) ?_
      refine lv_icmp_ne (tgt := 32) hx hb dX8_tells_26 (by decide) (fun c10 => ?_) (fun c10 => ?_)
      · have h := if_f c10 h
        refine lv_aload_n hx hb dX8_tells_32 rfl (lv_at hl 0 rfl) ?_
        refine x_getr (C := RX8) (k := 24) hx hb hts u_X8_tells_8 hown hK hP (g_M_0 cI a s6) rfl (by decide) ⟨rfl, rfl, rfl⟩ k_X8_tells_f61 rfl dX8_tells_33 ?_
        refine lv_iload_n hx hb dX8_tells_36 rfl (lv_at hl 1 rfl) ?_
        refine x_iald (t0 := 0) hx hb hK hP ht h (g_M_18 cI a s6) dX8_tells_37 (fun x11 h => ?_)
        refine lv_if_lt (tgt := 44) hx hb dX8_tells_38 (by decide) (fun c12 => ?_) (fun c12 => ?_)
        · have h := if_t c12 h
          refine lv_bipush (v := 60) hx hb dX8_tells_44 (by decide +kernel) ?_
          refine lv_iload_n hx hb dX8_tells_46 rfl (lv_at hl 1 rfl) ?_
          refine x_imul hx hb dX8_tells_47 h (fun x13 h => ?_)
          refine lv_istore_n (lv' := [(3, .int x13), (0, .ref (a 0)), (1, .int x1), (2, .int x2)]) hx hb dX8_tells_48 rfl hl (by decide) rfl (fun ls hl => ?_)
          refine lv_aload_n hx hb dX8_tells_49 rfl (lv_at hl 1 rfl) ?_
          refine x_getr (C := RX8) (k := 25) hx hb hts u_X8_tells_8 hown hK hP (g_M_0 cI a s6) rfl (by decide) ⟨rfl, rfl, rfl⟩ k_X8_tells_f64 rfl dX8_tells_50 ?_
          refine lv_iload_n hx hb dX8_tells_53 rfl (lv_at hl 0 rfl) ?_
          refine lv_iconst (v := 1) hx hb dX8_tells_54 (by decide +kernel) ?_
          refine x_iadd hx hb dX8_tells_55 h (fun x14 h => ?_)
          refine x_iald (t0 := 0) hx hb hK hP ht h (g_M_19 cI a s6) dX8_tells_56 (fun x15 h => ?_)
          refine lv_iconst (v := 1) hx hb dX8_tells_57 (by decide +kernel) ?_
          refine lv_icmp_ne (tgt := 65) hx hb dX8_tells_58 (by decide) (fun c16 => ?_) (fun c16 => ?_)
          · have h := if_f c16 h
            refine lv_iconst (v := 0) hx hb dX8_tells_65 (by decide +kernel) ?_
            exact i66 s6 x2 x13 0 _ _ _ h hP hS (lv_sub hl [1, 3, 0] rfl)
          · have h := if_t c16 h
            refine lv_iconst (v := 1) hx hb dX8_tells_61 (by decide +kernel) ?_
            refine lv_goto (tgt := 66) hx hb dX8_tells_62 (by decide) ?_
            exact i66 s6 x2 x13 1 _ _ _ h hP hS (lv_sub hl [1, 3, 0] rfl)
        · have h := if_f c12 h
          refine lv_bipush (v := (-12)) hx hb dX8_tells_41 (by decide +kernel) ?_
          exact x_iret (p_M cI a) hx hb hr hlocks hP hS dX8_tells_43 h
      · have h := if_t c10 h
        refine lv_bipush (v := (-11)) hx hb dX8_tells_29 (by decide +kernel) ?_
        exact x_iret (p_M cI a) hx hb hr hlocks hP hS dX8_tells_31 h
    · have h := if_t c8 h
      refine lv_iconst (v := (-1)) hx hb dX8_tells_16 (by decide +kernel) ?_
      exact x_iret (p_M cI a) hx hb hr hlocks hP hS dX8_tells_17 h
/-! ===== VectorRoundsModel.judge(II)I: world M ===== -/
theorem i_X8_judge : yX8_judge.cls = RX8 ∧ yX8_judge.cls ≠ "java/lang/invoke/MethodHandle" ∧ yX8_judge.cls ≠ "java/lang/invoke/VarHandle" ∧ (parseMethodDescriptor yX8_judge.desc).map (fun d => d.parameters.length) = some 2 := by decide +kernel
theorem k_X8_judge_f61 : Cond.fieldLink RX8 61 RX8 "holds" "[I" ∈ wsX8_judge := by decide +kernel
theorem k_X8_judge_f64 : Cond.fieldLink RX8 64 RX8 "element" "[I" ∈ wsX8_judge := by decide +kernel
theorem k_X8_judge_f7 : Cond.fieldLink RX8 7 RX8 "s" "[I" ∈ wsX8_judge := by decide +kernel
theorem u_X8_judge_8 : ∀ w ∈ u_ws RX8 TX8 26, w ∈ wsX8_judge := by decide +kernel
set_option maxHeartbeats 4000000 in
set_option maxRecDepth 100000 in
theorem c_X8_judge (l : Launch) (D : va_G) (cI : ClassId) (tys : List (ClassId × FieldType)) (ht : tys[0]? = some (cI, .int)) (a : Nat → Nat) (σ : qM) (x1 : Int32) (x2 : Int32) : q_Met l yX8_judge wsX8_judge ({ frames := 2, cells := 0, slots := 0, locals := 43 }) [.ref (a 0), .int x1, .int x2] D tys (p_M cI a) σ (f_X8_judge σ x1 x2) := by
  refine x_ofWi (cc := cX8_judge) (maxL := 8) (ret := (some .int)) (by decide +kernel) rfl (pf_M cI a) (Nat.le_of_ble_eq_true rfl) ?_
  intro p e s m below meth c A ls qq h hx hb hml hr hlocks hown hts hK hP hD hA hS hl
  have hown : s.vm.findClass RX8 = some m.cls := hown
  have hl : lv_has ls 8 [(0, .ref (a 0)), (1, .int x1), (2, .int x2)] := hl
  have main : ∀ k9 : Nat, (∀ (σ : qM) (x20 x21 x22 x23 : Int32) (H : Heap) (locs : List Loc) (ls : Array Slot), q_it (D_X8_judge) k9 0 σ [x20, x21, x22, x23] = some qq → va_P D vwCl (p_M cI a σ) H → va_S A s.heap H locs → lv_has ls 8 [(0, .ref (a 0)), (1, .int x20), (2, .int x21), (3, .int x22), (4, .int x23)] → W p l e ({ frames := 2, cells := 0, slots := 0, locals := 43 }) s m [.ref (a 0), .int x1, .int x2].toArray below meth c H locs 0 0 (MQ below (va_Qi (fun r τ => (r, τ) = qq) (fun τ t => va_P D vwCl ((p_M cI a) τ) t.heap) A) [.ref (a 0), .int x1, .int x2].toArray s 0 0 A) (F0 m 81 ls [])) ∧ (∀ (σ : qM) (x32 x33 x34 x35 x36 x37 : Int32) (H : Heap) (locs : List Loc) (ls : Array Slot), q_it (D_X8_judge) k9 1 σ [x32, x33, x34, x35, x36, x37] = some qq → va_P D vwCl (p_M cI a σ) H → va_S A s.heap H locs → lv_has ls 8 [(0, .ref (a 0)), (1, .int x32), (2, .int x33), (3, .int x34), (4, .int x35), (5, .int x36)] → W p l e ({ frames := 2, cells := 0, slots := 0, locals := 43 }) s m [.ref (a 0), .int x1, .int x2].toArray below meth c H locs 0 0 (MQ below (va_Qi (fun r τ => (r, τ) = qq) (fun τ t => va_P D vwCl ((p_M cI a) τ) t.heap) A) [.ref (a 0), .int x1, .int x2].toArray s 0 0 A) (F0 m 117 ls [.int x37])) ∧ (∀ (σ : qM) (x41 x42 x43 x44 x45 x46 : Int32) (H : Heap) (locs : List Loc) (ls : Array Slot), q_it (D_X8_judge) k9 2 σ [x41, x42, x43, x44, x45, x46] = some qq → va_P D vwCl (p_M cI a σ) H → va_S A s.heap H locs → lv_has ls 8 [(0, .ref (a 0)), (1, .int x41), (2, .int x42), (3, .int x43), (4, .int x44), (6, .int x45)] → W p l e ({ frames := 2, cells := 0, slots := 0, locals := 43 }) s m [.ref (a 0), .int x1, .int x2].toArray below meth c H locs 0 0 (MQ below (va_Qi (fun r τ => (r, τ) = qq) (fun τ t => va_P D vwCl ((p_M cI a) τ) t.heap) A) [.ref (a 0), .int x1, .int x2].toArray s 0 0 A) (F0 m 139 ls [.int x46])) := by
    intro k9
    induction k9 with
    | zero => exact ⟨(fun _ _ _ _ _ _ _ _ h _ _ _ => (q_no (show (none : qR) = some qq from h)).elim), (fun _ _ _ _ _ _ _ _ _ _ h _ _ _ => (q_no (show (none : qR) = some qq from h)).elim), (fun _ _ _ _ _ _ _ _ _ _ h _ _ _ => (q_no (show (none : qR) = some qq from h)).elim)⟩
    | succ k9 ih =>
      obtain ⟨i81, i117, i139⟩ := ih
      refine ⟨?_, ?_, ?_⟩
      · intro σ x20 x21 x22 x23 H locs ls h hP hS hl
        have h : b_X8_judge_81 (q_it (D_X8_judge) k9) σ x20 x21 x22 x23 = some qq := h
        unfold b_X8_judge_81 at h
        refine lv_iload hx hb dX8_judge_81 (lv_at hl 4 rfl) ?_
        refine lv_iload_n hx hb dX8_judge_83 rfl (lv_at hl 3 rfl) ?_
        refine lv_icmp_ge (tgt := 190) hx hb dX8_judge_84 (by decide) (fun c24 => ?_) (fun c24 => ?_)
        · have h := if_t c24 h
          refine lv_iload_n hx hb dX8_judge_190 rfl (lv_at hl 3 rfl) ?_
          refine lv_aload_n hx hb dX8_judge_191 rfl (lv_at hl 0 rfl) ?_
          refine x_getr (C := RX8) (k := 1) hx hb hts u_X8_judge_8 hown hK hP (g_M_0 cI a σ) rfl (by decide) ⟨rfl, rfl, rfl⟩ k_X8_judge_f7 rfl dX8_judge_192 ?_
          refine lv_iconst (v := 0) hx hb dX8_judge_195 (by decide +kernel) ?_
          refine x_iald (t0 := 0) hx hb hK hP ht h (g_M_1 cI a σ) dX8_judge_196 (fun x25 h => ?_)
          refine lv_icmp_ge (tgt := 204) hx hb dX8_judge_197 (by decide) (fun c26 => ?_) (fun c26 => ?_)
          · have h := if_t c26 h
            refine lv_bipush (v := (-2)) hx hb dX8_judge_204 (by decide +kernel) ?_
            exact x_iret (p_M cI a) hx hb hr hlocks hP hS dX8_judge_206 h
          · have h := if_f c26 h
            refine lv_iload_n hx hb dX8_judge_200 rfl (lv_at hl 3 rfl) ?_
            refine lv_goto (tgt := 206) hx hb dX8_judge_201 (by decide) ?_
            exact x_iret (p_M cI a) hx hb hr hlocks hP hS dX8_judge_206 h
        · have h := if_f c24 h
          refine lv_aload_n hx hb dX8_judge_87 rfl (lv_at hl 0 rfl) ?_
          refine lv_iload_n hx hb dX8_judge_88 rfl (lv_at hl 2 rfl) ?_
          refine lv_iload hx hb dX8_judge_89 (lv_at hl 4 rfl) ?_
          refine x_cVi (p_M cI a) (p_M cI a) (fun τ => τ) [] [.int x21, .int x23] hx hb hml hl.1 hown hts hK hP hD hS hA rfl (c_X8_entryOf l D cI tys ht a σ x21 x23) gX8_judge_X8_entryOf rfl ⟨rfl, rfl⟩ i_X8_entryOf ⟨Nat.le_of_ble_eq_true rfl, Nat.le_of_ble_eq_true rfl⟩ q_frI (g_M_0 cI a σ) rfl rfl (Nat.le_of_ble_eq_true rfl) ⟨Nat.zero_le _, Nat.zero_le _⟩ dX8_judge_91 h (fun x28 H locs s27 hP hS h => ?_)
          refine lv_istore (lv' := [(5, .int x28), (0, .ref (a 0)), (1, .int x20), (2, .int x21), (3, .int x22), (4, .int x23)]) hx hb dX8_judge_94 hl (by decide) rfl (fun ls hl => ?_)
          refine lv_iload hx hb dX8_judge_96 (lv_at hl 0 rfl) ?_
          refine lv_if_ge (tgt := 106) hx hb dX8_judge_98 (by decide) (fun c29 => ?_) (fun c29 => ?_)
          · have h := if_t c29 h
            refine lv_aload_n hx hb dX8_judge_106 rfl (lv_at hl 1 rfl) ?_
            refine x_getr (C := RX8) (k := 1) hx hb hts u_X8_judge_8 hown hK hP (g_M_0 cI a s27) rfl (by decide) ⟨rfl, rfl, rfl⟩ k_X8_judge_f7 rfl dX8_judge_107 ?_
            refine lv_sipush (v := 250) hx hb dX8_judge_110 (by decide +kernel) ?_
            refine lv_iload hx hb dX8_judge_113 (lv_at hl 0 rfl) ?_
            refine x_iadd hx hb dX8_judge_115 h (fun x30 h => ?_)
            refine x_iald (t0 := 0) hx hb hK hP ht h (g_M_1 cI a s27) dX8_judge_116 (fun x31 h => ?_)
            exact i117 s27 x20 x21 x22 x23 x28 x31 _ _ _ h hP hS (lv_sub hl [1, 2, 3, 4, 5, 0] rfl)
          · have h := if_f c29 h
            refine lv_bipush (v := 16) hx hb dX8_judge_101 (by decide +kernel) ?_
            refine lv_goto (tgt := 117) hx hb dX8_judge_103 (by decide) ?_
            exact i117 s27 x20 x21 x22 x23 x28 16 _ _ _ h hP hS (lv_sub hl [1, 2, 3, 4, 5, 0] rfl)
      · intro σ x32 x33 x34 x35 x36 x37 H locs ls h hP hS hl
        have h : b_X8_judge_117 (q_it (D_X8_judge) k9) σ x32 x33 x34 x35 x36 x37 = some qq := h
        unfold b_X8_judge_117 at h
        refine lv_istore (lv' := [(6, .int x37), (0, .ref (a 0)), (1, .int x32), (2, .int x33), (3, .int x34), (4, .int x35), (5, .int x36)]) hx hb dX8_judge_117 hl (by decide) rfl (fun ls hl => ?_)
        refine lv_iload hx hb dX8_judge_119 (lv_at hl 6 rfl) ?_
        refine lv_if_ge (tgt := 128) hx hb dX8_judge_121 (by decide) (fun c38 => ?_) (fun c38 => ?_)
        · have h := if_t c38 h
          refine lv_aload_n hx hb dX8_judge_128 rfl (lv_at hl 1 rfl) ?_
          refine x_getr (C := RX8) (k := 1) hx hb hts u_X8_judge_8 hown hK hP (g_M_0 cI a σ) rfl (by decide) ⟨rfl, rfl, rfl⟩ k_X8_judge_f7 rfl dX8_judge_129 ?_
          refine lv_sipush (v := 350) hx hb dX8_judge_132 (by decide +kernel) ?_
          refine lv_iload hx hb dX8_judge_135 (lv_at hl 6 rfl) ?_
          refine x_iadd hx hb dX8_judge_137 h (fun x39 h => ?_)
          refine x_iald (t0 := 0) hx hb hK hP ht h (g_M_1 cI a σ) dX8_judge_138 (fun x40 h => ?_)
          exact i139 σ x32 x33 x34 x35 x37 x40 _ _ _ h hP hS (lv_sub hl [1, 2, 3, 4, 5, 0] rfl)
        · have h := if_f c38 h
          refine lv_iload_n hx hb dX8_judge_124 rfl (lv_at hl 3 rfl) ?_
          refine lv_goto (tgt := 139) hx hb dX8_judge_125 (by decide) ?_
          exact i139 σ x32 x33 x34 x35 x37 x33 _ _ _ h hP hS (lv_sub hl [1, 2, 3, 4, 5, 0] rfl)
      · intro σ x41 x42 x43 x44 x45 x46 H locs ls h hP hS hl
        have h : b_X8_judge_139 (q_it (D_X8_judge) k9) σ x41 x42 x43 x44 x45 x46 = some qq := h
        unfold b_X8_judge_139 at h
        refine lv_istore (lv' := [(7, .int x46), (0, .ref (a 0)), (1, .int x41), (2, .int x42), (3, .int x43), (4, .int x44), (6, .int x45)]) hx hb dX8_judge_139 hl (by decide) rfl (fun ls hl => ?_)
        refine lv_aload_n hx hb dX8_judge_141 rfl (lv_at hl 1 rfl) ?_
        refine x_getr (C := RX8) (k := 25) hx hb hts u_X8_judge_8 hown hK hP (g_M_0 cI a σ) rfl (by decide) ⟨rfl, rfl, rfl⟩ k_X8_judge_f64 rfl dX8_judge_142 ?_
        refine lv_bipush (v := 60) hx hb dX8_judge_145 (by decide +kernel) ?_
        refine lv_iload_n hx hb dX8_judge_147 rfl (lv_at hl 2 rfl) ?_
        refine x_imul hx hb dX8_judge_148 h (fun x47 h => ?_)
        refine lv_iconst (v := 2) hx hb dX8_judge_149 (by decide +kernel) ?_
        refine lv_iload hx hb dX8_judge_150 (lv_at hl 5 rfl) ?_
        refine x_imul hx hb dX8_judge_152 h (fun x48 h => ?_)
        refine x_iadd hx hb dX8_judge_153 h (fun x49 h => ?_)
        refine x_iald (t0 := 0) hx hb hK hP ht h (g_M_19 cI a σ) dX8_judge_154 (fun x50 h => ?_)
        refine lv_iload hx hb dX8_judge_155 (lv_at hl 6 rfl) ?_
        refine lv_icmp_ne (tgt := 181) hx hb dX8_judge_157 (by decide) (fun c51 => ?_) (fun c51 => ?_)
        · have h := if_f c51 h
          refine lv_iload hx hb dX8_judge_181 (lv_at hl 5 rfl) ?_
          exact x_iret (p_M cI a) hx hb hr hlocks hP hS dX8_judge_183 h
        · have h := if_t c51 h
          refine lv_aload_n hx hb dX8_judge_160 rfl (lv_at hl 1 rfl) ?_
          refine x_getr (C := RX8) (k := 25) hx hb hts u_X8_judge_8 hown hK hP (g_M_0 cI a σ) rfl (by decide) ⟨rfl, rfl, rfl⟩ k_X8_judge_f64 rfl dX8_judge_161 ?_
          refine lv_bipush (v := 60) hx hb dX8_judge_164 (by decide +kernel) ?_
          refine lv_iload_n hx hb dX8_judge_166 rfl (lv_at hl 2 rfl) ?_
          refine x_imul hx hb dX8_judge_167 h (fun x52 h => ?_)
          refine lv_iconst (v := 2) hx hb dX8_judge_168 (by decide +kernel) ?_
          refine lv_iload hx hb dX8_judge_169 (lv_at hl 5 rfl) ?_
          refine x_imul hx hb dX8_judge_171 h (fun x53 h => ?_)
          refine x_iadd hx hb dX8_judge_172 h (fun x54 h => ?_)
          refine lv_iconst (v := 1) hx hb dX8_judge_173 (by decide +kernel) ?_
          refine x_iadd hx hb dX8_judge_174 h (fun x55 h => ?_)
          refine x_iald (t0 := 0) hx hb hK hP ht h (g_M_19 cI a σ) dX8_judge_175 (fun x56 h => ?_)
          refine lv_iload hx hb dX8_judge_176 (lv_at hl 0 rfl) ?_
          refine lv_icmp_eq (tgt := 184) hx hb dX8_judge_178 (by decide) (fun c57 => ?_) (fun c57 => ?_)
          · have h := if_t c57 h
            refine x_iinc (k := 5) (w := 1) hx hb dX8_judge_184 hl rfl (by decide +kernel) (by decide) (fun v9 => [(4, .int v9), (7, .int x46), (0, .ref (a 0)), (1, .int x41), (2, .int x42), (3, .int x43), (6, .int x45)]) (fun v9 => rfl) h (fun x58 ls hl h => ?_)
            have hl : lv_has ls 8 [(4, .int x58), (7, .int x46), (0, .ref (a 0)), (1, .int x41), (2, .int x42), (3, .int x43), (6, .int x45)] := hl
            refine lv_goto (tgt := 81) hx hb dX8_judge_187 (by decide) ?_
            exact i81 σ x41 x42 x43 x58 _ _ _ h hP hS (lv_sub hl [2, 3, 4, 5, 0] rfl)
          · have h := if_f c57 h
            refine lv_iload hx hb dX8_judge_181 (lv_at hl 5 rfl) ?_
            exact x_iret (p_M cI a) hx hb hr hlocks hP hS dX8_judge_183 h
  have i81 : ∀ (σ : qM) (x20 x21 x22 x23 : Int32) (H : Heap) (locs : List Loc) (ls : Array Slot), q_lim (D_X8_judge) 0 σ [x20, x21, x22, x23] = some qq → va_P D vwCl (p_M cI a σ) H → va_S A s.heap H locs → lv_has ls 8 [(0, .ref (a 0)), (1, .int x20), (2, .int x21), (3, .int x22), (4, .int x23)] → W p l e ({ frames := 2, cells := 0, slots := 0, locals := 43 }) s m [.ref (a 0), .int x1, .int x2].toArray below meth c H locs 0 0 (MQ below (va_Qi (fun r τ => (r, τ) = qq) (fun τ t => va_P D vwCl ((p_M cI a) τ) t.heap) A) [.ref (a 0), .int x1, .int x2].toArray s 0 0 A) (F0 m 81 ls []) := by
    intro σ x20 x21 x22 x23 H locs ls h hP hS hl
    obtain ⟨k9, h⟩ := q_lim_n h
    exact (main k9).1 σ x20 x21 x22 x23 H locs ls h hP hS hl
  have i117 : ∀ (σ : qM) (x32 x33 x34 x35 x36 x37 : Int32) (H : Heap) (locs : List Loc) (ls : Array Slot), q_lim (D_X8_judge) 1 σ [x32, x33, x34, x35, x36, x37] = some qq → va_P D vwCl (p_M cI a σ) H → va_S A s.heap H locs → lv_has ls 8 [(0, .ref (a 0)), (1, .int x32), (2, .int x33), (3, .int x34), (4, .int x35), (5, .int x36)] → W p l e ({ frames := 2, cells := 0, slots := 0, locals := 43 }) s m [.ref (a 0), .int x1, .int x2].toArray below meth c H locs 0 0 (MQ below (va_Qi (fun r τ => (r, τ) = qq) (fun τ t => va_P D vwCl ((p_M cI a) τ) t.heap) A) [.ref (a 0), .int x1, .int x2].toArray s 0 0 A) (F0 m 117 ls [.int x37]) := by
    intro σ x32 x33 x34 x35 x36 x37 H locs ls h hP hS hl
    obtain ⟨k9, h⟩ := q_lim_n h
    exact (main k9).2.1 σ x32 x33 x34 x35 x36 x37 H locs ls h hP hS hl
  have i139 : ∀ (σ : qM) (x41 x42 x43 x44 x45 x46 : Int32) (H : Heap) (locs : List Loc) (ls : Array Slot), q_lim (D_X8_judge) 2 σ [x41, x42, x43, x44, x45, x46] = some qq → va_P D vwCl (p_M cI a σ) H → va_S A s.heap H locs → lv_has ls 8 [(0, .ref (a 0)), (1, .int x41), (2, .int x42), (3, .int x43), (4, .int x44), (6, .int x45)] → W p l e ({ frames := 2, cells := 0, slots := 0, locals := 43 }) s m [.ref (a 0), .int x1, .int x2].toArray below meth c H locs 0 0 (MQ below (va_Qi (fun r τ => (r, τ) = qq) (fun τ t => va_P D vwCl ((p_M cI a) τ) t.heap) A) [.ref (a 0), .int x1, .int x2].toArray s 0 0 A) (F0 m 139 ls [.int x46]) := by
    intro σ x41 x42 x43 x44 x45 x46 H locs ls h hP hS hl
    obtain ⟨k9, h⟩ := q_lim_n h
    exact (main k9).2.2 σ x41 x42 x43 x44 x45 x46 H locs ls h hP hS hl
  have h : e_X8_judge (q_lim (D_X8_judge)) σ x1 x2 = some qq := h
  unfold e_X8_judge at h
  refine lv_iload_n hx hb dX8_judge_0 rfl (lv_at hl 1 rfl) ?_
  refine x_cSi (p_M cI a) (fun _ => []) (fun _ => σ) [] [.int x1] hx hb hml hl.1 hown hts hK hP hD hS hA rfl (c_X8_isHolder l D cI tys ht σ x1) gX8_judge_X8_isHolder rfl ⟨rfl, rfl⟩ i_X8_isHolder ⟨Nat.le_of_ble_eq_true rfl, Nat.le_of_ble_eq_true rfl⟩ (q_fr0 (fun _ => rfl)) rfl (Nat.le_of_ble_eq_true rfl) ⟨Nat.zero_le _, Nat.zero_le _⟩ dX8_judge_1 h (fun x4 H locs s3 hP hS h => ?_)
  refine lv_if_eq (tgt := 15) hx hb dX8_judge_4 (by decide) (fun c5 => ?_) (fun c5 => ?_)
  · have h := if_t c5 h
    refine lv_iconst (v := (-1)) hx hb dX8_judge_15 (by decide +kernel) ?_
    exact x_iret (p_M cI a) hx hb hr hlocks hP hS dX8_judge_16 h
  · have h := if_f c5 h
    refine lv_aload_n hx hb dX8_judge_7 rfl (lv_at hl 0 rfl) ?_
    refine lv_iload_n hx hb dX8_judge_8 rfl (lv_at hl 2 rfl) ?_
    refine x_cVi (p_M cI a) (p_M cI a) (fun τ => τ) [] [.int x2] hx hb hml hl.1 hown hts hK hP hD hS hA rfl (c_X8_isRouter l D cI tys ht a s3 x2) gX8_judge_X8_isRouter rfl ⟨rfl, rfl⟩ i_X8_isRouter ⟨Nat.le_of_ble_eq_true rfl, Nat.le_of_ble_eq_true rfl⟩ q_frI (g_M_0 cI a s3) rfl rfl (Nat.le_of_ble_eq_true rfl) ⟨Nat.zero_le _, Nat.zero_le _⟩ dX8_judge_9 h (fun x7 H locs s6 hP hS h => ?_)
    refine lv_if_ne (tgt := 17) hx hb dX8_judge_12 (by decide) (fun c8 => ?_) (fun c8 => ?_)
    · have h := if_f c8 h
      refine lv_aload_n hx hb dX8_judge_17 rfl (lv_at hl 0 rfl) ?_
      refine x_getr (C := RX8) (k := 24) hx hb hts u_X8_judge_8 hown hK hP (g_M_0 cI a s6) rfl (by decide) ⟨rfl, rfl, rfl⟩ k_X8_judge_f61 rfl dX8_judge_18 ?_
      refine lv_iload_n hx hb dX8_judge_21 rfl (lv_at hl 1 rfl) ?_
      refine x_iald (t0 := 0) hx hb hK hP ht h (g_M_18 cI a s6) dX8_judge_22 (fun x9 h => ?_)
      refine lv_bipush (v := (-2)) hx hb dX8_judge_23 (by decide +kernel) ?_
      refine lv_icmp_ne (tgt := 31) hx hb dX8_judge_25 (by decide) (fun c10 => ?_) (fun c10 => ?_)
      · have h := if_f c10 h
        refine lv_aload_n hx hb dX8_judge_31 rfl (lv_at hl 0 rfl) ?_
        refine x_getr (C := RX8) (k := 24) hx hb hts u_X8_judge_8 hown hK hP (g_M_0 cI a s6) rfl (by decide) ⟨rfl, rfl, rfl⟩ k_X8_judge_f61 rfl dX8_judge_32 ?_
        refine lv_iload_n hx hb dX8_judge_35 rfl (lv_at hl 1 rfl) ?_
        refine x_iald (t0 := 0) hx hb hK hP ht h (g_M_18 cI a s6) dX8_judge_36 (fun x11 h => ?_)
        refine lv_iconst (v := (-1)) hx hb dX8_judge_37 (by decide +kernel) ?_
        refine lv_icmp_ne (tgt := 44) hx hb dX8_judge_38 (by decide) (fun c12 => ?_) (fun c12 => ?_)
        · have h := if_f c12 h
          refine lv_aload_n hx hb dX8_judge_44 rfl (lv_at hl 0 rfl) ?_
          refine x_getr (C := RX8) (k := 24) hx hb hts u_X8_judge_8 hown hK hP (g_M_0 cI a s6) rfl (by decide) ⟨rfl, rfl, rfl⟩ k_X8_judge_f61 rfl dX8_judge_45 ?_
          refine lv_iload_n hx hb dX8_judge_48 rfl (lv_at hl 1 rfl) ?_
          refine x_iald (t0 := 0) hx hb hK hP ht h (g_M_18 cI a s6) dX8_judge_49 (fun x13 h => ?_)
          refine lv_iconst (v := 2) hx hb dX8_judge_50 (by decide +kernel) ?_
          refine x_idiv hx hb dX8_judge_51 h (fun x14 h => ?_)
          refine lv_istore_n (lv' := [(3, .int x14), (0, .ref (a 0)), (1, .int x1), (2, .int x2)]) hx hb dX8_judge_52 rfl hl (by decide) rfl (fun ls hl => ?_)
          refine lv_aload_n hx hb dX8_judge_53 rfl (lv_at hl 1 rfl) ?_
          refine x_getr (C := RX8) (k := 24) hx hb hts u_X8_judge_8 hown hK hP (g_M_0 cI a s6) rfl (by decide) ⟨rfl, rfl, rfl⟩ k_X8_judge_f61 rfl dX8_judge_54 ?_
          refine lv_iload_n hx hb dX8_judge_57 rfl (lv_at hl 2 rfl) ?_
          refine x_iald (t0 := 0) hx hb hK hP ht h (g_M_18 cI a s6) dX8_judge_58 (fun x15 h => ?_)
          refine lv_iconst (v := 2) hx hb dX8_judge_59 (by decide +kernel) ?_
          refine x_irem hx hb dX8_judge_60 h (fun x16 h => ?_)
          refine lv_iconst (v := 1) hx hb dX8_judge_61 (by decide +kernel) ?_
          refine lv_icmp_eq (tgt := 75) hx hb dX8_judge_62 (by decide) (fun c17 => ?_) (fun c17 => ?_)
          · have h := if_t c17 h
            refine lv_bipush (v := (-13)) hx hb dX8_judge_75 (by decide +kernel) ?_
            exact x_iret (p_M cI a) hx hb hr hlocks hP hS dX8_judge_77 h
          · have h := if_f c17 h
            refine lv_iload_n hx hb dX8_judge_65 rfl (lv_at hl 0 rfl) ?_
            refine lv_aload_n hx hb dX8_judge_66 rfl (lv_at hl 1 rfl) ?_
            refine x_getr (C := RX8) (k := 1) hx hb hts u_X8_judge_8 hown hK hP (g_M_0 cI a s6) rfl (by decide) ⟨rfl, rfl, rfl⟩ k_X8_judge_f7 rfl dX8_judge_67 ?_
            refine lv_iconst (v := 0) hx hb dX8_judge_70 (by decide +kernel) ?_
            refine x_iald (t0 := 0) hx hb hK hP ht h (g_M_1 cI a s6) dX8_judge_71 (fun x18 h => ?_)
            refine lv_icmp_le (tgt := 78) hx hb dX8_judge_72 (by decide) (fun c19 => ?_) (fun c19 => ?_)
            · have h := if_t c19 h
              refine lv_iconst (v := 0) hx hb dX8_judge_78 (by decide +kernel) ?_
              refine lv_istore (lv' := [(4, .int 0), (3, .int x14), (0, .ref (a 0)), (1, .int x1), (2, .int x2)]) hx hb dX8_judge_79 hl (by decide) rfl (fun ls hl => ?_)
              exact i81 s6 x1 x2 x14 0 _ _ _ h hP hS (lv_sub hl [2, 3, 4, 1, 0] rfl)
            · have h := if_f c19 h
              refine lv_bipush (v := (-13)) hx hb dX8_judge_75 (by decide +kernel) ?_
              exact x_iret (p_M cI a) hx hb hr hlocks hP hS dX8_judge_77 h
        · have h := if_t c12 h
          refine lv_bipush (v := (-12)) hx hb dX8_judge_41 (by decide +kernel) ?_
          exact x_iret (p_M cI a) hx hb hr hlocks hP hS dX8_judge_43 h
      · have h := if_t c10 h
        refine lv_bipush (v := (-11)) hx hb dX8_judge_28 (by decide +kernel) ?_
        exact x_iret (p_M cI a) hx hb hr hlocks hP hS dX8_judge_30 h
    · have h := if_t c8 h
      refine lv_iconst (v := (-1)) hx hb dX8_judge_15 (by decide +kernel) ?_
      exact x_iret (p_M cI a) hx hb hr hlocks hP hS dX8_judge_16 h
/-! ===== VectorRoundsModel.count(I)I: world M ===== -/
theorem i_X8_count : yX8_count.cls = RX8 ∧ yX8_count.cls ≠ "java/lang/invoke/MethodHandle" ∧ yX8_count.cls ≠ "java/lang/invoke/VarHandle" ∧ (parseMethodDescriptor yX8_count.desc).map (fun d => d.parameters.length) = some 1 := by decide +kernel
theorem k_X8_count_f177 : Cond.fieldLink RX8 177 RX8 "taped" "I" ∈ wsX8_count := by decide +kernel
theorem k_X8_count_f61 : Cond.fieldLink RX8 61 RX8 "holds" "[I" ∈ wsX8_count := by decide +kernel
theorem k_X8_count_f7 : Cond.fieldLink RX8 7 RX8 "s" "[I" ∈ wsX8_count := by decide +kernel
theorem u_X8_count_8 : ∀ w ∈ u_ws RX8 TX8 26, w ∈ wsX8_count := by decide +kernel
set_option maxHeartbeats 4000000 in
set_option maxRecDepth 100000 in
theorem c_X8_count (l : Launch) (D : va_G) (cI : ClassId) (tys : List (ClassId × FieldType)) (ht : tys[0]? = some (cI, .int)) (a : Nat → Nat) (σ : qM) (x1 : Int32) : q_Met l yX8_count wsX8_count ({ frames := 0, cells := 0, slots := 0, locals := 0 }) [.ref (a 0), .int x1] D tys (p_M cI a) σ (f_X8_count σ x1) := by
  refine x_ofWi (cc := cX8_count) (maxL := 5) (ret := (some .int)) (by decide +kernel) rfl (pf_M cI a) (Nat.le_of_ble_eq_true rfl) ?_
  intro p e s m below meth c A ls qq h hx hb hml hr hlocks hown hts hK hP hD hA hS hl
  have hown : s.vm.findClass RX8 = some m.cls := hown
  have hl : lv_has ls 5 [(0, .ref (a 0)), (1, .int x1)] := hl
  have main : ∀ k9 : Nat, (∀ (σ : qM) (x7 x8 : Int32) (H : Heap) (locs : List Loc) (ls : Array Slot), q_it (D_X8_count) k9 0 σ [x7, x8] = some qq → va_P D vwCl (p_M cI a σ) H → va_S A s.heap H locs → lv_has ls 5 [(0, .ref (a 0)), (2, .int x7), (3, .int x8)] → W p l e ({ frames := 0, cells := 0, slots := 0, locals := 0 }) s m [.ref (a 0), .int x1].toArray below meth c H locs 0 0 (MQ below (va_Qi (fun r τ => (r, τ) = qq) (fun τ t => va_P D vwCl ((p_M cI a) τ) t.heap) A) [.ref (a 0), .int x1].toArray s 0 0 A) (F0 m 68 ls [])) ∧ (∀ (σ : qM) (x10 x11 : Int32) (H : Heap) (locs : List Loc) (ls : Array Slot), q_it (D_X8_count) k9 1 σ [x10, x11] = some qq → va_P D vwCl (p_M cI a σ) H → va_S A s.heap H locs → lv_has ls 5 [(0, .ref (a 0)), (2, .int x10), (3, .int x11)] → W p l e ({ frames := 0, cells := 0, slots := 0, locals := 0 }) s m [.ref (a 0), .int x1].toArray below meth c H locs 0 0 (MQ below (va_Qi (fun r τ => (r, τ) = qq) (fun τ t => va_P D vwCl ((p_M cI a) τ) t.heap) A) [.ref (a 0), .int x1].toArray s 0 0 A) (F0 m 100 ls [])) ∧ (∀ (σ : qM) (x17 x18 : Int32) (H : Heap) (locs : List Loc) (ls : Array Slot), q_it (D_X8_count) k9 2 σ [x17, x18] = some qq → va_P D vwCl (p_M cI a σ) H → va_S A s.heap H locs → lv_has ls 5 [(0, .ref (a 0)), (2, .int x17), (3, .int x18)] → W p l e ({ frames := 0, cells := 0, slots := 0, locals := 0 }) s m [.ref (a 0), .int x1].toArray below meth c H locs 0 0 (MQ below (va_Qi (fun r τ => (r, τ) = qq) (fun τ t => va_P D vwCl ((p_M cI a) τ) t.heap) A) [.ref (a 0), .int x1].toArray s 0 0 A) (F0 m 148 ls [])) ∧ (∀ (σ : qM) (x22 x23 : Int32) (H : Heap) (locs : List Loc) (ls : Array Slot), q_it (D_X8_count) k9 3 σ [x22, x23] = some qq → va_P D vwCl (p_M cI a σ) H → va_S A s.heap H locs → lv_has ls 5 [(0, .ref (a 0)), (2, .int x22), (3, .int x23)] → W p l e ({ frames := 0, cells := 0, slots := 0, locals := 0 }) s m [.ref (a 0), .int x1].toArray below meth c H locs 0 0 (MQ below (va_Qi (fun r τ => (r, τ) = qq) (fun τ t => va_P D vwCl ((p_M cI a) τ) t.heap) A) [.ref (a 0), .int x1].toArray s 0 0 A) (F0 m 221 ls [])) ∧ (∀ (σ : qM) (x38 x39 x40 : Int32) (H : Heap) (locs : List Loc) (ls : Array Slot), q_it (D_X8_count) k9 4 σ [x38, x39, x40] = some qq → va_P D vwCl (p_M cI a σ) H → va_S A s.heap H locs → lv_has ls 5 [(0, .ref (a 0)), (2, .int x38), (3, .int x39), (4, .int x40)] → W p l e ({ frames := 0, cells := 0, slots := 0, locals := 0 }) s m [.ref (a 0), .int x1].toArray below meth c H locs 0 0 (MQ below (va_Qi (fun r τ => (r, τ) = qq) (fun τ t => va_P D vwCl ((p_M cI a) τ) t.heap) A) [.ref (a 0), .int x1].toArray s 0 0 A) (F0 m 161 ls [])) := by
    intro k9
    induction k9 with
    | zero => exact ⟨(fun _ _ _ _ _ _ h _ _ _ => (q_no (show (none : qR) = some qq from h)).elim), (fun _ _ _ _ _ _ h _ _ _ => (q_no (show (none : qR) = some qq from h)).elim), (fun _ _ _ _ _ _ h _ _ _ => (q_no (show (none : qR) = some qq from h)).elim), (fun _ _ _ _ _ _ h _ _ _ => (q_no (show (none : qR) = some qq from h)).elim), (fun _ _ _ _ _ _ _ h _ _ _ => (q_no (show (none : qR) = some qq from h)).elim)⟩
    | succ k9 ih =>
      obtain ⟨i68, i100, i148, i221, i161⟩ := ih
      refine ⟨?_, ?_, ?_, ?_, ?_⟩
      · intro σ x7 x8 H locs ls h hP hS hl
        have h : b_X8_count_68 (q_it (D_X8_count) k9) σ x7 x8 = some qq := h
        unfold b_X8_count_68 at h
        refine lv_iload_n hx hb dX8_count_68 rfl (lv_at hl 2 rfl) ?_
        refine lv_aload_n hx hb dX8_count_69 rfl (lv_at hl 0 rfl) ?_
        refine x_getr (C := RX8) (k := 1) hx hb hts u_X8_count_8 hown hK hP (g_M_0 cI a σ) rfl (by decide) ⟨rfl, rfl, rfl⟩ k_X8_count_f7 rfl dX8_count_70 ?_
        refine lv_iconst (v := 1) hx hb dX8_count_73 (by decide +kernel) ?_
        refine x_iald (t0 := 0) hx hb hK hP ht h (g_M_1 cI a σ) dX8_count_74 (fun x24 h => ?_)
        refine lv_icmp_ge (tgt := 96) hx hb dX8_count_75 (by decide) (fun c25 => ?_) (fun c25 => ?_)
        · have h := if_t c25 h
          refine lv_iload_n hx hb dX8_count_96 rfl (lv_at hl 1 rfl) ?_
          exact x_iret (p_M cI a) hx hb hr hlocks hP hS dX8_count_97 h
        · have h := if_f c25 h
          refine lv_iload_n hx hb dX8_count_78 rfl (lv_at hl 1 rfl) ?_
          refine lv_aload_n hx hb dX8_count_79 rfl (lv_at hl 0 rfl) ?_
          refine x_getr (C := RX8) (k := 1) hx hb hts u_X8_count_8 hown hK hP (g_M_0 cI a σ) rfl (by decide) ⟨rfl, rfl, rfl⟩ k_X8_count_f7 rfl dX8_count_80 ?_
          refine lv_bipush (v := 100) hx hb dX8_count_83 (by decide +kernel) ?_
          refine lv_iload_n hx hb dX8_count_85 rfl (lv_at hl 2 rfl) ?_
          refine x_iadd hx hb dX8_count_86 h (fun x26 h => ?_)
          refine x_iald (t0 := 0) hx hb hK hP ht h (g_M_1 cI a σ) dX8_count_87 (fun x27 h => ?_)
          refine x_iadd hx hb dX8_count_88 h (fun x28 h => ?_)
          refine lv_istore_n (lv' := [(2, .int x28), (0, .ref (a 0)), (3, .int x8)]) hx hb dX8_count_89 rfl hl (by decide) rfl (fun ls hl => ?_)
          refine x_iinc (k := 2) (w := 1) hx hb dX8_count_90 hl rfl (by decide +kernel) (by decide) (fun v9 => [(3, .int v9), (2, .int x28), (0, .ref (a 0))]) (fun v9 => rfl) h (fun x29 ls hl h => ?_)
          have hl : lv_has ls 5 [(3, .int x29), (2, .int x28), (0, .ref (a 0))] := hl
          refine lv_goto (tgt := 68) hx hb dX8_count_93 (by decide) ?_
          exact i68 σ x28 x29 _ _ _ h hP hS (lv_sub hl [2, 1, 0] rfl)
      · intro σ x10 x11 H locs ls h hP hS hl
        have h : b_X8_count_100 (q_it (D_X8_count) k9) σ x10 x11 = some qq := h
        unfold b_X8_count_100 at h
        refine lv_iload_n hx hb dX8_count_100 rfl (lv_at hl 2 rfl) ?_
        refine lv_aload_n hx hb dX8_count_101 rfl (lv_at hl 0 rfl) ?_
        refine x_getr (C := RX8) (k := 1) hx hb hts u_X8_count_8 hown hK hP (g_M_0 cI a σ) rfl (by decide) ⟨rfl, rfl, rfl⟩ k_X8_count_f7 rfl dX8_count_102 ?_
        refine lv_iconst (v := 0) hx hb dX8_count_105 (by decide +kernel) ?_
        refine x_iald (t0 := 0) hx hb hK hP ht h (g_M_1 cI a σ) dX8_count_106 (fun x30 h => ?_)
        refine lv_icmp_ge (tgt := 129) hx hb dX8_count_107 (by decide) (fun c31 => ?_) (fun c31 => ?_)
        · have h := if_t c31 h
          refine lv_iload_n hx hb dX8_count_129 rfl (lv_at hl 1 rfl) ?_
          exact x_iret (p_M cI a) hx hb hr hlocks hP hS dX8_count_130 h
        · have h := if_f c31 h
          refine lv_iload_n hx hb dX8_count_110 rfl (lv_at hl 1 rfl) ?_
          refine lv_aload_n hx hb dX8_count_111 rfl (lv_at hl 0 rfl) ?_
          refine x_getr (C := RX8) (k := 1) hx hb hts u_X8_count_8 hown hK hP (g_M_0 cI a σ) rfl (by decide) ⟨rfl, rfl, rfl⟩ k_X8_count_f7 rfl dX8_count_112 ?_
          refine lv_sipush (v := 130) hx hb dX8_count_115 (by decide +kernel) ?_
          refine lv_iload_n hx hb dX8_count_118 rfl (lv_at hl 2 rfl) ?_
          refine x_iadd hx hb dX8_count_119 h (fun x32 h => ?_)
          refine x_iald (t0 := 0) hx hb hK hP ht h (g_M_1 cI a σ) dX8_count_120 (fun x33 h => ?_)
          refine x_iadd hx hb dX8_count_121 h (fun x34 h => ?_)
          refine lv_istore_n (lv' := [(2, .int x34), (0, .ref (a 0)), (3, .int x11)]) hx hb dX8_count_122 rfl hl (by decide) rfl (fun ls hl => ?_)
          refine x_iinc (k := 2) (w := 1) hx hb dX8_count_123 hl rfl (by decide +kernel) (by decide) (fun v9 => [(3, .int v9), (2, .int x34), (0, .ref (a 0))]) (fun v9 => rfl) h (fun x35 ls hl h => ?_)
          have hl : lv_has ls 5 [(3, .int x35), (2, .int x34), (0, .ref (a 0))] := hl
          refine lv_goto (tgt := 100) hx hb dX8_count_126 (by decide) ?_
          exact i100 σ x34 x35 _ _ _ h hP hS (lv_sub hl [2, 1, 0] rfl)
      · intro σ x17 x18 H locs ls h hP hS hl
        have h : b_X8_count_148 (q_it (D_X8_count) k9) σ x17 x18 = some qq := h
        unfold b_X8_count_148 at h
        refine lv_iload_n hx hb dX8_count_148 rfl (lv_at hl 2 rfl) ?_
        refine lv_aload_n hx hb dX8_count_149 rfl (lv_at hl 0 rfl) ?_
        refine x_getr (C := RX8) (k := 1) hx hb hts u_X8_count_8 hown hK hP (g_M_0 cI a σ) rfl (by decide) ⟨rfl, rfl, rfl⟩ k_X8_count_f7 rfl dX8_count_150 ?_
        refine lv_iconst (v := 0) hx hb dX8_count_153 (by decide +kernel) ?_
        refine x_iald (t0 := 0) hx hb hK hP ht h (g_M_1 cI a σ) dX8_count_154 (fun x36 h => ?_)
        refine lv_icmp_ge (tgt := 212) hx hb dX8_count_155 (by decide) (fun c37 => ?_) (fun c37 => ?_)
        · have h := if_t c37 h
          refine lv_iload_n hx hb dX8_count_212 rfl (lv_at hl 1 rfl) ?_
          exact x_iret (p_M cI a) hx hb hr hlocks hP hS dX8_count_213 h
        · have h := if_f c37 h
          refine lv_iconst (v := 0) hx hb dX8_count_158 (by decide +kernel) ?_
          refine lv_istore (lv' := [(4, .int 0), (0, .ref (a 0)), (2, .int x17), (3, .int x18)]) hx hb dX8_count_159 hl (by decide) rfl (fun ls hl => ?_)
          exact i161 σ x17 x18 0 _ _ _ h hP hS (lv_sub hl [1, 2, 3, 0] rfl)
      · intro σ x22 x23 H locs ls h hP hS hl
        have h : b_X8_count_221 (q_it (D_X8_count) k9) σ x22 x23 = some qq := h
        unfold b_X8_count_221 at h
        refine lv_iload_n hx hb dX8_count_221 rfl (lv_at hl 2 rfl) ?_
        refine lv_bipush (v := 6) hx hb dX8_count_222 (by decide +kernel) ?_
        refine lv_icmp_ge (tgt := 247) hx hb dX8_count_224 (by decide) (fun c41 => ?_) (fun c41 => ?_)
        · have h := if_t c41 h
          refine lv_iload_n hx hb dX8_count_247 rfl (lv_at hl 1 rfl) ?_
          exact x_iret (p_M cI a) hx hb hr hlocks hP hS dX8_count_248 h
        · have h := if_f c41 h
          refine lv_aload_n hx hb dX8_count_227 rfl (lv_at hl 0 rfl) ?_
          refine x_getr (C := RX8) (k := 24) hx hb hts u_X8_count_8 hown hK hP (g_M_0 cI a σ) rfl (by decide) ⟨rfl, rfl, rfl⟩ k_X8_count_f61 rfl dX8_count_228 ?_
          refine lv_iload_n hx hb dX8_count_231 rfl (lv_at hl 2 rfl) ?_
          refine x_iald (t0 := 0) hx hb hK hP ht h (g_M_18 cI a σ) dX8_count_232 (fun x42 h => ?_)
          refine lv_bipush (v := (-2)) hx hb dX8_count_233 (by decide +kernel) ?_
          refine lv_icmp_eq (tgt := 241) hx hb dX8_count_235 (by decide) (fun c43 => ?_) (fun c43 => ?_)
          · have h := if_t c43 h
            refine x_iinc (k := 2) (w := 1) hx hb dX8_count_241 hl rfl (by decide +kernel) (by decide) (fun v9 => [(3, .int v9), (0, .ref (a 0)), (2, .int x22)]) (fun v9 => rfl) h (fun x44 ls hl h => ?_)
            have hl : lv_has ls 5 [(3, .int x44), (0, .ref (a 0)), (2, .int x22)] := hl
            refine lv_goto (tgt := 221) hx hb dX8_count_244 (by decide) ?_
            exact i221 σ x22 x44 _ _ _ h hP hS (lv_sub hl [1, 2, 0] rfl)
          · have h := if_f c43 h
            refine x_iinc (k := 1) (w := 1) hx hb dX8_count_238 hl rfl (by decide +kernel) (by decide) (fun v9 => [(2, .int v9), (0, .ref (a 0)), (3, .int x23)]) (fun v9 => rfl) h (fun x45 ls hl h => ?_)
            have hl : lv_has ls 5 [(2, .int x45), (0, .ref (a 0)), (3, .int x23)] := hl
            refine x_iinc (k := 2) (w := 1) hx hb dX8_count_241 hl rfl (by decide +kernel) (by decide) (fun v9 => [(3, .int v9), (2, .int x45), (0, .ref (a 0))]) (fun v9 => rfl) h (fun x46 ls hl h => ?_)
            have hl : lv_has ls 5 [(3, .int x46), (2, .int x45), (0, .ref (a 0))] := hl
            refine lv_goto (tgt := 221) hx hb dX8_count_244 (by decide) ?_
            exact i221 σ x45 x46 _ _ _ h hP hS (lv_sub hl [2, 1, 0] rfl)
      · intro σ x38 x39 x40 H locs ls h hP hS hl
        have h : b_X8_count_161 (q_it (D_X8_count) k9) σ x38 x39 x40 = some qq := h
        unfold b_X8_count_161 at h
        refine lv_iload hx hb dX8_count_161 (lv_at hl 3 rfl) ?_
        refine lv_aload_n hx hb dX8_count_163 rfl (lv_at hl 0 rfl) ?_
        refine x_getr (C := RX8) (k := 1) hx hb hts u_X8_count_8 hown hK hP (g_M_0 cI a σ) rfl (by decide) ⟨rfl, rfl, rfl⟩ k_X8_count_f7 rfl dX8_count_164 ?_
        refine lv_sipush (v := 130) hx hb dX8_count_167 (by decide +kernel) ?_
        refine lv_iload_n hx hb dX8_count_170 rfl (lv_at hl 2 rfl) ?_
        refine x_iadd hx hb dX8_count_171 h (fun x47 h => ?_)
        refine x_iald (t0 := 0) hx hb hK hP ht h (g_M_1 cI a σ) dX8_count_172 (fun x48 h => ?_)
        refine lv_icmp_ge (tgt := 206) hx hb dX8_count_173 (by decide) (fun c49 => ?_) (fun c49 => ?_)
        · have h := if_t c49 h
          refine x_iinc (k := 2) (w := 1) hx hb dX8_count_206 hl rfl (by decide +kernel) (by decide) (fun v9 => [(3, .int v9), (0, .ref (a 0)), (2, .int x38), (4, .int x40)]) (fun v9 => rfl) h (fun x50 ls hl h => ?_)
          have hl : lv_has ls 5 [(3, .int x50), (0, .ref (a 0)), (2, .int x38), (4, .int x40)] := hl
          refine lv_goto (tgt := 148) hx hb dX8_count_209 (by decide) ?_
          exact i148 σ x38 x50 _ _ _ h hP hS (lv_sub hl [1, 2, 0] rfl)
        · have h := if_f c49 h
          refine lv_aload_n hx hb dX8_count_176 rfl (lv_at hl 0 rfl) ?_
          refine x_getr (C := RX8) (k := 1) hx hb hts u_X8_count_8 hown hK hP (g_M_0 cI a σ) rfl (by decide) ⟨rfl, rfl, rfl⟩ k_X8_count_f7 rfl dX8_count_177 ?_
          refine lv_sipush (v := 250) hx hb dX8_count_180 (by decide +kernel) ?_
          refine lv_bipush (v := 10) hx hb dX8_count_183 (by decide +kernel) ?_
          refine lv_iload_n hx hb dX8_count_185 rfl (lv_at hl 2 rfl) ?_
          refine x_imul hx hb dX8_count_186 h (fun x51 h => ?_)
          refine x_iadd hx hb dX8_count_187 h (fun x52 h => ?_)
          refine lv_iload hx hb dX8_count_188 (lv_at hl 3 rfl) ?_
          refine x_iadd hx hb dX8_count_190 h (fun x53 h => ?_)
          refine x_iald (t0 := 0) hx hb hK hP ht h (g_M_1 cI a σ) dX8_count_191 (fun x54 h => ?_)
          refine lv_bipush (v := 16) hx hb dX8_count_192 (by decide +kernel) ?_
          refine lv_icmp_ne (tgt := 200) hx hb dX8_count_194 (by decide) (fun c55 => ?_) (fun c55 => ?_)
          · have h := if_f c55 h
            refine x_iinc (k := 3) (w := 1) hx hb dX8_count_200 hl rfl (by decide +kernel) (by decide) (fun v9 => [(4, .int v9), (0, .ref (a 0)), (2, .int x38), (3, .int x39)]) (fun v9 => rfl) h (fun x56 ls hl h => ?_)
            have hl : lv_has ls 5 [(4, .int x56), (0, .ref (a 0)), (2, .int x38), (3, .int x39)] := hl
            refine lv_goto (tgt := 161) hx hb dX8_count_203 (by decide) ?_
            exact i161 σ x38 x39 x56 _ _ _ h hP hS (lv_sub hl [1, 2, 3, 0] rfl)
          · have h := if_t c55 h
            refine x_iinc (k := 1) (w := 1) hx hb dX8_count_197 hl rfl (by decide +kernel) (by decide) (fun v9 => [(2, .int v9), (0, .ref (a 0)), (3, .int x39), (4, .int x40)]) (fun v9 => rfl) h (fun x57 ls hl h => ?_)
            have hl : lv_has ls 5 [(2, .int x57), (0, .ref (a 0)), (3, .int x39), (4, .int x40)] := hl
            refine x_iinc (k := 3) (w := 1) hx hb dX8_count_200 hl rfl (by decide +kernel) (by decide) (fun v9 => [(4, .int v9), (2, .int x57), (0, .ref (a 0)), (3, .int x39)]) (fun v9 => rfl) h (fun x58 ls hl h => ?_)
            have hl : lv_has ls 5 [(4, .int x58), (2, .int x57), (0, .ref (a 0)), (3, .int x39)] := hl
            refine lv_goto (tgt := 161) hx hb dX8_count_203 (by decide) ?_
            exact i161 σ x57 x39 x58 _ _ _ h hP hS (lv_sub hl [2, 1, 3, 0] rfl)
  have i68 : ∀ (σ : qM) (x7 x8 : Int32) (H : Heap) (locs : List Loc) (ls : Array Slot), q_lim (D_X8_count) 0 σ [x7, x8] = some qq → va_P D vwCl (p_M cI a σ) H → va_S A s.heap H locs → lv_has ls 5 [(0, .ref (a 0)), (2, .int x7), (3, .int x8)] → W p l e ({ frames := 0, cells := 0, slots := 0, locals := 0 }) s m [.ref (a 0), .int x1].toArray below meth c H locs 0 0 (MQ below (va_Qi (fun r τ => (r, τ) = qq) (fun τ t => va_P D vwCl ((p_M cI a) τ) t.heap) A) [.ref (a 0), .int x1].toArray s 0 0 A) (F0 m 68 ls []) := by
    intro σ x7 x8 H locs ls h hP hS hl
    obtain ⟨k9, h⟩ := q_lim_n h
    exact (main k9).1 σ x7 x8 H locs ls h hP hS hl
  have i100 : ∀ (σ : qM) (x10 x11 : Int32) (H : Heap) (locs : List Loc) (ls : Array Slot), q_lim (D_X8_count) 1 σ [x10, x11] = some qq → va_P D vwCl (p_M cI a σ) H → va_S A s.heap H locs → lv_has ls 5 [(0, .ref (a 0)), (2, .int x10), (3, .int x11)] → W p l e ({ frames := 0, cells := 0, slots := 0, locals := 0 }) s m [.ref (a 0), .int x1].toArray below meth c H locs 0 0 (MQ below (va_Qi (fun r τ => (r, τ) = qq) (fun τ t => va_P D vwCl ((p_M cI a) τ) t.heap) A) [.ref (a 0), .int x1].toArray s 0 0 A) (F0 m 100 ls []) := by
    intro σ x10 x11 H locs ls h hP hS hl
    obtain ⟨k9, h⟩ := q_lim_n h
    exact (main k9).2.1 σ x10 x11 H locs ls h hP hS hl
  have i148 : ∀ (σ : qM) (x17 x18 : Int32) (H : Heap) (locs : List Loc) (ls : Array Slot), q_lim (D_X8_count) 2 σ [x17, x18] = some qq → va_P D vwCl (p_M cI a σ) H → va_S A s.heap H locs → lv_has ls 5 [(0, .ref (a 0)), (2, .int x17), (3, .int x18)] → W p l e ({ frames := 0, cells := 0, slots := 0, locals := 0 }) s m [.ref (a 0), .int x1].toArray below meth c H locs 0 0 (MQ below (va_Qi (fun r τ => (r, τ) = qq) (fun τ t => va_P D vwCl ((p_M cI a) τ) t.heap) A) [.ref (a 0), .int x1].toArray s 0 0 A) (F0 m 148 ls []) := by
    intro σ x17 x18 H locs ls h hP hS hl
    obtain ⟨k9, h⟩ := q_lim_n h
    exact (main k9).2.2.1 σ x17 x18 H locs ls h hP hS hl
  have i221 : ∀ (σ : qM) (x22 x23 : Int32) (H : Heap) (locs : List Loc) (ls : Array Slot), q_lim (D_X8_count) 3 σ [x22, x23] = some qq → va_P D vwCl (p_M cI a σ) H → va_S A s.heap H locs → lv_has ls 5 [(0, .ref (a 0)), (2, .int x22), (3, .int x23)] → W p l e ({ frames := 0, cells := 0, slots := 0, locals := 0 }) s m [.ref (a 0), .int x1].toArray below meth c H locs 0 0 (MQ below (va_Qi (fun r τ => (r, τ) = qq) (fun τ t => va_P D vwCl ((p_M cI a) τ) t.heap) A) [.ref (a 0), .int x1].toArray s 0 0 A) (F0 m 221 ls []) := by
    intro σ x22 x23 H locs ls h hP hS hl
    obtain ⟨k9, h⟩ := q_lim_n h
    exact (main k9).2.2.2.1 σ x22 x23 H locs ls h hP hS hl
  have i161 : ∀ (σ : qM) (x38 x39 x40 : Int32) (H : Heap) (locs : List Loc) (ls : Array Slot), q_lim (D_X8_count) 4 σ [x38, x39, x40] = some qq → va_P D vwCl (p_M cI a σ) H → va_S A s.heap H locs → lv_has ls 5 [(0, .ref (a 0)), (2, .int x38), (3, .int x39), (4, .int x40)] → W p l e ({ frames := 0, cells := 0, slots := 0, locals := 0 }) s m [.ref (a 0), .int x1].toArray below meth c H locs 0 0 (MQ below (va_Qi (fun r τ => (r, τ) = qq) (fun τ t => va_P D vwCl ((p_M cI a) τ) t.heap) A) [.ref (a 0), .int x1].toArray s 0 0 A) (F0 m 161 ls []) := by
    intro σ x38 x39 x40 H locs ls h hP hS hl
    obtain ⟨k9, h⟩ := q_lim_n h
    exact (main k9).2.2.2.2 σ x38 x39 x40 H locs ls h hP hS hl
  have h : e_X8_count (q_lim (D_X8_count)) σ x1 = some qq := h
  unfold e_X8_count at h
  refine lv_iconst (v := 0) hx hb dX8_count_0 (by decide +kernel) ?_
  refine lv_istore_n (lv' := [(2, .int 0), (0, .ref (a 0)), (1, .int x1)]) hx hb dX8_count_1 rfl hl (by decide) rfl (fun ls hl => ?_)
  refine lv_iload_n hx hb dX8_count_2 rfl (lv_at hl 2 rfl) ?_
  by_cases c2 : x1 = 0
  · have h := if_t c2 h
    refine x_tsw_in (v := 0) (off := 49) (tgt := 52) hx hb dX8_count_3 c2 (by decide +kernel) ?_
    refine lv_aload_n hx hb dX8_count_52 rfl (lv_at hl 1 rfl) ?_
    refine x_getr (C := RX8) (k := 1) hx hb hts u_X8_count_8 hown hK hP (g_M_0 cI a σ) rfl (by decide) ⟨rfl, rfl, rfl⟩ k_X8_count_f7 rfl dX8_count_53 ?_
    refine lv_iconst (v := 0) hx hb dX8_count_56 (by decide +kernel) ?_
    refine x_iald (t0 := 0) hx hb hK hP ht h (g_M_1 cI a σ) dX8_count_57 (fun x3 h => ?_)
    exact x_iret (p_M cI a) hx hb hr hlocks hP hS dX8_count_58 h
  have h := if_f c2 h
  by_cases c4 : x1 = 1
  · have h := if_t c4 h
    refine x_tsw_in (v := 1) (off := 56) (tgt := 59) hx hb dX8_count_3 c4 (by decide +kernel) ?_
    refine lv_aload_n hx hb dX8_count_59 rfl (lv_at hl 1 rfl) ?_
    refine x_getr (C := RX8) (k := 1) hx hb hts u_X8_count_8 hown hK hP (g_M_0 cI a σ) rfl (by decide) ⟨rfl, rfl, rfl⟩ k_X8_count_f7 rfl dX8_count_60 ?_
    refine lv_iconst (v := 1) hx hb dX8_count_63 (by decide +kernel) ?_
    refine x_iald (t0 := 0) hx hb hK hP ht h (g_M_1 cI a σ) dX8_count_64 (fun x5 h => ?_)
    exact x_iret (p_M cI a) hx hb hr hlocks hP hS dX8_count_65 h
  have h := if_f c4 h
  by_cases c6 : x1 = 2
  · have h := if_t c6 h
    refine x_tsw_in (v := 2) (off := 63) (tgt := 66) hx hb dX8_count_3 c6 (by decide +kernel) ?_
    refine lv_iconst (v := 0) hx hb dX8_count_66 (by decide +kernel) ?_
    refine lv_istore_n (lv' := [(3, .int 0), (2, .int 0), (0, .ref (a 0)), (1, .int x1)]) hx hb dX8_count_67 rfl hl (by decide) rfl (fun ls hl => ?_)
    exact i68 σ 0 0 _ _ _ h hP hS (lv_sub hl [2, 1, 0] rfl)
  have h := if_f c6 h
  by_cases c9 : x1 = 3
  · have h := if_t c9 h
    refine x_tsw_in (v := 3) (off := 95) (tgt := 98) hx hb dX8_count_3 c9 (by decide +kernel) ?_
    refine lv_iconst (v := 0) hx hb dX8_count_98 (by decide +kernel) ?_
    refine lv_istore_n (lv' := [(3, .int 0), (2, .int 0), (0, .ref (a 0)), (1, .int x1)]) hx hb dX8_count_99 rfl hl (by decide) rfl (fun ls hl => ?_)
    exact i100 σ 0 0 _ _ _ h hP hS (lv_sub hl [2, 1, 0] rfl)
  have h := if_f c9 h
  by_cases c12 : x1 = 4
  · have h := if_t c12 h
    refine x_tsw_in (v := 4) (off := 128) (tgt := 131) hx hb dX8_count_3 c12 (by decide +kernel) ?_
    refine lv_aload_n hx hb dX8_count_131 rfl (lv_at hl 1 rfl) ?_
    refine x_getr (C := RX8) (k := 1) hx hb hts u_X8_count_8 hown hK hP (g_M_0 cI a σ) rfl (by decide) ⟨rfl, rfl, rfl⟩ k_X8_count_f7 rfl dX8_count_132 ?_
    refine lv_iconst (v := 5) hx hb dX8_count_135 (by decide +kernel) ?_
    refine x_iald (t0 := 0) hx hb hK hP ht h (g_M_1 cI a σ) dX8_count_136 (fun x13 h => ?_)
    exact x_iret (p_M cI a) hx hb hr hlocks hP hS dX8_count_137 h
  have h := if_f c12 h
  by_cases c14 : x1 = 5
  · have h := if_t c14 h
    refine x_tsw_in (v := 5) (off := 135) (tgt := 138) hx hb dX8_count_3 c14 (by decide +kernel) ?_
    refine lv_aload_n hx hb dX8_count_138 rfl (lv_at hl 1 rfl) ?_
    refine x_getr (C := RX8) (k := 1) hx hb hts u_X8_count_8 hown hK hP (g_M_0 cI a σ) rfl (by decide) ⟨rfl, rfl, rfl⟩ k_X8_count_f7 rfl dX8_count_139 ?_
    refine lv_bipush (v := 6) hx hb dX8_count_142 (by decide +kernel) ?_
    refine x_iald (t0 := 0) hx hb hK hP ht h (g_M_1 cI a σ) dX8_count_144 (fun x15 h => ?_)
    exact x_iret (p_M cI a) hx hb hr hlocks hP hS dX8_count_145 h
  have h := if_f c14 h
  by_cases c16 : x1 = 6
  · have h := if_t c16 h
    refine x_tsw_in (v := 6) (off := 143) (tgt := 146) hx hb dX8_count_3 c16 (by decide +kernel) ?_
    refine lv_iconst (v := 0) hx hb dX8_count_146 (by decide +kernel) ?_
    refine lv_istore_n (lv' := [(3, .int 0), (2, .int 0), (0, .ref (a 0)), (1, .int x1)]) hx hb dX8_count_147 rfl hl (by decide) rfl (fun ls hl => ?_)
    exact i148 σ 0 0 _ _ _ h hP hS (lv_sub hl [2, 1, 0] rfl)
  have h := if_f c16 h
  by_cases c19 : x1 = 7
  · have h := if_t c19 h
    refine x_tsw_in (v := 7) (off := 211) (tgt := 214) hx hb dX8_count_3 c19 (by decide +kernel) ?_
    refine lv_aload_n hx hb dX8_count_214 rfl (lv_at hl 1 rfl) ?_
    refine x_geti (C := RX8) (k := 17) hx hb hts u_X8_count_8 hown hK hP (g_M_0 cI a σ) rfl (by decide) ⟨rfl, rfl, rfl⟩ k_X8_count_f177 rfl dX8_count_215 h (fun x20 h => ?_)
    exact x_iret (p_M cI a) hx hb hr hlocks hP hS dX8_count_218 h
  have h := if_f c19 h
  by_cases c21 : x1 = 8
  · have h := if_t c21 h
    refine x_tsw_in (v := 8) (off := 216) (tgt := 219) hx hb dX8_count_3 c21 (by decide +kernel) ?_
    refine lv_iconst (v := 0) hx hb dX8_count_219 (by decide +kernel) ?_
    refine lv_istore_n (lv' := [(3, .int 0), (2, .int 0), (0, .ref (a 0)), (1, .int x1)]) hx hb dX8_count_220 rfl hl (by decide) rfl (fun ls hl => ?_)
    exact i221 σ 0 0 _ _ _ h hP hS (lv_sub hl [2, 1, 0] rfl)
  have h := if_f c21 h
  refine x_tsw_out (tgt := 249) hx hb dX8_count_3 9 (by decide) (fun k9 hk9 => ?_) (by decide) ?_
  · rcases (show k9 = 0 ∨ k9 = 1 ∨ k9 = 2 ∨ k9 = 3 ∨ k9 = 4 ∨ k9 = 5 ∨ k9 = 6 ∨ k9 = 7 ∨ k9 = 8 by omega) with rfl | rfl | rfl | rfl | rfl | rfl | rfl | rfl | rfl
    · exact fun h9 => c2 (h9.trans (by decide +kernel))
    · exact fun h9 => c4 (h9.trans (by decide +kernel))
    · exact fun h9 => c6 (h9.trans (by decide +kernel))
    · exact fun h9 => c9 (h9.trans (by decide +kernel))
    · exact fun h9 => c12 (h9.trans (by decide +kernel))
    · exact fun h9 => c14 (h9.trans (by decide +kernel))
    · exact fun h9 => c16 (h9.trans (by decide +kernel))
    · exact fun h9 => c19 (h9.trans (by decide +kernel))
    · exact fun h9 => c21 (h9.trans (by decide +kernel))
  refine lv_iconst (v := (-1)) hx hb dX8_count_249 (by decide +kernel) ?_
  exact x_iret (p_M cI a) hx hb hr hlocks hP hS dX8_count_250 h
