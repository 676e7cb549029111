/-! ===== VectorRounds$Way.walk(LVectorRounds$Tables;II)V: world YT ===== -/
theorem i_X6_walk : yX6_walk.cls = RX6 ∧ yX6_walk.cls ≠ "java/lang/invoke/MethodHandle" ∧ yX6_walk.cls ≠ "java/lang/invoke/VarHandle" ∧ (parseMethodDescriptor yX6_walk.desc).map (fun d => d.parameters.length) = some 3 := by decide +kernel
theorem k_X6_walk_f15 : Cond.fieldLink RX6 15 RX6 "length" "I" ∈ wsX6_walk := by decide +kernel
theorem k_X6_walk_f19 : Cond.fieldLink RX6 19 RX6 "ending" "I" ∈ wsX6_walk := by decide +kernel
theorem k_X6_walk_f28 : Cond.fieldLink RX6 28 RX4 "via" "[I" ∈ wsX6_walk := by decide +kernel
theorem k_X6_walk_f9 : Cond.fieldLink RX6 9 RX6 "stops" "[I" ∈ wsX6_walk := by decide +kernel
theorem u_X6_walk_4 : ∀ w ∈ u_ws RX4 TX4 6, w ∈ wsX6_walk := by decide +kernel
theorem u_X6_walk_6 : ∀ w ∈ u_ws RX6 TX6 3, w ∈ wsX6_walk := by decide +kernel
set_option maxHeartbeats 4000000 in
set_option maxRecDepth 100000 in
theorem c_X6_walk (l : Launch) (D : va_G) (cI : ClassId) (tys : List (ClassId × FieldType)) (ht : tys[0]? = some (cI, .int)) (a : Nat → Nat) (σ : qM) (x1 : Int32) (x2 : Int32) : q_Mev l yX6_walk wsX6_walk ({ frames := 1, cells := 0, slots := 0, locals := 21 }) [.ref (a 0), .ref (a 2), .int x1, .int x2] D tys (p_YT cI a) σ (f_X6_walk σ x1 x2) := by
  refine x_ofWv (cc := cX6_walk) (maxL := 6) (ret := none) (by decide +kernel) rfl (pf_YT cI a) (Nat.le_of_ble_eq_true rfl) ?_
  intro p e s m below meth c A ls qq h hx hb hml hr hlocks hown hts hK hP hD hA hS hl
  have hown : s.vm.findClass RX6 = some m.cls := hown
  have hl : lv_has ls 6 [(0, .ref (a 0)), (1, .ref (a 2)), (2, .int x1), (3, .int x2)] := hl
  have main : ∀ k9 : Nat, (∀ (σ : qM) (x5 x6 x7 : Int32) (H : Heap) (locs : List Loc) (ls : Array Slot), q_it (D_X6_walk) k9 0 σ [x5, x6, x7] = some qq → va_P D vwCl (p_YT cI a σ) H → va_S A s.heap H locs → lv_has ls 6 [(0, .ref (a 0)), (1, .ref (a 2)), (3, .int x5), (4, .int x6), (5, .int x7)] → W p l e ({ frames := 1, cells := 0, slots := 0, locals := 21 }) s m [.ref (a 0), .ref (a 2), .int x1, .int x2].toArray below meth c H locs 0 0 (MQ below (va_Qv (fun τ => ((0 : Int32), τ) = qq) (fun τ t => va_P D vwCl ((p_YT cI a) τ) t.heap) A) [.ref (a 0), .ref (a 2), .int x1, .int x2].toArray s 0 0 A) (F0 m 16 ls [])) := by
    intro k9
    induction k9 with
    | zero => exact (fun _ _ _ _ _ _ _ h _ _ _ => (q_no (show (none : qR) = some qq from h)).elim)
    | succ k9 ih =>
      have i16 := ih
      refine ?_
      · intro σ x5 x6 x7 H locs ls h hP hS hl
        have h : b_X6_walk_16 (q_it (D_X6_walk) k9) σ x5 x6 x7 = some qq := h
        unfold b_X6_walk_16 at h
        refine lv_aload_n hx hb dX6_walk_16 rfl (lv_at hl 0 rfl) ?_
        refine x_geti (C := RX6) (k := 1) hx hb hts u_X6_walk_6 hown hK hP (g_YT_0 cI a σ) rfl (by decide) ⟨rfl, rfl, rfl⟩ k_X6_walk_f15 rfl dX6_walk_17 h (fun x8 h => ?_)
        refine lv_bipush (v := 10) hx hb dX6_walk_20 (by decide +kernel) ?_
        refine lv_icmp_ge (tgt := 114) hx hb dX6_walk_22 (by decide) (fun c9 => ?_) (fun c9 => ?_)
        · have h := if_t c9 h
          exact x_vret (p_YT cI a) hx hb hr hlocks hP hS dX6_walk_114 h
        · have h := if_f c9 h
          refine lv_iload hx hb dX6_walk_25 (lv_at hl 3 rfl) ?_
          refine lv_iload hx hb dX6_walk_27 (lv_at hl 4 rfl) ?_
          refine x_ishr hx hb dX6_walk_29 h (fun x10 h => ?_)
          refine lv_iconst (v := 1) hx hb dX6_walk_30 (by decide +kernel) ?_
          refine x_iand hx hb dX6_walk_31 h (fun x11 h => ?_)
          refine lv_if_ne (tgt := 114) hx hb dX6_walk_32 (by decide) (fun c12 => ?_) (fun c12 => ?_)
          · have h := if_f c12 h
            exact x_vret (p_YT cI a) hx hb hr hlocks hP hS dX6_walk_114 h
          · have h := if_t c12 h
            refine lv_aload_n hx hb dX6_walk_35 rfl (lv_at hl 0 rfl) ?_
            refine x_getr (C := RX6) (k := 0) hx hb hts u_X6_walk_6 hown hK hP (g_YT_0 cI a σ) rfl (by decide) ⟨rfl, rfl, rfl⟩ k_X6_walk_f9 rfl dX6_walk_36 ?_
            refine lv_aload_n hx hb dX6_walk_39 rfl (lv_at hl 0 rfl) ?_
            refine x_geti (C := RX6) (k := 1) hx hb hts u_X6_walk_6 hown hK hP (g_YT_0 cI a σ) rfl (by decide) ⟨rfl, rfl, rfl⟩ k_X6_walk_f15 rfl dX6_walk_40 h (fun x13 h => ?_)
            refine lv_iload hx hb dX6_walk_43 (lv_at hl 4 rfl) ?_
            refine x_iast (p_YT cI a) (t0 := 0) hx hb hK hP hD hS ht h (g_YT_1 cI a σ) (fun j9 v9 => (s_YT_1 cI a σ _)) dX6_walk_45 (fun H locs s14 hP hS h => ?_)
            refine lv_aload_n hx hb dX6_walk_46 rfl (lv_at hl 0 rfl) ?_
            refine lv_dup hx hb dX6_walk_47 rfl ?_
            refine x_geti (C := RX6) (k := 1) hx hb hts u_X6_walk_6 hown hK hP (g_YT_0 cI a s14) rfl (by decide) ⟨rfl, rfl, rfl⟩ k_X6_walk_f15 rfl dX6_walk_48 h (fun x15 h => ?_)
            refine lv_iconst (v := 1) hx hb dX6_walk_51 (by decide +kernel) ?_
            refine x_iadd hx hb dX6_walk_52 h (fun x16 h => ?_)
            refine x_puti (p_YT cI a) (C := RX6) (k := 1) hx hb hts u_X6_walk_6 tyX6 tyX6_ok nmX6 hown hK hP hD hS h (g_YT_0 cI a s14) rfl (by decide) ⟨rfl, rfl, rfl⟩ k_X6_walk_f15 rfl rfl rfl rfl (Nat.le_of_ble_eq_true rfl) (s_YT_0_1 cI a s14 x16) dX6_walk_53 (fun H locs s17 hP hS h => ?_)
            refine lv_iload hx hb dX6_walk_56 (lv_at hl 3 rfl) ?_
            refine lv_iconst (v := 1) hx hb dX6_walk_58 (by decide +kernel) ?_
            refine lv_iload hx hb dX6_walk_59 (lv_at hl 4 rfl) ?_
            refine x_ishl hx hb dX6_walk_61 h (fun x18 h => ?_)
            refine x_ior hx hb dX6_walk_62 h (fun x19 h => ?_)
            refine lv_istore (lv' := [(4, .int x19), (0, .ref (a 0)), (1, .ref (a 2)), (3, .int x5), (5, .int x7)]) hx hb dX6_walk_63 hl (by decide) rfl (fun ls hl => ?_)
            refine lv_iload hx hb dX6_walk_65 (lv_at hl 4 rfl) ?_
            refine lv_iload_n hx hb dX6_walk_67 rfl (lv_at hl 3 rfl) ?_
            refine lv_icmp_ne (tgt := 77) hx hb dX6_walk_68 (by decide) (fun c20 => ?_) (fun c20 => ?_)
            · have h := if_f c20 h
              refine lv_aload_n hx hb dX6_walk_77 rfl (lv_at hl 2 rfl) ?_
              refine lv_iload hx hb dX6_walk_78 (lv_at hl 4 rfl) ?_
              refine lv_bipush (v := 10) hx hb dX6_walk_80 (by decide +kernel) ?_
              refine x_imul hx hb dX6_walk_82 h (fun x21 h => ?_)
              refine lv_iload_n hx hb dX6_walk_83 rfl (lv_at hl 3 rfl) ?_
              refine x_iadd hx hb dX6_walk_84 h (fun x22 h => ?_)
              refine x_cVi (p_YT cI a) (p_T cI (q_sub 2 a)) (q_put 2 7 s17) [] [.int x22] hx hb hml hl.1 hown hts hK hP hD hS hA rfl (c_X4_reaches l D cI tys ht (q_sub 2 a) (q_sub 2 s17) x22) gX6_walk_X4_reaches rfl ⟨rfl, rfl⟩ i_X4_reaches ⟨Nat.le_of_ble_eq_true rfl, Nat.le_of_ble_eq_true rfl⟩ (fr_YT_T_2 cI a s17) (g_T_0 cI (q_sub 2 a) (q_sub 2 s17)) rfl rfl (Nat.le_of_ble_eq_true rfl) ⟨Nat.zero_le _, Nat.zero_le _⟩ dX6_walk_85 h (fun x24 H locs s23 hP hS h => ?_)
              refine lv_if_ne (tgt := 97) hx hb dX6_walk_88 (by decide) (fun c25 => ?_) (fun c25 => ?_)
              · have h := if_f c25 h
                refine lv_aload_n hx hb dX6_walk_97 rfl (lv_at hl 2 rfl) ?_
                refine x_getr (C := RX4) (k := 1) hx hb hts u_X6_walk_4 hown hK hP (g_YT_2 cI a s23) rfl (by decide) ⟨rfl, rfl, rfl⟩ k_X6_walk_f28 rfl dX6_walk_98 ?_
                refine lv_iload hx hb dX6_walk_101 (lv_at hl 4 rfl) ?_
                refine lv_bipush (v := 10) hx hb dX6_walk_103 (by decide +kernel) ?_
                refine x_imul hx hb dX6_walk_105 h (fun x26 h => ?_)
                refine lv_iload_n hx hb dX6_walk_106 rfl (lv_at hl 3 rfl) ?_
                refine x_iadd hx hb dX6_walk_107 h (fun x27 h => ?_)
                refine x_iald (t0 := 0) hx hb hK hP ht h (g_YT_4 cI a s23) dX6_walk_108 (fun x28 h => ?_)
                refine lv_istore (lv' := [(5, .int x28), (4, .int x19), (0, .ref (a 0)), (1, .ref (a 2)), (3, .int x5)]) hx hb dX6_walk_109 hl (by decide) rfl (fun ls hl => ?_)
                refine lv_goto (tgt := 16) hx hb dX6_walk_111 (by decide) ?_
                exact i16 s23 x5 x19 x28 _ _ _ h hP hS (lv_sub hl [2, 3, 4, 1, 0] rfl)
              · have h := if_t c25 h
                refine lv_aload_n hx hb dX6_walk_91 rfl (lv_at hl 1 rfl) ?_
                refine lv_iconst (v := 0) hx hb dX6_walk_92 (by decide +kernel) ?_
                refine x_puti (p_YT cI a) (C := RX6) (k := 2) hx hb hts u_X6_walk_6 tyX6 tyX6_ok nmX6 hown hK hP hD hS h (g_YT_0 cI a s23) rfl (by decide) ⟨rfl, rfl, rfl⟩ k_X6_walk_f19 rfl rfl rfl rfl (Nat.le_of_ble_eq_true rfl) (s_YT_0_2 cI a s23 0) dX6_walk_93 (fun H locs s29 hP hS h => ?_)
                exact x_vret (p_YT cI a) hx hb hr hlocks hP hS dX6_walk_96 h
            · have h := if_t c20 h
              refine lv_aload_n hx hb dX6_walk_71 rfl (lv_at hl 1 rfl) ?_
              refine lv_iconst (v := 1) hx hb dX6_walk_72 (by decide +kernel) ?_
              refine x_puti (p_YT cI a) (C := RX6) (k := 2) hx hb hts u_X6_walk_6 tyX6 tyX6_ok nmX6 hown hK hP hD hS h (g_YT_0 cI a s17) rfl (by decide) ⟨rfl, rfl, rfl⟩ k_X6_walk_f19 rfl rfl rfl rfl (Nat.le_of_ble_eq_true rfl) (s_YT_0_2 cI a s17 1) dX6_walk_73 (fun H locs s30 hP hS h => ?_)
              exact x_vret (p_YT cI a) hx hb hr hlocks hP hS dX6_walk_76 h
  have i16 : ∀ (σ : qM) (x5 x6 x7 : Int32) (H : Heap) (locs : List Loc) (ls : Array Slot), q_lim (D_X6_walk) 0 σ [x5, x6, x7] = some qq → va_P D vwCl (p_YT cI a σ) H → va_S A s.heap H locs → lv_has ls 6 [(0, .ref (a 0)), (1, .ref (a 2)), (3, .int x5), (4, .int x6), (5, .int x7)] → W p l e ({ frames := 1, cells := 0, slots := 0, locals := 21 }) s m [.ref (a 0), .ref (a 2), .int x1, .int x2].toArray below meth c H locs 0 0 (MQ below (va_Qv (fun τ => ((0 : Int32), τ) = qq) (fun τ t => va_P D vwCl ((p_YT cI a) τ) t.heap) A) [.ref (a 0), .ref (a 2), .int x1, .int x2].toArray s 0 0 A) (F0 m 16 ls []) := by
    intro σ x5 x6 x7 H locs ls h hP hS hl
    obtain ⟨k9, h⟩ := q_lim_n h
    exact (main k9) σ x5 x6 x7 H locs ls h hP hS hl
  have h : e_X6_walk (q_lim (D_X6_walk)) σ x1 x2 = some qq := h
  unfold e_X6_walk at h
  refine lv_aload_n hx hb dX6_walk_0 rfl (lv_at hl 0 rfl) ?_
  refine lv_iconst (v := 0) hx hb dX6_walk_1 (by decide +kernel) ?_
  refine x_puti (p_YT cI a) (C := RX6) (k := 1) hx hb hts u_X6_walk_6 tyX6 tyX6_ok nmX6 hown hK hP hD hS h (g_YT_0 cI a σ) rfl (by decide) ⟨rfl, rfl, rfl⟩ k_X6_walk_f15 rfl rfl rfl rfl (Nat.le_of_ble_eq_true rfl) (s_YT_0_1 cI a σ 0) dX6_walk_2 (fun H locs s3 hP hS h => ?_)
  refine lv_aload_n hx hb dX6_walk_5 rfl (lv_at hl 0 rfl) ?_
  refine lv_iconst (v := 2) hx hb dX6_walk_6 (by decide +kernel) ?_
  refine x_puti (p_YT cI a) (C := RX6) (k := 2) hx hb hts u_X6_walk_6 tyX6 tyX6_ok nmX6 hown hK hP hD hS h (g_YT_0 cI a s3) rfl (by decide) ⟨rfl, rfl, rfl⟩ k_X6_walk_f19 rfl rfl rfl rfl (Nat.le_of_ble_eq_true rfl) (s_YT_0_2 cI a s3 2) dX6_walk_7 (fun H locs s4 hP hS h => ?_)
  refine lv_iconst (v := 0) hx hb dX6_walk_10 (by decide +kernel) ?_
  refine lv_istore (lv' := [(4, .int 0), (0, .ref (a 0)), (1, .ref (a 2)), (2, .int x1), (3, .int x2)]) hx hb dX6_walk_11 hl (by decide) rfl (fun ls hl => ?_)
  refine lv_iload_n hx hb dX6_walk_13 rfl (lv_at hl 3 rfl) ?_
  refine lv_istore (lv' := [(5, .int x1), (4, .int 0), (0, .ref (a 0)), (1, .ref (a 2)), (2, .int x1), (3, .int x2)]) hx hb dX6_walk_14 hl (by decide) rfl (fun ls hl => ?_)
  exact i16 s4 x2 0 x1 _ _ _ h hP hS (lv_sub hl [2, 3, 5, 1, 0] rfl)
/-! ===== VectorRounds$Way.loopsIn(LVectorRounds$Network;)I: world YN ===== -/
theorem i_X6_loopsIn : yX6_loopsIn.cls = RX6 ∧ yX6_loopsIn.cls ≠ "java/lang/invoke/MethodHandle" ∧ yX6_loopsIn.cls ≠ "java/lang/invoke/VarHandle" ∧ (parseMethodDescriptor yX6_loopsIn.desc).map (fun d => d.parameters.length) = some 1 := by decide +kernel
theorem k_X6_loopsIn_f19 : Cond.fieldLink RX6 19 RX6 "ending" "I" ∈ wsX6_loopsIn := by decide +kernel
theorem k_X6_loopsIn_f31 : Cond.fieldLink RX6 31 RX3 "routers" "I" ∈ wsX6_loopsIn := by decide +kernel
theorem k_X6_loopsIn_f36 : Cond.fieldLink RX6 36 RX3 "tables" "LVectorRounds$Tables;" ∈ wsX6_loopsIn := by decide +kernel
theorem u_X6_loopsIn_3 : ∀ w ∈ u_ws RX3 TX3 9, w ∈ wsX6_loopsIn := by decide +kernel
theorem u_X6_loopsIn_6 : ∀ w ∈ u_ws RX6 TX6 3, w ∈ wsX6_loopsIn := by decide +kernel
set_option maxHeartbeats 4000000 in
set_option maxRecDepth 100000 in
theorem c_X6_loopsIn (l : Launch) (D : va_G) (cI : ClassId) (tys : List (ClassId × FieldType)) (ht : tys[0]? = some (cI, .int)) (a : Nat → Nat) (σ : qM) : q_Met l yX6_loopsIn wsX6_loopsIn ({ frames := 2, cells := 0, slots := 0, locals := 46 }) [.ref (a 0), .ref (a 2)] D tys (p_YN cI a) σ (f_X6_loopsIn σ) := by
  refine x_ofWi (cc := cX6_loopsIn) (maxL := 5) (ret := (some .int)) (by decide +kernel) rfl (pf_YN cI a) (Nat.le_of_ble_eq_true rfl) ?_
  intro p e s m below meth c A ls qq h hx hb hml hr hlocks hown hts hK hP hD hA hS hl
  have hown : s.vm.findClass RX6 = some m.cls := hown
  have hl : lv_has ls 5 [(0, .ref (a 0)), (1, .ref (a 2))] := hl
  have main : ∀ k9 : Nat, (∀ (σ : qM) (x1 x2 : Int32) (H : Heap) (locs : List Loc) (ls : Array Slot), q_it (D_X6_loopsIn) k9 0 σ [x1, x2] = some qq → va_P D vwCl (p_YN cI a σ) H → va_S A s.heap H locs → lv_has ls 5 [(0, .ref (a 0)), (1, .ref (a 2)), (2, .int x1), (3, .int x2)] → W p l e ({ frames := 2, cells := 0, slots := 0, locals := 46 }) s m [.ref (a 0), .ref (a 2)].toArray below meth c H locs 0 0 (MQ below (va_Qi (fun r τ => (r, τ) = qq) (fun τ t => va_P D vwCl ((p_YN cI a) τ) t.heap) A) [.ref (a 0), .ref (a 2)].toArray s 0 0 A) (F0 m 4 ls [])) ∧ (∀ (σ : qM) (x5 x6 x7 : Int32) (H : Heap) (locs : List Loc) (ls : Array Slot), q_it (D_X6_loopsIn) k9 1 σ [x5, x6, x7] = some qq → va_P D vwCl (p_YN cI a σ) H → va_S A s.heap H locs → lv_has ls 5 [(0, .ref (a 0)), (1, .ref (a 2)), (2, .int x5), (3, .int x6), (4, .int x7)] → W p l e ({ frames := 2, cells := 0, slots := 0, locals := 46 }) s m [.ref (a 0), .ref (a 2)].toArray below meth c H locs 0 0 (MQ below (va_Qi (fun r τ => (r, τ) = qq) (fun τ t => va_P D vwCl ((p_YN cI a) τ) t.heap) A) [.ref (a 0), .ref (a 2)].toArray s 0 0 A) (F0 m 15 ls [])) := by
    intro k9
    induction k9 with
    | zero => exact ⟨(fun _ _ _ _ _ _ h _ _ _ => (q_no (show (none : qR) = some qq from h)).elim), (fun _ _ _ _ _ _ _ h _ _ _ => (q_no (show (none : qR) = some qq from h)).elim)⟩
    | succ k9 ih =>
      obtain ⟨i4, i15⟩ := ih
      refine ⟨?_, ?_⟩
      · intro σ x1 x2 H locs ls h hP hS hl
        have h : b_X6_loopsIn_4 (q_it (D_X6_loopsIn) k9) σ x1 x2 = some qq := h
        unfold b_X6_loopsIn_4 at h
        refine lv_iload_n hx hb dX6_loopsIn_4 rfl (lv_at hl 3 rfl) ?_
        refine lv_aload_n hx hb dX6_loopsIn_5 rfl (lv_at hl 1 rfl) ?_
        refine x_geti (C := RX3) (k := 3) hx hb hts u_X6_loopsIn_3 hown hK hP (g_YN_2 cI a σ) rfl (by decide) ⟨rfl, rfl, rfl⟩ k_X6_loopsIn_f31 rfl dX6_loopsIn_6 h (fun x3 h => ?_)
        refine lv_icmp_ge (tgt := 58) hx hb dX6_loopsIn_9 (by decide) (fun c4 => ?_) (fun c4 => ?_)
        · have h := if_t c4 h
          refine lv_iload_n hx hb dX6_loopsIn_58 rfl (lv_at hl 2 rfl) ?_
          exact x_iret (p_YN cI a) hx hb hr hlocks hP hS dX6_loopsIn_59 h
        · have h := if_f c4 h
          refine lv_iconst (v := 0) hx hb dX6_loopsIn_12 (by decide +kernel) ?_
          refine lv_istore (lv' := [(4, .int 0), (0, .ref (a 0)), (1, .ref (a 2)), (2, .int x1), (3, .int x2)]) hx hb dX6_loopsIn_13 hl (by decide) rfl (fun ls hl => ?_)
          exact i15 σ x1 x2 0 _ _ _ h hP hS (lv_sub hl [1, 2, 3, 4, 0] rfl)
      · intro σ x5 x6 x7 H locs ls h hP hS hl
        have h : b_X6_loopsIn_15 (q_it (D_X6_loopsIn) k9) σ x5 x6 x7 = some qq := h
        unfold b_X6_loopsIn_15 at h
        refine lv_iload hx hb dX6_loopsIn_15 (lv_at hl 4 rfl) ?_
        refine lv_aload_n hx hb dX6_loopsIn_17 rfl (lv_at hl 1 rfl) ?_
        refine x_geti (C := RX3) (k := 3) hx hb hts u_X6_loopsIn_3 hown hK hP (g_YN_2 cI a σ) rfl (by decide) ⟨rfl, rfl, rfl⟩ k_X6_loopsIn_f31 rfl dX6_loopsIn_18 h (fun x8 h => ?_)
        refine lv_icmp_ge (tgt := 52) hx hb dX6_loopsIn_21 (by decide) (fun c9 => ?_) (fun c9 => ?_)
        · have h := if_t c9 h
          refine x_iinc (k := 3) (w := 1) hx hb dX6_loopsIn_52 hl rfl (by decide +kernel) (by decide) (fun v9 => [(3, .int v9), (0, .ref (a 0)), (1, .ref (a 2)), (2, .int x5), (4, .int x7)]) (fun v9 => rfl) h (fun x10 ls hl h => ?_)
          have hl : lv_has ls 5 [(3, .int x10), (0, .ref (a 0)), (1, .ref (a 2)), (2, .int x5), (4, .int x7)] := hl
          refine lv_goto (tgt := 4) hx hb dX6_loopsIn_55 (by decide) ?_
          exact i4 σ x5 x10 _ _ _ h hP hS (lv_sub hl [1, 2, 3, 0] rfl)
        · have h := if_f c9 h
          refine lv_aload_n hx hb dX6_loopsIn_24 rfl (lv_at hl 0 rfl) ?_
          refine lv_aload_n hx hb dX6_loopsIn_25 rfl (lv_at hl 1 rfl) ?_
          refine x_getr (C := RX3) (k := 0) hx hb hts u_X6_loopsIn_3 hown hK hP (g_YN_2 cI a σ) rfl (by decide) ⟨rfl, rfl, rfl⟩ k_X6_loopsIn_f36 rfl dX6_loopsIn_26 ?_
          refine lv_iload_n hx hb dX6_loopsIn_29 rfl (lv_at hl 3 rfl) ?_
          refine lv_iload hx hb dX6_loopsIn_30 (lv_at hl 4 rfl) ?_
          refine x_cVv (p_YN cI a) (p_YT cI (q_sub2 2 0 3 a)) (q_put2 2 0 7 3 σ) [] [.ref (a 3), .int x6, .int x7] hx hb hml hl.1 hown hts hK hP hD hS hA rfl (c_X6_walk l D cI tys ht (q_sub2 2 0 3 a) (q_sub2 2 0 3 σ) x6 x7) gX6_loopsIn_X6_walk rfl ⟨rfl, rfl⟩ i_X6_walk ⟨Nat.le_of_ble_eq_true rfl, Nat.le_of_ble_eq_true rfl⟩ (fr_YN_YT_0_3 cI a σ) (g_YT_0 cI (q_sub2 2 0 3 a) (q_sub2 2 0 3 σ)) rfl rfl (Nat.le_of_ble_eq_true rfl) ⟨Nat.zero_le _, Nat.zero_le _⟩ dX6_loopsIn_32 h (fun H locs s11 hP hS h => ?_)
          refine lv_aload_n hx hb dX6_loopsIn_35 rfl (lv_at hl 0 rfl) ?_
          refine x_geti (C := RX6) (k := 2) hx hb hts u_X6_loopsIn_6 hown hK hP (g_YN_0 cI a s11) rfl (by decide) ⟨rfl, rfl, rfl⟩ k_X6_loopsIn_f19 rfl dX6_loopsIn_36 h (fun x12 h => ?_)
          refine lv_iconst (v := 2) hx hb dX6_loopsIn_39 (by decide +kernel) ?_
          refine lv_icmp_ne (tgt := 46) hx hb dX6_loopsIn_40 (by decide) (fun c13 => ?_) (fun c13 => ?_)
          · have h := if_f c13 h
            refine x_iinc (k := 4) (w := 1) hx hb dX6_loopsIn_46 hl rfl (by decide +kernel) (by decide) (fun v9 => [(4, .int v9), (0, .ref (a 0)), (1, .ref (a 2)), (2, .int x5), (3, .int x6)]) (fun v9 => rfl) h (fun x14 ls hl h => ?_)
            have hl : lv_has ls 5 [(4, .int x14), (0, .ref (a 0)), (1, .ref (a 2)), (2, .int x5), (3, .int x6)] := hl
            refine lv_goto (tgt := 15) hx hb dX6_loopsIn_49 (by decide) ?_
            exact i15 s11 x5 x6 x14 _ _ _ h hP hS (lv_sub hl [1, 2, 3, 4, 0] rfl)
          · have h := if_t c13 h
            refine x_iinc (k := 2) (w := 1) hx hb dX6_loopsIn_43 hl rfl (by decide +kernel) (by decide) (fun v9 => [(2, .int v9), (0, .ref (a 0)), (1, .ref (a 2)), (3, .int x6), (4, .int x7)]) (fun v9 => rfl) h (fun x15 ls hl h => ?_)
            have hl : lv_has ls 5 [(2, .int x15), (0, .ref (a 0)), (1, .ref (a 2)), (3, .int x6), (4, .int x7)] := hl
            refine x_iinc (k := 4) (w := 1) hx hb dX6_loopsIn_46 hl rfl (by decide +kernel) (by decide) (fun v9 => [(4, .int v9), (2, .int x15), (0, .ref (a 0)), (1, .ref (a 2)), (3, .int x6)]) (fun v9 => rfl) h (fun x16 ls hl h => ?_)
            have hl : lv_has ls 5 [(4, .int x16), (2, .int x15), (0, .ref (a 0)), (1, .ref (a 2)), (3, .int x6)] := hl
            refine lv_goto (tgt := 15) hx hb dX6_loopsIn_49 (by decide) ?_
            exact i15 s11 x15 x6 x16 _ _ _ h hP hS (lv_sub hl [2, 3, 1, 4, 0] rfl)
  have i4 : ∀ (σ : qM) (x1 x2 : Int32) (H : Heap) (locs : List Loc) (ls : Array Slot), q_lim (D_X6_loopsIn) 0 σ [x1, x2] = some qq → va_P D vwCl (p_YN cI a σ) H → va_S A s.heap H locs → lv_has ls 5 [(0, .ref (a 0)), (1, .ref (a 2)), (2, .int x1), (3, .int x2)] → W p l e ({ frames := 2, cells := 0, slots := 0, locals := 46 }) s m [.ref (a 0), .ref (a 2)].toArray below meth c H locs 0 0 (MQ below (va_Qi (fun r τ => (r, τ) = qq) (fun τ t => va_P D vwCl ((p_YN cI a) τ) t.heap) A) [.ref (a 0), .ref (a 2)].toArray s 0 0 A) (F0 m 4 ls []) := by
    intro σ x1 x2 H locs ls h hP hS hl
    obtain ⟨k9, h⟩ := q_lim_n h
    exact (main k9).1 σ x1 x2 H locs ls h hP hS hl
  have i15 : ∀ (σ : qM) (x5 x6 x7 : Int32) (H : Heap) (locs : List Loc) (ls : Array Slot), q_lim (D_X6_loopsIn) 1 σ [x5, x6, x7] = some qq → va_P D vwCl (p_YN cI a σ) H → va_S A s.heap H locs → lv_has ls 5 [(0, .ref (a 0)), (1, .ref (a 2)), (2, .int x5), (3, .int x6), (4, .int x7)] → W p l e ({ frames := 2, cells := 0, slots := 0, locals := 46 }) s m [.ref (a 0), .ref (a 2)].toArray below meth c H locs 0 0 (MQ below (va_Qi (fun r τ => (r, τ) = qq) (fun τ t => va_P D vwCl ((p_YN cI a) τ) t.heap) A) [.ref (a 0), .ref (a 2)].toArray s 0 0 A) (F0 m 15 ls []) := by
    intro σ x5 x6 x7 H locs ls h hP hS hl
    obtain ⟨k9, h⟩ := q_lim_n h
    exact (main k9).2 σ x5 x6 x7 H locs ls h hP hS hl
  have h : e_X6_loopsIn (q_lim (D_X6_loopsIn)) σ = some qq := h
  unfold e_X6_loopsIn at h
  refine lv_iconst (v := 0) hx hb dX6_loopsIn_0 (by decide +kernel) ?_
  refine lv_istore_n (lv' := [(2, .int 0), (0, .ref (a 0)), (1, .ref (a 2))]) hx hb dX6_loopsIn_1 rfl hl (by decide) rfl (fun ls hl => ?_)
  refine lv_iconst (v := 0) hx hb dX6_loopsIn_2 (by decide +kernel) ?_
  refine lv_istore_n (lv' := [(3, .int 0), (2, .int 0), (0, .ref (a 0)), (1, .ref (a 2))]) hx hb dX6_loopsIn_3 rfl hl (by decide) rfl (fun ls hl => ?_)
  exact i4 σ 0 0 _ _ _ h hP hS (lv_sub hl [2, 3, 1, 0] rfl)
/-! ===== VectorRounds$Distances.relax(LVectorRounds$Links;I)Z: world DL ===== -/
theorem i_X0_relax : yX0_relax.cls = RX0 ∧ yX0_relax.cls ≠ "java/lang/invoke/MethodHandle" ∧ yX0_relax.cls ≠ "java/lang/invoke/VarHandle" ∧ (parseMethodDescriptor yX0_relax.desc).map (fun d => d.parameters.length) = some 2 := by decide +kernel
theorem k_X0_relax_f41 : Cond.fieldLink RX0 41 RX2 "lesser" "[I" ∈ wsX0_relax := by decide +kernel
theorem k_X0_relax_f44 : Cond.fieldLink RX0 44 RX2 "greater" "[I" ∈ wsX0_relax := by decide +kernel
theorem k_X0_relax_f47 : Cond.fieldLink RX0 47 RX2 "price" "[I" ∈ wsX0_relax := by decide +kernel
theorem k_X0_relax_f9 : Cond.fieldLink RX0 9 RX0 "to" "[I" ∈ wsX0_relax := by decide +kernel
theorem u_X0_relax_0 : ∀ w ∈ u_ws RX0 TX0 1, w ∈ wsX0_relax := by decide +kernel
theorem u_X0_relax_2 : ∀ w ∈ u_ws RX2 TX2 6, w ∈ wsX0_relax := by decide +kernel
set_option maxHeartbeats 4000000 in
set_option maxRecDepth 100000 in
theorem c_X0_relax (l : Launch) (D : va_G) (cI : ClassId) (tys : List (ClassId × FieldType)) (ht : tys[0]? = some (cI, .int)) (a : Nat → Nat) (σ : qM) (x1 : Int32) : q_Met l yX0_relax wsX0_relax ({ frames := 0, cells := 0, slots := 0, locals := 0 }) [.ref (a 0), .ref (a 2), .int x1] D tys (p_DL cI a) σ (f_X0_relax σ x1) := by
  refine x_ofWi (cc := cX0_relax) (maxL := 6) (ret := (some .boolean)) (by decide +kernel) rfl (pf_DL cI a) (Nat.le_of_ble_eq_true rfl) ?_
  intro p e s m below meth c A ls qq h hx hb hml hr hlocks hown hts hK hP hD hA hS hl
  have hown : s.vm.findClass RX0 = some m.cls := hown
  have hl : lv_has ls 6 [(0, .ref (a 0)), (1, .ref (a 2)), (2, .int x1)] := hl
  unfold f_X0_relax at h
  refine lv_aload_n hx hb dX0_relax_0 rfl (lv_at hl 1 rfl) ?_
  refine x_getr (C := RX2) (k := 0) hx hb hts u_X0_relax_2 hown hK hP (g_DL_2 cI a σ) rfl (by decide) ⟨rfl, rfl, rfl⟩ k_X0_relax_f41 rfl dX0_relax_1 ?_
  refine lv_iload_n hx hb dX0_relax_4 rfl (lv_at hl 2 rfl) ?_
  refine x_iald (t0 := 0) hx hb hK hP ht h (g_DL_3 cI a σ) dX0_relax_5 (fun x2 h => ?_)
  refine lv_istore_n (lv' := [(3, .int x2), (0, .ref (a 0)), (1, .ref (a 2)), (2, .int x1)]) hx hb dX0_relax_6 rfl hl (by decide) rfl (fun ls hl => ?_)
  refine lv_aload_n hx hb dX0_relax_7 rfl (lv_at hl 2 rfl) ?_
  refine x_getr (C := RX2) (k := 1) hx hb hts u_X0_relax_2 hown hK hP (g_DL_2 cI a σ) rfl (by decide) ⟨rfl, rfl, rfl⟩ k_X0_relax_f44 rfl dX0_relax_8 ?_
  refine lv_iload_n hx hb dX0_relax_11 rfl (lv_at hl 3 rfl) ?_
  refine x_iald (t0 := 0) hx hb hK hP ht h (g_DL_4 cI a σ) dX0_relax_12 (fun x3 h => ?_)
  refine lv_istore (lv' := [(4, .int x3), (3, .int x2), (0, .ref (a 0)), (1, .ref (a 2)), (2, .int x1)]) hx hb dX0_relax_13 hl (by decide) rfl (fun ls hl => ?_)
  refine lv_aload_n hx hb dX0_relax_15 rfl (lv_at hl 3 rfl) ?_
  refine x_getr (C := RX2) (k := 2) hx hb hts u_X0_relax_2 hown hK hP (g_DL_2 cI a σ) rfl (by decide) ⟨rfl, rfl, rfl⟩ k_X0_relax_f47 rfl dX0_relax_16 ?_
  refine lv_iload_n hx hb dX0_relax_19 rfl (lv_at hl 4 rfl) ?_
  refine x_iald (t0 := 0) hx hb hK hP ht h (g_DL_5 cI a σ) dX0_relax_20 (fun x4 h => ?_)
  refine lv_istore (lv' := [(5, .int x4), (4, .int x3), (3, .int x2), (0, .ref (a 0)), (1, .ref (a 2)), (2, .int x1)]) hx hb dX0_relax_21 hl (by decide) rfl (fun ls hl => ?_)
  refine lv_aload_n hx hb dX0_relax_23 rfl (lv_at hl 3 rfl) ?_
  refine x_getr (C := RX0) (k := 0) hx hb hts u_X0_relax_0 hown hK hP (g_DL_0 cI a σ) rfl (by decide) ⟨rfl, rfl, rfl⟩ k_X0_relax_f9 rfl dX0_relax_24 ?_
  refine lv_iload_n hx hb dX0_relax_27 rfl (lv_at hl 2 rfl) ?_
  refine x_iald (t0 := 0) hx hb hK hP ht h (g_DL_1 cI a σ) dX0_relax_28 (fun x5 h => ?_)
  refine lv_iload hx hb dX0_relax_29 (lv_at hl 0 rfl) ?_
  refine x_iadd hx hb dX0_relax_31 h (fun x6 h => ?_)
  refine lv_aload_n hx hb dX0_relax_32 rfl (lv_at hl 3 rfl) ?_
  refine x_getr (C := RX0) (k := 0) hx hb hts u_X0_relax_0 hown hK hP (g_DL_0 cI a σ) rfl (by decide) ⟨rfl, rfl, rfl⟩ k_X0_relax_f9 rfl dX0_relax_33 ?_
  refine lv_iload hx hb dX0_relax_36 (lv_at hl 1 rfl) ?_
  refine x_iald (t0 := 0) hx hb hK hP ht h (g_DL_1 cI a σ) dX0_relax_38 (fun x7 h => ?_)
  refine lv_icmp_ge (tgt := 60) hx hb dX0_relax_39 (by decide) (fun c8 => ?_) (fun c8 => ?_)
  · have h := if_t c8 h
    refine lv_aload_n hx hb dX0_relax_60 rfl (lv_at hl 3 rfl) ?_
    refine x_getr (C := RX0) (k := 0) hx hb hts u_X0_relax_0 hown hK hP (g_DL_0 cI a σ) rfl (by decide) ⟨rfl, rfl, rfl⟩ k_X0_relax_f9 rfl dX0_relax_61 ?_
    refine lv_iload hx hb dX0_relax_64 (lv_at hl 1 rfl) ?_
    refine x_iald (t0 := 0) hx hb hK hP ht h (g_DL_1 cI a σ) dX0_relax_66 (fun x9 h => ?_)
    refine lv_iload hx hb dX0_relax_67 (lv_at hl 0 rfl) ?_
    refine x_iadd hx hb dX0_relax_69 h (fun x10 h => ?_)
    refine lv_aload_n hx hb dX0_relax_70 rfl (lv_at hl 3 rfl) ?_
    refine x_getr (C := RX0) (k := 0) hx hb hts u_X0_relax_0 hown hK hP (g_DL_0 cI a σ) rfl (by decide) ⟨rfl, rfl, rfl⟩ k_X0_relax_f9 rfl dX0_relax_71 ?_
    refine lv_iload_n hx hb dX0_relax_74 rfl (lv_at hl 2 rfl) ?_
    refine x_iald (t0 := 0) hx hb hK hP ht h (g_DL_1 cI a σ) dX0_relax_75 (fun x11 h => ?_)
    refine lv_icmp_ge (tgt := 97) hx hb dX0_relax_76 (by decide) (fun c12 => ?_) (fun c12 => ?_)
    · have h := if_t c12 h
      refine lv_iconst (v := 0) hx hb dX0_relax_97 (by decide +kernel) ?_
      exact x_zret (p_DL cI a) hx hb hr hlocks hP hS dX0_relax_98 h
    · have h := if_f c12 h
      refine lv_aload_n hx hb dX0_relax_79 rfl (lv_at hl 3 rfl) ?_
      refine x_getr (C := RX0) (k := 0) hx hb hts u_X0_relax_0 hown hK hP (g_DL_0 cI a σ) rfl (by decide) ⟨rfl, rfl, rfl⟩ k_X0_relax_f9 rfl dX0_relax_80 ?_
      refine lv_iload_n hx hb dX0_relax_83 rfl (lv_at hl 2 rfl) ?_
      refine lv_aload_n hx hb dX0_relax_84 rfl (lv_at hl 3 rfl) ?_
      refine x_getr (C := RX0) (k := 0) hx hb hts u_X0_relax_0 hown hK hP (g_DL_0 cI a σ) rfl (by decide) ⟨rfl, rfl, rfl⟩ k_X0_relax_f9 rfl dX0_relax_85 ?_
      refine lv_iload hx hb dX0_relax_88 (lv_at hl 1 rfl) ?_
      refine x_iald (t0 := 0) hx hb hK hP ht h (g_DL_1 cI a σ) dX0_relax_90 (fun x13 h => ?_)
      refine lv_iload hx hb dX0_relax_91 (lv_at hl 0 rfl) ?_
      refine x_iadd hx hb dX0_relax_93 h (fun x14 h => ?_)
      refine x_iast (p_DL cI a) (t0 := 0) hx hb hK hP hD hS ht h (g_DL_1 cI a σ) (fun j9 v9 => (s_DL_1 cI a σ _)) dX0_relax_94 (fun H locs s15 hP hS h => ?_)
      refine lv_iconst (v := 1) hx hb dX0_relax_95 (by decide +kernel) ?_
      exact x_zret (p_DL cI a) hx hb hr hlocks hP hS dX0_relax_96 h
  · have h := if_f c8 h
    refine lv_aload_n hx hb dX0_relax_42 rfl (lv_at hl 3 rfl) ?_
    refine x_getr (C := RX0) (k := 0) hx hb hts u_X0_relax_0 hown hK hP (g_DL_0 cI a σ) rfl (by decide) ⟨rfl, rfl, rfl⟩ k_X0_relax_f9 rfl dX0_relax_43 ?_
    refine lv_iload hx hb dX0_relax_46 (lv_at hl 1 rfl) ?_
    refine lv_aload_n hx hb dX0_relax_48 rfl (lv_at hl 3 rfl) ?_
    refine x_getr (C := RX0) (k := 0) hx hb hts u_X0_relax_0 hown hK hP (g_DL_0 cI a σ) rfl (by decide) ⟨rfl, rfl, rfl⟩ k_X0_relax_f9 rfl dX0_relax_49 ?_
    refine lv_iload_n hx hb dX0_relax_52 rfl (lv_at hl 2 rfl) ?_
    refine x_iald (t0 := 0) hx hb hK hP ht h (g_DL_1 cI a σ) dX0_relax_53 (fun x16 h => ?_)
    refine lv_iload hx hb dX0_relax_54 (lv_at hl 0 rfl) ?_
    refine x_iadd hx hb dX0_relax_56 h (fun x17 h => ?_)
    refine x_iast (p_DL cI a) (t0 := 0) hx hb hK hP hD hS ht h (g_DL_1 cI a σ) (fun j9 v9 => (s_DL_1 cI a σ _)) dX0_relax_57 (fun H locs s18 hP hS h => ?_)
    refine lv_iconst (v := 1) hx hb dX0_relax_58 (by decide +kernel) ?_
    exact x_zret (p_DL cI a) hx hb hr hlocks hP hS dX0_relax_59 h
/-! ===== VectorRounds$Distances.measure(LVectorRounds$Network;II)V: world DN ===== -/
theorem i_X0_measure : yX0_measure.cls = RX0 ∧ yX0_measure.cls ≠ "java/lang/invoke/MethodHandle" ∧ yX0_measure.cls ≠ "java/lang/invoke/VarHandle" ∧ (parseMethodDescriptor yX0_measure.desc).map (fun d => d.parameters.length) = some 3 := by decide +kernel
theorem k_X0_measure_c15 : Cond.constant RX0 15 (1000000) ∈ wsX0_measure := by decide +kernel
theorem k_X0_measure_f22 : Cond.fieldLink RX0 22 RX3 "links" "LVectorRounds$Links;" ∈ wsX0_measure := by decide +kernel
theorem k_X0_measure_f28 : Cond.fieldLink RX0 28 RX2 "size" "I" ∈ wsX0_measure := by decide +kernel
theorem k_X0_measure_f34 : Cond.fieldLink RX0 34 RX2 "up" "[I" ∈ wsX0_measure := by decide +kernel
theorem k_X0_measure_f9 : Cond.fieldLink RX0 9 RX0 "to" "[I" ∈ wsX0_measure := by decide +kernel
theorem u_X0_measure_0 : ∀ w ∈ u_ws RX0 TX0 1, w ∈ wsX0_measure := by decide +kernel
theorem u_X0_measure_2 : ∀ w ∈ u_ws RX2 TX2 6, w ∈ wsX0_measure := by decide +kernel
theorem u_X0_measure_3 : ∀ w ∈ u_ws RX3 TX3 9, w ∈ wsX0_measure := by decide +kernel
set_option maxHeartbeats 4000000 in
set_option maxRecDepth 100000 in
theorem c_X0_measure (l : Launch) (D : va_G) (cI : ClassId) (tys : List (ClassId × FieldType)) (ht : tys[0]? = some (cI, .int)) (a : Nat → Nat) (σ : qM) (x1 : Int32) (x2 : Int32) : q_Mev l yX0_measure wsX0_measure ({ frames := 1, cells := 0, slots := 0, locals := 25 }) [.ref (a 0), .ref (a 2), .int x1, .int x2] D tys (p_DN cI a) σ (f_X0_measure σ x1 x2) := by
  refine x_ofWv (cc := cX0_measure) (maxL := 7) (ret := none) (by decide +kernel) rfl (pf_DN cI a) (Nat.le_of_ble_eq_true rfl) ?_
  intro p e s m below meth c A ls qq h hx hb hml hr hlocks hown hts hK hP hD hA hS hl
  have hown : s.vm.findClass RX0 = some m.cls := hown
  have hl : lv_has ls 7 [(0, .ref (a 0)), (1, .ref (a 2)), (2, .int x1), (3, .int x2)] := hl
  have main : ∀ k9 : Nat, (∀ (σ : qM) (x5 x6 x7 : Int32) (H : Heap) (locs : List Loc) (ls : Array Slot), q_it (D_X0_measure) k9 0 σ [x5, x6, x7] = some qq → va_P D vwCl (p_DN cI a σ) H → va_S A s.heap H locs → lv_has ls 7 [(0, .ref (a 0)), (1, .ref (a 2)), (3, .int x5), (4, .int x6), (5, .int x7)] → W p l e ({ frames := 1, cells := 0, slots := 0, locals := 25 }) s m [.ref (a 0), .ref (a 2), .int x1, .int x2].toArray below meth c H locs 0 0 (MQ below (va_Qv (fun τ => ((0 : Int32), τ) = qq) (fun τ t => va_P D vwCl ((p_DN cI a) τ) t.heap) A) [.ref (a 0), .ref (a 2), .int x1, .int x2].toArray s 0 0 A) (F0 m 22 ls [])) ∧ (∀ (σ : qM) (x10 x11 x12 x13 : Int32) (H : Heap) (locs : List Loc) (ls : Array Slot), q_it (D_X0_measure) k9 1 σ [x10, x11, x12, x13] = some qq → va_P D vwCl (p_DN cI a σ) H → va_S A s.heap H locs → lv_has ls 7 [(0, .ref (a 0)), (1, .ref (a 2)), (3, .int x10), (4, .int x11), (5, .int x12), (6, .int x13)] → W p l e ({ frames := 1, cells := 0, slots := 0, locals := 25 }) s m [.ref (a 0), .ref (a 2), .int x1, .int x2].toArray below meth c H locs 0 0 (MQ below (va_Qv (fun τ => ((0 : Int32), τ) = qq) (fun τ t => va_P D vwCl ((p_DN cI a) τ) t.heap) A) [.ref (a 0), .ref (a 2), .int x1, .int x2].toArray s 0 0 A) (F0 m 40 ls [])) := by
    intro k9
    induction k9 with
    | zero => exact ⟨(fun _ _ _ _ _ _ _ h _ _ _ => (q_no (show (none : qR) = some qq from h)).elim), (fun _ _ _ _ _ _ _ _ h _ _ _ => (q_no (show (none : qR) = some qq from h)).elim)⟩
    | succ k9 ih =>
      obtain ⟨i22, i40⟩ := ih
      refine ⟨?_, ?_⟩
      · intro σ x5 x6 x7 H locs ls h hP hS hl
        have h : b_X0_measure_22 (q_it (D_X0_measure) k9) σ x5 x6 x7 = some qq := h
        unfold b_X0_measure_22 at h
        refine lv_iload hx hb dX0_measure_22 (lv_at hl 4 rfl) ?_
        refine lv_bipush (v := 10) hx hb dX0_measure_24 (by decide +kernel) ?_
        refine lv_icmp_ge (tgt := 100) hx hb dX0_measure_26 (by decide) (fun c8 => ?_) (fun c8 => ?_)
        · have h := if_t c8 h
          exact x_vret (p_DN cI a) hx hb hr hlocks hP hS dX0_measure_100 h
        · have h := if_f c8 h
          refine lv_iload hx hb dX0_measure_29 (lv_at hl 3 rfl) ?_
          refine lv_if_eq (tgt := 100) hx hb dX0_measure_31 (by decide) (fun c9 => ?_) (fun c9 => ?_)
          · have h := if_t c9 h
            exact x_vret (p_DN cI a) hx hb hr hlocks hP hS dX0_measure_100 h
          · have h := if_f c9 h
            refine lv_iconst (v := 0) hx hb dX0_measure_34 (by decide +kernel) ?_
            refine lv_istore (lv' := [(4, .int 0), (0, .ref (a 0)), (1, .ref (a 2)), (3, .int x5), (5, .int x7)]) hx hb dX0_measure_35 hl (by decide) rfl (fun ls hl => ?_)
            refine lv_iconst (v := 0) hx hb dX0_measure_37 (by decide +kernel) ?_
            refine lv_istore (lv' := [(6, .int 0), (4, .int 0), (0, .ref (a 0)), (1, .ref (a 2)), (3, .int x5), (5, .int x7)]) hx hb dX0_measure_38 hl (by decide) rfl (fun ls hl => ?_)
            exact i40 σ x5 0 x7 0 _ _ _ h hP hS (lv_sub hl [2, 3, 4, 1, 5, 0] rfl)
      · intro σ x10 x11 x12 x13 H locs ls h hP hS hl
        have h : b_X0_measure_40 (q_it (D_X0_measure) k9) σ x10 x11 x12 x13 = some qq := h
        unfold b_X0_measure_40 at h
        refine lv_iload hx hb dX0_measure_40 (lv_at hl 5 rfl) ?_
        refine lv_aload_n hx hb dX0_measure_42 rfl (lv_at hl 1 rfl) ?_
        refine x_getr (C := RX3) (k := 2) hx hb hts u_X0_measure_3 hown hK hP (g_DN_2 cI a σ) rfl (by decide) ⟨rfl, rfl, rfl⟩ k_X0_measure_f22 rfl dX0_measure_43 ?_
        refine x_geti (C := RX2) (k := 5) hx hb hts u_X0_measure_2 hown hK hP (g_DN_17 cI a σ) rfl (by decide) ⟨rfl, rfl, rfl⟩ k_X0_measure_f28 rfl dX0_measure_46 h (fun x14 h => ?_)
        refine lv_icmp_ge (tgt := 94) hx hb dX0_measure_49 (by decide) (fun c15 => ?_) (fun c15 => ?_)
        · have h := if_t c15 h
          refine x_iinc (k := 4) (w := 1) hx hb dX0_measure_94 hl rfl (by decide +kernel) (by decide) (fun v9 => [(5, .int v9), (0, .ref (a 0)), (1, .ref (a 2)), (3, .int x10), (4, .int x11), (6, .int x13)]) (fun v9 => rfl) h (fun x16 ls hl h => ?_)
          have hl : lv_has ls 7 [(5, .int x16), (0, .ref (a 0)), (1, .ref (a 2)), (3, .int x10), (4, .int x11), (6, .int x13)] := hl
          refine lv_goto (tgt := 22) hx hb dX0_measure_97 (by decide) ?_
          exact i22 σ x10 x11 x16 _ _ _ h hP hS (lv_sub hl [1, 2, 3, 4, 0] rfl)
        · have h := if_f c15 h
          refine lv_iload hx hb dX0_measure_52 (lv_at hl 5 rfl) ?_
          refine lv_iload_n hx hb dX0_measure_54 rfl (lv_at hl 2 rfl) ?_
          refine lv_icmp_eq (tgt := 88) hx hb dX0_measure_55 (by decide) (fun c17 => ?_) (fun c17 => ?_)
          · have h := if_t c17 h
            refine x_iinc (k := 5) (w := 1) hx hb dX0_measure_88 hl rfl (by decide +kernel) (by decide) (fun v9 => [(6, .int v9), (0, .ref (a 0)), (1, .ref (a 2)), (3, .int x10), (4, .int x11), (5, .int x12)]) (fun v9 => rfl) h (fun x18 ls hl h => ?_)
            have hl : lv_has ls 7 [(6, .int x18), (0, .ref (a 0)), (1, .ref (a 2)), (3, .int x10), (4, .int x11), (5, .int x12)] := hl
            refine lv_goto (tgt := 40) hx hb dX0_measure_91 (by decide) ?_
            exact i40 σ x10 x11 x12 x18 _ _ _ h hP hS (lv_sub hl [1, 2, 3, 4, 5, 0] rfl)
          · have h := if_f c17 h
            refine lv_aload_n hx hb dX0_measure_58 rfl (lv_at hl 1 rfl) ?_
            refine x_getr (C := RX3) (k := 2) hx hb hts u_X0_measure_3 hown hK hP (g_DN_2 cI a σ) rfl (by decide) ⟨rfl, rfl, rfl⟩ k_X0_measure_f22 rfl dX0_measure_59 ?_
            refine x_getr (C := RX2) (k := 3) hx hb hts u_X0_measure_2 hown hK hP (g_DN_17 cI a σ) rfl (by decide) ⟨rfl, rfl, rfl⟩ k_X0_measure_f34 rfl dX0_measure_62 ?_
            refine lv_iload hx hb dX0_measure_65 (lv_at hl 5 rfl) ?_
            refine x_iald (t0 := 0) hx hb hK hP ht h (g_DN_21 cI a σ) dX0_measure_67 (fun x19 h => ?_)
            refine lv_iconst (v := 1) hx hb dX0_measure_68 (by decide +kernel) ?_
            refine lv_icmp_ne (tgt := 88) hx hb dX0_measure_69 (by decide) (fun c20 => ?_) (fun c20 => ?_)
            · have h := if_f c20 h
              refine x_iinc (k := 5) (w := 1) hx hb dX0_measure_88 hl rfl (by decide +kernel) (by decide) (fun v9 => [(6, .int v9), (0, .ref (a 0)), (1, .ref (a 2)), (3, .int x10), (4, .int x11), (5, .int x12)]) (fun v9 => rfl) h (fun x21 ls hl h => ?_)
              have hl : lv_has ls 7 [(6, .int x21), (0, .ref (a 0)), (1, .ref (a 2)), (3, .int x10), (4, .int x11), (5, .int x12)] := hl
              refine lv_goto (tgt := 40) hx hb dX0_measure_91 (by decide) ?_
              exact i40 σ x10 x11 x12 x21 _ _ _ h hP hS (lv_sub hl [1, 2, 3, 4, 5, 0] rfl)
            · have h := if_t c20 h
              refine lv_aload_n hx hb dX0_measure_72 rfl (lv_at hl 0 rfl) ?_
              refine lv_aload_n hx hb dX0_measure_73 rfl (lv_at hl 1 rfl) ?_
              refine x_getr (C := RX3) (k := 2) hx hb hts u_X0_measure_3 hown hK hP (g_DN_2 cI a σ) rfl (by decide) ⟨rfl, rfl, rfl⟩ k_X0_measure_f22 rfl dX0_measure_74 ?_
              refine lv_iload hx hb dX0_measure_77 (lv_at hl 5 rfl) ?_
              refine x_cVi (p_DN cI a) (p_DL cI (q_sub2 2 0 17 a)) (q_put2 2 0 6 17 σ) [] [.ref (a 17), .int x13] hx hb hml hl.1 hown hts hK hP hD hS hA rfl (c_X0_relax l D cI tys ht (q_sub2 2 0 17 a) (q_sub2 2 0 17 σ) x13) gX0_measure_X0_relax rfl ⟨rfl, rfl⟩ i_X0_relax ⟨Nat.le_of_ble_eq_true rfl, Nat.le_of_ble_eq_true rfl⟩ (fr_DN_DL_0_17 cI a σ) (g_DL_0 cI (q_sub2 2 0 17 a) (q_sub2 2 0 17 σ)) rfl rfl (Nat.le_of_ble_eq_true rfl) ⟨Nat.zero_le _, Nat.zero_le _⟩ dX0_measure_79 h (fun x23 H locs s22 hP hS h => ?_)
              refine lv_if_eq (tgt := 88) hx hb dX0_measure_82 (by decide) (fun c24 => ?_) (fun c24 => ?_)
              · have h := if_t c24 h
                refine x_iinc (k := 5) (w := 1) hx hb dX0_measure_88 hl rfl (by decide +kernel) (by decide) (fun v9 => [(6, .int v9), (0, .ref (a 0)), (1, .ref (a 2)), (3, .int x10), (4, .int x11), (5, .int x12)]) (fun v9 => rfl) h (fun x25 ls hl h => ?_)
                have hl : lv_has ls 7 [(6, .int x25), (0, .ref (a 0)), (1, .ref (a 2)), (3, .int x10), (4, .int x11), (5, .int x12)] := hl
                refine lv_goto (tgt := 40) hx hb dX0_measure_91 (by decide) ?_
                exact i40 s22 x10 x11 x12 x25 _ _ _ h hP hS (lv_sub hl [1, 2, 3, 4, 5, 0] rfl)
              · have h := if_f c24 h
                refine lv_iconst (v := 1) hx hb dX0_measure_85 (by decide +kernel) ?_
                refine lv_istore (lv' := [(4, .int 1), (0, .ref (a 0)), (1, .ref (a 2)), (3, .int x10), (5, .int x12), (6, .int x13)]) hx hb dX0_measure_86 hl (by decide) rfl (fun ls hl => ?_)
                refine x_iinc (k := 5) (w := 1) hx hb dX0_measure_88 hl rfl (by decide +kernel) (by decide) (fun v9 => [(6, .int v9), (4, .int 1), (0, .ref (a 0)), (1, .ref (a 2)), (3, .int x10), (5, .int x12)]) (fun v9 => rfl) h (fun x26 ls hl h => ?_)
                have hl : lv_has ls 7 [(6, .int x26), (4, .int 1), (0, .ref (a 0)), (1, .ref (a 2)), (3, .int x10), (5, .int x12)] := hl
                refine lv_goto (tgt := 40) hx hb dX0_measure_91 (by decide) ?_
                exact i40 s22 x10 1 x12 x26 _ _ _ h hP hS (lv_sub hl [2, 3, 4, 1, 5, 0] rfl)
  have i22 : ∀ (σ : qM) (x5 x6 x7 : Int32) (H : Heap) (locs : List Loc) (ls : Array Slot), q_lim (D_X0_measure) 0 σ [x5, x6, x7] = some qq → va_P D vwCl (p_DN cI a σ) H → va_S A s.heap H locs → lv_has ls 7 [(0, .ref (a 0)), (1, .ref (a 2)), (3, .int x5), (4, .int x6), (5, .int x7)] → W p l e ({ frames := 1, cells := 0, slots := 0, locals := 25 }) s m [.ref (a 0), .ref (a 2), .int x1, .int x2].toArray below meth c H locs 0 0 (MQ below (va_Qv (fun τ => ((0 : Int32), τ) = qq) (fun τ t => va_P D vwCl ((p_DN cI a) τ) t.heap) A) [.ref (a 0), .ref (a 2), .int x1, .int x2].toArray s 0 0 A) (F0 m 22 ls []) := by
    intro σ x5 x6 x7 H locs ls h hP hS hl
    obtain ⟨k9, h⟩ := q_lim_n h
    exact (main k9).1 σ x5 x6 x7 H locs ls h hP hS hl
  have i40 : ∀ (σ : qM) (x10 x11 x12 x13 : Int32) (H : Heap) (locs : List Loc) (ls : Array Slot), q_lim (D_X0_measure) 1 σ [x10, x11, x12, x13] = some qq → va_P D vwCl (p_DN cI a σ) H → va_S A s.heap H locs → lv_has ls 7 [(0, .ref (a 0)), (1, .ref (a 2)), (3, .int x10), (4, .int x11), (5, .int x12), (6, .int x13)] → W p l e ({ frames := 1, cells := 0, slots := 0, locals := 25 }) s m [.ref (a 0), .ref (a 2), .int x1, .int x2].toArray below meth c H locs 0 0 (MQ below (va_Qv (fun τ => ((0 : Int32), τ) = qq) (fun τ t => va_P D vwCl ((p_DN cI a) τ) t.heap) A) [.ref (a 0), .ref (a 2), .int x1, .int x2].toArray s 0 0 A) (F0 m 40 ls []) := by
    intro σ x10 x11 x12 x13 H locs ls h hP hS hl
    obtain ⟨k9, h⟩ := q_lim_n h
    exact (main k9).2 σ x10 x11 x12 x13 H locs ls h hP hS hl
  have h : e_X0_measure (q_lim (D_X0_measure)) σ x1 x2 = some qq := h
  unfold e_X0_measure at h
  refine lv_aload_n hx hb dX0_measure_0 rfl (lv_at hl 0 rfl) ?_
  refine x_getr (C := RX0) (k := 0) hx hb hts u_X0_measure_0 hown hK hP (g_DN_0 cI a σ) rfl (by decide) ⟨rfl, rfl, rfl⟩ k_X0_measure_f9 rfl dX0_measure_1 ?_
  refine lv_ldc (v := 1000000) hx hb hown (hts _ k_X0_measure_c15) dX0_measure_4 ?_
  refine x_cSv (p_DN cI a) (p_A cI 10 (q_sub 1 a)) (q_put 1 1 σ) [] [.ref (a 1), .int 1000000] hx hb hml hl.1 hown hts hK hP hD hS hA rfl (c_J7_fill_53178 l D cI tys ht 10 (q_sub 1 a) (q_sub 1 σ) 1000000) gX0_measure_J7_fill_53178 rfl ⟨rfl, rfl⟩ i_J7_fill_53178 ⟨Nat.le_of_ble_eq_true rfl, Nat.le_of_ble_eq_true rfl⟩ (fr_DN_A_1 cI a σ) rfl (Nat.le_of_ble_eq_true rfl) ⟨Nat.zero_le _, Nat.zero_le _⟩ dX0_measure_6 h (fun H locs s3 hP hS h => ?_)
  refine lv_aload_n hx hb dX0_measure_9 rfl (lv_at hl 0 rfl) ?_
  refine x_getr (C := RX0) (k := 0) hx hb hts u_X0_measure_0 hown hK hP (g_DN_0 cI a s3) rfl (by decide) ⟨rfl, rfl, rfl⟩ k_X0_measure_f9 rfl dX0_measure_10 ?_
  refine lv_iload_n hx hb dX0_measure_13 rfl (lv_at hl 2 rfl) ?_
  refine lv_iconst (v := 0) hx hb dX0_measure_14 (by decide +kernel) ?_
  refine x_iast (p_DN cI a) (t0 := 0) hx hb hK hP hD hS ht h (g_DN_1 cI a s3) (fun j9 v9 => (s_DN_1 cI a s3 _)) dX0_measure_15 (fun H locs s4 hP hS h => ?_)
  refine lv_iconst (v := 1) hx hb dX0_measure_16 (by decide +kernel) ?_
  refine lv_istore (lv' := [(4, .int 1), (0, .ref (a 0)), (1, .ref (a 2)), (2, .int x1), (3, .int x2)]) hx hb dX0_measure_17 hl (by decide) rfl (fun ls hl => ?_)
  refine lv_iconst (v := 0) hx hb dX0_measure_19 (by decide +kernel) ?_
  refine lv_istore (lv' := [(5, .int 0), (4, .int 1), (0, .ref (a 0)), (1, .ref (a 2)), (2, .int x1), (3, .int x2)]) hx hb dX0_measure_20 hl (by decide) rfl (fun ls hl => ?_)
  exact i22 s4 x2 1 0 _ _ _ h hP hS (lv_sub hl [2, 3, 5, 1, 0] rfl)
/-! ===== VectorRounds$Holder.keepEntry(LVectorRounds$Tables;II)V: world HT ===== -/
theorem i_X1_keepEntry : yX1_keepEntry.cls = RX1 ∧ yX1_keepEntry.cls ≠ "java/lang/invoke/MethodHandle" ∧ yX1_keepEntry.cls ≠ "java/lang/invoke/VarHandle" ∧ (parseMethodDescriptor yX1_keepEntry.desc).map (fun d => d.parameters.length) = some 3 := by decide +kernel
theorem k_X1_keepEntry_f15 : Cond.fieldLink RX1 15 RX1 "sort" "I" ∈ wsX1_keepEntry := by decide +kernel
theorem k_X1_keepEntry_f19 : Cond.fieldLink RX1 19 RX1 "own" "Z" ∈ wsX1_keepEntry := by decide +kernel
theorem k_X1_keepEntry_f23 : Cond.fieldLink RX1 23 RX4 "metric" "[I" ∈ wsX1_keepEntry := by decide +kernel
theorem k_X1_keepEntry_f28 : Cond.fieldLink RX1 28 RX1 "metric" "I" ∈ wsX1_keepEntry := by decide +kernel
theorem k_X1_keepEntry_f30 : Cond.fieldLink RX1 30 RX4 "via" "[I" ∈ wsX1_keepEntry := by decide +kernel
theorem k_X1_keepEntry_f33 : Cond.fieldLink RX1 33 RX1 "via" "I" ∈ wsX1_keepEntry := by decide +kernel
theorem k_X1_keepEntry_f35 : Cond.fieldLink RX1 35 RX4 "sequence" "[I" ∈ wsX1_keepEntry := by decide +kernel
theorem k_X1_keepEntry_f38 : Cond.fieldLink RX1 38 RX1 "sequence" "I" ∈ wsX1_keepEntry := by decide +kernel
theorem k_X1_keepEntry_f40 : Cond.fieldLink RX1 40 RX4 "held" "[I" ∈ wsX1_keepEntry := by decide +kernel
theorem k_X1_keepEntry_f43 : Cond.fieldLink RX1 43 RX1 "held" "I" ∈ wsX1_keepEntry := by decide +kernel
theorem u_X1_keepEntry_1 : ∀ w ∈ u_ws RX1 TX1 8, w ∈ wsX1_keepEntry := by decide +kernel
theorem u_X1_keepEntry_4 : ∀ w ∈ u_ws RX4 TX4 6, w ∈ wsX1_keepEntry := by decide +kernel
set_option maxHeartbeats 4000000 in
set_option maxRecDepth 100000 in
theorem c_X1_keepEntry (l : Launch) (D : va_G) (cI : ClassId) (tys : List (ClassId × FieldType)) (ht : tys[0]? = some (cI, .int)) (a : Nat → Nat) (σ : qM) (x1 : Int32) (x2 : Int32) : q_Mev l yX1_keepEntry wsX1_keepEntry ({ frames := 0, cells := 0, slots := 0, locals := 0 }) [.ref (a 0), .ref (a 2), .int x1, .int x2] D tys (p_HT cI a) σ (f_X1_keepEntry σ x1 x2) := by
  refine x_ofWv (cc := cX1_keepEntry) (maxL := 5) (ret := none) (by decide +kernel) rfl (pf_HT cI a) (Nat.le_of_ble_eq_true rfl) ?_
  intro p e s m below meth c A ls qq h hx hb hml hr hlocks hown hts hK hP hD hA hS hl
  have hown : s.vm.findClass RX1 = some m.cls := hown
  have hl : lv_has ls 5 [(0, .ref (a 0)), (1, .ref (a 2)), (2, .int x1), (3, .int x2)] := hl
  have i24 : ∀ (σ : qM) (x7 x8 : Int32) (H : Heap) (locs : List Loc) (ls : Array Slot), b_X1_keepEntry_24 σ x7 x8 = some qq → va_P D vwCl (p_HT cI a σ) H → va_S A s.heap H locs → lv_has ls 5 [(0, .ref (a 0)), (1, .ref (a 2)), (4, .int x7)] → W p l e ({ frames := 0, cells := 0, slots := 0, locals := 0 }) s m [.ref (a 0), .ref (a 2), .int x1, .int x2].toArray below meth c H locs 0 0 (MQ below (va_Qv (fun τ => ((0 : Int32), τ) = qq) (fun τ t => va_P D vwCl ((p_HT cI a) τ) t.heap) A) [.ref (a 0), .ref (a 2), .int x1, .int x2].toArray s 0 0 A) (F0 m 24 ls [.int x8, .ref (a 0)]) := by
    intro σ x7 x8 H locs ls h hP hS hl
    unfold b_X1_keepEntry_24 at h
    have hb10 := (q_bo_of h).1
    have h := (q_bo_of h).2
    refine x_puti (p_HT cI a) (C := RX1) (k := 1) hx hb hts u_X1_keepEntry_1 tyX1 tyX1_ok nmX1 hown hK hP hD hS h (g_HT_0 cI a σ) rfl (by decide) ⟨rfl, rfl, rfl⟩ k_X1_keepEntry_f19 rfl rfl (q_nb hb10).1 (q_nb hb10).2 (Nat.le_of_ble_eq_true rfl) (s_HT_0_1 cI a σ x8) dX1_keepEntry_24 (fun H locs s9 hP hS h => ?_)
    refine lv_aload_n hx hb dX1_keepEntry_27 rfl (lv_at hl 0 rfl) ?_
    refine lv_aload_n hx hb dX1_keepEntry_28 rfl (lv_at hl 1 rfl) ?_
    refine x_getr (C := RX4) (k := 0) hx hb hts u_X1_keepEntry_4 hown hK hP (g_HT_2 cI a s9) rfl (by decide) ⟨rfl, rfl, rfl⟩ k_X1_keepEntry_f23 rfl dX1_keepEntry_29 ?_
    refine lv_iload hx hb dX1_keepEntry_32 (lv_at hl 2 rfl) ?_
    refine x_iald (t0 := 0) hx hb hK hP ht h (g_HT_3 cI a s9) dX1_keepEntry_34 (fun x11 h => ?_)
    refine x_puti (p_HT cI a) (C := RX1) (k := 2) hx hb hts u_X1_keepEntry_1 tyX1 tyX1_ok nmX1 hown hK hP hD hS h (g_HT_0 cI a s9) rfl (by decide) ⟨rfl, rfl, rfl⟩ k_X1_keepEntry_f28 rfl rfl rfl rfl (Nat.le_of_ble_eq_true rfl) (s_HT_0_2 cI a s9 x11) dX1_keepEntry_35 (fun H locs s12 hP hS h => ?_)
    refine lv_aload_n hx hb dX1_keepEntry_38 rfl (lv_at hl 0 rfl) ?_
    refine lv_aload_n hx hb dX1_keepEntry_39 rfl (lv_at hl 1 rfl) ?_
    refine x_getr (C := RX4) (k := 1) hx hb hts u_X1_keepEntry_4 hown hK hP (g_HT_2 cI a s12) rfl (by decide) ⟨rfl, rfl, rfl⟩ k_X1_keepEntry_f30 rfl dX1_keepEntry_40 ?_
    refine lv_iload hx hb dX1_keepEntry_43 (lv_at hl 2 rfl) ?_
    refine x_iald (t0 := 0) hx hb hK hP ht h (g_HT_4 cI a s12) dX1_keepEntry_45 (fun x13 h => ?_)
    refine x_puti (p_HT cI a) (C := RX1) (k := 3) hx hb hts u_X1_keepEntry_1 tyX1 tyX1_ok nmX1 hown hK hP hD hS h (g_HT_0 cI a s12) rfl (by decide) ⟨rfl, rfl, rfl⟩ k_X1_keepEntry_f33 rfl rfl rfl rfl (Nat.le_of_ble_eq_true rfl) (s_HT_0_3 cI a s12 x13) dX1_keepEntry_46 (fun H locs s14 hP hS h => ?_)
    refine lv_aload_n hx hb dX1_keepEntry_49 rfl (lv_at hl 0 rfl) ?_
    refine lv_aload_n hx hb dX1_keepEntry_50 rfl (lv_at hl 1 rfl) ?_
    refine x_getr (C := RX4) (k := 2) hx hb hts u_X1_keepEntry_4 hown hK hP (g_HT_2 cI a s14) rfl (by decide) ⟨rfl, rfl, rfl⟩ k_X1_keepEntry_f35 rfl dX1_keepEntry_51 ?_
    refine lv_iload hx hb dX1_keepEntry_54 (lv_at hl 2 rfl) ?_
    refine x_iald (t0 := 0) hx hb hK hP ht h (g_HT_5 cI a s14) dX1_keepEntry_56 (fun x15 h => ?_)
    refine x_puti (p_HT cI a) (C := RX1) (k := 4) hx hb hts u_X1_keepEntry_1 tyX1 tyX1_ok nmX1 hown hK hP hD hS h (g_HT_0 cI a s14) rfl (by decide) ⟨rfl, rfl, rfl⟩ k_X1_keepEntry_f38 rfl rfl rfl rfl (Nat.le_of_ble_eq_true rfl) (s_HT_0_4 cI a s14 x15) dX1_keepEntry_57 (fun H locs s16 hP hS h => ?_)
    refine lv_aload_n hx hb dX1_keepEntry_60 rfl (lv_at hl 0 rfl) ?_
    refine lv_aload_n hx hb dX1_keepEntry_61 rfl (lv_at hl 1 rfl) ?_
    refine x_getr (C := RX4) (k := 3) hx hb hts u_X1_keepEntry_4 hown hK hP (g_HT_2 cI a s16) rfl (by decide) ⟨rfl, rfl, rfl⟩ k_X1_keepEntry_f40 rfl dX1_keepEntry_62 ?_
    refine lv_iload hx hb dX1_keepEntry_65 (lv_at hl 2 rfl) ?_
    refine x_iald (t0 := 0) hx hb hK hP ht h (g_HT_6 cI a s16) dX1_keepEntry_67 (fun x17 h => ?_)
    refine x_puti (p_HT cI a) (C := RX1) (k := 5) hx hb hts u_X1_keepEntry_1 tyX1 tyX1_ok nmX1 hown hK hP hD hS h (g_HT_0 cI a s16) rfl (by decide) ⟨rfl, rfl, rfl⟩ k_X1_keepEntry_f43 rfl rfl rfl rfl (Nat.le_of_ble_eq_true rfl) (s_HT_0_5 cI a s16 x17) dX1_keepEntry_68 (fun H locs s18 hP hS h => ?_)
    exact x_vret (p_HT cI a) hx hb hr hlocks hP hS dX1_keepEntry_71 h
  unfold f_X1_keepEntry at h
  refine lv_iload_n hx hb dX1_keepEntry_0 rfl (lv_at hl 2 rfl) ?_
  refine lv_bipush (v := 10) hx hb dX1_keepEntry_1 (by decide +kernel) ?_
  refine x_imul hx hb dX1_keepEntry_3 h (fun x3 h => ?_)
  refine lv_iload_n hx hb dX1_keepEntry_4 rfl (lv_at hl 3 rfl) ?_
  refine x_iadd hx hb dX1_keepEntry_5 h (fun x4 h => ?_)
  refine lv_istore (lv' := [(4, .int x4), (0, .ref (a 0)), (1, .ref (a 2)), (2, .int x1), (3, .int x2)]) hx hb dX1_keepEntry_6 hl (by decide) rfl (fun ls hl => ?_)
  refine lv_aload_n hx hb dX1_keepEntry_8 rfl (lv_at hl 1 rfl) ?_
  refine lv_iconst (v := 1) hx hb dX1_keepEntry_9 (by decide +kernel) ?_
  refine x_puti (p_HT cI a) (C := RX1) (k := 0) hx hb hts u_X1_keepEntry_1 tyX1 tyX1_ok nmX1 hown hK hP hD hS h (g_HT_0 cI a σ) rfl (by decide) ⟨rfl, rfl, rfl⟩ k_X1_keepEntry_f15 rfl rfl rfl rfl (Nat.le_of_ble_eq_true rfl) (s_HT_0_0 cI a σ 1) dX1_keepEntry_10 (fun H locs s5 hP hS h => ?_)
  refine lv_aload_n hx hb dX1_keepEntry_13 rfl (lv_at hl 1 rfl) ?_
  refine lv_iload_n hx hb dX1_keepEntry_14 rfl (lv_at hl 3 rfl) ?_
  refine lv_iload_n hx hb dX1_keepEntry_15 rfl (lv_at hl 4 rfl) ?_
  refine lv_icmp_ne (tgt := 23) hx hb dX1_keepEntry_16 (by decide) (fun c6 => ?_) (fun c6 => ?_)
  · have h := if_f c6 h
    refine lv_iconst (v := 0) hx hb dX1_keepEntry_23 (by decide +kernel) ?_
    exact i24 s5 x4 0 _ _ _ h hP hS (lv_sub hl [1, 2, 0] rfl)
  · have h := if_t c6 h
    refine lv_iconst (v := 1) hx hb dX1_keepEntry_19 (by decide +kernel) ?_
    refine lv_goto (tgt := 24) hx hb dX1_keepEntry_20 (by decide) ?_
    exact i24 s5 x4 1 _ _ _ h hP hS (lv_sub hl [1, 2, 0] rfl)
/-! ===== VectorRounds$Holder.keepRow(I)V: world H ===== -/
theorem i_X1_keepRow : yX1_keepRow.cls = RX1 ∧ yX1_keepRow.cls ≠ "java/lang/invoke/MethodHandle" ∧ yX1_keepRow.cls ≠ "java/lang/invoke/VarHandle" ∧ (parseMethodDescriptor yX1_keepRow.desc).map (fun d => d.parameters.length) = some 1 := by decide +kernel
theorem k_X1_keepRow_f15 : Cond.fieldLink RX1 15 RX1 "sort" "I" ∈ wsX1_keepRow := by decide +kernel
theorem k_X1_keepRow_f45 : Cond.fieldLink RX1 45 RX1 "length" "I" ∈ wsX1_keepRow := by decide +kernel
theorem k_X1_keepRow_f9 : Cond.fieldLink RX1 9 RX1 "items" "[I" ∈ wsX1_keepRow := by decide +kernel
theorem u_X1_keepRow_1 : ∀ w ∈ u_ws RX1 TX1 8, w ∈ wsX1_keepRow := by decide +kernel
set_option maxHeartbeats 4000000 in
set_option maxRecDepth 100000 in
theorem c_X1_keepRow (l : Launch) (D : va_G) (cI : ClassId) (tys : List (ClassId × FieldType)) (ht : tys[0]? = some (cI, .int)) (a : Nat → Nat) (σ : qM) (x1 : Int32) : q_Mev l yX1_keepRow wsX1_keepRow ({ frames := 1, cells := 0, slots := 0, locals := 23 }) [.ref (a 0), .int x1] D tys (p_H cI a) σ (f_X1_keepRow σ x1) := by
  refine x_ofWv (cc := cX1_keepRow) (maxL := 2) (ret := none) (by decide +kernel) rfl (pf_H cI a) (Nat.le_of_ble_eq_true rfl) ?_
  intro p e s m below meth c A ls qq h hx hb hml hr hlocks hown hts hK hP hD hA hS hl
  have hown : s.vm.findClass RX1 = some m.cls := hown
  have hl : lv_has ls 2 [(0, .ref (a 0)), (1, .int x1)] := hl
  unfold f_X1_keepRow at h
  refine lv_aload_n hx hb dX1_keepRow_0 rfl (lv_at hl 0 rfl) ?_
  refine lv_iconst (v := 2) hx hb dX1_keepRow_1 (by decide +kernel) ?_
  refine x_puti (p_H cI a) (C := RX1) (k := 0) hx hb hts u_X1_keepRow_1 tyX1 tyX1_ok nmX1 hown hK hP hD hS h (g_H_0 cI a σ) rfl (by decide) ⟨rfl, rfl, rfl⟩ k_X1_keepRow_f15 rfl rfl rfl rfl (Nat.le_of_ble_eq_true rfl) (s_H_0_0 cI a σ 2) dX1_keepRow_2 (fun H locs s2 hP hS h => ?_)
  refine lv_aload_n hx hb dX1_keepRow_5 rfl (lv_at hl 0 rfl) ?_
  refine lv_iload_n hx hb dX1_keepRow_6 rfl (lv_at hl 1 rfl) ?_
  refine x_puti (p_H cI a) (C := RX1) (k := 7) hx hb hts u_X1_keepRow_1 tyX1 tyX1_ok nmX1 hown hK hP hD hS h (g_H_0 cI a s2) rfl (by decide) ⟨rfl, rfl, rfl⟩ k_X1_keepRow_f45 rfl rfl rfl rfl (Nat.le_of_ble_eq_true rfl) (s_H_0_7 cI a s2 x1) dX1_keepRow_7 (fun H locs s3 hP hS h => ?_)
  refine lv_aload_n hx hb dX1_keepRow_10 rfl (lv_at hl 0 rfl) ?_
  refine x_getr (C := RX1) (k := 6) hx hb hts u_X1_keepRow_1 hown hK hP (g_H_0 cI a s3) rfl (by decide) ⟨rfl, rfl, rfl⟩ k_X1_keepRow_f9 rfl dX1_keepRow_11 ?_
  refine lv_iconst (v := 0) hx hb dX1_keepRow_14 (by decide +kernel) ?_
  refine x_cSv (p_H cI a) (p_A cI 60 (q_sub 1 a)) (q_put 1 1 s3) [] [.ref (a 1), .int 0] hx hb hml hl.1 hown hts hK hP hD hS hA rfl (c_J7_fill_53178 l D cI tys ht 60 (q_sub 1 a) (q_sub 1 s3) 0) gX1_keepRow_J7_fill_53178 rfl ⟨rfl, rfl⟩ i_J7_fill_53178 ⟨Nat.le_of_ble_eq_true rfl, Nat.le_of_ble_eq_true rfl⟩ (fr_H_A_1 cI a s3) rfl (Nat.le_of_ble_eq_true rfl) ⟨Nat.zero_le _, Nat.zero_le _⟩ dX1_keepRow_15 h (fun H locs s4 hP hS h => ?_)
  exact x_vret (p_H cI a) hx hb hr hlocks hP hS dX1_keepRow_18 h
/-! ===== VectorRounds$Tape.add(I)I: world P ===== -/
theorem i_X5_add : yX5_add.cls = RX5 ∧ yX5_add.cls ≠ "java/lang/invoke/MethodHandle" ∧ yX5_add.cls ≠ "java/lang/invoke/VarHandle" ∧ (parseMethodDescriptor yX5_add.desc).map (fun d => d.parameters.length) = some 1 := by decide +kernel
theorem k_X5_add_f21 : Cond.fieldLink RX5 21 RX5 "length" "I" ∈ wsX5_add := by decide +kernel
theorem k_X5_add_f9 : Cond.fieldLink RX5 9 RX5 "bytes" "[I" ∈ wsX5_add := by decide +kernel
theorem u_X5_add_5 : ∀ w ∈ u_ws RX5 TX5 6, w ∈ wsX5_add := by decide +kernel
set_option maxHeartbeats 4000000 in
set_option maxRecDepth 100000 in
theorem c_X5_add (l : Launch) (D : va_G) (cI : ClassId) (tys : List (ClassId × FieldType)) (ht : tys[0]? = some (cI, .int)) (a : Nat → Nat) (σ : qM) (x1 : Int32) : q_Met l yX5_add wsX5_add ({ frames := 0, cells := 0, slots := 0, locals := 0 }) [.ref (a 0), .int x1] D tys (p_P cI a) σ (f_X5_add σ x1) := by
  refine x_ofWi (cc := cX5_add) (maxL := 2) (ret := (some .int)) (by decide +kernel) rfl (pf_P cI a) (Nat.le_of_ble_eq_true rfl) ?_
  intro p e s m below meth c A ls qq h hx hb hml hr hlocks hown hts hK hP hD hA hS hl
  have hown : s.vm.findClass RX5 = some m.cls := hown
  have hl : lv_has ls 2 [(0, .ref (a 0)), (1, .int x1)] := hl
  unfold f_X5_add at h
  refine lv_aload_n hx hb dX5_add_0 rfl (lv_at hl 0 rfl) ?_
  refine x_getr (C := RX5) (k := 0) hx hb hts u_X5_add_5 hown hK hP (g_P_0 cI a σ) rfl (by decide) ⟨rfl, rfl, rfl⟩ k_X5_add_f9 rfl dX5_add_1 ?_
  refine lv_aload_n hx hb dX5_add_4 rfl (lv_at hl 0 rfl) ?_
  refine x_geti (C := RX5) (k := 1) hx hb hts u_X5_add_5 hown hK hP (g_P_0 cI a σ) rfl (by decide) ⟨rfl, rfl, rfl⟩ k_X5_add_f21 rfl dX5_add_5 h (fun x2 h => ?_)
  refine lv_iload_n hx hb dX5_add_8 rfl (lv_at hl 1 rfl) ?_
  refine x_iast (p_P cI a) (t0 := 0) hx hb hK hP hD hS ht h (g_P_1 cI a σ) (fun j9 v9 => (s_P_1 cI a σ _)) dX5_add_9 (fun H locs s3 hP hS h => ?_)
  refine lv_aload_n hx hb dX5_add_10 rfl (lv_at hl 0 rfl) ?_
  refine lv_dup hx hb dX5_add_11 rfl ?_
  refine x_geti (C := RX5) (k := 1) hx hb hts u_X5_add_5 hown hK hP (g_P_0 cI a s3) rfl (by decide) ⟨rfl, rfl, rfl⟩ k_X5_add_f21 rfl dX5_add_12 h (fun x4 h => ?_)
  refine lv_iconst (v := 1) hx hb dX5_add_15 (by decide +kernel) ?_
  refine x_iadd hx hb dX5_add_16 h (fun x5 h => ?_)
  refine x_puti (p_P cI a) (C := RX5) (k := 1) hx hb hts u_X5_add_5 tyX5 tyX5_ok nmX5 hown hK hP hD hS h (g_P_0 cI a s3) rfl (by decide) ⟨rfl, rfl, rfl⟩ k_X5_add_f21 rfl rfl rfl rfl (Nat.le_of_ble_eq_true rfl) (s_P_0_1 cI a s3 x5) dX5_add_17 (fun H locs s6 hP hS h => ?_)
  refine lv_aload_n hx hb dX5_add_20 rfl (lv_at hl 0 rfl) ?_
  refine x_geti (C := RX5) (k := 1) hx hb hts u_X5_add_5 hown hK hP (g_P_0 cI a s6) rfl (by decide) ⟨rfl, rfl, rfl⟩ k_X5_add_f21 rfl dX5_add_21 h (fun x7 h => ?_)
  exact x_iret (p_P cI a) hx hb hr hlocks hP hS dX5_add_24 h
/-! ===== VectorRounds$Tape.isDigit()Z: world P ===== -/
theorem i_X5_isDigit : yX5_isDigit.cls = RX5 ∧ yX5_isDigit.cls ≠ "java/lang/invoke/MethodHandle" ∧ yX5_isDigit.cls ≠ "java/lang/invoke/VarHandle" ∧ (parseMethodDescriptor yX5_isDigit.desc).map (fun d => d.parameters.length) = some 0 := by decide +kernel
theorem k_X5_isDigit_f21 : Cond.fieldLink RX5 21 RX5 "length" "I" ∈ wsX5_isDigit := by decide +kernel
theorem k_X5_isDigit_f28 : Cond.fieldLink RX5 28 RX5 "at" "I" ∈ wsX5_isDigit := by decide +kernel
theorem k_X5_isDigit_f9 : Cond.fieldLink RX5 9 RX5 "bytes" "[I" ∈ wsX5_isDigit := by decide +kernel
theorem u_X5_isDigit_5 : ∀ w ∈ u_ws RX5 TX5 6, w ∈ wsX5_isDigit := by decide +kernel
set_option maxHeartbeats 4000000 in
set_option maxRecDepth 100000 in
theorem c_X5_isDigit (l : Launch) (D : va_G) (cI : ClassId) (tys : List (ClassId × FieldType)) (ht : tys[0]? = some (cI, .int)) (a : Nat → Nat) (σ : qM) : q_Met l yX5_isDigit wsX5_isDigit ({ frames := 0, cells := 0, slots := 0, locals := 0 }) [.ref (a 0)] D tys (p_P cI a) σ (f_X5_isDigit σ) := by
  refine x_ofWi (cc := cX5_isDigit) (maxL := 1) (ret := (some .boolean)) (by decide +kernel) rfl (pf_P cI a) (Nat.le_of_ble_eq_true rfl) ?_
  intro p e s m below meth c A ls qq h hx hb hml hr hlocks hown hts hK hP hD hA hS hl
  have hown : s.vm.findClass RX5 = some m.cls := hown
  have hl : lv_has ls 1 [(0, .ref (a 0))] := hl
  unfold f_X5_isDigit at h
  refine lv_aload_n hx hb dX5_isDigit_0 rfl (lv_at hl 0 rfl) ?_
  refine x_geti (C := RX5) (k := 5) hx hb hts u_X5_isDigit_5 hown hK hP (g_P_0 cI a σ) rfl (by decide) ⟨rfl, rfl, rfl⟩ k_X5_isDigit_f28 rfl dX5_isDigit_1 h (fun x1 h => ?_)
  refine lv_aload_n hx hb dX5_isDigit_4 rfl (lv_at hl 0 rfl) ?_
  refine x_geti (C := RX5) (k := 1) hx hb hts u_X5_isDigit_5 hown hK hP (g_P_0 cI a σ) rfl (by decide) ⟨rfl, rfl, rfl⟩ k_X5_isDigit_f21 rfl dX5_isDigit_5 h (fun x2 h => ?_)
  refine lv_icmp_ge (tgt := 43) hx hb dX5_isDigit_8 (by decide) (fun c3 => ?_) (fun c3 => ?_)
  · have h := if_t c3 h
    refine lv_iconst (v := 0) hx hb dX5_isDigit_43 (by decide +kernel) ?_
    exact x_zret (p_P cI a) hx hb hr hlocks hP hS dX5_isDigit_44 h
  · have h := if_f c3 h
    refine lv_aload_n hx hb dX5_isDigit_11 rfl (lv_at hl 0 rfl) ?_
    refine x_getr (C := RX5) (k := 0) hx hb hts u_X5_isDigit_5 hown hK hP (g_P_0 cI a σ) rfl (by decide) ⟨rfl, rfl, rfl⟩ k_X5_isDigit_f9 rfl dX5_isDigit_12 ?_
    refine lv_aload_n hx hb dX5_isDigit_15 rfl (lv_at hl 0 rfl) ?_
    refine x_geti (C := RX5) (k := 5) hx hb hts u_X5_isDigit_5 hown hK hP (g_P_0 cI a σ) rfl (by decide) ⟨rfl, rfl, rfl⟩ k_X5_isDigit_f28 rfl dX5_isDigit_16 h (fun x4 h => ?_)
    refine x_iald (t0 := 0) hx hb hK hP ht h (g_P_1 cI a σ) dX5_isDigit_19 (fun x5 h => ?_)
    refine lv_bipush (v := 48) hx hb dX5_isDigit_20 (by decide +kernel) ?_
    refine lv_icmp_lt (tgt := 43) hx hb dX5_isDigit_22 (by decide) (fun c6 => ?_) (fun c6 => ?_)
    · have h := if_t c6 h
      refine lv_iconst (v := 0) hx hb dX5_isDigit_43 (by decide +kernel) ?_
      exact x_zret (p_P cI a) hx hb hr hlocks hP hS dX5_isDigit_44 h
    · have h := if_f c6 h
      refine lv_aload_n hx hb dX5_isDigit_25 rfl (lv_at hl 0 rfl) ?_
      refine x_getr (C := RX5) (k := 0) hx hb hts u_X5_isDigit_5 hown hK hP (g_P_0 cI a σ) rfl (by decide) ⟨rfl, rfl, rfl⟩ k_X5_isDigit_f9 rfl dX5_isDigit_26 ?_
      refine lv_aload_n hx hb dX5_isDigit_29 rfl (lv_at hl 0 rfl) ?_
      refine x_geti (C := RX5) (k := 5) hx hb hts u_X5_isDigit_5 hown hK hP (g_P_0 cI a σ) rfl (by decide) ⟨rfl, rfl, rfl⟩ k_X5_isDigit_f28 rfl dX5_isDigit_30 h (fun x7 h => ?_)
      refine x_iald (t0 := 0) hx hb hK hP ht h (g_P_1 cI a σ) dX5_isDigit_33 (fun x8 h => ?_)
      refine lv_bipush (v := 57) hx hb dX5_isDigit_34 (by decide +kernel) ?_
      refine lv_icmp_gt (tgt := 43) hx hb dX5_isDigit_36 (by decide) (fun c9 => ?_) (fun c9 => ?_)
      · have h := if_t c9 h
        refine lv_iconst (v := 0) hx hb dX5_isDigit_43 (by decide +kernel) ?_
        exact x_zret (p_P cI a) hx hb hr hlocks hP hS dX5_isDigit_44 h
      · have h := if_f c9 h
        refine lv_iconst (v := 1) hx hb dX5_isDigit_39 (by decide +kernel) ?_
        refine lv_goto (tgt := 44) hx hb dX5_isDigit_40 (by decide) ?_
        exact x_zret (p_P cI a) hx hb hr hlocks hP hS dX5_isDigit_44 h
/-! ===== VectorRounds$Tape.howManyNumbers(I)I: world E ===== -/
theorem i_X5_howManyNumbers : yX5_howManyNumbers.cls ≠ "java/lang/invoke/MethodHandle" ∧ yX5_howManyNumbers.cls ≠ "java/lang/invoke/VarHandle" ∧ (parseMethodDescriptor yX5_howManyNumbers.desc).map (fun d => d.parameters.length) = some 1 := by decide +kernel
set_option maxHeartbeats 4000000 in
set_option maxRecDepth 100000 in
theorem c_X5_howManyNumbers (l : Launch) (D : va_G) (cI : ClassId) (tys : List (ClassId × FieldType)) (ht : tys[0]? = some (cI, .int)) (σ : qM) (x1 : Int32) : q_Met l yX5_howManyNumbers wsX5_howManyNumbers ({ frames := 0, cells := 0, slots := 0, locals := 0 }) [.int x1] D tys (fun _ => []) σ (f_X5_howManyNumbers σ x1) := by
  refine x_ofWi (cc := cX5_howManyNumbers) (maxL := 1) (ret := (some .int)) (by decide +kernel) rfl (fun _ _ => rfl) (Nat.le_of_ble_eq_true rfl) ?_
  intro p e s m below meth c A ls qq h hx hb hml hr hlocks hown hts hK hP hD hA hS hl
  have hown : s.vm.findClass RX5 = some m.cls := hown
  have hl : lv_has ls 1 [(0, .int x1)] := hl
  unfold f_X5_howManyNumbers at h
  refine lv_iload_n hx hb dX5_howManyNumbers_0 rfl (lv_at hl 0 rfl) ?_
  by_cases c2 : x1 = 99
  · have h := if_t c2 h
    refine x_tsw_in (v := 99) (off := 101) (tgt := 102) hx hb dX5_howManyNumbers_1 c2 (by decide +kernel) ?_
    refine lv_iconst (v := 1) hx hb dX5_howManyNumbers_102 (by decide +kernel) ?_
    exact x_iret (fun _ => []) hx hb hr hlocks hP hS dX5_howManyNumbers_103 h
  have h := if_f c2 h
  by_cases c3 : x1 = 100
  · have h := if_t c3 h
    refine x_tsw_in (v := 100) (off := 101) (tgt := 102) hx hb dX5_howManyNumbers_1 c3 (by decide +kernel) ?_
    refine lv_iconst (v := 1) hx hb dX5_howManyNumbers_102 (by decide +kernel) ?_
    exact x_iret (fun _ => []) hx hb hr hlocks hP hS dX5_howManyNumbers_103 h
  have h := if_f c3 h
  by_cases c4 : x1 = 101
  · have h := if_t c4 h
    refine x_tsw_in (v := 101) (off := 107) (tgt := 108) hx hb dX5_howManyNumbers_1 c4 (by decide +kernel) ?_
    refine lv_iconst (v := (-1)) hx hb dX5_howManyNumbers_108 (by decide +kernel) ?_
    exact x_iret (fun _ => []) hx hb hr hlocks hP hS dX5_howManyNumbers_109 h
  have h := if_f c4 h
  by_cases c5 : x1 = 102
  · have h := if_t c5 h
    refine x_tsw_in (v := 102) (off := 107) (tgt := 108) hx hb dX5_howManyNumbers_1 c5 (by decide +kernel) ?_
    refine lv_iconst (v := (-1)) hx hb dX5_howManyNumbers_108 (by decide +kernel) ?_
    exact x_iret (fun _ => []) hx hb hr hlocks hP hS dX5_howManyNumbers_109 h
  have h := if_f c5 h
  by_cases c6 : x1 = 103
  · have h := if_t c6 h
    refine x_tsw_in (v := 103) (off := 107) (tgt := 108) hx hb dX5_howManyNumbers_1 c6 (by decide +kernel) ?_
    refine lv_iconst (v := (-1)) hx hb dX5_howManyNumbers_108 (by decide +kernel) ?_
    exact x_iret (fun _ => []) hx hb hr hlocks hP hS dX5_howManyNumbers_109 h
  have h := if_f c6 h
  by_cases c7 : x1 = 104
  · have h := if_t c7 h
    refine x_tsw_in (v := 104) (off := 101) (tgt := 102) hx hb dX5_howManyNumbers_1 c7 (by decide +kernel) ?_
    refine lv_iconst (v := 1) hx hb dX5_howManyNumbers_102 (by decide +kernel) ?_
    exact x_iret (fun _ => []) hx hb hr hlocks hP hS dX5_howManyNumbers_103 h
  have h := if_f c7 h
  by_cases c8 : x1 = 105
  · have h := if_t c8 h
    refine x_tsw_in (v := 105) (off := 107) (tgt := 108) hx hb dX5_howManyNumbers_1 c8 (by decide +kernel) ?_
    refine lv_iconst (v := (-1)) hx hb dX5_howManyNumbers_108 (by decide +kernel) ?_
    exact x_iret (fun _ => []) hx hb hr hlocks hP hS dX5_howManyNumbers_109 h
  have h := if_f c8 h
  by_cases c9 : x1 = 106
  · have h := if_t c9 h
    refine x_tsw_in (v := 106) (off := 107) (tgt := 108) hx hb dX5_howManyNumbers_1 c9 (by decide +kernel) ?_
    refine lv_iconst (v := (-1)) hx hb dX5_howManyNumbers_108 (by decide +kernel) ?_
    exact x_iret (fun _ => []) hx hb hr hlocks hP hS dX5_howManyNumbers_109 h
  have h := if_f c9 h
  by_cases c10 : x1 = 107
  · have h := if_t c10 h
    refine x_tsw_in (v := 107) (off := 107) (tgt := 108) hx hb dX5_howManyNumbers_1 c10 (by decide +kernel) ?_
    refine lv_iconst (v := (-1)) hx hb dX5_howManyNumbers_108 (by decide +kernel) ?_
    exact x_iret (fun _ => []) hx hb hr hlocks hP hS dX5_howManyNumbers_109 h
  have h := if_f c10 h
  by_cases c11 : x1 = 108
  · have h := if_t c11 h
    refine x_tsw_in (v := 108) (off := 105) (tgt := 106) hx hb dX5_howManyNumbers_1 c11 (by decide +kernel) ?_
    refine lv_iconst (v := 3) hx hb dX5_howManyNumbers_106 (by decide +kernel) ?_
    exact x_iret (fun _ => []) hx hb hr hlocks hP hS dX5_howManyNumbers_107 h
  have h := if_f c11 h
  by_cases c12 : x1 = 109
  · have h := if_t c12 h
    refine x_tsw_in (v := 109) (off := 107) (tgt := 108) hx hb dX5_howManyNumbers_1 c12 (by decide +kernel) ?_
    refine lv_iconst (v := (-1)) hx hb dX5_howManyNumbers_108 (by decide +kernel) ?_
    exact x_iret (fun _ => []) hx hb hr hlocks hP hS dX5_howManyNumbers_109 h
  have h := if_f c12 h
  by_cases c13 : x1 = 110
  · have h := if_t c13 h
    refine x_tsw_in (v := 110) (off := 99) (tgt := 100) hx hb dX5_howManyNumbers_1 c13 (by decide +kernel) ?_
    refine lv_iconst (v := 0) hx hb dX5_howManyNumbers_100 (by decide +kernel) ?_
    exact x_iret (fun _ => []) hx hb hr hlocks hP hS dX5_howManyNumbers_101 h
  have h := if_f c13 h
  by_cases c14 : x1 = 111
  · have h := if_t c14 h
    refine x_tsw_in (v := 111) (off := 107) (tgt := 108) hx hb dX5_howManyNumbers_1 c14 (by decide +kernel) ?_
    refine lv_iconst (v := (-1)) hx hb dX5_howManyNumbers_108 (by decide +kernel) ?_
    exact x_iret (fun _ => []) hx hb hr hlocks hP hS dX5_howManyNumbers_109 h
  have h := if_f c14 h
  by_cases c15 : x1 = 112
  · have h := if_t c15 h
    refine x_tsw_in (v := 112) (off := 107) (tgt := 108) hx hb dX5_howManyNumbers_1 c15 (by decide +kernel) ?_
    refine lv_iconst (v := (-1)) hx hb dX5_howManyNumbers_108 (by decide +kernel) ?_
    exact x_iret (fun _ => []) hx hb hr hlocks hP hS dX5_howManyNumbers_109 h
  have h := if_f c15 h
  by_cases c16 : x1 = 113
  · have h := if_t c16 h
    refine x_tsw_in (v := 113) (off := 101) (tgt := 102) hx hb dX5_howManyNumbers_1 c16 (by decide +kernel) ?_
    refine lv_iconst (v := 1) hx hb dX5_howManyNumbers_102 (by decide +kernel) ?_
    exact x_iret (fun _ => []) hx hb hr hlocks hP hS dX5_howManyNumbers_103 h
  have h := if_f c16 h
  by_cases c17 : x1 = 114
  · have h := if_t c17 h
    refine x_tsw_in (v := 114) (off := 101) (tgt := 102) hx hb dX5_howManyNumbers_1 c17 (by decide +kernel) ?_
    refine lv_iconst (v := 1) hx hb dX5_howManyNumbers_102 (by decide +kernel) ?_
    exact x_iret (fun _ => []) hx hb hr hlocks hP hS dX5_howManyNumbers_103 h
  have h := if_f c17 h
  by_cases c18 : x1 = 115
  · have h := if_t c18 h
    refine x_tsw_in (v := 115) (off := 107) (tgt := 108) hx hb dX5_howManyNumbers_1 c18 (by decide +kernel) ?_
    refine lv_iconst (v := (-1)) hx hb dX5_howManyNumbers_108 (by decide +kernel) ?_
    exact x_iret (fun _ => []) hx hb hr hlocks hP hS dX5_howManyNumbers_109 h
  have h := if_f c18 h
  by_cases c19 : x1 = 116
  · have h := if_t c19 h
    refine x_tsw_in (v := 116) (off := 107) (tgt := 108) hx hb dX5_howManyNumbers_1 c19 (by decide +kernel) ?_
    refine lv_iconst (v := (-1)) hx hb dX5_howManyNumbers_108 (by decide +kernel) ?_
    exact x_iret (fun _ => []) hx hb hr hlocks hP hS dX5_howManyNumbers_109 h
  have h := if_f c19 h
  by_cases c20 : x1 = 117
  · have h := if_t c20 h
    refine x_tsw_in (v := 117) (off := 101) (tgt := 102) hx hb dX5_howManyNumbers_1 c20 (by decide +kernel) ?_
    refine lv_iconst (v := 1) hx hb dX5_howManyNumbers_102 (by decide +kernel) ?_
    exact x_iret (fun _ => []) hx hb hr hlocks hP hS dX5_howManyNumbers_103 h
  have h := if_f c20 h
  by_cases c21 : x1 = 118
  · have h := if_t c21 h
    refine x_tsw_in (v := 118) (off := 107) (tgt := 108) hx hb dX5_howManyNumbers_1 c21 (by decide +kernel) ?_
    refine lv_iconst (v := (-1)) hx hb dX5_howManyNumbers_108 (by decide +kernel) ?_
    exact x_iret (fun _ => []) hx hb hr hlocks hP hS dX5_howManyNumbers_109 h
  have h := if_f c21 h
  by_cases c22 : x1 = 119
  · have h := if_t c22 h
    refine x_tsw_in (v := 119) (off := 103) (tgt := 104) hx hb dX5_howManyNumbers_1 c22 (by decide +kernel) ?_
    refine lv_iconst (v := 2) hx hb dX5_howManyNumbers_104 (by decide +kernel) ?_
    exact x_iret (fun _ => []) hx hb hr hlocks hP hS dX5_howManyNumbers_105 h
  have h := if_f c22 h
  refine x_tsw_out (tgt := 108) hx hb dX5_howManyNumbers_1 21 (by decide) (fun k9 hk9 => ?_) (by decide) ?_
  · rcases (show k9 = 0 ∨ k9 = 1 ∨ k9 = 2 ∨ k9 = 3 ∨ k9 = 4 ∨ k9 = 5 ∨ k9 = 6 ∨ k9 = 7 ∨ k9 = 8 ∨ k9 = 9 ∨ k9 = 10 ∨ k9 = 11 ∨ k9 = 12 ∨ k9 = 13 ∨ k9 = 14 ∨ k9 = 15 ∨ k9 = 16 ∨ k9 = 17 ∨ k9 = 18 ∨ k9 = 19 ∨ k9 = 20 by omega) with rfl | rfl | rfl | rfl | rfl | rfl | rfl | rfl | rfl | rfl | rfl | rfl | rfl | rfl | rfl | rfl | rfl | rfl | rfl | rfl | rfl
    · exact fun h9 => c2 (h9.trans (by decide +kernel))
    · exact fun h9 => c3 (h9.trans (by decide +kernel))
    · exact fun h9 => c4 (h9.trans (by decide +kernel))
    · exact fun h9 => c5 (h9.trans (by decide +kernel))
    · exact fun h9 => c6 (h9.trans (by decide +kernel))
    · exact fun h9 => c7 (h9.trans (by decide +kernel))
    · exact fun h9 => c8 (h9.trans (by decide +kernel))
    · exact fun h9 => c9 (h9.trans (by decide +kernel))
    · exact fun h9 => c10 (h9.trans (by decide +kernel))
    · exact fun h9 => c11 (h9.trans (by decide +kernel))
    · exact fun h9 => c12 (h9.trans (by decide +kernel))
    · exact fun h9 => c13 (h9.trans (by decide +kernel))
    · exact fun h9 => c14 (h9.trans (by decide +kernel))
    · exact fun h9 => c15 (h9.trans (by decide +kernel))
    · exact fun h9 => c16 (h9.trans (by decide +kernel))
    · exact fun h9 => c17 (h9.trans (by decide +kernel))
    · exact fun h9 => c18 (h9.trans (by decide +kernel))
    · exact fun h9 => c19 (h9.trans (by decide +kernel))
    · exact fun h9 => c20 (h9.trans (by decide +kernel))
    · exact fun h9 => c21 (h9.trans (by decide +kernel))
    · exact fun h9 => c22 (h9.trans (by decide +kernel))
  refine lv_iconst (v := (-1)) hx hb dX5_howManyNumbers_108 (by decide +kernel) ?_
  exact x_iret (fun _ => []) hx hb hr hlocks hP hS dX5_howManyNumbers_109 h
/-! ===== VectorRounds$Tape.readNumber(I)Z: world P ===== -/
theorem i_X5_readNumber : yX5_readNumber.cls = RX5 ∧ yX5_readNumber.cls ≠ "java/lang/invoke/MethodHandle" ∧ yX5_readNumber.cls ≠ "java/lang/invoke/VarHandle" ∧ (parseMethodDescriptor yX5_readNumber.desc).map (fun d => d.parameters.length) = some 1 := by decide +kernel
theorem k_X5_readNumber_f18 : Cond.fieldLink RX5 18 RX5 "numbers" "[I" ∈ wsX5_readNumber := by decide +kernel
theorem k_X5_readNumber_f21 : Cond.fieldLink RX5 21 RX5 "length" "I" ∈ wsX5_readNumber := by decide +kernel
theorem k_X5_readNumber_f28 : Cond.fieldLink RX5 28 RX5 "at" "I" ∈ wsX5_readNumber := by decide +kernel
theorem k_X5_readNumber_f9 : Cond.fieldLink RX5 9 RX5 "bytes" "[I" ∈ wsX5_readNumber := by decide +kernel
theorem u_X5_readNumber_5 : ∀ w ∈ u_ws RX5 TX5 6, w ∈ wsX5_readNumber := by decide +kernel
set_option maxHeartbeats 4000000 in
set_option maxRecDepth 100000 in
theorem c_X5_readNumber (l : Launch) (D : va_G) (cI : ClassId) (tys : List (ClassId × FieldType)) (ht : tys[0]? = some (cI, .int)) (a : Nat → Nat) (σ : qM) (x1 : Int32) : q_Met l yX5_readNumber wsX5_readNumber ({ frames := 1, cells := 0, slots := 0, locals := 20 }) [.ref (a 0), .int x1] D tys (p_P cI a) σ (f_X5_readNumber σ x1) := by
  refine x_ofWi (cc := cX5_readNumber) (maxL := 2) (ret := (some .boolean)) (by decide +kernel) rfl (pf_P cI a) (Nat.le_of_ble_eq_true rfl) ?_
  intro p e s m below meth c A ls qq h hx hb hml hr hlocks hown hts hK hP hD hA hS hl
  have hown : s.vm.findClass RX5 = some m.cls := hown
  have hl : lv_has ls 2 [(0, .ref (a 0)), (1, .int x1)] := hl
  unfold f_X5_readNumber at h
  refine lv_aload_n hx hb dX5_readNumber_0 rfl (lv_at hl 0 rfl) ?_
  refine x_geti (C := RX5) (k := 5) hx hb hts u_X5_readNumber_5 hown hK hP (g_P_0 cI a σ) rfl (by decide) ⟨rfl, rfl, rfl⟩ k_X5_readNumber_f28 rfl dX5_readNumber_1 h (fun x2 h => ?_)
  refine lv_aload_n hx hb dX5_readNumber_4 rfl (lv_at hl 0 rfl) ?_
  refine x_geti (C := RX5) (k := 1) hx hb hts u_X5_readNumber_5 hown hK hP (g_P_0 cI a σ) rfl (by decide) ⟨rfl, rfl, rfl⟩ k_X5_readNumber_f21 rfl dX5_readNumber_5 h (fun x3 h => ?_)
  refine lv_icmp_ge (tgt := 25) hx hb dX5_readNumber_8 (by decide) (fun c4 => ?_) (fun c4 => ?_)
  · have h := if_t c4 h
    refine lv_iconst (v := 0) hx hb dX5_readNumber_25 (by decide +kernel) ?_
    exact x_zret (p_P cI a) hx hb hr hlocks hP hS dX5_readNumber_26 h
  · have h := if_f c4 h
    refine lv_aload_n hx hb dX5_readNumber_11 rfl (lv_at hl 0 rfl) ?_
    refine x_getr (C := RX5) (k := 0) hx hb hts u_X5_readNumber_5 hown hK hP (g_P_0 cI a σ) rfl (by decide) ⟨rfl, rfl, rfl⟩ k_X5_readNumber_f9 rfl dX5_readNumber_12 ?_
    refine lv_aload_n hx hb dX5_readNumber_15 rfl (lv_at hl 0 rfl) ?_
    refine x_geti (C := RX5) (k := 5) hx hb hts u_X5_readNumber_5 hown hK hP (g_P_0 cI a σ) rfl (by decide) ⟨rfl, rfl, rfl⟩ k_X5_readNumber_f28 rfl dX5_readNumber_16 h (fun x5 h => ?_)
    refine x_iald (t0 := 0) hx hb hK hP ht h (g_P_1 cI a σ) dX5_readNumber_19 (fun x6 h => ?_)
    refine lv_bipush (v := 32) hx hb dX5_readNumber_20 (by decide +kernel) ?_
    refine lv_icmp_eq (tgt := 27) hx hb dX5_readNumber_22 (by decide) (fun c7 => ?_) (fun c7 => ?_)
    · have h := if_t c7 h
      refine lv_aload_n hx hb dX5_readNumber_27 rfl (lv_at hl 0 rfl) ?_
      refine lv_dup hx hb dX5_readNumber_28 rfl ?_
      refine x_geti (C := RX5) (k := 5) hx hb hts u_X5_readNumber_5 hown hK hP (g_P_0 cI a σ) rfl (by decide) ⟨rfl, rfl, rfl⟩ k_X5_readNumber_f28 rfl dX5_readNumber_29 h (fun x8 h => ?_)
      refine lv_iconst (v := 1) hx hb dX5_readNumber_32 (by decide +kernel) ?_
      refine x_iadd hx hb dX5_readNumber_33 h (fun x9 h => ?_)
      refine x_puti (p_P cI a) (C := RX5) (k := 5) hx hb hts u_X5_readNumber_5 tyX5 tyX5_ok nmX5 hown hK hP hD hS h (g_P_0 cI a σ) rfl (by decide) ⟨rfl, rfl, rfl⟩ k_X5_readNumber_f28 rfl rfl rfl rfl (Nat.le_of_ble_eq_true rfl) (s_P_0_5 cI a σ x9) dX5_readNumber_34 (fun H locs s10 hP hS h => ?_)
      refine lv_aload_n hx hb dX5_readNumber_37 rfl (lv_at hl 0 rfl) ?_
      refine x_cVi (p_P cI a) (p_P cI a) (fun τ => τ) [] [] hx hb hml hl.1 hown hts hK hP hD hS hA rfl (c_X5_isDigit l D cI tys ht a s10) gX5_readNumber_X5_isDigit rfl ⟨rfl, rfl⟩ i_X5_isDigit ⟨Nat.le_of_ble_eq_true rfl, Nat.le_of_ble_eq_true rfl⟩ q_frI (g_P_0 cI a s10) rfl rfl (Nat.le_of_ble_eq_true rfl) ⟨Nat.zero_le _, Nat.zero_le _⟩ dX5_readNumber_38 h (fun x12 H locs s11 hP hS h => ?_)
      refine lv_if_ne (tgt := 46) hx hb dX5_readNumber_41 (by decide) (fun c13 => ?_) (fun c13 => ?_)
      · have h := if_f c13 h
        refine lv_aload_n hx hb dX5_readNumber_46 rfl (lv_at hl 0 rfl) ?_
        refine x_getr (C := RX5) (k := 3) hx hb hts u_X5_readNumber_5 hown hK hP (g_P_0 cI a s11) rfl (by decide) ⟨rfl, rfl, rfl⟩ k_X5_readNumber_f18 rfl dX5_readNumber_47 ?_
        refine lv_iload_n hx hb dX5_readNumber_50 rfl (lv_at hl 1 rfl) ?_
        refine lv_aload_n hx hb dX5_readNumber_51 rfl (lv_at hl 0 rfl) ?_
        refine x_getr (C := RX5) (k := 0) hx hb hts u_X5_readNumber_5 hown hK hP (g_P_0 cI a s11) rfl (by decide) ⟨rfl, rfl, rfl⟩ k_X5_readNumber_f9 rfl dX5_readNumber_52 ?_
        refine lv_aload_n hx hb dX5_readNumber_55 rfl (lv_at hl 0 rfl) ?_
        refine x_geti (C := RX5) (k := 5) hx hb hts u_X5_readNumber_5 hown hK hP (g_P_0 cI a s11) rfl (by decide) ⟨rfl, rfl, rfl⟩ k_X5_readNumber_f28 rfl dX5_readNumber_56 h (fun x14 h => ?_)
        refine x_iald (t0 := 0) hx hb hK hP ht h (g_P_1 cI a s11) dX5_readNumber_59 (fun x15 h => ?_)
        refine lv_bipush (v := 48) hx hb dX5_readNumber_60 (by decide +kernel) ?_
        refine x_isub hx hb dX5_readNumber_62 h (fun x16 h => ?_)
        refine x_iast (p_P cI a) (t0 := 0) hx hb hK hP hD hS ht h (g_P_3 cI a s11) (fun j9 v9 => (s_P_3 cI a s11 _)) dX5_readNumber_63 (fun H locs s17 hP hS h => ?_)
        refine lv_aload_n hx hb dX5_readNumber_64 rfl (lv_at hl 0 rfl) ?_
        refine lv_dup hx hb dX5_readNumber_65 rfl ?_
        refine x_geti (C := RX5) (k := 5) hx hb hts u_X5_readNumber_5 hown hK hP (g_P_0 cI a s17) rfl (by decide) ⟨rfl, rfl, rfl⟩ k_X5_readNumber_f28 rfl dX5_readNumber_66 h (fun x18 h => ?_)
        refine lv_iconst (v := 1) hx hb dX5_readNumber_69 (by decide +kernel) ?_
        refine x_iadd hx hb dX5_readNumber_70 h (fun x19 h => ?_)
        refine x_puti (p_P cI a) (C := RX5) (k := 5) hx hb hts u_X5_readNumber_5 tyX5 tyX5_ok nmX5 hown hK hP hD hS h (g_P_0 cI a s17) rfl (by decide) ⟨rfl, rfl, rfl⟩ k_X5_readNumber_f28 rfl rfl rfl rfl (Nat.le_of_ble_eq_true rfl) (s_P_0_5 cI a s17 x19) dX5_readNumber_71 (fun H locs s20 hP hS h => ?_)
        refine lv_aload_n hx hb dX5_readNumber_74 rfl (lv_at hl 0 rfl) ?_
        refine x_cVi (p_P cI a) (p_P cI a) (fun τ => τ) [] [] hx hb hml hl.1 hown hts hK hP hD hS hA rfl (c_X5_isDigit l D cI tys ht a s20) gX5_readNumber_X5_isDigit rfl ⟨rfl, rfl⟩ i_X5_isDigit ⟨Nat.le_of_ble_eq_true rfl, Nat.le_of_ble_eq_true rfl⟩ q_frI (g_P_0 cI a s20) rfl rfl (Nat.le_of_ble_eq_true rfl) ⟨Nat.zero_le _, Nat.zero_le _⟩ dX5_readNumber_75 h (fun x22 H locs s21 hP hS h => ?_)
        refine lv_if_eq (tgt := 119) hx hb dX5_readNumber_78 (by decide) (fun c23 => ?_) (fun c23 => ?_)
        · have h := if_t c23 h
          refine lv_iconst (v := 1) hx hb dX5_readNumber_119 (by decide +kernel) ?_
          exact x_zret (p_P cI a) hx hb hr hlocks hP hS dX5_readNumber_120 h
        · have h := if_f c23 h
          refine lv_aload_n hx hb dX5_readNumber_81 rfl (lv_at hl 0 rfl) ?_
          refine x_getr (C := RX5) (k := 3) hx hb hts u_X5_readNumber_5 hown hK hP (g_P_0 cI a s21) rfl (by decide) ⟨rfl, rfl, rfl⟩ k_X5_readNumber_f18 rfl dX5_readNumber_82 ?_
          refine lv_iload_n hx hb dX5_readNumber_85 rfl (lv_at hl 1 rfl) ?_
          refine lv_aload_n hx hb dX5_readNumber_86 rfl (lv_at hl 0 rfl) ?_
          refine x_getr (C := RX5) (k := 3) hx hb hts u_X5_readNumber_5 hown hK hP (g_P_0 cI a s21) rfl (by decide) ⟨rfl, rfl, rfl⟩ k_X5_readNumber_f18 rfl dX5_readNumber_87 ?_
          refine lv_iload_n hx hb dX5_readNumber_90 rfl (lv_at hl 1 rfl) ?_
          refine x_iald (t0 := 0) hx hb hK hP ht h (g_P_3 cI a s21) dX5_readNumber_91 (fun x24 h => ?_)
          refine lv_bipush (v := 10) hx hb dX5_readNumber_92 (by decide +kernel) ?_
          refine x_imul hx hb dX5_readNumber_94 h (fun x25 h => ?_)
          refine lv_aload_n hx hb dX5_readNumber_95 rfl (lv_at hl 0 rfl) ?_
          refine x_getr (C := RX5) (k := 0) hx hb hts u_X5_readNumber_5 hown hK hP (g_P_0 cI a s21) rfl (by decide) ⟨rfl, rfl, rfl⟩ k_X5_readNumber_f9 rfl dX5_readNumber_96 ?_
          refine lv_aload_n hx hb dX5_readNumber_99 rfl (lv_at hl 0 rfl) ?_
          refine x_geti (C := RX5) (k := 5) hx hb hts u_X5_readNumber_5 hown hK hP (g_P_0 cI a s21) rfl (by decide) ⟨rfl, rfl, rfl⟩ k_X5_readNumber_f28 rfl dX5_readNumber_100 h (fun x26 h => ?_)
          refine x_iald (t0 := 0) hx hb hK hP ht h (g_P_1 cI a s21) dX5_readNumber_103 (fun x27 h => ?_)
          refine x_iadd hx hb dX5_readNumber_104 h (fun x28 h => ?_)
          refine lv_bipush (v := 48) hx hb dX5_readNumber_105 (by decide +kernel) ?_
          refine x_isub hx hb dX5_readNumber_107 h (fun x29 h => ?_)
          refine x_iast (p_P cI a) (t0 := 0) hx hb hK hP hD hS ht h (g_P_3 cI a s21) (fun j9 v9 => (s_P_3 cI a s21 _)) dX5_readNumber_108 (fun H locs s30 hP hS h => ?_)
          refine lv_aload_n hx hb dX5_readNumber_109 rfl (lv_at hl 0 rfl) ?_
          refine lv_dup hx hb dX5_readNumber_110 rfl ?_
          refine x_geti (C := RX5) (k := 5) hx hb hts u_X5_readNumber_5 hown hK hP (g_P_0 cI a s30) rfl (by decide) ⟨rfl, rfl, rfl⟩ k_X5_readNumber_f28 rfl dX5_readNumber_111 h (fun x31 h => ?_)
          refine lv_iconst (v := 1) hx hb dX5_readNumber_114 (by decide +kernel) ?_
          refine x_iadd hx hb dX5_readNumber_115 h (fun x32 h => ?_)
          refine x_puti (p_P cI a) (C := RX5) (k := 5) hx hb hts u_X5_readNumber_5 tyX5 tyX5_ok nmX5 hown hK hP hD hS h (g_P_0 cI a s30) rfl (by decide) ⟨rfl, rfl, rfl⟩ k_X5_readNumber_f28 rfl rfl rfl rfl (Nat.le_of_ble_eq_true rfl) (s_P_0_5 cI a s30 x32) dX5_readNumber_116 (fun H locs s33 hP hS h => ?_)
          refine lv_iconst (v := 1) hx hb dX5_readNumber_119 (by decide +kernel) ?_
          exact x_zret (p_P cI a) hx hb hr hlocks hP hS dX5_readNumber_120 h
      · have h := if_t c13 h
        refine lv_iconst (v := 0) hx hb dX5_readNumber_44 (by decide +kernel) ?_
        exact x_zret (p_P cI a) hx hb hr hlocks hP hS dX5_readNumber_45 h
    · have h := if_f c7 h
      refine lv_iconst (v := 0) hx hb dX5_readNumber_25 (by decide +kernel) ?_
      exact x_zret (p_P cI a) hx hb hr hlocks hP hS dX5_readNumber_26 h
/-! ===== VectorRounds$Tape.readLine()Z: world P ===== -/
theorem i_X5_readLine : yX5_readLine.cls = RX5 ∧ yX5_readLine.cls ≠ "java/lang/invoke/MethodHandle" ∧ yX5_readLine.cls ≠ "java/lang/invoke/VarHandle" ∧ (parseMethodDescriptor yX5_readLine.desc).map (fun d => d.parameters.length) = some 0 := by decide +kernel
theorem k_X5_readLine_f15 : Cond.fieldLink RX5 15 RX5 "letters" "[I" ∈ wsX5_readLine := by decide +kernel
theorem k_X5_readLine_f21 : Cond.fieldLink RX5 21 RX5 "length" "I" ∈ wsX5_readLine := by decide +kernel
theorem k_X5_readLine_f25 : Cond.fieldLink RX5 25 RX5 "lines" "I" ∈ wsX5_readLine := by decide +kernel
theorem k_X5_readLine_f28 : Cond.fieldLink RX5 28 RX5 "at" "I" ∈ wsX5_readLine := by decide +kernel
theorem k_X5_readLine_f9 : Cond.fieldLink RX5 9 RX5 "bytes" "[I" ∈ wsX5_readLine := by decide +kernel
theorem u_X5_readLine_5 : ∀ w ∈ u_ws RX5 TX5 6, w ∈ wsX5_readLine := by decide +kernel
set_option maxHeartbeats 4000000 in
set_option maxRecDepth 100000 in
theorem c_X5_readLine (l : Launch) (D : va_G) (cI : ClassId) (tys : List (ClassId × FieldType)) (ht : tys[0]? = some (cI, .int)) (a : Nat → Nat) (σ : qM) : q_Met l yX5_readLine wsX5_readLine ({ frames := 2, cells := 0, slots := 0, locals := 41 }) [.ref (a 0)] D tys (p_P cI a) σ (f_X5_readLine σ) := by
  refine x_ofWi (cc := cX5_readLine) (maxL := 3) (ret := (some .boolean)) (by decide +kernel) rfl (pf_P cI a) (Nat.le_of_ble_eq_true rfl) ?_
  intro p e s m below meth c A ls qq h hx hb hml hr hlocks hown hts hK hP hD hA hS hl
  have hown : s.vm.findClass RX5 = some m.cls := hown
  have hl : lv_has ls 3 [(0, .ref (a 0))] := hl
  have main : ∀ k9 : Nat, (∀ (σ : qM) (x16 x17 : Int32) (H : Heap) (locs : List Loc) (ls : Array Slot), q_it (D_X5_readLine) k9 0 σ [x16, x17] = some qq → va_P D vwCl (p_P cI a σ) H → va_S A s.heap H locs → lv_has ls 3 [(0, .ref (a 0)), (1, .int x16), (2, .int x17)] → W p l e ({ frames := 2, cells := 0, slots := 0, locals := 41 }) s m [.ref (a 0)].toArray below meth c H locs 0 0 (MQ below (va_Qi (fun r τ => (r, τ) = qq) (fun τ t => va_P D vwCl ((p_P cI a) τ) t.heap) A) [.ref (a 0)].toArray s 0 0 A) (F0 m 62 ls [])) := by
    intro k9
    induction k9 with
    | zero => exact (fun _ _ _ _ _ _ h _ _ _ => (q_no (show (none : qR) = some qq from h)).elim)
    | succ k9 ih =>
      have i62 := ih
      refine ?_
      · intro σ x16 x17 H locs ls h hP hS hl
        have h : b_X5_readLine_62 (q_it (D_X5_readLine) k9) σ x16 x17 = some qq := h
        unfold b_X5_readLine_62 at h
        refine lv_iload_n hx hb dX5_readLine_62 rfl (lv_at hl 2 rfl) ?_
        refine lv_iload_n hx hb dX5_readLine_63 rfl (lv_at hl 1 rfl) ?_
        refine lv_icmp_ge (tgt := 90) hx hb dX5_readLine_64 (by decide) (fun c18 => ?_) (fun c18 => ?_)
        · have h := if_t c18 h
          refine lv_iconst (v := 1) hx hb dX5_readLine_90 (by decide +kernel) ?_
          exact x_zret (p_P cI a) hx hb hr hlocks hP hS dX5_readLine_91 h
        · have h := if_f c18 h
          refine lv_aload_n hx hb dX5_readLine_67 rfl (lv_at hl 0 rfl) ?_
          refine lv_iconst (v := 3) hx hb dX5_readLine_68 (by decide +kernel) ?_
          refine lv_aload_n hx hb dX5_readLine_69 rfl (lv_at hl 0 rfl) ?_
          refine x_geti (C := RX5) (k := 4) hx hb hts u_X5_readLine_5 hown hK hP (g_P_0 cI a σ) rfl (by decide) ⟨rfl, rfl, rfl⟩ k_X5_readLine_f25 rfl dX5_readLine_70 h (fun x19 h => ?_)
          refine x_imul hx hb dX5_readLine_73 h (fun x20 h => ?_)
          refine lv_iload_n hx hb dX5_readLine_74 rfl (lv_at hl 2 rfl) ?_
          refine x_iadd hx hb dX5_readLine_75 h (fun x21 h => ?_)
          refine x_cVi (p_P cI a) (p_P cI a) (fun τ => τ) [] [.int x21] hx hb hml hl.1 hown hts hK hP hD hS hA rfl (c_X5_readNumber l D cI tys ht a σ x21) gX5_readLine_X5_readNumber rfl ⟨rfl, rfl⟩ i_X5_readNumber ⟨Nat.le_of_ble_eq_true rfl, Nat.le_of_ble_eq_true rfl⟩ q_frI (g_P_0 cI a σ) rfl rfl (Nat.le_of_ble_eq_true rfl) ⟨Nat.zero_le _, Nat.zero_le _⟩ dX5_readLine_76 h (fun x23 H locs s22 hP hS h => ?_)
          refine lv_if_ne (tgt := 84) hx hb dX5_readLine_79 (by decide) (fun c24 => ?_) (fun c24 => ?_)
          · have h := if_f c24 h
            refine x_iinc (k := 2) (w := 1) hx hb dX5_readLine_84 hl rfl (by decide +kernel) (by decide) (fun v9 => [(2, .int v9), (0, .ref (a 0)), (1, .int x16)]) (fun v9 => rfl) h (fun x25 ls hl h => ?_)
            have hl : lv_has ls 3 [(2, .int x25), (0, .ref (a 0)), (1, .int x16)] := hl
            refine lv_goto (tgt := 62) hx hb dX5_readLine_87 (by decide) ?_
            exact i62 s22 x16 x25 _ _ _ h hP hS (lv_sub hl [1, 2, 0] rfl)
          · have h := if_t c24 h
            refine lv_iconst (v := 0) hx hb dX5_readLine_82 (by decide +kernel) ?_
            exact x_zret (p_P cI a) hx hb hr hlocks hP hS dX5_readLine_83 h
  have i62 : ∀ (σ : qM) (x16 x17 : Int32) (H : Heap) (locs : List Loc) (ls : Array Slot), q_lim (D_X5_readLine) 0 σ [x16, x17] = some qq → va_P D vwCl (p_P cI a σ) H → va_S A s.heap H locs → lv_has ls 3 [(0, .ref (a 0)), (1, .int x16), (2, .int x17)] → W p l e ({ frames := 2, cells := 0, slots := 0, locals := 41 }) s m [.ref (a 0)].toArray below meth c H locs 0 0 (MQ below (va_Qi (fun r τ => (r, τ) = qq) (fun τ t => va_P D vwCl ((p_P cI a) τ) t.heap) A) [.ref (a 0)].toArray s 0 0 A) (F0 m 62 ls []) := by
    intro σ x16 x17 H locs ls h hP hS hl
    obtain ⟨k9, h⟩ := q_lim_n h
    exact (main k9) σ x16 x17 H locs ls h hP hS hl
  have h : e_X5_readLine (q_lim (D_X5_readLine)) σ = some qq := h
  unfold e_X5_readLine at h
  refine lv_aload_n hx hb dX5_readLine_0 rfl (lv_at hl 0 rfl) ?_
  refine x_geti (C := RX5) (k := 5) hx hb hts u_X5_readLine_5 hown hK hP (g_P_0 cI a σ) rfl (by decide) ⟨rfl, rfl, rfl⟩ k_X5_readLine_f28 rfl dX5_readLine_1 h (fun x1 h => ?_)
  refine lv_aload_n hx hb dX5_readLine_4 rfl (lv_at hl 0 rfl) ?_
  refine x_geti (C := RX5) (k := 1) hx hb hts u_X5_readLine_5 hown hK hP (g_P_0 cI a σ) rfl (by decide) ⟨rfl, rfl, rfl⟩ k_X5_readLine_f21 rfl dX5_readLine_5 h (fun x2 h => ?_)
  refine lv_icmp_lt (tgt := 13) hx hb dX5_readLine_8 (by decide) (fun c3 => ?_) (fun c3 => ?_)
  · have h := if_t c3 h
    refine lv_aload_n hx hb dX5_readLine_13 rfl (lv_at hl 0 rfl) ?_
    refine x_getr (C := RX5) (k := 0) hx hb hts u_X5_readLine_5 hown hK hP (g_P_0 cI a σ) rfl (by decide) ⟨rfl, rfl, rfl⟩ k_X5_readLine_f9 rfl dX5_readLine_14 ?_
    refine lv_aload_n hx hb dX5_readLine_17 rfl (lv_at hl 0 rfl) ?_
    refine x_geti (C := RX5) (k := 5) hx hb hts u_X5_readLine_5 hown hK hP (g_P_0 cI a σ) rfl (by decide) ⟨rfl, rfl, rfl⟩ k_X5_readLine_f28 rfl dX5_readLine_18 h (fun x4 h => ?_)
    refine x_iald (t0 := 0) hx hb hK hP ht h (g_P_1 cI a σ) dX5_readLine_21 (fun x5 h => ?_)
    refine x_cSi (p_P cI a) (fun _ => []) (fun _ => σ) [] [.int x5] hx hb hml hl.1 hown hts hK hP hD hS hA rfl (c_X5_howManyNumbers l D cI tys ht σ x5) gX5_readLine_X5_howManyNumbers rfl ⟨rfl, rfl⟩ i_X5_howManyNumbers ⟨Nat.le_of_ble_eq_true rfl, Nat.le_of_ble_eq_true rfl⟩ (q_fr0 (fun _ => rfl)) rfl (Nat.le_of_ble_eq_true rfl) ⟨Nat.zero_le _, Nat.zero_le _⟩ dX5_readLine_22 h (fun x7 H locs s6 hP hS h => ?_)
    refine lv_istore_n (lv' := [(1, .int x7), (0, .ref (a 0))]) hx hb dX5_readLine_25 rfl hl (by decide) rfl (fun ls hl => ?_)
    refine lv_iload_n hx hb dX5_readLine_26 rfl (lv_at hl 0 rfl) ?_
    refine lv_if_ge (tgt := 32) hx hb dX5_readLine_27 (by decide) (fun c8 => ?_) (fun c8 => ?_)
    · have h := if_t c8 h
      refine lv_aload_n hx hb dX5_readLine_32 rfl (lv_at hl 1 rfl) ?_
      refine x_getr (C := RX5) (k := 2) hx hb hts u_X5_readLine_5 hown hK hP (g_P_0 cI a s6) rfl (by decide) ⟨rfl, rfl, rfl⟩ k_X5_readLine_f15 rfl dX5_readLine_33 ?_
      refine lv_aload_n hx hb dX5_readLine_36 rfl (lv_at hl 1 rfl) ?_
      refine x_geti (C := RX5) (k := 4) hx hb hts u_X5_readLine_5 hown hK hP (g_P_0 cI a s6) rfl (by decide) ⟨rfl, rfl, rfl⟩ k_X5_readLine_f25 rfl dX5_readLine_37 h (fun x9 h => ?_)
      refine lv_aload_n hx hb dX5_readLine_40 rfl (lv_at hl 1 rfl) ?_
      refine x_getr (C := RX5) (k := 0) hx hb hts u_X5_readLine_5 hown hK hP (g_P_0 cI a s6) rfl (by decide) ⟨rfl, rfl, rfl⟩ k_X5_readLine_f9 rfl dX5_readLine_41 ?_
      refine lv_aload_n hx hb dX5_readLine_44 rfl (lv_at hl 1 rfl) ?_
      refine x_geti (C := RX5) (k := 5) hx hb hts u_X5_readLine_5 hown hK hP (g_P_0 cI a s6) rfl (by decide) ⟨rfl, rfl, rfl⟩ k_X5_readLine_f28 rfl dX5_readLine_45 h (fun x10 h => ?_)
      refine x_iald (t0 := 0) hx hb hK hP ht h (g_P_1 cI a s6) dX5_readLine_48 (fun x11 h => ?_)
      refine x_iast (p_P cI a) (t0 := 0) hx hb hK hP hD hS ht h (g_P_2 cI a s6) (fun j9 v9 => (s_P_2 cI a s6 _)) dX5_readLine_49 (fun H locs s12 hP hS h => ?_)
      refine lv_aload_n hx hb dX5_readLine_50 rfl (lv_at hl 1 rfl) ?_
      refine lv_dup hx hb dX5_readLine_51 rfl ?_
      refine x_geti (C := RX5) (k := 5) hx hb hts u_X5_readLine_5 hown hK hP (g_P_0 cI a s12) rfl (by decide) ⟨rfl, rfl, rfl⟩ k_X5_readLine_f28 rfl dX5_readLine_52 h (fun x13 h => ?_)
      refine lv_iconst (v := 1) hx hb dX5_readLine_55 (by decide +kernel) ?_
      refine x_iadd hx hb dX5_readLine_56 h (fun x14 h => ?_)
      refine x_puti (p_P cI a) (C := RX5) (k := 5) hx hb hts u_X5_readLine_5 tyX5 tyX5_ok nmX5 hown hK hP hD hS h (g_P_0 cI a s12) rfl (by decide) ⟨rfl, rfl, rfl⟩ k_X5_readLine_f28 rfl rfl rfl rfl (Nat.le_of_ble_eq_true rfl) (s_P_0_5 cI a s12 x14) dX5_readLine_57 (fun H locs s15 hP hS h => ?_)
      refine lv_iconst (v := 0) hx hb dX5_readLine_60 (by decide +kernel) ?_
      refine lv_istore_n (lv' := [(2, .int 0), (1, .int x7), (0, .ref (a 0))]) hx hb dX5_readLine_61 rfl hl (by decide) rfl (fun ls hl => ?_)
      exact i62 s15 x7 0 _ _ _ h hP hS (lv_sub hl [2, 1, 0] rfl)
    · have h := if_f c8 h
      refine lv_iconst (v := 0) hx hb dX5_readLine_30 (by decide +kernel) ?_
      exact x_zret (p_P cI a) hx hb hr hlocks hP hS dX5_readLine_31 h
  · have h := if_f c3 h
    refine lv_iconst (v := 0) hx hb dX5_readLine_11 (by decide +kernel) ?_
    exact x_zret (p_P cI a) hx hb hr hlocks hP hS dX5_readLine_12 h
/-! ===== VectorRounds$Tape.readLines()I: world P ===== -/
theorem i_X5_readLines : yX5_readLines.cls = RX5 ∧ yX5_readLines.cls ≠ "java/lang/invoke/MethodHandle" ∧ yX5_readLines.cls ≠ "java/lang/invoke/VarHandle" ∧ (parseMethodDescriptor yX5_readLines.desc).map (fun d => d.parameters.length) = some 0 := by decide +kernel
theorem k_X5_readLines_f21 : Cond.fieldLink RX5 21 RX5 "length" "I" ∈ wsX5_readLines := by decide +kernel
theorem k_X5_readLines_f25 : Cond.fieldLink RX5 25 RX5 "lines" "I" ∈ wsX5_readLines := by decide +kernel
theorem k_X5_readLines_f28 : Cond.fieldLink RX5 28 RX5 "at" "I" ∈ wsX5_readLines := by decide +kernel
theorem k_X5_readLines_f9 : Cond.fieldLink RX5 9 RX5 "bytes" "[I" ∈ wsX5_readLines := by decide +kernel
theorem u_X5_readLines_5 : ∀ w ∈ u_ws RX5 TX5 6, w ∈ wsX5_readLines := by decide +kernel
set_option maxHeartbeats 4000000 in
set_option maxRecDepth 100000 in
theorem c_X5_readLines (l : Launch) (D : va_G) (cI : ClassId) (tys : List (ClassId × FieldType)) (ht : tys[0]? = some (cI, .int)) (a : Nat → Nat) (σ : qM) : q_Met l yX5_readLines wsX5_readLines ({ frames := 3, cells := 0, slots := 0, locals := 63 }) [.ref (a 0)] D tys (p_P cI a) σ (f_X5_readLines σ) := by
  refine x_ofWi (cc := cX5_readLines) (maxL := 2) (ret := (some .int)) (by decide +kernel) rfl (pf_P cI a) (Nat.le_of_ble_eq_true rfl) ?_
  intro p e s m below meth c A ls qq h hx hb hml hr hlocks hown hts hK hP hD hA hS hl
  have hown : s.vm.findClass RX5 = some m.cls := hown
  have hl : lv_has ls 2 [(0, .ref (a 0))] := hl
  have main : ∀ k9 : Nat, (∀ (σ : qM) (x3 : Int32) (H : Heap) (locs : List Loc) (ls : Array Slot), q_it (D_X5_readLines) k9 0 σ [x3] = some qq → va_P D vwCl (p_P cI a σ) H → va_S A s.heap H locs → lv_has ls 2 [(0, .ref (a 0)), (1, .int x3)] → W p l e ({ frames := 3, cells := 0, slots := 0, locals := 63 }) s m [.ref (a 0)].toArray below meth c H locs 0 0 (MQ below (va_Qi (fun r τ => (r, τ) = qq) (fun τ t => va_P D vwCl ((p_P cI a) τ) t.heap) A) [.ref (a 0)].toArray s 0 0 A) (F0 m 12 ls [])) := by
    intro k9
    induction k9 with
    | zero => exact (fun _ _ _ _ _ h _ _ _ => (q_no (show (none : qR) = some qq from h)).elim)
    | succ k9 ih =>
      have i12 := ih
      refine ?_
      · intro σ x3 H locs ls h hP hS hl
        have h : b_X5_readLines_12 (q_it (D_X5_readLines) k9) σ x3 = some qq := h
        unfold b_X5_readLines_12 at h
        refine lv_iload_n hx hb dX5_readLines_12 rfl (lv_at hl 1 rfl) ?_
        refine lv_bipush (v := 120) hx hb dX5_readLines_13 (by decide +kernel) ?_
        refine lv_icmp_ge (tgt := 88) hx hb dX5_readLines_15 (by decide) (fun c4 => ?_) (fun c4 => ?_)
        · have h := if_t c4 h
          refine lv_aload_n hx hb dX5_readLines_88 rfl (lv_at hl 0 rfl) ?_
          refine x_geti (C := RX5) (k := 5) hx hb hts u_X5_readLines_5 hown hK hP (g_P_0 cI a σ) rfl (by decide) ⟨rfl, rfl, rfl⟩ k_X5_readLines_f28 rfl dX5_readLines_89 h (fun x5 h => ?_)
          exact x_iret (p_P cI a) hx hb hr hlocks hP hS dX5_readLines_92 h
        · have h := if_f c4 h
          refine lv_aload_n hx hb dX5_readLines_18 rfl (lv_at hl 0 rfl) ?_
          refine x_cVi (p_P cI a) (p_P cI a) (fun τ => τ) [] [] hx hb hml hl.1 hown hts hK hP hD hS hA rfl (c_X5_readLine l D cI tys ht a σ) gX5_readLines_X5_readLine rfl ⟨rfl, rfl⟩ i_X5_readLine ⟨Nat.le_of_ble_eq_true rfl, Nat.le_of_ble_eq_true rfl⟩ q_frI (g_P_0 cI a σ) rfl rfl (Nat.le_of_ble_eq_true rfl) ⟨Nat.zero_le _, Nat.zero_le _⟩ dX5_readLines_19 h (fun x7 H locs s6 hP hS h => ?_)
          refine lv_if_ne (tgt := 30) hx hb dX5_readLines_22 (by decide) (fun c8 => ?_) (fun c8 => ?_)
          · have h := if_f c8 h
            refine lv_aload_n hx hb dX5_readLines_30 rfl (lv_at hl 0 rfl) ?_
            refine lv_dup hx hb dX5_readLines_31 rfl ?_
            refine x_geti (C := RX5) (k := 4) hx hb hts u_X5_readLines_5 hown hK hP (g_P_0 cI a s6) rfl (by decide) ⟨rfl, rfl, rfl⟩ k_X5_readLines_f25 rfl dX5_readLines_32 h (fun x9 h => ?_)
            refine lv_iconst (v := 1) hx hb dX5_readLines_35 (by decide +kernel) ?_
            refine x_iadd hx hb dX5_readLines_36 h (fun x10 h => ?_)
            refine x_puti (p_P cI a) (C := RX5) (k := 4) hx hb hts u_X5_readLines_5 tyX5 tyX5_ok nmX5 hown hK hP hD hS h (g_P_0 cI a s6) rfl (by decide) ⟨rfl, rfl, rfl⟩ k_X5_readLines_f25 rfl rfl rfl rfl (Nat.le_of_ble_eq_true rfl) (s_P_0_4 cI a s6 x10) dX5_readLines_37 (fun H locs s11 hP hS h => ?_)
            refine lv_aload_n hx hb dX5_readLines_40 rfl (lv_at hl 0 rfl) ?_
            refine x_geti (C := RX5) (k := 5) hx hb hts u_X5_readLines_5 hown hK hP (g_P_0 cI a s11) rfl (by decide) ⟨rfl, rfl, rfl⟩ k_X5_readLines_f28 rfl dX5_readLines_41 h (fun x12 h => ?_)
            refine lv_aload_n hx hb dX5_readLines_44 rfl (lv_at hl 0 rfl) ?_
            refine x_geti (C := RX5) (k := 1) hx hb hts u_X5_readLines_5 hown hK hP (g_P_0 cI a s11) rfl (by decide) ⟨rfl, rfl, rfl⟩ k_X5_readLines_f21 rfl dX5_readLines_45 h (fun x13 h => ?_)
            refine lv_icmp_ne (tgt := 53) hx hb dX5_readLines_48 (by decide) (fun c14 => ?_) (fun c14 => ?_)
            · have h := if_f c14 h
              refine lv_aload_n hx hb dX5_readLines_53 rfl (lv_at hl 0 rfl) ?_
              refine x_getr (C := RX5) (k := 0) hx hb hts u_X5_readLines_5 hown hK hP (g_P_0 cI a s11) rfl (by decide) ⟨rfl, rfl, rfl⟩ k_X5_readLines_f9 rfl dX5_readLines_54 ?_
              refine lv_aload_n hx hb dX5_readLines_57 rfl (lv_at hl 0 rfl) ?_
              refine x_geti (C := RX5) (k := 5) hx hb hts u_X5_readLines_5 hown hK hP (g_P_0 cI a s11) rfl (by decide) ⟨rfl, rfl, rfl⟩ k_X5_readLines_f28 rfl dX5_readLines_58 h (fun x15 h => ?_)
              refine x_iald (t0 := 0) hx hb hK hP ht h (g_P_1 cI a s11) dX5_readLines_61 (fun x16 h => ?_)
              refine lv_bipush (v := 59) hx hb dX5_readLines_62 (by decide +kernel) ?_
              refine lv_icmp_eq (tgt := 72) hx hb dX5_readLines_64 (by decide) (fun c17 => ?_) (fun c17 => ?_)
              · have h := if_t c17 h
                refine lv_aload_n hx hb dX5_readLines_72 rfl (lv_at hl 0 rfl) ?_
                refine lv_dup hx hb dX5_readLines_73 rfl ?_
                refine x_geti (C := RX5) (k := 5) hx hb hts u_X5_readLines_5 hown hK hP (g_P_0 cI a s11) rfl (by decide) ⟨rfl, rfl, rfl⟩ k_X5_readLines_f28 rfl dX5_readLines_74 h (fun x18 h => ?_)
                refine lv_iconst (v := 1) hx hb dX5_readLines_77 (by decide +kernel) ?_
                refine x_iadd hx hb dX5_readLines_78 h (fun x19 h => ?_)
                refine x_puti (p_P cI a) (C := RX5) (k := 5) hx hb hts u_X5_readLines_5 tyX5 tyX5_ok nmX5 hown hK hP hD hS h (g_P_0 cI a s11) rfl (by decide) ⟨rfl, rfl, rfl⟩ k_X5_readLines_f28 rfl rfl rfl rfl (Nat.le_of_ble_eq_true rfl) (s_P_0_5 cI a s11 x19) dX5_readLines_79 (fun H locs s20 hP hS h => ?_)
                refine x_iinc (k := 1) (w := 1) hx hb dX5_readLines_82 hl rfl (by decide +kernel) (by decide) (fun v9 => [(1, .int v9), (0, .ref (a 0))]) (fun v9 => rfl) h (fun x21 ls hl h => ?_)
                have hl : lv_has ls 2 [(1, .int x21), (0, .ref (a 0))] := hl
                refine lv_goto (tgt := 12) hx hb dX5_readLines_85 (by decide) ?_
                exact i12 s20 x21 _ _ _ h hP hS (lv_sub hl [1, 0] rfl)
              · have h := if_f c17 h
                refine lv_aload_n hx hb dX5_readLines_67 rfl (lv_at hl 0 rfl) ?_
                refine x_geti (C := RX5) (k := 5) hx hb hts u_X5_readLines_5 hown hK hP (g_P_0 cI a s11) rfl (by decide) ⟨rfl, rfl, rfl⟩ k_X5_readLines_f28 rfl dX5_readLines_68 h (fun x22 h => ?_)
                exact x_iret (p_P cI a) hx hb hr hlocks hP hS dX5_readLines_71 h
            · have h := if_t c14 h
              refine lv_iconst (v := (-1)) hx hb dX5_readLines_51 (by decide +kernel) ?_
              exact x_iret (p_P cI a) hx hb hr hlocks hP hS dX5_readLines_52 h
          · have h := if_t c8 h
            refine lv_aload_n hx hb dX5_readLines_25 rfl (lv_at hl 0 rfl) ?_
            refine x_geti (C := RX5) (k := 5) hx hb hts u_X5_readLines_5 hown hK hP (g_P_0 cI a s6) rfl (by decide) ⟨rfl, rfl, rfl⟩ k_X5_readLines_f28 rfl dX5_readLines_26 h (fun x23 h => ?_)
            exact x_iret (p_P cI a) hx hb hr hlocks hP hS dX5_readLines_29 h
  have i12 : ∀ (σ : qM) (x3 : Int32) (H : Heap) (locs : List Loc) (ls : Array Slot), q_lim (D_X5_readLines) 0 σ [x3] = some qq → va_P D vwCl (p_P cI a σ) H → va_S A s.heap H locs → lv_has ls 2 [(0, .ref (a 0)), (1, .int x3)] → W p l e ({ frames := 3, cells := 0, slots := 0, locals := 63 }) s m [.ref (a 0)].toArray below meth c H locs 0 0 (MQ below (va_Qi (fun r τ => (r, τ) = qq) (fun τ t => va_P D vwCl ((p_P cI a) τ) t.heap) A) [.ref (a 0)].toArray s 0 0 A) (F0 m 12 ls []) := by
    intro σ x3 H locs ls h hP hS hl
    obtain ⟨k9, h⟩ := q_lim_n h
    exact (main k9) σ x3 H locs ls h hP hS hl
  have h : e_X5_readLines (q_lim (D_X5_readLines)) σ = some qq := h
  unfold e_X5_readLines at h
  refine lv_aload_n hx hb dX5_readLines_0 rfl (lv_at hl 0 rfl) ?_
  refine lv_iconst (v := 0) hx hb dX5_readLines_1 (by decide +kernel) ?_
  refine x_puti (p_P cI a) (C := RX5) (k := 4) hx hb hts u_X5_readLines_5 tyX5 tyX5_ok nmX5 hown hK hP hD hS h (g_P_0 cI a σ) rfl (by decide) ⟨rfl, rfl, rfl⟩ k_X5_readLines_f25 rfl rfl rfl rfl (Nat.le_of_ble_eq_true rfl) (s_P_0_4 cI a σ 0) dX5_readLines_2 (fun H locs s1 hP hS h => ?_)
  refine lv_aload_n hx hb dX5_readLines_5 rfl (lv_at hl 0 rfl) ?_
  refine lv_iconst (v := 0) hx hb dX5_readLines_6 (by decide +kernel) ?_
  refine x_puti (p_P cI a) (C := RX5) (k := 5) hx hb hts u_X5_readLines_5 tyX5 tyX5_ok nmX5 hown hK hP hD hS h (g_P_0 cI a s1) rfl (by decide) ⟨rfl, rfl, rfl⟩ k_X5_readLines_f28 rfl rfl rfl rfl (Nat.le_of_ble_eq_true rfl) (s_P_0_5 cI a s1 0) dX5_readLines_7 (fun H locs s2 hP hS h => ?_)
  refine lv_iconst (v := 0) hx hb dX5_readLines_10 (by decide +kernel) ?_
  refine lv_istore_n (lv' := [(1, .int 0), (0, .ref (a 0))]) hx hb dX5_readLines_11 rfl hl (by decide) rfl (fun ls hl => ?_)
  exact i12 s2 0 _ _ _ h hP hS (lv_sub hl [1, 0] rfl)
