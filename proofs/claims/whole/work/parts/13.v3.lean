/-! ===== VectorRounds.isOtherwise(IIII)Z: world V ===== -/
theorem i_X7_isOtherwise : yX7_isOtherwise.cls = RX7 ∧ yX7_isOtherwise.cls ≠ "java/lang/invoke/MethodHandle" ∧ yX7_isOtherwise.cls ≠ "java/lang/invoke/VarHandle" ∧ (parseMethodDescriptor yX7_isOtherwise.desc).map (fun d => d.parameters.length) = some 4 := by decide +kernel
theorem k_X7_isOtherwise_f118 : Cond.fieldLink RX7 118 RX3 "tables" "LVectorRounds$Tables;" ∈ wsX7_isOtherwise := by decide +kernel
theorem k_X7_isOtherwise_f12 : Cond.fieldLink RX7 12 RX7 "now" "LVectorRounds$Network;" ∈ wsX7_isOtherwise := by decide +kernel
theorem k_X7_isOtherwise_f127 : Cond.fieldLink RX7 127 RX4 "metric" "[I" ∈ wsX7_isOtherwise := by decide +kernel
theorem k_X7_isOtherwise_f130 : Cond.fieldLink RX7 130 RX4 "via" "[I" ∈ wsX7_isOtherwise := by decide +kernel
theorem u_X7_isOtherwise_3 : ∀ w ∈ u_ws RX3 TX3 9, w ∈ wsX7_isOtherwise := by decide +kernel
theorem u_X7_isOtherwise_4 : ∀ w ∈ u_ws RX4 TX4 6, w ∈ wsX7_isOtherwise := by decide +kernel
theorem u_X7_isOtherwise_7 : ∀ w ∈ u_ws RX7 TX7 9, w ∈ wsX7_isOtherwise := by decide +kernel
set_option maxHeartbeats 4000000 in
set_option maxRecDepth 100000 in
theorem c_X7_isOtherwise (l : Launch) (D : va_G) (cI cO : ClassId) (tys : List (ClassId × FieldType)) (ht : tys[0]? = some (cI, .int)) (ht1 : tys[1]? = some (cO, .object "VectorRounds$Holder")) (a : Nat → Nat) (σ : qM) (x1 : Int32) (x2 : Int32) (x3 : Int32) (x4 : Int32) : q_Met l yX7_isOtherwise wsX7_isOtherwise ({ frames := 1, cells := 0, slots := 0, locals := 21 }) [.ref (a 0), .int x1, .int x2, .int x3, .int x4] D tys (p_V cI cO a) σ (f_X7_isOtherwise σ x1 x2 x3 x4) := by
  refine x_ofWi (cc := cX7_isOtherwise) (maxL := 6) (ret := (some .boolean)) (by decide +kernel) rfl (pf_V cI cO a) (Nat.le_of_ble_eq_true rfl) ?_
  intro p e s m below meth c A ls qq h hx hb hml hr hlocks hown hts hK hP hD hA hS hl
  have hown : s.vm.findClass RX7 = some m.cls := hown
  have hl : lv_has ls 6 [(0, .ref (a 0)), (1, .int x1), (2, .int x2), (3, .int x3), (4, .int x4)] := hl
  unfold f_X7_isOtherwise at h
  refine lv_iload_n hx hb dX7_isOtherwise_0 rfl (lv_at hl 1 rfl) ?_
  refine lv_bipush (v := 10) hx hb dX7_isOtherwise_1 (by decide +kernel) ?_
  refine x_imul hx hb dX7_isOtherwise_3 h (fun x5 h => ?_)
  refine lv_iload_n hx hb dX7_isOtherwise_4 rfl (lv_at hl 2 rfl) ?_
  refine x_iadd hx hb dX7_isOtherwise_5 h (fun x6 h => ?_)
  refine lv_istore (lv' := [(5, .int x6), (0, .ref (a 0)), (1, .int x1), (2, .int x2), (3, .int x3), (4, .int x4)]) hx hb dX7_isOtherwise_6 hl (by decide) rfl (fun ls hl => ?_)
  refine lv_aload_n hx hb dX7_isOtherwise_8 rfl (lv_at hl 1 rfl) ?_
  refine x_getr (C := RX7) (k := 0) hx hb hts u_X7_isOtherwise_7 hown hK hP (g_V_0 cI cO a σ) rfl (by decide) ⟨rfl, rfl, rfl⟩ k_X7_isOtherwise_f12 rfl dX7_isOtherwise_9 ?_
  refine x_getr (C := RX3) (k := 0) hx hb hts u_X7_isOtherwise_3 hown hK hP (g_V_1 cI cO a σ) rfl (by decide) ⟨rfl, rfl, rfl⟩ k_X7_isOtherwise_f118 rfl dX7_isOtherwise_12 ?_
  refine lv_iload hx hb dX7_isOtherwise_15 (lv_at hl 0 rfl) ?_
  refine x_cVi (p_V cI cO a) (p_T cI (q_sub 2 a)) (q_put 2 7 σ) [] [.int x6] hx hb hml hl.1 hown hts hK hP hD hS hA rfl (c_X4_has l D cI tys ht (q_sub 2 a) (q_sub 2 σ) x6) gX7_isOtherwise_X4_has rfl ⟨rfl, rfl⟩ i_X4_has ⟨Nat.le_of_ble_eq_true rfl, Nat.le_of_ble_eq_true rfl⟩ (fr_V_T_2 cI cO a σ) (g_T_0 cI (q_sub 2 a) (q_sub 2 σ)) rfl rfl (Nat.le_of_ble_eq_true rfl) ⟨Nat.zero_le _, Nat.zero_le _⟩ dX7_isOtherwise_17 h (fun x8 H locs s7 hP hS h => ?_)
  refine lv_if_ne (tgt := 41) hx hb dX7_isOtherwise_20 (by decide) (fun c9 => ?_) (fun c9 => ?_)
  · have h := if_f c9 h
    refine lv_iload_n hx hb dX7_isOtherwise_41 rfl (lv_at hl 4 rfl) ?_
    refine lv_aload_n hx hb dX7_isOtherwise_42 rfl (lv_at hl 1 rfl) ?_
    refine x_getr (C := RX7) (k := 0) hx hb hts u_X7_isOtherwise_7 hown hK hP (g_V_0 cI cO a s7) rfl (by decide) ⟨rfl, rfl, rfl⟩ k_X7_isOtherwise_f12 rfl dX7_isOtherwise_43 ?_
    refine x_getr (C := RX3) (k := 0) hx hb hts u_X7_isOtherwise_3 hown hK hP (g_V_1 cI cO a s7) rfl (by decide) ⟨rfl, rfl, rfl⟩ k_X7_isOtherwise_f118 rfl dX7_isOtherwise_46 ?_
    refine x_getr (C := RX4) (k := 0) hx hb hts u_X7_isOtherwise_4 hown hK hP (g_V_2 cI cO a s7) rfl (by decide) ⟨rfl, rfl, rfl⟩ k_X7_isOtherwise_f127 rfl dX7_isOtherwise_49 ?_
    refine lv_iload hx hb dX7_isOtherwise_52 (lv_at hl 0 rfl) ?_
    refine x_iald (t0 := 0) hx hb hK hP ht h (g_V_3 cI cO a s7) dX7_isOtherwise_54 (fun x10 h => ?_)
    refine lv_icmp_ne (tgt := 76) hx hb dX7_isOtherwise_55 (by decide) (fun c11 => ?_) (fun c11 => ?_)
    · have h := if_f c11 h
      refine lv_iconst (v := 1) hx hb dX7_isOtherwise_76 (by decide +kernel) ?_
      refine lv_goto (tgt := 81) hx hb dX7_isOtherwise_77 (by decide) ?_
      exact x_zret (p_V cI cO a) hx hb hr hlocks hP hS dX7_isOtherwise_81 h
    · have h := if_t c11 h
      refine lv_iload hx hb dX7_isOtherwise_58 (lv_at hl 5 rfl) ?_
      refine lv_aload_n hx hb dX7_isOtherwise_60 rfl (lv_at hl 1 rfl) ?_
      refine x_getr (C := RX7) (k := 0) hx hb hts u_X7_isOtherwise_7 hown hK hP (g_V_0 cI cO a s7) rfl (by decide) ⟨rfl, rfl, rfl⟩ k_X7_isOtherwise_f12 rfl dX7_isOtherwise_61 ?_
      refine x_getr (C := RX3) (k := 0) hx hb hts u_X7_isOtherwise_3 hown hK hP (g_V_1 cI cO a s7) rfl (by decide) ⟨rfl, rfl, rfl⟩ k_X7_isOtherwise_f118 rfl dX7_isOtherwise_64 ?_
      refine x_getr (C := RX4) (k := 1) hx hb hts u_X7_isOtherwise_4 hown hK hP (g_V_2 cI cO a s7) rfl (by decide) ⟨rfl, rfl, rfl⟩ k_X7_isOtherwise_f130 rfl dX7_isOtherwise_67 ?_
      refine lv_iload hx hb dX7_isOtherwise_70 (lv_at hl 0 rfl) ?_
      refine x_iald (t0 := 0) hx hb hK hP ht h (g_V_4 cI cO a s7) dX7_isOtherwise_72 (fun x12 h => ?_)
      refine lv_icmp_eq (tgt := 80) hx hb dX7_isOtherwise_73 (by decide) (fun c13 => ?_) (fun c13 => ?_)
      · have h := if_t c13 h
        refine lv_iconst (v := 0) hx hb dX7_isOtherwise_80 (by decide +kernel) ?_
        exact x_zret (p_V cI cO a) hx hb hr hlocks hP hS dX7_isOtherwise_81 h
      · have h := if_f c13 h
        refine lv_iconst (v := 1) hx hb dX7_isOtherwise_76 (by decide +kernel) ?_
        refine lv_goto (tgt := 81) hx hb dX7_isOtherwise_77 (by decide) ?_
        exact x_zret (p_V cI cO a) hx hb hr hlocks hP hS dX7_isOtherwise_81 h
  · have h := if_t c9 h
    refine lv_iload_n hx hb dX7_isOtherwise_23 rfl (lv_at hl 4 rfl) ?_
    refine lv_bipush (v := 16) hx hb dX7_isOtherwise_24 (by decide +kernel) ?_
    refine lv_icmp_ne (tgt := 35) hx hb dX7_isOtherwise_26 (by decide) (fun c14 => ?_) (fun c14 => ?_)
    · have h := if_f c14 h
      refine lv_iconst (v := 1) hx hb dX7_isOtherwise_35 (by decide +kernel) ?_
      refine lv_goto (tgt := 40) hx hb dX7_isOtherwise_36 (by decide) ?_
      exact x_zret (p_V cI cO a) hx hb hr hlocks hP hS dX7_isOtherwise_40 h
    · have h := if_t c14 h
      refine lv_iload hx hb dX7_isOtherwise_29 (lv_at hl 5 rfl) ?_
      refine lv_iload_n hx hb dX7_isOtherwise_31 rfl (lv_at hl 2 rfl) ?_
      refine lv_icmp_eq (tgt := 39) hx hb dX7_isOtherwise_32 (by decide) (fun c15 => ?_) (fun c15 => ?_)
      · have h := if_t c15 h
        refine lv_iconst (v := 0) hx hb dX7_isOtherwise_39 (by decide +kernel) ?_
        exact x_zret (p_V cI cO a) hx hb hr hlocks hP hS dX7_isOtherwise_40 h
      · have h := if_f c15 h
        refine lv_iconst (v := 1) hx hb dX7_isOtherwise_35 (by decide +kernel) ?_
        refine lv_goto (tgt := 40) hx hb dX7_isOtherwise_36 (by decide) ?_
        exact x_zret (p_V cI cO a) hx hb hr hlocks hP hS dX7_isOtherwise_40 h
/-! ===== VectorRounds.judge(II)I: world V ===== -/
theorem i_X7_judge : yX7_judge.cls = RX7 ∧ yX7_judge.cls ≠ "java/lang/invoke/MethodHandle" ∧ yX7_judge.cls ≠ "java/lang/invoke/VarHandle" ∧ (parseMethodDescriptor yX7_judge.desc).map (fun d => d.parameters.length) = some 2 := by decide +kernel
theorem k_X7_judge_f12 : Cond.fieldLink RX7 12 RX7 "now" "LVectorRounds$Network;" ∈ wsX7_judge := by decide +kernel
theorem k_X7_judge_f203 : Cond.fieldLink RX7 203 RX1 "sort" "I" ∈ wsX7_judge := by decide +kernel
theorem k_X7_judge_f206 : Cond.fieldLink RX7 206 RX1 "length" "I" ∈ wsX7_judge := by decide +kernel
theorem k_X7_judge_f207 : Cond.fieldLink RX7 207 RX1 "items" "[I" ∈ wsX7_judge := by decide +kernel
theorem k_X7_judge_f48 : Cond.fieldLink RX7 48 RX7 "holders" "[LVectorRounds$Holder;" ∈ wsX7_judge := by decide +kernel
theorem k_X7_judge_f53 : Cond.fieldLink RX7 53 RX3 "routers" "I" ∈ wsX7_judge := by decide +kernel
theorem u_X7_judge_1 : ∀ w ∈ u_ws RX1 TX1 8, w ∈ wsX7_judge := by decide +kernel
theorem u_X7_judge_3 : ∀ w ∈ u_ws RX3 TX3 9, w ∈ wsX7_judge := by decide +kernel
theorem u_X7_judge_7 : ∀ w ∈ u_ws RX7 TX7 9, w ∈ wsX7_judge := by decide +kernel
set_option maxHeartbeats 4000000 in
set_option maxRecDepth 100000 in
theorem c_X7_judge (l : Launch) (D : va_G) (cI cO : ClassId) (tys : List (ClassId × FieldType)) (ht : tys[0]? = some (cI, .int)) (ht1 : tys[1]? = some (cO, .object "VectorRounds$Holder")) (a : Nat → Nat) (σ : qM) (x1 : Int32) (x2 : Int32) : q_Met l yX7_judge wsX7_judge ({ frames := 2, cells := 0, slots := 0, locals := 46 }) [.ref (a 0), .int x1, .int x2] D tys (p_V cI cO a) σ (f_X7_judge σ x1 x2) := by
  refine x_ofWi (cc := cX7_judge) (maxL := 6) (ret := (some .int)) (by decide +kernel) rfl (pf_V cI cO a) (Nat.le_of_ble_eq_true rfl) ?_
  intro p e s m below meth c A ls qq h hx hb hml hr hlocks hown hts hK hP hD hA hS hl
  have hown : s.vm.findClass RX7 = some m.cls := hown
  have hl : lv_has ls 6 [(0, .ref (a 0)), (1, .int x1), (2, .int x2)] := hl
  have main : ∀ k9 : Nat, (∀ (σ : qM) (x20 x21 x22 x23 : Int32) (H : Heap) (locs : List Loc) (ls : Array Slot), x21.toNatClampNeg < 6 → q_it (D_X7_judge) k9 0 σ [x20, x21, x22, x23] = some qq → va_P D vwCl (p_V cI cO a σ) H → va_S A s.heap H locs → lv_has ls 6 [(0, .ref (a 0)), (2, .int x20), (3, .ref (a (94 + 2 * x21.toNatClampNeg))), (4, .int x22), (5, .int x23)] → W p l e ({ frames := 2, cells := 0, slots := 0, locals := 46 }) s m [.ref (a 0), .int x1, .int x2].toArray below meth c H locs 0 0 (MQ below (va_Qi (fun r τ => (r, τ) = qq) (fun τ t => va_P D vwCl ((p_V cI cO a) τ) t.heap) A) [.ref (a 0), .int x1, .int x2].toArray s 0 0 A) (F0 m 80 ls [])) := by
    intro k9
    induction k9 with
    | zero => exact (fun _ _ _ _ _ _ _ _ _ h _ _ _ => (q_no (show (none : qR) = some qq from h)).elim)
    | succ k9 ih =>
      have i80 := ih
      refine ?_
      · intro σ x20 x21 x22 x23 H locs ls hj_x21 h hP hS hl
        have h : b_X7_judge_80 (q_it (D_X7_judge) k9) σ x20 x21 x22 x23 = some qq := h
        unfold b_X7_judge_80 at h
        refine lv_iload hx hb dX7_judge_80 (lv_at hl 4 rfl) ?_
        refine lv_iload hx hb dX7_judge_82 (lv_at hl 3 rfl) ?_
        refine lv_icmp_ge (tgt := 126) hx hb dX7_judge_84 (by decide) (fun c24 => ?_) (fun c24 => ?_)
        · have h := if_t c24 h
          refine lv_iload hx hb dX7_judge_126 (lv_at hl 3 rfl) ?_
          refine lv_aload_n hx hb dX7_judge_128 rfl (lv_at hl 0 rfl) ?_
          refine x_getr (C := RX7) (k := 0) hx hb hts u_X7_judge_7 hown hK hP (g_V_0 cI cO a σ) rfl (by decide) ⟨rfl, rfl, rfl⟩ k_X7_judge_f12 rfl dX7_judge_129 ?_
          refine x_geti (C := RX3) (k := 3) hx hb hts u_X7_judge_3 hown hK hP (g_V_1 cI cO a σ) rfl (by decide) ⟨rfl, rfl, rfl⟩ k_X7_judge_f53 rfl dX7_judge_132 h (fun x25 h => ?_)
          refine lv_icmp_ge (tgt := 143) hx hb dX7_judge_135 (by decide) (fun c26 => ?_) (fun c26 => ?_)
          · have h := if_t c26 h
            refine lv_bipush (v := (-2)) hx hb dX7_judge_143 (by decide +kernel) ?_
            exact x_iret (p_V cI cO a) hx hb hr hlocks hP hS dX7_judge_145 h
          · have h := if_f c26 h
            refine lv_iload hx hb dX7_judge_138 (lv_at hl 3 rfl) ?_
            refine lv_goto (tgt := 145) hx hb dX7_judge_140 (by decide) ?_
            exact x_iret (p_V cI cO a) hx hb hr hlocks hP hS dX7_judge_145 h
        · have h := if_f c24 h
          refine lv_aload_n hx hb dX7_judge_87 rfl (lv_at hl 0 rfl) ?_
          refine lv_iload_n hx hb dX7_judge_88 rfl (lv_at hl 1 rfl) ?_
          refine lv_iload hx hb dX7_judge_89 (lv_at hl 4 rfl) ?_
          refine lv_aload_n hx hb dX7_judge_91 rfl (lv_at hl 2 rfl) ?_
          refine x_getr (C := RX1) (k := 6) hx hb hts u_X7_judge_1 hown hK hP (gh_0 cI cO a σ hj_x21) rfl (by decide) ⟨rfl, rfl, rfl⟩ k_X7_judge_f207 rfl dX7_judge_92 ?_
          refine lv_iconst (v := 2) hx hb dX7_judge_95 (by decide +kernel) ?_
          refine lv_iload hx hb dX7_judge_96 (lv_at hl 4 rfl) ?_
          refine x_imul hx hb dX7_judge_98 h (fun x27 h => ?_)
          refine x_iald (t0 := 0) hx hb hK hP ht h (gh_1 cI cO a σ hj_x21) dX7_judge_99 (fun x28 h => ?_)
          refine lv_aload_n hx hb dX7_judge_100 rfl (lv_at hl 2 rfl) ?_
          refine x_getr (C := RX1) (k := 6) hx hb hts u_X7_judge_1 hown hK hP (gh_0 cI cO a σ hj_x21) rfl (by decide) ⟨rfl, rfl, rfl⟩ k_X7_judge_f207 rfl dX7_judge_101 ?_
          refine lv_iconst (v := 2) hx hb dX7_judge_104 (by decide +kernel) ?_
          refine lv_iload hx hb dX7_judge_105 (lv_at hl 4 rfl) ?_
          refine x_imul hx hb dX7_judge_107 h (fun x29 h => ?_)
          refine lv_iconst (v := 1) hx hb dX7_judge_108 (by decide +kernel) ?_
          refine x_iadd hx hb dX7_judge_109 h (fun x30 h => ?_)
          refine x_iald (t0 := 0) hx hb hK hP ht h (gh_1 cI cO a σ hj_x21) dX7_judge_110 (fun x31 h => ?_)
          refine x_cVi (p_V cI cO a) (p_V cI cO a) (fun τ => τ) [] [.int x20, .int x23, .int x28, .int x31] hx hb hml hl.1 hown hts hK hP hD hS hA rfl (c_X7_isOtherwise l D cI cO tys ht ht1 a σ x20 x23 x28 x31) gX7_judge_X7_isOtherwise rfl ⟨rfl, rfl⟩ i_X7_isOtherwise ⟨Nat.le_of_ble_eq_true rfl, Nat.le_of_ble_eq_true rfl⟩ q_frI (g_V_0 cI cO a σ) rfl rfl (Nat.le_of_ble_eq_true rfl) ⟨Nat.zero_le _, Nat.zero_le _⟩ dX7_judge_111 h (fun x33 H locs s32 hP hS h => ?_)
          refine lv_if_eq (tgt := 120) hx hb dX7_judge_114 (by decide) (fun c34 => ?_) (fun c34 => ?_)
          · have h := if_t c34 h
            refine x_iinc (k := 4) (w := 1) hx hb dX7_judge_120 hl rfl (by decide +kernel) (by decide) (fun v9 => [(5, .int v9), (0, .ref (a 0)), (2, .int x20), (3, .ref (a (94 + 2 * x21.toNatClampNeg))), (4, .int x22)]) (fun v9 => rfl) h (fun x35 ls hl h => ?_)
            have hl : lv_has ls 6 [(5, .int x35), (0, .ref (a 0)), (2, .int x20), (3, .ref (a (94 + 2 * x21.toNatClampNeg))), (4, .int x22)] := hl
            refine lv_goto (tgt := 80) hx hb dX7_judge_123 (by decide) ?_
            exact i80 s32 x20 x21 x22 x35 _ _ _ hj_x21 h hP hS (lv_sub hl [1, 2, 3, 4, 0] rfl)
          · have h := if_f c34 h
            refine lv_iload hx hb dX7_judge_117 (lv_at hl 4 rfl) ?_
            exact x_iret (p_V cI cO a) hx hb hr hlocks hP hS dX7_judge_119 h
  have i80 : ∀ (σ : qM) (x20 x21 x22 x23 : Int32) (H : Heap) (locs : List Loc) (ls : Array Slot), x21.toNatClampNeg < 6 → q_lim (D_X7_judge) 0 σ [x20, x21, x22, x23] = some qq → va_P D vwCl (p_V cI cO a σ) H → va_S A s.heap H locs → lv_has ls 6 [(0, .ref (a 0)), (2, .int x20), (3, .ref (a (94 + 2 * x21.toNatClampNeg))), (4, .int x22), (5, .int x23)] → W p l e ({ frames := 2, cells := 0, slots := 0, locals := 46 }) s m [.ref (a 0), .int x1, .int x2].toArray below meth c H locs 0 0 (MQ below (va_Qi (fun r τ => (r, τ) = qq) (fun τ t => va_P D vwCl ((p_V cI cO a) τ) t.heap) A) [.ref (a 0), .int x1, .int x2].toArray s 0 0 A) (F0 m 80 ls []) := by
    intro σ x20 x21 x22 x23 H locs ls hj_x21 h hP hS hl
    obtain ⟨k9, h⟩ := q_lim_n h
    exact (main k9) σ x20 x21 x22 x23 H locs ls hj_x21 h hP hS hl
  have h : e_X7_judge (q_lim (D_X7_judge)) σ x1 x2 = some qq := h
  unfold e_X7_judge at h
  refine lv_iload_n hx hb dX7_judge_0 rfl (lv_at hl 1 rfl) ?_
  refine x_cSi (p_V cI cO a) (fun _ => []) (fun _ => σ) [] [.int x1] hx hb hml hl.1 hown hts hK hP hD hS hA rfl (c_X7_noHolder l D cI tys ht σ x1) gX7_judge_X7_noHolder rfl ⟨rfl, rfl⟩ i_X7_noHolder ⟨Nat.le_of_ble_eq_true rfl, Nat.le_of_ble_eq_true rfl⟩ (q_fr0 (fun _ => rfl)) rfl (Nat.le_of_ble_eq_true rfl) ⟨Nat.zero_le _, Nat.zero_le _⟩ dX7_judge_1 h (fun x4 H locs s3 hP hS h => ?_)
  refine lv_if_ne (tgt := 15) hx hb dX7_judge_4 (by decide) (fun c5 => ?_) (fun c5 => ?_)
  · have h := if_f c5 h
    refine lv_iconst (v := (-1)) hx hb dX7_judge_15 (by decide +kernel) ?_
    exact x_iret (p_V cI cO a) hx hb hr hlocks hP hS dX7_judge_16 h
  · have h := if_t c5 h
    refine lv_aload_n hx hb dX7_judge_7 rfl (lv_at hl 0 rfl) ?_
    refine lv_iload_n hx hb dX7_judge_8 rfl (lv_at hl 2 rfl) ?_
    refine x_cVi (p_V cI cO a) (p_V cI cO a) (fun τ => τ) [] [.int x2] hx hb hml hl.1 hown hts hK hP hD hS hA rfl (c_X7_noRouter l D cI cO tys ht ht1 a s3 x2) gX7_judge_X7_noRouter rfl ⟨rfl, rfl⟩ i_X7_noRouter ⟨Nat.le_of_ble_eq_true rfl, Nat.le_of_ble_eq_true rfl⟩ q_frI (g_V_0 cI cO a s3) rfl rfl (Nat.le_of_ble_eq_true rfl) ⟨Nat.zero_le _, Nat.zero_le _⟩ dX7_judge_9 h (fun x7 H locs s6 hP hS h => ?_)
    refine lv_if_eq (tgt := 17) hx hb dX7_judge_12 (by decide) (fun c8 => ?_) (fun c8 => ?_)
    · have h := if_t c8 h
      refine lv_aload_n hx hb dX7_judge_17 rfl (lv_at hl 0 rfl) ?_
      refine x_getr (C := RX7) (k := 7) hx hb hts u_X7_judge_7 hown hK hP (g_V_0 cI cO a s6) rfl (by decide) ⟨rfl, rfl, rfl⟩ k_X7_judge_f48 rfl dX7_judge_18 ?_
      refine lv_iload_n hx hb dX7_judge_21 rfl (lv_at hl 1 rfl) ?_
      refine va_aldq hx hb hK hP 93 1 (g_V_93 cI cO a s6) ht1 (q_in (q_gd_of h).1) dX7_judge_22 ?_
      have hj_x1 := q_lt6 (q_gd_of h).1
      have h := (q_gd_of h).2
      refine W.eq (g2 := F0 m 23 ls [.ref (a (94 + 2 * x1.toNatClampNeg))]) rfl ?_
      refine lv_astore_n (lv' := [(3, .ref (a (94 + 2 * x1.toNatClampNeg))), (0, .ref (a 0)), (1, .int x1), (2, .int x2)]) hx hb dX7_judge_23 rfl hl (by decide) rfl (fun ls hl => ?_)
      refine lv_aload_n hx hb dX7_judge_24 rfl (lv_at hl 0 rfl) ?_
      refine x_geti (C := RX1) (k := 0) hx hb hts u_X7_judge_1 hown hK hP (gh_0 cI cO a s6 hj_x1) rfl (by decide) ⟨rfl, rfl, rfl⟩ k_X7_judge_f203 rfl dX7_judge_25 h (fun x9 h => ?_)
      refine lv_if_ne (tgt := 34) hx hb dX7_judge_28 (by decide) (fun c10 => ?_) (fun c10 => ?_)
      · have h := if_f c10 h
        refine lv_aload_n hx hb dX7_judge_34 rfl (lv_at hl 0 rfl) ?_
        refine x_geti (C := RX1) (k := 0) hx hb hts u_X7_judge_1 hown hK hP (gh_0 cI cO a s6 hj_x1) rfl (by decide) ⟨rfl, rfl, rfl⟩ k_X7_judge_f203 rfl dX7_judge_35 h (fun x11 h => ?_)
        refine lv_iconst (v := 2) hx hb dX7_judge_38 (by decide +kernel) ?_
        refine lv_icmp_eq (tgt := 45) hx hb dX7_judge_39 (by decide) (fun c12 => ?_) (fun c12 => ?_)
        · have h := if_t c12 h
          refine lv_aload_n hx hb dX7_judge_45 rfl (lv_at hl 0 rfl) ?_
          refine x_geti (C := RX1) (k := 7) hx hb hts u_X7_judge_1 hown hK hP (gh_0 cI cO a s6 hj_x1) rfl (by decide) ⟨rfl, rfl, rfl⟩ k_X7_judge_f206 rfl dX7_judge_46 h (fun x13 h => ?_)
          refine lv_iconst (v := 2) hx hb dX7_judge_49 (by decide +kernel) ?_
          refine x_idiv hx hb dX7_judge_50 h (fun x14 h => ?_)
          refine lv_istore (lv' := [(4, .int x14), (3, .ref (a (94 + 2 * x1.toNatClampNeg))), (0, .ref (a 0)), (1, .int x1), (2, .int x2)]) hx hb dX7_judge_51 hl (by decide) rfl (fun ls hl => ?_)
          refine lv_aload_n hx hb dX7_judge_53 rfl (lv_at hl 1 rfl) ?_
          refine x_geti (C := RX1) (k := 7) hx hb hts u_X7_judge_1 hown hK hP (gh_0 cI cO a s6 hj_x1) rfl (by decide) ⟨rfl, rfl, rfl⟩ k_X7_judge_f206 rfl dX7_judge_54 h (fun x15 h => ?_)
          refine lv_iconst (v := 2) hx hb dX7_judge_57 (by decide +kernel) ?_
          refine x_irem hx hb dX7_judge_58 h (fun x16 h => ?_)
          refine lv_if_ne (tgt := 74) hx hb dX7_judge_59 (by decide) (fun c17 => ?_) (fun c17 => ?_)
          · have h := if_f c17 h
            refine lv_bipush (v := (-13)) hx hb dX7_judge_74 (by decide +kernel) ?_
            exact x_iret (p_V cI cO a) hx hb hr hlocks hP hS dX7_judge_76 h
          · have h := if_t c17 h
            refine lv_iload hx hb dX7_judge_62 (lv_at hl 0 rfl) ?_
            refine lv_aload_n hx hb dX7_judge_64 rfl (lv_at hl 2 rfl) ?_
            refine x_getr (C := RX7) (k := 0) hx hb hts u_X7_judge_7 hown hK hP (g_V_0 cI cO a s6) rfl (by decide) ⟨rfl, rfl, rfl⟩ k_X7_judge_f12 rfl dX7_judge_65 ?_
            refine x_geti (C := RX3) (k := 3) hx hb hts u_X7_judge_3 hown hK hP (g_V_1 cI cO a s6) rfl (by decide) ⟨rfl, rfl, rfl⟩ k_X7_judge_f53 rfl dX7_judge_68 h (fun x18 h => ?_)
            refine lv_icmp_le (tgt := 77) hx hb dX7_judge_71 (by decide) (fun c19 => ?_) (fun c19 => ?_)
            · have h := if_t c19 h
              refine lv_iconst (v := 0) hx hb dX7_judge_77 (by decide +kernel) ?_
              refine lv_istore (lv' := [(5, .int 0), (4, .int x14), (3, .ref (a (94 + 2 * x1.toNatClampNeg))), (0, .ref (a 0)), (1, .int x1), (2, .int x2)]) hx hb dX7_judge_78 hl (by decide) rfl (fun ls hl => ?_)
              exact i80 s6 x2 x1 x14 0 _ _ _ hj_x1 h hP hS (lv_sub hl [3, 5, 2, 1, 0] rfl)
            · have h := if_f c19 h
              refine lv_bipush (v := (-13)) hx hb dX7_judge_74 (by decide +kernel) ?_
              exact x_iret (p_V cI cO a) hx hb hr hlocks hP hS dX7_judge_76 h
        · have h := if_f c12 h
          refine lv_bipush (v := (-12)) hx hb dX7_judge_42 (by decide +kernel) ?_
          exact x_iret (p_V cI cO a) hx hb hr hlocks hP hS dX7_judge_44 h
      · have h := if_t c10 h
        refine lv_bipush (v := (-11)) hx hb dX7_judge_31 (by decide +kernel) ?_
        exact x_iret (p_V cI cO a) hx hb hr hlocks hP hS dX7_judge_33 h
    · have h := if_f c8 h
      refine lv_iconst (v := (-1)) hx hb dX7_judge_15 (by decide +kernel) ?_
      exact x_iret (p_V cI cO a) hx hb hr hlocks hP hS dX7_judge_16 h
/-! ===== VectorRounds.drawLink(I)V: world V ===== -/
theorem i_X7_drawLink : yX7_drawLink.cls = RX7 ∧ yX7_drawLink.cls ≠ "java/lang/invoke/MethodHandle" ∧ yX7_drawLink.cls ≠ "java/lang/invoke/VarHandle" ∧ (parseMethodDescriptor yX7_drawLink.desc).map (fun d => d.parameters.length) = some 1 := by decide +kernel
theorem k_X7_drawLink_f12 : Cond.fieldLink RX7 12 RX7 "now" "LVectorRounds$Network;" ∈ wsX7_drawLink := by decide +kernel
theorem k_X7_drawLink_f53 : Cond.fieldLink RX7 53 RX3 "routers" "I" ∈ wsX7_drawLink := by decide +kernel
theorem k_X7_drawLink_f65 : Cond.fieldLink RX7 65 RX3 "links" "LVectorRounds$Links;" ∈ wsX7_drawLink := by decide +kernel
theorem k_X7_drawLink_f75 : Cond.fieldLink RX7 75 RX2 "size" "I" ∈ wsX7_drawLink := by decide +kernel
theorem k_X7_drawLink_m273 : Cond.methodLink RX7 273 Lib.Math.max.name ∈ wsX7_drawLink ∧ Cond.static Lib.Math.max.name ∈ wsX7_drawLink ∧ Cond.initialized "java/lang/Math" ∈ wsX7_drawLink ∧ Cond.code Lib.Math.max.name Lib.Math.max.code 2 (some .int) ∈ wsX7_drawLink := by decide +kernel
theorem u_X7_drawLink_2 : ∀ w ∈ u_ws RX2 TX2 6, w ∈ wsX7_drawLink := by decide +kernel
theorem u_X7_drawLink_3 : ∀ w ∈ u_ws RX3 TX3 9, w ∈ wsX7_drawLink := by decide +kernel
theorem u_X7_drawLink_7 : ∀ w ∈ u_ws RX7 TX7 9, w ∈ wsX7_drawLink := by decide +kernel
set_option maxHeartbeats 4000000 in
set_option maxRecDepth 100000 in
theorem c_X7_drawLink (l : Launch) (D : va_G) (cI cO : ClassId) (tys : List (ClassId × FieldType)) (ht : tys[0]? = some (cI, .int)) (ht1 : tys[1]? = some (cO, .object "VectorRounds$Holder")) (a : Nat → Nat) (σ : qM) (x1 : Int32) : q_Mev l yX7_drawLink wsX7_drawLink ({ frames := 3, cells := 0, slots := 0, locals := 68 }) [.ref (a 0), .int x1] D tys (p_V cI cO a) σ (f_X7_drawLink σ x1) := by
  refine x_ofWv (cc := cX7_drawLink) (maxL := 6) (ret := none) (by decide +kernel) rfl (pf_V cI cO a) (Nat.le_of_ble_eq_true rfl) ?_
  intro p e s m below meth c A ls qq h hx hb hml hr hlocks hown hts hK hP hD hA hS hl
  have hown : s.vm.findClass RX7 = some m.cls := hown
  have hl : lv_has ls 6 [(0, .ref (a 0)), (1, .int x1)] := hl
  unfold f_X7_drawLink at h
  refine lv_iconst (v := 1) hx hb dX7_drawLink_0 (by decide +kernel) ?_
  refine lv_aload_n hx hb dX7_drawLink_1 rfl (lv_at hl 0 rfl) ?_
  refine x_getr (C := RX7) (k := 0) hx hb hts u_X7_drawLink_7 hown hK hP (g_V_0 cI cO a σ) rfl (by decide) ⟨rfl, rfl, rfl⟩ k_X7_drawLink_f12 rfl dX7_drawLink_2 ?_
  refine x_geti (C := RX3) (k := 3) hx hb hts u_X7_drawLink_3 hown hK hP (g_V_1 cI cO a σ) rfl (by decide) ⟨rfl, rfl, rfl⟩ k_X7_drawLink_f53 rfl dX7_drawLink_5 h (fun x2 h => ?_)
  refine x_mmax hx hb (hml.trans hl.1.symm) hown hts k_X7_drawLink_m273 ⟨Nat.le_of_ble_eq_true rfl, Nat.le_of_ble_eq_true rfl, Nat.zero_le _, Nat.zero_le _⟩ dX7_drawLink_8 h (fun x3 h => ?_)
  refine lv_istore_n (lv' := [(2, .int x3), (0, .ref (a 0)), (1, .int x1)]) hx hb dX7_drawLink_11 rfl hl (by decide) rfl (fun ls hl => ?_)
  refine lv_iload_n hx hb dX7_drawLink_12 rfl (lv_at hl 2 rfl) ?_
  refine lv_iload_n hx hb dX7_drawLink_13 rfl (lv_at hl 0 rfl) ?_
  refine x_irem hx hb dX7_drawLink_14 h (fun x4 h => ?_)
  refine lv_istore_n (lv' := [(3, .int x4), (2, .int x3), (0, .ref (a 0)), (1, .int x1)]) hx hb dX7_drawLink_15 rfl hl (by decide) rfl (fun ls hl => ?_)
  refine lv_iload_n hx hb dX7_drawLink_16 rfl (lv_at hl 3 rfl) ?_
  refine lv_bipush (v := 10) hx hb dX7_drawLink_17 (by decide +kernel) ?_
  refine x_idiv hx hb dX7_drawLink_19 h (fun x5 h => ?_)
  refine lv_iload_n hx hb dX7_drawLink_20 rfl (lv_at hl 1 rfl) ?_
  refine x_irem hx hb dX7_drawLink_21 h (fun x6 h => ?_)
  refine lv_istore (lv' := [(4, .int x6), (3, .int x4), (2, .int x3), (0, .ref (a 0)), (1, .int x1)]) hx hb dX7_drawLink_22 hl (by decide) rfl (fun ls hl => ?_)
  refine lv_iload_n hx hb dX7_drawLink_24 rfl (lv_at hl 1 rfl) ?_
  refine lv_iload hx hb dX7_drawLink_25 (lv_at hl 0 rfl) ?_
  refine lv_icmp_ne (tgt := 31) hx hb dX7_drawLink_27 (by decide) (fun c7 => ?_) (fun c7 => ?_)
  · have h := if_f c7 h
    refine lv_aload_n hx hb dX7_drawLink_31 rfl (lv_at hl 3 rfl) ?_
    refine x_getr (C := RX7) (k := 0) hx hb hts u_X7_drawLink_7 hown hK hP (g_V_0 cI cO a σ) rfl (by decide) ⟨rfl, rfl, rfl⟩ k_X7_drawLink_f12 rfl dX7_drawLink_32 ?_
    refine x_getr (C := RX3) (k := 2) hx hb hts u_X7_drawLink_3 hown hK hP (g_V_1 cI cO a σ) rfl (by decide) ⟨rfl, rfl, rfl⟩ k_X7_drawLink_f65 rfl dX7_drawLink_35 ?_
    refine lv_iload_n hx hb dX7_drawLink_38 rfl (lv_at hl 1 rfl) ?_
    refine lv_iload hx hb dX7_drawLink_39 (lv_at hl 0 rfl) ?_
    refine x_cVi (p_V cI cO a) (p_L cI (q_sub 16 a)) (q_put 16 6 σ) [] [.int x4, .int x6] hx hb hml hl.1 hown hts hK hP hD hS hA rfl (c_X2_joining l D cI tys ht (q_sub 16 a) (q_sub 16 σ) x4 x6) gX7_drawLink_X2_joining rfl ⟨rfl, rfl⟩ i_X2_joining ⟨Nat.le_of_ble_eq_true rfl, Nat.le_of_ble_eq_true rfl⟩ (fr_V_L_16 cI cO a σ) (g_L_0 cI (q_sub 16 a) (q_sub 16 σ)) rfl rfl (Nat.le_of_ble_eq_true rfl) ⟨Nat.zero_le _, Nat.zero_le _⟩ dX7_drawLink_41 h (fun x9 H locs s8 hP hS h => ?_)
    refine lv_istore (lv' := [(5, .int x9), (4, .int x6), (3, .int x4), (2, .int x3), (0, .ref (a 0)), (1, .int x1)]) hx hb dX7_drawLink_44 hl (by decide) rfl (fun ls hl => ?_)
    refine lv_iload hx hb dX7_drawLink_46 (lv_at hl 0 rfl) ?_
    refine lv_if_lt (tgt := 63) hx hb dX7_drawLink_48 (by decide) (fun c10 => ?_) (fun c10 => ?_)
    · have h := if_t c10 h
      refine lv_aload_n hx hb dX7_drawLink_63 rfl (lv_at hl 4 rfl) ?_
      refine x_getr (C := RX7) (k := 0) hx hb hts u_X7_drawLink_7 hown hK hP (g_V_0 cI cO a s8) rfl (by decide) ⟨rfl, rfl, rfl⟩ k_X7_drawLink_f12 rfl dX7_drawLink_64 ?_
      refine x_getr (C := RX3) (k := 2) hx hb hts u_X7_drawLink_3 hown hK hP (g_V_1 cI cO a s8) rfl (by decide) ⟨rfl, rfl, rfl⟩ k_X7_drawLink_f65 rfl dX7_drawLink_67 ?_
      refine x_geti (C := RX2) (k := 5) hx hb hts u_X7_drawLink_2 hown hK hP (g_V_16 cI cO a s8) rfl (by decide) ⟨rfl, rfl, rfl⟩ k_X7_drawLink_f75 rfl dX7_drawLink_70 h (fun x11 h => ?_)
      refine lv_bipush (v := 24) hx hb dX7_drawLink_73 (by decide +kernel) ?_
      refine lv_icmp_ge (tgt := 101) hx hb dX7_drawLink_75 (by decide) (fun c12 => ?_) (fun c12 => ?_)
      · have h := if_t c12 h
        exact x_vret (p_V cI cO a) hx hb hr hlocks hP hS dX7_drawLink_101 h
      · have h := if_f c12 h
        refine lv_aload_n hx hb dX7_drawLink_78 rfl (lv_at hl 4 rfl) ?_
        refine x_getr (C := RX7) (k := 0) hx hb hts u_X7_drawLink_7 hown hK hP (g_V_0 cI cO a s8) rfl (by decide) ⟨rfl, rfl, rfl⟩ k_X7_drawLink_f12 rfl dX7_drawLink_79 ?_
        refine x_getr (C := RX3) (k := 2) hx hb hts u_X7_drawLink_3 hown hK hP (g_V_1 cI cO a s8) rfl (by decide) ⟨rfl, rfl, rfl⟩ k_X7_drawLink_f65 rfl dX7_drawLink_82 ?_
        refine lv_iload_n hx hb dX7_drawLink_85 rfl (lv_at hl 2 rfl) ?_
        refine lv_iload hx hb dX7_drawLink_86 (lv_at hl 1 rfl) ?_
        refine lv_iconst (v := 1) hx hb dX7_drawLink_88 (by decide +kernel) ?_
        refine lv_iload_n hx hb dX7_drawLink_89 rfl (lv_at hl 5 rfl) ?_
        refine lv_bipush (v := 100) hx hb dX7_drawLink_90 (by decide +kernel) ?_
        refine x_idiv hx hb dX7_drawLink_92 h (fun x13 h => ?_)
        refine lv_bipush (v := 15) hx hb dX7_drawLink_93 (by decide +kernel) ?_
        refine x_irem hx hb dX7_drawLink_95 h (fun x14 h => ?_)
        refine x_iadd hx hb dX7_drawLink_96 h (fun x15 h => ?_)
        refine x_cVi (p_V cI cO a) (p_L cI (q_sub 16 a)) (q_put 16 6 s8) [] [.int x4, .int x6, .int x15] hx hb hml hl.1 hown hts hK hP hD hS hA rfl (c_X2_add l D cI tys ht (q_sub 16 a) (q_sub 16 s8) x4 x6 x15) gX7_drawLink_X2_add rfl ⟨rfl, rfl⟩ i_X2_add ⟨Nat.le_of_ble_eq_true rfl, Nat.le_of_ble_eq_true rfl⟩ (fr_V_L_16 cI cO a s8) (g_L_0 cI (q_sub 16 a) (q_sub 16 s8)) rfl rfl (Nat.le_of_ble_eq_true rfl) ⟨Nat.zero_le _, Nat.zero_le _⟩ dX7_drawLink_97 h (fun x17 H locs s16 hP hS h => ?_)
        refine lv_pop hx hb dX7_drawLink_100 rfl ?_
        exact x_vret (p_V cI cO a) hx hb hr hlocks hP hS dX7_drawLink_101 h
    · have h := if_f c10 h
      refine lv_aload_n hx hb dX7_drawLink_51 rfl (lv_at hl 4 rfl) ?_
      refine x_getr (C := RX7) (k := 0) hx hb hts u_X7_drawLink_7 hown hK hP (g_V_0 cI cO a s8) rfl (by decide) ⟨rfl, rfl, rfl⟩ k_X7_drawLink_f12 rfl dX7_drawLink_52 ?_
      refine lv_iload hx hb dX7_drawLink_55 (lv_at hl 0 rfl) ?_
      refine x_cVv (p_V cI cO a) (p_N cI (q_sub 1 a)) (q_put 1 21 s8) [] [.int x9] hx hb hml hl.1 hown hts hK hP hD hS hA rfl (c_X3_switchLink l D cI tys ht (q_sub 1 a) (q_sub 1 s8) x9) gX7_drawLink_X3_switchLink rfl ⟨rfl, rfl⟩ i_X3_switchLink ⟨Nat.le_of_ble_eq_true rfl, Nat.le_of_ble_eq_true rfl⟩ (fr_V_N_1 cI cO a s8) (g_N_0 cI (q_sub 1 a) (q_sub 1 s8)) rfl rfl (Nat.le_of_ble_eq_true rfl) ⟨Nat.zero_le _, Nat.zero_le _⟩ dX7_drawLink_57 h (fun H locs s18 hP hS h => ?_)
      refine lv_goto (tgt := 101) hx hb dX7_drawLink_60 (by decide) ?_
      exact x_vret (p_V cI cO a) hx hb hr hlocks hP hS dX7_drawLink_101 h
  · have h := if_t c7 h
    exact x_vret (p_V cI cO a) hx hb hr hlocks hP hS dX7_drawLink_30 h
/-! ===== VectorRounds.drawn(II)I: world V ===== -/
theorem i_X7_drawn : yX7_drawn.cls = RX7 ∧ yX7_drawn.cls ≠ "java/lang/invoke/MethodHandle" ∧ yX7_drawn.cls ≠ "java/lang/invoke/VarHandle" ∧ (parseMethodDescriptor yX7_drawn.desc).map (fun d => d.parameters.length) = some 2 := by decide +kernel
theorem k_X7_drawn_c214 : Cond.constant RX7 214 (1103515245) ∈ wsX7_drawn := by decide +kernel
theorem k_X7_drawn_f12 : Cond.fieldLink RX7 12 RX7 "now" "LVectorRounds$Network;" ∈ wsX7_drawn := by decide +kernel
theorem k_X7_drawn_f53 : Cond.fieldLink RX7 53 RX3 "routers" "I" ∈ wsX7_drawn := by decide +kernel
theorem k_X7_drawn_f65 : Cond.fieldLink RX7 65 RX3 "links" "LVectorRounds$Links;" ∈ wsX7_drawn := by decide +kernel
theorem k_X7_drawn_f75 : Cond.fieldLink RX7 75 RX2 "size" "I" ∈ wsX7_drawn := by decide +kernel
theorem u_X7_drawn_2 : ∀ w ∈ u_ws RX2 TX2 6, w ∈ wsX7_drawn := by decide +kernel
theorem u_X7_drawn_3 : ∀ w ∈ u_ws RX3 TX3 9, w ∈ wsX7_drawn := by decide +kernel
theorem u_X7_drawn_7 : ∀ w ∈ u_ws RX7 TX7 9, w ∈ wsX7_drawn := by decide +kernel
set_option maxHeartbeats 4000000 in
set_option maxRecDepth 100000 in
theorem c_X7_drawn (l : Launch) (D : va_G) (cI cO : ClassId) (tys : List (ClassId × FieldType)) (ht : tys[0]? = some (cI, .int)) (ht1 : tys[1]? = some (cO, .object "VectorRounds$Holder")) (a : Nat → Nat) (σ : qM) (x1 : Int32) (x2 : Int32) : q_Met l yX7_drawn wsX7_drawn ({ frames := 4, cells := 0, slots := 0, locals := 93 }) [.ref (a 0), .int x1, .int x2] D tys (p_V cI cO a) σ (f_X7_drawn σ x1 x2) := by
  refine x_ofWi (cc := cX7_drawn) (maxL := 5) (ret := (some .int)) (by decide +kernel) rfl (pf_V cI cO a) (Nat.le_of_ble_eq_true rfl) ?_
  intro p e s m below meth c A ls qq h hx hb hml hr hlocks hown hts hK hP hD hA hS hl
  have hown : s.vm.findClass RX7 = some m.cls := hown
  have hl : lv_has ls 5 [(0, .ref (a 0)), (1, .int x1), (2, .int x2)] := hl
  have main : ∀ k9 : Nat, (∀ (σ : qM) (x7 x8 x9 : Int32) (H : Heap) (locs : List Loc) (ls : Array Slot), q_it (D_X7_drawn) k9 0 σ [x7, x8, x9] = some qq → va_P D vwCl (p_V cI cO a σ) H → va_S A s.heap H locs → lv_has ls 5 [(0, .ref (a 0)), (2, .int x7), (3, .int x8), (4, .int x9)] → W p l e ({ frames := 4, cells := 0, slots := 0, locals := 93 }) s m [.ref (a 0), .int x1, .int x2].toArray below meth c H locs 0 0 (MQ below (va_Qi (fun r τ => (r, τ) = qq) (fun τ t => va_P D vwCl ((p_V cI cO a) τ) t.heap) A) [.ref (a 0), .int x1, .int x2].toArray s 0 0 A) (F0 m 32 ls [])) := by
    intro k9
    induction k9 with
    | zero => exact (fun _ _ _ _ _ _ _ h _ _ _ => (q_no (show (none : qR) = some qq from h)).elim)
    | succ k9 ih =>
      have i32 := ih
      refine ?_
      · intro σ x7 x8 x9 H locs ls h hP hS hl
        have h : b_X7_drawn_32 (q_it (D_X7_drawn) k9) σ x7 x8 x9 = some qq := h
        unfold b_X7_drawn_32 at h
        refine lv_iload hx hb dX7_drawn_32 (lv_at hl 3 rfl) ?_
        refine lv_iload_n hx hb dX7_drawn_34 rfl (lv_at hl 1 rfl) ?_
        refine lv_icmp_ge (tgt := 65) hx hb dX7_drawn_35 (by decide) (fun c10 => ?_) (fun c10 => ?_)
        · have h := if_t c10 h
          refine lv_aload_n hx hb dX7_drawn_65 rfl (lv_at hl 0 rfl) ?_
          refine x_getr (C := RX7) (k := 0) hx hb hts u_X7_drawn_7 hown hK hP (g_V_0 cI cO a σ) rfl (by decide) ⟨rfl, rfl, rfl⟩ k_X7_drawn_f12 rfl dX7_drawn_66 ?_
          refine x_getr (C := RX3) (k := 2) hx hb hts u_X7_drawn_3 hown hK hP (g_V_1 cI cO a σ) rfl (by decide) ⟨rfl, rfl, rfl⟩ k_X7_drawn_f65 rfl dX7_drawn_69 ?_
          refine x_geti (C := RX2) (k := 5) hx hb hts u_X7_drawn_2 hown hK hP (g_V_16 cI cO a σ) rfl (by decide) ⟨rfl, rfl, rfl⟩ k_X7_drawn_f75 rfl dX7_drawn_72 h (fun x11 h => ?_)
          exact x_iret (p_V cI cO a) hx hb hr hlocks hP hS dX7_drawn_75 h
        · have h := if_f c10 h
          refine lv_iload_n hx hb dX7_drawn_38 rfl (lv_at hl 2 rfl) ?_
          refine lv_ldc (v := 1103515245) hx hb hown (hts _ k_X7_drawn_c214) dX7_drawn_39 ?_
          refine x_imul hx hb dX7_drawn_41 h (fun x12 h => ?_)
          refine lv_sipush (v := 12345) hx hb dX7_drawn_42 (by decide +kernel) ?_
          refine x_iadd hx hb dX7_drawn_45 h (fun x13 h => ?_)
          refine lv_istore_n (lv' := [(3, .int x13), (0, .ref (a 0)), (2, .int x7), (4, .int x9)]) hx hb dX7_drawn_46 rfl hl (by decide) rfl (fun ls hl => ?_)
          refine lv_aload_n hx hb dX7_drawn_47 rfl (lv_at hl 1 rfl) ?_
          refine lv_iload_n hx hb dX7_drawn_48 rfl (lv_at hl 0 rfl) ?_
          refine lv_bipush (v := 16) hx hb dX7_drawn_49 (by decide +kernel) ?_
          refine x_iushr hx hb dX7_drawn_51 h (fun x14 h => ?_)
          refine lv_sipush (v := 32767) hx hb dX7_drawn_52 (by decide +kernel) ?_
          refine x_iand hx hb dX7_drawn_55 h (fun x15 h => ?_)
          refine x_cVv (p_V cI cO a) (p_V cI cO a) (fun τ => τ) [] [.int x15] hx hb hml hl.1 hown hts hK hP hD hS hA rfl (c_X7_drawLink l D cI cO tys ht ht1 a σ x15) gX7_drawn_X7_drawLink rfl ⟨rfl, rfl⟩ i_X7_drawLink ⟨Nat.le_of_ble_eq_true rfl, Nat.le_of_ble_eq_true rfl⟩ q_frI (g_V_0 cI cO a σ) rfl rfl (Nat.le_of_ble_eq_true rfl) ⟨Nat.zero_le _, Nat.zero_le _⟩ dX7_drawn_56 h (fun H locs s16 hP hS h => ?_)
          refine x_iinc (k := 3) (w := 1) hx hb dX7_drawn_59 hl rfl (by decide +kernel) (by decide) (fun v9 => [(4, .int v9), (3, .int x13), (0, .ref (a 0)), (2, .int x7)]) (fun v9 => rfl) h (fun x17 ls hl h => ?_)
          have hl : lv_has ls 5 [(4, .int x17), (3, .int x13), (0, .ref (a 0)), (2, .int x7)] := hl
          refine lv_goto (tgt := 32) hx hb dX7_drawn_62 (by decide) ?_
          exact i32 s16 x7 x13 x17 _ _ _ h hP hS (lv_sub hl [2, 3, 1, 0] rfl)
  have i32 : ∀ (σ : qM) (x7 x8 x9 : Int32) (H : Heap) (locs : List Loc) (ls : Array Slot), q_lim (D_X7_drawn) 0 σ [x7, x8, x9] = some qq → va_P D vwCl (p_V cI cO a σ) H → va_S A s.heap H locs → lv_has ls 5 [(0, .ref (a 0)), (2, .int x7), (3, .int x8), (4, .int x9)] → W p l e ({ frames := 4, cells := 0, slots := 0, locals := 93 }) s m [.ref (a 0), .int x1, .int x2].toArray below meth c H locs 0 0 (MQ below (va_Qi (fun r τ => (r, τ) = qq) (fun τ t => va_P D vwCl ((p_V cI cO a) τ) t.heap) A) [.ref (a 0), .int x1, .int x2].toArray s 0 0 A) (F0 m 32 ls []) := by
    intro σ x7 x8 x9 H locs ls h hP hS hl
    obtain ⟨k9, h⟩ := q_lim_n h
    exact (main k9) σ x7 x8 x9 H locs ls h hP hS hl
  have h : e_X7_drawn (q_lim (D_X7_drawn)) σ x1 x2 = some qq := h
  unfold e_X7_drawn at h
  refine lv_iload_n hx hb dX7_drawn_0 rfl (lv_at hl 2 rfl) ?_
  refine lv_iconst (v := 1) hx hb dX7_drawn_1 (by decide +kernel) ?_
  refine lv_icmp_lt (tgt := 11) hx hb dX7_drawn_2 (by decide) (fun c3 => ?_) (fun c3 => ?_)
  · have h := if_t c3 h
    refine lv_iconst (v := (-1)) hx hb dX7_drawn_11 (by decide +kernel) ?_
    exact x_iret (p_V cI cO a) hx hb hr hlocks hP hS dX7_drawn_12 h
  · have h := if_f c3 h
    refine lv_iload_n hx hb dX7_drawn_5 rfl (lv_at hl 2 rfl) ?_
    refine lv_bipush (v := 12) hx hb dX7_drawn_6 (by decide +kernel) ?_
    refine lv_icmp_le (tgt := 13) hx hb dX7_drawn_8 (by decide) (fun c4 => ?_) (fun c4 => ?_)
    · have h := if_t c4 h
      refine lv_aload_n hx hb dX7_drawn_13 rfl (lv_at hl 0 rfl) ?_
      refine x_getr (C := RX7) (k := 0) hx hb hts u_X7_drawn_7 hown hK hP (g_V_0 cI cO a σ) rfl (by decide) ⟨rfl, rfl, rfl⟩ k_X7_drawn_f12 rfl dX7_drawn_14 ?_
      refine x_geti (C := RX3) (k := 3) hx hb hts u_X7_drawn_3 hown hK hP (g_V_1 cI cO a σ) rfl (by decide) ⟨rfl, rfl, rfl⟩ k_X7_drawn_f53 rfl dX7_drawn_17 h (fun x5 h => ?_)
      refine lv_iconst (v := 2) hx hb dX7_drawn_20 (by decide +kernel) ?_
      refine lv_icmp_ge (tgt := 27) hx hb dX7_drawn_21 (by decide) (fun c6 => ?_) (fun c6 => ?_)
      · have h := if_t c6 h
        refine lv_iload_n hx hb dX7_drawn_27 rfl (lv_at hl 1 rfl) ?_
        refine lv_istore_n (lv' := [(3, .int x1), (0, .ref (a 0)), (1, .int x1), (2, .int x2)]) hx hb dX7_drawn_28 rfl hl (by decide) rfl (fun ls hl => ?_)
        refine lv_iconst (v := 0) hx hb dX7_drawn_29 (by decide +kernel) ?_
        refine lv_istore (lv' := [(4, .int 0), (3, .int x1), (0, .ref (a 0)), (1, .int x1), (2, .int x2)]) hx hb dX7_drawn_30 hl (by decide) rfl (fun ls hl => ?_)
        exact i32 σ x2 x1 0 _ _ _ h hP hS (lv_sub hl [2, 4, 1, 0] rfl)
      · have h := if_f c6 h
        refine lv_bipush (v := (-5)) hx hb dX7_drawn_24 (by decide +kernel) ?_
        exact x_iret (p_V cI cO a) hx hb hr hlocks hP hS dX7_drawn_26 h
    · have h := if_f c4 h
      refine lv_iconst (v := (-1)) hx hb dX7_drawn_11 (by decide +kernel) ?_
      exact x_iret (p_V cI cO a) hx hb hr hlocks hP hS dX7_drawn_12 h
/-! ===== VectorRounds.feed(I)I: world V ===== -/
theorem i_X7_feed : yX7_feed.cls = RX7 ∧ yX7_feed.cls ≠ "java/lang/invoke/MethodHandle" ∧ yX7_feed.cls ≠ "java/lang/invoke/VarHandle" ∧ (parseMethodDescriptor yX7_feed.desc).map (fun d => d.parameters.length) = some 1 := by decide +kernel
theorem k_X7_feed_f218 : Cond.fieldLink RX7 218 RX5 "length" "I" ∈ wsX7_feed := by decide +kernel
theorem k_X7_feed_f42 : Cond.fieldLink RX7 42 RX7 "tape" "LVectorRounds$Tape;" ∈ wsX7_feed := by decide +kernel
theorem u_X7_feed_5 : ∀ w ∈ u_ws RX5 TX5 6, w ∈ wsX7_feed := by decide +kernel
theorem u_X7_feed_7 : ∀ w ∈ u_ws RX7 TX7 9, w ∈ wsX7_feed := by decide +kernel
set_option maxHeartbeats 4000000 in
set_option maxRecDepth 100000 in
theorem c_X7_feed (l : Launch) (D : va_G) (cI cO : ClassId) (tys : List (ClassId × FieldType)) (ht : tys[0]? = some (cI, .int)) (ht1 : tys[1]? = some (cO, .object "VectorRounds$Holder")) (a : Nat → Nat) (σ : qM) (x1 : Int32) : q_Met l yX7_feed wsX7_feed ({ frames := 1, cells := 0, slots := 0, locals := 21 }) [.ref (a 0), .int x1] D tys (p_V cI cO a) σ (f_X7_feed σ x1) := by
  refine x_ofWi (cc := cX7_feed) (maxL := 2) (ret := (some .int)) (by decide +kernel) rfl (pf_V cI cO a) (Nat.le_of_ble_eq_true rfl) ?_
  intro p e s m below meth c A ls qq h hx hb hml hr hlocks hown hts hK hP hD hA hS hl
  have hown : s.vm.findClass RX7 = some m.cls := hown
  have hl : lv_has ls 2 [(0, .ref (a 0)), (1, .int x1)] := hl
  unfold f_X7_feed at h
  refine lv_iload_n hx hb dX7_feed_0 rfl (lv_at hl 1 rfl) ?_
  refine lv_if_lt (tgt := 11) hx hb dX7_feed_1 (by decide) (fun c2 => ?_) (fun c2 => ?_)
  · have h := if_t c2 h
    refine lv_iconst (v := (-1)) hx hb dX7_feed_11 (by decide +kernel) ?_
    exact x_iret (p_V cI cO a) hx hb hr hlocks hP hS dX7_feed_12 h
  · have h := if_f c2 h
    refine lv_iload_n hx hb dX7_feed_4 rfl (lv_at hl 1 rfl) ?_
    refine lv_sipush (v := 255) hx hb dX7_feed_5 (by decide +kernel) ?_
    refine lv_icmp_le (tgt := 13) hx hb dX7_feed_8 (by decide) (fun c3 => ?_) (fun c3 => ?_)
    · have h := if_t c3 h
      refine lv_aload_n hx hb dX7_feed_13 rfl (lv_at hl 0 rfl) ?_
      refine x_getr (C := RX7) (k := 6) hx hb hts u_X7_feed_7 hown hK hP (g_V_0 cI cO a σ) rfl (by decide) ⟨rfl, rfl, rfl⟩ k_X7_feed_f42 rfl dX7_feed_14 ?_
      refine x_geti (C := RX5) (k := 1) hx hb hts u_X7_feed_5 hown hK hP (g_V_89 cI cO a σ) rfl (by decide) ⟨rfl, rfl, rfl⟩ k_X7_feed_f218 rfl dX7_feed_17 h (fun x4 h => ?_)
      refine lv_bipush (v := 120) hx hb dX7_feed_20 (by decide +kernel) ?_
      refine lv_icmp_lt (tgt := 28) hx hb dX7_feed_22 (by decide) (fun c5 => ?_) (fun c5 => ?_)
      · have h := if_t c5 h
        refine lv_aload_n hx hb dX7_feed_28 rfl (lv_at hl 0 rfl) ?_
        refine x_getr (C := RX7) (k := 6) hx hb hts u_X7_feed_7 hown hK hP (g_V_0 cI cO a σ) rfl (by decide) ⟨rfl, rfl, rfl⟩ k_X7_feed_f42 rfl dX7_feed_29 ?_
        refine lv_iload_n hx hb dX7_feed_32 rfl (lv_at hl 1 rfl) ?_
        refine x_cVi (p_V cI cO a) (p_P cI (q_sub 89 a)) (q_put 89 4 σ) [] [.int x1] hx hb hml hl.1 hown hts hK hP hD hS hA rfl (c_X5_add l D cI tys ht (q_sub 89 a) (q_sub 89 σ) x1) gX7_feed_X5_add rfl ⟨rfl, rfl⟩ i_X5_add ⟨Nat.le_of_ble_eq_true rfl, Nat.le_of_ble_eq_true rfl⟩ (fr_V_P_89 cI cO a σ) (g_P_0 cI (q_sub 89 a) (q_sub 89 σ)) rfl rfl (Nat.le_of_ble_eq_true rfl) ⟨Nat.zero_le _, Nat.zero_le _⟩ dX7_feed_33 h (fun x7 H locs s6 hP hS h => ?_)
        exact x_iret (p_V cI cO a) hx hb hr hlocks hP hS dX7_feed_36 h
      · have h := if_f c5 h
        refine lv_bipush (v := (-3)) hx hb dX7_feed_25 (by decide +kernel) ?_
        exact x_iret (p_V cI cO a) hx hb hr hlocks hP hS dX7_feed_27 h
    · have h := if_f c3 h
      refine lv_iconst (v := (-1)) hx hb dX7_feed_11 (by decide +kernel) ?_
      exact x_iret (p_V cI cO a) hx hb hr hlocks hP hS dX7_feed_12 h
/-! ===== VectorRounds.doLine(I)I: world V ===== -/
theorem i_X7_doLine : yX7_doLine.cls = RX7 ∧ yX7_doLine.cls ≠ "java/lang/invoke/MethodHandle" ∧ yX7_doLine.cls ≠ "java/lang/invoke/VarHandle" ∧ (parseMethodDescriptor yX7_doLine.desc).map (fun d => d.parameters.length) = some 1 := by decide +kernel
theorem k_X7_doLine_f276 : Cond.fieldLink RX7 276 RX5 "numbers" "[I" ∈ wsX7_doLine := by decide +kernel
theorem k_X7_doLine_f279 : Cond.fieldLink RX7 279 RX5 "letters" "[I" ∈ wsX7_doLine := by decide +kernel
theorem k_X7_doLine_f42 : Cond.fieldLink RX7 42 RX7 "tape" "LVectorRounds$Tape;" ∈ wsX7_doLine := by decide +kernel
theorem u_X7_doLine_5 : ∀ w ∈ u_ws RX5 TX5 6, w ∈ wsX7_doLine := by decide +kernel
theorem u_X7_doLine_7 : ∀ w ∈ u_ws RX7 TX7 9, w ∈ wsX7_doLine := by decide +kernel
set_option maxHeartbeats 4000000 in
set_option maxRecDepth 100000 in
theorem c_X7_doLine (l : Launch) (D : va_G) (cI cO : ClassId) (tys : List (ClassId × FieldType)) (ht : tys[0]? = some (cI, .int)) (ht1 : tys[1]? = some (cO, .object "VectorRounds$Holder")) (a : Nat → Nat) (σ : qM) (x1 : Int32) : q_Met l yX7_doLine wsX7_doLine ({ frames := 5, cells := 0, slots := 0, locals := 127 }) [.ref (a 0), .int x1] D tys (p_V cI cO a) σ (f_X7_doLine σ x1) := by
  refine x_ofWi (cc := cX7_doLine) (maxL := 4) (ret := (some .int)) (by decide +kernel) rfl (pf_V cI cO a) (Nat.le_of_ble_eq_true rfl) ?_
  intro p e s m below meth c A ls qq h hx hb hml hr hlocks hown hts hK hP hD hA hS hl
  have hown : s.vm.findClass RX7 = some m.cls := hown
  have hl : lv_has ls 4 [(0, .ref (a 0)), (1, .int x1)] := hl
  unfold f_X7_doLine at h
  refine lv_aload_n hx hb dX7_doLine_0 rfl (lv_at hl 0 rfl) ?_
  refine x_getr (C := RX7) (k := 6) hx hb hts u_X7_doLine_7 hown hK hP (g_V_0 cI cO a σ) rfl (by decide) ⟨rfl, rfl, rfl⟩ k_X7_doLine_f42 rfl dX7_doLine_1 ?_
  refine x_getr (C := RX5) (k := 3) hx hb hts u_X7_doLine_5 hown hK hP (g_V_89 cI cO a σ) rfl (by decide) ⟨rfl, rfl, rfl⟩ k_X7_doLine_f276 rfl dX7_doLine_4 ?_
  refine lv_iconst (v := 3) hx hb dX7_doLine_7 (by decide +kernel) ?_
  refine lv_iload_n hx hb dX7_doLine_8 rfl (lv_at hl 1 rfl) ?_
  refine x_imul hx hb dX7_doLine_9 h (fun x2 h => ?_)
  refine x_iald (t0 := 0) hx hb hK hP ht h (g_V_92 cI cO a σ) dX7_doLine_10 (fun x3 h => ?_)
  refine lv_istore_n (lv' := [(2, .int x3), (0, .ref (a 0)), (1, .int x1)]) hx hb dX7_doLine_11 rfl hl (by decide) rfl (fun ls hl => ?_)
  refine lv_aload_n hx hb dX7_doLine_12 rfl (lv_at hl 1 rfl) ?_
  refine x_getr (C := RX7) (k := 6) hx hb hts u_X7_doLine_7 hown hK hP (g_V_0 cI cO a σ) rfl (by decide) ⟨rfl, rfl, rfl⟩ k_X7_doLine_f42 rfl dX7_doLine_13 ?_
  refine x_getr (C := RX5) (k := 3) hx hb hts u_X7_doLine_5 hown hK hP (g_V_89 cI cO a σ) rfl (by decide) ⟨rfl, rfl, rfl⟩ k_X7_doLine_f276 rfl dX7_doLine_16 ?_
  refine lv_iconst (v := 3) hx hb dX7_doLine_19 (by decide +kernel) ?_
  refine lv_iload_n hx hb dX7_doLine_20 rfl (lv_at hl 2 rfl) ?_
  refine x_imul hx hb dX7_doLine_21 h (fun x4 h => ?_)
  refine lv_iconst (v := 1) hx hb dX7_doLine_22 (by decide +kernel) ?_
  refine x_iadd hx hb dX7_doLine_23 h (fun x5 h => ?_)
  refine x_iald (t0 := 0) hx hb hK hP ht h (g_V_92 cI cO a σ) dX7_doLine_24 (fun x6 h => ?_)
  refine lv_istore_n (lv' := [(3, .int x6), (2, .int x3), (0, .ref (a 0)), (1, .int x1)]) hx hb dX7_doLine_25 rfl hl (by decide) rfl (fun ls hl => ?_)
  refine lv_aload_n hx hb dX7_doLine_26 rfl (lv_at hl 2 rfl) ?_
  refine x_getr (C := RX7) (k := 6) hx hb hts u_X7_doLine_7 hown hK hP (g_V_0 cI cO a σ) rfl (by decide) ⟨rfl, rfl, rfl⟩ k_X7_doLine_f42 rfl dX7_doLine_27 ?_
  refine x_getr (C := RX5) (k := 2) hx hb hts u_X7_doLine_5 hown hK hP (g_V_89 cI cO a σ) rfl (by decide) ⟨rfl, rfl, rfl⟩ k_X7_doLine_f279 rfl dX7_doLine_30 ?_
  refine lv_iload_n hx hb dX7_doLine_33 rfl (lv_at hl 3 rfl) ?_
  refine x_iald (t0 := 0) hx hb hK hP ht h (g_V_91 cI cO a σ) dX7_doLine_34 (fun x7 h => ?_)
  by_cases c8 : x7 = 99
  · have h := if_t c8 h
    refine x_tsw_in (v := 99) (off := 122) (tgt := 157) hx hb dX7_doLine_35 c8 (by decide +kernel) ?_
    refine lv_aload_n hx hb dX7_doLine_157 rfl (lv_at hl 2 rfl) ?_
    refine lv_iload_n hx hb dX7_doLine_158 rfl (lv_at hl 1 rfl) ?_
    refine lv_iconst (v := 0) hx hb dX7_doLine_159 (by decide +kernel) ?_
    refine x_cVi (p_V cI cO a) (p_V cI cO a) (fun τ => τ) [] [.int x3, .int 0] hx hb hml hl.1 hown hts hK hP hD hS hA rfl (c_X7_turn l D cI cO tys ht ht1 a σ x3 0) gX7_doLine_X7_turn rfl ⟨rfl, rfl⟩ i_X7_turn ⟨Nat.le_of_ble_eq_true rfl, Nat.le_of_ble_eq_true rfl⟩ q_frI (g_V_0 cI cO a σ) rfl rfl (Nat.le_of_ble_eq_true rfl) ⟨Nat.zero_le _, Nat.zero_le _⟩ dX7_doLine_160 h (fun x10 H locs s9 hP hS h => ?_)
    exact x_iret (p_V cI cO a) hx hb hr hlocks hP hS dX7_doLine_163 h
  have h := if_f c8 h
  by_cases c11 : x7 = 100
  · have h := if_t c11 h
    refine x_tsw_in (v := 100) (off := 157) (tgt := 192) hx hb dX7_doLine_35 c11 (by decide +kernel) ?_
    refine lv_aload_n hx hb dX7_doLine_192 rfl (lv_at hl 2 rfl) ?_
    refine lv_iconst (v := 2) hx hb dX7_doLine_193 (by decide +kernel) ?_
    refine lv_iload_n hx hb dX7_doLine_194 rfl (lv_at hl 1 rfl) ?_
    refine x_cVi (p_V cI cO a) (p_V cI cO a) (fun τ => τ) [] [.int 2, .int x3] hx hb hml hl.1 hown hts hK hP hD hS hA rfl (c_X7_rule l D cI cO tys ht ht1 a σ 2 x3) gX7_doLine_X7_rule rfl ⟨rfl, rfl⟩ i_X7_rule ⟨Nat.le_of_ble_eq_true rfl, Nat.le_of_ble_eq_true rfl⟩ q_frI (g_V_0 cI cO a σ) rfl rfl (Nat.le_of_ble_eq_true rfl) ⟨Nat.zero_le _, Nat.zero_le _⟩ dX7_doLine_195 h (fun x13 H locs s12 hP hS h => ?_)
    exact x_iret (p_V cI cO a) hx hb hr hlocks hP hS dX7_doLine_198 h
  have h := if_f c11 h
  by_cases c14 : x7 = 101
  · have h := if_t c14 h
    refine x_tsw_in (v := 101) (off := 170) (tgt := 205) hx hb dX7_doLine_35 c14 (by decide +kernel) ?_
    refine lv_iconst (v := (-1)) hx hb dX7_doLine_205 (by decide +kernel) ?_
    exact x_iret (p_V cI cO a) hx hb hr hlocks hP hS dX7_doLine_206 h
  have h := if_f c14 h
  by_cases c15 : x7 = 102
  · have h := if_t c15 h
    refine x_tsw_in (v := 102) (off := 170) (tgt := 205) hx hb dX7_doLine_35 c15 (by decide +kernel) ?_
    refine lv_iconst (v := (-1)) hx hb dX7_doLine_205 (by decide +kernel) ?_
    exact x_iret (p_V cI cO a) hx hb hr hlocks hP hS dX7_doLine_206 h
  have h := if_f c15 h
  by_cases c16 : x7 = 103
  · have h := if_t c16 h
    refine x_tsw_in (v := 103) (off := 170) (tgt := 205) hx hb dX7_doLine_35 c16 (by decide +kernel) ?_
    refine lv_iconst (v := (-1)) hx hb dX7_doLine_205 (by decide +kernel) ?_
    exact x_iret (p_V cI cO a) hx hb hr hlocks hP hS dX7_doLine_206 h
  have h := if_f c16 h
  by_cases c17 : x7 = 104
  · have h := if_t c17 h
    refine x_tsw_in (v := 104) (off := 143) (tgt := 178) hx hb dX7_doLine_35 c17 (by decide +kernel) ?_
    refine lv_aload_n hx hb dX7_doLine_178 rfl (lv_at hl 2 rfl) ?_
    refine lv_iconst (v := 0) hx hb dX7_doLine_179 (by decide +kernel) ?_
    refine lv_iload_n hx hb dX7_doLine_180 rfl (lv_at hl 1 rfl) ?_
    refine x_cVi (p_V cI cO a) (p_V cI cO a) (fun τ => τ) [] [.int 0, .int x3] hx hb hml hl.1 hown hts hK hP hD hS hA rfl (c_X7_rule l D cI cO tys ht ht1 a σ 0 x3) gX7_doLine_X7_rule rfl ⟨rfl, rfl⟩ i_X7_rule ⟨Nat.le_of_ble_eq_true rfl, Nat.le_of_ble_eq_true rfl⟩ q_frI (g_V_0 cI cO a σ) rfl rfl (Nat.le_of_ble_eq_true rfl) ⟨Nat.zero_le _, Nat.zero_le _⟩ dX7_doLine_181 h (fun x19 H locs s18 hP hS h => ?_)
    exact x_iret (p_V cI cO a) hx hb hr hlocks hP hS dX7_doLine_184 h
  have h := if_f c17 h
  by_cases c20 : x7 = 105
  · have h := if_t c20 h
    refine x_tsw_in (v := 105) (off := 170) (tgt := 205) hx hb dX7_doLine_35 c20 (by decide +kernel) ?_
    refine lv_iconst (v := (-1)) hx hb dX7_doLine_205 (by decide +kernel) ?_
    exact x_iret (p_V cI cO a) hx hb hr hlocks hP hS dX7_doLine_206 h
  have h := if_f c20 h
  by_cases c21 : x7 = 106
  · have h := if_t c21 h
    refine x_tsw_in (v := 106) (off := 170) (tgt := 205) hx hb dX7_doLine_35 c21 (by decide +kernel) ?_
    refine lv_iconst (v := (-1)) hx hb dX7_doLine_205 (by decide +kernel) ?_
    exact x_iret (p_V cI cO a) hx hb hr hlocks hP hS dX7_doLine_206 h
  have h := if_f c21 h
  by_cases c22 : x7 = 107
  · have h := if_t c22 h
    refine x_tsw_in (v := 107) (off := 170) (tgt := 205) hx hb dX7_doLine_35 c22 (by decide +kernel) ?_
    refine lv_iconst (v := (-1)) hx hb dX7_doLine_205 (by decide +kernel) ?_
    exact x_iret (p_V cI cO a) hx hb hr hlocks hP hS dX7_doLine_206 h
  have h := if_f c22 h
  by_cases c23 : x7 = 108
  · have h := if_t c23 h
    refine x_tsw_in (v := 108) (off := 102) (tgt := 137) hx hb dX7_doLine_35 c23 (by decide +kernel) ?_
    refine lv_aload_n hx hb dX7_doLine_137 rfl (lv_at hl 2 rfl) ?_
    refine lv_iload_n hx hb dX7_doLine_138 rfl (lv_at hl 1 rfl) ?_
    refine lv_iload_n hx hb dX7_doLine_139 rfl (lv_at hl 0 rfl) ?_
    refine lv_aload_n hx hb dX7_doLine_140 rfl (lv_at hl 2 rfl) ?_
    refine x_getr (C := RX7) (k := 6) hx hb hts u_X7_doLine_7 hown hK hP (g_V_0 cI cO a σ) rfl (by decide) ⟨rfl, rfl, rfl⟩ k_X7_doLine_f42 rfl dX7_doLine_141 ?_
    refine x_getr (C := RX5) (k := 3) hx hb hts u_X7_doLine_5 hown hK hP (g_V_89 cI cO a σ) rfl (by decide) ⟨rfl, rfl, rfl⟩ k_X7_doLine_f276 rfl dX7_doLine_144 ?_
    refine lv_iconst (v := 3) hx hb dX7_doLine_147 (by decide +kernel) ?_
    refine lv_iload_n hx hb dX7_doLine_148 rfl (lv_at hl 3 rfl) ?_
    refine x_imul hx hb dX7_doLine_149 h (fun x24 h => ?_)
    refine lv_iconst (v := 2) hx hb dX7_doLine_150 (by decide +kernel) ?_
    refine x_iadd hx hb dX7_doLine_151 h (fun x25 h => ?_)
    refine x_iald (t0 := 0) hx hb hK hP ht h (g_V_92 cI cO a σ) dX7_doLine_152 (fun x26 h => ?_)
    refine x_cVi (p_V cI cO a) (p_V cI cO a) (fun τ => τ) [] [.int x3, .int x6, .int x26] hx hb hml hl.1 hown hts hK hP hD hS hA rfl (c_X7_link l D cI cO tys ht ht1 a σ x3 x6 x26) gX7_doLine_X7_link rfl ⟨rfl, rfl⟩ i_X7_link ⟨Nat.le_of_ble_eq_true rfl, Nat.le_of_ble_eq_true rfl⟩ q_frI (g_V_0 cI cO a σ) rfl rfl (Nat.le_of_ble_eq_true rfl) ⟨Nat.zero_le _, Nat.zero_le _⟩ dX7_doLine_153 h (fun x28 H locs s27 hP hS h => ?_)
    exact x_iret (p_V cI cO a) hx hb hr hlocks hP hS dX7_doLine_156 h
  have h := if_f c23 h
  by_cases c29 : x7 = 109
  · have h := if_t c29 h
    refine x_tsw_in (v := 109) (off := 170) (tgt := 205) hx hb dX7_doLine_35 c29 (by decide +kernel) ?_
    refine lv_iconst (v := (-1)) hx hb dX7_doLine_205 (by decide +kernel) ?_
    exact x_iret (p_V cI cO a) hx hb hr hlocks hP hS dX7_doLine_206 h
  have h := if_f c29 h
  by_cases c30 : x7 = 110
  · have h := if_t c30 h
    refine x_tsw_in (v := 110) (off := 97) (tgt := 132) hx hb dX7_doLine_35 c30 (by decide +kernel) ?_
    refine lv_aload_n hx hb dX7_doLine_132 rfl (lv_at hl 2 rfl) ?_
    refine x_cVi (p_V cI cO a) (p_V cI cO a) (fun τ => τ) [] [] hx hb hml hl.1 hown hts hK hP hD hS hA rfl (c_X7_router l D cI cO tys ht ht1 a σ) gX7_doLine_X7_router rfl ⟨rfl, rfl⟩ i_X7_router ⟨Nat.le_of_ble_eq_true rfl, Nat.le_of_ble_eq_true rfl⟩ q_frI (g_V_0 cI cO a σ) rfl rfl (Nat.le_of_ble_eq_true rfl) ⟨Nat.zero_le _, Nat.zero_le _⟩ dX7_doLine_133 h (fun x32 H locs s31 hP hS h => ?_)
    exact x_iret (p_V cI cO a) hx hb hr hlocks hP hS dX7_doLine_136 h
  have h := if_f c30 h
  by_cases c33 : x7 = 111
  · have h := if_t c33 h
    refine x_tsw_in (v := 111) (off := 170) (tgt := 205) hx hb dX7_doLine_35 c33 (by decide +kernel) ?_
    refine lv_iconst (v := (-1)) hx hb dX7_doLine_205 (by decide +kernel) ?_
    exact x_iret (p_V cI cO a) hx hb hr hlocks hP hS dX7_doLine_206 h
  have h := if_f c33 h
  by_cases c34 : x7 = 112
  · have h := if_t c34 h
    refine x_tsw_in (v := 112) (off := 170) (tgt := 205) hx hb dX7_doLine_35 c34 (by decide +kernel) ?_
    refine lv_iconst (v := (-1)) hx hb dX7_doLine_205 (by decide +kernel) ?_
    exact x_iret (p_V cI cO a) hx hb hr hlocks hP hS dX7_doLine_206 h
  have h := if_f c34 h
  by_cases c35 : x7 = 113
  · have h := if_t c35 h
    refine x_tsw_in (v := 113) (off := 150) (tgt := 185) hx hb dX7_doLine_35 c35 (by decide +kernel) ?_
    refine lv_aload_n hx hb dX7_doLine_185 rfl (lv_at hl 2 rfl) ?_
    refine lv_iconst (v := 1) hx hb dX7_doLine_186 (by decide +kernel) ?_
    refine lv_iload_n hx hb dX7_doLine_187 rfl (lv_at hl 1 rfl) ?_
    refine x_cVi (p_V cI cO a) (p_V cI cO a) (fun τ => τ) [] [.int 1, .int x3] hx hb hml hl.1 hown hts hK hP hD hS hA rfl (c_X7_rule l D cI cO tys ht ht1 a σ 1 x3) gX7_doLine_X7_rule rfl ⟨rfl, rfl⟩ i_X7_rule ⟨Nat.le_of_ble_eq_true rfl, Nat.le_of_ble_eq_true rfl⟩ q_frI (g_V_0 cI cO a σ) rfl rfl (Nat.le_of_ble_eq_true rfl) ⟨Nat.zero_le _, Nat.zero_le _⟩ dX7_doLine_188 h (fun x37 H locs s36 hP hS h => ?_)
    exact x_iret (p_V cI cO a) hx hb hr hlocks hP hS dX7_doLine_191 h
  have h := if_f c35 h
  by_cases c38 : x7 = 114
  · have h := if_t c38 h
    refine x_tsw_in (v := 114) (off := 164) (tgt := 199) hx hb dX7_doLine_35 c38 (by decide +kernel) ?_
    refine lv_aload_n hx hb dX7_doLine_199 rfl (lv_at hl 2 rfl) ?_
    refine lv_iload_n hx hb dX7_doLine_200 rfl (lv_at hl 1 rfl) ?_
    refine x_cVi (p_V cI cO a) (p_V cI cO a) (fun τ => τ) [] [.int x3] hx hb hml hl.1 hown hts hK hP hD hS hA rfl (c_X7_rounds l D cI cO tys ht ht1 a σ x3) gX7_doLine_X7_rounds rfl ⟨rfl, rfl⟩ i_X7_rounds ⟨Nat.le_of_ble_eq_true rfl, Nat.le_of_ble_eq_true rfl⟩ q_frI (g_V_0 cI cO a σ) rfl rfl (Nat.le_of_ble_eq_true rfl) ⟨Nat.zero_le _, Nat.zero_le _⟩ dX7_doLine_201 h (fun x40 H locs s39 hP hS h => ?_)
    exact x_iret (p_V cI cO a) hx hb hr hlocks hP hS dX7_doLine_204 h
  have h := if_f c38 h
  by_cases c41 : x7 = 115
  · have h := if_t c41 h
    refine x_tsw_in (v := 115) (off := 170) (tgt := 205) hx hb dX7_doLine_35 c41 (by decide +kernel) ?_
    refine lv_iconst (v := (-1)) hx hb dX7_doLine_205 (by decide +kernel) ?_
    exact x_iret (p_V cI cO a) hx hb hr hlocks hP hS dX7_doLine_206 h
  have h := if_f c41 h
  by_cases c42 : x7 = 116
  · have h := if_t c42 h
    refine x_tsw_in (v := 116) (off := 170) (tgt := 205) hx hb dX7_doLine_35 c42 (by decide +kernel) ?_
    refine lv_iconst (v := (-1)) hx hb dX7_doLine_205 (by decide +kernel) ?_
    exact x_iret (p_V cI cO a) hx hb hr hlocks hP hS dX7_doLine_206 h
  have h := if_f c42 h
  by_cases c43 : x7 = 117
  · have h := if_t c43 h
    refine x_tsw_in (v := 117) (off := 129) (tgt := 164) hx hb dX7_doLine_35 c43 (by decide +kernel) ?_
    refine lv_aload_n hx hb dX7_doLine_164 rfl (lv_at hl 2 rfl) ?_
    refine lv_iload_n hx hb dX7_doLine_165 rfl (lv_at hl 1 rfl) ?_
    refine lv_iconst (v := 1) hx hb dX7_doLine_166 (by decide +kernel) ?_
    refine x_cVi (p_V cI cO a) (p_V cI cO a) (fun τ => τ) [] [.int x3, .int 1] hx hb hml hl.1 hown hts hK hP hD hS hA rfl (c_X7_turn l D cI cO tys ht ht1 a σ x3 1) gX7_doLine_X7_turn rfl ⟨rfl, rfl⟩ i_X7_turn ⟨Nat.le_of_ble_eq_true rfl, Nat.le_of_ble_eq_true rfl⟩ q_frI (g_V_0 cI cO a σ) rfl rfl (Nat.le_of_ble_eq_true rfl) ⟨Nat.zero_le _, Nat.zero_le _⟩ dX7_doLine_167 h (fun x45 H locs s44 hP hS h => ?_)
    exact x_iret (p_V cI cO a) hx hb hr hlocks hP hS dX7_doLine_170 h
  have h := if_f c43 h
  by_cases c46 : x7 = 118
  · have h := if_t c46 h
    refine x_tsw_in (v := 118) (off := 170) (tgt := 205) hx hb dX7_doLine_35 c46 (by decide +kernel) ?_
    refine lv_iconst (v := (-1)) hx hb dX7_doLine_205 (by decide +kernel) ?_
    exact x_iret (p_V cI cO a) hx hb hr hlocks hP hS dX7_doLine_206 h
  have h := if_f c46 h
  by_cases c47 : x7 = 119
  · have h := if_t c47 h
    refine x_tsw_in (v := 119) (off := 136) (tgt := 171) hx hb dX7_doLine_35 c47 (by decide +kernel) ?_
    refine lv_aload_n hx hb dX7_doLine_171 rfl (lv_at hl 2 rfl) ?_
    refine lv_iload_n hx hb dX7_doLine_172 rfl (lv_at hl 1 rfl) ?_
    refine lv_iload_n hx hb dX7_doLine_173 rfl (lv_at hl 0 rfl) ?_
    refine x_cVi (p_V cI cO a) (p_V cI cO a) (fun τ => τ) [] [.int x3, .int x6] hx hb hml hl.1 hown hts hK hP hD hS hA rfl (c_X7_cost l D cI cO tys ht ht1 a σ x3 x6) gX7_doLine_X7_cost rfl ⟨rfl, rfl⟩ i_X7_cost ⟨Nat.le_of_ble_eq_true rfl, Nat.le_of_ble_eq_true rfl⟩ q_frI (g_V_0 cI cO a σ) rfl rfl (Nat.le_of_ble_eq_true rfl) ⟨Nat.zero_le _, Nat.zero_le _⟩ dX7_doLine_174 h (fun x49 H locs s48 hP hS h => ?_)
    exact x_iret (p_V cI cO a) hx hb hr hlocks hP hS dX7_doLine_177 h
  have h := if_f c47 h
  refine x_tsw_out (tgt := 205) hx hb dX7_doLine_35 21 (by decide) (fun k9 hk9 => ?_) (by decide) ?_
  · rcases (show k9 = 0 ∨ k9 = 1 ∨ k9 = 2 ∨ k9 = 3 ∨ k9 = 4 ∨ k9 = 5 ∨ k9 = 6 ∨ k9 = 7 ∨ k9 = 8 ∨ k9 = 9 ∨ k9 = 10 ∨ k9 = 11 ∨ k9 = 12 ∨ k9 = 13 ∨ k9 = 14 ∨ k9 = 15 ∨ k9 = 16 ∨ k9 = 17 ∨ k9 = 18 ∨ k9 = 19 ∨ k9 = 20 by omega) with rfl | rfl | rfl | rfl | rfl | rfl | rfl | rfl | rfl | rfl | rfl | rfl | rfl | rfl | rfl | rfl | rfl | rfl | rfl | rfl | rfl
    · exact fun h9 => c8 (h9.trans (by decide +kernel))
    · exact fun h9 => c11 (h9.trans (by decide +kernel))
    · exact fun h9 => c14 (h9.trans (by decide +kernel))
    · exact fun h9 => c15 (h9.trans (by decide +kernel))
    · exact fun h9 => c16 (h9.trans (by decide +kernel))
    · exact fun h9 => c17 (h9.trans (by decide +kernel))
    · exact fun h9 => c20 (h9.trans (by decide +kernel))
    · exact fun h9 => c21 (h9.trans (by decide +kernel))
    · exact fun h9 => c22 (h9.trans (by decide +kernel))
    · exact fun h9 => c23 (h9.trans (by decide +kernel))
    · exact fun h9 => c29 (h9.trans (by decide +kernel))
    · exact fun h9 => c30 (h9.trans (by decide +kernel))
    · exact fun h9 => c33 (h9.trans (by decide +kernel))
    · exact fun h9 => c34 (h9.trans (by decide +kernel))
    · exact fun h9 => c35 (h9.trans (by decide +kernel))
    · exact fun h9 => c38 (h9.trans (by decide +kernel))
    · exact fun h9 => c41 (h9.trans (by decide +kernel))
    · exact fun h9 => c42 (h9.trans (by decide +kernel))
    · exact fun h9 => c43 (h9.trans (by decide +kernel))
    · exact fun h9 => c46 (h9.trans (by decide +kernel))
    · exact fun h9 => c47 (h9.trans (by decide +kernel))
  refine lv_iconst (v := (-1)) hx hb dX7_doLine_205 (by decide +kernel) ?_
  exact x_iret (p_V cI cO a) hx hb hr hlocks hP hS dX7_doLine_206 h
/-! ===== VectorRounds.script()I: world V ===== -/
theorem i_X7_script : yX7_script.cls = RX7 ∧ yX7_script.cls ≠ "java/lang/invoke/MethodHandle" ∧ yX7_script.cls ≠ "java/lang/invoke/VarHandle" ∧ (parseMethodDescriptor yX7_script.desc).map (fun d => d.parameters.length) = some 0 := by decide +kernel
theorem k_X7_script_f12 : Cond.fieldLink RX7 12 RX7 "now" "LVectorRounds$Network;" ∈ wsX7_script := by decide +kernel
theorem k_X7_script_f218 : Cond.fieldLink RX7 218 RX5 "length" "I" ∈ wsX7_script := by decide +kernel
theorem k_X7_script_f22 : Cond.fieldLink RX7 22 RX7 "ahead" "LVectorRounds$Network;" ∈ wsX7_script := by decide +kernel
theorem k_X7_script_f224 : Cond.fieldLink RX7 224 RX5 "lines" "I" ∈ wsX7_script := by decide +kernel
theorem k_X7_script_f42 : Cond.fieldLink RX7 42 RX7 "tape" "LVectorRounds$Tape;" ∈ wsX7_script := by decide +kernel
theorem u_X7_script_5 : ∀ w ∈ u_ws RX5 TX5 6, w ∈ wsX7_script := by decide +kernel
theorem u_X7_script_7 : ∀ w ∈ u_ws RX7 TX7 9, w ∈ wsX7_script := by decide +kernel
set_option maxHeartbeats 4000000 in
set_option maxRecDepth 100000 in
theorem c_X7_script (l : Launch) (D : va_G) (cI cO : ClassId) (tys : List (ClassId × FieldType)) (ht : tys[0]? = some (cI, .int)) (ht1 : tys[1]? = some (cO, .object "VectorRounds$Holder")) (a : Nat → Nat) (σ : qM) : q_Met l yX7_script wsX7_script ({ frames := 6, cells := 0, slots := 0, locals := 150 }) [.ref (a 0)] D tys (p_V cI cO a) σ (f_X7_script σ) := by
  refine x_ofWi (cc := cX7_script) (maxL := 3) (ret := (some .int)) (by decide +kernel) rfl (pf_V cI cO a) (Nat.le_of_ble_eq_true rfl) ?_
  intro p e s m below meth c A ls qq h hx hb hml hr hlocks hown hts hK hP hD hA hS hl
  have hown : s.vm.findClass RX7 = some m.cls := hown
  have hl : lv_has ls 3 [(0, .ref (a 0))] := hl
  have main : ∀ k9 : Nat, (∀ (σ : qM) (x6 : Int32) (H : Heap) (locs : List Loc) (ls : Array Slot), q_it (D_X7_script) k9 0 σ [x6] = some qq → va_P D vwCl (p_V cI cO a σ) H → va_S A s.heap H locs → lv_has ls 3 [(0, .ref (a 0)), (2, .int x6)] → W p l e ({ frames := 6, cells := 0, slots := 0, locals := 150 }) s m [.ref (a 0)].toArray below meth c H locs 0 0 (MQ below (va_Qi (fun r τ => (r, τ) = qq) (fun τ t => va_P D vwCl ((p_V cI cO a) τ) t.heap) A) [.ref (a 0)].toArray s 0 0 A) (F0 m 39 ls [])) := by
    intro k9
    induction k9 with
    | zero => exact (fun _ _ _ _ _ h _ _ _ => (q_no (show (none : qR) = some qq from h)).elim)
    | succ k9 ih =>
      have i39 := ih
      refine ?_
      · intro σ x6 H locs ls h hP hS hl
        have h : b_X7_script_39 (q_it (D_X7_script) k9) σ x6 = some qq := h
        unfold b_X7_script_39 at h
        refine lv_iload_n hx hb dX7_script_39 rfl (lv_at hl 1 rfl) ?_
        refine lv_aload_n hx hb dX7_script_40 rfl (lv_at hl 0 rfl) ?_
        refine x_getr (C := RX7) (k := 6) hx hb hts u_X7_script_7 hown hK hP (g_V_0 cI cO a σ) rfl (by decide) ⟨rfl, rfl, rfl⟩ k_X7_script_f42 rfl dX7_script_41 ?_
        refine x_geti (C := RX5) (k := 4) hx hb hts u_X7_script_5 hown hK hP (g_V_89 cI cO a σ) rfl (by decide) ⟨rfl, rfl, rfl⟩ k_X7_script_f224 rfl dX7_script_44 h (fun x8 h => ?_)
        refine lv_icmp_ge (tgt := 81) hx hb dX7_script_47 (by decide) (fun c9 => ?_) (fun c9 => ?_)
        · have h := if_t c9 h
          refine lv_aload_n hx hb dX7_script_81 rfl (lv_at hl 0 rfl) ?_
          refine x_getr (C := RX7) (k := 6) hx hb hts u_X7_script_7 hown hK hP (g_V_0 cI cO a σ) rfl (by decide) ⟨rfl, rfl, rfl⟩ k_X7_script_f42 rfl dX7_script_82 ?_
          refine x_geti (C := RX5) (k := 4) hx hb hts u_X7_script_5 hown hK hP (g_V_89 cI cO a σ) rfl (by decide) ⟨rfl, rfl, rfl⟩ k_X7_script_f224 rfl dX7_script_85 h (fun x10 h => ?_)
          exact x_iret (p_V cI cO a) hx hb hr hlocks hP hS dX7_script_88 h
        · have h := if_f c9 h
          refine lv_aload_n hx hb dX7_script_50 rfl (lv_at hl 0 rfl) ?_
          refine lv_iload_n hx hb dX7_script_51 rfl (lv_at hl 1 rfl) ?_
          refine x_cVi (p_V cI cO a) (p_V cI cO a) (fun τ => τ) [] [.int x6] hx hb hml hl.1 hown hts hK hP hD hS hA rfl (c_X7_doLine l D cI cO tys ht ht1 a σ x6) gX7_script_X7_doLine rfl ⟨rfl, rfl⟩ i_X7_doLine ⟨Nat.le_of_ble_eq_true rfl, Nat.le_of_ble_eq_true rfl⟩ q_frI (g_V_0 cI cO a σ) rfl rfl (Nat.le_of_ble_eq_true rfl) ⟨Nat.zero_le _, Nat.zero_le _⟩ dX7_script_52 h (fun x12 H locs s11 hP hS h => ?_)
          refine lv_if_ge (tgt := 75) hx hb dX7_script_55 (by decide) (fun c13 => ?_) (fun c13 => ?_)
          · have h := if_t c13 h
            refine x_iinc (k := 1) (w := 1) hx hb dX7_script_75 hl rfl (by decide +kernel) (by decide) (fun v9 => [(2, .int v9), (0, .ref (a 0))]) (fun v9 => rfl) h (fun x14 ls hl h => ?_)
            have hl : lv_has ls 3 [(2, .int x14), (0, .ref (a 0))] := hl
            refine lv_goto (tgt := 39) hx hb dX7_script_78 (by decide) ?_
            exact i39 s11 x14 _ _ _ h hP hS (lv_sub hl [1, 0] rfl)
          · have h := if_f c13 h
            refine lv_aload_n hx hb dX7_script_58 rfl (lv_at hl 0 rfl) ?_
            refine x_getr (C := RX7) (k := 0) hx hb hts u_X7_script_7 hown hK hP (g_V_0 cI cO a s11) rfl (by decide) ⟨rfl, rfl, rfl⟩ k_X7_script_f12 rfl dX7_script_59 ?_
            refine lv_aload_n hx hb dX7_script_62 rfl (lv_at hl 0 rfl) ?_
            refine x_getr (C := RX7) (k := 3) hx hb hts u_X7_script_7 hown hK hP (g_V_0 cI cO a s11) rfl (by decide) ⟨rfl, rfl, rfl⟩ k_X7_script_f22 rfl dX7_script_63 ?_
            refine x_cVv (p_V cI cO a) (p_NN cI (q_sub2 21 1 64 a)) (q_put2 21 1 21 64 s11) [] [.ref (a 64)] hx hb hml hl.1 hown hts hK hP hD hS hA rfl (c_X3_become l D cI tys ht (q_sub2 21 1 64 a) (q_sub2 21 1 64 s11)) gX7_script_X3_become rfl ⟨rfl, rfl⟩ i_X3_become ⟨Nat.le_of_ble_eq_true rfl, Nat.le_of_ble_eq_true rfl⟩ (fr_V_NN_1_64 cI cO a s11) (g_NN_0 cI (q_sub2 21 1 64 a) (q_sub2 21 1 64 s11)) rfl rfl (Nat.le_of_ble_eq_true rfl) ⟨Nat.zero_le _, Nat.zero_le _⟩ dX7_script_66 h (fun H locs s15 hP hS h => ?_)
            refine lv_sipush (v := (-2000)) hx hb dX7_script_69 (by decide +kernel) ?_
            refine lv_iload_n hx hb dX7_script_72 rfl (lv_at hl 1 rfl) ?_
            refine x_isub hx hb dX7_script_73 h (fun x16 h => ?_)
            exact x_iret (p_V cI cO a) hx hb hr hlocks hP hS dX7_script_74 h
  have i39 : ∀ (σ : qM) (x6 : Int32) (H : Heap) (locs : List Loc) (ls : Array Slot), q_lim (D_X7_script) 0 σ [x6] = some qq → va_P D vwCl (p_V cI cO a σ) H → va_S A s.heap H locs → lv_has ls 3 [(0, .ref (a 0)), (2, .int x6)] → W p l e ({ frames := 6, cells := 0, slots := 0, locals := 150 }) s m [.ref (a 0)].toArray below meth c H locs 0 0 (MQ below (va_Qi (fun r τ => (r, τ) = qq) (fun τ t => va_P D vwCl ((p_V cI cO a) τ) t.heap) A) [.ref (a 0)].toArray s 0 0 A) (F0 m 39 ls []) := by
    intro σ x6 H locs ls h hP hS hl
    obtain ⟨k9, h⟩ := q_lim_n h
    exact (main k9) σ x6 H locs ls h hP hS hl
  have h : e_X7_script (q_lim (D_X7_script)) σ = some qq := h
  unfold e_X7_script at h
  refine lv_aload_n hx hb dX7_script_0 rfl (lv_at hl 0 rfl) ?_
  refine x_getr (C := RX7) (k := 6) hx hb hts u_X7_script_7 hown hK hP (g_V_0 cI cO a σ) rfl (by decide) ⟨rfl, rfl, rfl⟩ k_X7_script_f42 rfl dX7_script_1 ?_
  refine x_cVi (p_V cI cO a) (p_P cI (q_sub 89 a)) (q_put 89 4 σ) [] [] hx hb hml hl.1 hown hts hK hP hD hS hA rfl (c_X5_readLines l D cI tys ht (q_sub 89 a) (q_sub 89 σ)) gX7_script_X5_readLines rfl ⟨rfl, rfl⟩ i_X5_readLines ⟨Nat.le_of_ble_eq_true rfl, Nat.le_of_ble_eq_true rfl⟩ (fr_V_P_89 cI cO a σ) (g_P_0 cI (q_sub 89 a) (q_sub 89 σ)) rfl rfl (Nat.le_of_ble_eq_true rfl) ⟨Nat.zero_le _, Nat.zero_le _⟩ dX7_script_4 h (fun x2 H locs s1 hP hS h => ?_)
  refine lv_istore_n (lv' := [(1, .int x2), (0, .ref (a 0))]) hx hb dX7_script_7 rfl hl (by decide) rfl (fun ls hl => ?_)
  refine lv_aload_n hx hb dX7_script_8 rfl (lv_at hl 1 rfl) ?_
  refine x_getr (C := RX7) (k := 6) hx hb hts u_X7_script_7 hown hK hP (g_V_0 cI cO a s1) rfl (by decide) ⟨rfl, rfl, rfl⟩ k_X7_script_f42 rfl dX7_script_9 ?_
  refine lv_iconst (v := 0) hx hb dX7_script_12 (by decide +kernel) ?_
  refine x_puti (p_V cI cO a) (C := RX5) (k := 1) hx hb hts u_X7_script_5 tyX5 tyX5_ok nmX5 hown hK hP hD hS h (g_V_89 cI cO a s1) rfl (by decide) ⟨rfl, rfl, rfl⟩ k_X7_script_f218 rfl rfl rfl rfl (Nat.le_of_ble_eq_true rfl) (s_V_89_1 cI cO a s1 0) dX7_script_13 (fun H locs s3 hP hS h => ?_)
  refine lv_iload_n hx hb dX7_script_16 rfl (lv_at hl 0 rfl) ?_
  refine lv_if_lt (tgt := 26) hx hb dX7_script_17 (by decide) (fun c4 => ?_) (fun c4 => ?_)
  · have h := if_t c4 h
    refine lv_aload_n hx hb dX7_script_26 rfl (lv_at hl 1 rfl) ?_
    refine x_getr (C := RX7) (k := 3) hx hb hts u_X7_script_7 hown hK hP (g_V_0 cI cO a s3) rfl (by decide) ⟨rfl, rfl, rfl⟩ k_X7_script_f22 rfl dX7_script_27 ?_
    refine lv_aload_n hx hb dX7_script_30 rfl (lv_at hl 1 rfl) ?_
    refine x_getr (C := RX7) (k := 0) hx hb hts u_X7_script_7 hown hK hP (g_V_0 cI cO a s3) rfl (by decide) ⟨rfl, rfl, rfl⟩ k_X7_script_f12 rfl dX7_script_31 ?_
    refine x_cVv (p_V cI cO a) (p_NN cI (q_sub2 21 64 1 a)) (q_put2 21 64 21 1 s3) [] [.ref (a 1)] hx hb hml hl.1 hown hts hK hP hD hS hA rfl (c_X3_become l D cI tys ht (q_sub2 21 64 1 a) (q_sub2 21 64 1 s3)) gX7_script_X3_become rfl ⟨rfl, rfl⟩ i_X3_become ⟨Nat.le_of_ble_eq_true rfl, Nat.le_of_ble_eq_true rfl⟩ (fr_V_NN_64_1 cI cO a s3) (g_NN_0 cI (q_sub2 21 64 1 a) (q_sub2 21 64 1 s3)) rfl rfl (Nat.le_of_ble_eq_true rfl) ⟨Nat.zero_le _, Nat.zero_le _⟩ dX7_script_34 h (fun H locs s5 hP hS h => ?_)
    refine lv_iconst (v := 0) hx hb dX7_script_37 (by decide +kernel) ?_
    refine lv_istore_n (lv' := [(2, .int 0), (1, .int x2), (0, .ref (a 0))]) hx hb dX7_script_38 rfl hl (by decide) rfl (fun ls hl => ?_)
    exact i39 s5 0 _ _ _ h hP hS (lv_sub hl [2, 0] rfl)
  · have h := if_f c4 h
    refine lv_sipush (v := (-1000)) hx hb dX7_script_20 (by decide +kernel) ?_
    refine lv_iload_n hx hb dX7_script_23 rfl (lv_at hl 0 rfl) ?_
    refine x_isub hx hb dX7_script_24 h (fun x7 h => ?_)
    exact x_iret (p_V cI cO a) hx hb hr hlocks hP hS dX7_script_25 h
/-! ===== VectorRounds.image()I: world V ===== -/
theorem i_X7_image : yX7_image.cls = RX7 ∧ yX7_image.cls ≠ "java/lang/invoke/MethodHandle" ∧ yX7_image.cls ≠ "java/lang/invoke/VarHandle" ∧ (parseMethodDescriptor yX7_image.desc).map (fun d => d.parameters.length) = some 0 := by decide +kernel
theorem k_X7_image_f12 : Cond.fieldLink RX7 12 RX7 "now" "LVectorRounds$Network;" ∈ wsX7_image := by decide +kernel
theorem k_X7_image_f19 : Cond.fieldLink RX7 19 RX7 "kept" "LVectorRounds$Network;" ∈ wsX7_image := by decide +kernel
theorem k_X7_image_f230 : Cond.fieldLink RX7 230 RX7 "imaged" "Z" ∈ wsX7_image := by decide +kernel
theorem k_X7_image_f234 : Cond.fieldLink RX7 234 RX3 "round" "I" ∈ wsX7_image := by decide +kernel
theorem u_X7_image_3 : ∀ w ∈ u_ws RX3 TX3 9, w ∈ wsX7_image := by decide +kernel
theorem u_X7_image_7 : ∀ w ∈ u_ws RX7 TX7 9, w ∈ wsX7_image := by decide +kernel
set_option maxHeartbeats 4000000 in
set_option maxRecDepth 100000 in
theorem c_X7_image (l : Launch) (D : va_G) (cI cO : ClassId) (tys : List (ClassId × FieldType)) (ht : tys[0]? = some (cI, .int)) (ht1 : tys[1]? = some (cO, .object "VectorRounds$Holder")) (a : Nat → Nat) (σ : qM) : q_Met l yX7_image wsX7_image ({ frames := 3, cells := 0, slots := 0, locals := 102 }) [.ref (a 0)] D tys (p_V cI cO a) σ (f_X7_image σ) := by
  refine x_ofWi (cc := cX7_image) (maxL := 1) (ret := (some .int)) (by decide +kernel) rfl (pf_V cI cO a) (Nat.le_of_ble_eq_true rfl) ?_
  intro p e s m below meth c A ls qq h hx hb hml hr hlocks hown hts hK hP hD hA hS hl
  have hown : s.vm.findClass RX7 = some m.cls := hown
  have hl : lv_has ls 1 [(0, .ref (a 0))] := hl
  unfold f_X7_image at h
  refine lv_aload_n hx hb dX7_image_0 rfl (lv_at hl 0 rfl) ?_
  refine x_getr (C := RX7) (k := 2) hx hb hts u_X7_image_7 hown hK hP (g_V_0 cI cO a σ) rfl (by decide) ⟨rfl, rfl, rfl⟩ k_X7_image_f19 rfl dX7_image_1 ?_
  refine lv_aload_n hx hb dX7_image_4 rfl (lv_at hl 0 rfl) ?_
  refine x_getr (C := RX7) (k := 0) hx hb hts u_X7_image_7 hown hK hP (g_V_0 cI cO a σ) rfl (by decide) ⟨rfl, rfl, rfl⟩ k_X7_image_f12 rfl dX7_image_5 ?_
  refine x_cVv (p_V cI cO a) (p_NN cI (q_sub2 21 43 1 a)) (q_put2 21 43 21 1 σ) [] [.ref (a 1)] hx hb hml hl.1 hown hts hK hP hD hS hA rfl (c_X3_become l D cI tys ht (q_sub2 21 43 1 a) (q_sub2 21 43 1 σ)) gX7_image_X3_become rfl ⟨rfl, rfl⟩ i_X3_become ⟨Nat.le_of_ble_eq_true rfl, Nat.le_of_ble_eq_true rfl⟩ (fr_V_NN_43_1 cI cO a σ) (g_NN_0 cI (q_sub2 21 43 1 a) (q_sub2 21 43 1 σ)) rfl rfl (Nat.le_of_ble_eq_true rfl) ⟨Nat.zero_le _, Nat.zero_le _⟩ dX7_image_8 h (fun H locs s1 hP hS h => ?_)
  refine lv_aload_n hx hb dX7_image_11 rfl (lv_at hl 0 rfl) ?_
  refine lv_iconst (v := 1) hx hb dX7_image_12 (by decide +kernel) ?_
  have hb3 := (q_bo_of h).1
  have h := (q_bo_of h).2
  refine x_puti (p_V cI cO a) (C := RX7) (k := 8) hx hb hts u_X7_image_7 tyX7 tyX7_ok nmX7 hown hK hP hD hS h (g_V_0 cI cO a s1) rfl (by decide) ⟨rfl, rfl, rfl⟩ k_X7_image_f230 rfl rfl (q_nb hb3).1 (q_nb hb3).2 (Nat.le_of_ble_eq_true rfl) (s_V_0_8 cI cO a s1 1) dX7_image_13 (fun H locs s2 hP hS h => ?_)
  refine lv_aload_n hx hb dX7_image_16 rfl (lv_at hl 0 rfl) ?_
  refine x_getr (C := RX7) (k := 0) hx hb hts u_X7_image_7 hown hK hP (g_V_0 cI cO a s2) rfl (by decide) ⟨rfl, rfl, rfl⟩ k_X7_image_f12 rfl dX7_image_17 ?_
  refine x_geti (C := RX3) (k := 7) hx hb hts u_X7_image_3 hown hK hP (g_V_1 cI cO a s2) rfl (by decide) ⟨rfl, rfl, rfl⟩ k_X7_image_f234 rfl dX7_image_20 h (fun x4 h => ?_)
  exact x_iret (p_V cI cO a) hx hb hr hlocks hP hS dX7_image_23 h
/-! ===== VectorRounds.back()I: world V ===== -/
theorem i_X7_back : yX7_back.cls = RX7 ∧ yX7_back.cls ≠ "java/lang/invoke/MethodHandle" ∧ yX7_back.cls ≠ "java/lang/invoke/VarHandle" ∧ (parseMethodDescriptor yX7_back.desc).map (fun d => d.parameters.length) = some 0 := by decide +kernel
theorem k_X7_back_f12 : Cond.fieldLink RX7 12 RX7 "now" "LVectorRounds$Network;" ∈ wsX7_back := by decide +kernel
theorem k_X7_back_f19 : Cond.fieldLink RX7 19 RX7 "kept" "LVectorRounds$Network;" ∈ wsX7_back := by decide +kernel
theorem k_X7_back_f230 : Cond.fieldLink RX7 230 RX7 "imaged" "Z" ∈ wsX7_back := by decide +kernel
theorem k_X7_back_f234 : Cond.fieldLink RX7 234 RX3 "round" "I" ∈ wsX7_back := by decide +kernel
theorem u_X7_back_3 : ∀ w ∈ u_ws RX3 TX3 9, w ∈ wsX7_back := by decide +kernel
theorem u_X7_back_7 : ∀ w ∈ u_ws RX7 TX7 9, w ∈ wsX7_back := by decide +kernel
set_option maxHeartbeats 4000000 in
set_option maxRecDepth 100000 in
theorem c_X7_back (l : Launch) (D : va_G) (cI cO : ClassId) (tys : List (ClassId × FieldType)) (ht : tys[0]? = some (cI, .int)) (ht1 : tys[1]? = some (cO, .object "VectorRounds$Holder")) (a : Nat → Nat) (σ : qM) : q_Met l yX7_back wsX7_back ({ frames := 3, cells := 0, slots := 0, locals := 102 }) [.ref (a 0)] D tys (p_V cI cO a) σ (f_X7_back σ) := by
  refine x_ofWi (cc := cX7_back) (maxL := 1) (ret := (some .int)) (by decide +kernel) rfl (pf_V cI cO a) (Nat.le_of_ble_eq_true rfl) ?_
  intro p e s m below meth c A ls qq h hx hb hml hr hlocks hown hts hK hP hD hA hS hl
  have hown : s.vm.findClass RX7 = some m.cls := hown
  have hl : lv_has ls 1 [(0, .ref (a 0))] := hl
  unfold f_X7_back at h
  refine lv_aload_n hx hb dX7_back_0 rfl (lv_at hl 0 rfl) ?_
  refine x_geti (C := RX7) (k := 8) hx hb hts u_X7_back_7 hown hK hP (g_V_0 cI cO a σ) rfl (by decide) ⟨rfl, rfl, rfl⟩ k_X7_back_f230 rfl dX7_back_1 h (fun x1 h => ?_)
  refine lv_if_ne (tgt := 10) hx hb dX7_back_4 (by decide) (fun c2 => ?_) (fun c2 => ?_)
  · have h := if_f c2 h
    refine lv_aload_n hx hb dX7_back_10 rfl (lv_at hl 0 rfl) ?_
    refine x_getr (C := RX7) (k := 0) hx hb hts u_X7_back_7 hown hK hP (g_V_0 cI cO a σ) rfl (by decide) ⟨rfl, rfl, rfl⟩ k_X7_back_f12 rfl dX7_back_11 ?_
    refine lv_aload_n hx hb dX7_back_14 rfl (lv_at hl 0 rfl) ?_
    refine x_getr (C := RX7) (k := 2) hx hb hts u_X7_back_7 hown hK hP (g_V_0 cI cO a σ) rfl (by decide) ⟨rfl, rfl, rfl⟩ k_X7_back_f19 rfl dX7_back_15 ?_
    refine x_cVv (p_V cI cO a) (p_NN cI (q_sub2 21 1 43 a)) (q_put2 21 1 21 43 σ) [] [.ref (a 43)] hx hb hml hl.1 hown hts hK hP hD hS hA rfl (c_X3_become l D cI tys ht (q_sub2 21 1 43 a) (q_sub2 21 1 43 σ)) gX7_back_X3_become rfl ⟨rfl, rfl⟩ i_X3_become ⟨Nat.le_of_ble_eq_true rfl, Nat.le_of_ble_eq_true rfl⟩ (fr_V_NN_1_43 cI cO a σ) (g_NN_0 cI (q_sub2 21 1 43 a) (q_sub2 21 1 43 σ)) rfl rfl (Nat.le_of_ble_eq_true rfl) ⟨Nat.zero_le _, Nat.zero_le _⟩ dX7_back_18 h (fun H locs s3 hP hS h => ?_)
    refine lv_aload_n hx hb dX7_back_21 rfl (lv_at hl 0 rfl) ?_
    refine x_getr (C := RX7) (k := 0) hx hb hts u_X7_back_7 hown hK hP (g_V_0 cI cO a s3) rfl (by decide) ⟨rfl, rfl, rfl⟩ k_X7_back_f12 rfl dX7_back_22 ?_
    refine x_geti (C := RX3) (k := 7) hx hb hts u_X7_back_3 hown hK hP (g_V_1 cI cO a s3) rfl (by decide) ⟨rfl, rfl, rfl⟩ k_X7_back_f234 rfl dX7_back_25 h (fun x4 h => ?_)
    exact x_iret (p_V cI cO a) hx hb hr hlocks hP hS dX7_back_28 h
  · have h := if_t c2 h
    refine lv_bipush (v := (-5)) hx hb dX7_back_7 (by decide +kernel) ?_
    exact x_iret (p_V cI cO a) hx hb hr hlocks hP hS dX7_back_9 h
/-! ===== VectorRounds.hold(III)I: world V ===== -/
theorem i_X7_hold : yX7_hold.cls = RX7 ∧ yX7_hold.cls ≠ "java/lang/invoke/MethodHandle" ∧ yX7_hold.cls ≠ "java/lang/invoke/VarHandle" ∧ (parseMethodDescriptor yX7_hold.desc).map (fun d => d.parameters.length) = some 3 := by decide +kernel
theorem k_X7_hold_f118 : Cond.fieldLink RX7 118 RX3 "tables" "LVectorRounds$Tables;" ∈ wsX7_hold := by decide +kernel
theorem k_X7_hold_f12 : Cond.fieldLink RX7 12 RX7 "now" "LVectorRounds$Network;" ∈ wsX7_hold := by decide +kernel
theorem k_X7_hold_f48 : Cond.fieldLink RX7 48 RX7 "holders" "[LVectorRounds$Holder;" ∈ wsX7_hold := by decide +kernel
theorem u_X7_hold_3 : ∀ w ∈ u_ws RX3 TX3 9, w ∈ wsX7_hold := by decide +kernel
theorem u_X7_hold_7 : ∀ w ∈ u_ws RX7 TX7 9, w ∈ wsX7_hold := by decide +kernel
set_option maxHeartbeats 4000000 in
set_option maxRecDepth 100000 in
theorem c_X7_hold (l : Launch) (D : va_G) (cI cO : ClassId) (tys : List (ClassId × FieldType)) (ht : tys[0]? = some (cI, .int)) (ht1 : tys[1]? = some (cO, .object "VectorRounds$Holder")) (a : Nat → Nat) (σ : qM) (x1 : Int32) (x2 : Int32) (x3 : Int32) : q_Met l yX7_hold wsX7_hold ({ frames := 1, cells := 0, slots := 0, locals := 24 }) [.ref (a 0), .int x1, .int x2, .int x3] D tys (p_V cI cO a) σ (f_X7_hold σ x1 x2 x3) := by
  refine x_ofWi (cc := cX7_hold) (maxL := 4) (ret := (some .int)) (by decide +kernel) rfl (pf_V cI cO a) (Nat.le_of_ble_eq_true rfl) ?_
  intro p e s m below meth c A ls qq h hx hb hml hr hlocks hown hts hK hP hD hA hS hl
  have hown : s.vm.findClass RX7 = some m.cls := hown
  have hl : lv_has ls 4 [(0, .ref (a 0)), (1, .int x1), (2, .int x2), (3, .int x3)] := hl
  unfold f_X7_hold at h
  refine lv_iload_n hx hb dX7_hold_0 rfl (lv_at hl 1 rfl) ?_
  refine x_cSi (p_V cI cO a) (fun _ => []) (fun _ => σ) [] [.int x1] hx hb hml hl.1 hown hts hK hP hD hS hA rfl (c_X7_noHolder l D cI tys ht σ x1) gX7_hold_X7_noHolder rfl ⟨rfl, rfl⟩ i_X7_noHolder ⟨Nat.le_of_ble_eq_true rfl, Nat.le_of_ble_eq_true rfl⟩ (q_fr0 (fun _ => rfl)) rfl (Nat.le_of_ble_eq_true rfl) ⟨Nat.zero_le _, Nat.zero_le _⟩ dX7_hold_1 h (fun x5 H locs s4 hP hS h => ?_)
  refine lv_if_ne (tgt := 23) hx hb dX7_hold_4 (by decide) (fun c6 => ?_) (fun c6 => ?_)
  · have h := if_f c6 h
    refine lv_iconst (v := (-1)) hx hb dX7_hold_23 (by decide +kernel) ?_
    exact x_iret (p_V cI cO a) hx hb hr hlocks hP hS dX7_hold_24 h
  · have h := if_t c6 h
    refine lv_aload_n hx hb dX7_hold_7 rfl (lv_at hl 0 rfl) ?_
    refine lv_iload_n hx hb dX7_hold_8 rfl (lv_at hl 2 rfl) ?_
    refine x_cVi (p_V cI cO a) (p_V cI cO a) (fun τ => τ) [] [.int x2] hx hb hml hl.1 hown hts hK hP hD hS hA rfl (c_X7_noRouter l D cI cO tys ht ht1 a s4 x2) gX7_hold_X7_noRouter rfl ⟨rfl, rfl⟩ i_X7_noRouter ⟨Nat.le_of_ble_eq_true rfl, Nat.le_of_ble_eq_true rfl⟩ q_frI (g_V_0 cI cO a s4) rfl rfl (Nat.le_of_ble_eq_true rfl) ⟨Nat.zero_le _, Nat.zero_le _⟩ dX7_hold_9 h (fun x8 H locs s7 hP hS h => ?_)
    refine lv_if_ne (tgt := 23) hx hb dX7_hold_12 (by decide) (fun c9 => ?_) (fun c9 => ?_)
    · have h := if_f c9 h
      refine lv_iconst (v := (-1)) hx hb dX7_hold_23 (by decide +kernel) ?_
      exact x_iret (p_V cI cO a) hx hb hr hlocks hP hS dX7_hold_24 h
    · have h := if_t c9 h
      refine lv_aload_n hx hb dX7_hold_15 rfl (lv_at hl 0 rfl) ?_
      refine lv_iload_n hx hb dX7_hold_16 rfl (lv_at hl 3 rfl) ?_
      refine x_cVi (p_V cI cO a) (p_V cI cO a) (fun τ => τ) [] [.int x3] hx hb hml hl.1 hown hts hK hP hD hS hA rfl (c_X7_noRouter l D cI cO tys ht ht1 a s7 x3) gX7_hold_X7_noRouter rfl ⟨rfl, rfl⟩ i_X7_noRouter ⟨Nat.le_of_ble_eq_true rfl, Nat.le_of_ble_eq_true rfl⟩ q_frI (g_V_0 cI cO a s7) rfl rfl (Nat.le_of_ble_eq_true rfl) ⟨Nat.zero_le _, Nat.zero_le _⟩ dX7_hold_17 h (fun x11 H locs s10 hP hS h => ?_)
      refine lv_if_eq (tgt := 25) hx hb dX7_hold_20 (by decide) (fun c12 => ?_) (fun c12 => ?_)
      · have h := if_t c12 h
        refine lv_aload_n hx hb dX7_hold_25 rfl (lv_at hl 0 rfl) ?_
        refine x_getr (C := RX7) (k := 0) hx hb hts u_X7_hold_7 hown hK hP (g_V_0 cI cO a s10) rfl (by decide) ⟨rfl, rfl, rfl⟩ k_X7_hold_f12 rfl dX7_hold_26 ?_
        refine x_getr (C := RX3) (k := 0) hx hb hts u_X7_hold_3 hown hK hP (g_V_1 cI cO a s10) rfl (by decide) ⟨rfl, rfl, rfl⟩ k_X7_hold_f118 rfl dX7_hold_29 ?_
        refine lv_iload_n hx hb dX7_hold_32 rfl (lv_at hl 2 rfl) ?_
        refine lv_bipush (v := 10) hx hb dX7_hold_33 (by decide +kernel) ?_
        refine x_imul hx hb dX7_hold_35 h (fun x13 h => ?_)
        refine lv_iload_n hx hb dX7_hold_36 rfl (lv_at hl 3 rfl) ?_
        refine x_iadd hx hb dX7_hold_37 h (fun x14 h => ?_)
        refine x_cVi (p_V cI cO a) (p_T cI (q_sub 2 a)) (q_put 2 7 s10) [] [.int x14] hx hb hml hl.1 hown hts hK hP hD hS hA rfl (c_X4_has l D cI tys ht (q_sub 2 a) (q_sub 2 s10) x14) gX7_hold_X4_has rfl ⟨rfl, rfl⟩ i_X4_has ⟨Nat.le_of_ble_eq_true rfl, Nat.le_of_ble_eq_true rfl⟩ (fr_V_T_2 cI cO a s10) (g_T_0 cI (q_sub 2 a) (q_sub 2 s10)) rfl rfl (Nat.le_of_ble_eq_true rfl) ⟨Nat.zero_le _, Nat.zero_le _⟩ dX7_hold_38 h (fun x16 H locs s15 hP hS h => ?_)
        refine lv_if_ne (tgt := 47) hx hb dX7_hold_41 (by decide) (fun c17 => ?_) (fun c17 => ?_)
        · have h := if_f c17 h
          refine lv_aload_n hx hb dX7_hold_47 rfl (lv_at hl 0 rfl) ?_
          refine x_getr (C := RX7) (k := 7) hx hb hts u_X7_hold_7 hown hK hP (g_V_0 cI cO a s15) rfl (by decide) ⟨rfl, rfl, rfl⟩ k_X7_hold_f48 rfl dX7_hold_48 ?_
          refine lv_iload_n hx hb dX7_hold_51 rfl (lv_at hl 1 rfl) ?_
          refine va_aldq hx hb hK hP 93 1 (g_V_93 cI cO a s15) ht1 (q_in (q_gd_of h).1) dX7_hold_52 ?_
          have hj_x1 := q_lt6 (q_gd_of h).1
          have h := (q_gd_of h).2
          refine W.eq (g2 := F0 m 53 ls [.ref (a (94 + 2 * x1.toNatClampNeg))]) rfl ?_
          refine lv_aload_n hx hb dX7_hold_53 rfl (lv_at hl 0 rfl) ?_
          refine x_getr (C := RX7) (k := 0) hx hb hts u_X7_hold_7 hown hK hP (g_V_0 cI cO a s15) rfl (by decide) ⟨rfl, rfl, rfl⟩ k_X7_hold_f12 rfl dX7_hold_54 ?_
          refine x_getr (C := RX3) (k := 0) hx hb hts u_X7_hold_3 hown hK hP (g_V_1 cI cO a s15) rfl (by decide) ⟨rfl, rfl, rfl⟩ k_X7_hold_f118 rfl dX7_hold_57 ?_
          refine lv_iload_n hx hb dX7_hold_60 rfl (lv_at hl 2 rfl) ?_
          refine lv_iload_n hx hb dX7_hold_61 rfl (lv_at hl 3 rfl) ?_
          refine x_cVv (p_V cI cO a) (p_HT cI (q_sub2 2 (94 + 2 * x1.toNatClampNeg) 2 a)) (q_put2 2 (94 + 2 * x1.toNatClampNeg) 7 2 s15) [] [.ref (a 2), .int x2, .int x3] hx hb hml hl.1 hown hts hK hP hD hS hA rfl (c_X1_keepEntry l D cI tys ht (q_sub2 2 (94 + 2 * x1.toNatClampNeg) 2 a) (q_sub2 2 (94 + 2 * x1.toNatClampNeg) 2 s15) x2 x3) gX7_hold_X1_keepEntry rfl ⟨rfl, rfl⟩ i_X1_keepEntry ⟨Nat.le_of_ble_eq_true rfl, Nat.le_of_ble_eq_true rfl⟩ (fr_V_HT cI cO a s15 hj_x1) (g_HT_0 cI (q_sub2 2 (94 + 2 * x1.toNatClampNeg) 2 a) (q_sub2 2 (94 + 2 * x1.toNatClampNeg) 2 s15)) rfl rfl (Nat.le_of_ble_eq_true rfl) ⟨Nat.zero_le _, Nat.zero_le _⟩ dX7_hold_62 h (fun H locs s18 hP hS h => ?_)
          refine lv_iconst (v := 1) hx hb dX7_hold_65 (by decide +kernel) ?_
          exact x_iret (p_V cI cO a) hx hb hr hlocks hP hS dX7_hold_66 h
        · have h := if_t c17 h
          refine lv_bipush (v := (-2)) hx hb dX7_hold_44 (by decide +kernel) ?_
          exact x_iret (p_V cI cO a) hx hb hr hlocks hP hS dX7_hold_46 h
      · have h := if_f c12 h
        refine lv_iconst (v := (-1)) hx hb dX7_hold_23 (by decide +kernel) ?_
        exact x_iret (p_V cI cO a) hx hb hr hlocks hP hS dX7_hold_24 h
/-! ===== VectorRounds.row(II)I: world V ===== -/
theorem i_X7_row : yX7_row.cls = RX7 ∧ yX7_row.cls ≠ "java/lang/invoke/MethodHandle" ∧ yX7_row.cls ≠ "java/lang/invoke/VarHandle" ∧ (parseMethodDescriptor yX7_row.desc).map (fun d => d.parameters.length) = some 2 := by decide +kernel
theorem k_X7_row_f203 : Cond.fieldLink RX7 203 RX1 "sort" "I" ∈ wsX7_row := by decide +kernel
theorem k_X7_row_f48 : Cond.fieldLink RX7 48 RX7 "holders" "[LVectorRounds$Holder;" ∈ wsX7_row := by decide +kernel
theorem u_X7_row_1 : ∀ w ∈ u_ws RX1 TX1 8, w ∈ wsX7_row := by decide +kernel
theorem u_X7_row_7 : ∀ w ∈ u_ws RX7 TX7 9, w ∈ wsX7_row := by decide +kernel
set_option maxHeartbeats 4000000 in
set_option maxRecDepth 100000 in
theorem c_X7_row (l : Launch) (D : va_G) (cI cO : ClassId) (tys : List (ClassId × FieldType)) (ht : tys[0]? = some (cI, .int)) (ht1 : tys[1]? = some (cO, .object "VectorRounds$Holder")) (a : Nat → Nat) (σ : qM) (x1 : Int32) (x2 : Int32) : q_Met l yX7_row wsX7_row ({ frames := 2, cells := 0, slots := 0, locals := 44 }) [.ref (a 0), .int x1, .int x2] D tys (p_V cI cO a) σ (f_X7_row σ x1 x2) := by
  refine x_ofWi (cc := cX7_row) (maxL := 3) (ret := (some .int)) (by decide +kernel) rfl (pf_V cI cO a) (Nat.le_of_ble_eq_true rfl) ?_
  intro p e s m below meth c A ls qq h hx hb hml hr hlocks hown hts hK hP hD hA hS hl
  have hown : s.vm.findClass RX7 = some m.cls := hown
  have hl : lv_has ls 3 [(0, .ref (a 0)), (1, .int x1), (2, .int x2)] := hl
  unfold f_X7_row at h
  refine lv_iload_n hx hb dX7_row_0 rfl (lv_at hl 1 rfl) ?_
  refine x_cSi (p_V cI cO a) (fun _ => []) (fun _ => σ) [] [.int x1] hx hb hml hl.1 hown hts hK hP hD hS hA rfl (c_X7_noHolder l D cI tys ht σ x1) gX7_row_X7_noHolder rfl ⟨rfl, rfl⟩ i_X7_noHolder ⟨Nat.le_of_ble_eq_true rfl, Nat.le_of_ble_eq_true rfl⟩ (q_fr0 (fun _ => rfl)) rfl (Nat.le_of_ble_eq_true rfl) ⟨Nat.zero_le _, Nat.zero_le _⟩ dX7_row_1 h (fun x4 H locs s3 hP hS h => ?_)
  refine lv_if_ne (tgt := 13) hx hb dX7_row_4 (by decide) (fun c5 => ?_) (fun c5 => ?_)
  · have h := if_f c5 h
    refine lv_iconst (v := (-1)) hx hb dX7_row_13 (by decide +kernel) ?_
    exact x_iret (p_V cI cO a) hx hb hr hlocks hP hS dX7_row_14 h
  · have h := if_t c5 h
    refine lv_iload_n hx hb dX7_row_7 rfl (lv_at hl 2 rfl) ?_
    refine lv_bipush (v := 60) hx hb dX7_row_8 (by decide +kernel) ?_
    refine lv_icmp_le (tgt := 15) hx hb dX7_row_10 (by decide) (fun c6 => ?_) (fun c6 => ?_)
    · have h := if_t c6 h
      refine lv_iload_n hx hb dX7_row_15 rfl (lv_at hl 2 rfl) ?_
      refine lv_iconst (v := (-1)) hx hb dX7_row_16 (by decide +kernel) ?_
      refine lv_icmp_ge (tgt := 23) hx hb dX7_row_17 (by decide) (fun c7 => ?_) (fun c7 => ?_)
      · have h := if_t c7 h
        refine lv_iload_n hx hb dX7_row_23 rfl (lv_at hl 2 rfl) ?_
        refine lv_iconst (v := (-1)) hx hb dX7_row_24 (by decide +kernel) ?_
        refine lv_icmp_ne (tgt := 41) hx hb dX7_row_25 (by decide) (fun c8 => ?_) (fun c8 => ?_)
        · have h := if_f c8 h
          refine lv_aload_n hx hb dX7_row_41 rfl (lv_at hl 0 rfl) ?_
          refine x_getr (C := RX7) (k := 7) hx hb hts u_X7_row_7 hown hK hP (g_V_0 cI cO a s3) rfl (by decide) ⟨rfl, rfl, rfl⟩ k_X7_row_f48 rfl dX7_row_42 ?_
          refine lv_iload_n hx hb dX7_row_45 rfl (lv_at hl 1 rfl) ?_
          refine va_aldq hx hb hK hP 93 1 (g_V_93 cI cO a s3) ht1 (q_in (q_gd_of h).1) dX7_row_46 ?_
          have hj_x1 := q_lt6 (q_gd_of h).1
          have h := (q_gd_of h).2
          refine W.eq (g2 := F0 m 47 ls [.ref (a (94 + 2 * x1.toNatClampNeg))]) rfl ?_
          refine lv_iload_n hx hb dX7_row_47 rfl (lv_at hl 2 rfl) ?_
          refine x_cVv (p_V cI cO a) (p_H cI (q_sub (94 + 2 * x1.toNatClampNeg) a)) (q_put (94 + 2 * x1.toNatClampNeg) 2 s3) [] [.int x2] hx hb hml hl.1 hown hts hK hP hD hS hA rfl (c_X1_keepRow l D cI tys ht (q_sub (94 + 2 * x1.toNatClampNeg) a) (q_sub (94 + 2 * x1.toNatClampNeg) s3) x2) gX7_row_X1_keepRow rfl ⟨rfl, rfl⟩ i_X1_keepRow ⟨Nat.le_of_ble_eq_true rfl, Nat.le_of_ble_eq_true rfl⟩ (fr_V_H cI cO a s3 hj_x1) (g_H_0 cI (q_sub (94 + 2 * x1.toNatClampNeg) a) (q_sub (94 + 2 * x1.toNatClampNeg) s3)) rfl rfl (Nat.le_of_ble_eq_true rfl) ⟨Nat.zero_le _, Nat.zero_le _⟩ dX7_row_48 h (fun H locs s9 hP hS h => ?_)
          refine lv_iconst (v := 1) hx hb dX7_row_51 (by decide +kernel) ?_
          exact x_iret (p_V cI cO a) hx hb hr hlocks hP hS dX7_row_52 h
        · have h := if_t c8 h
          refine lv_aload_n hx hb dX7_row_28 rfl (lv_at hl 0 rfl) ?_
          refine x_getr (C := RX7) (k := 7) hx hb hts u_X7_row_7 hown hK hP (g_V_0 cI cO a s3) rfl (by decide) ⟨rfl, rfl, rfl⟩ k_X7_row_f48 rfl dX7_row_29 ?_
          refine lv_iload_n hx hb dX7_row_32 rfl (lv_at hl 1 rfl) ?_
          refine va_aldq hx hb hK hP 93 1 (g_V_93 cI cO a s3) ht1 (q_in (q_gd_of h).1) dX7_row_33 ?_
          have hj_x1 := q_lt6 (q_gd_of h).1
          have h := (q_gd_of h).2
          refine W.eq (g2 := F0 m 34 ls [.ref (a (94 + 2 * x1.toNatClampNeg))]) rfl ?_
          refine lv_iconst (v := 0) hx hb dX7_row_34 (by decide +kernel) ?_
          refine x_puti (p_V cI cO a) (C := RX1) (k := 0) hx hb hts u_X7_row_1 tyX1 tyX1_ok nmX1 hown hK hP hD hS h (gh_0 cI cO a s3 hj_x1) rfl (by decide) ⟨rfl, rfl, rfl⟩ k_X7_row_f203 rfl rfl rfl rfl (Nat.le_of_ble_eq_true rfl) (sh_0_0 cI cO a s3 hj_x1 0) dX7_row_35 (fun H locs s10 hP hS h => ?_)
          refine lv_goto (tgt := 51) hx hb dX7_row_38 (by decide) ?_
          refine lv_iconst (v := 1) hx hb dX7_row_51 (by decide +kernel) ?_
          exact x_iret (p_V cI cO a) hx hb hr hlocks hP hS dX7_row_52 h
      · have h := if_f c7 h
        refine lv_bipush (v := (-14)) hx hb dX7_row_20 (by decide +kernel) ?_
        exact x_iret (p_V cI cO a) hx hb hr hlocks hP hS dX7_row_22 h
    · have h := if_f c6 h
      refine lv_iconst (v := (-1)) hx hb dX7_row_13 (by decide +kernel) ?_
      exact x_iret (p_V cI cO a) hx hb hr hlocks hP hS dX7_row_14 h
/-! ===== VectorRounds.put(III)I: world V ===== -/
theorem i_X7_put : yX7_put.cls = RX7 ∧ yX7_put.cls ≠ "java/lang/invoke/MethodHandle" ∧ yX7_put.cls ≠ "java/lang/invoke/VarHandle" ∧ (parseMethodDescriptor yX7_put.desc).map (fun d => d.parameters.length) = some 3 := by decide +kernel
theorem k_X7_put_c243 : Cond.constant RX7 243 (-2000000000) ∈ wsX7_put := by decide +kernel
theorem k_X7_put_f203 : Cond.fieldLink RX7 203 RX1 "sort" "I" ∈ wsX7_put := by decide +kernel
theorem k_X7_put_f206 : Cond.fieldLink RX7 206 RX1 "length" "I" ∈ wsX7_put := by decide +kernel
theorem k_X7_put_f207 : Cond.fieldLink RX7 207 RX1 "items" "[I" ∈ wsX7_put := by decide +kernel
theorem k_X7_put_f48 : Cond.fieldLink RX7 48 RX7 "holders" "[LVectorRounds$Holder;" ∈ wsX7_put := by decide +kernel
theorem u_X7_put_1 : ∀ w ∈ u_ws RX1 TX1 8, w ∈ wsX7_put := by decide +kernel
theorem u_X7_put_7 : ∀ w ∈ u_ws RX7 TX7 9, w ∈ wsX7_put := by decide +kernel
set_option maxHeartbeats 4000000 in
set_option maxRecDepth 100000 in
theorem c_X7_put (l : Launch) (D : va_G) (cI cO : ClassId) (tys : List (ClassId × FieldType)) (ht : tys[0]? = some (cI, .int)) (ht1 : tys[1]? = some (cO, .object "VectorRounds$Holder")) (a : Nat → Nat) (σ : qM) (x1 : Int32) (x2 : Int32) (x3 : Int32) : q_Met l yX7_put wsX7_put ({ frames := 1, cells := 0, slots := 0, locals := 20 }) [.ref (a 0), .int x1, .int x2, .int x3] D tys (p_V cI cO a) σ (f_X7_put σ x1 x2 x3) := by
  refine x_ofWi (cc := cX7_put) (maxL := 6) (ret := (some .int)) (by decide +kernel) rfl (pf_V cI cO a) (Nat.le_of_ble_eq_true rfl) ?_
  intro p e s m below meth c A ls qq h hx hb hml hr hlocks hown hts hK hP hD hA hS hl
  have hown : s.vm.findClass RX7 = some m.cls := hown
  have hl : lv_has ls 6 [(0, .ref (a 0)), (1, .int x1), (2, .int x2), (3, .int x3)] := hl
  unfold f_X7_put at h
  refine lv_iload_n hx hb dX7_put_0 rfl (lv_at hl 1 rfl) ?_
  refine x_cSi (p_V cI cO a) (fun _ => []) (fun _ => σ) [] [.int x1] hx hb hml hl.1 hown hts hK hP hD hS hA rfl (c_X7_noHolder l D cI tys ht σ x1) gX7_put_X7_noHolder rfl ⟨rfl, rfl⟩ i_X7_noHolder ⟨Nat.le_of_ble_eq_true rfl, Nat.le_of_ble_eq_true rfl⟩ (q_fr0 (fun _ => rfl)) rfl (Nat.le_of_ble_eq_true rfl) ⟨Nat.zero_le _, Nat.zero_le _⟩ dX7_put_1 h (fun x5 H locs s4 hP hS h => ?_)
  refine lv_if_eq (tgt := 10) hx hb dX7_put_4 (by decide) (fun c6 => ?_) (fun c6 => ?_)
  · have h := if_t c6 h
    refine lv_aload_n hx hb dX7_put_10 rfl (lv_at hl 0 rfl) ?_
    refine x_getr (C := RX7) (k := 7) hx hb hts u_X7_put_7 hown hK hP (g_V_0 cI cO a s4) rfl (by decide) ⟨rfl, rfl, rfl⟩ k_X7_put_f48 rfl dX7_put_11 ?_
    refine lv_iload_n hx hb dX7_put_14 rfl (lv_at hl 1 rfl) ?_
    refine va_aldq hx hb hK hP 93 1 (g_V_93 cI cO a s4) ht1 (q_in (q_gd_of h).1) dX7_put_15 ?_
    have hj_x1 := q_lt6 (q_gd_of h).1
    have h := (q_gd_of h).2
    refine W.eq (g2 := F0 m 16 ls [.ref (a (94 + 2 * x1.toNatClampNeg))]) rfl ?_
    refine lv_astore (lv' := [(4, .ref (a (94 + 2 * x1.toNatClampNeg))), (0, .ref (a 0)), (1, .int x1), (2, .int x2), (3, .int x3)]) hx hb dX7_put_16 hl (by decide) rfl (fun ls hl => ?_)
    refine lv_aload hx hb dX7_put_18 (lv_at hl 0 rfl) ?_
    refine x_geti (C := RX1) (k := 0) hx hb hts u_X7_put_1 hown hK hP (gh_0 cI cO a s4 hj_x1) rfl (by decide) ⟨rfl, rfl, rfl⟩ k_X7_put_f203 rfl dX7_put_20 h (fun x7 h => ?_)
    refine lv_iconst (v := 2) hx hb dX7_put_23 (by decide +kernel) ?_
    refine lv_icmp_ne (tgt := 40) hx hb dX7_put_24 (by decide) (fun c8 => ?_) (fun c8 => ?_)
    · have h := if_f c8 h
      refine lv_ldc (v := -2000000000) hx hb hown (hts _ k_X7_put_c243) dX7_put_40 ?_
      exact x_iret (p_V cI cO a) hx hb hr hlocks hP hS dX7_put_42 h
    · have h := if_t c8 h
      refine lv_iload_n hx hb dX7_put_27 rfl (lv_at hl 3 rfl) ?_
      refine lv_if_lt (tgt := 40) hx hb dX7_put_28 (by decide) (fun c9 => ?_) (fun c9 => ?_)
      · have h := if_t c9 h
        refine lv_ldc (v := -2000000000) hx hb hown (hts _ k_X7_put_c243) dX7_put_40 ?_
        exact x_iret (p_V cI cO a) hx hb hr hlocks hP hS dX7_put_42 h
      · have h := if_f c9 h
        refine lv_iload_n hx hb dX7_put_31 rfl (lv_at hl 3 rfl) ?_
        refine lv_aload hx hb dX7_put_32 (lv_at hl 0 rfl) ?_
        refine x_geti (C := RX1) (k := 7) hx hb hts u_X7_put_1 hown hK hP (gh_0 cI cO a s4 hj_x1) rfl (by decide) ⟨rfl, rfl, rfl⟩ k_X7_put_f206 rfl dX7_put_34 h (fun x10 h => ?_)
        refine lv_icmp_lt (tgt := 43) hx hb dX7_put_37 (by decide) (fun c11 => ?_) (fun c11 => ?_)
        · have h := if_t c11 h
          refine lv_aload hx hb dX7_put_43 (lv_at hl 0 rfl) ?_
          refine x_getr (C := RX1) (k := 6) hx hb hts u_X7_put_1 hown hK hP (gh_0 cI cO a s4 hj_x1) rfl (by decide) ⟨rfl, rfl, rfl⟩ k_X7_put_f207 rfl dX7_put_45 ?_
          refine lv_iload_n hx hb dX7_put_48 rfl (lv_at hl 3 rfl) ?_
          refine x_iald (t0 := 0) hx hb hK hP ht h (gh_1 cI cO a s4 hj_x1) dX7_put_49 (fun x12 h => ?_)
          refine lv_istore (lv' := [(5, .int x12), (4, .ref (a (94 + 2 * x1.toNatClampNeg))), (0, .ref (a 0)), (1, .int x1), (2, .int x2), (3, .int x3)]) hx hb dX7_put_50 hl (by decide) rfl (fun ls hl => ?_)
          refine lv_aload hx hb dX7_put_52 (lv_at hl 1 rfl) ?_
          refine x_getr (C := RX1) (k := 6) hx hb hts u_X7_put_1 hown hK hP (gh_0 cI cO a s4 hj_x1) rfl (by decide) ⟨rfl, rfl, rfl⟩ k_X7_put_f207 rfl dX7_put_54 ?_
          refine lv_iload_n hx hb dX7_put_57 rfl (lv_at hl 4 rfl) ?_
          refine lv_iload_n hx hb dX7_put_58 rfl (lv_at hl 5 rfl) ?_
          refine x_iast (p_V cI cO a) (t0 := 0) hx hb hK hP hD hS ht h (gh_1 cI cO a s4 hj_x1) (fun j9 v9 => sh_1 cI cO a s4 hj_x1 _) dX7_put_59 (fun H locs s13 hP hS h => ?_)
          refine lv_iload hx hb dX7_put_60 (lv_at hl 0 rfl) ?_
          exact x_iret (p_V cI cO a) hx hb hr hlocks hP hS dX7_put_62 h
        · have h := if_f c11 h
          refine lv_ldc (v := -2000000000) hx hb hown (hts _ k_X7_put_c243) dX7_put_40 ?_
          exact x_iret (p_V cI cO a) hx hb hr hlocks hP hS dX7_put_42 h
  · have h := if_f c6 h
    refine lv_ldc (v := -2000000000) hx hb hown (hts _ k_X7_put_c243) dX7_put_7 ?_
    exact x_iret (p_V cI cO a) hx hb hr hlocks hP hS dX7_put_9 h
/-! ===== VectorRounds.tells(II)I: world V ===== -/
theorem i_X7_tells : yX7_tells.cls = RX7 ∧ yX7_tells.cls ≠ "java/lang/invoke/MethodHandle" ∧ yX7_tells.cls ≠ "java/lang/invoke/VarHandle" ∧ (parseMethodDescriptor yX7_tells.desc).map (fun d => d.parameters.length) = some 2 := by decide +kernel
theorem k_X7_tells_f203 : Cond.fieldLink RX7 203 RX1 "sort" "I" ∈ wsX7_tells := by decide +kernel
theorem k_X7_tells_f244 : Cond.fieldLink RX7 244 RX1 "metric" "I" ∈ wsX7_tells := by decide +kernel
theorem k_X7_tells_f246 : Cond.fieldLink RX7 246 RX1 "own" "Z" ∈ wsX7_tells := by decide +kernel
theorem k_X7_tells_f249 : Cond.fieldLink RX7 249 RX1 "sequence" "I" ∈ wsX7_tells := by decide +kernel
theorem k_X7_tells_f251 : Cond.fieldLink RX7 251 RX1 "via" "I" ∈ wsX7_tells := by decide +kernel
theorem k_X7_tells_f253 : Cond.fieldLink RX7 253 RX1 "held" "I" ∈ wsX7_tells := by decide +kernel
theorem k_X7_tells_f48 : Cond.fieldLink RX7 48 RX7 "holders" "[LVectorRounds$Holder;" ∈ wsX7_tells := by decide +kernel
theorem u_X7_tells_1 : ∀ w ∈ u_ws RX1 TX1 8, w ∈ wsX7_tells := by decide +kernel
theorem u_X7_tells_7 : ∀ w ∈ u_ws RX7 TX7 9, w ∈ wsX7_tells := by decide +kernel
set_option maxHeartbeats 4000000 in
set_option maxRecDepth 100000 in
theorem c_X7_tells (l : Launch) (D : va_G) (cI cO : ClassId) (tys : List (ClassId × FieldType)) (ht : tys[0]? = some (cI, .int)) (ht1 : tys[1]? = some (cO, .object "VectorRounds$Holder")) (a : Nat → Nat) (σ : qM) (x1 : Int32) (x2 : Int32) : q_Met l yX7_tells wsX7_tells ({ frames := 1, cells := 0, slots := 0, locals := 20 }) [.ref (a 0), .int x1, .int x2] D tys (p_V cI cO a) σ (f_X7_tells σ x1 x2) := by
  refine x_ofWi (cc := cX7_tells) (maxL := 4) (ret := (some .int)) (by decide +kernel) rfl (pf_V cI cO a) (Nat.le_of_ble_eq_true rfl) ?_
  intro p e s m below meth c A ls qq h hx hb hml hr hlocks hown hts hK hP hD hA hS hl
  have hown : s.vm.findClass RX7 = some m.cls := hown
  have hl : lv_has ls 4 [(0, .ref (a 0)), (1, .int x1), (2, .int x2)] := hl
  unfold f_X7_tells at h
  refine lv_iload_n hx hb dX7_tells_0 rfl (lv_at hl 1 rfl) ?_
  refine x_cSi (p_V cI cO a) (fun _ => []) (fun _ => σ) [] [.int x1] hx hb hml hl.1 hown hts hK hP hD hS hA rfl (c_X7_noHolder l D cI tys ht σ x1) gX7_tells_X7_noHolder rfl ⟨rfl, rfl⟩ i_X7_noHolder ⟨Nat.le_of_ble_eq_true rfl, Nat.le_of_ble_eq_true rfl⟩ (q_fr0 (fun _ => rfl)) rfl (Nat.le_of_ble_eq_true rfl) ⟨Nat.zero_le _, Nat.zero_le _⟩ dX7_tells_1 h (fun x4 H locs s3 hP hS h => ?_)
  refine lv_if_ne (tgt := 16) hx hb dX7_tells_4 (by decide) (fun c5 => ?_) (fun c5 => ?_)
  · have h := if_f c5 h
    refine lv_iconst (v := (-1)) hx hb dX7_tells_16 (by decide +kernel) ?_
    exact x_iret (p_V cI cO a) hx hb hr hlocks hP hS dX7_tells_17 h
  · have h := if_t c5 h
    refine lv_iload_n hx hb dX7_tells_7 rfl (lv_at hl 2 rfl) ?_
    refine lv_if_lt (tgt := 16) hx hb dX7_tells_8 (by decide) (fun c6 => ?_) (fun c6 => ?_)
    · have h := if_t c6 h
      refine lv_iconst (v := (-1)) hx hb dX7_tells_16 (by decide +kernel) ?_
      exact x_iret (p_V cI cO a) hx hb hr hlocks hP hS dX7_tells_17 h
    · have h := if_f c6 h
      refine lv_iload_n hx hb dX7_tells_11 rfl (lv_at hl 2 rfl) ?_
      refine lv_iconst (v := 3) hx hb dX7_tells_12 (by decide +kernel) ?_
      refine lv_icmp_le (tgt := 18) hx hb dX7_tells_13 (by decide) (fun c7 => ?_) (fun c7 => ?_)
      · have h := if_t c7 h
        refine lv_aload_n hx hb dX7_tells_18 rfl (lv_at hl 0 rfl) ?_
        refine x_getr (C := RX7) (k := 7) hx hb hts u_X7_tells_7 hown hK hP (g_V_0 cI cO a s3) rfl (by decide) ⟨rfl, rfl, rfl⟩ k_X7_tells_f48 rfl dX7_tells_19 ?_
        refine lv_iload_n hx hb dX7_tells_22 rfl (lv_at hl 1 rfl) ?_
        refine va_aldq hx hb hK hP 93 1 (g_V_93 cI cO a s3) ht1 (q_in (q_gd_of h).1) dX7_tells_23 ?_
        have hj_x1 := q_lt6 (q_gd_of h).1
        have h := (q_gd_of h).2
        refine W.eq (g2 := F0 m 24 ls [.ref (a (94 + 2 * x1.toNatClampNeg))]) rfl ?_
        refine lv_astore_n (lv' := [(3, .ref (a (94 + 2 * x1.toNatClampNeg))), (0, .ref (a 0)), (1, .int x1), (2, .int x2)]) hx hb dX7_tells_24 rfl hl (by decide) rfl (fun ls hl => ?_)
        refine lv_aload_n hx hb dX7_tells_25 rfl (lv_at hl 0 rfl) ?_
        refine x_geti (C := RX1) (k := 0) hx hb hts u_X7_tells_1 hown hK hP (gh_0 cI cO a s3 hj_x1) rfl (by decide) ⟨rfl, rfl, rfl⟩ k_X7_tells_f203 rfl dX7_tells_26 h (fun x8 h => ?_)
        refine lv_if_ne (tgt := 35) hx hb dX7_tells_29 (by decide) (fun c9 => ?_) (fun c9 => ?_)
        · have h := if_f c9 h
          refine lv_aload_n hx hb dX7_tells_35 rfl (lv_at hl 0 rfl) ?_
          refine x_geti (C := RX1) (k := 0) hx hb hts u_X7_tells_1 hown hK hP (gh_0 cI cO a s3 hj_x1) rfl (by decide) ⟨rfl, rfl, rfl⟩ k_X7_tells_f203 rfl dX7_tells_36 h (fun x10 h => ?_)
          refine lv_iconst (v := 1) hx hb dX7_tells_39 (by decide +kernel) ?_
          refine lv_icmp_eq (tgt := 46) hx hb dX7_tells_40 (by decide) (fun c11 => ?_) (fun c11 => ?_)
          · have h := if_t c11 h
            refine lv_iload_n hx hb dX7_tells_46 rfl (lv_at hl 3 rfl) ?_
            by_cases c12 : x2 = 0
            · have h := if_t c12 h
              refine x_tsw_in (v := 0) (off := 25) (tgt := 72) hx hb dX7_tells_47 c12 (by decide +kernel) ?_
              refine lv_aload_n hx hb dX7_tells_72 rfl (lv_at hl 0 rfl) ?_
              refine x_geti (C := RX1) (k := 2) hx hb hts u_X7_tells_1 hown hK hP (gh_0 cI cO a s3 hj_x1) rfl (by decide) ⟨rfl, rfl, rfl⟩ k_X7_tells_f244 rfl dX7_tells_73 h (fun x13 h => ?_)
              exact x_iret (p_V cI cO a) hx hb hr hlocks hP hS dX7_tells_76 h
            have h := if_f c12 h
            by_cases c14 : x2 = 1
            · have h := if_t c14 h
              refine x_tsw_in (v := 1) (off := 30) (tgt := 77) hx hb dX7_tells_47 c14 (by decide +kernel) ?_
              refine lv_aload_n hx hb dX7_tells_77 rfl (lv_at hl 0 rfl) ?_
              refine x_geti (C := RX1) (k := 1) hx hb hts u_X7_tells_1 hown hK hP (gh_0 cI cO a s3 hj_x1) rfl (by decide) ⟨rfl, rfl, rfl⟩ k_X7_tells_f246 rfl dX7_tells_78 h (fun x15 h => ?_)
              refine lv_if_eq (tgt := 91) hx hb dX7_tells_81 (by decide) (fun c16 => ?_) (fun c16 => ?_)
              · have h := if_t c16 h
                refine lv_bipush (v := (-12)) hx hb dX7_tells_91 (by decide +kernel) ?_
                exact x_iret (p_V cI cO a) hx hb hr hlocks hP hS dX7_tells_93 h
              · have h := if_f c16 h
                refine lv_aload_n hx hb dX7_tells_84 rfl (lv_at hl 0 rfl) ?_
                refine x_geti (C := RX1) (k := 4) hx hb hts u_X7_tells_1 hown hK hP (gh_0 cI cO a s3 hj_x1) rfl (by decide) ⟨rfl, rfl, rfl⟩ k_X7_tells_f249 rfl dX7_tells_85 h (fun x17 h => ?_)
                refine lv_goto (tgt := 93) hx hb dX7_tells_88 (by decide) ?_
                exact x_iret (p_V cI cO a) hx hb hr hlocks hP hS dX7_tells_93 h
            have h := if_f c14 h
            by_cases c18 : x2 = 2
            · have h := if_t c18 h
              refine x_tsw_in (v := 2) (off := 47) (tgt := 94) hx hb dX7_tells_47 c18 (by decide +kernel) ?_
              refine lv_aload_n hx hb dX7_tells_94 rfl (lv_at hl 0 rfl) ?_
              refine x_geti (C := RX1) (k := 2) hx hb hts u_X7_tells_1 hown hK hP (gh_0 cI cO a s3 hj_x1) rfl (by decide) ⟨rfl, rfl, rfl⟩ k_X7_tells_f244 rfl dX7_tells_95 h (fun x19 h => ?_)
              refine lv_bipush (v := 16) hx hb dX7_tells_98 (by decide +kernel) ?_
              refine lv_icmp_ge (tgt := 117) hx hb dX7_tells_100 (by decide) (fun c20 => ?_) (fun c20 => ?_)
              · have h := if_t c20 h
                refine lv_bipush (v := (-12)) hx hb dX7_tells_117 (by decide +kernel) ?_
                exact x_iret (p_V cI cO a) hx hb hr hlocks hP hS dX7_tells_119 h
              · have h := if_f c20 h
                refine lv_aload_n hx hb dX7_tells_103 rfl (lv_at hl 0 rfl) ?_
                refine x_geti (C := RX1) (k := 1) hx hb hts u_X7_tells_1 hown hK hP (gh_0 cI cO a s3 hj_x1) rfl (by decide) ⟨rfl, rfl, rfl⟩ k_X7_tells_f246 rfl dX7_tells_104 h (fun x21 h => ?_)
                refine lv_if_ne (tgt := 117) hx hb dX7_tells_107 (by decide) (fun c22 => ?_) (fun c22 => ?_)
                · have h := if_f c22 h
                  refine lv_bipush (v := (-12)) hx hb dX7_tells_117 (by decide +kernel) ?_
                  exact x_iret (p_V cI cO a) hx hb hr hlocks hP hS dX7_tells_119 h
                · have h := if_t c22 h
                  refine lv_aload_n hx hb dX7_tells_110 rfl (lv_at hl 0 rfl) ?_
                  refine x_geti (C := RX1) (k := 3) hx hb hts u_X7_tells_1 hown hK hP (gh_0 cI cO a s3 hj_x1) rfl (by decide) ⟨rfl, rfl, rfl⟩ k_X7_tells_f251 rfl dX7_tells_111 h (fun x23 h => ?_)
                  refine lv_goto (tgt := 119) hx hb dX7_tells_114 (by decide) ?_
                  exact x_iret (p_V cI cO a) hx hb hr hlocks hP hS dX7_tells_119 h
            have h := if_f c18 h
            refine x_tsw_out (tgt := 120) hx hb dX7_tells_47 3 (by decide) (fun k9 hk9 => ?_) (by decide) ?_
            · rcases (show k9 = 0 ∨ k9 = 1 ∨ k9 = 2 by omega) with rfl | rfl | rfl
              · exact fun h9 => c12 (h9.trans (by decide +kernel))
              · exact fun h9 => c14 (h9.trans (by decide +kernel))
              · exact fun h9 => c18 (h9.trans (by decide +kernel))
            refine lv_aload_n hx hb dX7_tells_120 rfl (lv_at hl 0 rfl) ?_
            refine x_geti (C := RX1) (k := 2) hx hb hts u_X7_tells_1 hown hK hP (gh_0 cI cO a s3 hj_x1) rfl (by decide) ⟨rfl, rfl, rfl⟩ k_X7_tells_f244 rfl dX7_tells_121 h (fun x24 h => ?_)
            refine lv_bipush (v := 16) hx hb dX7_tells_124 (by decide +kernel) ?_
            refine lv_icmp_ne (tgt := 136) hx hb dX7_tells_126 (by decide) (fun c25 => ?_) (fun c25 => ?_)
            · have h := if_f c25 h
              refine lv_bipush (v := (-12)) hx hb dX7_tells_136 (by decide +kernel) ?_
              exact x_iret (p_V cI cO a) hx hb hr hlocks hP hS dX7_tells_138 h
            · have h := if_t c25 h
              refine lv_aload_n hx hb dX7_tells_129 rfl (lv_at hl 0 rfl) ?_
              refine x_geti (C := RX1) (k := 5) hx hb hts u_X7_tells_1 hown hK hP (gh_0 cI cO a s3 hj_x1) rfl (by decide) ⟨rfl, rfl, rfl⟩ k_X7_tells_f253 rfl dX7_tells_130 h (fun x26 h => ?_)
              refine lv_goto (tgt := 138) hx hb dX7_tells_133 (by decide) ?_
              exact x_iret (p_V cI cO a) hx hb hr hlocks hP hS dX7_tells_138 h
          · have h := if_f c11 h
            refine lv_bipush (v := (-12)) hx hb dX7_tells_43 (by decide +kernel) ?_
            exact x_iret (p_V cI cO a) hx hb hr hlocks hP hS dX7_tells_45 h
        · have h := if_t c9 h
          refine lv_bipush (v := (-11)) hx hb dX7_tells_32 (by decide +kernel) ?_
          exact x_iret (p_V cI cO a) hx hb hr hlocks hP hS dX7_tells_34 h
      · have h := if_f c7 h
        refine lv_iconst (v := (-1)) hx hb dX7_tells_16 (by decide +kernel) ?_
        exact x_iret (p_V cI cO a) hx hb hr hlocks hP hS dX7_tells_17 h
/-! ===== VectorRounds.fullHolders()I: world V ===== -/
theorem i_X7_fullHolders : yX7_fullHolders.cls = RX7 ∧ yX7_fullHolders.cls ≠ "java/lang/invoke/MethodHandle" ∧ yX7_fullHolders.cls ≠ "java/lang/invoke/VarHandle" ∧ (parseMethodDescriptor yX7_fullHolders.desc).map (fun d => d.parameters.length) = some 0 := by decide +kernel
theorem k_X7_fullHolders_f203 : Cond.fieldLink RX7 203 RX1 "sort" "I" ∈ wsX7_fullHolders := by decide +kernel
theorem k_X7_fullHolders_f48 : Cond.fieldLink RX7 48 RX7 "holders" "[LVectorRounds$Holder;" ∈ wsX7_fullHolders := by decide +kernel
theorem u_X7_fullHolders_1 : ∀ w ∈ u_ws RX1 TX1 8, w ∈ wsX7_fullHolders := by decide +kernel
theorem u_X7_fullHolders_7 : ∀ w ∈ u_ws RX7 TX7 9, w ∈ wsX7_fullHolders := by decide +kernel
set_option maxHeartbeats 4000000 in
set_option maxRecDepth 100000 in
theorem c_X7_fullHolders (l : Launch) (D : va_G) (cI cO : ClassId) (tys : List (ClassId × FieldType)) (ht : tys[0]? = some (cI, .int)) (ht1 : tys[1]? = some (cO, .object "VectorRounds$Holder")) (a : Nat → Nat) (σ : qM) : q_Met l yX7_fullHolders wsX7_fullHolders ({ frames := 0, cells := 0, slots := 0, locals := 0 }) [.ref (a 0)] D tys (p_V cI cO a) σ (f_X7_fullHolders σ) := by
  refine x_ofWi (cc := cX7_fullHolders) (maxL := 3) (ret := (some .int)) (by decide +kernel) rfl (pf_V cI cO a) (Nat.le_of_ble_eq_true rfl) ?_
  intro p e s m below meth c A ls qq h hx hb hml hr hlocks hown hts hK hP hD hA hS hl
  have hown : s.vm.findClass RX7 = some m.cls := hown
  have hl : lv_has ls 3 [(0, .ref (a 0))] := hl
  have main : ∀ k9 : Nat, (∀ (σ : qM) (x1 x2 : Int32) (H : Heap) (locs : List Loc) (ls : Array Slot), q_it (D_X7_fullHolders) k9 0 σ [x1, x2] = some qq → va_P D vwCl (p_V cI cO a σ) H → va_S A s.heap H locs → lv_has ls 3 [(0, .ref (a 0)), (1, .int x1), (2, .int x2)] → W p l e ({ frames := 0, cells := 0, slots := 0, locals := 0 }) s m [.ref (a 0)].toArray below meth c H locs 0 0 (MQ below (va_Qi (fun r τ => (r, τ) = qq) (fun τ t => va_P D vwCl ((p_V cI cO a) τ) t.heap) A) [.ref (a 0)].toArray s 0 0 A) (F0 m 4 ls [])) := by
    intro k9
    induction k9 with
    | zero => exact (fun _ _ _ _ _ _ h _ _ _ => (q_no (show (none : qR) = some qq from h)).elim)
    | succ k9 ih =>
      have i4 := ih
      refine ?_
      · intro σ x1 x2 H locs ls h hP hS hl
        have h : b_X7_fullHolders_4 (q_it (D_X7_fullHolders) k9) σ x1 x2 = some qq := h
        unfold b_X7_fullHolders_4 at h
        refine lv_iload_n hx hb dX7_fullHolders_4 rfl (lv_at hl 2 rfl) ?_
        refine lv_bipush (v := 6) hx hb dX7_fullHolders_5 (by decide +kernel) ?_
        refine lv_icmp_ge (tgt := 31) hx hb dX7_fullHolders_7 (by decide) (fun c3 => ?_) (fun c3 => ?_)
        · have h := if_t c3 h
          refine lv_iload_n hx hb dX7_fullHolders_31 rfl (lv_at hl 1 rfl) ?_
          exact x_iret (p_V cI cO a) hx hb hr hlocks hP hS dX7_fullHolders_32 h
        · have h := if_f c3 h
          refine lv_aload_n hx hb dX7_fullHolders_10 rfl (lv_at hl 0 rfl) ?_
          refine x_getr (C := RX7) (k := 7) hx hb hts u_X7_fullHolders_7 hown hK hP (g_V_0 cI cO a σ) rfl (by decide) ⟨rfl, rfl, rfl⟩ k_X7_fullHolders_f48 rfl dX7_fullHolders_11 ?_
          refine lv_iload_n hx hb dX7_fullHolders_14 rfl (lv_at hl 2 rfl) ?_
          refine va_aldq hx hb hK hP 93 1 (g_V_93 cI cO a σ) ht1 (q_in (q_gd_of h).1) dX7_fullHolders_15 ?_
          have hj_x2 := q_lt6 (q_gd_of h).1
          have h := (q_gd_of h).2
          refine W.eq (g2 := F0 m 16 ls [.ref (a (94 + 2 * x2.toNatClampNeg))]) rfl ?_
          refine x_geti (C := RX1) (k := 0) hx hb hts u_X7_fullHolders_1 hown hK hP (gh_0 cI cO a σ hj_x2) rfl (by decide) ⟨rfl, rfl, rfl⟩ k_X7_fullHolders_f203 rfl dX7_fullHolders_16 h (fun x4 h => ?_)
          refine lv_if_eq (tgt := 25) hx hb dX7_fullHolders_19 (by decide) (fun c5 => ?_) (fun c5 => ?_)
          · have h := if_t c5 h
            refine x_iinc (k := 2) (w := 1) hx hb dX7_fullHolders_25 hl rfl (by decide +kernel) (by decide) (fun v9 => [(2, .int v9), (0, .ref (a 0)), (1, .int x1)]) (fun v9 => rfl) h (fun x6 ls hl h => ?_)
            have hl : lv_has ls 3 [(2, .int x6), (0, .ref (a 0)), (1, .int x1)] := hl
            refine lv_goto (tgt := 4) hx hb dX7_fullHolders_28 (by decide) ?_
            exact i4 σ x1 x6 _ _ _ h hP hS (lv_sub hl [1, 2, 0] rfl)
          · have h := if_f c5 h
            refine x_iinc (k := 1) (w := 1) hx hb dX7_fullHolders_22 hl rfl (by decide +kernel) (by decide) (fun v9 => [(1, .int v9), (0, .ref (a 0)), (2, .int x2)]) (fun v9 => rfl) h (fun x7 ls hl h => ?_)
            have hl : lv_has ls 3 [(1, .int x7), (0, .ref (a 0)), (2, .int x2)] := hl
            refine x_iinc (k := 2) (w := 1) hx hb dX7_fullHolders_25 hl rfl (by decide +kernel) (by decide) (fun v9 => [(2, .int v9), (1, .int x7), (0, .ref (a 0))]) (fun v9 => rfl) h (fun x8 ls hl h => ?_)
            have hl : lv_has ls 3 [(2, .int x8), (1, .int x7), (0, .ref (a 0))] := hl
            refine lv_goto (tgt := 4) hx hb dX7_fullHolders_28 (by decide) ?_
            exact i4 σ x7 x8 _ _ _ h hP hS (lv_sub hl [2, 1, 0] rfl)
  have i4 : ∀ (σ : qM) (x1 x2 : Int32) (H : Heap) (locs : List Loc) (ls : Array Slot), q_lim (D_X7_fullHolders) 0 σ [x1, x2] = some qq → va_P D vwCl (p_V cI cO a σ) H → va_S A s.heap H locs → lv_has ls 3 [(0, .ref (a 0)), (1, .int x1), (2, .int x2)] → W p l e ({ frames := 0, cells := 0, slots := 0, locals := 0 }) s m [.ref (a 0)].toArray below meth c H locs 0 0 (MQ below (va_Qi (fun r τ => (r, τ) = qq) (fun τ t => va_P D vwCl ((p_V cI cO a) τ) t.heap) A) [.ref (a 0)].toArray s 0 0 A) (F0 m 4 ls []) := by
    intro σ x1 x2 H locs ls h hP hS hl
    obtain ⟨k9, h⟩ := q_lim_n h
    exact (main k9) σ x1 x2 H locs ls h hP hS hl
  have h : e_X7_fullHolders (q_lim (D_X7_fullHolders)) σ = some qq := h
  unfold e_X7_fullHolders at h
  refine lv_iconst (v := 0) hx hb dX7_fullHolders_0 (by decide +kernel) ?_
  refine lv_istore_n (lv' := [(1, .int 0), (0, .ref (a 0))]) hx hb dX7_fullHolders_1 rfl hl (by decide) rfl (fun ls hl => ?_)
  refine lv_iconst (v := 0) hx hb dX7_fullHolders_2 (by decide +kernel) ?_
  refine lv_istore_n (lv' := [(2, .int 0), (1, .int 0), (0, .ref (a 0))]) hx hb dX7_fullHolders_3 rfl hl (by decide) rfl (fun ls hl => ?_)
  exact i4 σ 0 0 _ _ _ h hP hS (lv_sub hl [2, 1, 0] rfl)
/-! ===== VectorRounds.count(I)I: world V ===== -/
theorem i_X7_count : yX7_count.cls = RX7 ∧ yX7_count.cls ≠ "java/lang/invoke/MethodHandle" ∧ yX7_count.cls ≠ "java/lang/invoke/VarHandle" ∧ (parseMethodDescriptor yX7_count.desc).map (fun d => d.parameters.length) = some 1 := by decide +kernel
theorem k_X7_count_f118 : Cond.fieldLink RX7 118 RX3 "tables" "LVectorRounds$Tables;" ∈ wsX7_count := by decide +kernel
theorem k_X7_count_f12 : Cond.fieldLink RX7 12 RX7 "now" "LVectorRounds$Network;" ∈ wsX7_count := by decide +kernel
theorem k_X7_count_f218 : Cond.fieldLink RX7 218 RX5 "length" "I" ∈ wsX7_count := by decide +kernel
theorem k_X7_count_f234 : Cond.fieldLink RX7 234 RX3 "round" "I" ∈ wsX7_count := by decide +kernel
theorem k_X7_count_f262 : Cond.fieldLink RX7 262 RX3 "toldEver" "I" ∈ wsX7_count := by decide +kernel
theorem k_X7_count_f42 : Cond.fieldLink RX7 42 RX7 "tape" "LVectorRounds$Tape;" ∈ wsX7_count := by decide +kernel
theorem k_X7_count_f53 : Cond.fieldLink RX7 53 RX3 "routers" "I" ∈ wsX7_count := by decide +kernel
theorem k_X7_count_f65 : Cond.fieldLink RX7 65 RX3 "links" "LVectorRounds$Links;" ∈ wsX7_count := by decide +kernel
theorem k_X7_count_f75 : Cond.fieldLink RX7 75 RX2 "size" "I" ∈ wsX7_count := by decide +kernel
theorem u_X7_count_2 : ∀ w ∈ u_ws RX2 TX2 6, w ∈ wsX7_count := by decide +kernel
theorem u_X7_count_3 : ∀ w ∈ u_ws RX3 TX3 9, w ∈ wsX7_count := by decide +kernel
theorem u_X7_count_5 : ∀ w ∈ u_ws RX5 TX5 6, w ∈ wsX7_count := by decide +kernel
theorem u_X7_count_7 : ∀ w ∈ u_ws RX7 TX7 9, w ∈ wsX7_count := by decide +kernel
set_option maxHeartbeats 4000000 in
set_option maxRecDepth 100000 in
theorem c_X7_count (l : Launch) (D : va_G) (cI cO : ClassId) (tys : List (ClassId × FieldType)) (ht : tys[0]? = some (cI, .int)) (ht1 : tys[1]? = some (cO, .object "VectorRounds$Holder")) (a : Nat → Nat) (σ : qM) (x1 : Int32) : q_Met l yX7_count wsX7_count ({ frames := 2, cells := 0, slots := 0, locals := 44 }) [.ref (a 0), .int x1] D tys (p_V cI cO a) σ (f_X7_count σ x1) := by
  refine x_ofWi (cc := cX7_count) (maxL := 2) (ret := (some .int)) (by decide +kernel) rfl (pf_V cI cO a) (Nat.le_of_ble_eq_true rfl) ?_
  intro p e s m below meth c A ls qq h hx hb hml hr hlocks hown hts hK hP hD hA hS hl
  have hown : s.vm.findClass RX7 = some m.cls := hown
  have hl : lv_has ls 2 [(0, .ref (a 0)), (1, .int x1)] := hl
  unfold f_X7_count at h
  refine lv_iload_n hx hb dX7_count_0 rfl (lv_at hl 1 rfl) ?_
  by_cases c2 : x1 = 0
  · have h := if_t c2 h
    refine x_tsw_in (v := 0) (off := 51) (tgt := 52) hx hb dX7_count_1 c2 (by decide +kernel) ?_
    refine lv_aload_n hx hb dX7_count_52 rfl (lv_at hl 0 rfl) ?_
    refine x_getr (C := RX7) (k := 0) hx hb hts u_X7_count_7 hown hK hP (g_V_0 cI cO a σ) rfl (by decide) ⟨rfl, rfl, rfl⟩ k_X7_count_f12 rfl dX7_count_53 ?_
    refine x_geti (C := RX3) (k := 3) hx hb hts u_X7_count_3 hown hK hP (g_V_1 cI cO a σ) rfl (by decide) ⟨rfl, rfl, rfl⟩ k_X7_count_f53 rfl dX7_count_56 h (fun x3 h => ?_)
    exact x_iret (p_V cI cO a) hx hb hr hlocks hP hS dX7_count_59 h
  have h := if_f c2 h
  by_cases c4 : x1 = 1
  · have h := if_t c4 h
    refine x_tsw_in (v := 1) (off := 59) (tgt := 60) hx hb dX7_count_1 c4 (by decide +kernel) ?_
    refine lv_aload_n hx hb dX7_count_60 rfl (lv_at hl 0 rfl) ?_
    refine x_getr (C := RX7) (k := 0) hx hb hts u_X7_count_7 hown hK hP (g_V_0 cI cO a σ) rfl (by decide) ⟨rfl, rfl, rfl⟩ k_X7_count_f12 rfl dX7_count_61 ?_
    refine x_getr (C := RX3) (k := 2) hx hb hts u_X7_count_3 hown hK hP (g_V_1 cI cO a σ) rfl (by decide) ⟨rfl, rfl, rfl⟩ k_X7_count_f65 rfl dX7_count_64 ?_
    refine x_geti (C := RX2) (k := 5) hx hb hts u_X7_count_2 hown hK hP (g_V_16 cI cO a σ) rfl (by decide) ⟨rfl, rfl, rfl⟩ k_X7_count_f75 rfl dX7_count_67 h (fun x5 h => ?_)
    exact x_iret (p_V cI cO a) hx hb hr hlocks hP hS dX7_count_70 h
  have h := if_f c4 h
  by_cases c6 : x1 = 2
  · have h := if_t c6 h
    refine x_tsw_in (v := 2) (off := 70) (tgt := 71) hx hb dX7_count_1 c6 (by decide +kernel) ?_
    refine lv_aload_n hx hb dX7_count_71 rfl (lv_at hl 0 rfl) ?_
    refine x_getr (C := RX7) (k := 0) hx hb hts u_X7_count_7 hown hK hP (g_V_0 cI cO a σ) rfl (by decide) ⟨rfl, rfl, rfl⟩ k_X7_count_f12 rfl dX7_count_72 ?_
    refine x_getr (C := RX3) (k := 2) hx hb hts u_X7_count_3 hown hK hP (g_V_1 cI cO a σ) rfl (by decide) ⟨rfl, rfl, rfl⟩ k_X7_count_f65 rfl dX7_count_75 ?_
    refine x_cVi (p_V cI cO a) (p_L cI (q_sub 16 a)) (q_put 16 6 σ) [] [] hx hb hml hl.1 hown hts hK hP hD hS hA rfl (c_X2_howManyUp l D cI tys ht (q_sub 16 a) (q_sub 16 σ)) gX7_count_X2_howManyUp rfl ⟨rfl, rfl⟩ i_X2_howManyUp ⟨Nat.le_of_ble_eq_true rfl, Nat.le_of_ble_eq_true rfl⟩ (fr_V_L_16 cI cO a σ) (g_L_0 cI (q_sub 16 a) (q_sub 16 σ)) rfl rfl (Nat.le_of_ble_eq_true rfl) ⟨Nat.zero_le _, Nat.zero_le _⟩ dX7_count_78 h (fun x8 H locs s7 hP hS h => ?_)
    exact x_iret (p_V cI cO a) hx hb hr hlocks hP hS dX7_count_81 h
  have h := if_f c6 h
  by_cases c9 : x1 = 3
  · have h := if_t c9 h
    refine x_tsw_in (v := 3) (off := 81) (tgt := 82) hx hb dX7_count_1 c9 (by decide +kernel) ?_
    refine lv_aload_n hx hb dX7_count_82 rfl (lv_at hl 0 rfl) ?_
    refine x_getr (C := RX7) (k := 0) hx hb hts u_X7_count_7 hown hK hP (g_V_0 cI cO a σ) rfl (by decide) ⟨rfl, rfl, rfl⟩ k_X7_count_f12 rfl dX7_count_83 ?_
    refine x_getr (C := RX3) (k := 0) hx hb hts u_X7_count_3 hown hK hP (g_V_1 cI cO a σ) rfl (by decide) ⟨rfl, rfl, rfl⟩ k_X7_count_f118 rfl dX7_count_86 ?_
    refine lv_iconst (v := 0) hx hb dX7_count_89 (by decide +kernel) ?_
    refine x_cVi (p_V cI cO a) (p_T cI (q_sub 2 a)) (q_put 2 7 σ) [] [.int 0] hx hb hml hl.1 hown hts hK hP hD hS hA rfl (c_X4_howMany l D cI tys ht (q_sub 2 a) (q_sub 2 σ) 0) gX7_count_X4_howMany rfl ⟨rfl, rfl⟩ i_X4_howMany ⟨Nat.le_of_ble_eq_true rfl, Nat.le_of_ble_eq_true rfl⟩ (fr_V_T_2 cI cO a σ) (g_T_0 cI (q_sub 2 a) (q_sub 2 σ)) rfl rfl (Nat.le_of_ble_eq_true rfl) ⟨Nat.zero_le _, Nat.zero_le _⟩ dX7_count_90 h (fun x11 H locs s10 hP hS h => ?_)
    exact x_iret (p_V cI cO a) hx hb hr hlocks hP hS dX7_count_93 h
  have h := if_f c9 h
  by_cases c12 : x1 = 4
  · have h := if_t c12 h
    refine x_tsw_in (v := 4) (off := 93) (tgt := 94) hx hb dX7_count_1 c12 (by decide +kernel) ?_
    refine lv_aload_n hx hb dX7_count_94 rfl (lv_at hl 0 rfl) ?_
    refine x_getr (C := RX7) (k := 0) hx hb hts u_X7_count_7 hown hK hP (g_V_0 cI cO a σ) rfl (by decide) ⟨rfl, rfl, rfl⟩ k_X7_count_f12 rfl dX7_count_95 ?_
    refine x_geti (C := RX3) (k := 7) hx hb hts u_X7_count_3 hown hK hP (g_V_1 cI cO a σ) rfl (by decide) ⟨rfl, rfl, rfl⟩ k_X7_count_f234 rfl dX7_count_98 h (fun x13 h => ?_)
    exact x_iret (p_V cI cO a) hx hb hr hlocks hP hS dX7_count_101 h
  have h := if_f c12 h
  by_cases c14 : x1 = 5
  · have h := if_t c14 h
    refine x_tsw_in (v := 5) (off := 101) (tgt := 102) hx hb dX7_count_1 c14 (by decide +kernel) ?_
    refine lv_aload_n hx hb dX7_count_102 rfl (lv_at hl 0 rfl) ?_
    refine x_getr (C := RX7) (k := 0) hx hb hts u_X7_count_7 hown hK hP (g_V_0 cI cO a σ) rfl (by decide) ⟨rfl, rfl, rfl⟩ k_X7_count_f12 rfl dX7_count_103 ?_
    refine x_geti (C := RX3) (k := 8) hx hb hts u_X7_count_3 hown hK hP (g_V_1 cI cO a σ) rfl (by decide) ⟨rfl, rfl, rfl⟩ k_X7_count_f262 rfl dX7_count_106 h (fun x15 h => ?_)
    exact x_iret (p_V cI cO a) hx hb hr hlocks hP hS dX7_count_109 h
  have h := if_f c14 h
  by_cases c16 : x1 = 6
  · have h := if_t c16 h
    refine x_tsw_in (v := 6) (off := 109) (tgt := 110) hx hb dX7_count_1 c16 (by decide +kernel) ?_
    refine lv_aload_n hx hb dX7_count_110 rfl (lv_at hl 0 rfl) ?_
    refine x_getr (C := RX7) (k := 0) hx hb hts u_X7_count_7 hown hK hP (g_V_0 cI cO a σ) rfl (by decide) ⟨rfl, rfl, rfl⟩ k_X7_count_f12 rfl dX7_count_111 ?_
    refine x_getr (C := RX3) (k := 0) hx hb hts u_X7_count_3 hown hK hP (g_V_1 cI cO a σ) rfl (by decide) ⟨rfl, rfl, rfl⟩ k_X7_count_f118 rfl dX7_count_114 ?_
    refine lv_iconst (v := 1) hx hb dX7_count_117 (by decide +kernel) ?_
    refine x_cVi (p_V cI cO a) (p_T cI (q_sub 2 a)) (q_put 2 7 σ) [] [.int 1] hx hb hml hl.1 hown hts hK hP hD hS hA rfl (c_X4_howMany l D cI tys ht (q_sub 2 a) (q_sub 2 σ) 1) gX7_count_X4_howMany rfl ⟨rfl, rfl⟩ i_X4_howMany ⟨Nat.le_of_ble_eq_true rfl, Nat.le_of_ble_eq_true rfl⟩ (fr_V_T_2 cI cO a σ) (g_T_0 cI (q_sub 2 a) (q_sub 2 σ)) rfl rfl (Nat.le_of_ble_eq_true rfl) ⟨Nat.zero_le _, Nat.zero_le _⟩ dX7_count_118 h (fun x18 H locs s17 hP hS h => ?_)
    exact x_iret (p_V cI cO a) hx hb hr hlocks hP hS dX7_count_121 h
  have h := if_f c16 h
  by_cases c19 : x1 = 7
  · have h := if_t c19 h
    refine x_tsw_in (v := 7) (off := 121) (tgt := 122) hx hb dX7_count_1 c19 (by decide +kernel) ?_
    refine lv_aload_n hx hb dX7_count_122 rfl (lv_at hl 0 rfl) ?_
    refine x_getr (C := RX7) (k := 6) hx hb hts u_X7_count_7 hown hK hP (g_V_0 cI cO a σ) rfl (by decide) ⟨rfl, rfl, rfl⟩ k_X7_count_f42 rfl dX7_count_123 ?_
    refine x_geti (C := RX5) (k := 1) hx hb hts u_X7_count_5 hown hK hP (g_V_89 cI cO a σ) rfl (by decide) ⟨rfl, rfl, rfl⟩ k_X7_count_f218 rfl dX7_count_126 h (fun x20 h => ?_)
    exact x_iret (p_V cI cO a) hx hb hr hlocks hP hS dX7_count_129 h
  have h := if_f c19 h
  by_cases c21 : x1 = 8
  · have h := if_t c21 h
    refine x_tsw_in (v := 8) (off := 129) (tgt := 130) hx hb dX7_count_1 c21 (by decide +kernel) ?_
    refine lv_aload_n hx hb dX7_count_130 rfl (lv_at hl 0 rfl) ?_
    refine x_cVi (p_V cI cO a) (p_V cI cO a) (fun τ => τ) [] [] hx hb hml hl.1 hown hts hK hP hD hS hA rfl (c_X7_fullHolders l D cI cO tys ht ht1 a σ) gX7_count_X7_fullHolders rfl ⟨rfl, rfl⟩ i_X7_fullHolders ⟨Nat.le_of_ble_eq_true rfl, Nat.le_of_ble_eq_true rfl⟩ q_frI (g_V_0 cI cO a σ) rfl rfl (Nat.le_of_ble_eq_true rfl) ⟨Nat.zero_le _, Nat.zero_le _⟩ dX7_count_131 h (fun x23 H locs s22 hP hS h => ?_)
    exact x_iret (p_V cI cO a) hx hb hr hlocks hP hS dX7_count_134 h
  have h := if_f c21 h
  refine x_tsw_out (tgt := 135) hx hb dX7_count_1 9 (by decide) (fun k9 hk9 => ?_) (by decide) ?_
  · rcases (show k9 = 0 ∨ k9 = 1 ∨ k9 = 2 ∨ k9 = 3 ∨ k9 = 4 ∨ k9 = 5 ∨ k9 = 6 ∨ k9 = 7 ∨ k9 = 8 by omega) with rfl | rfl | rfl | rfl | rfl | rfl | rfl | rfl | rfl
    · exact fun h9 => c2 (h9.trans (by decide +kernel))
    · exact fun h9 => c4 (h9.trans (by decide +kernel))
    · exact fun h9 => c6 (h9.trans (by decide +kernel))
    · exact fun h9 => c9 (h9.trans (by decide +kernel))
    · exact fun h9 => c12 (h9.trans (by decide +kernel))
    · exact fun h9 => c14 (h9.trans (by decide +kernel))
    · exact fun h9 => c16 (h9.trans (by decide +kernel))
    · exact fun h9 => c19 (h9.trans (by decide +kernel))
    · exact fun h9 => c21 (h9.trans (by decide +kernel))
  refine lv_iconst (v := (-1)) hx hb dX7_count_135 (by decide +kernel) ?_
  exact x_iret (p_V cI cO a) hx hb hr hlocks hP hS dX7_count_136 h
