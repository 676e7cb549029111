/-! ===== VectorRounds$Network.take(III)V: world N ===== -/
theorem i_X3_take : yX3_take.cls = RX3 ∧ yX3_take.cls ≠ "java/lang/invoke/MethodHandle" ∧ yX3_take.cls ≠ "java/lang/invoke/VarHandle" ∧ (parseMethodDescriptor yX3_take.desc).map (fun d => d.parameters.length) = some 3 := by decide +kernel
theorem k_X3_take_f110 : Cond.fieldLink RX3 110 RX4 "metric" "[I" ∈ wsX3_take := by decide +kernel
theorem k_X3_take_f12 : Cond.fieldLink RX3 12 RX3 "tables" "LVectorRounds$Tables;" ∈ wsX3_take := by decide +kernel
theorem k_X3_take_f124 : Cond.fieldLink RX3 124 RX4 "held" "[I" ∈ wsX3_take := by decide +kernel
theorem k_X3_take_f45 : Cond.fieldLink RX3 45 RX3 "holdDown" "I" ∈ wsX3_take := by decide +kernel
theorem k_X3_take_f48 : Cond.fieldLink RX3 48 RX3 "round" "I" ∈ wsX3_take := by decide +kernel
theorem k_X3_take_f76 : Cond.fieldLink RX3 76 RX4 "via" "[I" ∈ wsX3_take := by decide +kernel
theorem u_X3_take_3 : ∀ w ∈ u_ws RX3 TX3 9, w ∈ wsX3_take := by decide +kernel
theorem u_X3_take_4 : ∀ w ∈ u_ws RX4 TX4 6, w ∈ wsX3_take := by decide +kernel
set_option maxHeartbeats 4000000 in
set_option maxRecDepth 100000 in
theorem c_X3_take (l : Launch) (D : va_G) (cI : ClassId) (tys : List (ClassId × FieldType)) (ht : tys[0]? = some (cI, .int)) (a : Nat → Nat) (σ : qM) (x1 : Int32) (x2 : Int32) (x3 : Int32) : q_Mev l yX3_take wsX3_take ({ frames := 0, cells := 0, slots := 0, locals := 0 }) [.ref (a 0), .int x1, .int x2, .int x3] D tys (p_N cI a) σ (f_X3_take σ x1 x2 x3) := by
  refine x_ofWv (cc := cX3_take) (maxL := 4) (ret := none) (by decide +kernel) rfl (pf_N cI a) (Nat.le_of_ble_eq_true rfl) ?_
  intro p e s m below meth c A ls qq h hx hb hml hr hlocks hown hts hK hP hD hA hS hl
  have hown : s.vm.findClass RX3 = some m.cls := hown
  have hl : lv_has ls 4 [(0, .ref (a 0)), (1, .int x1), (2, .int x2), (3, .int x3)] := hl
  have i38 : ∀ (σ : qM) (x5 x6 x7 : Int32) (H : Heap) (locs : List Loc) (ls : Array Slot), b_X3_take_38 σ x5 x6 x7 = some qq → va_P D vwCl (p_N cI a σ) H → va_S A s.heap H locs → lv_has ls 4 [(0, .ref (a 0)), (1, .int x5), (2, .int x6), (3, .int x7)] → W p l e ({ frames := 0, cells := 0, slots := 0, locals := 0 }) s m [.ref (a 0), .int x1, .int x2, .int x3].toArray below meth c H locs 0 0 (MQ below (va_Qv (fun τ => ((0 : Int32), τ) = qq) (fun τ t => va_P D vwCl ((p_N cI a) τ) t.heap) A) [.ref (a 0), .int x1, .int x2, .int x3].toArray s 0 0 A) (F0 m 38 ls []) := by
    intro σ x5 x6 x7 H locs ls h hP hS hl
    unfold b_X3_take_38 at h
    refine lv_aload_n hx hb dX3_take_38 rfl (lv_at hl 0 rfl) ?_
    refine x_getr (C := RX3) (k := 0) hx hb hts u_X3_take_3 hown hK hP (g_N_0 cI a σ) rfl (by decide) ⟨rfl, rfl, rfl⟩ k_X3_take_f12 rfl dX3_take_39 ?_
    refine x_getr (C := RX4) (k := 0) hx hb hts u_X3_take_4 hown hK hP (g_N_1 cI a σ) rfl (by decide) ⟨rfl, rfl, rfl⟩ k_X3_take_f110 rfl dX3_take_42 ?_
    refine lv_iload_n hx hb dX3_take_45 rfl (lv_at hl 1 rfl) ?_
    refine lv_iload_n hx hb dX3_take_46 rfl (lv_at hl 2 rfl) ?_
    refine x_iast (p_N cI a) (t0 := 0) hx hb hK hP hD hS ht h (g_N_2 cI a σ) (fun j9 v9 => (s_N_2 cI a σ _)) dX3_take_47 (fun H locs s14 hP hS h => ?_)
    refine lv_aload_n hx hb dX3_take_48 rfl (lv_at hl 0 rfl) ?_
    refine x_getr (C := RX3) (k := 0) hx hb hts u_X3_take_3 hown hK hP (g_N_0 cI a s14) rfl (by decide) ⟨rfl, rfl, rfl⟩ k_X3_take_f12 rfl dX3_take_49 ?_
    refine x_getr (C := RX4) (k := 1) hx hb hts u_X3_take_4 hown hK hP (g_N_1 cI a s14) rfl (by decide) ⟨rfl, rfl, rfl⟩ k_X3_take_f76 rfl dX3_take_52 ?_
    refine lv_iload_n hx hb dX3_take_55 rfl (lv_at hl 1 rfl) ?_
    refine lv_iload_n hx hb dX3_take_56 rfl (lv_at hl 3 rfl) ?_
    refine x_iast (p_N cI a) (t0 := 0) hx hb hK hP hD hS ht h (g_N_3 cI a s14) (fun j9 v9 => (s_N_3 cI a s14 _)) dX3_take_57 (fun H locs s15 hP hS h => ?_)
    exact x_vret (p_N cI a) hx hb hr hlocks hP hS dX3_take_58 h
  unfold f_X3_take at h
  refine lv_iload_n hx hb dX3_take_0 rfl (lv_at hl 2 rfl) ?_
  refine lv_bipush (v := 16) hx hb dX3_take_1 (by decide +kernel) ?_
  refine lv_icmp_ne (tgt := 38) hx hb dX3_take_3 (by decide) (fun c4 => ?_) (fun c4 => ?_)
  · have h := if_f c4 h
    exact i38 σ x1 x2 x3 _ _ _ h hP hS (lv_sub hl [0, 1, 2, 3] rfl)
  · have h := if_t c4 h
    refine lv_aload_n hx hb dX3_take_6 rfl (lv_at hl 0 rfl) ?_
    refine x_getr (C := RX3) (k := 0) hx hb hts u_X3_take_3 hown hK hP (g_N_0 cI a σ) rfl (by decide) ⟨rfl, rfl, rfl⟩ k_X3_take_f12 rfl dX3_take_7 ?_
    refine x_getr (C := RX4) (k := 0) hx hb hts u_X3_take_4 hown hK hP (g_N_1 cI a σ) rfl (by decide) ⟨rfl, rfl, rfl⟩ k_X3_take_f110 rfl dX3_take_10 ?_
    refine lv_iload_n hx hb dX3_take_13 rfl (lv_at hl 1 rfl) ?_
    refine x_iald (t0 := 0) hx hb hK hP ht h (g_N_2 cI a σ) dX3_take_14 (fun x8 h => ?_)
    refine lv_bipush (v := 16) hx hb dX3_take_15 (by decide +kernel) ?_
    refine lv_icmp_ge (tgt := 38) hx hb dX3_take_17 (by decide) (fun c9 => ?_) (fun c9 => ?_)
    · have h := if_t c9 h
      exact i38 σ x1 x2 x3 _ _ _ h hP hS (lv_sub hl [0, 1, 2, 3] rfl)
    · have h := if_f c9 h
      refine lv_aload_n hx hb dX3_take_20 rfl (lv_at hl 0 rfl) ?_
      refine x_getr (C := RX3) (k := 0) hx hb hts u_X3_take_3 hown hK hP (g_N_0 cI a σ) rfl (by decide) ⟨rfl, rfl, rfl⟩ k_X3_take_f12 rfl dX3_take_21 ?_
      refine x_getr (C := RX4) (k := 3) hx hb hts u_X3_take_4 hown hK hP (g_N_1 cI a σ) rfl (by decide) ⟨rfl, rfl, rfl⟩ k_X3_take_f124 rfl dX3_take_24 ?_
      refine lv_iload_n hx hb dX3_take_27 rfl (lv_at hl 1 rfl) ?_
      refine lv_aload_n hx hb dX3_take_28 rfl (lv_at hl 0 rfl) ?_
      refine x_geti (C := RX3) (k := 7) hx hb hts u_X3_take_3 hown hK hP (g_N_0 cI a σ) rfl (by decide) ⟨rfl, rfl, rfl⟩ k_X3_take_f48 rfl dX3_take_29 h (fun x10 h => ?_)
      refine lv_aload_n hx hb dX3_take_32 rfl (lv_at hl 0 rfl) ?_
      refine x_geti (C := RX3) (k := 6) hx hb hts u_X3_take_3 hown hK hP (g_N_0 cI a σ) rfl (by decide) ⟨rfl, rfl, rfl⟩ k_X3_take_f45 rfl dX3_take_33 h (fun x11 h => ?_)
      refine x_iadd hx hb dX3_take_36 h (fun x12 h => ?_)
      refine x_iast (p_N cI a) (t0 := 0) hx hb hK hP hD hS ht h (g_N_5 cI a σ) (fun j9 v9 => (s_N_5 cI a σ _)) dX3_take_37 (fun H locs s13 hP hS h => ?_)
      exact i38 s13 x1 x2 x3 _ _ _ h hP hS (lv_sub hl [0, 1, 2, 3] rfl)
/-! ===== VectorRounds$Network.loseVia(II)V: world N ===== -/
theorem i_X3_loseVia : yX3_loseVia.cls = RX3 ∧ yX3_loseVia.cls ≠ "java/lang/invoke/MethodHandle" ∧ yX3_loseVia.cls ≠ "java/lang/invoke/VarHandle" ∧ (parseMethodDescriptor yX3_loseVia.desc).map (fun d => d.parameters.length) = some 2 := by decide +kernel
theorem k_X3_loseVia_f12 : Cond.fieldLink RX3 12 RX3 "tables" "LVectorRounds$Tables;" ∈ wsX3_loseVia := by decide +kernel
theorem k_X3_loseVia_f35 : Cond.fieldLink RX3 35 RX3 "routers" "I" ∈ wsX3_loseVia := by decide +kernel
theorem k_X3_loseVia_f42 : Cond.fieldLink RX3 42 RX3 "sequenced" "I" ∈ wsX3_loseVia := by decide +kernel
theorem k_X3_loseVia_f76 : Cond.fieldLink RX3 76 RX4 "via" "[I" ∈ wsX3_loseVia := by decide +kernel
theorem k_X3_loseVia_f83 : Cond.fieldLink RX3 83 RX4 "sequence" "[I" ∈ wsX3_loseVia := by decide +kernel
theorem u_X3_loseVia_3 : ∀ w ∈ u_ws RX3 TX3 9, w ∈ wsX3_loseVia := by decide +kernel
theorem u_X3_loseVia_4 : ∀ w ∈ u_ws RX4 TX4 6, w ∈ wsX3_loseVia := by decide +kernel
set_option maxHeartbeats 4000000 in
set_option maxRecDepth 100000 in
theorem c_X3_loseVia (l : Launch) (D : va_G) (cI : ClassId) (tys : List (ClassId × FieldType)) (ht : tys[0]? = some (cI, .int)) (a : Nat → Nat) (σ : qM) (x1 : Int32) (x2 : Int32) : q_Mev l yX3_loseVia wsX3_loseVia ({ frames := 1, cells := 0, slots := 0, locals := 23 }) [.ref (a 0), .int x1, .int x2] D tys (p_N cI a) σ (f_X3_loseVia σ x1 x2) := by
  refine x_ofWv (cc := cX3_loseVia) (maxL := 5) (ret := none) (by decide +kernel) rfl (pf_N cI a) (Nat.le_of_ble_eq_true rfl) ?_
  intro p e s m below meth c A ls qq h hx hb hml hr hlocks hown hts hK hP hD hA hS hl
  have hown : s.vm.findClass RX3 = some m.cls := hown
  have hl : lv_has ls 5 [(0, .ref (a 0)), (1, .int x1), (2, .int x2)] := hl
  have main : ∀ k9 : Nat, (∀ (σ : qM) (x3 x4 x5 : Int32) (H : Heap) (locs : List Loc) (ls : Array Slot), q_it (D_X3_loseVia) k9 0 σ [x3, x4, x5] = some qq → va_P D vwCl (p_N cI a σ) H → va_S A s.heap H locs → lv_has ls 5 [(0, .ref (a 0)), (1, .int x3), (2, .int x4), (3, .int x5)] → W p l e ({ frames := 1, cells := 0, slots := 0, locals := 23 }) s m [.ref (a 0), .int x1, .int x2].toArray below meth c H locs 0 0 (MQ below (va_Qv (fun τ => ((0 : Int32), τ) = qq) (fun τ t => va_P D vwCl ((p_N cI a) τ) t.heap) A) [.ref (a 0), .int x1, .int x2].toArray s 0 0 A) (F0 m 2 ls [])) := by
    intro k9
    induction k9 with
    | zero => exact (fun _ _ _ _ _ _ _ h _ _ _ => (q_no (show (none : qR) = some qq from h)).elim)
    | succ k9 ih =>
      have i2 := ih
      refine ?_
      · intro σ x3 x4 x5 H locs ls h hP hS hl
        have h : b_X3_loseVia_2 (q_it (D_X3_loseVia) k9) σ x3 x4 x5 = some qq := h
        unfold b_X3_loseVia_2 at h
        refine lv_iload_n hx hb dX3_loseVia_2 rfl (lv_at hl 3 rfl) ?_
        refine lv_aload_n hx hb dX3_loseVia_3 rfl (lv_at hl 0 rfl) ?_
        refine x_geti (C := RX3) (k := 3) hx hb hts u_X3_loseVia_3 hown hK hP (g_N_0 cI a σ) rfl (by decide) ⟨rfl, rfl, rfl⟩ k_X3_loseVia_f35 rfl dX3_loseVia_4 h (fun x6 h => ?_)
        refine lv_icmp_ge (tgt := 76) hx hb dX3_loseVia_7 (by decide) (fun c7 => ?_) (fun c7 => ?_)
        · have h := if_t c7 h
          exact x_vret (p_N cI a) hx hb hr hlocks hP hS dX3_loseVia_76 h
        · have h := if_f c7 h
          refine lv_iload_n hx hb dX3_loseVia_10 rfl (lv_at hl 1 rfl) ?_
          refine lv_bipush (v := 10) hx hb dX3_loseVia_11 (by decide +kernel) ?_
          refine x_imul hx hb dX3_loseVia_13 h (fun x8 h => ?_)
          refine lv_iload_n hx hb dX3_loseVia_14 rfl (lv_at hl 3 rfl) ?_
          refine x_iadd hx hb dX3_loseVia_15 h (fun x9 h => ?_)
          refine lv_istore (lv' := [(4, .int x9), (0, .ref (a 0)), (1, .int x3), (2, .int x4), (3, .int x5)]) hx hb dX3_loseVia_16 hl (by decide) rfl (fun ls hl => ?_)
          refine lv_aload_n hx hb dX3_loseVia_18 rfl (lv_at hl 1 rfl) ?_
          refine x_getr (C := RX3) (k := 0) hx hb hts u_X3_loseVia_3 hown hK hP (g_N_0 cI a σ) rfl (by decide) ⟨rfl, rfl, rfl⟩ k_X3_loseVia_f12 rfl dX3_loseVia_19 ?_
          refine lv_iload hx hb dX3_loseVia_22 (lv_at hl 0 rfl) ?_
          refine x_cVi (p_N cI a) (p_T cI (q_sub 1 a)) (q_put 1 7 σ) [] [.int x9] hx hb hml hl.1 hown hts hK hP hD hS hA rfl (c_X4_reaches l D cI tys ht (q_sub 1 a) (q_sub 1 σ) x9) gX3_loseVia_X4_reaches rfl ⟨rfl, rfl⟩ i_X4_reaches ⟨Nat.le_of_ble_eq_true rfl, Nat.le_of_ble_eq_true rfl⟩ (fr_N_T_1 cI a σ) (g_T_0 cI (q_sub 1 a) (q_sub 1 σ)) rfl rfl (Nat.le_of_ble_eq_true rfl) ⟨Nat.zero_le _, Nat.zero_le _⟩ dX3_loseVia_24 h (fun x11 H locs s10 hP hS h => ?_)
          refine lv_if_eq (tgt := 70) hx hb dX3_loseVia_27 (by decide) (fun c12 => ?_) (fun c12 => ?_)
          · have h := if_t c12 h
            refine x_iinc (k := 4) (w := 1) hx hb dX3_loseVia_70 hl rfl (by decide +kernel) (by decide) (fun v9 => [(3, .int v9), (4, .int x9), (0, .ref (a 0)), (1, .int x3), (2, .int x4)]) (fun v9 => rfl) h (fun x13 ls hl h => ?_)
            have hl : lv_has ls 5 [(3, .int x13), (4, .int x9), (0, .ref (a 0)), (1, .int x3), (2, .int x4)] := hl
            refine lv_goto (tgt := 2) hx hb dX3_loseVia_73 (by decide) ?_
            exact i2 s10 x3 x4 x13 _ _ _ h hP hS (lv_sub hl [2, 3, 4, 0] rfl)
          · have h := if_f c12 h
            refine lv_aload_n hx hb dX3_loseVia_30 rfl (lv_at hl 1 rfl) ?_
            refine x_getr (C := RX3) (k := 0) hx hb hts u_X3_loseVia_3 hown hK hP (g_N_0 cI a s10) rfl (by decide) ⟨rfl, rfl, rfl⟩ k_X3_loseVia_f12 rfl dX3_loseVia_31 ?_
            refine x_getr (C := RX4) (k := 1) hx hb hts u_X3_loseVia_4 hown hK hP (g_N_1 cI a s10) rfl (by decide) ⟨rfl, rfl, rfl⟩ k_X3_loseVia_f76 rfl dX3_loseVia_34 ?_
            refine lv_iload hx hb dX3_loseVia_37 (lv_at hl 0 rfl) ?_
            refine x_iald (t0 := 0) hx hb hK hP ht h (g_N_3 cI a s10) dX3_loseVia_39 (fun x14 h => ?_)
            refine lv_iload_n hx hb dX3_loseVia_40 rfl (lv_at hl 3 rfl) ?_
            refine lv_icmp_ne (tgt := 70) hx hb dX3_loseVia_41 (by decide) (fun c15 => ?_) (fun c15 => ?_)
            · have h := if_f c15 h
              refine x_iinc (k := 4) (w := 1) hx hb dX3_loseVia_70 hl rfl (by decide +kernel) (by decide) (fun v9 => [(3, .int v9), (4, .int x9), (0, .ref (a 0)), (1, .int x3), (2, .int x4)]) (fun v9 => rfl) h (fun x16 ls hl h => ?_)
              have hl : lv_has ls 5 [(3, .int x16), (4, .int x9), (0, .ref (a 0)), (1, .int x3), (2, .int x4)] := hl
              refine lv_goto (tgt := 2) hx hb dX3_loseVia_73 (by decide) ?_
              exact i2 s10 x3 x4 x16 _ _ _ h hP hS (lv_sub hl [2, 3, 4, 0] rfl)
            · have h := if_t c15 h
              refine lv_aload_n hx hb dX3_loseVia_44 rfl (lv_at hl 1 rfl) ?_
              refine lv_iload hx hb dX3_loseVia_45 (lv_at hl 0 rfl) ?_
              refine lv_bipush (v := 16) hx hb dX3_loseVia_47 (by decide +kernel) ?_
              refine lv_iload_n hx hb dX3_loseVia_49 rfl (lv_at hl 3 rfl) ?_
              refine x_cVv (p_N cI a) (p_N cI a) (fun τ => τ) [] [.int x9, .int 16, .int x4] hx hb hml hl.1 hown hts hK hP hD hS hA rfl (c_X3_take l D cI tys ht a s10 x9 16 x4) gX3_loseVia_X3_take rfl ⟨rfl, rfl⟩ i_X3_take ⟨Nat.le_of_ble_eq_true rfl, Nat.le_of_ble_eq_true rfl⟩ q_frI (g_N_0 cI a s10) rfl rfl (Nat.le_of_ble_eq_true rfl) ⟨Nat.zero_le _, Nat.zero_le _⟩ dX3_loseVia_50 h (fun H locs s17 hP hS h => ?_)
              refine lv_aload_n hx hb dX3_loseVia_53 rfl (lv_at hl 1 rfl) ?_
              refine x_getr (C := RX3) (k := 0) hx hb hts u_X3_loseVia_3 hown hK hP (g_N_0 cI a s17) rfl (by decide) ⟨rfl, rfl, rfl⟩ k_X3_loseVia_f12 rfl dX3_loseVia_54 ?_
              refine x_getr (C := RX4) (k := 2) hx hb hts u_X3_loseVia_4 hown hK hP (g_N_1 cI a s17) rfl (by decide) ⟨rfl, rfl, rfl⟩ k_X3_loseVia_f83 rfl dX3_loseVia_57 ?_
              refine lv_iload hx hb dX3_loseVia_60 (lv_at hl 0 rfl) ?_
              refine lv_dup2_11 hx hb dX3_loseVia_62 rfl rfl ?_
              refine x_iald (t0 := 0) hx hb hK hP ht h (g_N_4 cI a s17) dX3_loseVia_63 (fun x18 h => ?_)
              refine lv_aload_n hx hb dX3_loseVia_64 rfl (lv_at hl 1 rfl) ?_
              refine x_geti (C := RX3) (k := 5) hx hb hts u_X3_loseVia_3 hown hK hP (g_N_0 cI a s17) rfl (by decide) ⟨rfl, rfl, rfl⟩ k_X3_loseVia_f42 rfl dX3_loseVia_65 h (fun x19 h => ?_)
              refine x_iadd hx hb dX3_loseVia_68 h (fun x20 h => ?_)
              refine x_iast (p_N cI a) (t0 := 0) hx hb hK hP hD hS ht h (g_N_4 cI a s17) (fun j9 v9 => (s_N_4 cI a s17 _)) dX3_loseVia_69 (fun H locs s21 hP hS h => ?_)
              refine x_iinc (k := 4) (w := 1) hx hb dX3_loseVia_70 hl rfl (by decide +kernel) (by decide) (fun v9 => [(3, .int v9), (4, .int x9), (0, .ref (a 0)), (1, .int x3), (2, .int x4)]) (fun v9 => rfl) h (fun x22 ls hl h => ?_)
              have hl : lv_has ls 5 [(3, .int x22), (4, .int x9), (0, .ref (a 0)), (1, .int x3), (2, .int x4)] := hl
              refine lv_goto (tgt := 2) hx hb dX3_loseVia_73 (by decide) ?_
              exact i2 s21 x3 x4 x22 _ _ _ h hP hS (lv_sub hl [2, 3, 4, 0] rfl)
  have i2 : ∀ (σ : qM) (x3 x4 x5 : Int32) (H : Heap) (locs : List Loc) (ls : Array Slot), q_lim (D_X3_loseVia) 0 σ [x3, x4, x5] = some qq → va_P D vwCl (p_N cI a σ) H → va_S A s.heap H locs → lv_has ls 5 [(0, .ref (a 0)), (1, .int x3), (2, .int x4), (3, .int x5)] → W p l e ({ frames := 1, cells := 0, slots := 0, locals := 23 }) s m [.ref (a 0), .int x1, .int x2].toArray below meth c H locs 0 0 (MQ below (va_Qv (fun τ => ((0 : Int32), τ) = qq) (fun τ t => va_P D vwCl ((p_N cI a) τ) t.heap) A) [.ref (a 0), .int x1, .int x2].toArray s 0 0 A) (F0 m 2 ls []) := by
    intro σ x3 x4 x5 H locs ls h hP hS hl
    obtain ⟨k9, h⟩ := q_lim_n h
    exact (main k9) σ x3 x4 x5 H locs ls h hP hS hl
  have h : e_X3_loseVia (q_lim (D_X3_loseVia)) σ x1 x2 = some qq := h
  unfold e_X3_loseVia at h
  refine lv_iconst (v := 0) hx hb dX3_loseVia_0 (by decide +kernel) ?_
  refine lv_istore_n (lv' := [(3, .int 0), (0, .ref (a 0)), (1, .int x1), (2, .int x2)]) hx hb dX3_loseVia_1 rfl hl (by decide) rfl (fun ls hl => ?_)
  exact i2 σ x1 x2 0 _ _ _ h hP hS (lv_sub hl [1, 2, 3, 0] rfl)
/-! ===== VectorRounds$Network.switchLink(I)V: world N ===== -/
theorem i_X3_switchLink : yX3_switchLink.cls = RX3 ∧ yX3_switchLink.cls ≠ "java/lang/invoke/MethodHandle" ∧ yX3_switchLink.cls ≠ "java/lang/invoke/VarHandle" ∧ (parseMethodDescriptor yX3_switchLink.desc).map (fun d => d.parameters.length) = some 1 := by decide +kernel
theorem k_X3_switchLink_f24 : Cond.fieldLink RX3 24 RX3 "links" "LVectorRounds$Links;" ∈ wsX3_switchLink := by decide +kernel
theorem k_X3_switchLink_f58 : Cond.fieldLink RX3 58 RX2 "up" "[I" ∈ wsX3_switchLink := by decide +kernel
theorem k_X3_switchLink_f62 : Cond.fieldLink RX3 62 RX2 "lesser" "[I" ∈ wsX3_switchLink := by decide +kernel
theorem k_X3_switchLink_f65 : Cond.fieldLink RX3 65 RX2 "greater" "[I" ∈ wsX3_switchLink := by decide +kernel
theorem u_X3_switchLink_2 : ∀ w ∈ u_ws RX2 TX2 6, w ∈ wsX3_switchLink := by decide +kernel
theorem u_X3_switchLink_3 : ∀ w ∈ u_ws RX3 TX3 9, w ∈ wsX3_switchLink := by decide +kernel
set_option maxHeartbeats 4000000 in
set_option maxRecDepth 100000 in
theorem c_X3_switchLink (l : Launch) (D : va_G) (cI : ClassId) (tys : List (ClassId × FieldType)) (ht : tys[0]? = some (cI, .int)) (a : Nat → Nat) (σ : qM) (x1 : Int32) : q_Mev l yX3_switchLink wsX3_switchLink ({ frames := 2, cells := 0, slots := 0, locals := 47 }) [.ref (a 0), .int x1] D tys (p_N cI a) σ (f_X3_switchLink σ x1) := by
  refine x_ofWv (cc := cX3_switchLink) (maxL := 2) (ret := none) (by decide +kernel) rfl (pf_N cI a) (Nat.le_of_ble_eq_true rfl) ?_
  intro p e s m below meth c A ls qq h hx hb hml hr hlocks hown hts hK hP hD hA hS hl
  have hown : s.vm.findClass RX3 = some m.cls := hown
  have hl : lv_has ls 2 [(0, .ref (a 0)), (1, .int x1)] := hl
  unfold f_X3_switchLink at h
  refine lv_aload_n hx hb dX3_switchLink_0 rfl (lv_at hl 0 rfl) ?_
  refine x_getr (C := RX3) (k := 2) hx hb hts u_X3_switchLink_3 hown hK hP (g_N_0 cI a σ) rfl (by decide) ⟨rfl, rfl, rfl⟩ k_X3_switchLink_f24 rfl dX3_switchLink_1 ?_
  refine x_getr (C := RX2) (k := 3) hx hb hts u_X3_switchLink_2 hown hK hP (g_N_15 cI a σ) rfl (by decide) ⟨rfl, rfl, rfl⟩ k_X3_switchLink_f58 rfl dX3_switchLink_4 ?_
  refine lv_iload_n hx hb dX3_switchLink_7 rfl (lv_at hl 1 rfl) ?_
  refine lv_iconst (v := 1) hx hb dX3_switchLink_8 (by decide +kernel) ?_
  refine lv_aload_n hx hb dX3_switchLink_9 rfl (lv_at hl 0 rfl) ?_
  refine x_getr (C := RX3) (k := 2) hx hb hts u_X3_switchLink_3 hown hK hP (g_N_0 cI a σ) rfl (by decide) ⟨rfl, rfl, rfl⟩ k_X3_switchLink_f24 rfl dX3_switchLink_10 ?_
  refine x_getr (C := RX2) (k := 3) hx hb hts u_X3_switchLink_2 hown hK hP (g_N_15 cI a σ) rfl (by decide) ⟨rfl, rfl, rfl⟩ k_X3_switchLink_f58 rfl dX3_switchLink_13 ?_
  refine lv_iload_n hx hb dX3_switchLink_16 rfl (lv_at hl 1 rfl) ?_
  refine x_iald (t0 := 0) hx hb hK hP ht h (g_N_19 cI a σ) dX3_switchLink_17 (fun x2 h => ?_)
  refine x_isub hx hb dX3_switchLink_18 h (fun x3 h => ?_)
  refine x_iast (p_N cI a) (t0 := 0) hx hb hK hP hD hS ht h (g_N_19 cI a σ) (fun j9 v9 => (s_N_19 cI a σ _)) dX3_switchLink_19 (fun H locs s4 hP hS h => ?_)
  refine lv_aload_n hx hb dX3_switchLink_20 rfl (lv_at hl 0 rfl) ?_
  refine x_getr (C := RX3) (k := 2) hx hb hts u_X3_switchLink_3 hown hK hP (g_N_0 cI a s4) rfl (by decide) ⟨rfl, rfl, rfl⟩ k_X3_switchLink_f24 rfl dX3_switchLink_21 ?_
  refine x_getr (C := RX2) (k := 3) hx hb hts u_X3_switchLink_2 hown hK hP (g_N_15 cI a s4) rfl (by decide) ⟨rfl, rfl, rfl⟩ k_X3_switchLink_f58 rfl dX3_switchLink_24 ?_
  refine lv_iload_n hx hb dX3_switchLink_27 rfl (lv_at hl 1 rfl) ?_
  refine x_iald (t0 := 0) hx hb hK hP ht h (g_N_19 cI a s4) dX3_switchLink_28 (fun x5 h => ?_)
  refine lv_if_ne (tgt := 76) hx hb dX3_switchLink_29 (by decide) (fun c6 => ?_) (fun c6 => ?_)
  · have h := if_f c6 h
    exact x_vret (p_N cI a) hx hb hr hlocks hP hS dX3_switchLink_76 h
  · have h := if_t c6 h
    refine lv_aload_n hx hb dX3_switchLink_32 rfl (lv_at hl 0 rfl) ?_
    refine lv_aload_n hx hb dX3_switchLink_33 rfl (lv_at hl 0 rfl) ?_
    refine x_getr (C := RX3) (k := 2) hx hb hts u_X3_switchLink_3 hown hK hP (g_N_0 cI a s4) rfl (by decide) ⟨rfl, rfl, rfl⟩ k_X3_switchLink_f24 rfl dX3_switchLink_34 ?_
    refine x_getr (C := RX2) (k := 0) hx hb hts u_X3_switchLink_2 hown hK hP (g_N_15 cI a s4) rfl (by decide) ⟨rfl, rfl, rfl⟩ k_X3_switchLink_f62 rfl dX3_switchLink_37 ?_
    refine lv_iload_n hx hb dX3_switchLink_40 rfl (lv_at hl 1 rfl) ?_
    refine x_iald (t0 := 0) hx hb hK hP ht h (g_N_16 cI a s4) dX3_switchLink_41 (fun x7 h => ?_)
    refine lv_aload_n hx hb dX3_switchLink_42 rfl (lv_at hl 0 rfl) ?_
    refine x_getr (C := RX3) (k := 2) hx hb hts u_X3_switchLink_3 hown hK hP (g_N_0 cI a s4) rfl (by decide) ⟨rfl, rfl, rfl⟩ k_X3_switchLink_f24 rfl dX3_switchLink_43 ?_
    refine x_getr (C := RX2) (k := 1) hx hb hts u_X3_switchLink_2 hown hK hP (g_N_15 cI a s4) rfl (by decide) ⟨rfl, rfl, rfl⟩ k_X3_switchLink_f65 rfl dX3_switchLink_46 ?_
    refine lv_iload_n hx hb dX3_switchLink_49 rfl (lv_at hl 1 rfl) ?_
    refine x_iald (t0 := 0) hx hb hK hP ht h (g_N_17 cI a s4) dX3_switchLink_50 (fun x8 h => ?_)
    refine x_cVv (p_N cI a) (p_N cI a) (fun τ => τ) [] [.int x7, .int x8] hx hb hml hl.1 hown hts hK hP hD hS hA rfl (c_X3_loseVia l D cI tys ht a s4 x7 x8) gX3_switchLink_X3_loseVia rfl ⟨rfl, rfl⟩ i_X3_loseVia ⟨Nat.le_of_ble_eq_true rfl, Nat.le_of_ble_eq_true rfl⟩ q_frI (g_N_0 cI a s4) rfl rfl (Nat.le_of_ble_eq_true rfl) ⟨Nat.zero_le _, Nat.zero_le _⟩ dX3_switchLink_51 h (fun H locs s9 hP hS h => ?_)
    refine lv_aload_n hx hb dX3_switchLink_54 rfl (lv_at hl 0 rfl) ?_
    refine lv_aload_n hx hb dX3_switchLink_55 rfl (lv_at hl 0 rfl) ?_
    refine x_getr (C := RX3) (k := 2) hx hb hts u_X3_switchLink_3 hown hK hP (g_N_0 cI a s9) rfl (by decide) ⟨rfl, rfl, rfl⟩ k_X3_switchLink_f24 rfl dX3_switchLink_56 ?_
    refine x_getr (C := RX2) (k := 1) hx hb hts u_X3_switchLink_2 hown hK hP (g_N_15 cI a s9) rfl (by decide) ⟨rfl, rfl, rfl⟩ k_X3_switchLink_f65 rfl dX3_switchLink_59 ?_
    refine lv_iload_n hx hb dX3_switchLink_62 rfl (lv_at hl 1 rfl) ?_
    refine x_iald (t0 := 0) hx hb hK hP ht h (g_N_17 cI a s9) dX3_switchLink_63 (fun x10 h => ?_)
    refine lv_aload_n hx hb dX3_switchLink_64 rfl (lv_at hl 0 rfl) ?_
    refine x_getr (C := RX3) (k := 2) hx hb hts u_X3_switchLink_3 hown hK hP (g_N_0 cI a s9) rfl (by decide) ⟨rfl, rfl, rfl⟩ k_X3_switchLink_f24 rfl dX3_switchLink_65 ?_
    refine x_getr (C := RX2) (k := 0) hx hb hts u_X3_switchLink_2 hown hK hP (g_N_15 cI a s9) rfl (by decide) ⟨rfl, rfl, rfl⟩ k_X3_switchLink_f62 rfl dX3_switchLink_68 ?_
    refine lv_iload_n hx hb dX3_switchLink_71 rfl (lv_at hl 1 rfl) ?_
    refine x_iald (t0 := 0) hx hb hK hP ht h (g_N_16 cI a s9) dX3_switchLink_72 (fun x11 h => ?_)
    refine x_cVv (p_N cI a) (p_N cI a) (fun τ => τ) [] [.int x10, .int x11] hx hb hml hl.1 hown hts hK hP hD hS hA rfl (c_X3_loseVia l D cI tys ht a s9 x10 x11) gX3_switchLink_X3_loseVia rfl ⟨rfl, rfl⟩ i_X3_loseVia ⟨Nat.le_of_ble_eq_true rfl, Nat.le_of_ble_eq_true rfl⟩ q_frI (g_N_0 cI a s9) rfl rfl (Nat.le_of_ble_eq_true rfl) ⟨Nat.zero_le _, Nat.zero_le _⟩ dX3_switchLink_73 h (fun H locs s12 hP hS h => ?_)
    exact x_vret (p_N cI a) hx hb hr hlocks hP hS dX3_switchLink_76 h
/-! ===== VectorRounds$Network.addRouter()I: world N ===== -/
theorem i_X3_addRouter : yX3_addRouter.cls = RX3 ∧ yX3_addRouter.cls ≠ "java/lang/invoke/MethodHandle" ∧ yX3_addRouter.cls ≠ "java/lang/invoke/VarHandle" ∧ (parseMethodDescriptor yX3_addRouter.desc).map (fun d => d.parameters.length) = some 0 := by decide +kernel
theorem k_X3_addRouter_f12 : Cond.fieldLink RX3 12 RX3 "tables" "LVectorRounds$Tables;" ∈ wsX3_addRouter := by decide +kernel
theorem k_X3_addRouter_f35 : Cond.fieldLink RX3 35 RX3 "routers" "I" ∈ wsX3_addRouter := by decide +kernel
theorem u_X3_addRouter_3 : ∀ w ∈ u_ws RX3 TX3 9, w ∈ wsX3_addRouter := by decide +kernel
set_option maxHeartbeats 4000000 in
set_option maxRecDepth 100000 in
theorem c_X3_addRouter (l : Launch) (D : va_G) (cI : ClassId) (tys : List (ClassId × FieldType)) (ht : tys[0]? = some (cI, .int)) (a : Nat → Nat) (σ : qM) : q_Met l yX3_addRouter wsX3_addRouter ({ frames := 1, cells := 0, slots := 0, locals := 27 }) [.ref (a 0)] D tys (p_N cI a) σ (f_X3_addRouter σ) := by
  refine x_ofWi (cc := cX3_addRouter) (maxL := 2) (ret := (some .int)) (by decide +kernel) rfl (pf_N cI a) (Nat.le_of_ble_eq_true rfl) ?_
  intro p e s m below meth c A ls qq h hx hb hml hr hlocks hown hts hK hP hD hA hS hl
  have hown : s.vm.findClass RX3 = some m.cls := hown
  have hl : lv_has ls 2 [(0, .ref (a 0))] := hl
  unfold f_X3_addRouter at h
  refine lv_aload_n hx hb dX3_addRouter_0 rfl (lv_at hl 0 rfl) ?_
  refine x_geti (C := RX3) (k := 3) hx hb hts u_X3_addRouter_3 hown hK hP (g_N_0 cI a σ) rfl (by decide) ⟨rfl, rfl, rfl⟩ k_X3_addRouter_f35 rfl dX3_addRouter_1 h (fun x1 h => ?_)
  refine lv_istore_n (lv' := [(1, .int x1), (0, .ref (a 0))]) hx hb dX3_addRouter_4 rfl hl (by decide) rfl (fun ls hl => ?_)
  refine lv_aload_n hx hb dX3_addRouter_5 rfl (lv_at hl 1 rfl) ?_
  refine x_getr (C := RX3) (k := 0) hx hb hts u_X3_addRouter_3 hown hK hP (g_N_0 cI a σ) rfl (by decide) ⟨rfl, rfl, rfl⟩ k_X3_addRouter_f12 rfl dX3_addRouter_6 ?_
  refine lv_iload_n hx hb dX3_addRouter_9 rfl (lv_at hl 0 rfl) ?_
  refine lv_iload_n hx hb dX3_addRouter_10 rfl (lv_at hl 0 rfl) ?_
  refine lv_iconst (v := 0) hx hb dX3_addRouter_11 (by decide +kernel) ?_
  refine lv_iload_n hx hb dX3_addRouter_12 rfl (lv_at hl 0 rfl) ?_
  refine lv_iconst (v := 0) hx hb dX3_addRouter_13 (by decide +kernel) ?_
  refine x_cVv (p_N cI a) (p_T cI (q_sub 1 a)) (q_put 1 7 σ) [] [.int x1, .int x1, .int 0, .int x1, .int 0] hx hb hml hl.1 hown hts hK hP hD hS hA rfl (c_X4_enter l D cI tys ht (q_sub 1 a) (q_sub 1 σ) x1 x1 0 x1 0) gX3_addRouter_X4_enter rfl ⟨rfl, rfl⟩ i_X4_enter ⟨Nat.le_of_ble_eq_true rfl, Nat.le_of_ble_eq_true rfl⟩ (fr_N_T_1 cI a σ) (g_T_0 cI (q_sub 1 a) (q_sub 1 σ)) rfl rfl (Nat.le_of_ble_eq_true rfl) ⟨Nat.zero_le _, Nat.zero_le _⟩ dX3_addRouter_14 h (fun H locs s2 hP hS h => ?_)
  refine lv_aload_n hx hb dX3_addRouter_17 rfl (lv_at hl 1 rfl) ?_
  refine lv_dup hx hb dX3_addRouter_18 rfl ?_
  refine x_geti (C := RX3) (k := 3) hx hb hts u_X3_addRouter_3 hown hK hP (g_N_0 cI a s2) rfl (by decide) ⟨rfl, rfl, rfl⟩ k_X3_addRouter_f35 rfl dX3_addRouter_19 h (fun x3 h => ?_)
  refine lv_iconst (v := 1) hx hb dX3_addRouter_22 (by decide +kernel) ?_
  refine x_iadd hx hb dX3_addRouter_23 h (fun x4 h => ?_)
  refine x_puti (p_N cI a) (C := RX3) (k := 3) hx hb hts u_X3_addRouter_3 tyX3 tyX3_ok nmX3 hown hK hP hD hS h (g_N_0 cI a s2) rfl (by decide) ⟨rfl, rfl, rfl⟩ k_X3_addRouter_f35 rfl rfl rfl rfl (Nat.le_of_ble_eq_true rfl) (s_N_0_3 cI a s2 x4) dX3_addRouter_24 (fun H locs s5 hP hS h => ?_)
  refine lv_iload_n hx hb dX3_addRouter_27 rfl (lv_at hl 0 rfl) ?_
  exact x_iret (p_N cI a) hx hb hr hlocks hP hS dX3_addRouter_28 h
/-! ===== VectorRounds$Network.receive(IIIII)V: world N ===== -/
theorem i_X3_receive : yX3_receive.cls = RX3 ∧ yX3_receive.cls ≠ "java/lang/invoke/MethodHandle" ∧ yX3_receive.cls ≠ "java/lang/invoke/VarHandle" ∧ (parseMethodDescriptor yX3_receive.desc).map (fun d => d.parameters.length) = some 5 := by decide +kernel
theorem k_X3_receive_f110 : Cond.fieldLink RX3 110 RX4 "metric" "[I" ∈ wsX3_receive := by decide +kernel
theorem k_X3_receive_f12 : Cond.fieldLink RX3 12 RX3 "tables" "LVectorRounds$Tables;" ∈ wsX3_receive := by decide +kernel
theorem k_X3_receive_f124 : Cond.fieldLink RX3 124 RX4 "held" "[I" ∈ wsX3_receive := by decide +kernel
theorem k_X3_receive_f42 : Cond.fieldLink RX3 42 RX3 "sequenced" "I" ∈ wsX3_receive := by decide +kernel
theorem k_X3_receive_f48 : Cond.fieldLink RX3 48 RX3 "round" "I" ∈ wsX3_receive := by decide +kernel
theorem k_X3_receive_f76 : Cond.fieldLink RX3 76 RX4 "via" "[I" ∈ wsX3_receive := by decide +kernel
theorem k_X3_receive_f83 : Cond.fieldLink RX3 83 RX4 "sequence" "[I" ∈ wsX3_receive := by decide +kernel
theorem u_X3_receive_3 : ∀ w ∈ u_ws RX3 TX3 9, w ∈ wsX3_receive := by decide +kernel
theorem u_X3_receive_4 : ∀ w ∈ u_ws RX4 TX4 6, w ∈ wsX3_receive := by decide +kernel
set_option maxHeartbeats 4000000 in
set_option maxRecDepth 100000 in
theorem c_X3_receive (l : Launch) (D : va_G) (cI : ClassId) (tys : List (ClassId × FieldType)) (ht : tys[0]? = some (cI, .int)) (a : Nat → Nat) (σ : qM) (x1 : Int32) (x2 : Int32) (x3 : Int32) (x4 : Int32) (x5 : Int32) : q_Mev l yX3_receive wsX3_receive ({ frames := 1, cells := 0, slots := 0, locals := 27 }) [.ref (a 0), .int x1, .int x2, .int x3, .int x4, .int x5] D tys (p_N cI a) σ (f_X3_receive σ x1 x2 x3 x4 x5) := by
  refine x_ofWv (cc := cX3_receive) (maxL := 8) (ret := none) (by decide +kernel) rfl (pf_N cI a) (Nat.le_of_ble_eq_true rfl) ?_
  intro p e s m below meth c A ls qq h hx hb hml hr hlocks hown hts hK hP hD hA hS hl
  have hown : s.vm.findClass RX3 = some m.cls := hown
  have hl : lv_has ls 8 [(0, .ref (a 0)), (1, .int x1), (2, .int x2), (3, .int x3), (4, .int x4), (5, .int x5)] := hl
  have i155 : ∀ (σ : qM) (x36 x37 x38 x39 : Int32) (H : Heap) (locs : List Loc) (ls : Array Slot), b_X3_receive_155 σ x36 x37 x38 x39 = some qq → va_P D vwCl (p_N cI a σ) H → va_S A s.heap H locs → lv_has ls 8 [(0, .ref (a 0)), (2, .int x36), (4, .int x37), (5, .int x38), (6, .int x39)] → W p l e ({ frames := 1, cells := 0, slots := 0, locals := 27 }) s m [.ref (a 0), .int x1, .int x2, .int x3, .int x4, .int x5].toArray below meth c H locs 0 0 (MQ below (va_Qv (fun τ => ((0 : Int32), τ) = qq) (fun τ t => va_P D vwCl ((p_N cI a) τ) t.heap) A) [.ref (a 0), .int x1, .int x2, .int x3, .int x4, .int x5].toArray s 0 0 A) (F0 m 155 ls []) := by
    intro σ x36 x37 x38 x39 H locs ls h hP hS hl
    unfold b_X3_receive_155 at h
    refine lv_aload_n hx hb dX3_receive_155 rfl (lv_at hl 0 rfl) ?_
    refine lv_iload hx hb dX3_receive_156 (lv_at hl 4 rfl) ?_
    refine lv_iload hx hb dX3_receive_158 (lv_at hl 2 rfl) ?_
    refine lv_iload_n hx hb dX3_receive_160 rfl (lv_at hl 1 rfl) ?_
    refine x_cVv (p_N cI a) (p_N cI a) (fun τ => τ) [] [.int x39, .int x37, .int x36] hx hb hml hl.1 hown hts hK hP hD hS hA rfl (c_X3_take l D cI tys ht a σ x39 x37 x36) gX3_receive_X3_take rfl ⟨rfl, rfl⟩ i_X3_take ⟨Nat.le_of_ble_eq_true rfl, Nat.le_of_ble_eq_true rfl⟩ q_frI (g_N_0 cI a σ) rfl rfl (Nat.le_of_ble_eq_true rfl) ⟨Nat.zero_le _, Nat.zero_le _⟩ dX3_receive_161 h (fun H locs s47 hP hS h => ?_)
    refine lv_aload_n hx hb dX3_receive_164 rfl (lv_at hl 0 rfl) ?_
    refine x_getr (C := RX3) (k := 0) hx hb hts u_X3_receive_3 hown hK hP (g_N_0 cI a s47) rfl (by decide) ⟨rfl, rfl, rfl⟩ k_X3_receive_f12 rfl dX3_receive_165 ?_
    refine x_getr (C := RX4) (k := 2) hx hb hts u_X3_receive_4 hown hK hP (g_N_1 cI a s47) rfl (by decide) ⟨rfl, rfl, rfl⟩ k_X3_receive_f83 rfl dX3_receive_168 ?_
    refine lv_iload hx hb dX3_receive_171 (lv_at hl 4 rfl) ?_
    refine lv_iload hx hb dX3_receive_173 (lv_at hl 3 rfl) ?_
    refine x_iast (p_N cI a) (t0 := 0) hx hb hK hP hD hS ht h (g_N_4 cI a s47) (fun j9 v9 => (s_N_4 cI a s47 _)) dX3_receive_175 (fun H locs s48 hP hS h => ?_)
    refine lv_goto (tgt := 208) hx hb dX3_receive_176 (by decide) ?_
    exact x_vret (p_N cI a) hx hb hr hlocks hP hS dX3_receive_208 h
  have i79 : ∀ (σ : qM) (x20 x21 x22 x23 x24 : Int32) (H : Heap) (locs : List Loc) (ls : Array Slot), b_X3_receive_79 σ x20 x21 x22 x23 x24 = some qq → va_P D vwCl (p_N cI a σ) H → va_S A s.heap H locs → lv_has ls 8 [(0, .ref (a 0)), (2, .int x20), (4, .int x21), (5, .int x22), (6, .int x23)] → W p l e ({ frames := 1, cells := 0, slots := 0, locals := 27 }) s m [.ref (a 0), .int x1, .int x2, .int x3, .int x4, .int x5].toArray below meth c H locs 0 0 (MQ below (va_Qv (fun τ => ((0 : Int32), τ) = qq) (fun τ t => va_P D vwCl ((p_N cI a) τ) t.heap) A) [.ref (a 0), .int x1, .int x2, .int x3, .int x4, .int x5].toArray s 0 0 A) (F0 m 79 ls [.int x24]) := by
    intro σ x20 x21 x22 x23 x24 H locs ls h hP hS hl
    unfold b_X3_receive_79 at h
    refine lv_istore (lv' := [(7, .int x24), (0, .ref (a 0)), (2, .int x20), (4, .int x21), (5, .int x22), (6, .int x23)]) hx hb dX3_receive_79 hl (by decide) rfl (fun ls hl => ?_)
    refine lv_aload_n hx hb dX3_receive_81 rfl (lv_at hl 1 rfl) ?_
    refine x_geti (C := RX3) (k := 5) hx hb hts u_X3_receive_3 hown hK hP (g_N_0 cI a σ) rfl (by decide) ⟨rfl, rfl, rfl⟩ k_X3_receive_f42 rfl dX3_receive_82 h (fun x27 h => ?_)
    refine lv_if_ne (tgt := 119) hx hb dX3_receive_85 (by decide) (fun c28 => ?_) (fun c28 => ?_)
    · have h := if_f c28 h
      refine lv_iload hx hb dX3_receive_119 (lv_at hl 4 rfl) ?_
      refine lv_aload_n hx hb dX3_receive_121 rfl (lv_at hl 1 rfl) ?_
      refine x_getr (C := RX3) (k := 0) hx hb hts u_X3_receive_3 hown hK hP (g_N_0 cI a σ) rfl (by decide) ⟨rfl, rfl, rfl⟩ k_X3_receive_f12 rfl dX3_receive_122 ?_
      refine x_getr (C := RX4) (k := 2) hx hb hts u_X3_receive_4 hown hK hP (g_N_1 cI a σ) rfl (by decide) ⟨rfl, rfl, rfl⟩ k_X3_receive_f83 rfl dX3_receive_125 ?_
      refine lv_iload hx hb dX3_receive_128 (lv_at hl 5 rfl) ?_
      refine x_iald (t0 := 0) hx hb hK hP ht h (g_N_4 cI a σ) dX3_receive_130 (fun x29 h => ?_)
      refine lv_icmp_le (tgt := 179) hx hb dX3_receive_131 (by decide) (fun c30 => ?_) (fun c30 => ?_)
      · have h := if_t c30 h
        refine lv_iload hx hb dX3_receive_179 (lv_at hl 4 rfl) ?_
        refine lv_aload_n hx hb dX3_receive_181 rfl (lv_at hl 1 rfl) ?_
        refine x_getr (C := RX3) (k := 0) hx hb hts u_X3_receive_3 hown hK hP (g_N_0 cI a σ) rfl (by decide) ⟨rfl, rfl, rfl⟩ k_X3_receive_f12 rfl dX3_receive_182 ?_
        refine x_getr (C := RX4) (k := 2) hx hb hts u_X3_receive_4 hown hK hP (g_N_1 cI a σ) rfl (by decide) ⟨rfl, rfl, rfl⟩ k_X3_receive_f83 rfl dX3_receive_185 ?_
        refine lv_iload hx hb dX3_receive_188 (lv_at hl 5 rfl) ?_
        refine x_iald (t0 := 0) hx hb hK hP ht h (g_N_4 cI a σ) dX3_receive_190 (fun x31 h => ?_)
        refine lv_icmp_ne (tgt := 208) hx hb dX3_receive_191 (by decide) (fun c32 => ?_) (fun c32 => ?_)
        · have h := if_f c32 h
          exact x_vret (p_N cI a) hx hb hr hlocks hP hS dX3_receive_208 h
        · have h := if_t c32 h
          refine lv_iload hx hb dX3_receive_194 (lv_at hl 0 rfl) ?_
          refine lv_if_eq (tgt := 208) hx hb dX3_receive_196 (by decide) (fun c33 => ?_) (fun c33 => ?_)
          · have h := if_t c33 h
            exact x_vret (p_N cI a) hx hb hr hlocks hP hS dX3_receive_208 h
          · have h := if_f c33 h
            refine lv_aload_n hx hb dX3_receive_199 rfl (lv_at hl 1 rfl) ?_
            refine lv_iload hx hb dX3_receive_200 (lv_at hl 5 rfl) ?_
            refine lv_iload hx hb dX3_receive_202 (lv_at hl 3 rfl) ?_
            refine lv_iload_n hx hb dX3_receive_204 rfl (lv_at hl 2 rfl) ?_
            refine x_cVv (p_N cI a) (p_N cI a) (fun τ => τ) [] [.int x23, .int x21, .int x20] hx hb hml hl.1 hown hts hK hP hD hS hA rfl (c_X3_take l D cI tys ht a σ x23 x21 x20) gX3_receive_X3_take rfl ⟨rfl, rfl⟩ i_X3_take ⟨Nat.le_of_ble_eq_true rfl, Nat.le_of_ble_eq_true rfl⟩ q_frI (g_N_0 cI a σ) rfl rfl (Nat.le_of_ble_eq_true rfl) ⟨Nat.zero_le _, Nat.zero_le _⟩ dX3_receive_205 h (fun H locs s34 hP hS h => ?_)
            exact x_vret (p_N cI a) hx hb hr hlocks hP hS dX3_receive_208 h
      · have h := if_f c30 h
        refine lv_iload hx hb dX3_receive_134 (lv_at hl 3 rfl) ?_
        refine lv_bipush (v := 16) hx hb dX3_receive_136 (by decide +kernel) ?_
        refine lv_icmp_lt (tgt := 155) hx hb dX3_receive_138 (by decide) (fun c35 => ?_) (fun c35 => ?_)
        · have h := if_t c35 h
          exact i155 σ x20 x21 x22 x23 _ _ _ h hP hS (lv_sub hl [1, 2, 3, 4, 5] rfl)
        · have h := if_f c35 h
          refine lv_aload_n hx hb dX3_receive_141 rfl (lv_at hl 1 rfl) ?_
          refine x_getr (C := RX3) (k := 0) hx hb hts u_X3_receive_3 hown hK hP (g_N_0 cI a σ) rfl (by decide) ⟨rfl, rfl, rfl⟩ k_X3_receive_f12 rfl dX3_receive_142 ?_
          refine x_getr (C := RX4) (k := 1) hx hb hts u_X3_receive_4 hown hK hP (g_N_1 cI a σ) rfl (by decide) ⟨rfl, rfl, rfl⟩ k_X3_receive_f76 rfl dX3_receive_145 ?_
          refine lv_iload hx hb dX3_receive_148 (lv_at hl 5 rfl) ?_
          refine x_iald (t0 := 0) hx hb hK hP ht h (g_N_3 cI a σ) dX3_receive_150 (fun x40 h => ?_)
          refine lv_iload_n hx hb dX3_receive_151 rfl (lv_at hl 2 rfl) ?_
          refine lv_icmp_ne (tgt := 208) hx hb dX3_receive_152 (by decide) (fun c41 => ?_) (fun c41 => ?_)
          · have h := if_f c41 h
            exact x_vret (p_N cI a) hx hb hr hlocks hP hS dX3_receive_208 h
          · have h := if_t c41 h
            exact i155 σ x20 x21 x22 x23 _ _ _ h hP hS (lv_sub hl [1, 2, 3, 4, 5] rfl)
    · have h := if_t c28 h
      refine lv_iload hx hb dX3_receive_88 (lv_at hl 0 rfl) ?_
      refine lv_if_ne (tgt := 107) hx hb dX3_receive_90 (by decide) (fun c42 => ?_) (fun c42 => ?_)
      · have h := if_f c42 h
        refine lv_aload_n hx hb dX3_receive_107 rfl (lv_at hl 1 rfl) ?_
        refine lv_iload hx hb dX3_receive_108 (lv_at hl 5 rfl) ?_
        refine lv_iload hx hb dX3_receive_110 (lv_at hl 3 rfl) ?_
        refine lv_iload_n hx hb dX3_receive_112 rfl (lv_at hl 2 rfl) ?_
        refine x_cVv (p_N cI a) (p_N cI a) (fun τ => τ) [] [.int x23, .int x21, .int x20] hx hb hml hl.1 hown hts hK hP hD hS hA rfl (c_X3_take l D cI tys ht a σ x23 x21 x20) gX3_receive_X3_take rfl ⟨rfl, rfl⟩ i_X3_take ⟨Nat.le_of_ble_eq_true rfl, Nat.le_of_ble_eq_true rfl⟩ q_frI (g_N_0 cI a σ) rfl rfl (Nat.le_of_ble_eq_true rfl) ⟨Nat.zero_le _, Nat.zero_le _⟩ dX3_receive_113 h (fun H locs s43 hP hS h => ?_)
        refine lv_goto (tgt := 208) hx hb dX3_receive_116 (by decide) ?_
        exact x_vret (p_N cI a) hx hb hr hlocks hP hS dX3_receive_208 h
      · have h := if_t c42 h
        refine lv_aload_n hx hb dX3_receive_93 rfl (lv_at hl 1 rfl) ?_
        refine x_getr (C := RX3) (k := 0) hx hb hts u_X3_receive_3 hown hK hP (g_N_0 cI a σ) rfl (by decide) ⟨rfl, rfl, rfl⟩ k_X3_receive_f12 rfl dX3_receive_94 ?_
        refine x_getr (C := RX4) (k := 1) hx hb hts u_X3_receive_4 hown hK hP (g_N_1 cI a σ) rfl (by decide) ⟨rfl, rfl, rfl⟩ k_X3_receive_f76 rfl dX3_receive_97 ?_
        refine lv_iload hx hb dX3_receive_100 (lv_at hl 5 rfl) ?_
        refine x_iald (t0 := 0) hx hb hK hP ht h (g_N_3 cI a σ) dX3_receive_102 (fun x44 h => ?_)
        refine lv_iload_n hx hb dX3_receive_103 rfl (lv_at hl 2 rfl) ?_
        refine lv_icmp_ne (tgt := 208) hx hb dX3_receive_104 (by decide) (fun c45 => ?_) (fun c45 => ?_)
        · have h := if_f c45 h
          exact x_vret (p_N cI a) hx hb hr hlocks hP hS dX3_receive_208 h
        · have h := if_t c45 h
          refine lv_aload_n hx hb dX3_receive_107 rfl (lv_at hl 1 rfl) ?_
          refine lv_iload hx hb dX3_receive_108 (lv_at hl 5 rfl) ?_
          refine lv_iload hx hb dX3_receive_110 (lv_at hl 3 rfl) ?_
          refine lv_iload_n hx hb dX3_receive_112 rfl (lv_at hl 2 rfl) ?_
          refine x_cVv (p_N cI a) (p_N cI a) (fun τ => τ) [] [.int x23, .int x21, .int x20] hx hb hml hl.1 hown hts hK hP hD hS hA rfl (c_X3_take l D cI tys ht a σ x23 x21 x20) gX3_receive_X3_take rfl ⟨rfl, rfl⟩ i_X3_take ⟨Nat.le_of_ble_eq_true rfl, Nat.le_of_ble_eq_true rfl⟩ q_frI (g_N_0 cI a σ) rfl rfl (Nat.le_of_ble_eq_true rfl) ⟨Nat.zero_le _, Nat.zero_le _⟩ dX3_receive_113 h (fun H locs s46 hP hS h => ?_)
          refine lv_goto (tgt := 208) hx hb dX3_receive_116 (by decide) ?_
          exact x_vret (p_N cI a) hx hb hr hlocks hP hS dX3_receive_208 h
  have i78 : ∀ (σ : qM) (x13 x14 x15 x16 : Int32) (H : Heap) (locs : List Loc) (ls : Array Slot), b_X3_receive_78 σ x13 x14 x15 x16 = some qq → va_P D vwCl (p_N cI a σ) H → va_S A s.heap H locs → lv_has ls 8 [(0, .ref (a 0)), (2, .int x13), (4, .int x14), (5, .int x15), (6, .int x16)] → W p l e ({ frames := 1, cells := 0, slots := 0, locals := 27 }) s m [.ref (a 0), .int x1, .int x2, .int x3, .int x4, .int x5].toArray below meth c H locs 0 0 (MQ below (va_Qv (fun τ => ((0 : Int32), τ) = qq) (fun τ t => va_P D vwCl ((p_N cI a) τ) t.heap) A) [.ref (a 0), .int x1, .int x2, .int x3, .int x4, .int x5].toArray s 0 0 A) (F0 m 78 ls []) := by
    intro σ x13 x14 x15 x16 H locs ls h hP hS hl
    unfold b_X3_receive_78 at h
    refine lv_iconst (v := 0) hx hb dX3_receive_78 (by decide +kernel) ?_
    exact i79 σ x13 x14 x15 x16 0 _ _ _ h hP hS (lv_sub hl [0, 1, 2, 3, 4] rfl)
  unfold f_X3_receive at h
  refine lv_iload_n hx hb dX3_receive_0 rfl (lv_at hl 1 rfl) ?_
  refine lv_bipush (v := 10) hx hb dX3_receive_1 (by decide +kernel) ?_
  refine x_imul hx hb dX3_receive_3 h (fun x6 h => ?_)
  refine lv_iload_n hx hb dX3_receive_4 rfl (lv_at hl 3 rfl) ?_
  refine x_iadd hx hb dX3_receive_5 h (fun x7 h => ?_)
  refine lv_istore (lv' := [(6, .int x7), (0, .ref (a 0)), (1, .int x1), (2, .int x2), (3, .int x3), (4, .int x4), (5, .int x5)]) hx hb dX3_receive_6 hl (by decide) rfl (fun ls hl => ?_)
  refine lv_aload_n hx hb dX3_receive_8 rfl (lv_at hl 1 rfl) ?_
  refine x_getr (C := RX3) (k := 0) hx hb hts u_X3_receive_3 hown hK hP (g_N_0 cI a σ) rfl (by decide) ⟨rfl, rfl, rfl⟩ k_X3_receive_f12 rfl dX3_receive_9 ?_
  refine lv_iload hx hb dX3_receive_12 (lv_at hl 0 rfl) ?_
  refine x_cVi (p_N cI a) (p_T cI (q_sub 1 a)) (q_put 1 7 σ) [] [.int x7] hx hb hml hl.1 hown hts hK hP hD hS hA rfl (c_X4_has l D cI tys ht (q_sub 1 a) (q_sub 1 σ) x7) gX3_receive_X4_has rfl ⟨rfl, rfl⟩ i_X4_has ⟨Nat.le_of_ble_eq_true rfl, Nat.le_of_ble_eq_true rfl⟩ (fr_N_T_1 cI a σ) (g_T_0 cI (q_sub 1 a) (q_sub 1 σ)) rfl rfl (Nat.le_of_ble_eq_true rfl) ⟨Nat.zero_le _, Nat.zero_le _⟩ dX3_receive_14 h (fun x9 H locs s8 hP hS h => ?_)
  refine lv_if_ne (tgt := 42) hx hb dX3_receive_17 (by decide) (fun c10 => ?_) (fun c10 => ?_)
  · have h := if_f c10 h
    refine lv_iload hx hb dX3_receive_42 (lv_at hl 5 rfl) ?_
    refine lv_aload_n hx hb dX3_receive_44 rfl (lv_at hl 1 rfl) ?_
    refine x_getr (C := RX3) (k := 0) hx hb hts u_X3_receive_3 hown hK hP (g_N_0 cI a s8) rfl (by decide) ⟨rfl, rfl, rfl⟩ k_X3_receive_f12 rfl dX3_receive_45 ?_
    refine x_getr (C := RX4) (k := 0) hx hb hts u_X3_receive_4 hown hK hP (g_N_1 cI a s8) rfl (by decide) ⟨rfl, rfl, rfl⟩ k_X3_receive_f110 rfl dX3_receive_48 ?_
    refine lv_iload hx hb dX3_receive_51 (lv_at hl 0 rfl) ?_
    refine x_iald (t0 := 0) hx hb hK hP ht h (g_N_2 cI a s8) dX3_receive_53 (fun x11 h => ?_)
    refine lv_icmp_ge (tgt := 78) hx hb dX3_receive_54 (by decide) (fun c12 => ?_) (fun c12 => ?_)
    · have h := if_t c12 h
      exact i78 s8 x2 x4 x5 x7 _ _ _ h hP hS (lv_sub hl [1, 3, 5, 6, 0] rfl)
    · have h := if_f c12 h
      refine lv_aload_n hx hb dX3_receive_57 rfl (lv_at hl 1 rfl) ?_
      refine x_getr (C := RX3) (k := 0) hx hb hts u_X3_receive_3 hown hK hP (g_N_0 cI a s8) rfl (by decide) ⟨rfl, rfl, rfl⟩ k_X3_receive_f12 rfl dX3_receive_58 ?_
      refine x_getr (C := RX4) (k := 3) hx hb hts u_X3_receive_4 hown hK hP (g_N_1 cI a s8) rfl (by decide) ⟨rfl, rfl, rfl⟩ k_X3_receive_f124 rfl dX3_receive_61 ?_
      refine lv_iload hx hb dX3_receive_64 (lv_at hl 0 rfl) ?_
      refine x_iald (t0 := 0) hx hb hK hP ht h (g_N_5 cI a s8) dX3_receive_66 (fun x17 h => ?_)
      refine lv_aload_n hx hb dX3_receive_67 rfl (lv_at hl 1 rfl) ?_
      refine x_geti (C := RX3) (k := 7) hx hb hts u_X3_receive_3 hown hK hP (g_N_0 cI a s8) rfl (by decide) ⟨rfl, rfl, rfl⟩ k_X3_receive_f48 rfl dX3_receive_68 h (fun x18 h => ?_)
      refine lv_icmp_ge (tgt := 78) hx hb dX3_receive_71 (by decide) (fun c19 => ?_) (fun c19 => ?_)
      · have h := if_t c19 h
        exact i78 s8 x2 x4 x5 x7 _ _ _ h hP hS (lv_sub hl [1, 3, 5, 6, 0] rfl)
      · have h := if_f c19 h
        refine lv_iconst (v := 1) hx hb dX3_receive_74 (by decide +kernel) ?_
        refine lv_goto (tgt := 79) hx hb dX3_receive_75 (by decide) ?_
        exact i79 s8 x2 x4 x5 x7 1 _ _ _ h hP hS (lv_sub hl [1, 3, 5, 6, 0] rfl)
  · have h := if_t c10 h
    refine lv_iload hx hb dX3_receive_20 (lv_at hl 5 rfl) ?_
    refine lv_bipush (v := 16) hx hb dX3_receive_22 (by decide +kernel) ?_
    refine lv_icmp_ge (tgt := 41) hx hb dX3_receive_24 (by decide) (fun c25 => ?_) (fun c25 => ?_)
    · have h := if_t c25 h
      exact x_vret (p_N cI a) hx hb hr hlocks hP hS dX3_receive_41 h
    · have h := if_f c25 h
      refine lv_aload_n hx hb dX3_receive_27 rfl (lv_at hl 1 rfl) ?_
      refine x_getr (C := RX3) (k := 0) hx hb hts u_X3_receive_3 hown hK hP (g_N_0 cI a s8) rfl (by decide) ⟨rfl, rfl, rfl⟩ k_X3_receive_f12 rfl dX3_receive_28 ?_
      refine lv_iload_n hx hb dX3_receive_31 rfl (lv_at hl 2 rfl) ?_
      refine lv_iload_n hx hb dX3_receive_32 rfl (lv_at hl 4 rfl) ?_
      refine lv_iload hx hb dX3_receive_33 (lv_at hl 5 rfl) ?_
      refine lv_iload_n hx hb dX3_receive_35 rfl (lv_at hl 3 rfl) ?_
      refine lv_iload hx hb dX3_receive_36 (lv_at hl 6 rfl) ?_
      refine x_cVv (p_N cI a) (p_T cI (q_sub 1 a)) (q_put 1 7 s8) [] [.int x1, .int x3, .int x4, .int x2, .int x5] hx hb hml hl.1 hown hts hK hP hD hS hA rfl (c_X4_enter l D cI tys ht (q_sub 1 a) (q_sub 1 s8) x1 x3 x4 x2 x5) gX3_receive_X4_enter rfl ⟨rfl, rfl⟩ i_X4_enter ⟨Nat.le_of_ble_eq_true rfl, Nat.le_of_ble_eq_true rfl⟩ (fr_N_T_1 cI a s8) (g_T_0 cI (q_sub 1 a) (q_sub 1 s8)) rfl rfl (Nat.le_of_ble_eq_true rfl) ⟨Nat.zero_le _, Nat.zero_le _⟩ dX3_receive_38 h (fun H locs s26 hP hS h => ?_)
      exact x_vret (p_N cI a) hx hb hr hlocks hP hS dX3_receive_41 h
/-! ===== VectorRounds$Network.tell(III)V: world N ===== -/
theorem i_X3_tell : yX3_tell.cls = RX3 ∧ yX3_tell.cls ≠ "java/lang/invoke/MethodHandle" ∧ yX3_tell.cls ≠ "java/lang/invoke/VarHandle" ∧ (parseMethodDescriptor yX3_tell.desc).map (fun d => d.parameters.length) = some 3 := by decide +kernel
theorem k_X3_tell_f104 : Cond.fieldLink RX3 104 RX4 "size" "[I" ∈ wsX3_tell := by decide +kernel
theorem k_X3_tell_f107 : Cond.fieldLink RX3 107 RX4 "order" "[I" ∈ wsX3_tell := by decide +kernel
theorem k_X3_tell_f110 : Cond.fieldLink RX3 110 RX4 "metric" "[I" ∈ wsX3_tell := by decide +kernel
theorem k_X3_tell_f18 : Cond.fieldLink RX3 18 RX3 "before" "LVectorRounds$Tables;" ∈ wsX3_tell := by decide +kernel
theorem k_X3_tell_f39 : Cond.fieldLink RX3 39 RX3 "horizon" "I" ∈ wsX3_tell := by decide +kernel
theorem k_X3_tell_f51 : Cond.fieldLink RX3 51 RX3 "toldEver" "I" ∈ wsX3_tell := by decide +kernel
theorem k_X3_tell_f76 : Cond.fieldLink RX3 76 RX4 "via" "[I" ∈ wsX3_tell := by decide +kernel
theorem k_X3_tell_f83 : Cond.fieldLink RX3 83 RX4 "sequence" "[I" ∈ wsX3_tell := by decide +kernel
theorem k_X3_tell_m113 : Cond.methodLink RX3 113 Lib.Math.min.name ∈ wsX3_tell ∧ Cond.static Lib.Math.min.name ∈ wsX3_tell ∧ Cond.initialized "java/lang/Math" ∈ wsX3_tell ∧ Cond.code Lib.Math.min.name Lib.Math.min.code 2 (some .int) ∈ wsX3_tell := by decide +kernel
theorem u_X3_tell_3 : ∀ w ∈ u_ws RX3 TX3 9, w ∈ wsX3_tell := by decide +kernel
theorem u_X3_tell_4 : ∀ w ∈ u_ws RX4 TX4 6, w ∈ wsX3_tell := by decide +kernel
set_option maxHeartbeats 4000000 in
set_option maxRecDepth 100000 in
theorem c_X3_tell (l : Launch) (D : va_G) (cI : ClassId) (tys : List (ClassId × FieldType)) (ht : tys[0]? = some (cI, .int)) (a : Nat → Nat) (σ : qM) (x1 : Int32) (x2 : Int32) (x3 : Int32) : q_Mev l yX3_tell wsX3_tell ({ frames := 2, cells := 0, slots := 0, locals := 54 }) [.ref (a 0), .int x1, .int x2, .int x3] D tys (p_N cI a) σ (f_X3_tell σ x1 x2 x3) := by
  refine x_ofWv (cc := cX3_tell) (maxL := 8) (ret := none) (by decide +kernel) rfl (pf_N cI a) (Nat.le_of_ble_eq_true rfl) ?_
  intro p e s m below meth c A ls qq h hx hb hml hr hlocks hown hts hK hP hD hA hS hl
  have hown : s.vm.findClass RX3 = some m.cls := hown
  have hl : lv_has ls 8 [(0, .ref (a 0)), (1, .int x1), (2, .int x2), (3, .int x3)] := hl
  have main : ∀ k9 : Nat, (∀ (σ : qM) (x4 x5 x6 x7 : Int32) (H : Heap) (locs : List Loc) (ls : Array Slot), q_it (D_X3_tell) k9 0 σ [x4, x5, x6, x7] = some qq → va_P D vwCl (p_N cI a σ) H → va_S A s.heap H locs → lv_has ls 8 [(0, .ref (a 0)), (1, .int x4), (2, .int x5), (3, .int x6), (4, .int x7)] → W p l e ({ frames := 2, cells := 0, slots := 0, locals := 54 }) s m [.ref (a 0), .int x1, .int x2, .int x3].toArray below meth c H locs 0 0 (MQ below (va_Qv (fun τ => ((0 : Int32), τ) = qq) (fun τ t => va_P D vwCl ((p_N cI a) τ) t.heap) A) [.ref (a 0), .int x1, .int x2, .int x3].toArray s 0 0 A) (F0 m 3 ls [])) ∧ (∀ (σ : qM) (x18 x19 x20 x21 x22 x23 x24 : Int32) (H : Heap) (locs : List Loc) (ls : Array Slot), q_it (D_X3_tell) k9 1 σ [x18, x19, x20, x21, x22, x23, x24] = some qq → va_P D vwCl (p_N cI a σ) H → va_S A s.heap H locs → lv_has ls 8 [(0, .ref (a 0)), (1, .int x18), (2, .int x19), (3, .int x20), (4, .int x21), (5, .int x22), (6, .int x23), (7, .int x24)] → W p l e ({ frames := 2, cells := 0, slots := 0, locals := 54 }) s m [.ref (a 0), .int x1, .int x2, .int x3].toArray below meth c H locs 0 0 (MQ below (va_Qv (fun τ => ((0 : Int32), τ) = qq) (fun τ t => va_P D vwCl ((p_N cI a) τ) t.heap) A) [.ref (a 0), .int x1, .int x2, .int x3].toArray s 0 0 A) (F0 m 91 ls [])) := by
    intro k9
    induction k9 with
    | zero => exact ⟨(fun _ _ _ _ _ _ _ _ h _ _ _ => (q_no (show (none : qR) = some qq from h)).elim), (fun _ _ _ _ _ _ _ _ _ _ _ h _ _ _ => (q_no (show (none : qR) = some qq from h)).elim)⟩
    | succ k9 ih =>
      obtain ⟨i3, i91⟩ := ih
      refine ⟨?_, ?_⟩
      · intro σ x4 x5 x6 x7 H locs ls h hP hS hl
        have h : b_X3_tell_3 (q_it (D_X3_tell) k9) σ x4 x5 x6 x7 = some qq := h
        unfold b_X3_tell_3 at h
        refine lv_iload hx hb dX3_tell_3 (lv_at hl 4 rfl) ?_
        refine lv_aload_n hx hb dX3_tell_5 rfl (lv_at hl 0 rfl) ?_
        refine x_getr (C := RX3) (k := 1) hx hb hts u_X3_tell_3 hown hK hP (g_N_0 cI a σ) rfl (by decide) ⟨rfl, rfl, rfl⟩ k_X3_tell_f18 rfl dX3_tell_6 ?_
        refine x_getr (C := RX4) (k := 5) hx hb hts u_X3_tell_4 hown hK hP (g_N_8 cI a σ) rfl (by decide) ⟨rfl, rfl, rfl⟩ k_X3_tell_f104 rfl dX3_tell_9 ?_
        refine lv_iload_n hx hb dX3_tell_12 rfl (lv_at hl 1 rfl) ?_
        refine x_iald (t0 := 0) hx hb hK hP ht h (g_N_14 cI a σ) dX3_tell_13 (fun x8 h => ?_)
        refine lv_icmp_ge (tgt := 140) hx hb dX3_tell_14 (by decide) (fun c9 => ?_) (fun c9 => ?_)
        · have h := if_t c9 h
          exact x_vret (p_N cI a) hx hb hr hlocks hP hS dX3_tell_140 h
        · have h := if_f c9 h
          refine lv_aload_n hx hb dX3_tell_17 rfl (lv_at hl 0 rfl) ?_
          refine x_getr (C := RX3) (k := 1) hx hb hts u_X3_tell_3 hown hK hP (g_N_0 cI a σ) rfl (by decide) ⟨rfl, rfl, rfl⟩ k_X3_tell_f18 rfl dX3_tell_18 ?_
          refine x_getr (C := RX4) (k := 4) hx hb hts u_X3_tell_4 hown hK hP (g_N_8 cI a σ) rfl (by decide) ⟨rfl, rfl, rfl⟩ k_X3_tell_f107 rfl dX3_tell_21 ?_
          refine lv_iload_n hx hb dX3_tell_24 rfl (lv_at hl 1 rfl) ?_
          refine lv_bipush (v := 10) hx hb dX3_tell_25 (by decide +kernel) ?_
          refine x_imul hx hb dX3_tell_27 h (fun x10 h => ?_)
          refine lv_iload hx hb dX3_tell_28 (lv_at hl 4 rfl) ?_
          refine x_iadd hx hb dX3_tell_30 h (fun x11 h => ?_)
          refine x_iald (t0 := 0) hx hb hK hP ht h (g_N_13 cI a σ) dX3_tell_31 (fun x12 h => ?_)
          refine lv_istore (lv' := [(5, .int x12), (0, .ref (a 0)), (1, .int x4), (2, .int x5), (3, .int x6), (4, .int x7)]) hx hb dX3_tell_32 hl (by decide) rfl (fun ls hl => ?_)
          refine lv_iload_n hx hb dX3_tell_34 rfl (lv_at hl 2 rfl) ?_
          refine lv_bipush (v := 10) hx hb dX3_tell_35 (by decide +kernel) ?_
          refine x_imul hx hb dX3_tell_37 h (fun x13 h => ?_)
          refine lv_iload hx hb dX3_tell_38 (lv_at hl 0 rfl) ?_
          refine x_iadd hx hb dX3_tell_40 h (fun x14 h => ?_)
          refine lv_istore (lv' := [(6, .int x14), (5, .int x12), (0, .ref (a 0)), (1, .int x4), (2, .int x5), (3, .int x6), (4, .int x7)]) hx hb dX3_tell_41 hl (by decide) rfl (fun ls hl => ?_)
          refine lv_aload_n hx hb dX3_tell_43 rfl (lv_at hl 2 rfl) ?_
          refine x_getr (C := RX3) (k := 1) hx hb hts u_X3_tell_3 hown hK hP (g_N_0 cI a σ) rfl (by decide) ⟨rfl, rfl, rfl⟩ k_X3_tell_f18 rfl dX3_tell_44 ?_
          refine x_getr (C := RX4) (k := 0) hx hb hts u_X3_tell_4 hown hK hP (g_N_8 cI a σ) rfl (by decide) ⟨rfl, rfl, rfl⟩ k_X3_tell_f110 rfl dX3_tell_47 ?_
          refine lv_iload hx hb dX3_tell_50 (lv_at hl 0 rfl) ?_
          refine x_iald (t0 := 0) hx hb hK hP ht h (g_N_9 cI a σ) dX3_tell_52 (fun x15 h => ?_)
          refine lv_istore (lv' := [(7, .int x15), (6, .int x14), (5, .int x12), (0, .ref (a 0)), (1, .int x4), (2, .int x5), (3, .int x6), (4, .int x7)]) hx hb dX3_tell_53 hl (by decide) rfl (fun ls hl => ?_)
          refine lv_aload_n hx hb dX3_tell_55 rfl (lv_at hl 3 rfl) ?_
          refine x_geti (C := RX3) (k := 4) hx hb hts u_X3_tell_3 hown hK hP (g_N_0 cI a σ) rfl (by decide) ⟨rfl, rfl, rfl⟩ k_X3_tell_f39 rfl dX3_tell_56 h (fun x16 h => ?_)
          refine lv_if_eq (tgt := 91) hx hb dX3_tell_59 (by decide) (fun c17 => ?_) (fun c17 => ?_)
          · have h := if_t c17 h
            exact i91 σ x4 x5 x6 x7 x12 x14 x15 _ _ _ h hP hS (lv_sub hl [3, 4, 5, 6, 7, 2, 1, 0] rfl)
          · have h := if_f c17 h
            refine lv_aload_n hx hb dX3_tell_62 rfl (lv_at hl 3 rfl) ?_
            refine x_getr (C := RX3) (k := 1) hx hb hts u_X3_tell_3 hown hK hP (g_N_0 cI a σ) rfl (by decide) ⟨rfl, rfl, rfl⟩ k_X3_tell_f18 rfl dX3_tell_63 ?_
            refine x_getr (C := RX4) (k := 1) hx hb hts u_X3_tell_4 hown hK hP (g_N_8 cI a σ) rfl (by decide) ⟨rfl, rfl, rfl⟩ k_X3_tell_f76 rfl dX3_tell_66 ?_
            refine lv_iload hx hb dX3_tell_69 (lv_at hl 1 rfl) ?_
            refine x_iald (t0 := 0) hx hb hK hP ht h (g_N_10 cI a σ) dX3_tell_71 (fun x25 h => ?_)
            refine lv_iload_n hx hb dX3_tell_72 rfl (lv_at hl 5 rfl) ?_
            refine lv_icmp_ne (tgt := 91) hx hb dX3_tell_73 (by decide) (fun c26 => ?_) (fun c26 => ?_)
            · have h := if_f c26 h
              exact i91 σ x4 x5 x6 x7 x12 x14 x15 _ _ _ h hP hS (lv_sub hl [3, 4, 5, 6, 7, 2, 1, 0] rfl)
            · have h := if_t c26 h
              refine lv_aload_n hx hb dX3_tell_76 rfl (lv_at hl 3 rfl) ?_
              refine x_geti (C := RX3) (k := 4) hx hb hts u_X3_tell_3 hown hK hP (g_N_0 cI a σ) rfl (by decide) ⟨rfl, rfl, rfl⟩ k_X3_tell_f39 rfl dX3_tell_77 h (fun x27 h => ?_)
              refine lv_iconst (v := 1) hx hb dX3_tell_80 (by decide +kernel) ?_
              refine lv_icmp_ne (tgt := 87) hx hb dX3_tell_81 (by decide) (fun c28 => ?_) (fun c28 => ?_)
              · have h := if_f c28 h
                refine lv_bipush (v := 16) hx hb dX3_tell_87 (by decide +kernel) ?_
                refine lv_istore (lv' := [(7, .int 16), (6, .int x14), (5, .int x12), (0, .ref (a 0)), (1, .int x4), (2, .int x5), (3, .int x6), (4, .int x7)]) hx hb dX3_tell_89 hl (by decide) rfl (fun ls hl => ?_)
                exact i91 σ x4 x5 x6 x7 x12 x14 16 _ _ _ h hP hS (lv_sub hl [3, 4, 5, 6, 7, 2, 1, 0] rfl)
              · have h := if_t c28 h
                refine lv_goto (tgt := 134) hx hb dX3_tell_84 (by decide) ?_
                refine x_iinc (k := 7) (w := 1) hx hb dX3_tell_134 hl rfl (by decide +kernel) (by decide) (fun v9 => [(4, .int v9), (7, .int x15), (6, .int x14), (5, .int x12), (0, .ref (a 0)), (1, .int x4), (2, .int x5), (3, .int x6)]) (fun v9 => rfl) h (fun x29 ls hl h => ?_)
                have hl : lv_has ls 8 [(4, .int x29), (7, .int x15), (6, .int x14), (5, .int x12), (0, .ref (a 0)), (1, .int x4), (2, .int x5), (3, .int x6)] := hl
                refine lv_goto (tgt := 3) hx hb dX3_tell_137 (by decide) ?_
                exact i3 σ x4 x5 x6 x29 _ _ _ h hP hS (lv_sub hl [4, 5, 6, 7, 0] rfl)
      · intro σ x18 x19 x20 x21 x22 x23 x24 H locs ls h hP hS hl
        have h : b_X3_tell_91 (q_it (D_X3_tell) k9) σ x18 x19 x20 x21 x22 x23 x24 = some qq := h
        unfold b_X3_tell_91 at h
        refine lv_aload_n hx hb dX3_tell_91 rfl (lv_at hl 0 rfl) ?_
        refine lv_dup hx hb dX3_tell_92 rfl ?_
        refine x_geti (C := RX3) (k := 8) hx hb hts u_X3_tell_3 hown hK hP (g_N_0 cI a σ) rfl (by decide) ⟨rfl, rfl, rfl⟩ k_X3_tell_f51 rfl dX3_tell_93 h (fun x30 h => ?_)
        refine lv_iconst (v := 1) hx hb dX3_tell_96 (by decide +kernel) ?_
        refine x_iadd hx hb dX3_tell_97 h (fun x31 h => ?_)
        refine x_puti (p_N cI a) (C := RX3) (k := 8) hx hb hts u_X3_tell_3 tyX3 tyX3_ok nmX3 hown hK hP hD hS h (g_N_0 cI a σ) rfl (by decide) ⟨rfl, rfl, rfl⟩ k_X3_tell_f51 rfl rfl rfl rfl (Nat.le_of_ble_eq_true rfl) (s_N_0_8 cI a σ x31) dX3_tell_98 (fun H locs s32 hP hS h => ?_)
        refine lv_iload hx hb dX3_tell_101 (lv_at hl 5 rfl) ?_
        refine lv_iload_n hx hb dX3_tell_103 rfl (lv_at hl 2 rfl) ?_
        refine lv_icmp_eq (tgt := 134) hx hb dX3_tell_104 (by decide) (fun c33 => ?_) (fun c33 => ?_)
        · have h := if_t c33 h
          refine x_iinc (k := 4) (w := 1) hx hb dX3_tell_134 hl rfl (by decide +kernel) (by decide) (fun v9 => [(4, .int v9), (0, .ref (a 0)), (1, .int x18), (2, .int x19), (3, .int x20), (5, .int x22), (6, .int x23), (7, .int x24)]) (fun v9 => rfl) h (fun x34 ls hl h => ?_)
          have hl : lv_has ls 8 [(4, .int x34), (0, .ref (a 0)), (1, .int x18), (2, .int x19), (3, .int x20), (5, .int x22), (6, .int x23), (7, .int x24)] := hl
          refine lv_goto (tgt := 3) hx hb dX3_tell_137 (by decide) ?_
          exact i3 s32 x18 x19 x20 x34 _ _ _ h hP hS (lv_sub hl [1, 2, 3, 4, 0] rfl)
        · have h := if_f c33 h
          refine lv_aload_n hx hb dX3_tell_107 rfl (lv_at hl 0 rfl) ?_
          refine lv_iload_n hx hb dX3_tell_108 rfl (lv_at hl 2 rfl) ?_
          refine lv_iload_n hx hb dX3_tell_109 rfl (lv_at hl 1 rfl) ?_
          refine lv_iload hx hb dX3_tell_110 (lv_at hl 5 rfl) ?_
          refine lv_bipush (v := 16) hx hb dX3_tell_112 (by decide +kernel) ?_
          refine lv_iload hx hb dX3_tell_114 (lv_at hl 7 rfl) ?_
          refine lv_iload_n hx hb dX3_tell_116 rfl (lv_at hl 3 rfl) ?_
          refine x_iadd hx hb dX3_tell_117 h (fun x35 h => ?_)
          refine x_mmin hx hb (hml.trans hl.1.symm) hown hts k_X3_tell_m113 ⟨Nat.le_of_ble_eq_true rfl, Nat.le_of_ble_eq_true rfl, Nat.zero_le _, Nat.zero_le _⟩ dX3_tell_118 h (fun x36 h => ?_)
          refine lv_aload_n hx hb dX3_tell_121 rfl (lv_at hl 0 rfl) ?_
          refine x_getr (C := RX3) (k := 1) hx hb hts u_X3_tell_3 hown hK hP (g_N_0 cI a s32) rfl (by decide) ⟨rfl, rfl, rfl⟩ k_X3_tell_f18 rfl dX3_tell_122 ?_
          refine x_getr (C := RX4) (k := 2) hx hb hts u_X3_tell_4 hown hK hP (g_N_8 cI a s32) rfl (by decide) ⟨rfl, rfl, rfl⟩ k_X3_tell_f83 rfl dX3_tell_125 ?_
          refine lv_iload hx hb dX3_tell_128 (lv_at hl 6 rfl) ?_
          refine x_iald (t0 := 0) hx hb hK hP ht h (g_N_11 cI a s32) dX3_tell_130 (fun x37 h => ?_)
          refine x_cVv (p_N cI a) (p_N cI a) (fun τ => τ) [] [.int x19, .int x18, .int x22, .int x36, .int x37] hx hb hml hl.1 hown hts hK hP hD hS hA rfl (c_X3_receive l D cI tys ht a s32 x19 x18 x22 x36 x37) gX3_tell_X3_receive rfl ⟨rfl, rfl⟩ i_X3_receive ⟨Nat.le_of_ble_eq_true rfl, Nat.le_of_ble_eq_true rfl⟩ q_frI (g_N_0 cI a s32) rfl rfl (Nat.le_of_ble_eq_true rfl) ⟨Nat.zero_le _, Nat.zero_le _⟩ dX3_tell_131 h (fun H locs s38 hP hS h => ?_)
          refine x_iinc (k := 4) (w := 1) hx hb dX3_tell_134 hl rfl (by decide +kernel) (by decide) (fun v9 => [(4, .int v9), (0, .ref (a 0)), (1, .int x18), (2, .int x19), (3, .int x20), (5, .int x22), (6, .int x23), (7, .int x24)]) (fun v9 => rfl) h (fun x39 ls hl h => ?_)
          have hl : lv_has ls 8 [(4, .int x39), (0, .ref (a 0)), (1, .int x18), (2, .int x19), (3, .int x20), (5, .int x22), (6, .int x23), (7, .int x24)] := hl
          refine lv_goto (tgt := 3) hx hb dX3_tell_137 (by decide) ?_
          exact i3 s38 x18 x19 x20 x39 _ _ _ h hP hS (lv_sub hl [1, 2, 3, 4, 0] rfl)
  have i3 : ∀ (σ : qM) (x4 x5 x6 x7 : Int32) (H : Heap) (locs : List Loc) (ls : Array Slot), q_lim (D_X3_tell) 0 σ [x4, x5, x6, x7] = some qq → va_P D vwCl (p_N cI a σ) H → va_S A s.heap H locs → lv_has ls 8 [(0, .ref (a 0)), (1, .int x4), (2, .int x5), (3, .int x6), (4, .int x7)] → W p l e ({ frames := 2, cells := 0, slots := 0, locals := 54 }) s m [.ref (a 0), .int x1, .int x2, .int x3].toArray below meth c H locs 0 0 (MQ below (va_Qv (fun τ => ((0 : Int32), τ) = qq) (fun τ t => va_P D vwCl ((p_N cI a) τ) t.heap) A) [.ref (a 0), .int x1, .int x2, .int x3].toArray s 0 0 A) (F0 m 3 ls []) := by
    intro σ x4 x5 x6 x7 H locs ls h hP hS hl
    obtain ⟨k9, h⟩ := q_lim_n h
    exact (main k9).1 σ x4 x5 x6 x7 H locs ls h hP hS hl
  have i91 : ∀ (σ : qM) (x18 x19 x20 x21 x22 x23 x24 : Int32) (H : Heap) (locs : List Loc) (ls : Array Slot), q_lim (D_X3_tell) 1 σ [x18, x19, x20, x21, x22, x23, x24] = some qq → va_P D vwCl (p_N cI a σ) H → va_S A s.heap H locs → lv_has ls 8 [(0, .ref (a 0)), (1, .int x18), (2, .int x19), (3, .int x20), (4, .int x21), (5, .int x22), (6, .int x23), (7, .int x24)] → W p l e ({ frames := 2, cells := 0, slots := 0, locals := 54 }) s m [.ref (a 0), .int x1, .int x2, .int x3].toArray below meth c H locs 0 0 (MQ below (va_Qv (fun τ => ((0 : Int32), τ) = qq) (fun τ t => va_P D vwCl ((p_N cI a) τ) t.heap) A) [.ref (a 0), .int x1, .int x2, .int x3].toArray s 0 0 A) (F0 m 91 ls []) := by
    intro σ x18 x19 x20 x21 x22 x23 x24 H locs ls h hP hS hl
    obtain ⟨k9, h⟩ := q_lim_n h
    exact (main k9).2 σ x18 x19 x20 x21 x22 x23 x24 H locs ls h hP hS hl
  have h : e_X3_tell (q_lim (D_X3_tell)) σ x1 x2 x3 = some qq := h
  unfold e_X3_tell at h
  refine lv_iconst (v := 0) hx hb dX3_tell_0 (by decide +kernel) ?_
  refine lv_istore (lv' := [(4, .int 0), (0, .ref (a 0)), (1, .int x1), (2, .int x2), (3, .int x3)]) hx hb dX3_tell_1 hl (by decide) rfl (fun ls hl => ?_)
  exact i3 σ x1 x2 x3 0 _ _ _ h hP hS (lv_sub hl [1, 2, 3, 4, 0] rfl)
/-! ===== VectorRounds$Network.goRound()I: world N ===== -/
theorem i_X3_goRound : yX3_goRound.cls = RX3 ∧ yX3_goRound.cls ≠ "java/lang/invoke/MethodHandle" ∧ yX3_goRound.cls ≠ "java/lang/invoke/VarHandle" ∧ (parseMethodDescriptor yX3_goRound.desc).map (fun d => d.parameters.length) = some 0 := by decide +kernel
theorem k_X3_goRound_f12 : Cond.fieldLink RX3 12 RX3 "tables" "LVectorRounds$Tables;" ∈ wsX3_goRound := by decide +kernel
theorem k_X3_goRound_f18 : Cond.fieldLink RX3 18 RX3 "before" "LVectorRounds$Tables;" ∈ wsX3_goRound := by decide +kernel
theorem k_X3_goRound_f24 : Cond.fieldLink RX3 24 RX3 "links" "LVectorRounds$Links;" ∈ wsX3_goRound := by decide +kernel
theorem k_X3_goRound_f35 : Cond.fieldLink RX3 35 RX3 "routers" "I" ∈ wsX3_goRound := by decide +kernel
theorem k_X3_goRound_f42 : Cond.fieldLink RX3 42 RX3 "sequenced" "I" ∈ wsX3_goRound := by decide +kernel
theorem k_X3_goRound_f48 : Cond.fieldLink RX3 48 RX3 "round" "I" ∈ wsX3_goRound := by decide +kernel
theorem k_X3_goRound_f58 : Cond.fieldLink RX3 58 RX2 "up" "[I" ∈ wsX3_goRound := by decide +kernel
theorem k_X3_goRound_f83 : Cond.fieldLink RX3 83 RX4 "sequence" "[I" ∈ wsX3_goRound := by decide +kernel
theorem k_X3_goRound_f90 : Cond.fieldLink RX3 90 RX2 "price" "[I" ∈ wsX3_goRound := by decide +kernel
theorem u_X3_goRound_2 : ∀ w ∈ u_ws RX2 TX2 6, w ∈ wsX3_goRound := by decide +kernel
theorem u_X3_goRound_3 : ∀ w ∈ u_ws RX3 TX3 9, w ∈ wsX3_goRound := by decide +kernel
theorem u_X3_goRound_4 : ∀ w ∈ u_ws RX4 TX4 6, w ∈ wsX3_goRound := by decide +kernel
set_option maxHeartbeats 4000000 in
set_option maxRecDepth 100000 in
theorem c_X3_goRound (l : Launch) (D : va_G) (cI : ClassId) (tys : List (ClassId × FieldType)) (ht : tys[0]? = some (cI, .int)) (a : Nat → Nat) (σ : qM) : q_Met l yX3_goRound wsX3_goRound ({ frames := 3, cells := 0, slots := 0, locals := 81 }) [.ref (a 0)] D tys (p_N cI a) σ (f_X3_goRound σ) := by
  refine x_ofWi (cc := cX3_goRound) (maxL := 4) (ret := (some .int)) (by decide +kernel) rfl (pf_N cI a) (Nat.le_of_ble_eq_true rfl) ?_
  intro p e s m below meth c A ls qq h hx hb hml hr hlocks hown hts hK hP hD hA hS hl
  have hown : s.vm.findClass RX3 = some m.cls := hown
  have hl : lv_has ls 4 [(0, .ref (a 0))] := hl
  have main : ∀ k9 : Nat, (∀ (σ : qM) (x4 : Int32) (H : Heap) (locs : List Loc) (ls : Array Slot), q_it (D_X3_goRound) k9 0 σ [x4] = some qq → va_P D vwCl (p_N cI a σ) H → va_S A s.heap H locs → lv_has ls 4 [(0, .ref (a 0)), (1, .int x4)] → W p l e ({ frames := 3, cells := 0, slots := 0, locals := 81 }) s m [.ref (a 0)].toArray below meth c H locs 0 0 (MQ below (va_Qi (fun r τ => (r, τ) = qq) (fun τ t => va_P D vwCl ((p_N cI a) τ) t.heap) A) [.ref (a 0)].toArray s 0 0 A) (F0 m 12 ls [])) ∧ (∀ (σ : qM) (x8 : Int32) (H : Heap) (locs : List Loc) (ls : Array Slot), q_it (D_X3_goRound) k9 1 σ [x8] = some qq → va_P D vwCl (p_N cI a σ) H → va_S A s.heap H locs → lv_has ls 4 [(0, .ref (a 0)), (1, .int x8)] → W p l e ({ frames := 3, cells := 0, slots := 0, locals := 81 }) s m [.ref (a 0)].toArray below meth c H locs 0 0 (MQ below (va_Qi (fun r τ => (r, τ) = qq) (fun τ t => va_P D vwCl ((p_N cI a) τ) t.heap) A) [.ref (a 0)].toArray s 0 0 A) (F0 m 62 ls [])) ∧ (∀ (σ : qM) (x21 x22 : Int32) (H : Heap) (locs : List Loc) (ls : Array Slot), q_it (D_X3_goRound) k9 2 σ [x21, x22] = some qq → va_P D vwCl (p_N cI a σ) H → va_S A s.heap H locs → lv_has ls 4 [(0, .ref (a 0)), (1, .int x21), (2, .int x22)] → W p l e ({ frames := 3, cells := 0, slots := 0, locals := 81 }) s m [.ref (a 0)].toArray below meth c H locs 0 0 (MQ below (va_Qi (fun r τ => (r, τ) = qq) (fun τ t => va_P D vwCl ((p_N cI a) τ) t.heap) A) [.ref (a 0)].toArray s 0 0 A) (F0 m 72 ls [])) := by
    intro k9
    induction k9 with
    | zero => exact ⟨(fun _ _ _ _ _ h _ _ _ => (q_no (show (none : qR) = some qq from h)).elim), (fun _ _ _ _ _ h _ _ _ => (q_no (show (none : qR) = some qq from h)).elim), (fun _ _ _ _ _ _ h _ _ _ => (q_no (show (none : qR) = some qq from h)).elim)⟩
    | succ k9 ih =>
      obtain ⟨i12, i62, i72⟩ := ih
      refine ⟨?_, ?_, ?_⟩
      · intro σ x4 H locs ls h hP hS hl
        have h : b_X3_goRound_12 (q_it (D_X3_goRound) k9) σ x4 = some qq := h
        unfold b_X3_goRound_12 at h
        refine lv_iload_n hx hb dX3_goRound_12 rfl (lv_at hl 1 rfl) ?_
        refine lv_aload_n hx hb dX3_goRound_13 rfl (lv_at hl 0 rfl) ?_
        refine x_geti (C := RX3) (k := 3) hx hb hts u_X3_goRound_3 hown hK hP (g_N_0 cI a σ) rfl (by decide) ⟨rfl, rfl, rfl⟩ k_X3_goRound_f35 rfl dX3_goRound_14 h (fun x5 h => ?_)
        refine lv_icmp_ge (tgt := 49) hx hb dX3_goRound_17 (by decide) (fun c6 => ?_) (fun c6 => ?_)
        · have h := if_t c6 h
          refine lv_aload_n hx hb dX3_goRound_49 rfl (lv_at hl 0 rfl) ?_
          refine x_getr (C := RX3) (k := 1) hx hb hts u_X3_goRound_3 hown hK hP (g_N_0 cI a σ) rfl (by decide) ⟨rfl, rfl, rfl⟩ k_X3_goRound_f18 rfl dX3_goRound_50 ?_
          refine lv_aload_n hx hb dX3_goRound_53 rfl (lv_at hl 0 rfl) ?_
          refine x_getr (C := RX3) (k := 0) hx hb hts u_X3_goRound_3 hown hK hP (g_N_0 cI a σ) rfl (by decide) ⟨rfl, rfl, rfl⟩ k_X3_goRound_f12 rfl dX3_goRound_54 ?_
          refine x_cVv (p_N cI a) (p_TT cI (q_sub2 7 8 1 a)) (q_put2 7 8 7 1 σ) [] [.ref (a 1)] hx hb hml hl.1 hown hts hK hP hD hS hA rfl (c_X4_become l D cI tys ht (q_sub2 7 8 1 a) (q_sub2 7 8 1 σ)) gX3_goRound_X4_become rfl ⟨rfl, rfl⟩ i_X4_become ⟨Nat.le_of_ble_eq_true rfl, Nat.le_of_ble_eq_true rfl⟩ (fr_N_TT_8_1 cI a σ) (g_TT_0 cI (q_sub2 7 8 1 a) (q_sub2 7 8 1 σ)) rfl rfl (Nat.le_of_ble_eq_true rfl) ⟨Nat.zero_le _, Nat.zero_le _⟩ dX3_goRound_57 h (fun H locs s7 hP hS h => ?_)
          refine lv_iconst (v := 0) hx hb dX3_goRound_60 (by decide +kernel) ?_
          refine lv_istore_n (lv' := [(1, .int 0), (0, .ref (a 0))]) hx hb dX3_goRound_61 rfl hl (by decide) rfl (fun ls hl => ?_)
          exact i62 s7 0 _ _ _ h hP hS (lv_sub hl [1, 0] rfl)
        · have h := if_f c6 h
          refine lv_aload_n hx hb dX3_goRound_20 rfl (lv_at hl 0 rfl) ?_
          refine x_getr (C := RX3) (k := 0) hx hb hts u_X3_goRound_3 hown hK hP (g_N_0 cI a σ) rfl (by decide) ⟨rfl, rfl, rfl⟩ k_X3_goRound_f12 rfl dX3_goRound_21 ?_
          refine x_getr (C := RX4) (k := 2) hx hb hts u_X3_goRound_4 hown hK hP (g_N_1 cI a σ) rfl (by decide) ⟨rfl, rfl, rfl⟩ k_X3_goRound_f83 rfl dX3_goRound_24 ?_
          refine lv_iload_n hx hb dX3_goRound_27 rfl (lv_at hl 1 rfl) ?_
          refine lv_bipush (v := 10) hx hb dX3_goRound_28 (by decide +kernel) ?_
          refine x_imul hx hb dX3_goRound_30 h (fun x9 h => ?_)
          refine lv_iload_n hx hb dX3_goRound_31 rfl (lv_at hl 1 rfl) ?_
          refine x_iadd hx hb dX3_goRound_32 h (fun x10 h => ?_)
          refine lv_dup2_11 hx hb dX3_goRound_33 rfl rfl ?_
          refine x_iald (t0 := 0) hx hb hK hP ht h (g_N_4 cI a σ) dX3_goRound_34 (fun x11 h => ?_)
          refine lv_iconst (v := 2) hx hb dX3_goRound_35 (by decide +kernel) ?_
          refine lv_aload_n hx hb dX3_goRound_36 rfl (lv_at hl 0 rfl) ?_
          refine x_geti (C := RX3) (k := 5) hx hb hts u_X3_goRound_3 hown hK hP (g_N_0 cI a σ) rfl (by decide) ⟨rfl, rfl, rfl⟩ k_X3_goRound_f42 rfl dX3_goRound_37 h (fun x12 h => ?_)
          refine x_imul hx hb dX3_goRound_40 h (fun x13 h => ?_)
          refine x_iadd hx hb dX3_goRound_41 h (fun x14 h => ?_)
          refine x_iast (p_N cI a) (t0 := 0) hx hb hK hP hD hS ht h (g_N_4 cI a σ) (fun j9 v9 => (s_N_4 cI a σ _)) dX3_goRound_42 (fun H locs s15 hP hS h => ?_)
          refine x_iinc (k := 1) (w := 1) hx hb dX3_goRound_43 hl rfl (by decide +kernel) (by decide) (fun v9 => [(1, .int v9), (0, .ref (a 0))]) (fun v9 => rfl) h (fun x16 ls hl h => ?_)
          have hl : lv_has ls 4 [(1, .int x16), (0, .ref (a 0))] := hl
          refine lv_goto (tgt := 12) hx hb dX3_goRound_46 (by decide) ?_
          exact i12 s15 x16 _ _ _ h hP hS (lv_sub hl [1, 0] rfl)
      · intro σ x8 H locs ls h hP hS hl
        have h : b_X3_goRound_62 (q_it (D_X3_goRound) k9) σ x8 = some qq := h
        unfold b_X3_goRound_62 at h
        refine lv_iload_n hx hb dX3_goRound_62 rfl (lv_at hl 1 rfl) ?_
        refine lv_aload_n hx hb dX3_goRound_63 rfl (lv_at hl 0 rfl) ?_
        refine x_geti (C := RX3) (k := 3) hx hb hts u_X3_goRound_3 hown hK hP (g_N_0 cI a σ) rfl (by decide) ⟨rfl, rfl, rfl⟩ k_X3_goRound_f35 rfl dX3_goRound_64 h (fun x17 h => ?_)
        refine lv_icmp_ge (tgt := 134) hx hb dX3_goRound_67 (by decide) (fun c18 => ?_) (fun c18 => ?_)
        · have h := if_t c18 h
          refine lv_aload_n hx hb dX3_goRound_134 rfl (lv_at hl 0 rfl) ?_
          refine x_getr (C := RX3) (k := 0) hx hb hts u_X3_goRound_3 hown hK hP (g_N_0 cI a σ) rfl (by decide) ⟨rfl, rfl, rfl⟩ k_X3_goRound_f12 rfl dX3_goRound_135 ?_
          refine lv_aload_n hx hb dX3_goRound_138 rfl (lv_at hl 0 rfl) ?_
          refine x_getr (C := RX3) (k := 1) hx hb hts u_X3_goRound_3 hown hK hP (g_N_0 cI a σ) rfl (by decide) ⟨rfl, rfl, rfl⟩ k_X3_goRound_f18 rfl dX3_goRound_139 ?_
          refine x_cVi (p_N cI a) (p_TT cI (q_sub2 7 1 8 a)) (q_put2 7 1 7 8 σ) [] [.ref (a 8)] hx hb hml hl.1 hown hts hK hP hD hS hA rfl (c_X4_howManyDiffer l D cI tys ht (q_sub2 7 1 8 a) (q_sub2 7 1 8 σ)) gX3_goRound_X4_howManyDiffer rfl ⟨rfl, rfl⟩ i_X4_howManyDiffer ⟨Nat.le_of_ble_eq_true rfl, Nat.le_of_ble_eq_true rfl⟩ (fr_N_TT_1_8 cI a σ) (g_TT_0 cI (q_sub2 7 1 8 a) (q_sub2 7 1 8 σ)) rfl rfl (Nat.le_of_ble_eq_true rfl) ⟨Nat.zero_le _, Nat.zero_le _⟩ dX3_goRound_142 h (fun x20 H locs s19 hP hS h => ?_)
          exact x_iret (p_N cI a) hx hb hr hlocks hP hS dX3_goRound_145 h
        · have h := if_f c18 h
          refine lv_iconst (v := 0) hx hb dX3_goRound_70 (by decide +kernel) ?_
          refine lv_istore_n (lv' := [(2, .int 0), (0, .ref (a 0)), (1, .int x8)]) hx hb dX3_goRound_71 rfl hl (by decide) rfl (fun ls hl => ?_)
          exact i72 σ x8 0 _ _ _ h hP hS (lv_sub hl [1, 2, 0] rfl)
      · intro σ x21 x22 H locs ls h hP hS hl
        have h : b_X3_goRound_72 (q_it (D_X3_goRound) k9) σ x21 x22 = some qq := h
        unfold b_X3_goRound_72 at h
        refine lv_iload_n hx hb dX3_goRound_72 rfl (lv_at hl 2 rfl) ?_
        refine lv_aload_n hx hb dX3_goRound_73 rfl (lv_at hl 0 rfl) ?_
        refine x_geti (C := RX3) (k := 3) hx hb hts u_X3_goRound_3 hown hK hP (g_N_0 cI a σ) rfl (by decide) ⟨rfl, rfl, rfl⟩ k_X3_goRound_f35 rfl dX3_goRound_74 h (fun x23 h => ?_)
        refine lv_icmp_ge (tgt := 128) hx hb dX3_goRound_77 (by decide) (fun c24 => ?_) (fun c24 => ?_)
        · have h := if_t c24 h
          refine x_iinc (k := 1) (w := 1) hx hb dX3_goRound_128 hl rfl (by decide +kernel) (by decide) (fun v9 => [(1, .int v9), (0, .ref (a 0)), (2, .int x22)]) (fun v9 => rfl) h (fun x25 ls hl h => ?_)
          have hl : lv_has ls 4 [(1, .int x25), (0, .ref (a 0)), (2, .int x22)] := hl
          refine lv_goto (tgt := 62) hx hb dX3_goRound_131 (by decide) ?_
          exact i62 σ x25 _ _ _ h hP hS (lv_sub hl [1, 0] rfl)
        · have h := if_f c24 h
          refine lv_aload_n hx hb dX3_goRound_80 rfl (lv_at hl 0 rfl) ?_
          refine x_getr (C := RX3) (k := 2) hx hb hts u_X3_goRound_3 hown hK hP (g_N_0 cI a σ) rfl (by decide) ⟨rfl, rfl, rfl⟩ k_X3_goRound_f24 rfl dX3_goRound_81 ?_
          refine lv_iload_n hx hb dX3_goRound_84 rfl (lv_at hl 1 rfl) ?_
          refine lv_iload_n hx hb dX3_goRound_85 rfl (lv_at hl 2 rfl) ?_
          refine x_cVi (p_N cI a) (p_L cI (q_sub 15 a)) (q_put 15 6 σ) [] [.int x21, .int x22] hx hb hml hl.1 hown hts hK hP hD hS hA rfl (c_X2_joining l D cI tys ht (q_sub 15 a) (q_sub 15 σ) x21 x22) gX3_goRound_X2_joining rfl ⟨rfl, rfl⟩ i_X2_joining ⟨Nat.le_of_ble_eq_true rfl, Nat.le_of_ble_eq_true rfl⟩ (fr_N_L_15 cI a σ) (g_L_0 cI (q_sub 15 a) (q_sub 15 σ)) rfl rfl (Nat.le_of_ble_eq_true rfl) ⟨Nat.zero_le _, Nat.zero_le _⟩ dX3_goRound_86 h (fun x27 H locs s26 hP hS h => ?_)
          refine lv_istore_n (lv' := [(3, .int x27), (0, .ref (a 0)), (1, .int x21), (2, .int x22)]) hx hb dX3_goRound_89 rfl hl (by decide) rfl (fun ls hl => ?_)
          refine lv_iload_n hx hb dX3_goRound_90 rfl (lv_at hl 0 rfl) ?_
          refine lv_if_lt (tgt := 122) hx hb dX3_goRound_91 (by decide) (fun c28 => ?_) (fun c28 => ?_)
          · have h := if_t c28 h
            refine x_iinc (k := 3) (w := 1) hx hb dX3_goRound_122 hl rfl (by decide +kernel) (by decide) (fun v9 => [(2, .int v9), (3, .int x27), (0, .ref (a 0)), (1, .int x21)]) (fun v9 => rfl) h (fun x29 ls hl h => ?_)
            have hl : lv_has ls 4 [(2, .int x29), (3, .int x27), (0, .ref (a 0)), (1, .int x21)] := hl
            refine lv_goto (tgt := 72) hx hb dX3_goRound_125 (by decide) ?_
            exact i72 s26 x21 x29 _ _ _ h hP hS (lv_sub hl [2, 3, 0] rfl)
          · have h := if_f c28 h
            refine lv_aload_n hx hb dX3_goRound_94 rfl (lv_at hl 1 rfl) ?_
            refine x_getr (C := RX3) (k := 2) hx hb hts u_X3_goRound_3 hown hK hP (g_N_0 cI a s26) rfl (by decide) ⟨rfl, rfl, rfl⟩ k_X3_goRound_f24 rfl dX3_goRound_95 ?_
            refine x_getr (C := RX2) (k := 3) hx hb hts u_X3_goRound_2 hown hK hP (g_N_15 cI a s26) rfl (by decide) ⟨rfl, rfl, rfl⟩ k_X3_goRound_f58 rfl dX3_goRound_98 ?_
            refine lv_iload_n hx hb dX3_goRound_101 rfl (lv_at hl 0 rfl) ?_
            refine x_iald (t0 := 0) hx hb hK hP ht h (g_N_19 cI a s26) dX3_goRound_102 (fun x30 h => ?_)
            refine lv_iconst (v := 1) hx hb dX3_goRound_103 (by decide +kernel) ?_
            refine lv_icmp_ne (tgt := 122) hx hb dX3_goRound_104 (by decide) (fun c31 => ?_) (fun c31 => ?_)
            · have h := if_f c31 h
              refine x_iinc (k := 3) (w := 1) hx hb dX3_goRound_122 hl rfl (by decide +kernel) (by decide) (fun v9 => [(2, .int v9), (3, .int x27), (0, .ref (a 0)), (1, .int x21)]) (fun v9 => rfl) h (fun x32 ls hl h => ?_)
              have hl : lv_has ls 4 [(2, .int x32), (3, .int x27), (0, .ref (a 0)), (1, .int x21)] := hl
              refine lv_goto (tgt := 72) hx hb dX3_goRound_125 (by decide) ?_
              exact i72 s26 x21 x32 _ _ _ h hP hS (lv_sub hl [2, 3, 0] rfl)
            · have h := if_t c31 h
              refine lv_aload_n hx hb dX3_goRound_107 rfl (lv_at hl 1 rfl) ?_
              refine lv_iload_n hx hb dX3_goRound_108 rfl (lv_at hl 2 rfl) ?_
              refine lv_iload_n hx hb dX3_goRound_109 rfl (lv_at hl 3 rfl) ?_
              refine lv_aload_n hx hb dX3_goRound_110 rfl (lv_at hl 1 rfl) ?_
              refine x_getr (C := RX3) (k := 2) hx hb hts u_X3_goRound_3 hown hK hP (g_N_0 cI a s26) rfl (by decide) ⟨rfl, rfl, rfl⟩ k_X3_goRound_f24 rfl dX3_goRound_111 ?_
              refine x_getr (C := RX2) (k := 2) hx hb hts u_X3_goRound_2 hown hK hP (g_N_15 cI a s26) rfl (by decide) ⟨rfl, rfl, rfl⟩ k_X3_goRound_f90 rfl dX3_goRound_114 ?_
              refine lv_iload_n hx hb dX3_goRound_117 rfl (lv_at hl 0 rfl) ?_
              refine x_iald (t0 := 0) hx hb hK hP ht h (g_N_18 cI a s26) dX3_goRound_118 (fun x33 h => ?_)
              refine x_cVv (p_N cI a) (p_N cI a) (fun τ => τ) [] [.int x21, .int x22, .int x33] hx hb hml hl.1 hown hts hK hP hD hS hA rfl (c_X3_tell l D cI tys ht a s26 x21 x22 x33) gX3_goRound_X3_tell rfl ⟨rfl, rfl⟩ i_X3_tell ⟨Nat.le_of_ble_eq_true rfl, Nat.le_of_ble_eq_true rfl⟩ q_frI (g_N_0 cI a s26) rfl rfl (Nat.le_of_ble_eq_true rfl) ⟨Nat.zero_le _, Nat.zero_le _⟩ dX3_goRound_119 h (fun H locs s34 hP hS h => ?_)
              refine x_iinc (k := 3) (w := 1) hx hb dX3_goRound_122 hl rfl (by decide +kernel) (by decide) (fun v9 => [(2, .int v9), (3, .int x27), (0, .ref (a 0)), (1, .int x21)]) (fun v9 => rfl) h (fun x35 ls hl h => ?_)
              have hl : lv_has ls 4 [(2, .int x35), (3, .int x27), (0, .ref (a 0)), (1, .int x21)] := hl
              refine lv_goto (tgt := 72) hx hb dX3_goRound_125 (by decide) ?_
              exact i72 s34 x21 x35 _ _ _ h hP hS (lv_sub hl [2, 3, 0] rfl)
  have i12 : ∀ (σ : qM) (x4 : Int32) (H : Heap) (locs : List Loc) (ls : Array Slot), q_lim (D_X3_goRound) 0 σ [x4] = some qq → va_P D vwCl (p_N cI a σ) H → va_S A s.heap H locs → lv_has ls 4 [(0, .ref (a 0)), (1, .int x4)] → W p l e ({ frames := 3, cells := 0, slots := 0, locals := 81 }) s m [.ref (a 0)].toArray below meth c H locs 0 0 (MQ below (va_Qi (fun r τ => (r, τ) = qq) (fun τ t => va_P D vwCl ((p_N cI a) τ) t.heap) A) [.ref (a 0)].toArray s 0 0 A) (F0 m 12 ls []) := by
    intro σ x4 H locs ls h hP hS hl
    obtain ⟨k9, h⟩ := q_lim_n h
    exact (main k9).1 σ x4 H locs ls h hP hS hl
  have i62 : ∀ (σ : qM) (x8 : Int32) (H : Heap) (locs : List Loc) (ls : Array Slot), q_lim (D_X3_goRound) 1 σ [x8] = some qq → va_P D vwCl (p_N cI a σ) H → va_S A s.heap H locs → lv_has ls 4 [(0, .ref (a 0)), (1, .int x8)] → W p l e ({ frames := 3, cells := 0, slots := 0, locals := 81 }) s m [.ref (a 0)].toArray below meth c H locs 0 0 (MQ below (va_Qi (fun r τ => (r, τ) = qq) (fun τ t => va_P D vwCl ((p_N cI a) τ) t.heap) A) [.ref (a 0)].toArray s 0 0 A) (F0 m 62 ls []) := by
    intro σ x8 H locs ls h hP hS hl
    obtain ⟨k9, h⟩ := q_lim_n h
    exact (main k9).2.1 σ x8 H locs ls h hP hS hl
  have i72 : ∀ (σ : qM) (x21 x22 : Int32) (H : Heap) (locs : List Loc) (ls : Array Slot), q_lim (D_X3_goRound) 2 σ [x21, x22] = some qq → va_P D vwCl (p_N cI a σ) H → va_S A s.heap H locs → lv_has ls 4 [(0, .ref (a 0)), (1, .int x21), (2, .int x22)] → W p l e ({ frames := 3, cells := 0, slots := 0, locals := 81 }) s m [.ref (a 0)].toArray below meth c H locs 0 0 (MQ below (va_Qi (fun r τ => (r, τ) = qq) (fun τ t => va_P D vwCl ((p_N cI a) τ) t.heap) A) [.ref (a 0)].toArray s 0 0 A) (F0 m 72 ls []) := by
    intro σ x21 x22 H locs ls h hP hS hl
    obtain ⟨k9, h⟩ := q_lim_n h
    exact (main k9).2.2 σ x21 x22 H locs ls h hP hS hl
  have h : e_X3_goRound (q_lim (D_X3_goRound)) σ = some qq := h
  unfold e_X3_goRound at h
  refine lv_aload_n hx hb dX3_goRound_0 rfl (lv_at hl 0 rfl) ?_
  refine lv_dup hx hb dX3_goRound_1 rfl ?_
  refine x_geti (C := RX3) (k := 7) hx hb hts u_X3_goRound_3 hown hK hP (g_N_0 cI a σ) rfl (by decide) ⟨rfl, rfl, rfl⟩ k_X3_goRound_f48 rfl dX3_goRound_2 h (fun x1 h => ?_)
  refine lv_iconst (v := 1) hx hb dX3_goRound_5 (by decide +kernel) ?_
  refine x_iadd hx hb dX3_goRound_6 h (fun x2 h => ?_)
  refine x_puti (p_N cI a) (C := RX3) (k := 7) hx hb hts u_X3_goRound_3 tyX3 tyX3_ok nmX3 hown hK hP hD hS h (g_N_0 cI a σ) rfl (by decide) ⟨rfl, rfl, rfl⟩ k_X3_goRound_f48 rfl rfl rfl rfl (Nat.le_of_ble_eq_true rfl) (s_N_0_7 cI a σ x2) dX3_goRound_7 (fun H locs s3 hP hS h => ?_)
  refine lv_iconst (v := 0) hx hb dX3_goRound_10 (by decide +kernel) ?_
  refine lv_istore_n (lv' := [(1, .int 0), (0, .ref (a 0))]) hx hb dX3_goRound_11 rfl hl (by decide) rfl (fun ls hl => ?_)
  exact i12 s3 0 _ _ _ h hP hS (lv_sub hl [1, 0] rfl)
/-! ===== VectorRounds$Network.roundsToSettle()I: world N ===== -/
theorem i_X3_roundsToSettle : yX3_roundsToSettle.cls = RX3 ∧ yX3_roundsToSettle.cls ≠ "java/lang/invoke/MethodHandle" ∧ yX3_roundsToSettle.cls ≠ "java/lang/invoke/VarHandle" ∧ (parseMethodDescriptor yX3_roundsToSettle.desc).map (fun d => d.parameters.length) = some 0 := by decide +kernel
set_option maxHeartbeats 4000000 in
set_option maxRecDepth 100000 in
theorem c_X3_roundsToSettle (l : Launch) (D : va_G) (cI : ClassId) (tys : List (ClassId × FieldType)) (ht : tys[0]? = some (cI, .int)) (a : Nat → Nat) (σ : qM) : q_Met l yX3_roundsToSettle wsX3_roundsToSettle ({ frames := 4, cells := 0, slots := 0, locals := 104 }) [.ref (a 0)] D tys (p_N cI a) σ (f_X3_roundsToSettle σ) := by
  refine x_ofWi (cc := cX3_roundsToSettle) (maxL := 2) (ret := (some .int)) (by decide +kernel) rfl (pf_N cI a) (Nat.le_of_ble_eq_true rfl) ?_
  intro p e s m below meth c A ls qq h hx hb hml hr hlocks hown hts hK hP hD hA hS hl
  have hown : s.vm.findClass RX3 = some m.cls := hown
  have hl : lv_has ls 2 [(0, .ref (a 0))] := hl
  have main : ∀ k9 : Nat, (∀ (σ : qM) (x1 : Int32) (H : Heap) (locs : List Loc) (ls : Array Slot), q_it (D_X3_roundsToSettle) k9 0 σ [x1] = some qq → va_P D vwCl (p_N cI a σ) H → va_S A s.heap H locs → lv_has ls 2 [(0, .ref (a 0)), (1, .int x1)] → W p l e ({ frames := 4, cells := 0, slots := 0, locals := 104 }) s m [.ref (a 0)].toArray below meth c H locs 0 0 (MQ below (va_Qi (fun r τ => (r, τ) = qq) (fun τ t => va_P D vwCl ((p_N cI a) τ) t.heap) A) [.ref (a 0)].toArray s 0 0 A) (F0 m 2 ls [])) := by
    intro k9
    induction k9 with
    | zero => exact (fun _ _ _ _ _ h _ _ _ => (q_no (show (none : qR) = some qq from h)).elim)
    | succ k9 ih =>
      have i2 := ih
      refine ?_
      · intro σ x1 H locs ls h hP hS hl
        have h : b_X3_roundsToSettle_2 (q_it (D_X3_roundsToSettle) k9) σ x1 = some qq := h
        unfold b_X3_roundsToSettle_2 at h
        refine lv_iload_n hx hb dX3_roundsToSettle_2 rfl (lv_at hl 1 rfl) ?_
        refine lv_bipush (v := 80) hx hb dX3_roundsToSettle_3 (by decide +kernel) ?_
        refine lv_icmp_gt (tgt := 23) hx hb dX3_roundsToSettle_5 (by decide) (fun c2 => ?_) (fun c2 => ?_)
        · have h := if_t c2 h
          refine lv_bipush (v := 81) hx hb dX3_roundsToSettle_23 (by decide +kernel) ?_
          exact x_iret (p_N cI a) hx hb hr hlocks hP hS dX3_roundsToSettle_25 h
        · have h := if_f c2 h
          refine lv_aload_n hx hb dX3_roundsToSettle_8 rfl (lv_at hl 0 rfl) ?_
          refine x_cVi (p_N cI a) (p_N cI a) (fun τ => τ) [] [] hx hb hml hl.1 hown hts hK hP hD hS hA rfl (c_X3_goRound l D cI tys ht a σ) gX3_roundsToSettle_X3_goRound rfl ⟨rfl, rfl⟩ i_X3_goRound ⟨Nat.le_of_ble_eq_true rfl, Nat.le_of_ble_eq_true rfl⟩ q_frI (g_N_0 cI a σ) rfl rfl (Nat.le_of_ble_eq_true rfl) ⟨Nat.zero_le _, Nat.zero_le _⟩ dX3_roundsToSettle_9 h (fun x4 H locs s3 hP hS h => ?_)
          refine lv_if_ne (tgt := 17) hx hb dX3_roundsToSettle_12 (by decide) (fun c5 => ?_) (fun c5 => ?_)
          · have h := if_f c5 h
            refine x_iinc (k := 1) (w := 1) hx hb dX3_roundsToSettle_17 hl rfl (by decide +kernel) (by decide) (fun v9 => [(1, .int v9), (0, .ref (a 0))]) (fun v9 => rfl) h (fun x6 ls hl h => ?_)
            have hl : lv_has ls 2 [(1, .int x6), (0, .ref (a 0))] := hl
            refine lv_goto (tgt := 2) hx hb dX3_roundsToSettle_20 (by decide) ?_
            exact i2 s3 x6 _ _ _ h hP hS (lv_sub hl [1, 0] rfl)
          · have h := if_t c5 h
            refine lv_iload_n hx hb dX3_roundsToSettle_15 rfl (lv_at hl 1 rfl) ?_
            exact x_iret (p_N cI a) hx hb hr hlocks hP hS dX3_roundsToSettle_16 h
  have i2 : ∀ (σ : qM) (x1 : Int32) (H : Heap) (locs : List Loc) (ls : Array Slot), q_lim (D_X3_roundsToSettle) 0 σ [x1] = some qq → va_P D vwCl (p_N cI a σ) H → va_S A s.heap H locs → lv_has ls 2 [(0, .ref (a 0)), (1, .int x1)] → W p l e ({ frames := 4, cells := 0, slots := 0, locals := 104 }) s m [.ref (a 0)].toArray below meth c H locs 0 0 (MQ below (va_Qi (fun r τ => (r, τ) = qq) (fun τ t => va_P D vwCl ((p_N cI a) τ) t.heap) A) [.ref (a 0)].toArray s 0 0 A) (F0 m 2 ls []) := by
    intro σ x1 H locs ls h hP hS hl
    obtain ⟨k9, h⟩ := q_lim_n h
    exact (main k9) σ x1 H locs ls h hP hS hl
  have h : e_X3_roundsToSettle (q_lim (D_X3_roundsToSettle)) σ = some qq := h
  unfold e_X3_roundsToSettle at h
  refine lv_iconst (v := 0) hx hb dX3_roundsToSettle_0 (by decide +kernel) ?_
  refine lv_istore_n (lv' := [(1, .int 0), (0, .ref (a 0))]) hx hb dX3_roundsToSettle_1 rfl hl (by decide) rfl (fun ls hl => ?_)
  exact i2 σ 0 _ _ _ h hP hS (lv_sub hl [1, 0] rfl)
/-! ===== VectorRounds$Network.become(LVectorRounds$Network;)V: world NN ===== -/
theorem i_X3_become : yX3_become.cls = RX3 ∧ yX3_become.cls ≠ "java/lang/invoke/MethodHandle" ∧ yX3_become.cls ≠ "java/lang/invoke/VarHandle" ∧ (parseMethodDescriptor yX3_become.desc).map (fun d => d.parameters.length) = some 1 := by decide +kernel
theorem k_X3_become_f12 : Cond.fieldLink RX3 12 RX3 "tables" "LVectorRounds$Tables;" ∈ wsX3_become := by decide +kernel
theorem k_X3_become_f24 : Cond.fieldLink RX3 24 RX3 "links" "LVectorRounds$Links;" ∈ wsX3_become := by decide +kernel
theorem k_X3_become_f35 : Cond.fieldLink RX3 35 RX3 "routers" "I" ∈ wsX3_become := by decide +kernel
theorem k_X3_become_f39 : Cond.fieldLink RX3 39 RX3 "horizon" "I" ∈ wsX3_become := by decide +kernel
theorem k_X3_become_f42 : Cond.fieldLink RX3 42 RX3 "sequenced" "I" ∈ wsX3_become := by decide +kernel
theorem k_X3_become_f45 : Cond.fieldLink RX3 45 RX3 "holdDown" "I" ∈ wsX3_become := by decide +kernel
theorem k_X3_become_f48 : Cond.fieldLink RX3 48 RX3 "round" "I" ∈ wsX3_become := by decide +kernel
theorem k_X3_become_f51 : Cond.fieldLink RX3 51 RX3 "toldEver" "I" ∈ wsX3_become := by decide +kernel
theorem u_X3_become_3 : ∀ w ∈ u_ws RX3 TX3 9, w ∈ wsX3_become := by decide +kernel
set_option maxHeartbeats 4000000 in
set_option maxRecDepth 100000 in
theorem c_X3_become (l : Launch) (D : va_G) (cI : ClassId) (tys : List (ClassId × FieldType)) (ht : tys[0]? = some (cI, .int)) (a : Nat → Nat) (σ : qM) : q_Mev l yX3_become wsX3_become ({ frames := 2, cells := 0, slots := 0, locals := 81 }) [.ref (a 0), .ref (a 21)] D tys (p_NN cI a) σ (f_X3_become σ) := by
  refine x_ofWv (cc := cX3_become) (maxL := 2) (ret := none) (by decide +kernel) rfl (pf_NN cI a) (Nat.le_of_ble_eq_true rfl) ?_
  intro p e s m below meth c A ls qq h hx hb hml hr hlocks hown hts hK hP hD hA hS hl
  have hown : s.vm.findClass RX3 = some m.cls := hown
  have hl : lv_has ls 2 [(0, .ref (a 0)), (1, .ref (a 21))] := hl
  unfold f_X3_become at h
  refine lv_aload_n hx hb dX3_become_0 rfl (lv_at hl 0 rfl) ?_
  refine x_getr (C := RX3) (k := 0) hx hb hts u_X3_become_3 hown hK hP (g_NN_0 cI a σ) rfl (by decide) ⟨rfl, rfl, rfl⟩ k_X3_become_f12 rfl dX3_become_1 ?_
  refine lv_aload_n hx hb dX3_become_4 rfl (lv_at hl 1 rfl) ?_
  refine x_getr (C := RX3) (k := 0) hx hb hts u_X3_become_3 hown hK hP (g_NN_21 cI a σ) rfl (by decide) ⟨rfl, rfl, rfl⟩ k_X3_become_f12 rfl dX3_become_5 ?_
  refine x_cVv (p_NN cI a) (p_TT cI (q_sub2 7 1 22 a)) (q_put2 7 1 7 22 σ) [] [.ref (a 22)] hx hb hml hl.1 hown hts hK hP hD hS hA rfl (c_X4_become l D cI tys ht (q_sub2 7 1 22 a) (q_sub2 7 1 22 σ)) gX3_become_X4_become rfl ⟨rfl, rfl⟩ i_X4_become ⟨Nat.le_of_ble_eq_true rfl, Nat.le_of_ble_eq_true rfl⟩ (fr_NN_TT_1_22 cI a σ) (g_TT_0 cI (q_sub2 7 1 22 a) (q_sub2 7 1 22 σ)) rfl rfl (Nat.le_of_ble_eq_true rfl) ⟨Nat.zero_le _, Nat.zero_le _⟩ dX3_become_8 h (fun H locs s1 hP hS h => ?_)
  refine lv_aload_n hx hb dX3_become_11 rfl (lv_at hl 0 rfl) ?_
  refine x_getr (C := RX3) (k := 2) hx hb hts u_X3_become_3 hown hK hP (g_NN_0 cI a s1) rfl (by decide) ⟨rfl, rfl, rfl⟩ k_X3_become_f24 rfl dX3_become_12 ?_
  refine lv_aload_n hx hb dX3_become_15 rfl (lv_at hl 1 rfl) ?_
  refine x_getr (C := RX3) (k := 2) hx hb hts u_X3_become_3 hown hK hP (g_NN_21 cI a s1) rfl (by decide) ⟨rfl, rfl, rfl⟩ k_X3_become_f24 rfl dX3_become_16 ?_
  refine x_cVv (p_NN cI a) (p_LL cI (q_sub2 6 15 36 a)) (q_put2 6 15 6 36 s1) [] [.ref (a 36)] hx hb hml hl.1 hown hts hK hP hD hS hA rfl (c_X2_become l D cI tys ht (q_sub2 6 15 36 a) (q_sub2 6 15 36 s1)) gX3_become_X2_become rfl ⟨rfl, rfl⟩ i_X2_become ⟨Nat.le_of_ble_eq_true rfl, Nat.le_of_ble_eq_true rfl⟩ (fr_NN_LL_15_36 cI a s1) (g_LL_0 cI (q_sub2 6 15 36 a) (q_sub2 6 15 36 s1)) rfl rfl (Nat.le_of_ble_eq_true rfl) ⟨Nat.zero_le _, Nat.zero_le _⟩ dX3_become_19 h (fun H locs s2 hP hS h => ?_)
  refine lv_aload_n hx hb dX3_become_22 rfl (lv_at hl 0 rfl) ?_
  refine lv_aload_n hx hb dX3_become_23 rfl (lv_at hl 1 rfl) ?_
  refine x_geti (C := RX3) (k := 3) hx hb hts u_X3_become_3 hown hK hP (g_NN_21 cI a s2) rfl (by decide) ⟨rfl, rfl, rfl⟩ k_X3_become_f35 rfl dX3_become_24 h (fun x3 h => ?_)
  refine x_puti (p_NN cI a) (C := RX3) (k := 3) hx hb hts u_X3_become_3 tyX3 tyX3_ok nmX3 hown hK hP hD hS h (g_NN_0 cI a s2) rfl (by decide) ⟨rfl, rfl, rfl⟩ k_X3_become_f35 rfl rfl rfl rfl (Nat.le_of_ble_eq_true rfl) (s_NN_0_3 cI a s2 x3) dX3_become_27 (fun H locs s4 hP hS h => ?_)
  refine lv_aload_n hx hb dX3_become_30 rfl (lv_at hl 0 rfl) ?_
  refine lv_aload_n hx hb dX3_become_31 rfl (lv_at hl 1 rfl) ?_
  refine x_geti (C := RX3) (k := 4) hx hb hts u_X3_become_3 hown hK hP (g_NN_21 cI a s4) rfl (by decide) ⟨rfl, rfl, rfl⟩ k_X3_become_f39 rfl dX3_become_32 h (fun x5 h => ?_)
  refine x_puti (p_NN cI a) (C := RX3) (k := 4) hx hb hts u_X3_become_3 tyX3 tyX3_ok nmX3 hown hK hP hD hS h (g_NN_0 cI a s4) rfl (by decide) ⟨rfl, rfl, rfl⟩ k_X3_become_f39 rfl rfl rfl rfl (Nat.le_of_ble_eq_true rfl) (s_NN_0_4 cI a s4 x5) dX3_become_35 (fun H locs s6 hP hS h => ?_)
  refine lv_aload_n hx hb dX3_become_38 rfl (lv_at hl 0 rfl) ?_
  refine lv_aload_n hx hb dX3_become_39 rfl (lv_at hl 1 rfl) ?_
  refine x_geti (C := RX3) (k := 5) hx hb hts u_X3_become_3 hown hK hP (g_NN_21 cI a s6) rfl (by decide) ⟨rfl, rfl, rfl⟩ k_X3_become_f42 rfl dX3_become_40 h (fun x7 h => ?_)
  refine x_puti (p_NN cI a) (C := RX3) (k := 5) hx hb hts u_X3_become_3 tyX3 tyX3_ok nmX3 hown hK hP hD hS h (g_NN_0 cI a s6) rfl (by decide) ⟨rfl, rfl, rfl⟩ k_X3_become_f42 rfl rfl rfl rfl (Nat.le_of_ble_eq_true rfl) (s_NN_0_5 cI a s6 x7) dX3_become_43 (fun H locs s8 hP hS h => ?_)
  refine lv_aload_n hx hb dX3_become_46 rfl (lv_at hl 0 rfl) ?_
  refine lv_aload_n hx hb dX3_become_47 rfl (lv_at hl 1 rfl) ?_
  refine x_geti (C := RX3) (k := 6) hx hb hts u_X3_become_3 hown hK hP (g_NN_21 cI a s8) rfl (by decide) ⟨rfl, rfl, rfl⟩ k_X3_become_f45 rfl dX3_become_48 h (fun x9 h => ?_)
  refine x_puti (p_NN cI a) (C := RX3) (k := 6) hx hb hts u_X3_become_3 tyX3 tyX3_ok nmX3 hown hK hP hD hS h (g_NN_0 cI a s8) rfl (by decide) ⟨rfl, rfl, rfl⟩ k_X3_become_f45 rfl rfl rfl rfl (Nat.le_of_ble_eq_true rfl) (s_NN_0_6 cI a s8 x9) dX3_become_51 (fun H locs s10 hP hS h => ?_)
  refine lv_aload_n hx hb dX3_become_54 rfl (lv_at hl 0 rfl) ?_
  refine lv_aload_n hx hb dX3_become_55 rfl (lv_at hl 1 rfl) ?_
  refine x_geti (C := RX3) (k := 7) hx hb hts u_X3_become_3 hown hK hP (g_NN_21 cI a s10) rfl (by decide) ⟨rfl, rfl, rfl⟩ k_X3_become_f48 rfl dX3_become_56 h (fun x11 h => ?_)
  refine x_puti (p_NN cI a) (C := RX3) (k := 7) hx hb hts u_X3_become_3 tyX3 tyX3_ok nmX3 hown hK hP hD hS h (g_NN_0 cI a s10) rfl (by decide) ⟨rfl, rfl, rfl⟩ k_X3_become_f48 rfl rfl rfl rfl (Nat.le_of_ble_eq_true rfl) (s_NN_0_7 cI a s10 x11) dX3_become_59 (fun H locs s12 hP hS h => ?_)
  refine lv_aload_n hx hb dX3_become_62 rfl (lv_at hl 0 rfl) ?_
  refine lv_aload_n hx hb dX3_become_63 rfl (lv_at hl 1 rfl) ?_
  refine x_geti (C := RX3) (k := 8) hx hb hts u_X3_become_3 hown hK hP (g_NN_21 cI a s12) rfl (by decide) ⟨rfl, rfl, rfl⟩ k_X3_become_f51 rfl dX3_become_64 h (fun x13 h => ?_)
  refine x_puti (p_NN cI a) (C := RX3) (k := 8) hx hb hts u_X3_become_3 tyX3 tyX3_ok nmX3 hown hK hP hD hS h (g_NN_0 cI a s12) rfl (by decide) ⟨rfl, rfl, rfl⟩ k_X3_become_f51 rfl rfl rfl rfl (Nat.le_of_ble_eq_true rfl) (s_NN_0_8 cI a s12 x13) dX3_become_67 (fun H locs s14 hP hS h => ?_)
  exact x_vret (p_NN cI a) hx hb hr hlocks hP hS dX3_become_70 h
