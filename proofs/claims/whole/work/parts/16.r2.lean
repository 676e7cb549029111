/-! ===== VectorRoundsModel.nextOf(II)I: world M ===== -/
theorem i_X8_nextOf : yX8_nextOf.cls = RX8 ∧ yX8_nextOf.cls ≠ "java/lang/invoke/MethodHandle" ∧ yX8_nextOf.cls ≠ "java/lang/invoke/VarHandle" ∧ (parseMethodDescriptor yX8_nextOf.desc).map (fun d => d.parameters.length) = some 2 := by decide +kernel
theorem k_X8_nextOf_f7 : Cond.fieldLink RX8 7 RX8 "s" "[I" ∈ wsX8_nextOf := by decide +kernel
theorem u_X8_nextOf_8 : ∀ w ∈ u_ws RX8 TX8 26, w ∈ wsX8_nextOf := by decide +kernel
set_option maxHeartbeats 4000000 in
set_option maxRecDepth 100000 in
theorem c_X8_nextOf (l : Launch) (D : va_G) (cI : ClassId) (tys : List (ClassId × FieldType)) (ht : tys[0]? = some (cI, .int)) (a : Nat → Nat) (σ : qM) (x1 : Int32) (x2 : Int32) : q_Met l yX8_nextOf wsX8_nextOf ({ frames := 1, cells := 0, slots := 0, locals := 23 }) [.ref (a 0), .int x1, .int x2] D tys (p_M cI a) σ (f_X8_nextOf σ x1 x2) := by
  refine x_ofWi (cc := cX8_nextOf) (maxL := 4) (ret := (some .int)) (by decide +kernel) rfl (pf_M cI a) (Nat.le_of_ble_eq_true rfl) ?_
  intro p e s m below meth c A ls qq h hx hb hml hr hlocks hown hts hK hP hD hA hS hl
  have hown : s.vm.findClass RX8 = some m.cls := hown
  have hl : lv_has ls 4 [(0, .ref (a 0)), (1, .int x1), (2, .int x2)] := hl
  unfold f_X8_nextOf at h
  refine lv_aload_n hx hb dX8_nextOf_0 rfl (lv_at hl 0 rfl) ?_
  refine lv_iload_n hx hb dX8_nextOf_1 rfl (lv_at hl 1 rfl) ?_
  refine lv_iload_n hx hb dX8_nextOf_2 rfl (lv_at hl 2 rfl) ?_
  refine x_cVi (p_M cI a) (p_M cI a) (fun τ => τ) [] [.int x1, .int x2] hx hb hml hl.1 hown hts hK hP hD hS hA rfl (c_X8_entryOf l D cI tys ht a σ x1 x2) gX8_nextOf_X8_entryOf rfl ⟨rfl, rfl⟩ i_X8_entryOf ⟨Nat.le_of_ble_eq_true rfl, Nat.le_of_ble_eq_true rfl⟩ q_frI (g_M_0 cI a σ) rfl rfl (Nat.le_of_ble_eq_true rfl) ⟨Nat.zero_le _, Nat.zero_le _⟩ dX8_nextOf_3 h (fun x4 H locs s3 hP hS h => ?_)
  refine lv_istore_n (lv' := [(3, .int x4), (0, .ref (a 0)), (1, .int x1), (2, .int x2)]) hx hb dX8_nextOf_6 rfl hl (by decide) rfl (fun ls hl => ?_)
  refine lv_iload_n hx hb dX8_nextOf_7 rfl (lv_at hl 0 rfl) ?_
  refine lv_if_lt (tgt := 26) hx hb dX8_nextOf_8 (by decide) (fun c5 => ?_) (fun c5 => ?_)
  · have h := if_t c5 h
    refine lv_iconst (v := (-1)) hx hb dX8_nextOf_26 (by decide +kernel) ?_
    refine lv_goto (tgt := 40) hx hb dX8_nextOf_27 (by decide) ?_
    exact x_iret (p_M cI a) hx hb hr hlocks hP hS dX8_nextOf_40 h
  · have h := if_f c5 h
    refine lv_aload_n hx hb dX8_nextOf_11 rfl (lv_at hl 1 rfl) ?_
    refine x_getr (C := RX8) (k := 1) hx hb hts u_X8_nextOf_8 hown hK hP (g_M_0 cI a s3) rfl (by decide) ⟨rfl, rfl, rfl⟩ k_X8_nextOf_f7 rfl dX8_nextOf_12 ?_
    refine lv_sipush (v := 250) hx hb dX8_nextOf_15 (by decide +kernel) ?_
    refine lv_iload_n hx hb dX8_nextOf_18 rfl (lv_at hl 0 rfl) ?_
    refine x_iadd hx hb dX8_nextOf_19 h (fun x6 h => ?_)
    refine x_iald (t0 := 0) hx hb hK hP ht h (g_M_1 cI a s3) dX8_nextOf_20 (fun x7 h => ?_)
    refine lv_bipush (v := 16) hx hb dX8_nextOf_21 (by decide +kernel) ?_
    refine lv_icmp_lt (tgt := 30) hx hb dX8_nextOf_23 (by decide) (fun c8 => ?_) (fun c8 => ?_)
    · have h := if_t c8 h
      refine lv_aload_n hx hb dX8_nextOf_30 rfl (lv_at hl 1 rfl) ?_
      refine x_getr (C := RX8) (k := 1) hx hb hts u_X8_nextOf_8 hown hK hP (g_M_0 cI a s3) rfl (by decide) ⟨rfl, rfl, rfl⟩ k_X8_nextOf_f7 rfl dX8_nextOf_31 ?_
      refine lv_sipush (v := 350) hx hb dX8_nextOf_34 (by decide +kernel) ?_
      refine lv_iload_n hx hb dX8_nextOf_37 rfl (lv_at hl 0 rfl) ?_
      refine x_iadd hx hb dX8_nextOf_38 h (fun x9 h => ?_)
      refine x_iald (t0 := 0) hx hb hK hP ht h (g_M_1 cI a s3) dX8_nextOf_39 (fun x10 h => ?_)
      exact x_iret (p_M cI a) hx hb hr hlocks hP hS dX8_nextOf_40 h
    · have h := if_f c8 h
      refine lv_iconst (v := (-1)) hx hb dX8_nextOf_26 (by decide +kernel) ?_
      refine lv_goto (tgt := 40) hx hb dX8_nextOf_27 (by decide) ?_
      exact x_iret (p_M cI a) hx hb hr hlocks hP hS dX8_nextOf_40 h
/-! ===== VectorRoundsModel.isOnWay(I)Z: world M ===== -/
theorem i_X8_isOnWay : yX8_isOnWay.cls = RX8 ∧ yX8_isOnWay.cls ≠ "java/lang/invoke/MethodHandle" ∧ yX8_isOnWay.cls ≠ "java/lang/invoke/VarHandle" ∧ (parseMethodDescriptor yX8_isOnWay.desc).map (fun d => d.parameters.length) = some 1 := by decide +kernel
theorem k_X8_isOnWay_f133 : Cond.fieldLink RX8 133 RX8 "steps" "I" ∈ wsX8_isOnWay := by decide +kernel
theorem k_X8_isOnWay_f43 : Cond.fieldLink RX8 43 RX8 "way" "[I" ∈ wsX8_isOnWay := by decide +kernel
theorem u_X8_isOnWay_8 : ∀ w ∈ u_ws RX8 TX8 26, w ∈ wsX8_isOnWay := by decide +kernel
set_option maxHeartbeats 4000000 in
set_option maxRecDepth 100000 in
theorem c_X8_isOnWay (l : Launch) (D : va_G) (cI : ClassId) (tys : List (ClassId × FieldType)) (ht : tys[0]? = some (cI, .int)) (a : Nat → Nat) (σ : qM) (x1 : Int32) : q_Met l yX8_isOnWay wsX8_isOnWay ({ frames := 0, cells := 0, slots := 0, locals := 0 }) [.ref (a 0), .int x1] D tys (p_M cI a) σ (f_X8_isOnWay σ x1) := by
  refine x_ofWi (cc := cX8_isOnWay) (maxL := 3) (ret := (some .boolean)) (by decide +kernel) rfl (pf_M cI a) (Nat.le_of_ble_eq_true rfl) ?_
  intro p e s m below meth c A ls qq h hx hb hml hr hlocks hown hts hK hP hD hA hS hl
  have hown : s.vm.findClass RX8 = some m.cls := hown
  have hl : lv_has ls 3 [(0, .ref (a 0)), (1, .int x1)] := hl
  have main : ∀ k9 : Nat, (∀ (σ : qM) (x2 x3 : Int32) (H : Heap) (locs : List Loc) (ls : Array Slot), q_it (D_X8_isOnWay) k9 0 σ [x2, x3] = some qq → va_P D vwCl (p_M cI a σ) H → va_S A s.heap H locs → lv_has ls 3 [(0, .ref (a 0)), (1, .int x2), (2, .int x3)] → W p l e ({ frames := 0, cells := 0, slots := 0, locals := 0 }) s m [.ref (a 0), .int x1].toArray below meth c H locs 0 0 (MQ below (va_Qi (fun r τ => (r, τ) = qq) (fun τ t => va_P D vwCl ((p_M cI a) τ) t.heap) A) [.ref (a 0), .int x1].toArray s 0 0 A) (F0 m 2 ls [])) := by
    intro k9
    induction k9 with
    | zero => exact (fun _ _ _ _ _ _ h _ _ _ => (q_no (show (none : qR) = some qq from h)).elim)
    | succ k9 ih =>
      have i2 := ih
      refine ?_
      · intro σ x2 x3 H locs ls h hP hS hl
        have h : b_X8_isOnWay_2 (q_it (D_X8_isOnWay) k9) σ x2 x3 = some qq := h
        unfold b_X8_isOnWay_2 at h
        refine lv_iload_n hx hb dX8_isOnWay_2 rfl (lv_at hl 2 rfl) ?_
        refine lv_aload_n hx hb dX8_isOnWay_3 rfl (lv_at hl 0 rfl) ?_
        refine x_geti (C := RX8) (k := 14) hx hb hts u_X8_isOnWay_8 hown hK hP (g_M_0 cI a σ) rfl (by decide) ⟨rfl, rfl, rfl⟩ k_X8_isOnWay_f133 rfl dX8_isOnWay_4 h (fun x4 h => ?_)
        refine lv_icmp_ge (tgt := 28) hx hb dX8_isOnWay_7 (by decide) (fun c5 => ?_) (fun c5 => ?_)
        · have h := if_t c5 h
          refine lv_iconst (v := 0) hx hb dX8_isOnWay_28 (by decide +kernel) ?_
          exact x_zret (p_M cI a) hx hb hr hlocks hP hS dX8_isOnWay_29 h
        · have h := if_f c5 h
          refine lv_aload_n hx hb dX8_isOnWay_10 rfl (lv_at hl 0 rfl) ?_
          refine x_getr (C := RX8) (k := 13) hx hb hts u_X8_isOnWay_8 hown hK hP (g_M_0 cI a σ) rfl (by decide) ⟨rfl, rfl, rfl⟩ k_X8_isOnWay_f43 rfl dX8_isOnWay_11 ?_
          refine lv_iload_n hx hb dX8_isOnWay_14 rfl (lv_at hl 2 rfl) ?_
          refine x_iald (t0 := 0) hx hb hK hP ht h (g_M_12 cI a σ) dX8_isOnWay_15 (fun x6 h => ?_)
          refine lv_iload_n hx hb dX8_isOnWay_16 rfl (lv_at hl 1 rfl) ?_
          refine lv_icmp_ne (tgt := 22) hx hb dX8_isOnWay_17 (by decide) (fun c7 => ?_) (fun c7 => ?_)
          · have h := if_f c7 h
            refine x_iinc (k := 2) (w := 1) hx hb dX8_isOnWay_22 hl rfl (by decide +kernel) (by decide) (fun v9 => [(2, .int v9), (0, .ref (a 0)), (1, .int x2)]) (fun v9 => rfl) h (fun x8 ls hl h => ?_)
            have hl : lv_has ls 3 [(2, .int x8), (0, .ref (a 0)), (1, .int x2)] := hl
            refine lv_goto (tgt := 2) hx hb dX8_isOnWay_25 (by decide) ?_
            exact i2 σ x2 x8 _ _ _ h hP hS (lv_sub hl [1, 2, 0] rfl)
          · have h := if_t c7 h
            refine lv_iconst (v := 1) hx hb dX8_isOnWay_20 (by decide +kernel) ?_
            exact x_zret (p_M cI a) hx hb hr hlocks hP hS dX8_isOnWay_21 h
  have i2 : ∀ (σ : qM) (x2 x3 : Int32) (H : Heap) (locs : List Loc) (ls : Array Slot), q_lim (D_X8_isOnWay) 0 σ [x2, x3] = some qq → va_P D vwCl (p_M cI a σ) H → va_S A s.heap H locs → lv_has ls 3 [(0, .ref (a 0)), (1, .int x2), (2, .int x3)] → W p l e ({ frames := 0, cells := 0, slots := 0, locals := 0 }) s m [.ref (a 0), .int x1].toArray below meth c H locs 0 0 (MQ below (va_Qi (fun r τ => (r, τ) = qq) (fun τ t => va_P D vwCl ((p_M cI a) τ) t.heap) A) [.ref (a 0), .int x1].toArray s 0 0 A) (F0 m 2 ls []) := by
    intro σ x2 x3 H locs ls h hP hS hl
    obtain ⟨k9, h⟩ := q_lim_n h
    exact (main k9) σ x2 x3 H locs ls h hP hS hl
  have h : e_X8_isOnWay (q_lim (D_X8_isOnWay)) σ x1 = some qq := h
  unfold e_X8_isOnWay at h
  refine lv_iconst (v := 0) hx hb dX8_isOnWay_0 (by decide +kernel) ?_
  refine lv_istore_n (lv' := [(2, .int 0), (0, .ref (a 0)), (1, .int x1)]) hx hb dX8_isOnWay_1 rfl hl (by decide) rfl (fun ls hl => ?_)
  exact i2 σ x1 0 _ _ _ h hP hS (lv_sub hl [1, 2, 0] rfl)
/-! ===== VectorRoundsModel.goWay(II)I: world M ===== -/
theorem i_X8_goWay : yX8_goWay.cls = RX8 ∧ yX8_goWay.cls ≠ "java/lang/invoke/MethodHandle" ∧ yX8_goWay.cls ≠ "java/lang/invoke/VarHandle" ∧ (parseMethodDescriptor yX8_goWay.desc).map (fun d => d.parameters.length) = some 2 := by decide +kernel
theorem k_X8_goWay_f133 : Cond.fieldLink RX8 133 RX8 "steps" "I" ∈ wsX8_goWay := by decide +kernel
theorem k_X8_goWay_f43 : Cond.fieldLink RX8 43 RX8 "way" "[I" ∈ wsX8_goWay := by decide +kernel
theorem u_X8_goWay_8 : ∀ w ∈ u_ws RX8 TX8 26, w ∈ wsX8_goWay := by decide +kernel
set_option maxHeartbeats 4000000 in
set_option maxRecDepth 100000 in
theorem c_X8_goWay (l : Launch) (D : va_G) (cI : ClassId) (tys : List (ClassId × FieldType)) (ht : tys[0]? = some (cI, .int)) (a : Nat → Nat) (σ : qM) (x1 : Int32) (x2 : Int32) : q_Met l yX8_goWay wsX8_goWay ({ frames := 2, cells := 0, slots := 0, locals := 46 }) [.ref (a 0), .int x1, .int x2] D tys (p_M cI a) σ (f_X8_goWay σ x1 x2) := by
  refine x_ofWi (cc := cX8_goWay) (maxL := 4) (ret := (some .int)) (by decide +kernel) rfl (pf_M cI a) (Nat.le_of_ble_eq_true rfl) ?_
  intro p e s m below meth c A ls qq h hx hb hml hr hlocks hown hts hK hP hD hA hS hl
  have hown : s.vm.findClass RX8 = some m.cls := hown
  have hl : lv_has ls 4 [(0, .ref (a 0)), (1, .int x1), (2, .int x2)] := hl
  have main : ∀ k9 : Nat, (∀ (σ : qM) (x5 : Int32) (H : Heap) (locs : List Loc) (ls : Array Slot), q_it (D_X8_goWay) k9 0 σ [x5] = some qq → va_P D vwCl (p_M cI a σ) H → va_S A s.heap H locs → lv_has ls 4 [(0, .ref (a 0)), (2, .int x5)] → W p l e ({ frames := 2, cells := 0, slots := 0, locals := 46 }) s m [.ref (a 0), .int x1, .int x2].toArray below meth c H locs 0 0 (MQ below (va_Qi (fun r τ => (r, τ) = qq) (fun τ t => va_P D vwCl ((p_M cI a) τ) t.heap) A) [.ref (a 0), .int x1, .int x2].toArray s 0 0 A) (F0 m 12 ls [])) := by
    intro k9
    induction k9 with
    | zero => exact (fun _ _ _ _ _ h _ _ _ => (q_no (show (none : qR) = some qq from h)).elim)
    | succ k9 ih =>
      have i12 := ih
      refine ?_
      · intro σ x5 H locs ls h hP hS hl
        have h : b_X8_goWay_12 (q_it (D_X8_goWay) k9) σ x5 = some qq := h
        unfold b_X8_goWay_12 at h
        refine lv_aload_n hx hb dX8_goWay_12 rfl (lv_at hl 0 rfl) ?_
        refine x_getr (C := RX8) (k := 13) hx hb hts u_X8_goWay_8 hown hK hP (g_M_0 cI a σ) rfl (by decide) ⟨rfl, rfl, rfl⟩ k_X8_goWay_f43 rfl dX8_goWay_13 ?_
        refine lv_aload_n hx hb dX8_goWay_16 rfl (lv_at hl 0 rfl) ?_
        refine x_geti (C := RX8) (k := 14) hx hb hts u_X8_goWay_8 hown hK hP (g_M_0 cI a σ) rfl (by decide) ⟨rfl, rfl, rfl⟩ k_X8_goWay_f133 rfl dX8_goWay_17 h (fun x6 h => ?_)
        refine lv_iconst (v := 1) hx hb dX8_goWay_20 (by decide +kernel) ?_
        refine x_isub hx hb dX8_goWay_21 h (fun x7 h => ?_)
        refine x_iald (t0 := 0) hx hb hK hP ht h (g_M_12 cI a σ) dX8_goWay_22 (fun x8 h => ?_)
        refine lv_iload_n hx hb dX8_goWay_23 rfl (lv_at hl 1 rfl) ?_
        refine lv_icmp_eq (tgt := 83) hx hb dX8_goWay_24 (by decide) (fun c9 => ?_) (fun c9 => ?_)
        · have h := if_t c9 h
          refine lv_iconst (v := 1) hx hb dX8_goWay_83 (by decide +kernel) ?_
          exact x_iret (p_M cI a) hx hb hr hlocks hP hS dX8_goWay_84 h
        · have h := if_f c9 h
          refine lv_aload_n hx hb dX8_goWay_27 rfl (lv_at hl 0 rfl) ?_
          refine lv_aload_n hx hb dX8_goWay_28 rfl (lv_at hl 0 rfl) ?_
          refine x_getr (C := RX8) (k := 13) hx hb hts u_X8_goWay_8 hown hK hP (g_M_0 cI a σ) rfl (by decide) ⟨rfl, rfl, rfl⟩ k_X8_goWay_f43 rfl dX8_goWay_29 ?_
          refine lv_aload_n hx hb dX8_goWay_32 rfl (lv_at hl 0 rfl) ?_
          refine x_geti (C := RX8) (k := 14) hx hb hts u_X8_goWay_8 hown hK hP (g_M_0 cI a σ) rfl (by decide) ⟨rfl, rfl, rfl⟩ k_X8_goWay_f133 rfl dX8_goWay_33 h (fun x10 h => ?_)
          refine lv_iconst (v := 1) hx hb dX8_goWay_36 (by decide +kernel) ?_
          refine x_isub hx hb dX8_goWay_37 h (fun x11 h => ?_)
          refine x_iald (t0 := 0) hx hb hK hP ht h (g_M_12 cI a σ) dX8_goWay_38 (fun x12 h => ?_)
          refine lv_iload_n hx hb dX8_goWay_39 rfl (lv_at hl 1 rfl) ?_
          refine x_cVi (p_M cI a) (p_M cI a) (fun τ => τ) [] [.int x12, .int x5] hx hb hml hl.1 hown hts hK hP hD hS hA rfl (c_X8_nextOf l D cI tys ht a σ x12 x5) gX8_goWay_X8_nextOf rfl ⟨rfl, rfl⟩ i_X8_nextOf ⟨Nat.le_of_ble_eq_true rfl, Nat.le_of_ble_eq_true rfl⟩ q_frI (g_M_0 cI a σ) rfl rfl (Nat.le_of_ble_eq_true rfl) ⟨Nat.zero_le _, Nat.zero_le _⟩ dX8_goWay_40 h (fun x14 H locs s13 hP hS h => ?_)
          refine lv_istore_n (lv' := [(3, .int x14), (0, .ref (a 0)), (2, .int x5)]) hx hb dX8_goWay_43 rfl hl (by decide) rfl (fun ls hl => ?_)
          refine lv_iload_n hx hb dX8_goWay_44 rfl (lv_at hl 0 rfl) ?_
          refine lv_if_ge (tgt := 50) hx hb dX8_goWay_45 (by decide) (fun c15 => ?_) (fun c15 => ?_)
          · have h := if_t c15 h
            refine lv_aload_n hx hb dX8_goWay_50 rfl (lv_at hl 1 rfl) ?_
            refine lv_iload_n hx hb dX8_goWay_51 rfl (lv_at hl 0 rfl) ?_
            refine x_cVi (p_M cI a) (p_M cI a) (fun τ => τ) [] [.int x14] hx hb hml hl.1 hown hts hK hP hD hS hA rfl (c_X8_isOnWay l D cI tys ht a s13 x14) gX8_goWay_X8_isOnWay rfl ⟨rfl, rfl⟩ i_X8_isOnWay ⟨Nat.le_of_ble_eq_true rfl, Nat.le_of_ble_eq_true rfl⟩ q_frI (g_M_0 cI a s13) rfl rfl (Nat.le_of_ble_eq_true rfl) ⟨Nat.zero_le _, Nat.zero_le _⟩ dX8_goWay_52 h (fun x17 H locs s16 hP hS h => ?_)
            refine lv_if_eq (tgt := 60) hx hb dX8_goWay_55 (by decide) (fun c18 => ?_) (fun c18 => ?_)
            · have h := if_t c18 h
              refine lv_aload_n hx hb dX8_goWay_60 rfl (lv_at hl 1 rfl) ?_
              refine x_getr (C := RX8) (k := 13) hx hb hts u_X8_goWay_8 hown hK hP (g_M_0 cI a s16) rfl (by decide) ⟨rfl, rfl, rfl⟩ k_X8_goWay_f43 rfl dX8_goWay_61 ?_
              refine lv_aload_n hx hb dX8_goWay_64 rfl (lv_at hl 1 rfl) ?_
              refine x_geti (C := RX8) (k := 14) hx hb hts u_X8_goWay_8 hown hK hP (g_M_0 cI a s16) rfl (by decide) ⟨rfl, rfl, rfl⟩ k_X8_goWay_f133 rfl dX8_goWay_65 h (fun x19 h => ?_)
              refine lv_iload_n hx hb dX8_goWay_68 rfl (lv_at hl 0 rfl) ?_
              refine x_iast (p_M cI a) (t0 := 0) hx hb hK hP hD hS ht h (g_M_12 cI a s16) (fun j9 v9 => (s_M_12 cI a s16 _)) dX8_goWay_69 (fun H locs s20 hP hS h => ?_)
              refine lv_aload_n hx hb dX8_goWay_70 rfl (lv_at hl 1 rfl) ?_
              refine lv_dup hx hb dX8_goWay_71 rfl ?_
              refine x_geti (C := RX8) (k := 14) hx hb hts u_X8_goWay_8 hown hK hP (g_M_0 cI a s20) rfl (by decide) ⟨rfl, rfl, rfl⟩ k_X8_goWay_f133 rfl dX8_goWay_72 h (fun x21 h => ?_)
              refine lv_iconst (v := 1) hx hb dX8_goWay_75 (by decide +kernel) ?_
              refine x_iadd hx hb dX8_goWay_76 h (fun x22 h => ?_)
              refine x_puti (p_M cI a) (C := RX8) (k := 14) hx hb hts u_X8_goWay_8 tyX8 tyX8_ok nmX8 hown hK hP hD hS h (g_M_0 cI a s20) rfl (by decide) ⟨rfl, rfl, rfl⟩ k_X8_goWay_f133 rfl rfl rfl rfl (Nat.le_of_ble_eq_true rfl) (s_M_0_14 cI a s20 x22) dX8_goWay_77 (fun H locs s23 hP hS h => ?_)
              refine lv_goto (tgt := 12) hx hb dX8_goWay_80 (by decide) ?_
              exact i12 s23 x5 _ _ _ h hP hS (lv_sub hl [1, 2] rfl)
            · have h := if_f c18 h
              refine lv_iconst (v := 2) hx hb dX8_goWay_58 (by decide +kernel) ?_
              exact x_iret (p_M cI a) hx hb hr hlocks hP hS dX8_goWay_59 h
          · have h := if_f c15 h
            refine lv_iconst (v := 0) hx hb dX8_goWay_48 (by decide +kernel) ?_
            exact x_iret (p_M cI a) hx hb hr hlocks hP hS dX8_goWay_49 h
  have i12 : ∀ (σ : qM) (x5 : Int32) (H : Heap) (locs : List Loc) (ls : Array Slot), q_lim (D_X8_goWay) 0 σ [x5] = some qq → va_P D vwCl (p_M cI a σ) H → va_S A s.heap H locs → lv_has ls 4 [(0, .ref (a 0)), (2, .int x5)] → W p l e ({ frames := 2, cells := 0, slots := 0, locals := 46 }) s m [.ref (a 0), .int x1, .int x2].toArray below meth c H locs 0 0 (MQ below (va_Qi (fun r τ => (r, τ) = qq) (fun τ t => va_P D vwCl ((p_M cI a) τ) t.heap) A) [.ref (a 0), .int x1, .int x2].toArray s 0 0 A) (F0 m 12 ls []) := by
    intro σ x5 H locs ls h hP hS hl
    obtain ⟨k9, h⟩ := q_lim_n h
    exact (main k9) σ x5 H locs ls h hP hS hl
  have h : e_X8_goWay (q_lim (D_X8_goWay)) σ x1 x2 = some qq := h
  unfold e_X8_goWay at h
  refine lv_aload_n hx hb dX8_goWay_0 rfl (lv_at hl 0 rfl) ?_
  refine x_getr (C := RX8) (k := 13) hx hb hts u_X8_goWay_8 hown hK hP (g_M_0 cI a σ) rfl (by decide) ⟨rfl, rfl, rfl⟩ k_X8_goWay_f43 rfl dX8_goWay_1 ?_
  refine lv_iconst (v := 0) hx hb dX8_goWay_4 (by decide +kernel) ?_
  refine lv_iload_n hx hb dX8_goWay_5 rfl (lv_at hl 1 rfl) ?_
  refine x_iast (p_M cI a) (t0 := 0) hx hb hK hP hD hS ht h (g_M_12 cI a σ) (fun j9 v9 => (s_M_12 cI a σ _)) dX8_goWay_6 (fun H locs s3 hP hS h => ?_)
  refine lv_aload_n hx hb dX8_goWay_7 rfl (lv_at hl 0 rfl) ?_
  refine lv_iconst (v := 1) hx hb dX8_goWay_8 (by decide +kernel) ?_
  refine x_puti (p_M cI a) (C := RX8) (k := 14) hx hb hts u_X8_goWay_8 tyX8 tyX8_ok nmX8 hown hK hP hD hS h (g_M_0 cI a s3) rfl (by decide) ⟨rfl, rfl, rfl⟩ k_X8_goWay_f133 rfl rfl rfl rfl (Nat.le_of_ble_eq_true rfl) (s_M_0_14 cI a s3 1) dX8_goWay_9 (fun H locs s4 hP hS h => ?_)
  exact i12 s4 x2 _ _ _ h hP hS (lv_sub hl [0, 2] rfl)
/-! ===== VectorRoundsModel.loops()I: world M ===== -/
theorem i_X8_loops : yX8_loops.cls = RX8 ∧ yX8_loops.cls ≠ "java/lang/invoke/MethodHandle" ∧ yX8_loops.cls ≠ "java/lang/invoke/VarHandle" ∧ (parseMethodDescriptor yX8_loops.desc).map (fun d => d.parameters.length) = some 0 := by decide +kernel
theorem k_X8_loops_f7 : Cond.fieldLink RX8 7 RX8 "s" "[I" ∈ wsX8_loops := by decide +kernel
theorem u_X8_loops_8 : ∀ w ∈ u_ws RX8 TX8 26, w ∈ wsX8_loops := by decide +kernel
set_option maxHeartbeats 4000000 in
set_option maxRecDepth 100000 in
theorem c_X8_loops (l : Launch) (D : va_G) (cI : ClassId) (tys : List (ClassId × FieldType)) (ht : tys[0]? = some (cI, .int)) (a : Nat → Nat) (σ : qM) : q_Met l yX8_loops wsX8_loops ({ frames := 3, cells := 0, slots := 0, locals := 69 }) [.ref (a 0)] D tys (p_M cI a) σ (f_X8_loops σ) := by
  refine x_ofWi (cc := cX8_loops) (maxL := 4) (ret := (some .int)) (by decide +kernel) rfl (pf_M cI a) (Nat.le_of_ble_eq_true rfl) ?_
  intro p e s m below meth c A ls qq h hx hb hml hr hlocks hown hts hK hP hD hA hS hl
  have hown : s.vm.findClass RX8 = some m.cls := hown
  have hl : lv_has ls 4 [(0, .ref (a 0))] := hl
  have main : ∀ k9 : Nat, (∀ (σ : qM) (x1 x2 : Int32) (H : Heap) (locs : List Loc) (ls : Array Slot), q_it (D_X8_loops) k9 0 σ [x1, x2] = some qq → va_P D vwCl (p_M cI a σ) H → va_S A s.heap H locs → lv_has ls 4 [(0, .ref (a 0)), (1, .int x1), (2, .int x2)] → W p l e ({ frames := 3, cells := 0, slots := 0, locals := 69 }) s m [.ref (a 0)].toArray below meth c H locs 0 0 (MQ below (va_Qi (fun r τ => (r, τ) = qq) (fun τ t => va_P D vwCl ((p_M cI a) τ) t.heap) A) [.ref (a 0)].toArray s 0 0 A) (F0 m 4 ls [])) ∧ (∀ (σ : qM) (x5 x6 x7 : Int32) (H : Heap) (locs : List Loc) (ls : Array Slot), q_it (D_X8_loops) k9 1 σ [x5, x6, x7] = some qq → va_P D vwCl (p_M cI a σ) H → va_S A s.heap H locs → lv_has ls 4 [(0, .ref (a 0)), (1, .int x5), (2, .int x6), (3, .int x7)] → W p l e ({ frames := 3, cells := 0, slots := 0, locals := 69 }) s m [.ref (a 0)].toArray below meth c H locs 0 0 (MQ below (va_Qi (fun r τ => (r, τ) = qq) (fun τ t => va_P D vwCl ((p_M cI a) τ) t.heap) A) [.ref (a 0)].toArray s 0 0 A) (F0 m 16 ls [])) := by
    intro k9
    induction k9 with
    | zero => exact ⟨(fun _ _ _ _ _ _ h _ _ _ => (q_no (show (none : qR) = some qq from h)).elim), (fun _ _ _ _ _ _ _ h _ _ _ => (q_no (show (none : qR) = some qq from h)).elim)⟩
    | succ k9 ih =>
      obtain ⟨i4, i16⟩ := ih
      refine ⟨?_, ?_⟩
      · intro σ x1 x2 H locs ls h hP hS hl
        have h : b_X8_loops_4 (q_it (D_X8_loops) k9) σ x1 x2 = some qq := h
        unfold b_X8_loops_4 at h
        refine lv_iload_n hx hb dX8_loops_4 rfl (lv_at hl 2 rfl) ?_
        refine lv_aload_n hx hb dX8_loops_5 rfl (lv_at hl 0 rfl) ?_
        refine x_getr (C := RX8) (k := 1) hx hb hts u_X8_loops_8 hown hK hP (g_M_0 cI a σ) rfl (by decide) ⟨rfl, rfl, rfl⟩ k_X8_loops_f7 rfl dX8_loops_6 ?_
        refine lv_iconst (v := 0) hx hb dX8_loops_9 (by decide +kernel) ?_
        refine x_iald (t0 := 0) hx hb hK hP ht h (g_M_1 cI a σ) dX8_loops_10 (fun x3 h => ?_)
        refine lv_icmp_ge (tgt := 51) hx hb dX8_loops_11 (by decide) (fun c4 => ?_) (fun c4 => ?_)
        · have h := if_t c4 h
          refine lv_iload_n hx hb dX8_loops_51 rfl (lv_at hl 1 rfl) ?_
          exact x_iret (p_M cI a) hx hb hr hlocks hP hS dX8_loops_52 h
        · have h := if_f c4 h
          refine lv_iconst (v := 0) hx hb dX8_loops_14 (by decide +kernel) ?_
          refine lv_istore_n (lv' := [(3, .int 0), (0, .ref (a 0)), (1, .int x1), (2, .int x2)]) hx hb dX8_loops_15 rfl hl (by decide) rfl (fun ls hl => ?_)
          exact i16 σ x1 x2 0 _ _ _ h hP hS (lv_sub hl [1, 2, 3, 0] rfl)
      · intro σ x5 x6 x7 H locs ls h hP hS hl
        have h : b_X8_loops_16 (q_it (D_X8_loops) k9) σ x5 x6 x7 = some qq := h
        unfold b_X8_loops_16 at h
        refine lv_iload_n hx hb dX8_loops_16 rfl (lv_at hl 3 rfl) ?_
        refine lv_aload_n hx hb dX8_loops_17 rfl (lv_at hl 0 rfl) ?_
        refine x_getr (C := RX8) (k := 1) hx hb hts u_X8_loops_8 hown hK hP (g_M_0 cI a σ) rfl (by decide) ⟨rfl, rfl, rfl⟩ k_X8_loops_f7 rfl dX8_loops_18 ?_
        refine lv_iconst (v := 0) hx hb dX8_loops_21 (by decide +kernel) ?_
        refine x_iald (t0 := 0) hx hb hK hP ht h (g_M_1 cI a σ) dX8_loops_22 (fun x8 h => ?_)
        refine lv_icmp_ge (tgt := 45) hx hb dX8_loops_23 (by decide) (fun c9 => ?_) (fun c9 => ?_)
        · have h := if_t c9 h
          refine x_iinc (k := 2) (w := 1) hx hb dX8_loops_45 hl rfl (by decide +kernel) (by decide) (fun v9 => [(2, .int v9), (0, .ref (a 0)), (1, .int x5), (3, .int x7)]) (fun v9 => rfl) h (fun x10 ls hl h => ?_)
          have hl : lv_has ls 4 [(2, .int x10), (0, .ref (a 0)), (1, .int x5), (3, .int x7)] := hl
          refine lv_goto (tgt := 4) hx hb dX8_loops_48 (by decide) ?_
          exact i4 σ x5 x10 _ _ _ h hP hS (lv_sub hl [1, 2, 0] rfl)
        · have h := if_f c9 h
          refine lv_aload_n hx hb dX8_loops_26 rfl (lv_at hl 0 rfl) ?_
          refine lv_iload_n hx hb dX8_loops_27 rfl (lv_at hl 2 rfl) ?_
          refine lv_iload_n hx hb dX8_loops_28 rfl (lv_at hl 3 rfl) ?_
          refine x_cVi (p_M cI a) (p_M cI a) (fun τ => τ) [] [.int x6, .int x7] hx hb hml hl.1 hown hts hK hP hD hS hA rfl (c_X8_goWay l D cI tys ht a σ x6 x7) gX8_loops_X8_goWay rfl ⟨rfl, rfl⟩ i_X8_goWay ⟨Nat.le_of_ble_eq_true rfl, Nat.le_of_ble_eq_true rfl⟩ q_frI (g_M_0 cI a σ) rfl rfl (Nat.le_of_ble_eq_true rfl) ⟨Nat.zero_le _, Nat.zero_le _⟩ dX8_loops_29 h (fun x12 H locs s11 hP hS h => ?_)
          refine lv_iconst (v := 2) hx hb dX8_loops_32 (by decide +kernel) ?_
          refine lv_icmp_ne (tgt := 39) hx hb dX8_loops_33 (by decide) (fun c13 => ?_) (fun c13 => ?_)
          · have h := if_f c13 h
            refine x_iinc (k := 3) (w := 1) hx hb dX8_loops_39 hl rfl (by decide +kernel) (by decide) (fun v9 => [(3, .int v9), (0, .ref (a 0)), (1, .int x5), (2, .int x6)]) (fun v9 => rfl) h (fun x14 ls hl h => ?_)
            have hl : lv_has ls 4 [(3, .int x14), (0, .ref (a 0)), (1, .int x5), (2, .int x6)] := hl
            refine lv_goto (tgt := 16) hx hb dX8_loops_42 (by decide) ?_
            exact i16 s11 x5 x6 x14 _ _ _ h hP hS (lv_sub hl [1, 2, 3, 0] rfl)
          · have h := if_t c13 h
            refine x_iinc (k := 1) (w := 1) hx hb dX8_loops_36 hl rfl (by decide +kernel) (by decide) (fun v9 => [(1, .int v9), (0, .ref (a 0)), (2, .int x6), (3, .int x7)]) (fun v9 => rfl) h (fun x15 ls hl h => ?_)
            have hl : lv_has ls 4 [(1, .int x15), (0, .ref (a 0)), (2, .int x6), (3, .int x7)] := hl
            refine x_iinc (k := 3) (w := 1) hx hb dX8_loops_39 hl rfl (by decide +kernel) (by decide) (fun v9 => [(3, .int v9), (1, .int x15), (0, .ref (a 0)), (2, .int x6)]) (fun v9 => rfl) h (fun x16 ls hl h => ?_)
            have hl : lv_has ls 4 [(3, .int x16), (1, .int x15), (0, .ref (a 0)), (2, .int x6)] := hl
            refine lv_goto (tgt := 16) hx hb dX8_loops_42 (by decide) ?_
            exact i16 s11 x15 x6 x16 _ _ _ h hP hS (lv_sub hl [2, 1, 3, 0] rfl)
  have i4 : ∀ (σ : qM) (x1 x2 : Int32) (H : Heap) (locs : List Loc) (ls : Array Slot), q_lim (D_X8_loops) 0 σ [x1, x2] = some qq → va_P D vwCl (p_M cI a σ) H → va_S A s.heap H locs → lv_has ls 4 [(0, .ref (a 0)), (1, .int x1), (2, .int x2)] → W p l e ({ frames := 3, cells := 0, slots := 0, locals := 69 }) s m [.ref (a 0)].toArray below meth c H locs 0 0 (MQ below (va_Qi (fun r τ => (r, τ) = qq) (fun τ t => va_P D vwCl ((p_M cI a) τ) t.heap) A) [.ref (a 0)].toArray s 0 0 A) (F0 m 4 ls []) := by
    intro σ x1 x2 H locs ls h hP hS hl
    obtain ⟨k9, h⟩ := q_lim_n h
    exact (main k9).1 σ x1 x2 H locs ls h hP hS hl
  have i16 : ∀ (σ : qM) (x5 x6 x7 : Int32) (H : Heap) (locs : List Loc) (ls : Array Slot), q_lim (D_X8_loops) 1 σ [x5, x6, x7] = some qq → va_P D vwCl (p_M cI a σ) H → va_S A s.heap H locs → lv_has ls 4 [(0, .ref (a 0)), (1, .int x5), (2, .int x6), (3, .int x7)] → W p l e ({ frames := 3, cells := 0, slots := 0, locals := 69 }) s m [.ref (a 0)].toArray below meth c H locs 0 0 (MQ below (va_Qi (fun r τ => (r, τ) = qq) (fun τ t => va_P D vwCl ((p_M cI a) τ) t.heap) A) [.ref (a 0)].toArray s 0 0 A) (F0 m 16 ls []) := by
    intro σ x5 x6 x7 H locs ls h hP hS hl
    obtain ⟨k9, h⟩ := q_lim_n h
    exact (main k9).2 σ x5 x6 x7 H locs ls h hP hS hl
  have h : e_X8_loops (q_lim (D_X8_loops)) σ = some qq := h
  unfold e_X8_loops at h
  refine lv_iconst (v := 0) hx hb dX8_loops_0 (by decide +kernel) ?_
  refine lv_istore_n (lv' := [(1, .int 0), (0, .ref (a 0))]) hx hb dX8_loops_1 rfl hl (by decide) rfl (fun ls hl => ?_)
  refine lv_iconst (v := 0) hx hb dX8_loops_2 (by decide +kernel) ?_
  refine lv_istore_n (lv' := [(2, .int 0), (1, .int 0), (0, .ref (a 0))]) hx hb dX8_loops_3 rfl hl (by decide) rfl (fun ls hl => ?_)
  exact i4 σ 0 0 _ _ _ h hP hS (lv_sub hl [2, 1, 0] rfl)
/-! ===== VectorRoundsModel.way(III)I: world M ===== -/
theorem i_X8_way : yX8_way.cls = RX8 ∧ yX8_way.cls ≠ "java/lang/invoke/MethodHandle" ∧ yX8_way.cls ≠ "java/lang/invoke/VarHandle" ∧ (parseMethodDescriptor yX8_way.desc).map (fun d => d.parameters.length) = some 3 := by decide +kernel
theorem k_X8_way_f133 : Cond.fieldLink RX8 133 RX8 "steps" "I" ∈ wsX8_way := by decide +kernel
theorem k_X8_way_f43 : Cond.fieldLink RX8 43 RX8 "way" "[I" ∈ wsX8_way := by decide +kernel
theorem u_X8_way_8 : ∀ w ∈ u_ws RX8 TX8 26, w ∈ wsX8_way := by decide +kernel
set_option maxHeartbeats 4000000 in
set_option maxRecDepth 100000 in
theorem c_X8_way (l : Launch) (D : va_G) (cI : ClassId) (tys : List (ClassId × FieldType)) (ht : tys[0]? = some (cI, .int)) (a : Nat → Nat) (σ : qM) (x1 : Int32) (x2 : Int32) (x3 : Int32) : q_Met l yX8_way wsX8_way ({ frames := 3, cells := 0, slots := 0, locals := 69 }) [.ref (a 0), .int x1, .int x2, .int x3] D tys (p_M cI a) σ (f_X8_way σ x1 x2 x3) := by
  refine x_ofWi (cc := cX8_way) (maxL := 4) (ret := (some .int)) (by decide +kernel) rfl (pf_M cI a) (Nat.le_of_ble_eq_true rfl) ?_
  intro p e s m below meth c A ls qq h hx hb hml hr hlocks hown hts hK hP hD hA hS hl
  have hown : s.vm.findClass RX8 = some m.cls := hown
  have hl : lv_has ls 4 [(0, .ref (a 0)), (1, .int x1), (2, .int x2), (3, .int x3)] := hl
  unfold f_X8_way at h
  refine lv_aload_n hx hb dX8_way_0 rfl (lv_at hl 0 rfl) ?_
  refine lv_iload_n hx hb dX8_way_1 rfl (lv_at hl 1 rfl) ?_
  refine x_cVi (p_M cI a) (p_M cI a) (fun τ => τ) [] [.int x1] hx hb hml hl.1 hown hts hK hP hD hS hA rfl (c_X8_isRouter l D cI tys ht a σ x1) gX8_way_X8_isRouter rfl ⟨rfl, rfl⟩ i_X8_isRouter ⟨Nat.le_of_ble_eq_true rfl, Nat.le_of_ble_eq_true rfl⟩ q_frI (g_M_0 cI a σ) rfl rfl (Nat.le_of_ble_eq_true rfl) ⟨Nat.zero_le _, Nat.zero_le _⟩ dX8_way_2 h (fun x5 H locs s4 hP hS h => ?_)
  refine lv_if_eq (tgt := 21) hx hb dX8_way_5 (by decide) (fun c6 => ?_) (fun c6 => ?_)
  · have h := if_t c6 h
    refine lv_iconst (v := (-1)) hx hb dX8_way_21 (by decide +kernel) ?_
    exact x_iret (p_M cI a) hx hb hr hlocks hP hS dX8_way_22 h
  · have h := if_f c6 h
    refine lv_aload_n hx hb dX8_way_8 rfl (lv_at hl 0 rfl) ?_
    refine lv_iload_n hx hb dX8_way_9 rfl (lv_at hl 2 rfl) ?_
    refine x_cVi (p_M cI a) (p_M cI a) (fun τ => τ) [] [.int x2] hx hb hml hl.1 hown hts hK hP hD hS hA rfl (c_X8_isRouter l D cI tys ht a s4 x2) gX8_way_X8_isRouter rfl ⟨rfl, rfl⟩ i_X8_isRouter ⟨Nat.le_of_ble_eq_true rfl, Nat.le_of_ble_eq_true rfl⟩ q_frI (g_M_0 cI a s4) rfl rfl (Nat.le_of_ble_eq_true rfl) ⟨Nat.zero_le _, Nat.zero_le _⟩ dX8_way_10 h (fun x8 H locs s7 hP hS h => ?_)
    refine lv_if_eq (tgt := 21) hx hb dX8_way_13 (by decide) (fun c9 => ?_) (fun c9 => ?_)
    · have h := if_t c9 h
      refine lv_iconst (v := (-1)) hx hb dX8_way_21 (by decide +kernel) ?_
      exact x_iret (p_M cI a) hx hb hr hlocks hP hS dX8_way_22 h
    · have h := if_f c9 h
      refine lv_iload_n hx hb dX8_way_16 rfl (lv_at hl 3 rfl) ?_
      refine lv_iconst (v := (-1)) hx hb dX8_way_17 (by decide +kernel) ?_
      refine lv_icmp_ge (tgt := 23) hx hb dX8_way_18 (by decide) (fun c10 => ?_) (fun c10 => ?_)
      · have h := if_t c10 h
        refine lv_aload_n hx hb dX8_way_23 rfl (lv_at hl 0 rfl) ?_
        refine lv_iload_n hx hb dX8_way_24 rfl (lv_at hl 1 rfl) ?_
        refine lv_iload_n hx hb dX8_way_25 rfl (lv_at hl 2 rfl) ?_
        refine x_cVi (p_M cI a) (p_M cI a) (fun τ => τ) [] [.int x1, .int x2] hx hb hml hl.1 hown hts hK hP hD hS hA rfl (c_X8_goWay l D cI tys ht a s7 x1 x2) gX8_way_X8_goWay rfl ⟨rfl, rfl⟩ i_X8_goWay ⟨Nat.le_of_ble_eq_true rfl, Nat.le_of_ble_eq_true rfl⟩ q_frI (g_M_0 cI a s7) rfl rfl (Nat.le_of_ble_eq_true rfl) ⟨Nat.zero_le _, Nat.zero_le _⟩ dX8_way_26 h (fun x12 H locs s11 hP hS h => ?_)
        refine lv_pop hx hb dX8_way_29 rfl ?_
        refine lv_iload_n hx hb dX8_way_30 rfl (lv_at hl 3 rfl) ?_
        refine lv_if_ge (tgt := 39) hx hb dX8_way_31 (by decide) (fun c13 => ?_) (fun c13 => ?_)
        · have h := if_t c13 h
          refine lv_iload_n hx hb dX8_way_39 rfl (lv_at hl 3 rfl) ?_
          refine lv_aload_n hx hb dX8_way_40 rfl (lv_at hl 0 rfl) ?_
          refine x_geti (C := RX8) (k := 14) hx hb hts u_X8_way_8 hown hK hP (g_M_0 cI a s11) rfl (by decide) ⟨rfl, rfl, rfl⟩ k_X8_way_f133 rfl dX8_way_41 h (fun x14 h => ?_)
          refine lv_icmp_ge (tgt := 56) hx hb dX8_way_44 (by decide) (fun c15 => ?_) (fun c15 => ?_)
          · have h := if_t c15 h
            refine lv_bipush (v := (-2)) hx hb dX8_way_56 (by decide +kernel) ?_
            exact x_iret (p_M cI a) hx hb hr hlocks hP hS dX8_way_58 h
          · have h := if_f c15 h
            refine lv_aload_n hx hb dX8_way_47 rfl (lv_at hl 0 rfl) ?_
            refine x_getr (C := RX8) (k := 13) hx hb hts u_X8_way_8 hown hK hP (g_M_0 cI a s11) rfl (by decide) ⟨rfl, rfl, rfl⟩ k_X8_way_f43 rfl dX8_way_48 ?_
            refine lv_iload_n hx hb dX8_way_51 rfl (lv_at hl 3 rfl) ?_
            refine x_iald (t0 := 0) hx hb hK hP ht h (g_M_12 cI a s11) dX8_way_52 (fun x16 h => ?_)
            refine lv_goto (tgt := 58) hx hb dX8_way_53 (by decide) ?_
            exact x_iret (p_M cI a) hx hb hr hlocks hP hS dX8_way_58 h
        · have h := if_f c13 h
          refine lv_aload_n hx hb dX8_way_34 rfl (lv_at hl 0 rfl) ?_
          refine x_geti (C := RX8) (k := 14) hx hb hts u_X8_way_8 hown hK hP (g_M_0 cI a s11) rfl (by decide) ⟨rfl, rfl, rfl⟩ k_X8_way_f133 rfl dX8_way_35 h (fun x17 h => ?_)
          exact x_iret (p_M cI a) hx hb hr hlocks hP hS dX8_way_38 h
      · have h := if_f c10 h
        refine lv_iconst (v := (-1)) hx hb dX8_way_21 (by decide +kernel) ?_
        exact x_iret (p_M cI a) hx hb hr hlocks hP hS dX8_way_22 h
/-! ===== VectorRoundsModel.ends(II)I: world M ===== -/
theorem i_X8_ends : yX8_ends.cls = RX8 ∧ yX8_ends.cls ≠ "java/lang/invoke/MethodHandle" ∧ yX8_ends.cls ≠ "java/lang/invoke/VarHandle" ∧ (parseMethodDescriptor yX8_ends.desc).map (fun d => d.parameters.length) = some 2 := by decide +kernel
set_option maxHeartbeats 4000000 in
set_option maxRecDepth 100000 in
theorem c_X8_ends (l : Launch) (D : va_G) (cI : ClassId) (tys : List (ClassId × FieldType)) (ht : tys[0]? = some (cI, .int)) (a : Nat → Nat) (σ : qM) (x1 : Int32) (x2 : Int32) : q_Met l yX8_ends wsX8_ends ({ frames := 3, cells := 0, slots := 0, locals := 69 }) [.ref (a 0), .int x1, .int x2] D tys (p_M cI a) σ (f_X8_ends σ x1 x2) := by
  refine x_ofWi (cc := cX8_ends) (maxL := 3) (ret := (some .int)) (by decide +kernel) rfl (pf_M cI a) (Nat.le_of_ble_eq_true rfl) ?_
  intro p e s m below meth c A ls qq h hx hb hml hr hlocks hown hts hK hP hD hA hS hl
  have hown : s.vm.findClass RX8 = some m.cls := hown
  have hl : lv_has ls 3 [(0, .ref (a 0)), (1, .int x1), (2, .int x2)] := hl
  unfold f_X8_ends at h
  refine lv_aload_n hx hb dX8_ends_0 rfl (lv_at hl 0 rfl) ?_
  refine lv_iload_n hx hb dX8_ends_1 rfl (lv_at hl 1 rfl) ?_
  refine x_cVi (p_M cI a) (p_M cI a) (fun τ => τ) [] [.int x1] hx hb hml hl.1 hown hts hK hP hD hS hA rfl (c_X8_isRouter l D cI tys ht a σ x1) gX8_ends_X8_isRouter rfl ⟨rfl, rfl⟩ i_X8_isRouter ⟨Nat.le_of_ble_eq_true rfl, Nat.le_of_ble_eq_true rfl⟩ q_frI (g_M_0 cI a σ) rfl rfl (Nat.le_of_ble_eq_true rfl) ⟨Nat.zero_le _, Nat.zero_le _⟩ dX8_ends_2 h (fun x4 H locs s3 hP hS h => ?_)
  refine lv_if_eq (tgt := 25) hx hb dX8_ends_5 (by decide) (fun c5 => ?_) (fun c5 => ?_)
  · have h := if_t c5 h
    refine lv_iconst (v := (-1)) hx hb dX8_ends_25 (by decide +kernel) ?_
    exact x_iret (p_M cI a) hx hb hr hlocks hP hS dX8_ends_26 h
  · have h := if_f c5 h
    refine lv_aload_n hx hb dX8_ends_8 rfl (lv_at hl 0 rfl) ?_
    refine lv_iload_n hx hb dX8_ends_9 rfl (lv_at hl 2 rfl) ?_
    refine x_cVi (p_M cI a) (p_M cI a) (fun τ => τ) [] [.int x2] hx hb hml hl.1 hown hts hK hP hD hS hA rfl (c_X8_isRouter l D cI tys ht a s3 x2) gX8_ends_X8_isRouter rfl ⟨rfl, rfl⟩ i_X8_isRouter ⟨Nat.le_of_ble_eq_true rfl, Nat.le_of_ble_eq_true rfl⟩ q_frI (g_M_0 cI a s3) rfl rfl (Nat.le_of_ble_eq_true rfl) ⟨Nat.zero_le _, Nat.zero_le _⟩ dX8_ends_10 h (fun x7 H locs s6 hP hS h => ?_)
    refine lv_if_eq (tgt := 25) hx hb dX8_ends_13 (by decide) (fun c8 => ?_) (fun c8 => ?_)
    · have h := if_t c8 h
      refine lv_iconst (v := (-1)) hx hb dX8_ends_25 (by decide +kernel) ?_
      exact x_iret (p_M cI a) hx hb hr hlocks hP hS dX8_ends_26 h
    · have h := if_f c8 h
      refine lv_aload_n hx hb dX8_ends_16 rfl (lv_at hl 0 rfl) ?_
      refine lv_iload_n hx hb dX8_ends_17 rfl (lv_at hl 1 rfl) ?_
      refine lv_iload_n hx hb dX8_ends_18 rfl (lv_at hl 2 rfl) ?_
      refine x_cVi (p_M cI a) (p_M cI a) (fun τ => τ) [] [.int x1, .int x2] hx hb hml hl.1 hown hts hK hP hD hS hA rfl (c_X8_goWay l D cI tys ht a s6 x1 x2) gX8_ends_X8_goWay rfl ⟨rfl, rfl⟩ i_X8_goWay ⟨Nat.le_of_ble_eq_true rfl, Nat.le_of_ble_eq_true rfl⟩ q_frI (g_M_0 cI a s6) rfl rfl (Nat.le_of_ble_eq_true rfl) ⟨Nat.zero_le _, Nat.zero_le _⟩ dX8_ends_19 h (fun x10 H locs s9 hP hS h => ?_)
      refine lv_goto (tgt := 26) hx hb dX8_ends_22 (by decide) ?_
      exact x_iret (p_M cI a) hx hb hr hlocks hP hS dX8_ends_26 h
/-! ===== VectorRoundsModel.shortestBut(III)I: world M ===== -/
theorem i_X8_shortestBut : yX8_shortestBut.cls = RX8 ∧ yX8_shortestBut.cls ≠ "java/lang/invoke/MethodHandle" ∧ yX8_shortestBut.cls ≠ "java/lang/invoke/VarHandle" ∧ (parseMethodDescriptor yX8_shortestBut.desc).map (fun d => d.parameters.length) = some 3 := by decide +kernel
theorem k_X8_shortestBut_f46 : Cond.fieldLink RX8 46 RX8 "far" "[I" ∈ wsX8_shortestBut := by decide +kernel
theorem k_X8_shortestBut_f7 : Cond.fieldLink RX8 7 RX8 "s" "[I" ∈ wsX8_shortestBut := by decide +kernel
theorem k_X8_shortestBut_m83 : Cond.methodLink RX8 83 Lib.Math.min.name ∈ wsX8_shortestBut ∧ Cond.static Lib.Math.min.name ∈ wsX8_shortestBut ∧ Cond.initialized "java/lang/Math" ∈ wsX8_shortestBut ∧ Cond.code Lib.Math.min.name Lib.Math.min.code 2 (some .int) ∈ wsX8_shortestBut := by decide +kernel
theorem u_X8_shortestBut_8 : ∀ w ∈ u_ws RX8 TX8 26, w ∈ wsX8_shortestBut := by decide +kernel
set_option maxHeartbeats 4000000 in
set_option maxRecDepth 100000 in
theorem c_X8_shortestBut (l : Launch) (D : va_G) (cI : ClassId) (tys : List (ClassId × FieldType)) (ht : tys[0]? = some (cI, .int)) (a : Nat → Nat) (σ : qM) (x1 : Int32) (x2 : Int32) (x3 : Int32) : q_Met l yX8_shortestBut wsX8_shortestBut ({ frames := 1, cells := 0, slots := 0, locals := 40 }) [.ref (a 0), .int x1, .int x2, .int x3] D tys (p_M cI a) σ (f_X8_shortestBut σ x1 x2 x3) := by
  refine x_ofWi (cc := cX8_shortestBut) (maxL := 8) (ret := (some .int)) (by decide +kernel) rfl (pf_M cI a) (Nat.le_of_ble_eq_true rfl) ?_
  intro p e s m below meth c A ls qq h hx hb hml hr hlocks hown hts hK hP hD hA hS hl
  have hown : s.vm.findClass RX8 = some m.cls := hown
  have hl : lv_has ls 8 [(0, .ref (a 0)), (1, .int x1), (2, .int x2), (3, .int x3)] := hl
  have main : ∀ k9 : Nat, (∀ (σ : qM) (x4 x5 x6 x7 : Int32) (H : Heap) (locs : List Loc) (ls : Array Slot), q_it (D_X8_shortestBut) k9 0 σ [x4, x5, x6, x7] = some qq → va_P D vwCl (p_M cI a σ) H → va_S A s.heap H locs → lv_has ls 8 [(0, .ref (a 0)), (1, .int x4), (2, .int x5), (3, .int x6), (4, .int x7)] → W p l e ({ frames := 1, cells := 0, slots := 0, locals := 40 }) s m [.ref (a 0), .int x1, .int x2, .int x3].toArray below meth c H locs 0 0 (MQ below (va_Qi (fun r τ => (r, τ) = qq) (fun τ t => va_P D vwCl ((p_M cI a) τ) t.heap) A) [.ref (a 0), .int x1, .int x2, .int x3].toArray s 0 0 A) (F0 m 3 ls [])) ∧ (∀ (σ : qM) (x9 x10 x11 : Int32) (H : Heap) (locs : List Loc) (ls : Array Slot), q_it (D_X8_shortestBut) k9 1 σ [x9, x10, x11] = some qq → va_P D vwCl (p_M cI a σ) H → va_S A s.heap H locs → lv_has ls 8 [(0, .ref (a 0)), (2, .int x9), (3, .int x10), (4, .int x11)] → W p l e ({ frames := 1, cells := 0, slots := 0, locals := 40 }) s m [.ref (a 0), .int x1, .int x2, .int x3].toArray below meth c H locs 0 0 (MQ below (va_Qi (fun r τ => (r, τ) = qq) (fun τ t => va_P D vwCl ((p_M cI a) τ) t.heap) A) [.ref (a 0), .int x1, .int x2, .int x3].toArray s 0 0 A) (F0 m 39 ls [])) ∧ (∀ (σ : qM) (x21 x22 x23 x24 : Int32) (H : Heap) (locs : List Loc) (ls : Array Slot), q_it (D_X8_shortestBut) k9 2 σ [x21, x22, x23, x24] = some qq → va_P D vwCl (p_M cI a σ) H → va_S A s.heap H locs → lv_has ls 8 [(0, .ref (a 0)), (2, .int x21), (3, .int x22), (4, .int x23), (5, .int x24)] → W p l e ({ frames := 1, cells := 0, slots := 0, locals := 40 }) s m [.ref (a 0), .int x1, .int x2, .int x3].toArray below meth c H locs 0 0 (MQ below (va_Qi (fun r τ => (r, τ) = qq) (fun τ t => va_P D vwCl ((p_M cI a) τ) t.heap) A) [.ref (a 0), .int x1, .int x2, .int x3].toArray s 0 0 A) (F0 m 49 ls [])) := by
    intro k9
    induction k9 with
    | zero => exact ⟨(fun _ _ _ _ _ _ _ _ h _ _ _ => (q_no (show (none : qR) = some qq from h)).elim), (fun _ _ _ _ _ _ _ h _ _ _ => (q_no (show (none : qR) = some qq from h)).elim), (fun _ _ _ _ _ _ _ _ h _ _ _ => (q_no (show (none : qR) = some qq from h)).elim)⟩
    | succ k9 ih =>
      obtain ⟨i3, i39, i49⟩ := ih
      refine ⟨?_, ?_, ?_⟩
      · intro σ x4 x5 x6 x7 H locs ls h hP hS hl
        have h : b_X8_shortestBut_3 (q_it (D_X8_shortestBut) k9) σ x4 x5 x6 x7 = some qq := h
        unfold b_X8_shortestBut_3 at h
        refine lv_iload hx hb dX8_shortestBut_3 (lv_at hl 4 rfl) ?_
        refine lv_bipush (v := 10) hx hb dX8_shortestBut_5 (by decide +kernel) ?_
        refine lv_icmp_ge (tgt := 36) hx hb dX8_shortestBut_7 (by decide) (fun c8 => ?_) (fun c8 => ?_)
        · have h := if_t c8 h
          refine lv_iconst (v := 0) hx hb dX8_shortestBut_36 (by decide +kernel) ?_
          refine lv_istore (lv' := [(4, .int 0), (0, .ref (a 0)), (1, .int x4), (2, .int x5), (3, .int x6)]) hx hb dX8_shortestBut_37 hl (by decide) rfl (fun ls hl => ?_)
          exact i39 σ x5 x6 0 _ _ _ h hP hS (lv_sub hl [1, 3, 4, 0] rfl)
        · have h := if_f c8 h
          refine lv_aload_n hx hb dX8_shortestBut_10 rfl (lv_at hl 0 rfl) ?_
          refine x_getr (C := RX8) (k := 15) hx hb hts u_X8_shortestBut_8 hown hK hP (g_M_0 cI a σ) rfl (by decide) ⟨rfl, rfl, rfl⟩ k_X8_shortestBut_f46 rfl dX8_shortestBut_11 ?_
          refine lv_iload hx hb dX8_shortestBut_14 (lv_at hl 4 rfl) ?_
          refine lv_iload hx hb dX8_shortestBut_16 (lv_at hl 4 rfl) ?_
          refine lv_iload_n hx hb dX8_shortestBut_18 rfl (lv_at hl 1 rfl) ?_
          refine lv_icmp_ne (tgt := 26) hx hb dX8_shortestBut_19 (by decide) (fun c12 => ?_) (fun c12 => ?_)
          · have h := if_f c12 h
            refine lv_sipush (v := 1000) hx hb dX8_shortestBut_26 (by decide +kernel) ?_
            refine x_iast (p_M cI a) (t0 := 0) hx hb hK hP hD hS ht h (g_M_13 cI a σ) (fun j9 v9 => (s_M_13 cI a σ _)) dX8_shortestBut_29 (fun H locs s13 hP hS h => ?_)
            refine x_iinc (k := 4) (w := 1) hx hb dX8_shortestBut_30 hl rfl (by decide +kernel) (by decide) (fun v9 => [(4, .int v9), (0, .ref (a 0)), (1, .int x4), (2, .int x5), (3, .int x6)]) (fun v9 => rfl) h (fun x14 ls hl h => ?_)
            have hl : lv_has ls 8 [(4, .int x14), (0, .ref (a 0)), (1, .int x4), (2, .int x5), (3, .int x6)] := hl
            refine lv_goto (tgt := 3) hx hb dX8_shortestBut_33 (by decide) ?_
            exact i3 s13 x4 x5 x6 x14 _ _ _ h hP hS (lv_sub hl [1, 2, 3, 4, 0] rfl)
          · have h := if_t c12 h
            refine lv_iconst (v := 0) hx hb dX8_shortestBut_22 (by decide +kernel) ?_
            refine lv_goto (tgt := 29) hx hb dX8_shortestBut_23 (by decide) ?_
            refine x_iast (p_M cI a) (t0 := 0) hx hb hK hP hD hS ht h (g_M_13 cI a σ) (fun j9 v9 => (s_M_13 cI a σ _)) dX8_shortestBut_29 (fun H locs s15 hP hS h => ?_)
            refine x_iinc (k := 4) (w := 1) hx hb dX8_shortestBut_30 hl rfl (by decide +kernel) (by decide) (fun v9 => [(4, .int v9), (0, .ref (a 0)), (1, .int x4), (2, .int x5), (3, .int x6)]) (fun v9 => rfl) h (fun x16 ls hl h => ?_)
            have hl : lv_has ls 8 [(4, .int x16), (0, .ref (a 0)), (1, .int x4), (2, .int x5), (3, .int x6)] := hl
            refine lv_goto (tgt := 3) hx hb dX8_shortestBut_33 (by decide) ?_
            exact i3 s15 x4 x5 x6 x16 _ _ _ h hP hS (lv_sub hl [1, 2, 3, 4, 0] rfl)
      · intro σ x9 x10 x11 H locs ls h hP hS hl
        have h : b_X8_shortestBut_39 (q_it (D_X8_shortestBut) k9) σ x9 x10 x11 = some qq := h
        unfold b_X8_shortestBut_39 at h
        refine lv_iload hx hb dX8_shortestBut_39 (lv_at hl 3 rfl) ?_
        refine lv_bipush (v := 10) hx hb dX8_shortestBut_41 (by decide +kernel) ?_
        refine lv_icmp_ge (tgt := 188) hx hb dX8_shortestBut_43 (by decide) (fun c17 => ?_) (fun c17 => ?_)
        · have h := if_t c17 h
          refine lv_aload_n hx hb dX8_shortestBut_188 rfl (lv_at hl 0 rfl) ?_
          refine x_getr (C := RX8) (k := 15) hx hb hts u_X8_shortestBut_8 hown hK hP (g_M_0 cI a σ) rfl (by decide) ⟨rfl, rfl, rfl⟩ k_X8_shortestBut_f46 rfl dX8_shortestBut_189 ?_
          refine lv_iload_n hx hb dX8_shortestBut_192 rfl (lv_at hl 1 rfl) ?_
          refine x_iald (t0 := 0) hx hb hK hP ht h (g_M_13 cI a σ) dX8_shortestBut_193 (fun x18 h => ?_)
          refine lv_sipush (v := 1000) hx hb dX8_shortestBut_194 (by decide +kernel) ?_
          refine lv_icmp_lt (tgt := 205) hx hb dX8_shortestBut_197 (by decide) (fun c19 => ?_) (fun c19 => ?_)
          · have h := if_t c19 h
            refine lv_aload_n hx hb dX8_shortestBut_205 rfl (lv_at hl 0 rfl) ?_
            refine x_getr (C := RX8) (k := 15) hx hb hts u_X8_shortestBut_8 hown hK hP (g_M_0 cI a σ) rfl (by decide) ⟨rfl, rfl, rfl⟩ k_X8_shortestBut_f46 rfl dX8_shortestBut_206 ?_
            refine lv_iload_n hx hb dX8_shortestBut_209 rfl (lv_at hl 1 rfl) ?_
            refine x_iald (t0 := 0) hx hb hK hP ht h (g_M_13 cI a σ) dX8_shortestBut_210 (fun x20 h => ?_)
            exact x_iret (p_M cI a) hx hb hr hlocks hP hS dX8_shortestBut_211 h
          · have h := if_f c19 h
            refine lv_bipush (v := (-2)) hx hb dX8_shortestBut_200 (by decide +kernel) ?_
            refine lv_goto (tgt := 211) hx hb dX8_shortestBut_202 (by decide) ?_
            exact x_iret (p_M cI a) hx hb hr hlocks hP hS dX8_shortestBut_211 h
        · have h := if_f c17 h
          refine lv_iconst (v := 0) hx hb dX8_shortestBut_46 (by decide +kernel) ?_
          refine lv_istore (lv' := [(5, .int 0), (0, .ref (a 0)), (2, .int x9), (3, .int x10), (4, .int x11)]) hx hb dX8_shortestBut_47 hl (by decide) rfl (fun ls hl => ?_)
          exact i49 σ x9 x10 x11 0 _ _ _ h hP hS (lv_sub hl [1, 2, 3, 4, 0] rfl)
      · intro σ x21 x22 x23 x24 H locs ls h hP hS hl
        have h : b_X8_shortestBut_49 (q_it (D_X8_shortestBut) k9) σ x21 x22 x23 x24 = some qq := h
        unfold b_X8_shortestBut_49 at h
        refine lv_iload hx hb dX8_shortestBut_49 (lv_at hl 4 rfl) ?_
        refine lv_aload_n hx hb dX8_shortestBut_51 rfl (lv_at hl 0 rfl) ?_
        refine x_getr (C := RX8) (k := 1) hx hb hts u_X8_shortestBut_8 hown hK hP (g_M_0 cI a σ) rfl (by decide) ⟨rfl, rfl, rfl⟩ k_X8_shortestBut_f7 rfl dX8_shortestBut_52 ?_
        refine lv_iconst (v := 1) hx hb dX8_shortestBut_55 (by decide +kernel) ?_
        refine x_iald (t0 := 0) hx hb hK hP ht h (g_M_1 cI a σ) dX8_shortestBut_56 (fun x25 h => ?_)
        refine lv_icmp_ge (tgt := 182) hx hb dX8_shortestBut_57 (by decide) (fun c26 => ?_) (fun c26 => ?_)
        · have h := if_t c26 h
          refine x_iinc (k := 3) (w := 1) hx hb dX8_shortestBut_182 hl rfl (by decide +kernel) (by decide) (fun v9 => [(4, .int v9), (0, .ref (a 0)), (2, .int x21), (3, .int x22), (5, .int x24)]) (fun v9 => rfl) h (fun x27 ls hl h => ?_)
          have hl : lv_has ls 8 [(4, .int x27), (0, .ref (a 0)), (2, .int x21), (3, .int x22), (5, .int x24)] := hl
          refine lv_goto (tgt := 39) hx hb dX8_shortestBut_185 (by decide) ?_
          exact i39 σ x21 x22 x27 _ _ _ h hP hS (lv_sub hl [1, 2, 3, 0] rfl)
        · have h := if_f c26 h
          refine lv_aload_n hx hb dX8_shortestBut_60 rfl (lv_at hl 0 rfl) ?_
          refine x_getr (C := RX8) (k := 1) hx hb hts u_X8_shortestBut_8 hown hK hP (g_M_0 cI a σ) rfl (by decide) ⟨rfl, rfl, rfl⟩ k_X8_shortestBut_f7 rfl dX8_shortestBut_61 ?_
          refine lv_bipush (v := 100) hx hb dX8_shortestBut_64 (by decide +kernel) ?_
          refine lv_iload hx hb dX8_shortestBut_66 (lv_at hl 4 rfl) ?_
          refine x_iadd hx hb dX8_shortestBut_68 h (fun x28 h => ?_)
          refine x_iald (t0 := 0) hx hb hK hP ht h (g_M_1 cI a σ) dX8_shortestBut_69 (fun x29 h => ?_)
          refine lv_if_eq (tgt := 176) hx hb dX8_shortestBut_70 (by decide) (fun c30 => ?_) (fun c30 => ?_)
          · have h := if_t c30 h
            refine x_iinc (k := 4) (w := 1) hx hb dX8_shortestBut_176 hl rfl (by decide +kernel) (by decide) (fun v9 => [(5, .int v9), (0, .ref (a 0)), (2, .int x21), (3, .int x22), (4, .int x23)]) (fun v9 => rfl) h (fun x31 ls hl h => ?_)
            have hl : lv_has ls 8 [(5, .int x31), (0, .ref (a 0)), (2, .int x21), (3, .int x22), (4, .int x23)] := hl
            refine lv_goto (tgt := 49) hx hb dX8_shortestBut_179 (by decide) ?_
            exact i49 σ x21 x22 x23 x31 _ _ _ h hP hS (lv_sub hl [1, 2, 3, 4, 0] rfl)
          · have h := if_f c30 h
            refine lv_iload hx hb dX8_shortestBut_73 (lv_at hl 4 rfl) ?_
            refine lv_iload_n hx hb dX8_shortestBut_75 rfl (lv_at hl 2 rfl) ?_
            refine lv_icmp_ne (tgt := 82) hx hb dX8_shortestBut_76 (by decide) (fun c32 => ?_) (fun c32 => ?_)
            · have h := if_f c32 h
              refine lv_aload_n hx hb dX8_shortestBut_82 rfl (lv_at hl 0 rfl) ?_
              refine x_getr (C := RX8) (k := 1) hx hb hts u_X8_shortestBut_8 hown hK hP (g_M_0 cI a σ) rfl (by decide) ⟨rfl, rfl, rfl⟩ k_X8_shortestBut_f7 rfl dX8_shortestBut_83 ?_
              refine lv_bipush (v := 10) hx hb dX8_shortestBut_86 (by decide +kernel) ?_
              refine lv_iload hx hb dX8_shortestBut_88 (lv_at hl 4 rfl) ?_
              refine x_iadd hx hb dX8_shortestBut_90 h (fun x33 h => ?_)
              refine x_iald (t0 := 0) hx hb hK hP ht h (g_M_1 cI a σ) dX8_shortestBut_91 (fun x34 h => ?_)
              refine lv_istore (lv' := [(6, .int x34), (0, .ref (a 0)), (2, .int x21), (3, .int x22), (4, .int x23), (5, .int x24)]) hx hb dX8_shortestBut_92 hl (by decide) rfl (fun ls hl => ?_)
              refine lv_aload_n hx hb dX8_shortestBut_94 rfl (lv_at hl 1 rfl) ?_
              refine x_getr (C := RX8) (k := 1) hx hb hts u_X8_shortestBut_8 hown hK hP (g_M_0 cI a σ) rfl (by decide) ⟨rfl, rfl, rfl⟩ k_X8_shortestBut_f7 rfl dX8_shortestBut_95 ?_
              refine lv_bipush (v := 40) hx hb dX8_shortestBut_98 (by decide +kernel) ?_
              refine lv_iload hx hb dX8_shortestBut_100 (lv_at hl 5 rfl) ?_
              refine x_iadd hx hb dX8_shortestBut_102 h (fun x35 h => ?_)
              refine x_iald (t0 := 0) hx hb hK hP ht h (g_M_1 cI a σ) dX8_shortestBut_103 (fun x36 h => ?_)
              refine lv_istore (lv' := [(7, .int x36), (6, .int x34), (0, .ref (a 0)), (2, .int x21), (3, .int x22), (4, .int x23), (5, .int x24)]) hx hb dX8_shortestBut_104 hl (by decide) rfl (fun ls hl => ?_)
              refine lv_aload_n hx hb dX8_shortestBut_106 rfl (lv_at hl 2 rfl) ?_
              refine x_getr (C := RX8) (k := 15) hx hb hts u_X8_shortestBut_8 hown hK hP (g_M_0 cI a σ) rfl (by decide) ⟨rfl, rfl, rfl⟩ k_X8_shortestBut_f46 rfl dX8_shortestBut_107 ?_
              refine lv_iload hx hb dX8_shortestBut_110 (lv_at hl 1 rfl) ?_
              refine lv_aload_n hx hb dX8_shortestBut_112 rfl (lv_at hl 2 rfl) ?_
              refine x_getr (C := RX8) (k := 15) hx hb hts u_X8_shortestBut_8 hown hK hP (g_M_0 cI a σ) rfl (by decide) ⟨rfl, rfl, rfl⟩ k_X8_shortestBut_f46 rfl dX8_shortestBut_113 ?_
              refine lv_iload hx hb dX8_shortestBut_116 (lv_at hl 1 rfl) ?_
              refine x_iald (t0 := 0) hx hb hK hP ht h (g_M_13 cI a σ) dX8_shortestBut_118 (fun x37 h => ?_)
              refine lv_aload_n hx hb dX8_shortestBut_119 rfl (lv_at hl 2 rfl) ?_
              refine x_getr (C := RX8) (k := 15) hx hb hts u_X8_shortestBut_8 hown hK hP (g_M_0 cI a σ) rfl (by decide) ⟨rfl, rfl, rfl⟩ k_X8_shortestBut_f46 rfl dX8_shortestBut_120 ?_
              refine lv_iload hx hb dX8_shortestBut_123 (lv_at hl 0 rfl) ?_
              refine x_iald (t0 := 0) hx hb hK hP ht h (g_M_13 cI a σ) dX8_shortestBut_125 (fun x38 h => ?_)
              refine lv_aload_n hx hb dX8_shortestBut_126 rfl (lv_at hl 2 rfl) ?_
              refine x_getr (C := RX8) (k := 1) hx hb hts u_X8_shortestBut_8 hown hK hP (g_M_0 cI a σ) rfl (by decide) ⟨rfl, rfl, rfl⟩ k_X8_shortestBut_f7 rfl dX8_shortestBut_127 ?_
              refine lv_bipush (v := 70) hx hb dX8_shortestBut_130 (by decide +kernel) ?_
              refine lv_iload hx hb dX8_shortestBut_132 (lv_at hl 6 rfl) ?_
              refine x_iadd hx hb dX8_shortestBut_134 h (fun x39 h => ?_)
              refine x_iald (t0 := 0) hx hb hK hP ht h (g_M_1 cI a σ) dX8_shortestBut_135 (fun x40 h => ?_)
              refine x_iadd hx hb dX8_shortestBut_136 h (fun x41 h => ?_)
              refine x_mmin hx hb (hml.trans hl.1.symm) hown hts k_X8_shortestBut_m83 ⟨Nat.le_of_ble_eq_true rfl, Nat.le_of_ble_eq_true rfl, Nat.zero_le _, Nat.zero_le _⟩ dX8_shortestBut_137 h (fun x42 h => ?_)
              refine x_iast (p_M cI a) (t0 := 0) hx hb hK hP hD hS ht h (g_M_13 cI a σ) (fun j9 v9 => (s_M_13 cI a σ _)) dX8_shortestBut_140 (fun H locs s43 hP hS h => ?_)
              refine lv_aload_n hx hb dX8_shortestBut_141 rfl (lv_at hl 2 rfl) ?_
              refine x_getr (C := RX8) (k := 15) hx hb hts u_X8_shortestBut_8 hown hK hP (g_M_0 cI a s43) rfl (by decide) ⟨rfl, rfl, rfl⟩ k_X8_shortestBut_f46 rfl dX8_shortestBut_142 ?_
              refine lv_iload hx hb dX8_shortestBut_145 (lv_at hl 0 rfl) ?_
              refine lv_aload_n hx hb dX8_shortestBut_147 rfl (lv_at hl 2 rfl) ?_
              refine x_getr (C := RX8) (k := 15) hx hb hts u_X8_shortestBut_8 hown hK hP (g_M_0 cI a s43) rfl (by decide) ⟨rfl, rfl, rfl⟩ k_X8_shortestBut_f46 rfl dX8_shortestBut_148 ?_
              refine lv_iload hx hb dX8_shortestBut_151 (lv_at hl 0 rfl) ?_
              refine x_iald (t0 := 0) hx hb hK hP ht h (g_M_13 cI a s43) dX8_shortestBut_153 (fun x44 h => ?_)
              refine lv_aload_n hx hb dX8_shortestBut_154 rfl (lv_at hl 2 rfl) ?_
              refine x_getr (C := RX8) (k := 15) hx hb hts u_X8_shortestBut_8 hown hK hP (g_M_0 cI a s43) rfl (by decide) ⟨rfl, rfl, rfl⟩ k_X8_shortestBut_f46 rfl dX8_shortestBut_155 ?_
              refine lv_iload hx hb dX8_shortestBut_158 (lv_at hl 1 rfl) ?_
              refine x_iald (t0 := 0) hx hb hK hP ht h (g_M_13 cI a s43) dX8_shortestBut_160 (fun x45 h => ?_)
              refine lv_aload_n hx hb dX8_shortestBut_161 rfl (lv_at hl 2 rfl) ?_
              refine x_getr (C := RX8) (k := 1) hx hb hts u_X8_shortestBut_8 hown hK hP (g_M_0 cI a s43) rfl (by decide) ⟨rfl, rfl, rfl⟩ k_X8_shortestBut_f7 rfl dX8_shortestBut_162 ?_
              refine lv_bipush (v := 70) hx hb dX8_shortestBut_165 (by decide +kernel) ?_
              refine lv_iload hx hb dX8_shortestBut_167 (lv_at hl 6 rfl) ?_
              refine x_iadd hx hb dX8_shortestBut_169 h (fun x46 h => ?_)
              refine x_iald (t0 := 0) hx hb hK hP ht h (g_M_1 cI a s43) dX8_shortestBut_170 (fun x47 h => ?_)
              refine x_iadd hx hb dX8_shortestBut_171 h (fun x48 h => ?_)
              refine x_mmin hx hb (hml.trans hl.1.symm) hown hts k_X8_shortestBut_m83 ⟨Nat.le_of_ble_eq_true rfl, Nat.le_of_ble_eq_true rfl, Nat.zero_le _, Nat.zero_le _⟩ dX8_shortestBut_172 h (fun x49 h => ?_)
              refine x_iast (p_M cI a) (t0 := 0) hx hb hK hP hD hS ht h (g_M_13 cI a s43) (fun j9 v9 => (s_M_13 cI a s43 _)) dX8_shortestBut_175 (fun H locs s50 hP hS h => ?_)
              refine x_iinc (k := 6) (w := 1) hx hb dX8_shortestBut_176 hl rfl (by decide +kernel) (by decide) (fun v9 => [(5, .int v9), (7, .int x36), (6, .int x34), (0, .ref (a 0)), (2, .int x21), (3, .int x22), (4, .int x23)]) (fun v9 => rfl) h (fun x51 ls hl h => ?_)
              have hl : lv_has ls 8 [(5, .int x51), (7, .int x36), (6, .int x34), (0, .ref (a 0)), (2, .int x21), (3, .int x22), (4, .int x23)] := hl
              refine lv_goto (tgt := 49) hx hb dX8_shortestBut_179 (by decide) ?_
              exact i49 s50 x21 x22 x23 x51 _ _ _ h hP hS (lv_sub hl [3, 4, 5, 6, 0] rfl)
            · have h := if_t c32 h
              refine lv_goto (tgt := 176) hx hb dX8_shortestBut_79 (by decide) ?_
              refine x_iinc (k := 4) (w := 1) hx hb dX8_shortestBut_176 hl rfl (by decide +kernel) (by decide) (fun v9 => [(5, .int v9), (0, .ref (a 0)), (2, .int x21), (3, .int x22), (4, .int x23)]) (fun v9 => rfl) h (fun x52 ls hl h => ?_)
              have hl : lv_has ls 8 [(5, .int x52), (0, .ref (a 0)), (2, .int x21), (3, .int x22), (4, .int x23)] := hl
              refine lv_goto (tgt := 49) hx hb dX8_shortestBut_179 (by decide) ?_
              exact i49 σ x21 x22 x23 x52 _ _ _ h hP hS (lv_sub hl [1, 2, 3, 4, 0] rfl)
  have i3 : ∀ (σ : qM) (x4 x5 x6 x7 : Int32) (H : Heap) (locs : List Loc) (ls : Array Slot), q_lim (D_X8_shortestBut) 0 σ [x4, x5, x6, x7] = some qq → va_P D vwCl (p_M cI a σ) H → va_S A s.heap H locs → lv_has ls 8 [(0, .ref (a 0)), (1, .int x4), (2, .int x5), (3, .int x6), (4, .int x7)] → W p l e ({ frames := 1, cells := 0, slots := 0, locals := 40 }) s m [.ref (a 0), .int x1, .int x2, .int x3].toArray below meth c H locs 0 0 (MQ below (va_Qi (fun r τ => (r, τ) = qq) (fun τ t => va_P D vwCl ((p_M cI a) τ) t.heap) A) [.ref (a 0), .int x1, .int x2, .int x3].toArray s 0 0 A) (F0 m 3 ls []) := by
    intro σ x4 x5 x6 x7 H locs ls h hP hS hl
    obtain ⟨k9, h⟩ := q_lim_n h
    exact (main k9).1 σ x4 x5 x6 x7 H locs ls h hP hS hl
  have i39 : ∀ (σ : qM) (x9 x10 x11 : Int32) (H : Heap) (locs : List Loc) (ls : Array Slot), q_lim (D_X8_shortestBut) 1 σ [x9, x10, x11] = some qq → va_P D vwCl (p_M cI a σ) H → va_S A s.heap H locs → lv_has ls 8 [(0, .ref (a 0)), (2, .int x9), (3, .int x10), (4, .int x11)] → W p l e ({ frames := 1, cells := 0, slots := 0, locals := 40 }) s m [.ref (a 0), .int x1, .int x2, .int x3].toArray below meth c H locs 0 0 (MQ below (va_Qi (fun r τ => (r, τ) = qq) (fun τ t => va_P D vwCl ((p_M cI a) τ) t.heap) A) [.ref (a 0), .int x1, .int x2, .int x3].toArray s 0 0 A) (F0 m 39 ls []) := by
    intro σ x9 x10 x11 H locs ls h hP hS hl
    obtain ⟨k9, h⟩ := q_lim_n h
    exact (main k9).2.1 σ x9 x10 x11 H locs ls h hP hS hl
  have i49 : ∀ (σ : qM) (x21 x22 x23 x24 : Int32) (H : Heap) (locs : List Loc) (ls : Array Slot), q_lim (D_X8_shortestBut) 2 σ [x21, x22, x23, x24] = some qq → va_P D vwCl (p_M cI a σ) H → va_S A s.heap H locs → lv_has ls 8 [(0, .ref (a 0)), (2, .int x21), (3, .int x22), (4, .int x23), (5, .int x24)] → W p l e ({ frames := 1, cells := 0, slots := 0, locals := 40 }) s m [.ref (a 0), .int x1, .int x2, .int x3].toArray below meth c H locs 0 0 (MQ below (va_Qi (fun r τ => (r, τ) = qq) (fun τ t => va_P D vwCl ((p_M cI a) τ) t.heap) A) [.ref (a 0), .int x1, .int x2, .int x3].toArray s 0 0 A) (F0 m 49 ls []) := by
    intro σ x21 x22 x23 x24 H locs ls h hP hS hl
    obtain ⟨k9, h⟩ := q_lim_n h
    exact (main k9).2.2 σ x21 x22 x23 x24 H locs ls h hP hS hl
  have h : e_X8_shortestBut (q_lim (D_X8_shortestBut)) σ x1 x2 x3 = some qq := h
  unfold e_X8_shortestBut at h
  refine lv_iconst (v := 0) hx hb dX8_shortestBut_0 (by decide +kernel) ?_
  refine lv_istore (lv' := [(4, .int 0), (0, .ref (a 0)), (1, .int x1), (2, .int x2), (3, .int x3)]) hx hb dX8_shortestBut_1 hl (by decide) rfl (fun ls hl => ?_)
  exact i3 σ x1 x2 x3 0 _ _ _ h hP hS (lv_sub hl [1, 2, 3, 4, 0] rfl)
/-! ===== VectorRoundsModel.shortest(II)I: world M ===== -/
theorem i_X8_shortest : yX8_shortest.cls = RX8 ∧ yX8_shortest.cls ≠ "java/lang/invoke/MethodHandle" ∧ yX8_shortest.cls ≠ "java/lang/invoke/VarHandle" ∧ (parseMethodDescriptor yX8_shortest.desc).map (fun d => d.parameters.length) = some 2 := by decide +kernel
set_option maxHeartbeats 4000000 in
set_option maxRecDepth 100000 in
theorem c_X8_shortest (l : Launch) (D : va_G) (cI : ClassId) (tys : List (ClassId × FieldType)) (ht : tys[0]? = some (cI, .int)) (a : Nat → Nat) (σ : qM) (x1 : Int32) (x2 : Int32) : q_Met l yX8_shortest wsX8_shortest ({ frames := 2, cells := 0, slots := 0, locals := 67 }) [.ref (a 0), .int x1, .int x2] D tys (p_M cI a) σ (f_X8_shortest σ x1 x2) := by
  refine x_ofWi (cc := cX8_shortest) (maxL := 3) (ret := (some .int)) (by decide +kernel) rfl (pf_M cI a) (Nat.le_of_ble_eq_true rfl) ?_
  intro p e s m below meth c A ls qq h hx hb hml hr hlocks hown hts hK hP hD hA hS hl
  have hown : s.vm.findClass RX8 = some m.cls := hown
  have hl : lv_has ls 3 [(0, .ref (a 0)), (1, .int x1), (2, .int x2)] := hl
  unfold f_X8_shortest at h
  refine lv_aload_n hx hb dX8_shortest_0 rfl (lv_at hl 0 rfl) ?_
  refine lv_iload_n hx hb dX8_shortest_1 rfl (lv_at hl 1 rfl) ?_
  refine x_cVi (p_M cI a) (p_M cI a) (fun τ => τ) [] [.int x1] hx hb hml hl.1 hown hts hK hP hD hS hA rfl (c_X8_isRouter l D cI tys ht a σ x1) gX8_shortest_X8_isRouter rfl ⟨rfl, rfl⟩ i_X8_isRouter ⟨Nat.le_of_ble_eq_true rfl, Nat.le_of_ble_eq_true rfl⟩ q_frI (g_M_0 cI a σ) rfl rfl (Nat.le_of_ble_eq_true rfl) ⟨Nat.zero_le _, Nat.zero_le _⟩ dX8_shortest_2 h (fun x4 H locs s3 hP hS h => ?_)
  refine lv_if_eq (tgt := 26) hx hb dX8_shortest_5 (by decide) (fun c5 => ?_) (fun c5 => ?_)
  · have h := if_t c5 h
    refine lv_iconst (v := (-1)) hx hb dX8_shortest_26 (by decide +kernel) ?_
    exact x_iret (p_M cI a) hx hb hr hlocks hP hS dX8_shortest_27 h
  · have h := if_f c5 h
    refine lv_aload_n hx hb dX8_shortest_8 rfl (lv_at hl 0 rfl) ?_
    refine lv_iload_n hx hb dX8_shortest_9 rfl (lv_at hl 2 rfl) ?_
    refine x_cVi (p_M cI a) (p_M cI a) (fun τ => τ) [] [.int x2] hx hb hml hl.1 hown hts hK hP hD hS hA rfl (c_X8_isRouter l D cI tys ht a s3 x2) gX8_shortest_X8_isRouter rfl ⟨rfl, rfl⟩ i_X8_isRouter ⟨Nat.le_of_ble_eq_true rfl, Nat.le_of_ble_eq_true rfl⟩ q_frI (g_M_0 cI a s3) rfl rfl (Nat.le_of_ble_eq_true rfl) ⟨Nat.zero_le _, Nat.zero_le _⟩ dX8_shortest_10 h (fun x7 H locs s6 hP hS h => ?_)
    refine lv_if_eq (tgt := 26) hx hb dX8_shortest_13 (by decide) (fun c8 => ?_) (fun c8 => ?_)
    · have h := if_t c8 h
      refine lv_iconst (v := (-1)) hx hb dX8_shortest_26 (by decide +kernel) ?_
      exact x_iret (p_M cI a) hx hb hr hlocks hP hS dX8_shortest_27 h
    · have h := if_f c8 h
      refine lv_aload_n hx hb dX8_shortest_16 rfl (lv_at hl 0 rfl) ?_
      refine lv_iload_n hx hb dX8_shortest_17 rfl (lv_at hl 1 rfl) ?_
      refine lv_iload_n hx hb dX8_shortest_18 rfl (lv_at hl 2 rfl) ?_
      refine lv_iconst (v := (-1)) hx hb dX8_shortest_19 (by decide +kernel) ?_
      refine x_cVi (p_M cI a) (p_M cI a) (fun τ => τ) [] [.int x1, .int x2, .int (-1)] hx hb hml hl.1 hown hts hK hP hD hS hA rfl (c_X8_shortestBut l D cI tys ht a s6 x1 x2 (-1)) gX8_shortest_X8_shortestBut rfl ⟨rfl, rfl⟩ i_X8_shortestBut ⟨Nat.le_of_ble_eq_true rfl, Nat.le_of_ble_eq_true rfl⟩ q_frI (g_M_0 cI a s6) rfl rfl (Nat.le_of_ble_eq_true rfl) ⟨Nat.zero_le _, Nat.zero_le _⟩ dX8_shortest_20 h (fun x10 H locs s9 hP hS h => ?_)
      refine lv_goto (tgt := 27) hx hb dX8_shortest_23 (by decide) ?_
      exact x_iret (p_M cI a) hx hb hr hlocks hP hS dX8_shortest_27 h
/-! ===== VectorRoundsModel.right()I: world M ===== -/
theorem i_X8_right : yX8_right.cls = RX8 ∧ yX8_right.cls ≠ "java/lang/invoke/MethodHandle" ∧ yX8_right.cls ≠ "java/lang/invoke/VarHandle" ∧ (parseMethodDescriptor yX8_right.desc).map (fun d => d.parameters.length) = some 0 := by decide +kernel
theorem k_X8_right_f7 : Cond.fieldLink RX8 7 RX8 "s" "[I" ∈ wsX8_right := by decide +kernel
theorem k_X8_right_m83 : Cond.methodLink RX8 83 Lib.Math.min.name ∈ wsX8_right ∧ Cond.static Lib.Math.min.name ∈ wsX8_right ∧ Cond.initialized "java/lang/Math" ∈ wsX8_right ∧ Cond.code Lib.Math.min.name Lib.Math.min.code 2 (some .int) ∈ wsX8_right := by decide +kernel
theorem u_X8_right_8 : ∀ w ∈ u_ws RX8 TX8 26, w ∈ wsX8_right := by decide +kernel
set_option maxHeartbeats 4000000 in
set_option maxRecDepth 100000 in
theorem c_X8_right (l : Launch) (D : va_G) (cI : ClassId) (tys : List (ClassId × FieldType)) (ht : tys[0]? = some (cI, .int)) (a : Nat → Nat) (σ : qM) : q_Met l yX8_right wsX8_right ({ frames := 2, cells := 0, slots := 0, locals := 67 }) [.ref (a 0)] D tys (p_M cI a) σ (f_X8_right σ) := by
  refine x_ofWi (cc := cX8_right) (maxL := 6) (ret := (some .int)) (by decide +kernel) rfl (pf_M cI a) (Nat.le_of_ble_eq_true rfl) ?_
  intro p e s m below meth c A ls qq h hx hb hml hr hlocks hown hts hK hP hD hA hS hl
  have hown : s.vm.findClass RX8 = some m.cls := hown
  have hl : lv_has ls 6 [(0, .ref (a 0))] := hl
  have main : ∀ k9 : Nat, (∀ (σ : qM) (x1 x2 : Int32) (H : Heap) (locs : List Loc) (ls : Array Slot), q_it (D_X8_right) k9 0 σ [x1, x2] = some qq → va_P D vwCl (p_M cI a σ) H → va_S A s.heap H locs → lv_has ls 6 [(0, .ref (a 0)), (1, .int x1), (2, .int x2)] → W p l e ({ frames := 2, cells := 0, slots := 0, locals := 67 }) s m [.ref (a 0)].toArray below meth c H locs 0 0 (MQ below (va_Qi (fun r τ => (r, τ) = qq) (fun τ t => va_P D vwCl ((p_M cI a) τ) t.heap) A) [.ref (a 0)].toArray s 0 0 A) (F0 m 4 ls [])) ∧ (∀ (σ : qM) (x5 x6 x7 : Int32) (H : Heap) (locs : List Loc) (ls : Array Slot), q_it (D_X8_right) k9 1 σ [x5, x6, x7] = some qq → va_P D vwCl (p_M cI a σ) H → va_S A s.heap H locs → lv_has ls 6 [(0, .ref (a 0)), (1, .int x5), (2, .int x6), (3, .int x7)] → W p l e ({ frames := 2, cells := 0, slots := 0, locals := 67 }) s m [.ref (a 0)].toArray below meth c H locs 0 0 (MQ below (va_Qi (fun r τ => (r, τ) = qq) (fun τ t => va_P D vwCl ((p_M cI a) τ) t.heap) A) [.ref (a 0)].toArray s 0 0 A) (F0 m 16 ls [])) ∧ (∀ (σ : qM) (x18 x19 x20 x21 x22 : Int32) (H : Heap) (locs : List Loc) (ls : Array Slot), q_it (D_X8_right) k9 2 σ [x18, x19, x20, x21, x22] = some qq → va_P D vwCl (p_M cI a σ) H → va_S A s.heap H locs → lv_has ls 6 [(0, .ref (a 0)), (1, .int x18), (2, .int x19), (3, .int x20), (4, .int x21)] → W p l e ({ frames := 2, cells := 0, slots := 0, locals := 67 }) s m [.ref (a 0)].toArray below meth c H locs 0 0 (MQ below (va_Qi (fun r τ => (r, τ) = qq) (fun τ t => va_P D vwCl ((p_M cI a) τ) t.heap) A) [.ref (a 0)].toArray s 0 0 A) (F0 m 64 ls [.int x22])) ∧ (∀ (σ : qM) (x25 x26 x27 x28 x29 : Int32) (H : Heap) (locs : List Loc) (ls : Array Slot), q_it (D_X8_right) k9 3 σ [x25, x26, x27, x28, x29] = some qq → va_P D vwCl (p_M cI a σ) H → va_S A s.heap H locs → lv_has ls 6 [(0, .ref (a 0)), (1, .int x25), (2, .int x26), (3, .int x27)] → W p l e ({ frames := 2, cells := 0, slots := 0, locals := 67 }) s m [.ref (a 0)].toArray below meth c H locs 0 0 (MQ below (va_Qi (fun r τ => (r, τ) = qq) (fun τ t => va_P D vwCl ((p_M cI a) τ) t.heap) A) [.ref (a 0)].toArray s 0 0 A) (F0 m 83 ls [.int x29, .int x28])) := by
    intro k9
    induction k9 with
    | zero => exact ⟨(fun _ _ _ _ _ _ h _ _ _ => (q_no (show (none : qR) = some qq from h)).elim), (fun _ _ _ _ _ _ _ h _ _ _ => (q_no (show (none : qR) = some qq from h)).elim), (fun _ _ _ _ _ _ _ _ _ h _ _ _ => (q_no (show (none : qR) = some qq from h)).elim), (fun _ _ _ _ _ _ _ _ _ h _ _ _ => (q_no (show (none : qR) = some qq from h)).elim)⟩
    | succ k9 ih =>
      obtain ⟨i4, i16, i64, i83⟩ := ih
      refine ⟨?_, ?_, ?_, ?_⟩
      · intro σ x1 x2 H locs ls h hP hS hl
        have h : b_X8_right_4 (q_it (D_X8_right) k9) σ x1 x2 = some qq := h
        unfold b_X8_right_4 at h
        refine lv_iload_n hx hb dX8_right_4 rfl (lv_at hl 2 rfl) ?_
        refine lv_aload_n hx hb dX8_right_5 rfl (lv_at hl 0 rfl) ?_
        refine x_getr (C := RX8) (k := 1) hx hb hts u_X8_right_8 hown hK hP (g_M_0 cI a σ) rfl (by decide) ⟨rfl, rfl, rfl⟩ k_X8_right_f7 rfl dX8_right_6 ?_
        refine lv_iconst (v := 0) hx hb dX8_right_9 (by decide +kernel) ?_
        refine x_iald (t0 := 0) hx hb hK hP ht h (g_M_1 cI a σ) dX8_right_10 (fun x3 h => ?_)
        refine lv_icmp_ge (tgt := 101) hx hb dX8_right_11 (by decide) (fun c4 => ?_) (fun c4 => ?_)
        · have h := if_t c4 h
          refine lv_iload_n hx hb dX8_right_101 rfl (lv_at hl 1 rfl) ?_
          exact x_iret (p_M cI a) hx hb hr hlocks hP hS dX8_right_102 h
        · have h := if_f c4 h
          refine lv_iconst (v := 0) hx hb dX8_right_14 (by decide +kernel) ?_
          refine lv_istore_n (lv' := [(3, .int 0), (0, .ref (a 0)), (1, .int x1), (2, .int x2)]) hx hb dX8_right_15 rfl hl (by decide) rfl (fun ls hl => ?_)
          exact i16 σ x1 x2 0 _ _ _ h hP hS (lv_sub hl [1, 2, 3, 0] rfl)
      · intro σ x5 x6 x7 H locs ls h hP hS hl
        have h : b_X8_right_16 (q_it (D_X8_right) k9) σ x5 x6 x7 = some qq := h
        unfold b_X8_right_16 at h
        refine lv_iload_n hx hb dX8_right_16 rfl (lv_at hl 3 rfl) ?_
        refine lv_aload_n hx hb dX8_right_17 rfl (lv_at hl 0 rfl) ?_
        refine x_getr (C := RX8) (k := 1) hx hb hts u_X8_right_8 hown hK hP (g_M_0 cI a σ) rfl (by decide) ⟨rfl, rfl, rfl⟩ k_X8_right_f7 rfl dX8_right_18 ?_
        refine lv_iconst (v := 0) hx hb dX8_right_21 (by decide +kernel) ?_
        refine x_iald (t0 := 0) hx hb hK hP ht h (g_M_1 cI a σ) dX8_right_22 (fun x8 h => ?_)
        refine lv_icmp_ge (tgt := 95) hx hb dX8_right_23 (by decide) (fun c9 => ?_) (fun c9 => ?_)
        · have h := if_t c9 h
          refine x_iinc (k := 2) (w := 1) hx hb dX8_right_95 hl rfl (by decide +kernel) (by decide) (fun v9 => [(2, .int v9), (0, .ref (a 0)), (1, .int x5), (3, .int x7)]) (fun v9 => rfl) h (fun x10 ls hl h => ?_)
          have hl : lv_has ls 6 [(2, .int x10), (0, .ref (a 0)), (1, .int x5), (3, .int x7)] := hl
          refine lv_goto (tgt := 4) hx hb dX8_right_98 (by decide) ?_
          exact i4 σ x5 x10 _ _ _ h hP hS (lv_sub hl [1, 2, 0] rfl)
        · have h := if_f c9 h
          refine lv_aload_n hx hb dX8_right_26 rfl (lv_at hl 0 rfl) ?_
          refine lv_iload_n hx hb dX8_right_27 rfl (lv_at hl 2 rfl) ?_
          refine lv_iload_n hx hb dX8_right_28 rfl (lv_at hl 3 rfl) ?_
          refine lv_iconst (v := (-1)) hx hb dX8_right_29 (by decide +kernel) ?_
          refine x_cVi (p_M cI a) (p_M cI a) (fun τ => τ) [] [.int x6, .int x7, .int (-1)] hx hb hml hl.1 hown hts hK hP hD hS hA rfl (c_X8_shortestBut l D cI tys ht a σ x6 x7 (-1)) gX8_right_X8_shortestBut rfl ⟨rfl, rfl⟩ i_X8_shortestBut ⟨Nat.le_of_ble_eq_true rfl, Nat.le_of_ble_eq_true rfl⟩ q_frI (g_M_0 cI a σ) rfl rfl (Nat.le_of_ble_eq_true rfl) ⟨Nat.zero_le _, Nat.zero_le _⟩ dX8_right_30 h (fun x12 H locs s11 hP hS h => ?_)
          refine lv_istore (lv' := [(4, .int x12), (0, .ref (a 0)), (1, .int x5), (2, .int x6), (3, .int x7)]) hx hb dX8_right_33 hl (by decide) rfl (fun ls hl => ?_)
          refine lv_aload_n hx hb dX8_right_35 rfl (lv_at hl 1 rfl) ?_
          refine lv_iload_n hx hb dX8_right_36 rfl (lv_at hl 3 rfl) ?_
          refine lv_iload_n hx hb dX8_right_37 rfl (lv_at hl 4 rfl) ?_
          refine x_cVi (p_M cI a) (p_M cI a) (fun τ => τ) [] [.int x6, .int x7] hx hb hml hl.1 hown hts hK hP hD hS hA rfl (c_X8_entryOf l D cI tys ht a s11 x6 x7) gX8_right_X8_entryOf rfl ⟨rfl, rfl⟩ i_X8_entryOf ⟨Nat.le_of_ble_eq_true rfl, Nat.le_of_ble_eq_true rfl⟩ q_frI (g_M_0 cI a s11) rfl rfl (Nat.le_of_ble_eq_true rfl) ⟨Nat.zero_le _, Nat.zero_le _⟩ dX8_right_38 h (fun x14 H locs s13 hP hS h => ?_)
          refine lv_istore (lv' := [(5, .int x14), (4, .int x12), (0, .ref (a 0)), (1, .int x5), (2, .int x6), (3, .int x7)]) hx hb dX8_right_41 hl (by decide) rfl (fun ls hl => ?_)
          refine lv_iload hx hb dX8_right_43 (lv_at hl 0 rfl) ?_
          refine lv_if_ge (tgt := 53) hx hb dX8_right_45 (by decide) (fun c15 => ?_) (fun c15 => ?_)
          · have h := if_t c15 h
            refine lv_aload_n hx hb dX8_right_53 rfl (lv_at hl 2 rfl) ?_
            refine x_getr (C := RX8) (k := 1) hx hb hts u_X8_right_8 hown hK hP (g_M_0 cI a s13) rfl (by decide) ⟨rfl, rfl, rfl⟩ k_X8_right_f7 rfl dX8_right_54 ?_
            refine lv_sipush (v := 250) hx hb dX8_right_57 (by decide +kernel) ?_
            refine lv_iload hx hb dX8_right_60 (lv_at hl 0 rfl) ?_
            refine x_iadd hx hb dX8_right_62 h (fun x16 h => ?_)
            refine x_iald (t0 := 0) hx hb hK hP ht h (g_M_1 cI a s13) dX8_right_63 (fun x17 h => ?_)
            exact i64 s13 x5 x6 x7 x12 x17 _ _ _ h hP hS (lv_sub hl [2, 3, 4, 5, 1] rfl)
          · have h := if_f c15 h
            refine lv_bipush (v := 16) hx hb dX8_right_48 (by decide +kernel) ?_
            refine lv_goto (tgt := 64) hx hb dX8_right_50 (by decide) ?_
            exact i64 s13 x5 x6 x7 x12 16 _ _ _ h hP hS (lv_sub hl [2, 3, 4, 5, 1] rfl)
      · intro σ x18 x19 x20 x21 x22 H locs ls h hP hS hl
        have h : b_X8_right_64 (q_it (D_X8_right) k9) σ x18 x19 x20 x21 x22 = some qq := h
        unfold b_X8_right_64 at h
        refine lv_iload hx hb dX8_right_64 (lv_at hl 4 rfl) ?_
        refine lv_bipush (v := (-2)) hx hb dX8_right_66 (by decide +kernel) ?_
        refine lv_icmp_ne (tgt := 76) hx hb dX8_right_68 (by decide) (fun c23 => ?_) (fun c23 => ?_)
        · have h := if_f c23 h
          refine lv_bipush (v := 16) hx hb dX8_right_76 (by decide +kernel) ?_
          refine lv_iload hx hb dX8_right_78 (lv_at hl 4 rfl) ?_
          refine x_mmin hx hb (hml.trans hl.1.symm) hown hts k_X8_right_m83 ⟨Nat.le_of_ble_eq_true rfl, Nat.le_of_ble_eq_true rfl, Nat.zero_le _, Nat.zero_le _⟩ dX8_right_80 h (fun x24 h => ?_)
          exact i83 σ x18 x19 x20 x22 x24 _ _ _ h hP hS (lv_sub hl [0, 1, 2, 3] rfl)
        · have h := if_t c23 h
          refine lv_bipush (v := 16) hx hb dX8_right_71 (by decide +kernel) ?_
          refine lv_goto (tgt := 83) hx hb dX8_right_73 (by decide) ?_
          exact i83 σ x18 x19 x20 x22 16 _ _ _ h hP hS (lv_sub hl [0, 1, 2, 3] rfl)
      · intro σ x25 x26 x27 x28 x29 H locs ls h hP hS hl
        have h : b_X8_right_83 (q_it (D_X8_right) k9) σ x25 x26 x27 x28 x29 = some qq := h
        unfold b_X8_right_83 at h
        refine lv_icmp_ne (tgt := 89) hx hb dX8_right_83 (by decide) (fun c30 => ?_) (fun c30 => ?_)
        · have h := if_f c30 h
          refine x_iinc (k := 3) (w := 1) hx hb dX8_right_89 hl rfl (by decide +kernel) (by decide) (fun v9 => [(3, .int v9), (0, .ref (a 0)), (1, .int x25), (2, .int x26)]) (fun v9 => rfl) h (fun x31 ls hl h => ?_)
          have hl : lv_has ls 6 [(3, .int x31), (0, .ref (a 0)), (1, .int x25), (2, .int x26)] := hl
          refine lv_goto (tgt := 16) hx hb dX8_right_92 (by decide) ?_
          exact i16 σ x25 x26 x31 _ _ _ h hP hS (lv_sub hl [1, 2, 3, 0] rfl)
        · have h := if_t c30 h
          refine x_iinc (k := 1) (w := 1) hx hb dX8_right_86 hl rfl (by decide +kernel) (by decide) (fun v9 => [(1, .int v9), (0, .ref (a 0)), (2, .int x26), (3, .int x27)]) (fun v9 => rfl) h (fun x32 ls hl h => ?_)
          have hl : lv_has ls 6 [(1, .int x32), (0, .ref (a 0)), (2, .int x26), (3, .int x27)] := hl
          refine x_iinc (k := 3) (w := 1) hx hb dX8_right_89 hl rfl (by decide +kernel) (by decide) (fun v9 => [(3, .int v9), (1, .int x32), (0, .ref (a 0)), (2, .int x26)]) (fun v9 => rfl) h (fun x33 ls hl h => ?_)
          have hl : lv_has ls 6 [(3, .int x33), (1, .int x32), (0, .ref (a 0)), (2, .int x26)] := hl
          refine lv_goto (tgt := 16) hx hb dX8_right_92 (by decide) ?_
          exact i16 σ x32 x26 x33 _ _ _ h hP hS (lv_sub hl [2, 1, 3, 0] rfl)
  have i4 : ∀ (σ : qM) (x1 x2 : Int32) (H : Heap) (locs : List Loc) (ls : Array Slot), q_lim (D_X8_right) 0 σ [x1, x2] = some qq → va_P D vwCl (p_M cI a σ) H → va_S A s.heap H locs → lv_has ls 6 [(0, .ref (a 0)), (1, .int x1), (2, .int x2)] → W p l e ({ frames := 2, cells := 0, slots := 0, locals := 67 }) s m [.ref (a 0)].toArray below meth c H locs 0 0 (MQ below (va_Qi (fun r τ => (r, τ) = qq) (fun τ t => va_P D vwCl ((p_M cI a) τ) t.heap) A) [.ref (a 0)].toArray s 0 0 A) (F0 m 4 ls []) := by
    intro σ x1 x2 H locs ls h hP hS hl
    obtain ⟨k9, h⟩ := q_lim_n h
    exact (main k9).1 σ x1 x2 H locs ls h hP hS hl
  have i16 : ∀ (σ : qM) (x5 x6 x7 : Int32) (H : Heap) (locs : List Loc) (ls : Array Slot), q_lim (D_X8_right) 1 σ [x5, x6, x7] = some qq → va_P D vwCl (p_M cI a σ) H → va_S A s.heap H locs → lv_has ls 6 [(0, .ref (a 0)), (1, .int x5), (2, .int x6), (3, .int x7)] → W p l e ({ frames := 2, cells := 0, slots := 0, locals := 67 }) s m [.ref (a 0)].toArray below meth c H locs 0 0 (MQ below (va_Qi (fun r τ => (r, τ) = qq) (fun τ t => va_P D vwCl ((p_M cI a) τ) t.heap) A) [.ref (a 0)].toArray s 0 0 A) (F0 m 16 ls []) := by
    intro σ x5 x6 x7 H locs ls h hP hS hl
    obtain ⟨k9, h⟩ := q_lim_n h
    exact (main k9).2.1 σ x5 x6 x7 H locs ls h hP hS hl
  have i64 : ∀ (σ : qM) (x18 x19 x20 x21 x22 : Int32) (H : Heap) (locs : List Loc) (ls : Array Slot), q_lim (D_X8_right) 2 σ [x18, x19, x20, x21, x22] = some qq → va_P D vwCl (p_M cI a σ) H → va_S A s.heap H locs → lv_has ls 6 [(0, .ref (a 0)), (1, .int x18), (2, .int x19), (3, .int x20), (4, .int x21)] → W p l e ({ frames := 2, cells := 0, slots := 0, locals := 67 }) s m [.ref (a 0)].toArray below meth c H locs 0 0 (MQ below (va_Qi (fun r τ => (r, τ) = qq) (fun τ t => va_P D vwCl ((p_M cI a) τ) t.heap) A) [.ref (a 0)].toArray s 0 0 A) (F0 m 64 ls [.int x22]) := by
    intro σ x18 x19 x20 x21 x22 H locs ls h hP hS hl
    obtain ⟨k9, h⟩ := q_lim_n h
    exact (main k9).2.2.1 σ x18 x19 x20 x21 x22 H locs ls h hP hS hl
  have i83 : ∀ (σ : qM) (x25 x26 x27 x28 x29 : Int32) (H : Heap) (locs : List Loc) (ls : Array Slot), q_lim (D_X8_right) 3 σ [x25, x26, x27, x28, x29] = some qq → va_P D vwCl (p_M cI a σ) H → va_S A s.heap H locs → lv_has ls 6 [(0, .ref (a 0)), (1, .int x25), (2, .int x26), (3, .int x27)] → W p l e ({ frames := 2, cells := 0, slots := 0, locals := 67 }) s m [.ref (a 0)].toArray below meth c H locs 0 0 (MQ below (va_Qi (fun r τ => (r, τ) = qq) (fun τ t => va_P D vwCl ((p_M cI a) τ) t.heap) A) [.ref (a 0)].toArray s 0 0 A) (F0 m 83 ls [.int x29, .int x28]) := by
    intro σ x25 x26 x27 x28 x29 H locs ls h hP hS hl
    obtain ⟨k9, h⟩ := q_lim_n h
    exact (main k9).2.2.2 σ x25 x26 x27 x28 x29 H locs ls h hP hS hl
  have h : e_X8_right (q_lim (D_X8_right)) σ = some qq := h
  unfold e_X8_right at h
  refine lv_iconst (v := 0) hx hb dX8_right_0 (by decide +kernel) ?_
  refine lv_istore_n (lv' := [(1, .int 0), (0, .ref (a 0))]) hx hb dX8_right_1 rfl hl (by decide) rfl (fun ls hl => ?_)
  refine lv_iconst (v := 0) hx hb dX8_right_2 (by decide +kernel) ?_
  refine lv_istore_n (lv' := [(2, .int 0), (1, .int 0), (0, .ref (a 0))]) hx hb dX8_right_3 rfl hl (by decide) rfl (fun ls hl => ?_)
  exact i4 σ 0 0 _ _ _ h hP hS (lv_sub hl [2, 1, 0] rfl)
/-! ===== VectorRoundsModel.needed()I: world M ===== -/
theorem i_X8_needed : yX8_needed.cls = RX8 ∧ yX8_needed.cls ≠ "java/lang/invoke/MethodHandle" ∧ yX8_needed.cls ≠ "java/lang/invoke/VarHandle" ∧ (parseMethodDescriptor yX8_needed.desc).map (fun d => d.parameters.length) = some 0 := by decide +kernel
theorem k_X8_needed_f7 : Cond.fieldLink RX8 7 RX8 "s" "[I" ∈ wsX8_needed := by decide +kernel
theorem u_X8_needed_8 : ∀ w ∈ u_ws RX8 TX8 26, w ∈ wsX8_needed := by decide +kernel
set_option maxHeartbeats 4000000 in
set_option maxRecDepth 100000 in
theorem c_X8_needed (l : Launch) (D : va_G) (cI : ClassId) (tys : List (ClassId × FieldType)) (ht : tys[0]? = some (cI, .int)) (a : Nat → Nat) (σ : qM) : q_Met l yX8_needed wsX8_needed ({ frames := 2, cells := 0, slots := 0, locals := 67 }) [.ref (a 0)] D tys (p_M cI a) σ (f_X8_needed σ) := by
  refine x_ofWi (cc := cX8_needed) (maxL := 3) (ret := (some .int)) (by decide +kernel) rfl (pf_M cI a) (Nat.le_of_ble_eq_true rfl) ?_
  intro p e s m below meth c A ls qq h hx hb hml hr hlocks hown hts hK hP hD hA hS hl
  have hown : s.vm.findClass RX8 = some m.cls := hown
  have hl : lv_has ls 3 [(0, .ref (a 0))] := hl
  have main : ∀ k9 : Nat, (∀ (σ : qM) (x1 x2 : Int32) (H : Heap) (locs : List Loc) (ls : Array Slot), q_it (D_X8_needed) k9 0 σ [x1, x2] = some qq → va_P D vwCl (p_M cI a σ) H → va_S A s.heap H locs → lv_has ls 3 [(0, .ref (a 0)), (1, .int x1), (2, .int x2)] → W p l e ({ frames := 2, cells := 0, slots := 0, locals := 67 }) s m [.ref (a 0)].toArray below meth c H locs 0 0 (MQ below (va_Qi (fun r τ => (r, τ) = qq) (fun τ t => va_P D vwCl ((p_M cI a) τ) t.heap) A) [.ref (a 0)].toArray s 0 0 A) (F0 m 4 ls [])) := by
    intro k9
    induction k9 with
    | zero => exact (fun _ _ _ _ _ _ h _ _ _ => (q_no (show (none : qR) = some qq from h)).elim)
    | succ k9 ih =>
      have i4 := ih
      refine ?_
      · intro σ x1 x2 H locs ls h hP hS hl
        have h : b_X8_needed_4 (q_it (D_X8_needed) k9) σ x1 x2 = some qq := h
        unfold b_X8_needed_4 at h
        refine lv_iload_n hx hb dX8_needed_4 rfl (lv_at hl 2 rfl) ?_
        refine lv_aload_n hx hb dX8_needed_5 rfl (lv_at hl 0 rfl) ?_
        refine x_getr (C := RX8) (k := 1) hx hb hts u_X8_needed_8 hown hK hP (g_M_0 cI a σ) rfl (by decide) ⟨rfl, rfl, rfl⟩ k_X8_needed_f7 rfl dX8_needed_6 ?_
        refine lv_iconst (v := 1) hx hb dX8_needed_9 (by decide +kernel) ?_
        refine x_iald (t0 := 0) hx hb hK hP ht h (g_M_1 cI a σ) dX8_needed_10 (fun x3 h => ?_)
        refine lv_icmp_ge (tgt := 64) hx hb dX8_needed_11 (by decide) (fun c4 => ?_) (fun c4 => ?_)
        · have h := if_t c4 h
          refine lv_iload_n hx hb dX8_needed_64 rfl (lv_at hl 1 rfl) ?_
          exact x_iret (p_M cI a) hx hb hr hlocks hP hS dX8_needed_65 h
        · have h := if_f c4 h
          refine lv_aload_n hx hb dX8_needed_14 rfl (lv_at hl 0 rfl) ?_
          refine x_getr (C := RX8) (k := 1) hx hb hts u_X8_needed_8 hown hK hP (g_M_0 cI a σ) rfl (by decide) ⟨rfl, rfl, rfl⟩ k_X8_needed_f7 rfl dX8_needed_15 ?_
          refine lv_bipush (v := 100) hx hb dX8_needed_18 (by decide +kernel) ?_
          refine lv_iload_n hx hb dX8_needed_20 rfl (lv_at hl 2 rfl) ?_
          refine x_iadd hx hb dX8_needed_21 h (fun x5 h => ?_)
          refine x_iald (t0 := 0) hx hb hK hP ht h (g_M_1 cI a σ) dX8_needed_22 (fun x6 h => ?_)
          refine lv_iconst (v := 1) hx hb dX8_needed_23 (by decide +kernel) ?_
          refine lv_icmp_ne (tgt := 58) hx hb dX8_needed_24 (by decide) (fun c7 => ?_) (fun c7 => ?_)
          · have h := if_f c7 h
            refine x_iinc (k := 2) (w := 1) hx hb dX8_needed_58 hl rfl (by decide +kernel) (by decide) (fun v9 => [(2, .int v9), (0, .ref (a 0)), (1, .int x1)]) (fun v9 => rfl) h (fun x8 ls hl h => ?_)
            have hl : lv_has ls 3 [(2, .int x8), (0, .ref (a 0)), (1, .int x1)] := hl
            refine lv_goto (tgt := 4) hx hb dX8_needed_61 (by decide) ?_
            exact i4 σ x1 x8 _ _ _ h hP hS (lv_sub hl [1, 2, 0] rfl)
          · have h := if_t c7 h
            refine lv_aload_n hx hb dX8_needed_27 rfl (lv_at hl 0 rfl) ?_
            refine lv_aload_n hx hb dX8_needed_28 rfl (lv_at hl 0 rfl) ?_
            refine x_getr (C := RX8) (k := 1) hx hb hts u_X8_needed_8 hown hK hP (g_M_0 cI a σ) rfl (by decide) ⟨rfl, rfl, rfl⟩ k_X8_needed_f7 rfl dX8_needed_29 ?_
            refine lv_bipush (v := 10) hx hb dX8_needed_32 (by decide +kernel) ?_
            refine lv_iload_n hx hb dX8_needed_34 rfl (lv_at hl 2 rfl) ?_
            refine x_iadd hx hb dX8_needed_35 h (fun x9 h => ?_)
            refine x_iald (t0 := 0) hx hb hK hP ht h (g_M_1 cI a σ) dX8_needed_36 (fun x10 h => ?_)
            refine lv_aload_n hx hb dX8_needed_37 rfl (lv_at hl 0 rfl) ?_
            refine x_getr (C := RX8) (k := 1) hx hb hts u_X8_needed_8 hown hK hP (g_M_0 cI a σ) rfl (by decide) ⟨rfl, rfl, rfl⟩ k_X8_needed_f7 rfl dX8_needed_38 ?_
            refine lv_bipush (v := 40) hx hb dX8_needed_41 (by decide +kernel) ?_
            refine lv_iload_n hx hb dX8_needed_43 rfl (lv_at hl 2 rfl) ?_
            refine x_iadd hx hb dX8_needed_44 h (fun x11 h => ?_)
            refine x_iald (t0 := 0) hx hb hK hP ht h (g_M_1 cI a σ) dX8_needed_45 (fun x12 h => ?_)
            refine lv_iload_n hx hb dX8_needed_46 rfl (lv_at hl 2 rfl) ?_
            refine x_cVi (p_M cI a) (p_M cI a) (fun τ => τ) [] [.int x10, .int x12, .int x2] hx hb hml hl.1 hown hts hK hP hD hS hA rfl (c_X8_shortestBut l D cI tys ht a σ x10 x12 x2) gX8_needed_X8_shortestBut rfl ⟨rfl, rfl⟩ i_X8_shortestBut ⟨Nat.le_of_ble_eq_true rfl, Nat.le_of_ble_eq_true rfl⟩ q_frI (g_M_0 cI a σ) rfl rfl (Nat.le_of_ble_eq_true rfl) ⟨Nat.zero_le _, Nat.zero_le _⟩ dX8_needed_47 h (fun x14 H locs s13 hP hS h => ?_)
            refine lv_bipush (v := (-2)) hx hb dX8_needed_50 (by decide +kernel) ?_
            refine lv_icmp_ne (tgt := 58) hx hb dX8_needed_52 (by decide) (fun c15 => ?_) (fun c15 => ?_)
            · have h := if_f c15 h
              refine x_iinc (k := 2) (w := 1) hx hb dX8_needed_58 hl rfl (by decide +kernel) (by decide) (fun v9 => [(2, .int v9), (0, .ref (a 0)), (1, .int x1)]) (fun v9 => rfl) h (fun x16 ls hl h => ?_)
              have hl : lv_has ls 3 [(2, .int x16), (0, .ref (a 0)), (1, .int x1)] := hl
              refine lv_goto (tgt := 4) hx hb dX8_needed_61 (by decide) ?_
              exact i4 s13 x1 x16 _ _ _ h hP hS (lv_sub hl [1, 2, 0] rfl)
            · have h := if_t c15 h
              refine x_iinc (k := 1) (w := 1) hx hb dX8_needed_55 hl rfl (by decide +kernel) (by decide) (fun v9 => [(1, .int v9), (0, .ref (a 0)), (2, .int x2)]) (fun v9 => rfl) h (fun x17 ls hl h => ?_)
              have hl : lv_has ls 3 [(1, .int x17), (0, .ref (a 0)), (2, .int x2)] := hl
              refine x_iinc (k := 2) (w := 1) hx hb dX8_needed_58 hl rfl (by decide +kernel) (by decide) (fun v9 => [(2, .int v9), (1, .int x17), (0, .ref (a 0))]) (fun v9 => rfl) h (fun x18 ls hl h => ?_)
              have hl : lv_has ls 3 [(2, .int x18), (1, .int x17), (0, .ref (a 0))] := hl
              refine lv_goto (tgt := 4) hx hb dX8_needed_61 (by decide) ?_
              exact i4 s13 x17 x18 _ _ _ h hP hS (lv_sub hl [2, 1, 0] rfl)
  have i4 : ∀ (σ : qM) (x1 x2 : Int32) (H : Heap) (locs : List Loc) (ls : Array Slot), q_lim (D_X8_needed) 0 σ [x1, x2] = some qq → va_P D vwCl (p_M cI a σ) H → va_S A s.heap H locs → lv_has ls 3 [(0, .ref (a 0)), (1, .int x1), (2, .int x2)] → W p l e ({ frames := 2, cells := 0, slots := 0, locals := 67 }) s m [.ref (a 0)].toArray below meth c H locs 0 0 (MQ below (va_Qi (fun r τ => (r, τ) = qq) (fun τ t => va_P D vwCl ((p_M cI a) τ) t.heap) A) [.ref (a 0)].toArray s 0 0 A) (F0 m 4 ls []) := by
    intro σ x1 x2 H locs ls h hP hS hl
    obtain ⟨k9, h⟩ := q_lim_n h
    exact (main k9) σ x1 x2 H locs ls h hP hS hl
  have h : e_X8_needed (q_lim (D_X8_needed)) σ = some qq := h
  unfold e_X8_needed at h
  refine lv_iconst (v := 0) hx hb dX8_needed_0 (by decide +kernel) ?_
  refine lv_istore_n (lv' := [(1, .int 0), (0, .ref (a 0))]) hx hb dX8_needed_1 rfl hl (by decide) rfl (fun ls hl => ?_)
  refine lv_iconst (v := 0) hx hb dX8_needed_2 (by decide +kernel) ?_
  refine lv_istore_n (lv' := [(2, .int 0), (1, .int 0), (0, .ref (a 0))]) hx hb dX8_needed_3 rfl hl (by decide) rfl (fun ls hl => ?_)
  exact i4 σ 0 0 _ _ _ h hP hS (lv_sub hl [2, 1, 0] rfl)
/-! ===== VectorRoundsModel.settled()I: world M ===== -/
theorem i_X8_settled : yX8_settled.cls = RX8 ∧ yX8_settled.cls ≠ "java/lang/invoke/MethodHandle" ∧ yX8_settled.cls ≠ "java/lang/invoke/VarHandle" ∧ (parseMethodDescriptor yX8_settled.desc).map (fun d => d.parameters.length) = some 0 := by decide +kernel
set_option maxHeartbeats 4000000 in
set_option maxRecDepth 100000 in
theorem c_X8_settled (l : Launch) (D : va_G) (cI : ClassId) (tys : List (ClassId × FieldType)) (ht : tys[0]? = some (cI, .int)) (a : Nat → Nat) (σ : qM) : q_Met l yX8_settled wsX8_settled ({ frames := 3, cells := 0, slots := 0, locals := 90 }) [.ref (a 0)] D tys (p_M cI a) σ (f_X8_settled σ) := by
  refine x_ofWi (cc := cX8_settled) (maxL := 2) (ret := (some .int)) (by decide +kernel) rfl (pf_M cI a) (Nat.le_of_ble_eq_true rfl) ?_
  intro p e s m below meth c A ls qq h hx hb hml hr hlocks hown hts hK hP hD hA hS hl
  have hown : s.vm.findClass RX8 = some m.cls := hown
  have hl : lv_has ls 2 [(0, .ref (a 0))] := hl
  have main : ∀ k9 : Nat, (∀ (σ : qM) (x1 : Int32) (H : Heap) (locs : List Loc) (ls : Array Slot), q_it (D_X8_settled) k9 0 σ [x1] = some qq → va_P D vwCl (p_M cI a σ) H → va_S A s.heap H locs → lv_has ls 2 [(0, .ref (a 0)), (1, .int x1)] → W p l e ({ frames := 3, cells := 0, slots := 0, locals := 90 }) s m [.ref (a 0)].toArray below meth c H locs 0 0 (MQ below (va_Qi (fun r τ => (r, τ) = qq) (fun τ t => va_P D vwCl ((p_M cI a) τ) t.heap) A) [.ref (a 0)].toArray s 0 0 A) (F0 m 2 ls [])) := by
    intro k9
    induction k9 with
    | zero => exact (fun _ _ _ _ _ h _ _ _ => (q_no (show (none : qR) = some qq from h)).elim)
    | succ k9 ih =>
      have i2 := ih
      refine ?_
      · intro σ x1 H locs ls h hP hS hl
        have h : b_X8_settled_2 (q_it (D_X8_settled) k9) σ x1 = some qq := h
        unfold b_X8_settled_2 at h
        refine lv_iload_n hx hb dX8_settled_2 rfl (lv_at hl 1 rfl) ?_
        refine lv_bipush (v := 80) hx hb dX8_settled_3 (by decide +kernel) ?_
        refine lv_icmp_gt (tgt := 23) hx hb dX8_settled_5 (by decide) (fun c2 => ?_) (fun c2 => ?_)
        · have h := if_t c2 h
          refine lv_bipush (v := (-2)) hx hb dX8_settled_23 (by decide +kernel) ?_
          exact x_iret (p_M cI a) hx hb hr hlocks hP hS dX8_settled_25 h
        · have h := if_f c2 h
          refine lv_aload_n hx hb dX8_settled_8 rfl (lv_at hl 0 rfl) ?_
          refine x_cVi (p_M cI a) (p_M cI a) (fun τ => τ) [] [] hx hb hml hl.1 hown hts hK hP hD hS hA rfl (c_X8_goRound l D cI tys ht a σ) gX8_settled_X8_goRound rfl ⟨rfl, rfl⟩ i_X8_goRound ⟨Nat.le_of_ble_eq_true rfl, Nat.le_of_ble_eq_true rfl⟩ q_frI (g_M_0 cI a σ) rfl rfl (Nat.le_of_ble_eq_true rfl) ⟨Nat.zero_le _, Nat.zero_le _⟩ dX8_settled_9 h (fun x4 H locs s3 hP hS h => ?_)
          refine lv_if_ne (tgt := 17) hx hb dX8_settled_12 (by decide) (fun c5 => ?_) (fun c5 => ?_)
          · have h := if_f c5 h
            refine x_iinc (k := 1) (w := 1) hx hb dX8_settled_17 hl rfl (by decide +kernel) (by decide) (fun v9 => [(1, .int v9), (0, .ref (a 0))]) (fun v9 => rfl) h (fun x6 ls hl h => ?_)
            have hl : lv_has ls 2 [(1, .int x6), (0, .ref (a 0))] := hl
            refine lv_goto (tgt := 2) hx hb dX8_settled_20 (by decide) ?_
            exact i2 s3 x6 _ _ _ h hP hS (lv_sub hl [1, 0] rfl)
          · have h := if_t c5 h
            refine lv_iload_n hx hb dX8_settled_15 rfl (lv_at hl 1 rfl) ?_
            exact x_iret (p_M cI a) hx hb hr hlocks hP hS dX8_settled_16 h
  have i2 : ∀ (σ : qM) (x1 : Int32) (H : Heap) (locs : List Loc) (ls : Array Slot), q_lim (D_X8_settled) 0 σ [x1] = some qq → va_P D vwCl (p_M cI a σ) H → va_S A s.heap H locs → lv_has ls 2 [(0, .ref (a 0)), (1, .int x1)] → W p l e ({ frames := 3, cells := 0, slots := 0, locals := 90 }) s m [.ref (a 0)].toArray below meth c H locs 0 0 (MQ below (va_Qi (fun r τ => (r, τ) = qq) (fun τ t => va_P D vwCl ((p_M cI a) τ) t.heap) A) [.ref (a 0)].toArray s 0 0 A) (F0 m 2 ls []) := by
    intro σ x1 H locs ls h hP hS hl
    obtain ⟨k9, h⟩ := q_lim_n h
    exact (main k9) σ x1 H locs ls h hP hS hl
  have h : e_X8_settled (q_lim (D_X8_settled)) σ = some qq := h
  unfold e_X8_settled at h
  refine lv_iconst (v := 0) hx hb dX8_settled_0 (by decide +kernel) ?_
  refine lv_istore_n (lv' := [(1, .int 0), (0, .ref (a 0))]) hx hb dX8_settled_1 rfl hl (by decide) rfl (fun ls hl => ?_)
  exact i2 σ 0 _ _ _ h hP hS (lv_sub hl [1, 0] rfl)
