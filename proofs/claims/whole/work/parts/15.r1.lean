/-! ===== VectorRoundsModel.in(III)Z: world E ===== -/
theorem i_X8_in : yX8_in.cls ≠ "java/lang/invoke/MethodHandle" ∧ yX8_in.cls ≠ "java/lang/invoke/VarHandle" ∧ (parseMethodDescriptor yX8_in.desc).map (fun d => d.parameters.length) = some 3 := by decide +kernel
set_option maxHeartbeats 4000000 in
set_option maxRecDepth 100000 in
theorem c_X8_in (l : Launch) (D : va_G) (cI : ClassId) (tys : List (ClassId × FieldType)) (ht : tys[0]? = some (cI, .int)) (σ : qM) (x1 : Int32) (x2 : Int32) (x3 : Int32) : q_Met l yX8_in wsX8_in ({ frames := 0, cells := 0, slots := 0, locals := 0 }) [.int x1, .int x2, .int x3] D tys (fun _ => []) σ (f_X8_in σ x1 x2 x3) := by
  refine x_ofWi (cc := cX8_in) (maxL := 3) (ret := (some .boolean)) (by decide +kernel) rfl (fun _ _ => rfl) (Nat.le_of_ble_eq_true rfl) ?_
  intro p e s m below meth c A ls qq h hx hb hml hr hlocks hown hts hK hP hD hA hS hl
  have hown : s.vm.findClass RX8 = some m.cls := hown
  have hl : lv_has ls 3 [(0, .int x1), (1, .int x2), (2, .int x3)] := hl
  unfold f_X8_in at h
  refine lv_iload_n hx hb dX8_in_0 rfl (lv_at hl 0 rfl) ?_
  refine lv_iload_n hx hb dX8_in_1 rfl (lv_at hl 1 rfl) ?_
  refine lv_icmp_lt (tgt := 14) hx hb dX8_in_2 (by decide) (fun c4 => ?_) (fun c4 => ?_)
  · have h := if_t c4 h
    refine lv_iconst (v := 0) hx hb dX8_in_14 (by decide +kernel) ?_
    exact x_zret (fun _ => []) hx hb hr hlocks hP hS dX8_in_15 h
  · have h := if_f c4 h
    refine lv_iload_n hx hb dX8_in_5 rfl (lv_at hl 0 rfl) ?_
    refine lv_iload_n hx hb dX8_in_6 rfl (lv_at hl 2 rfl) ?_
    refine lv_icmp_gt (tgt := 14) hx hb dX8_in_7 (by decide) (fun c5 => ?_) (fun c5 => ?_)
    · have h := if_t c5 h
      refine lv_iconst (v := 0) hx hb dX8_in_14 (by decide +kernel) ?_
      exact x_zret (fun _ => []) hx hb hr hlocks hP hS dX8_in_15 h
    · have h := if_f c5 h
      refine lv_iconst (v := 1) hx hb dX8_in_10 (by decide +kernel) ?_
      refine lv_goto (tgt := 15) hx hb dX8_in_11 (by decide) ?_
      exact x_zret (fun _ => []) hx hb hr hlocks hP hS dX8_in_15 h
/-! ===== VectorRoundsModel.isRouter(I)Z: world M ===== -/
theorem i_X8_isRouter : yX8_isRouter.cls = RX8 ∧ yX8_isRouter.cls ≠ "java/lang/invoke/MethodHandle" ∧ yX8_isRouter.cls ≠ "java/lang/invoke/VarHandle" ∧ (parseMethodDescriptor yX8_isRouter.desc).map (fun d => d.parameters.length) = some 1 := by decide +kernel
theorem k_X8_isRouter_f7 : Cond.fieldLink RX8 7 RX8 "s" "[I" ∈ wsX8_isRouter := by decide +kernel
theorem u_X8_isRouter_8 : ∀ w ∈ u_ws RX8 TX8 26, w ∈ wsX8_isRouter := by decide +kernel
set_option maxHeartbeats 4000000 in
set_option maxRecDepth 100000 in
theorem c_X8_isRouter (l : Launch) (D : va_G) (cI : ClassId) (tys : List (ClassId × FieldType)) (ht : tys[0]? = some (cI, .int)) (a : Nat → Nat) (σ : qM) (x1 : Int32) : q_Met l yX8_isRouter wsX8_isRouter ({ frames := 1, cells := 0, slots := 0, locals := 22 }) [.ref (a 0), .int x1] D tys (p_M cI a) σ (f_X8_isRouter σ x1) := by
  refine x_ofWi (cc := cX8_isRouter) (maxL := 2) (ret := (some .boolean)) (by decide +kernel) rfl (pf_M cI a) (Nat.le_of_ble_eq_true rfl) ?_
  intro p e s m below meth c A ls qq h hx hb hml hr hlocks hown hts hK hP hD hA hS hl
  have hown : s.vm.findClass RX8 = some m.cls := hown
  have hl : lv_has ls 2 [(0, .ref (a 0)), (1, .int x1)] := hl
  unfold f_X8_isRouter at h
  refine lv_iload_n hx hb dX8_isRouter_0 rfl (lv_at hl 1 rfl) ?_
  refine lv_iconst (v := 0) hx hb dX8_isRouter_1 (by decide +kernel) ?_
  refine lv_aload_n hx hb dX8_isRouter_2 rfl (lv_at hl 0 rfl) ?_
  refine x_getr (C := RX8) (k := 1) hx hb hts u_X8_isRouter_8 hown hK hP (g_M_0 cI a σ) rfl (by decide) ⟨rfl, rfl, rfl⟩ k_X8_isRouter_f7 rfl dX8_isRouter_3 ?_
  refine lv_iconst (v := 0) hx hb dX8_isRouter_6 (by decide +kernel) ?_
  refine x_iald (t0 := 0) hx hb hK hP ht h (g_M_1 cI a σ) dX8_isRouter_7 (fun x2 h => ?_)
  refine lv_iconst (v := 1) hx hb dX8_isRouter_8 (by decide +kernel) ?_
  refine x_isub hx hb dX8_isRouter_9 h (fun x3 h => ?_)
  refine x_cSi (p_M cI a) (fun _ => []) (fun _ => σ) [] [.int x1, .int 0, .int x3] hx hb hml hl.1 hown hts hK hP hD hS hA rfl (c_X8_in l D cI tys ht σ x1 0 x3) gX8_isRouter_X8_in rfl ⟨rfl, rfl⟩ i_X8_in ⟨Nat.le_of_ble_eq_true rfl, Nat.le_of_ble_eq_true rfl⟩ (q_fr0 (fun _ => rfl)) rfl (Nat.le_of_ble_eq_true rfl) ⟨Nat.zero_le _, Nat.zero_le _⟩ dX8_isRouter_10 h (fun x5 H locs s4 hP hS h => ?_)
  exact x_zret (p_M cI a) hx hb hr hlocks hP hS dX8_isRouter_13 h
/-! ===== VectorRoundsModel.isLink(I)Z: world M ===== -/
theorem i_X8_isLink : yX8_isLink.cls = RX8 ∧ yX8_isLink.cls ≠ "java/lang/invoke/MethodHandle" ∧ yX8_isLink.cls ≠ "java/lang/invoke/VarHandle" ∧ (parseMethodDescriptor yX8_isLink.desc).map (fun d => d.parameters.length) = some 1 := by decide +kernel
theorem k_X8_isLink_f7 : Cond.fieldLink RX8 7 RX8 "s" "[I" ∈ wsX8_isLink := by decide +kernel
theorem u_X8_isLink_8 : ∀ w ∈ u_ws RX8 TX8 26, w ∈ wsX8_isLink := by decide +kernel
set_option maxHeartbeats 4000000 in
set_option maxRecDepth 100000 in
theorem c_X8_isLink (l : Launch) (D : va_G) (cI : ClassId) (tys : List (ClassId × FieldType)) (ht : tys[0]? = some (cI, .int)) (a : Nat → Nat) (σ : qM) (x1 : Int32) : q_Met l yX8_isLink wsX8_isLink ({ frames := 1, cells := 0, slots := 0, locals := 22 }) [.ref (a 0), .int x1] D tys (p_M cI a) σ (f_X8_isLink σ x1) := by
  refine x_ofWi (cc := cX8_isLink) (maxL := 2) (ret := (some .boolean)) (by decide +kernel) rfl (pf_M cI a) (Nat.le_of_ble_eq_true rfl) ?_
  intro p e s m below meth c A ls qq h hx hb hml hr hlocks hown hts hK hP hD hA hS hl
  have hown : s.vm.findClass RX8 = some m.cls := hown
  have hl : lv_has ls 2 [(0, .ref (a 0)), (1, .int x1)] := hl
  unfold f_X8_isLink at h
  refine lv_iload_n hx hb dX8_isLink_0 rfl (lv_at hl 1 rfl) ?_
  refine lv_iconst (v := 0) hx hb dX8_isLink_1 (by decide +kernel) ?_
  refine lv_aload_n hx hb dX8_isLink_2 rfl (lv_at hl 0 rfl) ?_
  refine x_getr (C := RX8) (k := 1) hx hb hts u_X8_isLink_8 hown hK hP (g_M_0 cI a σ) rfl (by decide) ⟨rfl, rfl, rfl⟩ k_X8_isLink_f7 rfl dX8_isLink_3 ?_
  refine lv_iconst (v := 1) hx hb dX8_isLink_6 (by decide +kernel) ?_
  refine x_iald (t0 := 0) hx hb hK hP ht h (g_M_1 cI a σ) dX8_isLink_7 (fun x2 h => ?_)
  refine lv_iconst (v := 1) hx hb dX8_isLink_8 (by decide +kernel) ?_
  refine x_isub hx hb dX8_isLink_9 h (fun x3 h => ?_)
  refine x_cSi (p_M cI a) (fun _ => []) (fun _ => σ) [] [.int x1, .int 0, .int x3] hx hb hml hl.1 hown hts hK hP hD hS hA rfl (c_X8_in l D cI tys ht σ x1 0 x3) gX8_isLink_X8_in rfl ⟨rfl, rfl⟩ i_X8_in ⟨Nat.le_of_ble_eq_true rfl, Nat.le_of_ble_eq_true rfl⟩ (q_fr0 (fun _ => rfl)) rfl (Nat.le_of_ble_eq_true rfl) ⟨Nat.zero_le _, Nat.zero_le _⟩ dX8_isLink_10 h (fun x5 H locs s4 hP hS h => ?_)
  exact x_zret (p_M cI a) hx hb hr hlocks hP hS dX8_isLink_13 h
/-! ===== VectorRoundsModel.copy([I[I)V: world RR ===== -/
theorem i_X8_copy : yX8_copy.cls ≠ "java/lang/invoke/MethodHandle" ∧ yX8_copy.cls ≠ "java/lang/invoke/VarHandle" ∧ (parseMethodDescriptor yX8_copy.desc).map (fun d => d.parameters.length) = some 2 := by decide +kernel
set_option maxHeartbeats 4000000 in
set_option maxRecDepth 100000 in
theorem c_X8_copy (l : Launch) (D : va_G) (cI : ClassId) (tys : List (ClassId × FieldType)) (ht : tys[0]? = some (cI, .int)) (a : Nat → Nat) (σ : qM) : q_Mev l yX8_copy wsX8_copy ({ frames := 0, cells := 0, slots := 0, locals := 0 }) [.ref (a 0), .ref (a 1)] D tys (p_RR cI a) σ (f_X8_copy σ) := by
  refine x_ofWv (cc := cX8_copy) (maxL := 3) (ret := none) (by decide +kernel) rfl (pf_RR cI a) (Nat.le_of_ble_eq_true rfl) ?_
  intro p e s m below meth c A ls qq h hx hb hml hr hlocks hown hts hK hP hD hA hS hl
  have hown : s.vm.findClass RX8 = some m.cls := hown
  have hl : lv_has ls 3 [(0, .ref (a 0)), (1, .ref (a 1))] := hl
  have main : ∀ k9 : Nat, (∀ (σ : qM) (x1 : Int32) (H : Heap) (locs : List Loc) (ls : Array Slot), q_it (D_X8_copy) k9 0 σ [x1] = some qq → va_P D vwCl (p_RR cI a σ) H → va_S A s.heap H locs → lv_has ls 3 [(0, .ref (a 0)), (1, .ref (a 1)), (2, .int x1)] → W p l e ({ frames := 0, cells := 0, slots := 0, locals := 0 }) s m [.ref (a 0), .ref (a 1)].toArray below meth c H locs 0 0 (MQ below (va_Qv (fun τ => ((0 : Int32), τ) = qq) (fun τ t => va_P D vwCl ((p_RR cI a) τ) t.heap) A) [.ref (a 0), .ref (a 1)].toArray s 0 0 A) (F0 m 2 ls [])) := by
    intro k9
    induction k9 with
    | zero => exact (fun _ _ _ _ _ h _ _ _ => (q_no (show (none : qR) = some qq from h)).elim)
    | succ k9 ih =>
      have i2 := ih
      refine ?_
      · intro σ x1 H locs ls h hP hS hl
        have h : b_X8_copy_2 (q_it (D_X8_copy) k9) σ x1 = some qq := h
        unfold b_X8_copy_2 at h
        refine lv_iload_n hx hb dX8_copy_2 rfl (lv_at hl 2 rfl) ?_
        refine lv_aload_n hx hb dX8_copy_3 rfl (lv_at hl 0 rfl) ?_
        refine x_alen (t0 := 0) hx hb hK hP ht (g_RR_0 cI a σ) dX8_copy_4 h (fun x2 h => ?_)
        refine lv_icmp_ge (tgt := 20) hx hb dX8_copy_5 (by decide) (fun c3 => ?_) (fun c3 => ?_)
        · have h := if_t c3 h
          exact x_vret (p_RR cI a) hx hb hr hlocks hP hS dX8_copy_20 h
        · have h := if_f c3 h
          refine lv_aload_n hx hb dX8_copy_8 rfl (lv_at hl 1 rfl) ?_
          refine lv_iload_n hx hb dX8_copy_9 rfl (lv_at hl 2 rfl) ?_
          refine lv_aload_n hx hb dX8_copy_10 rfl (lv_at hl 0 rfl) ?_
          refine lv_iload_n hx hb dX8_copy_11 rfl (lv_at hl 2 rfl) ?_
          refine x_iald (t0 := 0) hx hb hK hP ht h (g_RR_0 cI a σ) dX8_copy_12 (fun x4 h => ?_)
          refine x_iast (p_RR cI a) (t0 := 0) hx hb hK hP hD hS ht h (g_RR_1 cI a σ) (fun j9 v9 => (s_RR_1 cI a σ _)) dX8_copy_13 (fun H locs s5 hP hS h => ?_)
          refine x_iinc (k := 2) (w := 1) hx hb dX8_copy_14 hl rfl (by decide +kernel) (by decide) (fun v9 => [(2, .int v9), (0, .ref (a 0)), (1, .ref (a 1))]) (fun v9 => rfl) h (fun x6 ls hl h => ?_)
          have hl : lv_has ls 3 [(2, .int x6), (0, .ref (a 0)), (1, .ref (a 1))] := hl
          refine lv_goto (tgt := 2) hx hb dX8_copy_17 (by decide) ?_
          exact i2 s5 x6 _ _ _ h hP hS (lv_sub hl [1, 2, 0] rfl)
  have i2 : ∀ (σ : qM) (x1 : Int32) (H : Heap) (locs : List Loc) (ls : Array Slot), q_lim (D_X8_copy) 0 σ [x1] = some qq → va_P D vwCl (p_RR cI a σ) H → va_S A s.heap H locs → lv_has ls 3 [(0, .ref (a 0)), (1, .ref (a 1)), (2, .int x1)] → W p l e ({ frames := 0, cells := 0, slots := 0, locals := 0 }) s m [.ref (a 0), .ref (a 1)].toArray below meth c H locs 0 0 (MQ below (va_Qv (fun τ => ((0 : Int32), τ) = qq) (fun τ t => va_P D vwCl ((p_RR cI a) τ) t.heap) A) [.ref (a 0), .ref (a 1)].toArray s 0 0 A) (F0 m 2 ls []) := by
    intro σ x1 H locs ls h hP hS hl
    obtain ⟨k9, h⟩ := q_lim_n h
    exact (main k9) σ x1 H locs ls h hP hS hl
  have h : e_X8_copy (q_lim (D_X8_copy)) σ = some qq := h
  unfold e_X8_copy at h
  refine lv_iconst (v := 0) hx hb dX8_copy_0 (by decide +kernel) ?_
  refine lv_istore_n (lv' := [(2, .int 0), (0, .ref (a 0)), (1, .ref (a 1))]) hx hb dX8_copy_1 rfl hl (by decide) rfl (fun ls hl => ?_)
  exact i2 σ 0 _ _ _ h hP hS (lv_sub hl [1, 2, 0] rfl)
/-! ===== VectorRoundsModel.entryOf(II)I: world M ===== -/
theorem i_X8_entryOf : yX8_entryOf.cls = RX8 ∧ yX8_entryOf.cls ≠ "java/lang/invoke/MethodHandle" ∧ yX8_entryOf.cls ≠ "java/lang/invoke/VarHandle" ∧ (parseMethodDescriptor yX8_entryOf.desc).map (fun d => d.parameters.length) = some 2 := by decide +kernel
theorem k_X8_entryOf_f7 : Cond.fieldLink RX8 7 RX8 "s" "[I" ∈ wsX8_entryOf := by decide +kernel
theorem u_X8_entryOf_8 : ∀ w ∈ u_ws RX8 TX8 26, w ∈ wsX8_entryOf := by decide +kernel
set_option maxHeartbeats 4000000 in
set_option maxRecDepth 100000 in
theorem c_X8_entryOf (l : Launch) (D : va_G) (cI : ClassId) (tys : List (ClassId × FieldType)) (ht : tys[0]? = some (cI, .int)) (a : Nat → Nat) (σ : qM) (x1 : Int32) (x2 : Int32) : q_Met l yX8_entryOf wsX8_entryOf ({ frames := 0, cells := 0, slots := 0, locals := 0 }) [.ref (a 0), .int x1, .int x2] D tys (p_M cI a) σ (f_X8_entryOf σ x1 x2) := by
  refine x_ofWi (cc := cX8_entryOf) (maxL := 4) (ret := (some .int)) (by decide +kernel) rfl (pf_M cI a) (Nat.le_of_ble_eq_true rfl) ?_
  intro p e s m below meth c A ls qq h hx hb hml hr hlocks hown hts hK hP hD hA hS hl
  have hown : s.vm.findClass RX8 = some m.cls := hown
  have hl : lv_has ls 4 [(0, .ref (a 0)), (1, .int x1), (2, .int x2)] := hl
  have main : ∀ k9 : Nat, (∀ (σ : qM) (x3 x4 x5 : Int32) (H : Heap) (locs : List Loc) (ls : Array Slot), q_it (D_X8_entryOf) k9 0 σ [x3, x4, x5] = some qq → va_P D vwCl (p_M cI a σ) H → va_S A s.heap H locs → lv_has ls 4 [(0, .ref (a 0)), (1, .int x3), (2, .int x4), (3, .int x5)] → W p l e ({ frames := 0, cells := 0, slots := 0, locals := 0 }) s m [.ref (a 0), .int x1, .int x2].toArray below meth c H locs 0 0 (MQ below (va_Qi (fun r τ => (r, τ) = qq) (fun τ t => va_P D vwCl ((p_M cI a) τ) t.heap) A) [.ref (a 0), .int x1, .int x2].toArray s 0 0 A) (F0 m 2 ls [])) := by
    intro k9
    induction k9 with
    | zero => exact (fun _ _ _ _ _ _ _ h _ _ _ => (q_no (show (none : qR) = some qq from h)).elim)
    | succ k9 ih =>
      have i2 := ih
      refine ?_
      · intro σ x3 x4 x5 H locs ls h hP hS hl
        have h : b_X8_entryOf_2 (q_it (D_X8_entryOf) k9) σ x3 x4 x5 = some qq := h
        unfold b_X8_entryOf_2 at h
        refine lv_iload_n hx hb dX8_entryOf_2 rfl (lv_at hl 3 rfl) ?_
        refine lv_aload_n hx hb dX8_entryOf_3 rfl (lv_at hl 0 rfl) ?_
        refine x_getr (C := RX8) (k := 1) hx hb hts u_X8_entryOf_8 hown hK hP (g_M_0 cI a σ) rfl (by decide) ⟨rfl, rfl, rfl⟩ k_X8_entryOf_f7 rfl dX8_entryOf_4 ?_
        refine lv_sipush (v := 130) hx hb dX8_entryOf_7 (by decide +kernel) ?_
        refine lv_iload_n hx hb dX8_entryOf_10 rfl (lv_at hl 1 rfl) ?_
        refine x_iadd hx hb dX8_entryOf_11 h (fun x6 h => ?_)
        refine x_iald (t0 := 0) hx hb hK hP ht h (g_M_1 cI a σ) dX8_entryOf_12 (fun x7 h => ?_)
        refine lv_icmp_ge (tgt := 48) hx hb dX8_entryOf_13 (by decide) (fun c8 => ?_) (fun c8 => ?_)
        · have h := if_t c8 h
          refine lv_iconst (v := (-1)) hx hb dX8_entryOf_48 (by decide +kernel) ?_
          exact x_iret (p_M cI a) hx hb hr hlocks hP hS dX8_entryOf_49 h
        · have h := if_f c8 h
          refine lv_aload_n hx hb dX8_entryOf_16 rfl (lv_at hl 0 rfl) ?_
          refine x_getr (C := RX8) (k := 1) hx hb hts u_X8_entryOf_8 hown hK hP (g_M_0 cI a σ) rfl (by decide) ⟨rfl, rfl, rfl⟩ k_X8_entryOf_f7 rfl dX8_entryOf_17 ?_
          refine lv_sipush (v := 150) hx hb dX8_entryOf_20 (by decide +kernel) ?_
          refine lv_bipush (v := 10) hx hb dX8_entryOf_23 (by decide +kernel) ?_
          refine lv_iload_n hx hb dX8_entryOf_25 rfl (lv_at hl 1 rfl) ?_
          refine x_imul hx hb dX8_entryOf_26 h (fun x9 h => ?_)
          refine x_iadd hx hb dX8_entryOf_27 h (fun x10 h => ?_)
          refine lv_iload_n hx hb dX8_entryOf_28 rfl (lv_at hl 3 rfl) ?_
          refine x_iadd hx hb dX8_entryOf_29 h (fun x11 h => ?_)
          refine x_iald (t0 := 0) hx hb hK hP ht h (g_M_1 cI a σ) dX8_entryOf_30 (fun x12 h => ?_)
          refine lv_iload_n hx hb dX8_entryOf_31 rfl (lv_at hl 2 rfl) ?_
          refine lv_icmp_ne (tgt := 42) hx hb dX8_entryOf_32 (by decide) (fun c13 => ?_) (fun c13 => ?_)
          · have h := if_f c13 h
            refine x_iinc (k := 3) (w := 1) hx hb dX8_entryOf_42 hl rfl (by decide +kernel) (by decide) (fun v9 => [(3, .int v9), (0, .ref (a 0)), (1, .int x3), (2, .int x4)]) (fun v9 => rfl) h (fun x14 ls hl h => ?_)
            have hl : lv_has ls 4 [(3, .int x14), (0, .ref (a 0)), (1, .int x3), (2, .int x4)] := hl
            refine lv_goto (tgt := 2) hx hb dX8_entryOf_45 (by decide) ?_
            exact i2 σ x3 x4 x14 _ _ _ h hP hS (lv_sub hl [1, 2, 3, 0] rfl)
          · have h := if_t c13 h
            refine lv_bipush (v := 10) hx hb dX8_entryOf_35 (by decide +kernel) ?_
            refine lv_iload_n hx hb dX8_entryOf_37 rfl (lv_at hl 1 rfl) ?_
            refine x_imul hx hb dX8_entryOf_38 h (fun x15 h => ?_)
            refine lv_iload_n hx hb dX8_entryOf_39 rfl (lv_at hl 3 rfl) ?_
            refine x_iadd hx hb dX8_entryOf_40 h (fun x16 h => ?_)
            exact x_iret (p_M cI a) hx hb hr hlocks hP hS dX8_entryOf_41 h
  have i2 : ∀ (σ : qM) (x3 x4 x5 : Int32) (H : Heap) (locs : List Loc) (ls : Array Slot), q_lim (D_X8_entryOf) 0 σ [x3, x4, x5] = some qq → va_P D vwCl (p_M cI a σ) H → va_S A s.heap H locs → lv_has ls 4 [(0, .ref (a 0)), (1, .int x3), (2, .int x4), (3, .int x5)] → W p l e ({ frames := 0, cells := 0, slots := 0, locals := 0 }) s m [.ref (a 0), .int x1, .int x2].toArray below meth c H locs 0 0 (MQ below (va_Qi (fun r τ => (r, τ) = qq) (fun τ t => va_P D vwCl ((p_M cI a) τ) t.heap) A) [.ref (a 0), .int x1, .int x2].toArray s 0 0 A) (F0 m 2 ls []) := by
    intro σ x3 x4 x5 H locs ls h hP hS hl
    obtain ⟨k9, h⟩ := q_lim_n h
    exact (main k9) σ x3 x4 x5 H locs ls h hP hS hl
  have h : e_X8_entryOf (q_lim (D_X8_entryOf)) σ x1 x2 = some qq := h
  unfold e_X8_entryOf at h
  refine lv_iconst (v := 0) hx hb dX8_entryOf_0 (by decide +kernel) ?_
  refine lv_istore_n (lv' := [(3, .int 0), (0, .ref (a 0)), (1, .int x1), (2, .int x2)]) hx hb dX8_entryOf_1 rfl hl (by decide) rfl (fun ls hl => ?_)
  exact i2 σ x1 x2 0 _ _ _ h hP hS (lv_sub hl [1, 2, 3, 0] rfl)
/-! ===== VectorRoundsModel.know(IIIII)V: world M ===== -/
theorem i_X8_know : yX8_know.cls = RX8 ∧ yX8_know.cls ≠ "java/lang/invoke/MethodHandle" ∧ yX8_know.cls ≠ "java/lang/invoke/VarHandle" ∧ (parseMethodDescriptor yX8_know.desc).map (fun d => d.parameters.length) = some 5 := by decide +kernel
theorem k_X8_know_f7 : Cond.fieldLink RX8 7 RX8 "s" "[I" ∈ wsX8_know := by decide +kernel
theorem u_X8_know_8 : ∀ w ∈ u_ws RX8 TX8 26, w ∈ wsX8_know := by decide +kernel
set_option maxHeartbeats 4000000 in
set_option maxRecDepth 100000 in
theorem c_X8_know (l : Launch) (D : va_G) (cI : ClassId) (tys : List (ClassId × FieldType)) (ht : tys[0]? = some (cI, .int)) (a : Nat → Nat) (σ : qM) (x1 : Int32) (x2 : Int32) (x3 : Int32) (x4 : Int32) (x5 : Int32) : q_Mev l yX8_know wsX8_know ({ frames := 0, cells := 0, slots := 0, locals := 0 }) [.ref (a 0), .int x1, .int x2, .int x3, .int x4, .int x5] D tys (p_M cI a) σ (f_X8_know σ x1 x2 x3 x4 x5) := by
  refine x_ofWv (cc := cX8_know) (maxL := 7) (ret := none) (by decide +kernel) rfl (pf_M cI a) (Nat.le_of_ble_eq_true rfl) ?_
  intro p e s m below meth c A ls qq h hx hb hml hr hlocks hown hts hK hP hD hA hS hl
  have hown : s.vm.findClass RX8 = some m.cls := hown
  have hl : lv_has ls 7 [(0, .ref (a 0)), (1, .int x1), (2, .int x2), (3, .int x3), (4, .int x4), (5, .int x5)] := hl
  unfold f_X8_know at h
  refine lv_bipush (v := 10) hx hb dX8_know_0 (by decide +kernel) ?_
  refine lv_iload_n hx hb dX8_know_2 rfl (lv_at hl 1 rfl) ?_
  refine x_imul hx hb dX8_know_3 h (fun x6 h => ?_)
  refine lv_aload_n hx hb dX8_know_4 rfl (lv_at hl 0 rfl) ?_
  refine x_getr (C := RX8) (k := 1) hx hb hts u_X8_know_8 hown hK hP (g_M_0 cI a σ) rfl (by decide) ⟨rfl, rfl, rfl⟩ k_X8_know_f7 rfl dX8_know_5 ?_
  refine lv_sipush (v := 130) hx hb dX8_know_8 (by decide +kernel) ?_
  refine lv_iload_n hx hb dX8_know_11 rfl (lv_at hl 1 rfl) ?_
  refine x_iadd hx hb dX8_know_12 h (fun x7 h => ?_)
  refine x_iald (t0 := 0) hx hb hK hP ht h (g_M_1 cI a σ) dX8_know_13 (fun x8 h => ?_)
  refine x_iadd hx hb dX8_know_14 h (fun x9 h => ?_)
  refine lv_istore (lv' := [(6, .int x9), (0, .ref (a 0)), (1, .int x1), (2, .int x2), (3, .int x3), (4, .int x4), (5, .int x5)]) hx hb dX8_know_15 hl (by decide) rfl (fun ls hl => ?_)
  refine lv_aload_n hx hb dX8_know_17 rfl (lv_at hl 1 rfl) ?_
  refine x_getr (C := RX8) (k := 1) hx hb hts u_X8_know_8 hown hK hP (g_M_0 cI a σ) rfl (by decide) ⟨rfl, rfl, rfl⟩ k_X8_know_f7 rfl dX8_know_18 ?_
  refine lv_sipush (v := 150) hx hb dX8_know_21 (by decide +kernel) ?_
  refine lv_iload hx hb dX8_know_24 (lv_at hl 0 rfl) ?_
  refine x_iadd hx hb dX8_know_26 h (fun x10 h => ?_)
  refine lv_iload_n hx hb dX8_know_27 rfl (lv_at hl 3 rfl) ?_
  refine x_iast (p_M cI a) (t0 := 0) hx hb hK hP hD hS ht h (g_M_1 cI a σ) (fun j9 v9 => (s_M_1 cI a σ _)) dX8_know_28 (fun H locs s11 hP hS h => ?_)
  refine lv_aload_n hx hb dX8_know_29 rfl (lv_at hl 1 rfl) ?_
  refine x_getr (C := RX8) (k := 1) hx hb hts u_X8_know_8 hown hK hP (g_M_0 cI a s11) rfl (by decide) ⟨rfl, rfl, rfl⟩ k_X8_know_f7 rfl dX8_know_30 ?_
  refine lv_sipush (v := 250) hx hb dX8_know_33 (by decide +kernel) ?_
  refine lv_iload hx hb dX8_know_36 (lv_at hl 0 rfl) ?_
  refine x_iadd hx hb dX8_know_38 h (fun x12 h => ?_)
  refine lv_iload_n hx hb dX8_know_39 rfl (lv_at hl 4 rfl) ?_
  refine x_iast (p_M cI a) (t0 := 0) hx hb hK hP hD hS ht h (g_M_1 cI a s11) (fun j9 v9 => (s_M_1 cI a s11 _)) dX8_know_40 (fun H locs s13 hP hS h => ?_)
  refine lv_aload_n hx hb dX8_know_41 rfl (lv_at hl 1 rfl) ?_
  refine x_getr (C := RX8) (k := 1) hx hb hts u_X8_know_8 hown hK hP (g_M_0 cI a s13) rfl (by decide) ⟨rfl, rfl, rfl⟩ k_X8_know_f7 rfl dX8_know_42 ?_
  refine lv_sipush (v := 350) hx hb dX8_know_45 (by decide +kernel) ?_
  refine lv_iload hx hb dX8_know_48 (lv_at hl 0 rfl) ?_
  refine x_iadd hx hb dX8_know_50 h (fun x14 h => ?_)
  refine lv_iload hx hb dX8_know_51 (lv_at hl 5 rfl) ?_
  refine x_iast (p_M cI a) (t0 := 0) hx hb hK hP hD hS ht h (g_M_1 cI a s13) (fun j9 v9 => (s_M_1 cI a s13 _)) dX8_know_53 (fun H locs s15 hP hS h => ?_)
  refine lv_aload_n hx hb dX8_know_54 rfl (lv_at hl 1 rfl) ?_
  refine x_getr (C := RX8) (k := 1) hx hb hts u_X8_know_8 hown hK hP (g_M_0 cI a s15) rfl (by decide) ⟨rfl, rfl, rfl⟩ k_X8_know_f7 rfl dX8_know_55 ?_
  refine lv_sipush (v := 450) hx hb dX8_know_58 (by decide +kernel) ?_
  refine lv_iload hx hb dX8_know_61 (lv_at hl 0 rfl) ?_
  refine x_iadd hx hb dX8_know_63 h (fun x16 h => ?_)
  refine lv_iload hx hb dX8_know_64 (lv_at hl 6 rfl) ?_
  refine x_iast (p_M cI a) (t0 := 0) hx hb hK hP hD hS ht h (g_M_1 cI a s15) (fun j9 v9 => (s_M_1 cI a s15 _)) dX8_know_66 (fun H locs s17 hP hS h => ?_)
  refine lv_aload_n hx hb dX8_know_67 rfl (lv_at hl 1 rfl) ?_
  refine x_getr (C := RX8) (k := 1) hx hb hts u_X8_know_8 hown hK hP (g_M_0 cI a s17) rfl (by decide) ⟨rfl, rfl, rfl⟩ k_X8_know_f7 rfl dX8_know_68 ?_
  refine lv_sipush (v := 550) hx hb dX8_know_71 (by decide +kernel) ?_
  refine lv_iload hx hb dX8_know_74 (lv_at hl 0 rfl) ?_
  refine x_iadd hx hb dX8_know_76 h (fun x18 h => ?_)
  refine lv_iconst (v := 0) hx hb dX8_know_77 (by decide +kernel) ?_
  refine x_iast (p_M cI a) (t0 := 0) hx hb hK hP hD hS ht h (g_M_1 cI a s17) (fun j9 v9 => (s_M_1 cI a s17 _)) dX8_know_78 (fun H locs s19 hP hS h => ?_)
  refine lv_aload_n hx hb dX8_know_79 rfl (lv_at hl 1 rfl) ?_
  refine x_getr (C := RX8) (k := 1) hx hb hts u_X8_know_8 hown hK hP (g_M_0 cI a s19) rfl (by decide) ⟨rfl, rfl, rfl⟩ k_X8_know_f7 rfl dX8_know_80 ?_
  refine lv_sipush (v := 130) hx hb dX8_know_83 (by decide +kernel) ?_
  refine lv_iload_n hx hb dX8_know_86 rfl (lv_at hl 2 rfl) ?_
  refine x_iadd hx hb dX8_know_87 h (fun x20 h => ?_)
  refine lv_dup2_11 hx hb dX8_know_88 rfl rfl ?_
  refine x_iald (t0 := 0) hx hb hK hP ht h (g_M_1 cI a s19) dX8_know_89 (fun x21 h => ?_)
  refine lv_iconst (v := 1) hx hb dX8_know_90 (by decide +kernel) ?_
  refine x_iadd hx hb dX8_know_91 h (fun x22 h => ?_)
  refine x_iast (p_M cI a) (t0 := 0) hx hb hK hP hD hS ht h (g_M_1 cI a s19) (fun j9 v9 => (s_M_1 cI a s19 _)) dX8_know_92 (fun H locs s23 hP hS h => ?_)
  exact x_vret (p_M cI a) hx hb hr hlocks hP hS dX8_know_93 h
/-! ===== VectorRoundsModel.router()I: world M ===== -/
theorem i_X8_router : yX8_router.cls = RX8 ∧ yX8_router.cls ≠ "java/lang/invoke/MethodHandle" ∧ yX8_router.cls ≠ "java/lang/invoke/VarHandle" ∧ (parseMethodDescriptor yX8_router.desc).map (fun d => d.parameters.length) = some 0 := by decide +kernel
theorem k_X8_router_f7 : Cond.fieldLink RX8 7 RX8 "s" "[I" ∈ wsX8_router := by decide +kernel
theorem u_X8_router_8 : ∀ w ∈ u_ws RX8 TX8 26, w ∈ wsX8_router := by decide +kernel
set_option maxHeartbeats 4000000 in
set_option maxRecDepth 100000 in
theorem c_X8_router (l : Launch) (D : va_G) (cI : ClassId) (tys : List (ClassId × FieldType)) (ht : tys[0]? = some (cI, .int)) (a : Nat → Nat) (σ : qM) : q_Met l yX8_router wsX8_router ({ frames := 1, cells := 0, slots := 0, locals := 26 }) [.ref (a 0)] D tys (p_M cI a) σ (f_X8_router σ) := by
  refine x_ofWi (cc := cX8_router) (maxL := 2) (ret := (some .int)) (by decide +kernel) rfl (pf_M cI a) (Nat.le_of_ble_eq_true rfl) ?_
  intro p e s m below meth c A ls qq h hx hb hml hr hlocks hown hts hK hP hD hA hS hl
  have hown : s.vm.findClass RX8 = some m.cls := hown
  have hl : lv_has ls 2 [(0, .ref (a 0))] := hl
  unfold f_X8_router at h
  refine lv_aload_n hx hb dX8_router_0 rfl (lv_at hl 0 rfl) ?_
  refine x_getr (C := RX8) (k := 1) hx hb hts u_X8_router_8 hown hK hP (g_M_0 cI a σ) rfl (by decide) ⟨rfl, rfl, rfl⟩ k_X8_router_f7 rfl dX8_router_1 ?_
  refine lv_iconst (v := 0) hx hb dX8_router_4 (by decide +kernel) ?_
  refine x_iald (t0 := 0) hx hb hK hP ht h (g_M_1 cI a σ) dX8_router_5 (fun x1 h => ?_)
  refine lv_bipush (v := 10) hx hb dX8_router_6 (by decide +kernel) ?_
  refine lv_icmp_ne (tgt := 14) hx hb dX8_router_8 (by decide) (fun c2 => ?_) (fun c2 => ?_)
  · have h := if_f c2 h
    refine lv_aload_n hx hb dX8_router_14 rfl (lv_at hl 0 rfl) ?_
    refine x_getr (C := RX8) (k := 1) hx hb hts u_X8_router_8 hown hK hP (g_M_0 cI a σ) rfl (by decide) ⟨rfl, rfl, rfl⟩ k_X8_router_f7 rfl dX8_router_15 ?_
    refine lv_iconst (v := 0) hx hb dX8_router_18 (by decide +kernel) ?_
    refine x_iald (t0 := 0) hx hb hK hP ht h (g_M_1 cI a σ) dX8_router_19 (fun x3 h => ?_)
    refine lv_istore_n (lv' := [(1, .int x3), (0, .ref (a 0))]) hx hb dX8_router_20 rfl hl (by decide) rfl (fun ls hl => ?_)
    refine lv_aload_n hx hb dX8_router_21 rfl (lv_at hl 1 rfl) ?_
    refine x_getr (C := RX8) (k := 1) hx hb hts u_X8_router_8 hown hK hP (g_M_0 cI a σ) rfl (by decide) ⟨rfl, rfl, rfl⟩ k_X8_router_f7 rfl dX8_router_22 ?_
    refine lv_iconst (v := 0) hx hb dX8_router_25 (by decide +kernel) ?_
    refine lv_dup2_11 hx hb dX8_router_26 rfl rfl ?_
    refine x_iald (t0 := 0) hx hb hK hP ht h (g_M_1 cI a σ) dX8_router_27 (fun x4 h => ?_)
    refine lv_iconst (v := 1) hx hb dX8_router_28 (by decide +kernel) ?_
    refine x_iadd hx hb dX8_router_29 h (fun x5 h => ?_)
    refine x_iast (p_M cI a) (t0 := 0) hx hb hK hP hD hS ht h (g_M_1 cI a σ) (fun j9 v9 => (s_M_1 cI a σ _)) dX8_router_30 (fun H locs s6 hP hS h => ?_)
    refine lv_aload_n hx hb dX8_router_31 rfl (lv_at hl 1 rfl) ?_
    refine lv_iload_n hx hb dX8_router_32 rfl (lv_at hl 0 rfl) ?_
    refine lv_iload_n hx hb dX8_router_33 rfl (lv_at hl 0 rfl) ?_
    refine lv_iconst (v := 0) hx hb dX8_router_34 (by decide +kernel) ?_
    refine lv_iload_n hx hb dX8_router_35 rfl (lv_at hl 0 rfl) ?_
    refine lv_iconst (v := 0) hx hb dX8_router_36 (by decide +kernel) ?_
    refine x_cVv (p_M cI a) (p_M cI a) (fun τ => τ) [] [.int x3, .int x3, .int 0, .int x3, .int 0] hx hb hml hl.1 hown hts hK hP hD hS hA rfl (c_X8_know l D cI tys ht a s6 x3 x3 0 x3 0) gX8_router_X8_know rfl ⟨rfl, rfl⟩ i_X8_know ⟨Nat.le_of_ble_eq_true rfl, Nat.le_of_ble_eq_true rfl⟩ q_frI (g_M_0 cI a s6) rfl rfl (Nat.le_of_ble_eq_true rfl) ⟨Nat.zero_le _, Nat.zero_le _⟩ dX8_router_37 h (fun H locs s7 hP hS h => ?_)
    refine lv_iload_n hx hb dX8_router_40 rfl (lv_at hl 0 rfl) ?_
    exact x_iret (p_M cI a) hx hb hr hlocks hP hS dX8_router_41 h
  · have h := if_t c2 h
    refine lv_bipush (v := (-3)) hx hb dX8_router_11 (by decide +kernel) ?_
    exact x_iret (p_M cI a) hx hb hr hlocks hP hS dX8_router_13 h
/-! ===== VectorRoundsModel.linkOf(II)I: world M ===== -/
theorem i_X8_linkOf : yX8_linkOf.cls = RX8 ∧ yX8_linkOf.cls ≠ "java/lang/invoke/MethodHandle" ∧ yX8_linkOf.cls ≠ "java/lang/invoke/VarHandle" ∧ (parseMethodDescriptor yX8_linkOf.desc).map (fun d => d.parameters.length) = some 2 := by decide +kernel
theorem k_X8_linkOf_f7 : Cond.fieldLink RX8 7 RX8 "s" "[I" ∈ wsX8_linkOf := by decide +kernel
theorem k_X8_linkOf_m83 : Cond.methodLink RX8 83 Lib.Math.min.name ∈ wsX8_linkOf ∧ Cond.static Lib.Math.min.name ∈ wsX8_linkOf ∧ Cond.initialized "java/lang/Math" ∈ wsX8_linkOf ∧ Cond.code Lib.Math.min.name Lib.Math.min.code 2 (some .int) ∈ wsX8_linkOf := by decide +kernel
theorem k_X8_linkOf_m89 : Cond.methodLink RX8 89 Lib.Math.max.name ∈ wsX8_linkOf ∧ Cond.static Lib.Math.max.name ∈ wsX8_linkOf ∧ Cond.initialized "java/lang/Math" ∈ wsX8_linkOf ∧ Cond.code Lib.Math.max.name Lib.Math.max.code 2 (some .int) ∈ wsX8_linkOf := by decide +kernel
theorem u_X8_linkOf_8 : ∀ w ∈ u_ws RX8 TX8 26, w ∈ wsX8_linkOf := by decide +kernel
set_option maxHeartbeats 4000000 in
set_option maxRecDepth 100000 in
theorem c_X8_linkOf (l : Launch) (D : va_G) (cI : ClassId) (tys : List (ClassId × FieldType)) (ht : tys[0]? = some (cI, .int)) (a : Nat → Nat) (σ : qM) (x1 : Int32) (x2 : Int32) : q_Met l yX8_linkOf wsX8_linkOf ({ frames := 1, cells := 0, slots := 0, locals := 40 }) [.ref (a 0), .int x1, .int x2] D tys (p_M cI a) σ (f_X8_linkOf σ x1 x2) := by
  refine x_ofWi (cc := cX8_linkOf) (maxL := 4) (ret := (some .int)) (by decide +kernel) rfl (pf_M cI a) (Nat.le_of_ble_eq_true rfl) ?_
  intro p e s m below meth c A ls qq h hx hb hml hr hlocks hown hts hK hP hD hA hS hl
  have hown : s.vm.findClass RX8 = some m.cls := hown
  have hl : lv_has ls 4 [(0, .ref (a 0)), (1, .int x1), (2, .int x2)] := hl
  have main : ∀ k9 : Nat, (∀ (σ : qM) (x3 x4 x5 : Int32) (H : Heap) (locs : List Loc) (ls : Array Slot), q_it (D_X8_linkOf) k9 0 σ [x3, x4, x5] = some qq → va_P D vwCl (p_M cI a σ) H → va_S A s.heap H locs → lv_has ls 4 [(0, .ref (a 0)), (1, .int x3), (2, .int x4), (3, .int x5)] → W p l e ({ frames := 1, cells := 0, slots := 0, locals := 40 }) s m [.ref (a 0), .int x1, .int x2].toArray below meth c H locs 0 0 (MQ below (va_Qi (fun r τ => (r, τ) = qq) (fun τ t => va_P D vwCl ((p_M cI a) τ) t.heap) A) [.ref (a 0), .int x1, .int x2].toArray s 0 0 A) (F0 m 2 ls [])) := by
    intro k9
    induction k9 with
    | zero => exact (fun _ _ _ _ _ _ _ h _ _ _ => (q_no (show (none : qR) = some qq from h)).elim)
    | succ k9 ih =>
      have i2 := ih
      refine ?_
      · intro σ x3 x4 x5 H locs ls h hP hS hl
        have h : b_X8_linkOf_2 (q_it (D_X8_linkOf) k9) σ x3 x4 x5 = some qq := h
        unfold b_X8_linkOf_2 at h
        refine lv_iload_n hx hb dX8_linkOf_2 rfl (lv_at hl 3 rfl) ?_
        refine lv_aload_n hx hb dX8_linkOf_3 rfl (lv_at hl 0 rfl) ?_
        refine x_getr (C := RX8) (k := 1) hx hb hts u_X8_linkOf_8 hown hK hP (g_M_0 cI a σ) rfl (by decide) ⟨rfl, rfl, rfl⟩ k_X8_linkOf_f7 rfl dX8_linkOf_4 ?_
        refine lv_iconst (v := 1) hx hb dX8_linkOf_7 (by decide +kernel) ?_
        refine x_iald (t0 := 0) hx hb hK hP ht h (g_M_1 cI a σ) dX8_linkOf_8 (fun x6 h => ?_)
        refine lv_icmp_ge (tgt := 54) hx hb dX8_linkOf_9 (by decide) (fun c7 => ?_) (fun c7 => ?_)
        · have h := if_t c7 h
          refine lv_iconst (v := (-1)) hx hb dX8_linkOf_54 (by decide +kernel) ?_
          exact x_iret (p_M cI a) hx hb hr hlocks hP hS dX8_linkOf_55 h
        · have h := if_f c7 h
          refine lv_aload_n hx hb dX8_linkOf_12 rfl (lv_at hl 0 rfl) ?_
          refine x_getr (C := RX8) (k := 1) hx hb hts u_X8_linkOf_8 hown hK hP (g_M_0 cI a σ) rfl (by decide) ⟨rfl, rfl, rfl⟩ k_X8_linkOf_f7 rfl dX8_linkOf_13 ?_
          refine lv_bipush (v := 10) hx hb dX8_linkOf_16 (by decide +kernel) ?_
          refine lv_iload_n hx hb dX8_linkOf_18 rfl (lv_at hl 3 rfl) ?_
          refine x_iadd hx hb dX8_linkOf_19 h (fun x8 h => ?_)
          refine x_iald (t0 := 0) hx hb hK hP ht h (g_M_1 cI a σ) dX8_linkOf_20 (fun x9 h => ?_)
          refine lv_iload_n hx hb dX8_linkOf_21 rfl (lv_at hl 1 rfl) ?_
          refine lv_iload_n hx hb dX8_linkOf_22 rfl (lv_at hl 2 rfl) ?_
          refine x_mmin hx hb (hml.trans hl.1.symm) hown hts k_X8_linkOf_m83 ⟨Nat.le_of_ble_eq_true rfl, Nat.le_of_ble_eq_true rfl, Nat.zero_le _, Nat.zero_le _⟩ dX8_linkOf_23 h (fun x10 h => ?_)
          refine lv_icmp_ne (tgt := 48) hx hb dX8_linkOf_26 (by decide) (fun c11 => ?_) (fun c11 => ?_)
          · have h := if_f c11 h
            refine x_iinc (k := 3) (w := 1) hx hb dX8_linkOf_48 hl rfl (by decide +kernel) (by decide) (fun v9 => [(3, .int v9), (0, .ref (a 0)), (1, .int x3), (2, .int x4)]) (fun v9 => rfl) h (fun x12 ls hl h => ?_)
            have hl : lv_has ls 4 [(3, .int x12), (0, .ref (a 0)), (1, .int x3), (2, .int x4)] := hl
            refine lv_goto (tgt := 2) hx hb dX8_linkOf_51 (by decide) ?_
            exact i2 σ x3 x4 x12 _ _ _ h hP hS (lv_sub hl [1, 2, 3, 0] rfl)
          · have h := if_t c11 h
            refine lv_aload_n hx hb dX8_linkOf_29 rfl (lv_at hl 0 rfl) ?_
            refine x_getr (C := RX8) (k := 1) hx hb hts u_X8_linkOf_8 hown hK hP (g_M_0 cI a σ) rfl (by decide) ⟨rfl, rfl, rfl⟩ k_X8_linkOf_f7 rfl dX8_linkOf_30 ?_
            refine lv_bipush (v := 40) hx hb dX8_linkOf_33 (by decide +kernel) ?_
            refine lv_iload_n hx hb dX8_linkOf_35 rfl (lv_at hl 3 rfl) ?_
            refine x_iadd hx hb dX8_linkOf_36 h (fun x13 h => ?_)
            refine x_iald (t0 := 0) hx hb hK hP ht h (g_M_1 cI a σ) dX8_linkOf_37 (fun x14 h => ?_)
            refine lv_iload_n hx hb dX8_linkOf_38 rfl (lv_at hl 1 rfl) ?_
            refine lv_iload_n hx hb dX8_linkOf_39 rfl (lv_at hl 2 rfl) ?_
            refine x_mmax hx hb (hml.trans hl.1.symm) hown hts k_X8_linkOf_m89 ⟨Nat.le_of_ble_eq_true rfl, Nat.le_of_ble_eq_true rfl, Nat.zero_le _, Nat.zero_le _⟩ dX8_linkOf_40 h (fun x15 h => ?_)
            refine lv_icmp_ne (tgt := 48) hx hb dX8_linkOf_43 (by decide) (fun c16 => ?_) (fun c16 => ?_)
            · have h := if_f c16 h
              refine x_iinc (k := 3) (w := 1) hx hb dX8_linkOf_48 hl rfl (by decide +kernel) (by decide) (fun v9 => [(3, .int v9), (0, .ref (a 0)), (1, .int x3), (2, .int x4)]) (fun v9 => rfl) h (fun x17 ls hl h => ?_)
              have hl : lv_has ls 4 [(3, .int x17), (0, .ref (a 0)), (1, .int x3), (2, .int x4)] := hl
              refine lv_goto (tgt := 2) hx hb dX8_linkOf_51 (by decide) ?_
              exact i2 σ x3 x4 x17 _ _ _ h hP hS (lv_sub hl [1, 2, 3, 0] rfl)
            · have h := if_t c16 h
              refine lv_iload_n hx hb dX8_linkOf_46 rfl (lv_at hl 3 rfl) ?_
              exact x_iret (p_M cI a) hx hb hr hlocks hP hS dX8_linkOf_47 h
  have i2 : ∀ (σ : qM) (x3 x4 x5 : Int32) (H : Heap) (locs : List Loc) (ls : Array Slot), q_lim (D_X8_linkOf) 0 σ [x3, x4, x5] = some qq → va_P D vwCl (p_M cI a σ) H → va_S A s.heap H locs → lv_has ls 4 [(0, .ref (a 0)), (1, .int x3), (2, .int x4), (3, .int x5)] → W p l e ({ frames := 1, cells := 0, slots := 0, locals := 40 }) s m [.ref (a 0), .int x1, .int x2].toArray below meth c H locs 0 0 (MQ below (va_Qi (fun r τ => (r, τ) = qq) (fun τ t => va_P D vwCl ((p_M cI a) τ) t.heap) A) [.ref (a 0), .int x1, .int x2].toArray s 0 0 A) (F0 m 2 ls []) := by
    intro σ x3 x4 x5 H locs ls h hP hS hl
    obtain ⟨k9, h⟩ := q_lim_n h
    exact (main k9) σ x3 x4 x5 H locs ls h hP hS hl
  have h : e_X8_linkOf (q_lim (D_X8_linkOf)) σ x1 x2 = some qq := h
  unfold e_X8_linkOf at h
  refine lv_iconst (v := 0) hx hb dX8_linkOf_0 (by decide +kernel) ?_
  refine lv_istore_n (lv' := [(3, .int 0), (0, .ref (a 0)), (1, .int x1), (2, .int x2)]) hx hb dX8_linkOf_1 rfl hl (by decide) rfl (fun ls hl => ?_)
  exact i2 σ x1 x2 0 _ _ _ h hP hS (lv_sub hl [1, 2, 3, 0] rfl)
/-! ===== VectorRoundsModel.addLink(III)V: world M ===== -/
theorem i_X8_addLink : yX8_addLink.cls = RX8 ∧ yX8_addLink.cls ≠ "java/lang/invoke/MethodHandle" ∧ yX8_addLink.cls ≠ "java/lang/invoke/VarHandle" ∧ (parseMethodDescriptor yX8_addLink.desc).map (fun d => d.parameters.length) = some 3 := by decide +kernel
theorem k_X8_addLink_f7 : Cond.fieldLink RX8 7 RX8 "s" "[I" ∈ wsX8_addLink := by decide +kernel
theorem k_X8_addLink_m83 : Cond.methodLink RX8 83 Lib.Math.min.name ∈ wsX8_addLink ∧ Cond.static Lib.Math.min.name ∈ wsX8_addLink ∧ Cond.initialized "java/lang/Math" ∈ wsX8_addLink ∧ Cond.code Lib.Math.min.name Lib.Math.min.code 2 (some .int) ∈ wsX8_addLink := by decide +kernel
theorem k_X8_addLink_m89 : Cond.methodLink RX8 89 Lib.Math.max.name ∈ wsX8_addLink ∧ Cond.static Lib.Math.max.name ∈ wsX8_addLink ∧ Cond.initialized "java/lang/Math" ∈ wsX8_addLink ∧ Cond.code Lib.Math.max.name Lib.Math.max.code 2 (some .int) ∈ wsX8_addLink := by decide +kernel
theorem u_X8_addLink_8 : ∀ w ∈ u_ws RX8 TX8 26, w ∈ wsX8_addLink := by decide +kernel
set_option maxHeartbeats 4000000 in
set_option maxRecDepth 100000 in
theorem c_X8_addLink (l : Launch) (D : va_G) (cI : ClassId) (tys : List (ClassId × FieldType)) (ht : tys[0]? = some (cI, .int)) (a : Nat → Nat) (σ : qM) (x1 : Int32) (x2 : Int32) (x3 : Int32) : q_Mev l yX8_addLink wsX8_addLink ({ frames := 1, cells := 0, slots := 0, locals := 40 }) [.ref (a 0), .int x1, .int x2, .int x3] D tys (p_M cI a) σ (f_X8_addLink σ x1 x2 x3) := by
  refine x_ofWv (cc := cX8_addLink) (maxL := 5) (ret := none) (by decide +kernel) rfl (pf_M cI a) (Nat.le_of_ble_eq_true rfl) ?_
  intro p e s m below meth c A ls qq h hx hb hml hr hlocks hown hts hK hP hD hA hS hl
  have hown : s.vm.findClass RX8 = some m.cls := hown
  have hl : lv_has ls 5 [(0, .ref (a 0)), (1, .int x1), (2, .int x2), (3, .int x3)] := hl
  unfold f_X8_addLink at h
  refine lv_aload_n hx hb dX8_addLink_0 rfl (lv_at hl 0 rfl) ?_
  refine x_getr (C := RX8) (k := 1) hx hb hts u_X8_addLink_8 hown hK hP (g_M_0 cI a σ) rfl (by decide) ⟨rfl, rfl, rfl⟩ k_X8_addLink_f7 rfl dX8_addLink_1 ?_
  refine lv_iconst (v := 1) hx hb dX8_addLink_4 (by decide +kernel) ?_
  refine x_iald (t0 := 0) hx hb hK hP ht h (g_M_1 cI a σ) dX8_addLink_5 (fun x4 h => ?_)
  refine lv_istore (lv' := [(4, .int x4), (0, .ref (a 0)), (1, .int x1), (2, .int x2), (3, .int x3)]) hx hb dX8_addLink_6 hl (by decide) rfl (fun ls hl => ?_)
  refine lv_aload_n hx hb dX8_addLink_8 rfl (lv_at hl 1 rfl) ?_
  refine x_getr (C := RX8) (k := 1) hx hb hts u_X8_addLink_8 hown hK hP (g_M_0 cI a σ) rfl (by decide) ⟨rfl, rfl, rfl⟩ k_X8_addLink_f7 rfl dX8_addLink_9 ?_
  refine lv_bipush (v := 10) hx hb dX8_addLink_12 (by decide +kernel) ?_
  refine lv_iload hx hb dX8_addLink_14 (lv_at hl 0 rfl) ?_
  refine x_iadd hx hb dX8_addLink_16 h (fun x5 h => ?_)
  refine lv_iload_n hx hb dX8_addLink_17 rfl (lv_at hl 2 rfl) ?_
  refine lv_iload_n hx hb dX8_addLink_18 rfl (lv_at hl 3 rfl) ?_
  refine x_mmin hx hb (hml.trans hl.1.symm) hown hts k_X8_addLink_m83 ⟨Nat.le_of_ble_eq_true rfl, Nat.le_of_ble_eq_true rfl, Nat.zero_le _, Nat.zero_le _⟩ dX8_addLink_19 h (fun x6 h => ?_)
  refine x_iast (p_M cI a) (t0 := 0) hx hb hK hP hD hS ht h (g_M_1 cI a σ) (fun j9 v9 => (s_M_1 cI a σ _)) dX8_addLink_22 (fun H locs s7 hP hS h => ?_)
  refine lv_aload_n hx hb dX8_addLink_23 rfl (lv_at hl 1 rfl) ?_
  refine x_getr (C := RX8) (k := 1) hx hb hts u_X8_addLink_8 hown hK hP (g_M_0 cI a s7) rfl (by decide) ⟨rfl, rfl, rfl⟩ k_X8_addLink_f7 rfl dX8_addLink_24 ?_
  refine lv_bipush (v := 40) hx hb dX8_addLink_27 (by decide +kernel) ?_
  refine lv_iload hx hb dX8_addLink_29 (lv_at hl 0 rfl) ?_
  refine x_iadd hx hb dX8_addLink_31 h (fun x8 h => ?_)
  refine lv_iload_n hx hb dX8_addLink_32 rfl (lv_at hl 2 rfl) ?_
  refine lv_iload_n hx hb dX8_addLink_33 rfl (lv_at hl 3 rfl) ?_
  refine x_mmax hx hb (hml.trans hl.1.symm) hown hts k_X8_addLink_m89 ⟨Nat.le_of_ble_eq_true rfl, Nat.le_of_ble_eq_true rfl, Nat.zero_le _, Nat.zero_le _⟩ dX8_addLink_34 h (fun x9 h => ?_)
  refine x_iast (p_M cI a) (t0 := 0) hx hb hK hP hD hS ht h (g_M_1 cI a s7) (fun j9 v9 => (s_M_1 cI a s7 _)) dX8_addLink_37 (fun H locs s10 hP hS h => ?_)
  refine lv_aload_n hx hb dX8_addLink_38 rfl (lv_at hl 1 rfl) ?_
  refine x_getr (C := RX8) (k := 1) hx hb hts u_X8_addLink_8 hown hK hP (g_M_0 cI a s10) rfl (by decide) ⟨rfl, rfl, rfl⟩ k_X8_addLink_f7 rfl dX8_addLink_39 ?_
  refine lv_bipush (v := 70) hx hb dX8_addLink_42 (by decide +kernel) ?_
  refine lv_iload hx hb dX8_addLink_44 (lv_at hl 0 rfl) ?_
  refine x_iadd hx hb dX8_addLink_46 h (fun x11 h => ?_)
  refine lv_iload_n hx hb dX8_addLink_47 rfl (lv_at hl 4 rfl) ?_
  refine x_iast (p_M cI a) (t0 := 0) hx hb hK hP hD hS ht h (g_M_1 cI a s10) (fun j9 v9 => (s_M_1 cI a s10 _)) dX8_addLink_48 (fun H locs s12 hP hS h => ?_)
  refine lv_aload_n hx hb dX8_addLink_49 rfl (lv_at hl 1 rfl) ?_
  refine x_getr (C := RX8) (k := 1) hx hb hts u_X8_addLink_8 hown hK hP (g_M_0 cI a s12) rfl (by decide) ⟨rfl, rfl, rfl⟩ k_X8_addLink_f7 rfl dX8_addLink_50 ?_
  refine lv_bipush (v := 100) hx hb dX8_addLink_53 (by decide +kernel) ?_
  refine lv_iload hx hb dX8_addLink_55 (lv_at hl 0 rfl) ?_
  refine x_iadd hx hb dX8_addLink_57 h (fun x13 h => ?_)
  refine lv_iconst (v := 1) hx hb dX8_addLink_58 (by decide +kernel) ?_
  refine x_iast (p_M cI a) (t0 := 0) hx hb hK hP hD hS ht h (g_M_1 cI a s12) (fun j9 v9 => (s_M_1 cI a s12 _)) dX8_addLink_59 (fun H locs s14 hP hS h => ?_)
  refine lv_aload_n hx hb dX8_addLink_60 rfl (lv_at hl 1 rfl) ?_
  refine x_getr (C := RX8) (k := 1) hx hb hts u_X8_addLink_8 hown hK hP (g_M_0 cI a s14) rfl (by decide) ⟨rfl, rfl, rfl⟩ k_X8_addLink_f7 rfl dX8_addLink_61 ?_
  refine lv_iconst (v := 1) hx hb dX8_addLink_64 (by decide +kernel) ?_
  refine lv_dup2_11 hx hb dX8_addLink_65 rfl rfl ?_
  refine x_iald (t0 := 0) hx hb hK hP ht h (g_M_1 cI a s14) dX8_addLink_66 (fun x15 h => ?_)
  refine lv_iconst (v := 1) hx hb dX8_addLink_67 (by decide +kernel) ?_
  refine x_iadd hx hb dX8_addLink_68 h (fun x16 h => ?_)
  refine x_iast (p_M cI a) (t0 := 0) hx hb hK hP hD hS ht h (g_M_1 cI a s14) (fun j9 v9 => (s_M_1 cI a s14 _)) dX8_addLink_69 (fun H locs s17 hP hS h => ?_)
  exact x_vret (p_M cI a) hx hb hr hlocks hP hS dX8_addLink_70 h
/-! ===== VectorRoundsModel.link(III)I: world M ===== -/
theorem i_X8_link : yX8_link.cls = RX8 ∧ yX8_link.cls ≠ "java/lang/invoke/MethodHandle" ∧ yX8_link.cls ≠ "java/lang/invoke/VarHandle" ∧ (parseMethodDescriptor yX8_link.desc).map (fun d => d.parameters.length) = some 3 := by decide +kernel
theorem k_X8_link_f7 : Cond.fieldLink RX8 7 RX8 "s" "[I" ∈ wsX8_link := by decide +kernel
theorem u_X8_link_8 : ∀ w ∈ u_ws RX8 TX8 26, w ∈ wsX8_link := by decide +kernel
set_option maxHeartbeats 4000000 in
set_option maxRecDepth 100000 in
theorem c_X8_link (l : Launch) (D : va_G) (cI : ClassId) (tys : List (ClassId × FieldType)) (ht : tys[0]? = some (cI, .int)) (a : Nat → Nat) (σ : qM) (x1 : Int32) (x2 : Int32) (x3 : Int32) : q_Met l yX8_link wsX8_link ({ frames := 2, cells := 0, slots := 0, locals := 64 }) [.ref (a 0), .int x1, .int x2, .int x3] D tys (p_M cI a) σ (f_X8_link σ x1 x2 x3) := by
  refine x_ofWi (cc := cX8_link) (maxL := 4) (ret := (some .int)) (by decide +kernel) rfl (pf_M cI a) (Nat.le_of_ble_eq_true rfl) ?_
  intro p e s m below meth c A ls qq h hx hb hml hr hlocks hown hts hK hP hD hA hS hl
  have hown : s.vm.findClass RX8 = some m.cls := hown
  have hl : lv_has ls 4 [(0, .ref (a 0)), (1, .int x1), (2, .int x2), (3, .int x3)] := hl
  unfold f_X8_link at h
  refine lv_aload_n hx hb dX8_link_0 rfl (lv_at hl 0 rfl) ?_
  refine lv_iload_n hx hb dX8_link_1 rfl (lv_at hl 1 rfl) ?_
  refine x_cVi (p_M cI a) (p_M cI a) (fun τ => τ) [] [.int x1] hx hb hml hl.1 hown hts hK hP hD hS hA rfl (c_X8_isRouter l D cI tys ht a σ x1) gX8_link_X8_isRouter rfl ⟨rfl, rfl⟩ i_X8_isRouter ⟨Nat.le_of_ble_eq_true rfl, Nat.le_of_ble_eq_true rfl⟩ q_frI (g_M_0 cI a σ) rfl rfl (Nat.le_of_ble_eq_true rfl) ⟨Nat.zero_le _, Nat.zero_le _⟩ dX8_link_2 h (fun x5 H locs s4 hP hS h => ?_)
  refine lv_if_eq (tgt := 31) hx hb dX8_link_5 (by decide) (fun c6 => ?_) (fun c6 => ?_)
  · have h := if_t c6 h
    refine lv_iconst (v := (-1)) hx hb dX8_link_31 (by decide +kernel) ?_
    exact x_iret (p_M cI a) hx hb hr hlocks hP hS dX8_link_32 h
  · have h := if_f c6 h
    refine lv_aload_n hx hb dX8_link_8 rfl (lv_at hl 0 rfl) ?_
    refine lv_iload_n hx hb dX8_link_9 rfl (lv_at hl 2 rfl) ?_
    refine x_cVi (p_M cI a) (p_M cI a) (fun τ => τ) [] [.int x2] hx hb hml hl.1 hown hts hK hP hD hS hA rfl (c_X8_isRouter l D cI tys ht a s4 x2) gX8_link_X8_isRouter rfl ⟨rfl, rfl⟩ i_X8_isRouter ⟨Nat.le_of_ble_eq_true rfl, Nat.le_of_ble_eq_true rfl⟩ q_frI (g_M_0 cI a s4) rfl rfl (Nat.le_of_ble_eq_true rfl) ⟨Nat.zero_le _, Nat.zero_le _⟩ dX8_link_10 h (fun x8 H locs s7 hP hS h => ?_)
    refine lv_if_eq (tgt := 31) hx hb dX8_link_13 (by decide) (fun c9 => ?_) (fun c9 => ?_)
    · have h := if_t c9 h
      refine lv_iconst (v := (-1)) hx hb dX8_link_31 (by decide +kernel) ?_
      exact x_iret (p_M cI a) hx hb hr hlocks hP hS dX8_link_32 h
    · have h := if_f c9 h
      refine lv_iload_n hx hb dX8_link_16 rfl (lv_at hl 1 rfl) ?_
      refine lv_iload_n hx hb dX8_link_17 rfl (lv_at hl 2 rfl) ?_
      refine lv_icmp_eq (tgt := 31) hx hb dX8_link_18 (by decide) (fun c10 => ?_) (fun c10 => ?_)
      · have h := if_t c10 h
        refine lv_iconst (v := (-1)) hx hb dX8_link_31 (by decide +kernel) ?_
        exact x_iret (p_M cI a) hx hb hr hlocks hP hS dX8_link_32 h
      · have h := if_f c10 h
        refine lv_iload_n hx hb dX8_link_21 rfl (lv_at hl 3 rfl) ?_
        refine lv_iconst (v := 1) hx hb dX8_link_22 (by decide +kernel) ?_
        refine lv_bipush (v := 15) hx hb dX8_link_23 (by decide +kernel) ?_
        refine x_cSi (p_M cI a) (fun _ => []) (fun _ => s7) [] [.int x3, .int 1, .int 15] hx hb hml hl.1 hown hts hK hP hD hS hA rfl (c_X8_in l D cI tys ht s7 x3 1 15) gX8_link_X8_in rfl ⟨rfl, rfl⟩ i_X8_in ⟨Nat.le_of_ble_eq_true rfl, Nat.le_of_ble_eq_true rfl⟩ (q_fr0 (fun _ => rfl)) rfl (Nat.le_of_ble_eq_true rfl) ⟨Nat.zero_le _, Nat.zero_le _⟩ dX8_link_25 h (fun x12 H locs s11 hP hS h => ?_)
        refine lv_if_ne (tgt := 33) hx hb dX8_link_28 (by decide) (fun c13 => ?_) (fun c13 => ?_)
        · have h := if_f c13 h
          refine lv_aload_n hx hb dX8_link_33 rfl (lv_at hl 0 rfl) ?_
          refine lv_iload_n hx hb dX8_link_34 rfl (lv_at hl 1 rfl) ?_
          refine lv_iload_n hx hb dX8_link_35 rfl (lv_at hl 2 rfl) ?_
          refine x_cVi (p_M cI a) (p_M cI a) (fun τ => τ) [] [.int x1, .int x2] hx hb hml hl.1 hown hts hK hP hD hS hA rfl (c_X8_linkOf l D cI tys ht a s11 x1 x2) gX8_link_X8_linkOf rfl ⟨rfl, rfl⟩ i_X8_linkOf ⟨Nat.le_of_ble_eq_true rfl, Nat.le_of_ble_eq_true rfl⟩ q_frI (g_M_0 cI a s11) rfl rfl (Nat.le_of_ble_eq_true rfl) ⟨Nat.zero_le _, Nat.zero_le _⟩ dX8_link_36 h (fun x15 H locs s14 hP hS h => ?_)
          refine lv_if_lt (tgt := 45) hx hb dX8_link_39 (by decide) (fun c16 => ?_) (fun c16 => ?_)
          · have h := if_t c16 h
            refine lv_aload_n hx hb dX8_link_45 rfl (lv_at hl 0 rfl) ?_
            refine x_getr (C := RX8) (k := 1) hx hb hts u_X8_link_8 hown hK hP (g_M_0 cI a s14) rfl (by decide) ⟨rfl, rfl, rfl⟩ k_X8_link_f7 rfl dX8_link_46 ?_
            refine lv_iconst (v := 1) hx hb dX8_link_49 (by decide +kernel) ?_
            refine x_iald (t0 := 0) hx hb hK hP ht h (g_M_1 cI a s14) dX8_link_50 (fun x17 h => ?_)
            refine lv_bipush (v := 24) hx hb dX8_link_51 (by decide +kernel) ?_
            refine lv_icmp_ne (tgt := 59) hx hb dX8_link_53 (by decide) (fun c18 => ?_) (fun c18 => ?_)
            · have h := if_f c18 h
              refine lv_aload_n hx hb dX8_link_59 rfl (lv_at hl 0 rfl) ?_
              refine lv_iload_n hx hb dX8_link_60 rfl (lv_at hl 1 rfl) ?_
              refine lv_iload_n hx hb dX8_link_61 rfl (lv_at hl 2 rfl) ?_
              refine lv_iload_n hx hb dX8_link_62 rfl (lv_at hl 3 rfl) ?_
              refine x_cVv (p_M cI a) (p_M cI a) (fun τ => τ) [] [.int x1, .int x2, .int x3] hx hb hml hl.1 hown hts hK hP hD hS hA rfl (c_X8_addLink l D cI tys ht a s14 x1 x2 x3) gX8_link_X8_addLink rfl ⟨rfl, rfl⟩ i_X8_addLink ⟨Nat.le_of_ble_eq_true rfl, Nat.le_of_ble_eq_true rfl⟩ q_frI (g_M_0 cI a s14) rfl rfl (Nat.le_of_ble_eq_true rfl) ⟨Nat.zero_le _, Nat.zero_le _⟩ dX8_link_63 h (fun H locs s19 hP hS h => ?_)
              refine lv_aload_n hx hb dX8_link_66 rfl (lv_at hl 0 rfl) ?_
              refine x_getr (C := RX8) (k := 1) hx hb hts u_X8_link_8 hown hK hP (g_M_0 cI a s19) rfl (by decide) ⟨rfl, rfl, rfl⟩ k_X8_link_f7 rfl dX8_link_67 ?_
              refine lv_iconst (v := 1) hx hb dX8_link_70 (by decide +kernel) ?_
              refine x_iald (t0 := 0) hx hb hK hP ht h (g_M_1 cI a s19) dX8_link_71 (fun x20 h => ?_)
              refine lv_iconst (v := 1) hx hb dX8_link_72 (by decide +kernel) ?_
              refine x_isub hx hb dX8_link_73 h (fun x21 h => ?_)
              exact x_iret (p_M cI a) hx hb hr hlocks hP hS dX8_link_74 h
            · have h := if_t c18 h
              refine lv_bipush (v := (-3)) hx hb dX8_link_56 (by decide +kernel) ?_
              exact x_iret (p_M cI a) hx hb hr hlocks hP hS dX8_link_58 h
          · have h := if_f c16 h
            refine lv_bipush (v := (-5)) hx hb dX8_link_42 (by decide +kernel) ?_
            exact x_iret (p_M cI a) hx hb hr hlocks hP hS dX8_link_44 h
        · have h := if_t c13 h
          refine lv_iconst (v := (-1)) hx hb dX8_link_31 (by decide +kernel) ?_
          exact x_iret (p_M cI a) hx hb hr hlocks hP hS dX8_link_32 h
/-! ===== VectorRoundsModel.lose(II)V: world M ===== -/
theorem i_X8_lose : yX8_lose.cls = RX8 ∧ yX8_lose.cls ≠ "java/lang/invoke/MethodHandle" ∧ yX8_lose.cls ≠ "java/lang/invoke/VarHandle" ∧ (parseMethodDescriptor yX8_lose.desc).map (fun d => d.parameters.length) = some 2 := by decide +kernel
theorem k_X8_lose_f7 : Cond.fieldLink RX8 7 RX8 "s" "[I" ∈ wsX8_lose := by decide +kernel
theorem u_X8_lose_8 : ∀ w ∈ u_ws RX8 TX8 26, w ∈ wsX8_lose := by decide +kernel
set_option maxHeartbeats 4000000 in
set_option maxRecDepth 100000 in
theorem c_X8_lose (l : Launch) (D : va_G) (cI : ClassId) (tys : List (ClassId × FieldType)) (ht : tys[0]? = some (cI, .int)) (a : Nat → Nat) (σ : qM) (x1 : Int32) (x2 : Int32) : q_Mev l yX8_lose wsX8_lose ({ frames := 0, cells := 0, slots := 0, locals := 0 }) [.ref (a 0), .int x1, .int x2] D tys (p_M cI a) σ (f_X8_lose σ x1 x2) := by
  refine x_ofWv (cc := cX8_lose) (maxL := 4) (ret := none) (by decide +kernel) rfl (pf_M cI a) (Nat.le_of_ble_eq_true rfl) ?_
  intro p e s m below meth c A ls qq h hx hb hml hr hlocks hown hts hK hP hD hA hS hl
  have hown : s.vm.findClass RX8 = some m.cls := hown
  have hl : lv_has ls 4 [(0, .ref (a 0)), (1, .int x1), (2, .int x2)] := hl
  have main : ∀ k9 : Nat, (∀ (σ : qM) (x4 x5 x6 : Int32) (H : Heap) (locs : List Loc) (ls : Array Slot), q_it (D_X8_lose) k9 0 σ [x4, x5, x6] = some qq → va_P D vwCl (p_M cI a σ) H → va_S A s.heap H locs → lv_has ls 4 [(0, .ref (a 0)), (1, .int x4), (2, .int x5), (3, .int x6)] → W p l e ({ frames := 0, cells := 0, slots := 0, locals := 0 }) s m [.ref (a 0), .int x1, .int x2].toArray below meth c H locs 0 0 (MQ below (va_Qv (fun τ => ((0 : Int32), τ) = qq) (fun τ t => va_P D vwCl ((p_M cI a) τ) t.heap) A) [.ref (a 0), .int x1, .int x2].toArray s 0 0 A) (F0 m 5 ls [])) := by
    intro k9
    induction k9 with
    | zero => exact (fun _ _ _ _ _ _ _ h _ _ _ => (q_no (show (none : qR) = some qq from h)).elim)
    | succ k9 ih =>
      have i5 := ih
      refine ?_
      · intro σ x4 x5 x6 H locs ls h hP hS hl
        have h : b_X8_lose_5 (q_it (D_X8_lose) k9) σ x4 x5 x6 = some qq := h
        unfold b_X8_lose_5 at h
        refine lv_iload_n hx hb dX8_lose_5 rfl (lv_at hl 3 rfl) ?_
        refine lv_bipush (v := 10) hx hb dX8_lose_6 (by decide +kernel) ?_
        refine lv_iload_n hx hb dX8_lose_8 rfl (lv_at hl 1 rfl) ?_
        refine x_imul hx hb dX8_lose_9 h (fun x7 h => ?_)
        refine lv_aload_n hx hb dX8_lose_10 rfl (lv_at hl 0 rfl) ?_
        refine x_getr (C := RX8) (k := 1) hx hb hts u_X8_lose_8 hown hK hP (g_M_0 cI a σ) rfl (by decide) ⟨rfl, rfl, rfl⟩ k_X8_lose_f7 rfl dX8_lose_11 ?_
        refine lv_sipush (v := 130) hx hb dX8_lose_14 (by decide +kernel) ?_
        refine lv_iload_n hx hb dX8_lose_17 rfl (lv_at hl 1 rfl) ?_
        refine x_iadd hx hb dX8_lose_18 h (fun x8 h => ?_)
        refine x_iald (t0 := 0) hx hb hK hP ht h (g_M_1 cI a σ) dX8_lose_19 (fun x9 h => ?_)
        refine x_iadd hx hb dX8_lose_20 h (fun x10 h => ?_)
        refine lv_icmp_ge (tgt := 116) hx hb dX8_lose_21 (by decide) (fun c11 => ?_) (fun c11 => ?_)
        · have h := if_t c11 h
          exact x_vret (p_M cI a) hx hb hr hlocks hP hS dX8_lose_116 h
        · have h := if_f c11 h
          refine lv_aload_n hx hb dX8_lose_24 rfl (lv_at hl 0 rfl) ?_
          refine x_getr (C := RX8) (k := 1) hx hb hts u_X8_lose_8 hown hK hP (g_M_0 cI a σ) rfl (by decide) ⟨rfl, rfl, rfl⟩ k_X8_lose_f7 rfl dX8_lose_25 ?_
          refine lv_sipush (v := 350) hx hb dX8_lose_28 (by decide +kernel) ?_
          refine lv_iload_n hx hb dX8_lose_31 rfl (lv_at hl 3 rfl) ?_
          refine x_iadd hx hb dX8_lose_32 h (fun x12 h => ?_)
          refine x_iald (t0 := 0) hx hb hK hP ht h (g_M_1 cI a σ) dX8_lose_33 (fun x13 h => ?_)
          refine lv_iload_n hx hb dX8_lose_34 rfl (lv_at hl 2 rfl) ?_
          refine lv_icmp_ne (tgt := 110) hx hb dX8_lose_35 (by decide) (fun c14 => ?_) (fun c14 => ?_)
          · have h := if_f c14 h
            refine x_iinc (k := 3) (w := 1) hx hb dX8_lose_110 hl rfl (by decide +kernel) (by decide) (fun v9 => [(3, .int v9), (0, .ref (a 0)), (1, .int x4), (2, .int x5)]) (fun v9 => rfl) h (fun x15 ls hl h => ?_)
            have hl : lv_has ls 4 [(3, .int x15), (0, .ref (a 0)), (1, .int x4), (2, .int x5)] := hl
            refine lv_goto (tgt := 5) hx hb dX8_lose_113 (by decide) ?_
            exact i5 σ x4 x5 x15 _ _ _ h hP hS (lv_sub hl [1, 2, 3, 0] rfl)
          · have h := if_t c14 h
            refine lv_aload_n hx hb dX8_lose_38 rfl (lv_at hl 0 rfl) ?_
            refine x_getr (C := RX8) (k := 1) hx hb hts u_X8_lose_8 hown hK hP (g_M_0 cI a σ) rfl (by decide) ⟨rfl, rfl, rfl⟩ k_X8_lose_f7 rfl dX8_lose_39 ?_
            refine lv_sipush (v := 250) hx hb dX8_lose_42 (by decide +kernel) ?_
            refine lv_iload_n hx hb dX8_lose_45 rfl (lv_at hl 3 rfl) ?_
            refine x_iadd hx hb dX8_lose_46 h (fun x16 h => ?_)
            refine x_iald (t0 := 0) hx hb hK hP ht h (g_M_1 cI a σ) dX8_lose_47 (fun x17 h => ?_)
            refine lv_bipush (v := 16) hx hb dX8_lose_48 (by decide +kernel) ?_
            refine lv_icmp_lt (tgt := 56) hx hb dX8_lose_50 (by decide) (fun c18 => ?_) (fun c18 => ?_)
            · have h := if_t c18 h
              refine lv_aload_n hx hb dX8_lose_56 rfl (lv_at hl 0 rfl) ?_
              refine x_getr (C := RX8) (k := 1) hx hb hts u_X8_lose_8 hown hK hP (g_M_0 cI a σ) rfl (by decide) ⟨rfl, rfl, rfl⟩ k_X8_lose_f7 rfl dX8_lose_57 ?_
              refine lv_sipush (v := 250) hx hb dX8_lose_60 (by decide +kernel) ?_
              refine lv_iload_n hx hb dX8_lose_63 rfl (lv_at hl 3 rfl) ?_
              refine x_iadd hx hb dX8_lose_64 h (fun x19 h => ?_)
              refine lv_bipush (v := 16) hx hb dX8_lose_65 (by decide +kernel) ?_
              refine x_iast (p_M cI a) (t0 := 0) hx hb hK hP hD hS ht h (g_M_1 cI a σ) (fun j9 v9 => (s_M_1 cI a σ _)) dX8_lose_67 (fun H locs s20 hP hS h => ?_)
              refine lv_aload_n hx hb dX8_lose_68 rfl (lv_at hl 0 rfl) ?_
              refine x_getr (C := RX8) (k := 1) hx hb hts u_X8_lose_8 hown hK hP (g_M_0 cI a s20) rfl (by decide) ⟨rfl, rfl, rfl⟩ k_X8_lose_f7 rfl dX8_lose_69 ?_
              refine lv_sipush (v := 550) hx hb dX8_lose_72 (by decide +kernel) ?_
              refine lv_iload_n hx hb dX8_lose_75 rfl (lv_at hl 3 rfl) ?_
              refine x_iadd hx hb dX8_lose_76 h (fun x21 h => ?_)
              refine lv_aload_n hx hb dX8_lose_77 rfl (lv_at hl 0 rfl) ?_
              refine x_getr (C := RX8) (k := 1) hx hb hts u_X8_lose_8 hown hK hP (g_M_0 cI a s20) rfl (by decide) ⟨rfl, rfl, rfl⟩ k_X8_lose_f7 rfl dX8_lose_78 ?_
              refine lv_iconst (v := 5) hx hb dX8_lose_81 (by decide +kernel) ?_
              refine x_iald (t0 := 0) hx hb hK hP ht h (g_M_1 cI a s20) dX8_lose_82 (fun x22 h => ?_)
              refine lv_aload_n hx hb dX8_lose_83 rfl (lv_at hl 0 rfl) ?_
              refine x_getr (C := RX8) (k := 1) hx hb hts u_X8_lose_8 hown hK hP (g_M_0 cI a s20) rfl (by decide) ⟨rfl, rfl, rfl⟩ k_X8_lose_f7 rfl dX8_lose_84 ?_
              refine lv_iconst (v := 4) hx hb dX8_lose_87 (by decide +kernel) ?_
              refine x_iald (t0 := 0) hx hb hK hP ht h (g_M_1 cI a s20) dX8_lose_88 (fun x23 h => ?_)
              refine x_iadd hx hb dX8_lose_89 h (fun x24 h => ?_)
              refine x_iast (p_M cI a) (t0 := 0) hx hb hK hP hD hS ht h (g_M_1 cI a s20) (fun j9 v9 => (s_M_1 cI a s20 _)) dX8_lose_90 (fun H locs s25 hP hS h => ?_)
              refine lv_aload_n hx hb dX8_lose_91 rfl (lv_at hl 0 rfl) ?_
              refine x_getr (C := RX8) (k := 1) hx hb hts u_X8_lose_8 hown hK hP (g_M_0 cI a s25) rfl (by decide) ⟨rfl, rfl, rfl⟩ k_X8_lose_f7 rfl dX8_lose_92 ?_
              refine lv_sipush (v := 450) hx hb dX8_lose_95 (by decide +kernel) ?_
              refine lv_iload_n hx hb dX8_lose_98 rfl (lv_at hl 3 rfl) ?_
              refine x_iadd hx hb dX8_lose_99 h (fun x26 h => ?_)
              refine lv_dup2_11 hx hb dX8_lose_100 rfl rfl ?_
              refine x_iald (t0 := 0) hx hb hK hP ht h (g_M_1 cI a s25) dX8_lose_101 (fun x27 h => ?_)
              refine lv_aload_n hx hb dX8_lose_102 rfl (lv_at hl 0 rfl) ?_
              refine x_getr (C := RX8) (k := 1) hx hb hts u_X8_lose_8 hown hK hP (g_M_0 cI a s25) rfl (by decide) ⟨rfl, rfl, rfl⟩ k_X8_lose_f7 rfl dX8_lose_103 ?_
              refine lv_iconst (v := 3) hx hb dX8_lose_106 (by decide +kernel) ?_
              refine x_iald (t0 := 0) hx hb hK hP ht h (g_M_1 cI a s25) dX8_lose_107 (fun x28 h => ?_)
              refine x_iadd hx hb dX8_lose_108 h (fun x29 h => ?_)
              refine x_iast (p_M cI a) (t0 := 0) hx hb hK hP hD hS ht h (g_M_1 cI a s25) (fun j9 v9 => (s_M_1 cI a s25 _)) dX8_lose_109 (fun H locs s30 hP hS h => ?_)
              refine x_iinc (k := 3) (w := 1) hx hb dX8_lose_110 hl rfl (by decide +kernel) (by decide) (fun v9 => [(3, .int v9), (0, .ref (a 0)), (1, .int x4), (2, .int x5)]) (fun v9 => rfl) h (fun x31 ls hl h => ?_)
              have hl : lv_has ls 4 [(3, .int x31), (0, .ref (a 0)), (1, .int x4), (2, .int x5)] := hl
              refine lv_goto (tgt := 5) hx hb dX8_lose_113 (by decide) ?_
              exact i5 s30 x4 x5 x31 _ _ _ h hP hS (lv_sub hl [1, 2, 3, 0] rfl)
            · have h := if_f c18 h
              refine lv_goto (tgt := 110) hx hb dX8_lose_53 (by decide) ?_
              refine x_iinc (k := 3) (w := 1) hx hb dX8_lose_110 hl rfl (by decide +kernel) (by decide) (fun v9 => [(3, .int v9), (0, .ref (a 0)), (1, .int x4), (2, .int x5)]) (fun v9 => rfl) h (fun x32 ls hl h => ?_)
              have hl : lv_has ls 4 [(3, .int x32), (0, .ref (a 0)), (1, .int x4), (2, .int x5)] := hl
              refine lv_goto (tgt := 5) hx hb dX8_lose_113 (by decide) ?_
              exact i5 σ x4 x5 x32 _ _ _ h hP hS (lv_sub hl [1, 2, 3, 0] rfl)
  have i5 : ∀ (σ : qM) (x4 x5 x6 : Int32) (H : Heap) (locs : List Loc) (ls : Array Slot), q_lim (D_X8_lose) 0 σ [x4, x5, x6] = some qq → va_P D vwCl (p_M cI a σ) H → va_S A s.heap H locs → lv_has ls 4 [(0, .ref (a 0)), (1, .int x4), (2, .int x5), (3, .int x6)] → W p l e ({ frames := 0, cells := 0, slots := 0, locals := 0 }) s m [.ref (a 0), .int x1, .int x2].toArray below meth c H locs 0 0 (MQ below (va_Qv (fun τ => ((0 : Int32), τ) = qq) (fun τ t => va_P D vwCl ((p_M cI a) τ) t.heap) A) [.ref (a 0), .int x1, .int x2].toArray s 0 0 A) (F0 m 5 ls []) := by
    intro σ x4 x5 x6 H locs ls h hP hS hl
    obtain ⟨k9, h⟩ := q_lim_n h
    exact (main k9) σ x4 x5 x6 H locs ls h hP hS hl
  have h : e_X8_lose (q_lim (D_X8_lose)) σ x1 x2 = some qq := h
  unfold e_X8_lose at h
  refine lv_bipush (v := 10) hx hb dX8_lose_0 (by decide +kernel) ?_
  refine lv_iload_n hx hb dX8_lose_2 rfl (lv_at hl 1 rfl) ?_
  refine x_imul hx hb dX8_lose_3 h (fun x3 h => ?_)
  refine lv_istore_n (lv' := [(3, .int x3), (0, .ref (a 0)), (1, .int x1), (2, .int x2)]) hx hb dX8_lose_4 rfl hl (by decide) rfl (fun ls hl => ?_)
  exact i5 σ x1 x2 x3 _ _ _ h hP hS (lv_sub hl [1, 2, 3, 0] rfl)
/-! ===== VectorRoundsModel.cut(I)V: world M ===== -/
theorem i_X8_cut : yX8_cut.cls = RX8 ∧ yX8_cut.cls ≠ "java/lang/invoke/MethodHandle" ∧ yX8_cut.cls ≠ "java/lang/invoke/VarHandle" ∧ (parseMethodDescriptor yX8_cut.desc).map (fun d => d.parameters.length) = some 1 := by decide +kernel
theorem k_X8_cut_f7 : Cond.fieldLink RX8 7 RX8 "s" "[I" ∈ wsX8_cut := by decide +kernel
theorem u_X8_cut_8 : ∀ w ∈ u_ws RX8 TX8 26, w ∈ wsX8_cut := by decide +kernel
set_option maxHeartbeats 4000000 in
set_option maxRecDepth 100000 in
theorem c_X8_cut (l : Launch) (D : va_G) (cI : ClassId) (tys : List (ClassId × FieldType)) (ht : tys[0]? = some (cI, .int)) (a : Nat → Nat) (σ : qM) (x1 : Int32) : q_Mev l yX8_cut wsX8_cut ({ frames := 1, cells := 0, slots := 0, locals := 23 }) [.ref (a 0), .int x1] D tys (p_M cI a) σ (f_X8_cut σ x1) := by
  refine x_ofWv (cc := cX8_cut) (maxL := 2) (ret := none) (by decide +kernel) rfl (pf_M cI a) (Nat.le_of_ble_eq_true rfl) ?_
  intro p e s m below meth c A ls qq h hx hb hml hr hlocks hown hts hK hP hD hA hS hl
  have hown : s.vm.findClass RX8 = some m.cls := hown
  have hl : lv_has ls 2 [(0, .ref (a 0)), (1, .int x1)] := hl
  unfold f_X8_cut at h
  refine lv_aload_n hx hb dX8_cut_0 rfl (lv_at hl 0 rfl) ?_
  refine x_getr (C := RX8) (k := 1) hx hb hts u_X8_cut_8 hown hK hP (g_M_0 cI a σ) rfl (by decide) ⟨rfl, rfl, rfl⟩ k_X8_cut_f7 rfl dX8_cut_1 ?_
  refine lv_bipush (v := 100) hx hb dX8_cut_4 (by decide +kernel) ?_
  refine lv_iload_n hx hb dX8_cut_6 rfl (lv_at hl 1 rfl) ?_
  refine x_iadd hx hb dX8_cut_7 h (fun x2 h => ?_)
  refine lv_iconst (v := 0) hx hb dX8_cut_8 (by decide +kernel) ?_
  refine x_iast (p_M cI a) (t0 := 0) hx hb hK hP hD hS ht h (g_M_1 cI a σ) (fun j9 v9 => (s_M_1 cI a σ _)) dX8_cut_9 (fun H locs s3 hP hS h => ?_)
  refine lv_aload_n hx hb dX8_cut_10 rfl (lv_at hl 0 rfl) ?_
  refine lv_aload_n hx hb dX8_cut_11 rfl (lv_at hl 0 rfl) ?_
  refine x_getr (C := RX8) (k := 1) hx hb hts u_X8_cut_8 hown hK hP (g_M_0 cI a s3) rfl (by decide) ⟨rfl, rfl, rfl⟩ k_X8_cut_f7 rfl dX8_cut_12 ?_
  refine lv_bipush (v := 10) hx hb dX8_cut_15 (by decide +kernel) ?_
  refine lv_iload_n hx hb dX8_cut_17 rfl (lv_at hl 1 rfl) ?_
  refine x_iadd hx hb dX8_cut_18 h (fun x4 h => ?_)
  refine x_iald (t0 := 0) hx hb hK hP ht h (g_M_1 cI a s3) dX8_cut_19 (fun x5 h => ?_)
  refine lv_aload_n hx hb dX8_cut_20 rfl (lv_at hl 0 rfl) ?_
  refine x_getr (C := RX8) (k := 1) hx hb hts u_X8_cut_8 hown hK hP (g_M_0 cI a s3) rfl (by decide) ⟨rfl, rfl, rfl⟩ k_X8_cut_f7 rfl dX8_cut_21 ?_
  refine lv_bipush (v := 40) hx hb dX8_cut_24 (by decide +kernel) ?_
  refine lv_iload_n hx hb dX8_cut_26 rfl (lv_at hl 1 rfl) ?_
  refine x_iadd hx hb dX8_cut_27 h (fun x6 h => ?_)
  refine x_iald (t0 := 0) hx hb hK hP ht h (g_M_1 cI a s3) dX8_cut_28 (fun x7 h => ?_)
  refine x_cVv (p_M cI a) (p_M cI a) (fun τ => τ) [] [.int x5, .int x7] hx hb hml hl.1 hown hts hK hP hD hS hA rfl (c_X8_lose l D cI tys ht a s3 x5 x7) gX8_cut_X8_lose rfl ⟨rfl, rfl⟩ i_X8_lose ⟨Nat.le_of_ble_eq_true rfl, Nat.le_of_ble_eq_true rfl⟩ q_frI (g_M_0 cI a s3) rfl rfl (Nat.le_of_ble_eq_true rfl) ⟨Nat.zero_le _, Nat.zero_le _⟩ dX8_cut_29 h (fun H locs s8 hP hS h => ?_)
  refine lv_aload_n hx hb dX8_cut_32 rfl (lv_at hl 0 rfl) ?_
  refine lv_aload_n hx hb dX8_cut_33 rfl (lv_at hl 0 rfl) ?_
  refine x_getr (C := RX8) (k := 1) hx hb hts u_X8_cut_8 hown hK hP (g_M_0 cI a s8) rfl (by decide) ⟨rfl, rfl, rfl⟩ k_X8_cut_f7 rfl dX8_cut_34 ?_
  refine lv_bipush (v := 40) hx hb dX8_cut_37 (by decide +kernel) ?_
  refine lv_iload_n hx hb dX8_cut_39 rfl (lv_at hl 1 rfl) ?_
  refine x_iadd hx hb dX8_cut_40 h (fun x9 h => ?_)
  refine x_iald (t0 := 0) hx hb hK hP ht h (g_M_1 cI a s8) dX8_cut_41 (fun x10 h => ?_)
  refine lv_aload_n hx hb dX8_cut_42 rfl (lv_at hl 0 rfl) ?_
  refine x_getr (C := RX8) (k := 1) hx hb hts u_X8_cut_8 hown hK hP (g_M_0 cI a s8) rfl (by decide) ⟨rfl, rfl, rfl⟩ k_X8_cut_f7 rfl dX8_cut_43 ?_
  refine lv_bipush (v := 10) hx hb dX8_cut_46 (by decide +kernel) ?_
  refine lv_iload_n hx hb dX8_cut_48 rfl (lv_at hl 1 rfl) ?_
  refine x_iadd hx hb dX8_cut_49 h (fun x11 h => ?_)
  refine x_iald (t0 := 0) hx hb hK hP ht h (g_M_1 cI a s8) dX8_cut_50 (fun x12 h => ?_)
  refine x_cVv (p_M cI a) (p_M cI a) (fun τ => τ) [] [.int x10, .int x12] hx hb hml hl.1 hown hts hK hP hD hS hA rfl (c_X8_lose l D cI tys ht a s8 x10 x12) gX8_cut_X8_lose rfl ⟨rfl, rfl⟩ i_X8_lose ⟨Nat.le_of_ble_eq_true rfl, Nat.le_of_ble_eq_true rfl⟩ q_frI (g_M_0 cI a s8) rfl rfl (Nat.le_of_ble_eq_true rfl) ⟨Nat.zero_le _, Nat.zero_le _⟩ dX8_cut_51 h (fun H locs s13 hP hS h => ?_)
  exact x_vret (p_M cI a) hx hb hr hlocks hP hS dX8_cut_54 h
/-! ===== VectorRoundsModel.turn(II)I: world M ===== -/
theorem i_X8_turn : yX8_turn.cls = RX8 ∧ yX8_turn.cls ≠ "java/lang/invoke/MethodHandle" ∧ yX8_turn.cls ≠ "java/lang/invoke/VarHandle" ∧ (parseMethodDescriptor yX8_turn.desc).map (fun d => d.parameters.length) = some 2 := by decide +kernel
theorem k_X8_turn_f7 : Cond.fieldLink RX8 7 RX8 "s" "[I" ∈ wsX8_turn := by decide +kernel
theorem u_X8_turn_8 : ∀ w ∈ u_ws RX8 TX8 26, w ∈ wsX8_turn := by decide +kernel
set_option maxHeartbeats 4000000 in
set_option maxRecDepth 100000 in
theorem c_X8_turn (l : Launch) (D : va_G) (cI : ClassId) (tys : List (ClassId × FieldType)) (ht : tys[0]? = some (cI, .int)) (a : Nat → Nat) (σ : qM) (x1 : Int32) (x2 : Int32) : q_Met l yX8_turn wsX8_turn ({ frames := 2, cells := 0, slots := 0, locals := 44 }) [.ref (a 0), .int x1, .int x2] D tys (p_M cI a) σ (f_X8_turn σ x1 x2) := by
  refine x_ofWi (cc := cX8_turn) (maxL := 3) (ret := (some .int)) (by decide +kernel) rfl (pf_M cI a) (Nat.le_of_ble_eq_true rfl) ?_
  intro p e s m below meth c A ls qq h hx hb hml hr hlocks hown hts hK hP hD hA hS hl
  have hown : s.vm.findClass RX8 = some m.cls := hown
  have hl : lv_has ls 3 [(0, .ref (a 0)), (1, .int x1), (2, .int x2)] := hl
  unfold f_X8_turn at h
  refine lv_aload_n hx hb dX8_turn_0 rfl (lv_at hl 0 rfl) ?_
  refine lv_iload_n hx hb dX8_turn_1 rfl (lv_at hl 1 rfl) ?_
  refine x_cVi (p_M cI a) (p_M cI a) (fun τ => τ) [] [.int x1] hx hb hml hl.1 hown hts hK hP hD hS hA rfl (c_X8_isLink l D cI tys ht a σ x1) gX8_turn_X8_isLink rfl ⟨rfl, rfl⟩ i_X8_isLink ⟨Nat.le_of_ble_eq_true rfl, Nat.le_of_ble_eq_true rfl⟩ q_frI (g_M_0 cI a σ) rfl rfl (Nat.le_of_ble_eq_true rfl) ⟨Nat.zero_le _, Nat.zero_le _⟩ dX8_turn_2 h (fun x4 H locs s3 hP hS h => ?_)
  refine lv_if_eq (tgt := 17) hx hb dX8_turn_5 (by decide) (fun c5 => ?_) (fun c5 => ?_)
  · have h := if_t c5 h
    refine lv_iconst (v := (-1)) hx hb dX8_turn_17 (by decide +kernel) ?_
    exact x_iret (p_M cI a) hx hb hr hlocks hP hS dX8_turn_18 h
  · have h := if_f c5 h
    refine lv_iload_n hx hb dX8_turn_8 rfl (lv_at hl 2 rfl) ?_
    refine lv_iconst (v := 0) hx hb dX8_turn_9 (by decide +kernel) ?_
    refine lv_iconst (v := 1) hx hb dX8_turn_10 (by decide +kernel) ?_
    refine x_cSi (p_M cI a) (fun _ => []) (fun _ => s3) [] [.int x2, .int 0, .int 1] hx hb hml hl.1 hown hts hK hP hD hS hA rfl (c_X8_in l D cI tys ht s3 x2 0 1) gX8_turn_X8_in rfl ⟨rfl, rfl⟩ i_X8_in ⟨Nat.le_of_ble_eq_true rfl, Nat.le_of_ble_eq_true rfl⟩ (q_fr0 (fun _ => rfl)) rfl (Nat.le_of_ble_eq_true rfl) ⟨Nat.zero_le _, Nat.zero_le _⟩ dX8_turn_11 h (fun x7 H locs s6 hP hS h => ?_)
    refine lv_if_ne (tgt := 19) hx hb dX8_turn_14 (by decide) (fun c8 => ?_) (fun c8 => ?_)
    · have h := if_f c8 h
      refine lv_aload_n hx hb dX8_turn_19 rfl (lv_at hl 0 rfl) ?_
      refine x_getr (C := RX8) (k := 1) hx hb hts u_X8_turn_8 hown hK hP (g_M_0 cI a s6) rfl (by decide) ⟨rfl, rfl, rfl⟩ k_X8_turn_f7 rfl dX8_turn_20 ?_
      refine lv_bipush (v := 100) hx hb dX8_turn_23 (by decide +kernel) ?_
      refine lv_iload_n hx hb dX8_turn_25 rfl (lv_at hl 1 rfl) ?_
      refine x_iadd hx hb dX8_turn_26 h (fun x9 h => ?_)
      refine x_iald (t0 := 0) hx hb hK hP ht h (g_M_1 cI a s6) dX8_turn_27 (fun x10 h => ?_)
      refine lv_iload_n hx hb dX8_turn_28 rfl (lv_at hl 2 rfl) ?_
      refine lv_icmp_ne (tgt := 35) hx hb dX8_turn_29 (by decide) (fun c11 => ?_) (fun c11 => ?_)
      · have h := if_f c11 h
        refine lv_iload_n hx hb dX8_turn_35 rfl (lv_at hl 2 rfl) ?_
        refine lv_iconst (v := 1) hx hb dX8_turn_36 (by decide +kernel) ?_
        refine lv_icmp_ne (tgt := 53) hx hb dX8_turn_37 (by decide) (fun c12 => ?_) (fun c12 => ?_)
        · have h := if_f c12 h
          refine lv_aload_n hx hb dX8_turn_53 rfl (lv_at hl 0 rfl) ?_
          refine lv_iload_n hx hb dX8_turn_54 rfl (lv_at hl 1 rfl) ?_
          refine x_cVv (p_M cI a) (p_M cI a) (fun τ => τ) [] [.int x1] hx hb hml hl.1 hown hts hK hP hD hS hA rfl (c_X8_cut l D cI tys ht a s6 x1) gX8_turn_X8_cut rfl ⟨rfl, rfl⟩ i_X8_cut ⟨Nat.le_of_ble_eq_true rfl, Nat.le_of_ble_eq_true rfl⟩ q_frI (g_M_0 cI a s6) rfl rfl (Nat.le_of_ble_eq_true rfl) ⟨Nat.zero_le _, Nat.zero_le _⟩ dX8_turn_55 h (fun H locs s13 hP hS h => ?_)
          refine lv_iconst (v := 1) hx hb dX8_turn_58 (by decide +kernel) ?_
          exact x_iret (p_M cI a) hx hb hr hlocks hP hS dX8_turn_59 h
        · have h := if_t c12 h
          refine lv_aload_n hx hb dX8_turn_40 rfl (lv_at hl 0 rfl) ?_
          refine x_getr (C := RX8) (k := 1) hx hb hts u_X8_turn_8 hown hK hP (g_M_0 cI a s6) rfl (by decide) ⟨rfl, rfl, rfl⟩ k_X8_turn_f7 rfl dX8_turn_41 ?_
          refine lv_bipush (v := 100) hx hb dX8_turn_44 (by decide +kernel) ?_
          refine lv_iload_n hx hb dX8_turn_46 rfl (lv_at hl 1 rfl) ?_
          refine x_iadd hx hb dX8_turn_47 h (fun x14 h => ?_)
          refine lv_iconst (v := 1) hx hb dX8_turn_48 (by decide +kernel) ?_
          refine x_iast (p_M cI a) (t0 := 0) hx hb hK hP hD hS ht h (g_M_1 cI a s6) (fun j9 v9 => (s_M_1 cI a s6 _)) dX8_turn_49 (fun H locs s15 hP hS h => ?_)
          refine lv_goto (tgt := 58) hx hb dX8_turn_50 (by decide) ?_
          refine lv_iconst (v := 1) hx hb dX8_turn_58 (by decide +kernel) ?_
          exact x_iret (p_M cI a) hx hb hr hlocks hP hS dX8_turn_59 h
      · have h := if_t c11 h
        refine lv_bipush (v := (-5)) hx hb dX8_turn_32 (by decide +kernel) ?_
        exact x_iret (p_M cI a) hx hb hr hlocks hP hS dX8_turn_34 h
    · have h := if_t c8 h
      refine lv_iconst (v := (-1)) hx hb dX8_turn_17 (by decide +kernel) ?_
      exact x_iret (p_M cI a) hx hb hr hlocks hP hS dX8_turn_18 h
/-! ===== VectorRoundsModel.cost(II)I: world M ===== -/
theorem i_X8_cost : yX8_cost.cls = RX8 ∧ yX8_cost.cls ≠ "java/lang/invoke/MethodHandle" ∧ yX8_cost.cls ≠ "java/lang/invoke/VarHandle" ∧ (parseMethodDescriptor yX8_cost.desc).map (fun d => d.parameters.length) = some 2 := by decide +kernel
theorem k_X8_cost_f7 : Cond.fieldLink RX8 7 RX8 "s" "[I" ∈ wsX8_cost := by decide +kernel
theorem u_X8_cost_8 : ∀ w ∈ u_ws RX8 TX8 26, w ∈ wsX8_cost := by decide +kernel
set_option maxHeartbeats 4000000 in
set_option maxRecDepth 100000 in
theorem c_X8_cost (l : Launch) (D : va_G) (cI : ClassId) (tys : List (ClassId × FieldType)) (ht : tys[0]? = some (cI, .int)) (a : Nat → Nat) (σ : qM) (x1 : Int32) (x2 : Int32) : q_Met l yX8_cost wsX8_cost ({ frames := 2, cells := 0, slots := 0, locals := 43 }) [.ref (a 0), .int x1, .int x2] D tys (p_M cI a) σ (f_X8_cost σ x1 x2) := by
  refine x_ofWi (cc := cX8_cost) (maxL := 4) (ret := (some .int)) (by decide +kernel) rfl (pf_M cI a) (Nat.le_of_ble_eq_true rfl) ?_
  intro p e s m below meth c A ls qq h hx hb hml hr hlocks hown hts hK hP hD hA hS hl
  have hown : s.vm.findClass RX8 = some m.cls := hown
  have hl : lv_has ls 4 [(0, .ref (a 0)), (1, .int x1), (2, .int x2)] := hl
  unfold f_X8_cost at h
  refine lv_aload_n hx hb dX8_cost_0 rfl (lv_at hl 0 rfl) ?_
  refine lv_iload_n hx hb dX8_cost_1 rfl (lv_at hl 1 rfl) ?_
  refine x_cVi (p_M cI a) (p_M cI a) (fun τ => τ) [] [.int x1] hx hb hml hl.1 hown hts hK hP hD hS hA rfl (c_X8_isLink l D cI tys ht a σ x1) gX8_cost_X8_isLink rfl ⟨rfl, rfl⟩ i_X8_isLink ⟨Nat.le_of_ble_eq_true rfl, Nat.le_of_ble_eq_true rfl⟩ q_frI (g_M_0 cI a σ) rfl rfl (Nat.le_of_ble_eq_true rfl) ⟨Nat.zero_le _, Nat.zero_le _⟩ dX8_cost_2 h (fun x4 H locs s3 hP hS h => ?_)
  refine lv_if_eq (tgt := 18) hx hb dX8_cost_5 (by decide) (fun c5 => ?_) (fun c5 => ?_)
  · have h := if_t c5 h
    refine lv_iconst (v := (-1)) hx hb dX8_cost_18 (by decide +kernel) ?_
    exact x_iret (p_M cI a) hx hb hr hlocks hP hS dX8_cost_19 h
  · have h := if_f c5 h
    refine lv_iload_n hx hb dX8_cost_8 rfl (lv_at hl 2 rfl) ?_
    refine lv_iconst (v := 1) hx hb dX8_cost_9 (by decide +kernel) ?_
    refine lv_bipush (v := 15) hx hb dX8_cost_10 (by decide +kernel) ?_
    refine x_cSi (p_M cI a) (fun _ => []) (fun _ => s3) [] [.int x2, .int 1, .int 15] hx hb hml hl.1 hown hts hK hP hD hS hA rfl (c_X8_in l D cI tys ht s3 x2 1 15) gX8_cost_X8_in rfl ⟨rfl, rfl⟩ i_X8_in ⟨Nat.le_of_ble_eq_true rfl, Nat.le_of_ble_eq_true rfl⟩ (q_fr0 (fun _ => rfl)) rfl (Nat.le_of_ble_eq_true rfl) ⟨Nat.zero_le _, Nat.zero_le _⟩ dX8_cost_12 h (fun x7 H locs s6 hP hS h => ?_)
    refine lv_if_ne (tgt := 20) hx hb dX8_cost_15 (by decide) (fun c8 => ?_) (fun c8 => ?_)
    · have h := if_f c8 h
      refine lv_aload_n hx hb dX8_cost_20 rfl (lv_at hl 0 rfl) ?_
      refine x_getr (C := RX8) (k := 1) hx hb hts u_X8_cost_8 hown hK hP (g_M_0 cI a s6) rfl (by decide) ⟨rfl, rfl, rfl⟩ k_X8_cost_f7 rfl dX8_cost_21 ?_
      refine lv_bipush (v := 70) hx hb dX8_cost_24 (by decide +kernel) ?_
      refine lv_iload_n hx hb dX8_cost_26 rfl (lv_at hl 1 rfl) ?_
      refine x_iadd hx hb dX8_cost_27 h (fun x9 h => ?_)
      refine x_iald (t0 := 0) hx hb hK hP ht h (g_M_1 cI a s6) dX8_cost_28 (fun x10 h => ?_)
      refine lv_istore_n (lv' := [(3, .int x10), (0, .ref (a 0)), (1, .int x1), (2, .int x2)]) hx hb dX8_cost_29 rfl hl (by decide) rfl (fun ls hl => ?_)
      refine lv_aload_n hx hb dX8_cost_30 rfl (lv_at hl 1 rfl) ?_
      refine x_getr (C := RX8) (k := 1) hx hb hts u_X8_cost_8 hown hK hP (g_M_0 cI a s6) rfl (by decide) ⟨rfl, rfl, rfl⟩ k_X8_cost_f7 rfl dX8_cost_31 ?_
      refine lv_bipush (v := 70) hx hb dX8_cost_34 (by decide +kernel) ?_
      refine lv_iload_n hx hb dX8_cost_36 rfl (lv_at hl 2 rfl) ?_
      refine x_iadd hx hb dX8_cost_37 h (fun x11 h => ?_)
      refine lv_iload_n hx hb dX8_cost_38 rfl (lv_at hl 3 rfl) ?_
      refine x_iast (p_M cI a) (t0 := 0) hx hb hK hP hD hS ht h (g_M_1 cI a s6) (fun j9 v9 => (s_M_1 cI a s6 _)) dX8_cost_39 (fun H locs s12 hP hS h => ?_)
      refine lv_iload_n hx hb dX8_cost_40 rfl (lv_at hl 0 rfl) ?_
      exact x_iret (p_M cI a) hx hb hr hlocks hP hS dX8_cost_41 h
    · have h := if_t c8 h
      refine lv_iconst (v := (-1)) hx hb dX8_cost_18 (by decide +kernel) ?_
      exact x_iret (p_M cI a) hx hb hr hlocks hP hS dX8_cost_19 h
/-! ===== VectorRoundsModel.rule(II)I: world M ===== -/
theorem i_X8_rule : yX8_rule.cls = RX8 ∧ yX8_rule.cls ≠ "java/lang/invoke/MethodHandle" ∧ yX8_rule.cls ≠ "java/lang/invoke/VarHandle" ∧ (parseMethodDescriptor yX8_rule.desc).map (fun d => d.parameters.length) = some 2 := by decide +kernel
theorem k_X8_rule_f7 : Cond.fieldLink RX8 7 RX8 "s" "[I" ∈ wsX8_rule := by decide +kernel
theorem u_X8_rule_8 : ∀ w ∈ u_ws RX8 TX8 26, w ∈ wsX8_rule := by decide +kernel
set_option maxHeartbeats 4000000 in
set_option maxRecDepth 100000 in
theorem c_X8_rule (l : Launch) (D : va_G) (cI : ClassId) (tys : List (ClassId × FieldType)) (ht : tys[0]? = some (cI, .int)) (a : Nat → Nat) (σ : qM) (x1 : Int32) (x2 : Int32) : q_Met l yX8_rule wsX8_rule ({ frames := 1, cells := 0, slots := 0, locals := 22 }) [.ref (a 0), .int x1, .int x2] D tys (p_M cI a) σ (f_X8_rule σ x1 x2) := by
  refine x_ofWi (cc := cX8_rule) (maxL := 4) (ret := (some .int)) (by decide +kernel) rfl (pf_M cI a) (Nat.le_of_ble_eq_true rfl) ?_
  intro p e s m below meth c A ls qq h hx hb hml hr hlocks hown hts hK hP hD hA hS hl
  have hown : s.vm.findClass RX8 = some m.cls := hown
  have hl : lv_has ls 4 [(0, .ref (a 0)), (1, .int x1), (2, .int x2)] := hl
  have i30 : ∀ (σ : qM) (x8 x9 x10 x11 x12 : Int32) (H : Heap) (locs : List Loc) (ls : Array Slot), b_X8_rule_30 σ x8 x9 x10 x11 x12 = some qq → va_P D vwCl (p_M cI a σ) H → va_S A s.heap H locs → lv_has ls 4 [(0, .ref (a 0)), (1, .int x8), (2, .int x9)] → W p l e ({ frames := 1, cells := 0, slots := 0, locals := 22 }) s m [.ref (a 0), .int x1, .int x2].toArray below meth c H locs 0 0 (MQ below (va_Qi (fun r τ => (r, τ) = qq) (fun τ t => va_P D vwCl ((p_M cI a) τ) t.heap) A) [.ref (a 0), .int x1, .int x2].toArray s 0 0 A) (F0 m 30 ls [.int x12, .int x11, .int x10]) := by
    intro σ x8 x9 x10 x11 x12 H locs ls h hP hS hl
    unfold b_X8_rule_30 at h
    refine x_cSi (p_M cI a) (fun _ => []) (fun _ => σ) [] [.int x10, .int x11, .int x12] hx hb hml hl.1 hown hts hK hP hD hS hA rfl (c_X8_in l D cI tys ht σ x10 x11 x12) gX8_rule_X8_in rfl ⟨rfl, rfl⟩ i_X8_in ⟨Nat.le_of_ble_eq_true rfl, Nat.le_of_ble_eq_true rfl⟩ (q_fr0 (fun _ => rfl)) rfl (Nat.le_of_ble_eq_true rfl) ⟨Nat.zero_le _, Nat.zero_le _⟩ dX8_rule_30 h (fun x14 H locs s13 hP hS h => ?_)
    refine lv_if_ne (tgt := 38) hx hb dX8_rule_33 (by decide) (fun c15 => ?_) (fun c15 => ?_)
    · have h := if_f c15 h
      refine lv_aload_n hx hb dX8_rule_38 rfl (lv_at hl 0 rfl) ?_
      refine x_getr (C := RX8) (k := 1) hx hb hts u_X8_rule_8 hown hK hP (g_M_0 cI a s13) rfl (by decide) ⟨rfl, rfl, rfl⟩ k_X8_rule_f7 rfl dX8_rule_39 ?_
      refine lv_iconst (v := 2) hx hb dX8_rule_42 (by decide +kernel) ?_
      refine lv_iload_n hx hb dX8_rule_43 rfl (lv_at hl 1 rfl) ?_
      refine x_iadd hx hb dX8_rule_44 h (fun x16 h => ?_)
      refine x_iald (t0 := 0) hx hb hK hP ht h (g_M_1 cI a s13) dX8_rule_45 (fun x17 h => ?_)
      refine lv_istore_n (lv' := [(3, .int x17), (0, .ref (a 0)), (1, .int x8), (2, .int x9)]) hx hb dX8_rule_46 rfl hl (by decide) rfl (fun ls hl => ?_)
      refine lv_aload_n hx hb dX8_rule_47 rfl (lv_at hl 1 rfl) ?_
      refine x_getr (C := RX8) (k := 1) hx hb hts u_X8_rule_8 hown hK hP (g_M_0 cI a s13) rfl (by decide) ⟨rfl, rfl, rfl⟩ k_X8_rule_f7 rfl dX8_rule_48 ?_
      refine lv_iconst (v := 2) hx hb dX8_rule_51 (by decide +kernel) ?_
      refine lv_iload_n hx hb dX8_rule_52 rfl (lv_at hl 2 rfl) ?_
      refine x_iadd hx hb dX8_rule_53 h (fun x18 h => ?_)
      refine lv_iload_n hx hb dX8_rule_54 rfl (lv_at hl 3 rfl) ?_
      refine x_iast (p_M cI a) (t0 := 0) hx hb hK hP hD hS ht h (g_M_1 cI a s13) (fun j9 v9 => (s_M_1 cI a s13 _)) dX8_rule_55 (fun H locs s19 hP hS h => ?_)
      refine lv_iload_n hx hb dX8_rule_56 rfl (lv_at hl 0 rfl) ?_
      exact x_iret (p_M cI a) hx hb hr hlocks hP hS dX8_rule_57 h
    · have h := if_t c15 h
      refine lv_iconst (v := (-1)) hx hb dX8_rule_36 (by decide +kernel) ?_
      exact x_iret (p_M cI a) hx hb hr hlocks hP hS dX8_rule_37 h
  unfold f_X8_rule at h
  refine lv_iload_n hx hb dX8_rule_0 rfl (lv_at hl 1 rfl) ?_
  refine lv_iconst (v := 0) hx hb dX8_rule_1 (by decide +kernel) ?_
  refine lv_iconst (v := 2) hx hb dX8_rule_2 (by decide +kernel) ?_
  refine x_cSi (p_M cI a) (fun _ => []) (fun _ => σ) [] [.int x1, .int 0, .int 2] hx hb hml hl.1 hown hts hK hP hD hS hA rfl (c_X8_in l D cI tys ht σ x1 0 2) gX8_rule_X8_in rfl ⟨rfl, rfl⟩ i_X8_in ⟨Nat.le_of_ble_eq_true rfl, Nat.le_of_ble_eq_true rfl⟩ (q_fr0 (fun _ => rfl)) rfl (Nat.le_of_ble_eq_true rfl) ⟨Nat.zero_le _, Nat.zero_le _⟩ dX8_rule_3 h (fun x4 H locs s3 hP hS h => ?_)
  refine lv_if_eq (tgt := 36) hx hb dX8_rule_6 (by decide) (fun c5 => ?_) (fun c5 => ?_)
  · have h := if_t c5 h
    refine lv_iconst (v := (-1)) hx hb dX8_rule_36 (by decide +kernel) ?_
    exact x_iret (p_M cI a) hx hb hr hlocks hP hS dX8_rule_37 h
  · have h := if_f c5 h
    refine lv_iload_n hx hb dX8_rule_9 rfl (lv_at hl 2 rfl) ?_
    refine lv_iconst (v := 0) hx hb dX8_rule_10 (by decide +kernel) ?_
    refine lv_iload_n hx hb dX8_rule_11 rfl (lv_at hl 1 rfl) ?_
    refine lv_if_ne (tgt := 19) hx hb dX8_rule_12 (by decide) (fun c6 => ?_) (fun c6 => ?_)
    · have h := if_f c6 h
      refine lv_iload_n hx hb dX8_rule_19 rfl (lv_at hl 1 rfl) ?_
      refine lv_iconst (v := 1) hx hb dX8_rule_20 (by decide +kernel) ?_
      refine lv_icmp_ne (tgt := 28) hx hb dX8_rule_21 (by decide) (fun c7 => ?_) (fun c7 => ?_)
      · have h := if_f c7 h
        refine lv_bipush (v := 9) hx hb dX8_rule_28 (by decide +kernel) ?_
        exact i30 s3 x1 x2 x2 0 9 _ _ _ h hP hS (lv_sub hl [0, 1, 2] rfl)
      · have h := if_t c7 h
        refine lv_iconst (v := 1) hx hb dX8_rule_24 (by decide +kernel) ?_
        refine lv_goto (tgt := 30) hx hb dX8_rule_25 (by decide) ?_
        exact i30 s3 x1 x2 x2 0 1 _ _ _ h hP hS (lv_sub hl [0, 1, 2] rfl)
    · have h := if_t c6 h
      refine lv_iconst (v := 2) hx hb dX8_rule_15 (by decide +kernel) ?_
      refine lv_goto (tgt := 30) hx hb dX8_rule_16 (by decide) ?_
      exact i30 s3 x1 x2 x2 0 2 _ _ _ h hP hS (lv_sub hl [0, 1, 2] rfl)
/-! ===== VectorRoundsModel.of(II)I: world M ===== -/
theorem i_X8_of : yX8_of.cls = RX8 ∧ yX8_of.cls ≠ "java/lang/invoke/MethodHandle" ∧ yX8_of.cls ≠ "java/lang/invoke/VarHandle" ∧ (parseMethodDescriptor yX8_of.desc).map (fun d => d.parameters.length) = some 2 := by decide +kernel
theorem k_X8_of_f7 : Cond.fieldLink RX8 7 RX8 "s" "[I" ∈ wsX8_of := by decide +kernel
theorem u_X8_of_8 : ∀ w ∈ u_ws RX8 TX8 26, w ∈ wsX8_of := by decide +kernel
set_option maxHeartbeats 4000000 in
set_option maxRecDepth 100000 in
theorem c_X8_of (l : Launch) (D : va_G) (cI : ClassId) (tys : List (ClassId × FieldType)) (ht : tys[0]? = some (cI, .int)) (a : Nat → Nat) (σ : qM) (x1 : Int32) (x2 : Int32) : q_Met l yX8_of wsX8_of ({ frames := 2, cells := 0, slots := 0, locals := 43 }) [.ref (a 0), .int x1, .int x2] D tys (p_M cI a) σ (f_X8_of σ x1 x2) := by
  refine x_ofWi (cc := cX8_of) (maxL := 3) (ret := (some .int)) (by decide +kernel) rfl (pf_M cI a) (Nat.le_of_ble_eq_true rfl) ?_
  intro p e s m below meth c A ls qq h hx hb hml hr hlocks hown hts hK hP hD hA hS hl
  have hown : s.vm.findClass RX8 = some m.cls := hown
  have hl : lv_has ls 3 [(0, .ref (a 0)), (1, .int x1), (2, .int x2)] := hl
  unfold f_X8_of at h
  refine lv_aload_n hx hb dX8_of_0 rfl (lv_at hl 0 rfl) ?_
  refine lv_iload_n hx hb dX8_of_1 rfl (lv_at hl 1 rfl) ?_
  refine x_cVi (p_M cI a) (p_M cI a) (fun τ => τ) [] [.int x1] hx hb hml hl.1 hown hts hK hP hD hS hA rfl (c_X8_isLink l D cI tys ht a σ x1) gX8_of_X8_isLink rfl ⟨rfl, rfl⟩ i_X8_isLink ⟨Nat.le_of_ble_eq_true rfl, Nat.le_of_ble_eq_true rfl⟩ q_frI (g_M_0 cI a σ) rfl rfl (Nat.le_of_ble_eq_true rfl) ⟨Nat.zero_le _, Nat.zero_le _⟩ dX8_of_2 h (fun x4 H locs s3 hP hS h => ?_)
  refine lv_if_ne (tgt := 10) hx hb dX8_of_5 (by decide) (fun c5 => ?_) (fun c5 => ?_)
  · have h := if_f c5 h
    refine lv_iload_n hx hb dX8_of_10 rfl (lv_at hl 2 rfl) ?_
    by_cases c6 : x2 = 0
    · have h := if_t c6 h
      refine x_tsw_in (v := 0) (off := 29) (tgt := 40) hx hb dX8_of_11 c6 (by decide +kernel) ?_
      refine lv_aload_n hx hb dX8_of_40 rfl (lv_at hl 0 rfl) ?_
      refine x_getr (C := RX8) (k := 1) hx hb hts u_X8_of_8 hown hK hP (g_M_0 cI a s3) rfl (by decide) ⟨rfl, rfl, rfl⟩ k_X8_of_f7 rfl dX8_of_41 ?_
      refine lv_bipush (v := 10) hx hb dX8_of_44 (by decide +kernel) ?_
      refine lv_iload_n hx hb dX8_of_46 rfl (lv_at hl 1 rfl) ?_
      refine x_iadd hx hb dX8_of_47 h (fun x7 h => ?_)
      refine x_iald (t0 := 0) hx hb hK hP ht h (g_M_1 cI a s3) dX8_of_48 (fun x8 h => ?_)
      exact x_iret (p_M cI a) hx hb hr hlocks hP hS dX8_of_49 h
    have h := if_f c6 h
    by_cases c9 : x2 = 1
    · have h := if_t c9 h
      refine x_tsw_in (v := 1) (off := 39) (tgt := 50) hx hb dX8_of_11 c9 (by decide +kernel) ?_
      refine lv_aload_n hx hb dX8_of_50 rfl (lv_at hl 0 rfl) ?_
      refine x_getr (C := RX8) (k := 1) hx hb hts u_X8_of_8 hown hK hP (g_M_0 cI a s3) rfl (by decide) ⟨rfl, rfl, rfl⟩ k_X8_of_f7 rfl dX8_of_51 ?_
      refine lv_bipush (v := 40) hx hb dX8_of_54 (by decide +kernel) ?_
      refine lv_iload_n hx hb dX8_of_56 rfl (lv_at hl 1 rfl) ?_
      refine x_iadd hx hb dX8_of_57 h (fun x10 h => ?_)
      refine x_iald (t0 := 0) hx hb hK hP ht h (g_M_1 cI a s3) dX8_of_58 (fun x11 h => ?_)
      exact x_iret (p_M cI a) hx hb hr hlocks hP hS dX8_of_59 h
    have h := if_f c9 h
    by_cases c12 : x2 = 2
    · have h := if_t c12 h
      refine x_tsw_in (v := 2) (off := 49) (tgt := 60) hx hb dX8_of_11 c12 (by decide +kernel) ?_
      refine lv_aload_n hx hb dX8_of_60 rfl (lv_at hl 0 rfl) ?_
      refine x_getr (C := RX8) (k := 1) hx hb hts u_X8_of_8 hown hK hP (g_M_0 cI a s3) rfl (by decide) ⟨rfl, rfl, rfl⟩ k_X8_of_f7 rfl dX8_of_61 ?_
      refine lv_bipush (v := 70) hx hb dX8_of_64 (by decide +kernel) ?_
      refine lv_iload_n hx hb dX8_of_66 rfl (lv_at hl 1 rfl) ?_
      refine x_iadd hx hb dX8_of_67 h (fun x13 h => ?_)
      refine x_iald (t0 := 0) hx hb hK hP ht h (g_M_1 cI a s3) dX8_of_68 (fun x14 h => ?_)
      exact x_iret (p_M cI a) hx hb hr hlocks hP hS dX8_of_69 h
    have h := if_f c12 h
    by_cases c15 : x2 = 3
    · have h := if_t c15 h
      refine x_tsw_in (v := 3) (off := 59) (tgt := 70) hx hb dX8_of_11 c15 (by decide +kernel) ?_
      refine lv_aload_n hx hb dX8_of_70 rfl (lv_at hl 0 rfl) ?_
      refine x_getr (C := RX8) (k := 1) hx hb hts u_X8_of_8 hown hK hP (g_M_0 cI a s3) rfl (by decide) ⟨rfl, rfl, rfl⟩ k_X8_of_f7 rfl dX8_of_71 ?_
      refine lv_bipush (v := 100) hx hb dX8_of_74 (by decide +kernel) ?_
      refine lv_iload_n hx hb dX8_of_76 rfl (lv_at hl 1 rfl) ?_
      refine x_iadd hx hb dX8_of_77 h (fun x16 h => ?_)
      refine x_iald (t0 := 0) hx hb hK hP ht h (g_M_1 cI a s3) dX8_of_78 (fun x17 h => ?_)
      exact x_iret (p_M cI a) hx hb hr hlocks hP hS dX8_of_79 h
    have h := if_f c15 h
    refine x_tsw_out (tgt := 80) hx hb dX8_of_11 4 (by decide) (fun k9 hk9 => ?_) (by decide) ?_
    · rcases (show k9 = 0 ∨ k9 = 1 ∨ k9 = 2 ∨ k9 = 3 by omega) with rfl | rfl | rfl | rfl
      · exact fun h9 => c6 (h9.trans (by decide +kernel))
      · exact fun h9 => c9 (h9.trans (by decide +kernel))
      · exact fun h9 => c12 (h9.trans (by decide +kernel))
      · exact fun h9 => c15 (h9.trans (by decide +kernel))
    refine lv_iconst (v := (-1)) hx hb dX8_of_80 (by decide +kernel) ?_
    exact x_iret (p_M cI a) hx hb hr hlocks hP hS dX8_of_81 h
  · have h := if_t c5 h
    refine lv_iconst (v := (-1)) hx hb dX8_of_8 (by decide +kernel) ?_
    exact x_iret (p_M cI a) hx hb hr hlocks hP hS dX8_of_9 h
/-! ===== VectorRoundsModel.between(II)I: world M ===== -/
theorem i_X8_between : yX8_between.cls = RX8 ∧ yX8_between.cls ≠ "java/lang/invoke/MethodHandle" ∧ yX8_between.cls ≠ "java/lang/invoke/VarHandle" ∧ (parseMethodDescriptor yX8_between.desc).map (fun d => d.parameters.length) = some 2 := by decide +kernel
set_option maxHeartbeats 4000000 in
set_option maxRecDepth 100000 in
theorem c_X8_between (l : Launch) (D : va_G) (cI : ClassId) (tys : List (ClassId × FieldType)) (ht : tys[0]? = some (cI, .int)) (a : Nat → Nat) (σ : qM) (x1 : Int32) (x2 : Int32) : q_Met l yX8_between wsX8_between ({ frames := 2, cells := 0, slots := 0, locals := 63 }) [.ref (a 0), .int x1, .int x2] D tys (p_M cI a) σ (f_X8_between σ x1 x2) := by
  refine x_ofWi (cc := cX8_between) (maxL := 4) (ret := (some .int)) (by decide +kernel) rfl (pf_M cI a) (Nat.le_of_ble_eq_true rfl) ?_
  intro p e s m below meth c A ls qq h hx hb hml hr hlocks hown hts hK hP hD hA hS hl
  have hown : s.vm.findClass RX8 = some m.cls := hown
  have hl : lv_has ls 4 [(0, .ref (a 0)), (1, .int x1), (2, .int x2)] := hl
  unfold f_X8_between at h
  refine lv_aload_n hx hb dX8_between_0 rfl (lv_at hl 0 rfl) ?_
  refine lv_iload_n hx hb dX8_between_1 rfl (lv_at hl 1 rfl) ?_
  refine x_cVi (p_M cI a) (p_M cI a) (fun τ => τ) [] [.int x1] hx hb hml hl.1 hown hts hK hP hD hS hA rfl (c_X8_isRouter l D cI tys ht a σ x1) gX8_between_X8_isRouter rfl ⟨rfl, rfl⟩ i_X8_isRouter ⟨Nat.le_of_ble_eq_true rfl, Nat.le_of_ble_eq_true rfl⟩ q_frI (g_M_0 cI a σ) rfl rfl (Nat.le_of_ble_eq_true rfl) ⟨Nat.zero_le _, Nat.zero_le _⟩ dX8_between_2 h (fun x4 H locs s3 hP hS h => ?_)
  refine lv_if_eq (tgt := 16) hx hb dX8_between_5 (by decide) (fun c5 => ?_) (fun c5 => ?_)
  · have h := if_t c5 h
    refine lv_iconst (v := (-1)) hx hb dX8_between_16 (by decide +kernel) ?_
    exact x_iret (p_M cI a) hx hb hr hlocks hP hS dX8_between_17 h
  · have h := if_f c5 h
    refine lv_aload_n hx hb dX8_between_8 rfl (lv_at hl 0 rfl) ?_
    refine lv_iload_n hx hb dX8_between_9 rfl (lv_at hl 2 rfl) ?_
    refine x_cVi (p_M cI a) (p_M cI a) (fun τ => τ) [] [.int x2] hx hb hml hl.1 hown hts hK hP hD hS hA rfl (c_X8_isRouter l D cI tys ht a s3 x2) gX8_between_X8_isRouter rfl ⟨rfl, rfl⟩ i_X8_isRouter ⟨Nat.le_of_ble_eq_true rfl, Nat.le_of_ble_eq_true rfl⟩ q_frI (g_M_0 cI a s3) rfl rfl (Nat.le_of_ble_eq_true rfl) ⟨Nat.zero_le _, Nat.zero_le _⟩ dX8_between_10 h (fun x7 H locs s6 hP hS h => ?_)
    refine lv_if_ne (tgt := 18) hx hb dX8_between_13 (by decide) (fun c8 => ?_) (fun c8 => ?_)
    · have h := if_f c8 h
      refine lv_aload_n hx hb dX8_between_18 rfl (lv_at hl 0 rfl) ?_
      refine lv_iload_n hx hb dX8_between_19 rfl (lv_at hl 1 rfl) ?_
      refine lv_iload_n hx hb dX8_between_20 rfl (lv_at hl 2 rfl) ?_
      refine x_cVi (p_M cI a) (p_M cI a) (fun τ => τ) [] [.int x1, .int x2] hx hb hml hl.1 hown hts hK hP hD hS hA rfl (c_X8_linkOf l D cI tys ht a s6 x1 x2) gX8_between_X8_linkOf rfl ⟨rfl, rfl⟩ i_X8_linkOf ⟨Nat.le_of_ble_eq_true rfl, Nat.le_of_ble_eq_true rfl⟩ q_frI (g_M_0 cI a s6) rfl rfl (Nat.le_of_ble_eq_true rfl) ⟨Nat.zero_le _, Nat.zero_le _⟩ dX8_between_21 h (fun x10 H locs s9 hP hS h => ?_)
      refine lv_istore_n (lv' := [(3, .int x10), (0, .ref (a 0)), (1, .int x1), (2, .int x2)]) hx hb dX8_between_24 rfl hl (by decide) rfl (fun ls hl => ?_)
      refine lv_iload_n hx hb dX8_between_25 rfl (lv_at hl 0 rfl) ?_
      refine lv_if_ge (tgt := 34) hx hb dX8_between_26 (by decide) (fun c11 => ?_) (fun c11 => ?_)
      · have h := if_t c11 h
        refine lv_iload_n hx hb dX8_between_34 rfl (lv_at hl 0 rfl) ?_
        exact x_iret (p_M cI a) hx hb hr hlocks hP hS dX8_between_35 h
      · have h := if_f c11 h
        refine lv_bipush (v := (-2)) hx hb dX8_between_29 (by decide +kernel) ?_
        refine lv_goto (tgt := 35) hx hb dX8_between_31 (by decide) ?_
        exact x_iret (p_M cI a) hx hb hr hlocks hP hS dX8_between_35 h
    · have h := if_t c8 h
      refine lv_iconst (v := (-1)) hx hb dX8_between_16 (by decide +kernel) ?_
      exact x_iret (p_M cI a) hx hb hr hlocks hP hS dX8_between_17 h
/-! ===== VectorRoundsModel.tell(III)V: world M ===== -/
theorem i_X8_tell : yX8_tell.cls = RX8 ∧ yX8_tell.cls ≠ "java/lang/invoke/MethodHandle" ∧ yX8_tell.cls ≠ "java/lang/invoke/VarHandle" ∧ (parseMethodDescriptor yX8_tell.desc).map (fun d => d.parameters.length) = some 3 := by decide +kernel
theorem k_X8_tell_f114 : Cond.fieldLink RX8 114 RX8 "sent" "I" ∈ wsX8_tell := by decide +kernel
theorem k_X8_tell_f19 : Cond.fieldLink RX8 19 RX8 "toWhom" "[I" ∈ wsX8_tell := by decide +kernel
theorem k_X8_tell_f22 : Cond.fieldLink RX8 22 RX8 "byWhom" "[I" ∈ wsX8_tell := by decide +kernel
theorem k_X8_tell_f25 : Cond.fieldLink RX8 25 RX8 "byCost" "[I" ∈ wsX8_tell := by decide +kernel
theorem k_X8_tell_f28 : Cond.fieldLink RX8 28 RX8 "ofWhom" "[I" ∈ wsX8_tell := by decide +kernel
theorem k_X8_tell_f31 : Cond.fieldLink RX8 31 RX8 "metrics" "[I" ∈ wsX8_tell := by decide +kernel
theorem k_X8_tell_f34 : Cond.fieldLink RX8 34 RX8 "sequences" "[I" ∈ wsX8_tell := by decide +kernel
theorem k_X8_tell_f7 : Cond.fieldLink RX8 7 RX8 "s" "[I" ∈ wsX8_tell := by decide +kernel
theorem u_X8_tell_8 : ∀ w ∈ u_ws RX8 TX8 26, w ∈ wsX8_tell := by decide +kernel
set_option maxHeartbeats 4000000 in
set_option maxRecDepth 100000 in
theorem c_X8_tell (l : Launch) (D : va_G) (cI : ClassId) (tys : List (ClassId × FieldType)) (ht : tys[0]? = some (cI, .int)) (a : Nat → Nat) (σ : qM) (x1 : Int32) (x2 : Int32) (x3 : Int32) : q_Mev l yX8_tell wsX8_tell ({ frames := 0, cells := 0, slots := 0, locals := 0 }) [.ref (a 0), .int x1, .int x2, .int x3] D tys (p_M cI a) σ (f_X8_tell σ x1 x2 x3) := by
  refine x_ofWv (cc := cX8_tell) (maxL := 6) (ret := none) (by decide +kernel) rfl (pf_M cI a) (Nat.le_of_ble_eq_true rfl) ?_
  intro p e s m below meth c A ls qq h hx hb hml hr hlocks hown hts hK hP hD hA hS hl
  have hown : s.vm.findClass RX8 = some m.cls := hown
  have hl : lv_has ls 6 [(0, .ref (a 0)), (1, .int x1), (2, .int x2), (3, .int x3)] := hl
  have main : ∀ k9 : Nat, (∀ (σ : qM) (x5 x6 x7 x8 : Int32) (H : Heap) (locs : List Loc) (ls : Array Slot), q_it (D_X8_tell) k9 0 σ [x5, x6, x7, x8] = some qq → va_P D vwCl (p_M cI a σ) H → va_S A s.heap H locs → lv_has ls 6 [(0, .ref (a 0)), (1, .int x5), (2, .int x6), (3, .int x7), (4, .int x8)] → W p l e ({ frames := 0, cells := 0, slots := 0, locals := 0 }) s m [.ref (a 0), .int x1, .int x2, .int x3].toArray below meth c H locs 0 0 (MQ below (va_Qv (fun τ => ((0 : Int32), τ) = qq) (fun τ t => va_P D vwCl ((p_M cI a) τ) t.heap) A) [.ref (a 0), .int x1, .int x2, .int x3].toArray s 0 0 A) (F0 m 6 ls [])) ∧ (∀ (σ : qM) (x17 x18 x19 x20 x21 : Int32) (H : Heap) (locs : List Loc) (ls : Array Slot), q_it (D_X8_tell) k9 1 σ [x17, x18, x19, x20, x21] = some qq → va_P D vwCl (p_M cI a σ) H → va_S A s.heap H locs → lv_has ls 6 [(0, .ref (a 0)), (1, .int x17), (2, .int x18), (3, .int x19), (4, .int x20)] → W p l e ({ frames := 0, cells := 0, slots := 0, locals := 0 }) s m [.ref (a 0), .int x1, .int x2, .int x3].toArray below meth c H locs 0 0 (MQ below (va_Qv (fun τ => ((0 : Int32), τ) = qq) (fun τ t => va_P D vwCl ((p_M cI a) τ) t.heap) A) [.ref (a 0), .int x1, .int x2, .int x3].toArray s 0 0 A) (F0 m 46 ls [.int x21])) ∧ (∀ (σ : qM) (x23 x24 x25 x26 x27 : Int32) (H : Heap) (locs : List Loc) (ls : Array Slot), q_it (D_X8_tell) k9 2 σ [x23, x24, x25, x26, x27] = some qq → va_P D vwCl (p_M cI a σ) H → va_S A s.heap H locs → lv_has ls 6 [(0, .ref (a 0)), (1, .int x23), (2, .int x24), (3, .int x25), (4, .int x26), (5, .int x27)] → W p l e ({ frames := 0, cells := 0, slots := 0, locals := 0 }) s m [.ref (a 0), .int x1, .int x2, .int x3].toArray below meth c H locs 0 0 (MQ below (va_Qv (fun τ => ((0 : Int32), τ) = qq) (fun τ t => va_P D vwCl ((p_M cI a) τ) t.heap) A) [.ref (a 0), .int x1, .int x2, .int x3].toArray s 0 0 A) (F0 m 66 ls [])) ∧ (∀ (σ : qM) (x43 x44 x45 x46 x47 : Int32) (H : Heap) (locs : List Loc) (ls : Array Slot), q_it (D_X8_tell) k9 3 σ [x43, x44, x45, x46, x47] = some qq → va_P D vwCl (p_M cI a σ) H → va_S A s.heap H locs → lv_has ls 6 [(0, .ref (a 0)), (1, .int x43), (2, .int x44), (3, .int x45), (4, .int x46)] → W p l e ({ frames := 0, cells := 0, slots := 0, locals := 0 }) s m [.ref (a 0), .int x1, .int x2, .int x3].toArray below meth c H locs 0 0 (MQ below (va_Qv (fun τ => ((0 : Int32), τ) = qq) (fun τ t => va_P D vwCl ((p_M cI a) τ) t.heap) A) [.ref (a 0), .int x1, .int x2, .int x3].toArray s 0 0 A) (F0 m 144 ls [.int x47, .ref (a 8)])) ∧ (∀ (σ : qM) (x50 x51 x52 x53 x54 x55 : Int32) (H : Heap) (locs : List Loc) (ls : Array Slot), q_it (D_X8_tell) k9 4 σ [x50, x51, x52, x53, x54, x55] = some qq → va_P D vwCl (p_M cI a σ) H → va_S A s.heap H locs → lv_has ls 6 [(0, .ref (a 0)), (1, .int x50), (2, .int x51), (3, .int x52), (4, .int x53)] → W p l e ({ frames := 0, cells := 0, slots := 0, locals := 0 }) s m [.ref (a 0), .int x1, .int x2, .int x3].toArray below meth c H locs 0 0 (MQ below (va_Qv (fun τ => ((0 : Int32), τ) = qq) (fun τ t => va_P D vwCl ((p_M cI a) τ) t.heap) A) [.ref (a 0), .int x1, .int x2, .int x3].toArray s 0 0 A) (F0 m 155 ls [.int x55, .int x54, .ref (a 8)])) := by
    intro k9
    induction k9 with
    | zero => exact ⟨(fun _ _ _ _ _ _ _ _ h _ _ _ => (q_no (show (none : qR) = some qq from h)).elim), (fun _ _ _ _ _ _ _ _ _ h _ _ _ => (q_no (show (none : qR) = some qq from h)).elim), (fun _ _ _ _ _ _ _ _ _ h _ _ _ => (q_no (show (none : qR) = some qq from h)).elim), (fun _ _ _ _ _ _ _ _ _ h _ _ _ => (q_no (show (none : qR) = some qq from h)).elim), (fun _ _ _ _ _ _ _ _ _ _ h _ _ _ => (q_no (show (none : qR) = some qq from h)).elim)⟩
    | succ k9 ih =>
      obtain ⟨i6, i46, i66, i144, i155⟩ := ih
      refine ⟨?_, ?_, ?_, ?_, ?_⟩
      · intro σ x5 x6 x7 x8 H locs ls h hP hS hl
        have h : b_X8_tell_6 (q_it (D_X8_tell) k9) σ x5 x6 x7 x8 = some qq := h
        unfold b_X8_tell_6 at h
        refine lv_iload hx hb dX8_tell_6 (lv_at hl 4 rfl) ?_
        refine lv_bipush (v := 10) hx hb dX8_tell_8 (by decide +kernel) ?_
        refine lv_iload_n hx hb dX8_tell_10 rfl (lv_at hl 1 rfl) ?_
        refine x_imul hx hb dX8_tell_11 h (fun x9 h => ?_)
        refine lv_aload_n hx hb dX8_tell_12 rfl (lv_at hl 0 rfl) ?_
        refine x_getr (C := RX8) (k := 1) hx hb hts u_X8_tell_8 hown hK hP (g_M_0 cI a σ) rfl (by decide) ⟨rfl, rfl, rfl⟩ k_X8_tell_f7 rfl dX8_tell_13 ?_
        refine lv_sipush (v := 130) hx hb dX8_tell_16 (by decide +kernel) ?_
        refine lv_iload_n hx hb dX8_tell_19 rfl (lv_at hl 1 rfl) ?_
        refine x_iadd hx hb dX8_tell_20 h (fun x10 h => ?_)
        refine x_iald (t0 := 0) hx hb hK hP ht h (g_M_1 cI a σ) dX8_tell_21 (fun x11 h => ?_)
        refine x_iadd hx hb dX8_tell_22 h (fun x12 h => ?_)
        refine lv_icmp_ge (tgt := 192) hx hb dX8_tell_23 (by decide) (fun c13 => ?_) (fun c13 => ?_)
        · have h := if_t c13 h
          exact x_vret (p_M cI a) hx hb hr hlocks hP hS dX8_tell_192 h
        · have h := if_f c13 h
          refine lv_aload_n hx hb dX8_tell_26 rfl (lv_at hl 0 rfl) ?_
          refine x_getr (C := RX8) (k := 1) hx hb hts u_X8_tell_8 hown hK hP (g_M_0 cI a σ) rfl (by decide) ⟨rfl, rfl, rfl⟩ k_X8_tell_f7 rfl dX8_tell_27 ?_
          refine lv_sipush (v := 350) hx hb dX8_tell_30 (by decide +kernel) ?_
          refine lv_iload hx hb dX8_tell_33 (lv_at hl 4 rfl) ?_
          refine x_iadd hx hb dX8_tell_35 h (fun x14 h => ?_)
          refine x_iald (t0 := 0) hx hb hK hP ht h (g_M_1 cI a σ) dX8_tell_36 (fun x15 h => ?_)
          refine lv_iload_n hx hb dX8_tell_37 rfl (lv_at hl 2 rfl) ?_
          refine lv_icmp_ne (tgt := 45) hx hb dX8_tell_38 (by decide) (fun c16 => ?_) (fun c16 => ?_)
          · have h := if_f c16 h
            refine lv_iconst (v := 0) hx hb dX8_tell_45 (by decide +kernel) ?_
            exact i46 σ x5 x6 x7 x8 0 _ _ _ h hP hS (lv_sub hl [0, 1, 2, 3, 4] rfl)
          · have h := if_t c16 h
            refine lv_iconst (v := 1) hx hb dX8_tell_41 (by decide +kernel) ?_
            refine lv_goto (tgt := 46) hx hb dX8_tell_42 (by decide) ?_
            exact i46 σ x5 x6 x7 x8 1 _ _ _ h hP hS (lv_sub hl [0, 1, 2, 3, 4] rfl)
      · intro σ x17 x18 x19 x20 x21 H locs ls h hP hS hl
        have h : b_X8_tell_46 (q_it (D_X8_tell) k9) σ x17 x18 x19 x20 x21 = some qq := h
        unfold b_X8_tell_46 at h
        refine lv_istore (lv' := [(5, .int x21), (0, .ref (a 0)), (1, .int x17), (2, .int x18), (3, .int x19), (4, .int x20)]) hx hb dX8_tell_46 hl (by decide) rfl (fun ls hl => ?_)
        refine lv_iload hx hb dX8_tell_48 (lv_at hl 0 rfl) ?_
        refine lv_if_eq (tgt := 66) hx hb dX8_tell_50 (by decide) (fun c22 => ?_) (fun c22 => ?_)
        · have h := if_t c22 h
          exact i66 σ x17 x18 x19 x20 x21 _ _ _ h hP hS (lv_sub hl [1, 2, 3, 4, 5, 0] rfl)
        · have h := if_f c22 h
          refine lv_aload_n hx hb dX8_tell_53 rfl (lv_at hl 1 rfl) ?_
          refine x_getr (C := RX8) (k := 1) hx hb hts u_X8_tell_8 hown hK hP (g_M_0 cI a σ) rfl (by decide) ⟨rfl, rfl, rfl⟩ k_X8_tell_f7 rfl dX8_tell_54 ?_
          refine lv_iconst (v := 2) hx hb dX8_tell_57 (by decide +kernel) ?_
          refine x_iald (t0 := 0) hx hb hK hP ht h (g_M_1 cI a σ) dX8_tell_58 (fun x28 h => ?_)
          refine lv_iconst (v := 1) hx hb dX8_tell_59 (by decide +kernel) ?_
          refine lv_icmp_ne (tgt := 66) hx hb dX8_tell_60 (by decide) (fun c29 => ?_) (fun c29 => ?_)
          · have h := if_f c29 h
            exact i66 σ x17 x18 x19 x20 x21 _ _ _ h hP hS (lv_sub hl [1, 2, 3, 4, 5, 0] rfl)
          · have h := if_t c29 h
            refine lv_goto (tgt := 186) hx hb dX8_tell_63 (by decide) ?_
            refine x_iinc (k := 5) (w := 1) hx hb dX8_tell_186 hl rfl (by decide +kernel) (by decide) (fun v9 => [(4, .int v9), (5, .int x21), (0, .ref (a 0)), (1, .int x17), (2, .int x18), (3, .int x19)]) (fun v9 => rfl) h (fun x30 ls hl h => ?_)
            have hl : lv_has ls 6 [(4, .int x30), (5, .int x21), (0, .ref (a 0)), (1, .int x17), (2, .int x18), (3, .int x19)] := hl
            refine lv_goto (tgt := 6) hx hb dX8_tell_189 (by decide) ?_
            exact i6 σ x17 x18 x19 x30 _ _ _ h hP hS (lv_sub hl [2, 3, 4, 5, 0] rfl)
      · intro σ x23 x24 x25 x26 x27 H locs ls h hP hS hl
        have h : b_X8_tell_66 (q_it (D_X8_tell) k9) σ x23 x24 x25 x26 x27 = some qq := h
        unfold b_X8_tell_66 at h
        refine lv_aload_n hx hb dX8_tell_66 rfl (lv_at hl 0 rfl) ?_
        refine x_getr (C := RX8) (k := 4) hx hb hts u_X8_tell_8 hown hK hP (g_M_0 cI a σ) rfl (by decide) ⟨rfl, rfl, rfl⟩ k_X8_tell_f19 rfl dX8_tell_67 ?_
        refine lv_aload_n hx hb dX8_tell_70 rfl (lv_at hl 0 rfl) ?_
        refine x_geti (C := RX8) (k := 10) hx hb hts u_X8_tell_8 hown hK hP (g_M_0 cI a σ) rfl (by decide) ⟨rfl, rfl, rfl⟩ k_X8_tell_f114 rfl dX8_tell_71 h (fun x31 h => ?_)
        refine lv_iload_n hx hb dX8_tell_74 rfl (lv_at hl 2 rfl) ?_
        refine x_iast (p_M cI a) (t0 := 0) hx hb hK hP hD hS ht h (g_M_4 cI a σ) (fun j9 v9 => (s_M_4 cI a σ _)) dX8_tell_75 (fun H locs s32 hP hS h => ?_)
        refine lv_aload_n hx hb dX8_tell_76 rfl (lv_at hl 0 rfl) ?_
        refine x_getr (C := RX8) (k := 5) hx hb hts u_X8_tell_8 hown hK hP (g_M_0 cI a s32) rfl (by decide) ⟨rfl, rfl, rfl⟩ k_X8_tell_f22 rfl dX8_tell_77 ?_
        refine lv_aload_n hx hb dX8_tell_80 rfl (lv_at hl 0 rfl) ?_
        refine x_geti (C := RX8) (k := 10) hx hb hts u_X8_tell_8 hown hK hP (g_M_0 cI a s32) rfl (by decide) ⟨rfl, rfl, rfl⟩ k_X8_tell_f114 rfl dX8_tell_81 h (fun x33 h => ?_)
        refine lv_iload_n hx hb dX8_tell_84 rfl (lv_at hl 1 rfl) ?_
        refine x_iast (p_M cI a) (t0 := 0) hx hb hK hP hD hS ht h (g_M_5 cI a s32) (fun j9 v9 => (s_M_5 cI a s32 _)) dX8_tell_85 (fun H locs s34 hP hS h => ?_)
        refine lv_aload_n hx hb dX8_tell_86 rfl (lv_at hl 0 rfl) ?_
        refine x_getr (C := RX8) (k := 6) hx hb hts u_X8_tell_8 hown hK hP (g_M_0 cI a s34) rfl (by decide) ⟨rfl, rfl, rfl⟩ k_X8_tell_f25 rfl dX8_tell_87 ?_
        refine lv_aload_n hx hb dX8_tell_90 rfl (lv_at hl 0 rfl) ?_
        refine x_geti (C := RX8) (k := 10) hx hb hts u_X8_tell_8 hown hK hP (g_M_0 cI a s34) rfl (by decide) ⟨rfl, rfl, rfl⟩ k_X8_tell_f114 rfl dX8_tell_91 h (fun x35 h => ?_)
        refine lv_iload_n hx hb dX8_tell_94 rfl (lv_at hl 3 rfl) ?_
        refine x_iast (p_M cI a) (t0 := 0) hx hb hK hP hD hS ht h (g_M_6 cI a s34) (fun j9 v9 => (s_M_6 cI a s34 _)) dX8_tell_95 (fun H locs s36 hP hS h => ?_)
        refine lv_aload_n hx hb dX8_tell_96 rfl (lv_at hl 0 rfl) ?_
        refine x_getr (C := RX8) (k := 7) hx hb hts u_X8_tell_8 hown hK hP (g_M_0 cI a s36) rfl (by decide) ⟨rfl, rfl, rfl⟩ k_X8_tell_f28 rfl dX8_tell_97 ?_
        refine lv_aload_n hx hb dX8_tell_100 rfl (lv_at hl 0 rfl) ?_
        refine x_geti (C := RX8) (k := 10) hx hb hts u_X8_tell_8 hown hK hP (g_M_0 cI a s36) rfl (by decide) ⟨rfl, rfl, rfl⟩ k_X8_tell_f114 rfl dX8_tell_101 h (fun x37 h => ?_)
        refine lv_aload_n hx hb dX8_tell_104 rfl (lv_at hl 0 rfl) ?_
        refine x_getr (C := RX8) (k := 1) hx hb hts u_X8_tell_8 hown hK hP (g_M_0 cI a s36) rfl (by decide) ⟨rfl, rfl, rfl⟩ k_X8_tell_f7 rfl dX8_tell_105 ?_
        refine lv_sipush (v := 150) hx hb dX8_tell_108 (by decide +kernel) ?_
        refine lv_iload hx hb dX8_tell_111 (lv_at hl 4 rfl) ?_
        refine x_iadd hx hb dX8_tell_113 h (fun x38 h => ?_)
        refine x_iald (t0 := 0) hx hb hK hP ht h (g_M_1 cI a s36) dX8_tell_114 (fun x39 h => ?_)
        refine x_iast (p_M cI a) (t0 := 0) hx hb hK hP hD hS ht h (g_M_7 cI a s36) (fun j9 v9 => (s_M_7 cI a s36 _)) dX8_tell_115 (fun H locs s40 hP hS h => ?_)
        refine lv_aload_n hx hb dX8_tell_116 rfl (lv_at hl 0 rfl) ?_
        refine x_getr (C := RX8) (k := 8) hx hb hts u_X8_tell_8 hown hK hP (g_M_0 cI a s40) rfl (by decide) ⟨rfl, rfl, rfl⟩ k_X8_tell_f31 rfl dX8_tell_117 ?_
        refine lv_aload_n hx hb dX8_tell_120 rfl (lv_at hl 0 rfl) ?_
        refine x_geti (C := RX8) (k := 10) hx hb hts u_X8_tell_8 hown hK hP (g_M_0 cI a s40) rfl (by decide) ⟨rfl, rfl, rfl⟩ k_X8_tell_f114 rfl dX8_tell_121 h (fun x41 h => ?_)
        refine lv_iload hx hb dX8_tell_124 (lv_at hl 5 rfl) ?_
        refine lv_if_eq (tgt := 144) hx hb dX8_tell_126 (by decide) (fun c42 => ?_) (fun c42 => ?_)
        · have h := if_t c42 h
          exact i144 s40 x23 x24 x25 x26 x41 _ _ _ h hP hS (lv_sub hl [0, 1, 2, 3, 4] rfl)
        · have h := if_f c42 h
          refine lv_aload_n hx hb dX8_tell_129 rfl (lv_at hl 0 rfl) ?_
          refine x_getr (C := RX8) (k := 1) hx hb hts u_X8_tell_8 hown hK hP (g_M_0 cI a s40) rfl (by decide) ⟨rfl, rfl, rfl⟩ k_X8_tell_f7 rfl dX8_tell_130 ?_
          refine lv_iconst (v := 2) hx hb dX8_tell_133 (by decide +kernel) ?_
          refine x_iald (t0 := 0) hx hb hK hP ht h (g_M_1 cI a s40) dX8_tell_134 (fun x48 h => ?_)
          refine lv_iconst (v := 2) hx hb dX8_tell_135 (by decide +kernel) ?_
          refine lv_icmp_ne (tgt := 144) hx hb dX8_tell_136 (by decide) (fun c49 => ?_) (fun c49 => ?_)
          · have h := if_f c49 h
            exact i144 s40 x23 x24 x25 x26 x41 _ _ _ h hP hS (lv_sub hl [0, 1, 2, 3, 4] rfl)
          · have h := if_t c49 h
            refine lv_bipush (v := 16) hx hb dX8_tell_139 (by decide +kernel) ?_
            refine lv_goto (tgt := 155) hx hb dX8_tell_141 (by decide) ?_
            exact i155 s40 x23 x24 x25 x26 x41 16 _ _ _ h hP hS (lv_sub hl [0, 1, 2, 3, 4] rfl)
      · intro σ x43 x44 x45 x46 x47 H locs ls h hP hS hl
        have h : b_X8_tell_144 (q_it (D_X8_tell) k9) σ x43 x44 x45 x46 x47 = some qq := h
        unfold b_X8_tell_144 at h
        refine lv_aload_n hx hb dX8_tell_144 rfl (lv_at hl 0 rfl) ?_
        refine x_getr (C := RX8) (k := 1) hx hb hts u_X8_tell_8 hown hK hP (g_M_0 cI a σ) rfl (by decide) ⟨rfl, rfl, rfl⟩ k_X8_tell_f7 rfl dX8_tell_145 ?_
        refine lv_sipush (v := 250) hx hb dX8_tell_148 (by decide +kernel) ?_
        refine lv_iload hx hb dX8_tell_151 (lv_at hl 4 rfl) ?_
        refine x_iadd hx hb dX8_tell_153 h (fun x56 h => ?_)
        refine x_iald (t0 := 0) hx hb hK hP ht h (g_M_1 cI a σ) dX8_tell_154 (fun x57 h => ?_)
        exact i155 σ x43 x44 x45 x46 x47 x57 _ _ _ h hP hS (lv_sub hl [0, 1, 2, 3, 4] rfl)
      · intro σ x50 x51 x52 x53 x54 x55 H locs ls h hP hS hl
        have h : b_X8_tell_155 (q_it (D_X8_tell) k9) σ x50 x51 x52 x53 x54 x55 = some qq := h
        unfold b_X8_tell_155 at h
        refine x_iast (p_M cI a) (t0 := 0) hx hb hK hP hD hS ht h (g_M_8 cI a σ) (fun j9 v9 => (s_M_8 cI a σ _)) dX8_tell_155 (fun H locs s58 hP hS h => ?_)
        refine lv_aload_n hx hb dX8_tell_156 rfl (lv_at hl 0 rfl) ?_
        refine x_getr (C := RX8) (k := 9) hx hb hts u_X8_tell_8 hown hK hP (g_M_0 cI a s58) rfl (by decide) ⟨rfl, rfl, rfl⟩ k_X8_tell_f34 rfl dX8_tell_157 ?_
        refine lv_aload_n hx hb dX8_tell_160 rfl (lv_at hl 0 rfl) ?_
        refine x_geti (C := RX8) (k := 10) hx hb hts u_X8_tell_8 hown hK hP (g_M_0 cI a s58) rfl (by decide) ⟨rfl, rfl, rfl⟩ k_X8_tell_f114 rfl dX8_tell_161 h (fun x59 h => ?_)
        refine lv_aload_n hx hb dX8_tell_164 rfl (lv_at hl 0 rfl) ?_
        refine x_getr (C := RX8) (k := 1) hx hb hts u_X8_tell_8 hown hK hP (g_M_0 cI a s58) rfl (by decide) ⟨rfl, rfl, rfl⟩ k_X8_tell_f7 rfl dX8_tell_165 ?_
        refine lv_sipush (v := 450) hx hb dX8_tell_168 (by decide +kernel) ?_
        refine lv_iload hx hb dX8_tell_171 (lv_at hl 4 rfl) ?_
        refine x_iadd hx hb dX8_tell_173 h (fun x60 h => ?_)
        refine x_iald (t0 := 0) hx hb hK hP ht h (g_M_1 cI a s58) dX8_tell_174 (fun x61 h => ?_)
        refine x_iast (p_M cI a) (t0 := 0) hx hb hK hP hD hS ht h (g_M_9 cI a s58) (fun j9 v9 => (s_M_9 cI a s58 _)) dX8_tell_175 (fun H locs s62 hP hS h => ?_)
        refine lv_aload_n hx hb dX8_tell_176 rfl (lv_at hl 0 rfl) ?_
        refine lv_dup hx hb dX8_tell_177 rfl ?_
        refine x_geti (C := RX8) (k := 10) hx hb hts u_X8_tell_8 hown hK hP (g_M_0 cI a s62) rfl (by decide) ⟨rfl, rfl, rfl⟩ k_X8_tell_f114 rfl dX8_tell_178 h (fun x63 h => ?_)
        refine lv_iconst (v := 1) hx hb dX8_tell_181 (by decide +kernel) ?_
        refine x_iadd hx hb dX8_tell_182 h (fun x64 h => ?_)
        refine x_puti (p_M cI a) (C := RX8) (k := 10) hx hb hts u_X8_tell_8 tyX8 tyX8_ok nmX8 hown hK hP hD hS h (g_M_0 cI a s62) rfl (by decide) ⟨rfl, rfl, rfl⟩ k_X8_tell_f114 rfl rfl rfl rfl (Nat.le_of_ble_eq_true rfl) (s_M_0_10 cI a s62 x64) dX8_tell_183 (fun H locs s65 hP hS h => ?_)
        refine x_iinc (k := 4) (w := 1) hx hb dX8_tell_186 hl rfl (by decide +kernel) (by decide) (fun v9 => [(4, .int v9), (0, .ref (a 0)), (1, .int x50), (2, .int x51), (3, .int x52)]) (fun v9 => rfl) h (fun x66 ls hl h => ?_)
        have hl : lv_has ls 6 [(4, .int x66), (0, .ref (a 0)), (1, .int x50), (2, .int x51), (3, .int x52)] := hl
        refine lv_goto (tgt := 6) hx hb dX8_tell_189 (by decide) ?_
        exact i6 s65 x50 x51 x52 x66 _ _ _ h hP hS (lv_sub hl [1, 2, 3, 4, 0] rfl)
  have i6 : ∀ (σ : qM) (x5 x6 x7 x8 : Int32) (H : Heap) (locs : List Loc) (ls : Array Slot), q_lim (D_X8_tell) 0 σ [x5, x6, x7, x8] = some qq → va_P D vwCl (p_M cI a σ) H → va_S A s.heap H locs → lv_has ls 6 [(0, .ref (a 0)), (1, .int x5), (2, .int x6), (3, .int x7), (4, .int x8)] → W p l e ({ frames := 0, cells := 0, slots := 0, locals := 0 }) s m [.ref (a 0), .int x1, .int x2, .int x3].toArray below meth c H locs 0 0 (MQ below (va_Qv (fun τ => ((0 : Int32), τ) = qq) (fun τ t => va_P D vwCl ((p_M cI a) τ) t.heap) A) [.ref (a 0), .int x1, .int x2, .int x3].toArray s 0 0 A) (F0 m 6 ls []) := by
    intro σ x5 x6 x7 x8 H locs ls h hP hS hl
    obtain ⟨k9, h⟩ := q_lim_n h
    exact (main k9).1 σ x5 x6 x7 x8 H locs ls h hP hS hl
  have i46 : ∀ (σ : qM) (x17 x18 x19 x20 x21 : Int32) (H : Heap) (locs : List Loc) (ls : Array Slot), q_lim (D_X8_tell) 1 σ [x17, x18, x19, x20, x21] = some qq → va_P D vwCl (p_M cI a σ) H → va_S A s.heap H locs → lv_has ls 6 [(0, .ref (a 0)), (1, .int x17), (2, .int x18), (3, .int x19), (4, .int x20)] → W p l e ({ frames := 0, cells := 0, slots := 0, locals := 0 }) s m [.ref (a 0), .int x1, .int x2, .int x3].toArray below meth c H locs 0 0 (MQ below (va_Qv (fun τ => ((0 : Int32), τ) = qq) (fun τ t => va_P D vwCl ((p_M cI a) τ) t.heap) A) [.ref (a 0), .int x1, .int x2, .int x3].toArray s 0 0 A) (F0 m 46 ls [.int x21]) := by
    intro σ x17 x18 x19 x20 x21 H locs ls h hP hS hl
    obtain ⟨k9, h⟩ := q_lim_n h
    exact (main k9).2.1 σ x17 x18 x19 x20 x21 H locs ls h hP hS hl
  have i66 : ∀ (σ : qM) (x23 x24 x25 x26 x27 : Int32) (H : Heap) (locs : List Loc) (ls : Array Slot), q_lim (D_X8_tell) 2 σ [x23, x24, x25, x26, x27] = some qq → va_P D vwCl (p_M cI a σ) H → va_S A s.heap H locs → lv_has ls 6 [(0, .ref (a 0)), (1, .int x23), (2, .int x24), (3, .int x25), (4, .int x26), (5, .int x27)] → W p l e ({ frames := 0, cells := 0, slots := 0, locals := 0 }) s m [.ref (a 0), .int x1, .int x2, .int x3].toArray below meth c H locs 0 0 (MQ below (va_Qv (fun τ => ((0 : Int32), τ) = qq) (fun τ t => va_P D vwCl ((p_M cI a) τ) t.heap) A) [.ref (a 0), .int x1, .int x2, .int x3].toArray s 0 0 A) (F0 m 66 ls []) := by
    intro σ x23 x24 x25 x26 x27 H locs ls h hP hS hl
    obtain ⟨k9, h⟩ := q_lim_n h
    exact (main k9).2.2.1 σ x23 x24 x25 x26 x27 H locs ls h hP hS hl
  have i144 : ∀ (σ : qM) (x43 x44 x45 x46 x47 : Int32) (H : Heap) (locs : List Loc) (ls : Array Slot), q_lim (D_X8_tell) 3 σ [x43, x44, x45, x46, x47] = some qq → va_P D vwCl (p_M cI a σ) H → va_S A s.heap H locs → lv_has ls 6 [(0, .ref (a 0)), (1, .int x43), (2, .int x44), (3, .int x45), (4, .int x46)] → W p l e ({ frames := 0, cells := 0, slots := 0, locals := 0 }) s m [.ref (a 0), .int x1, .int x2, .int x3].toArray below meth c H locs 0 0 (MQ below (va_Qv (fun τ => ((0 : Int32), τ) = qq) (fun τ t => va_P D vwCl ((p_M cI a) τ) t.heap) A) [.ref (a 0), .int x1, .int x2, .int x3].toArray s 0 0 A) (F0 m 144 ls [.int x47, .ref (a 8)]) := by
    intro σ x43 x44 x45 x46 x47 H locs ls h hP hS hl
    obtain ⟨k9, h⟩ := q_lim_n h
    exact (main k9).2.2.2.1 σ x43 x44 x45 x46 x47 H locs ls h hP hS hl
  have i155 : ∀ (σ : qM) (x50 x51 x52 x53 x54 x55 : Int32) (H : Heap) (locs : List Loc) (ls : Array Slot), q_lim (D_X8_tell) 4 σ [x50, x51, x52, x53, x54, x55] = some qq → va_P D vwCl (p_M cI a σ) H → va_S A s.heap H locs → lv_has ls 6 [(0, .ref (a 0)), (1, .int x50), (2, .int x51), (3, .int x52), (4, .int x53)] → W p l e ({ frames := 0, cells := 0, slots := 0, locals := 0 }) s m [.ref (a 0), .int x1, .int x2, .int x3].toArray below meth c H locs 0 0 (MQ below (va_Qv (fun τ => ((0 : Int32), τ) = qq) (fun τ t => va_P D vwCl ((p_M cI a) τ) t.heap) A) [.ref (a 0), .int x1, .int x2, .int x3].toArray s 0 0 A) (F0 m 155 ls [.int x55, .int x54, .ref (a 8)]) := by
    intro σ x50 x51 x52 x53 x54 x55 H locs ls h hP hS hl
    obtain ⟨k9, h⟩ := q_lim_n h
    exact (main k9).2.2.2.2 σ x50 x51 x52 x53 x54 x55 H locs ls h hP hS hl
  have h : e_X8_tell (q_lim (D_X8_tell)) σ x1 x2 x3 = some qq := h
  unfold e_X8_tell at h
  refine lv_bipush (v := 10) hx hb dX8_tell_0 (by decide +kernel) ?_
  refine lv_iload_n hx hb dX8_tell_2 rfl (lv_at hl 1 rfl) ?_
  refine x_imul hx hb dX8_tell_3 h (fun x4 h => ?_)
  refine lv_istore (lv' := [(4, .int x4), (0, .ref (a 0)), (1, .int x1), (2, .int x2), (3, .int x3)]) hx hb dX8_tell_4 hl (by decide) rfl (fun ls hl => ?_)
  exact i6 σ x1 x2 x3 x4 _ _ _ h hP hS (lv_sub hl [1, 2, 3, 4, 0] rfl)
/-! ===== VectorRoundsModel.become(III)V: world M ===== -/
theorem i_X8_become : yX8_become.cls = RX8 ∧ yX8_become.cls ≠ "java/lang/invoke/MethodHandle" ∧ yX8_become.cls ≠ "java/lang/invoke/VarHandle" ∧ (parseMethodDescriptor yX8_become.desc).map (fun d => d.parameters.length) = some 3 := by decide +kernel
theorem k_X8_become_f7 : Cond.fieldLink RX8 7 RX8 "s" "[I" ∈ wsX8_become := by decide +kernel
theorem u_X8_become_8 : ∀ w ∈ u_ws RX8 TX8 26, w ∈ wsX8_become := by decide +kernel
set_option maxHeartbeats 4000000 in
set_option maxRecDepth 100000 in
theorem c_X8_become (l : Launch) (D : va_G) (cI : ClassId) (tys : List (ClassId × FieldType)) (ht : tys[0]? = some (cI, .int)) (a : Nat → Nat) (σ : qM) (x1 : Int32) (x2 : Int32) (x3 : Int32) : q_Mev l yX8_become wsX8_become ({ frames := 0, cells := 0, slots := 0, locals := 0 }) [.ref (a 0), .int x1, .int x2, .int x3] D tys (p_M cI a) σ (f_X8_become σ x1 x2 x3) := by
  refine x_ofWv (cc := cX8_become) (maxL := 4) (ret := none) (by decide +kernel) rfl (pf_M cI a) (Nat.le_of_ble_eq_true rfl) ?_
  intro p e s m below meth c A ls qq h hx hb hml hr hlocks hown hts hK hP hD hA hS hl
  have hown : s.vm.findClass RX8 = some m.cls := hown
  have hl : lv_has ls 4 [(0, .ref (a 0)), (1, .int x1), (2, .int x2), (3, .int x3)] := hl
  have i44 : ∀ (σ : qM) (x7 x8 x9 : Int32) (H : Heap) (locs : List Loc) (ls : Array Slot), b_X8_become_44 σ x7 x8 x9 = some qq → va_P D vwCl (p_M cI a σ) H → va_S A s.heap H locs → lv_has ls 4 [(0, .ref (a 0)), (1, .int x7), (2, .int x8), (3, .int x9)] → W p l e ({ frames := 0, cells := 0, slots := 0, locals := 0 }) s m [.ref (a 0), .int x1, .int x2, .int x3].toArray below meth c H locs 0 0 (MQ below (va_Qv (fun τ => ((0 : Int32), τ) = qq) (fun τ t => va_P D vwCl ((p_M cI a) τ) t.heap) A) [.ref (a 0), .int x1, .int x2, .int x3].toArray s 0 0 A) (F0 m 44 ls []) := by
    intro σ x7 x8 x9 H locs ls h hP hS hl
    unfold b_X8_become_44 at h
    refine lv_aload_n hx hb dX8_become_44 rfl (lv_at hl 0 rfl) ?_
    refine x_getr (C := RX8) (k := 1) hx hb hts u_X8_become_8 hown hK hP (g_M_0 cI a σ) rfl (by decide) ⟨rfl, rfl, rfl⟩ k_X8_become_f7 rfl dX8_become_45 ?_
    refine lv_sipush (v := 250) hx hb dX8_become_48 (by decide +kernel) ?_
    refine lv_iload_n hx hb dX8_become_51 rfl (lv_at hl 1 rfl) ?_
    refine x_iadd hx hb dX8_become_52 h (fun x16 h => ?_)
    refine lv_iload_n hx hb dX8_become_53 rfl (lv_at hl 2 rfl) ?_
    refine x_iast (p_M cI a) (t0 := 0) hx hb hK hP hD hS ht h (g_M_1 cI a σ) (fun j9 v9 => (s_M_1 cI a σ _)) dX8_become_54 (fun H locs s17 hP hS h => ?_)
    refine lv_aload_n hx hb dX8_become_55 rfl (lv_at hl 0 rfl) ?_
    refine x_getr (C := RX8) (k := 1) hx hb hts u_X8_become_8 hown hK hP (g_M_0 cI a s17) rfl (by decide) ⟨rfl, rfl, rfl⟩ k_X8_become_f7 rfl dX8_become_56 ?_
    refine lv_sipush (v := 350) hx hb dX8_become_59 (by decide +kernel) ?_
    refine lv_iload_n hx hb dX8_become_62 rfl (lv_at hl 1 rfl) ?_
    refine x_iadd hx hb dX8_become_63 h (fun x18 h => ?_)
    refine lv_iload_n hx hb dX8_become_64 rfl (lv_at hl 3 rfl) ?_
    refine x_iast (p_M cI a) (t0 := 0) hx hb hK hP hD hS ht h (g_M_1 cI a s17) (fun j9 v9 => (s_M_1 cI a s17 _)) dX8_become_65 (fun H locs s19 hP hS h => ?_)
    exact x_vret (p_M cI a) hx hb hr hlocks hP hS dX8_become_66 h
  unfold f_X8_become at h
  refine lv_aload_n hx hb dX8_become_0 rfl (lv_at hl 0 rfl) ?_
  refine x_getr (C := RX8) (k := 1) hx hb hts u_X8_become_8 hown hK hP (g_M_0 cI a σ) rfl (by decide) ⟨rfl, rfl, rfl⟩ k_X8_become_f7 rfl dX8_become_1 ?_
  refine lv_sipush (v := 250) hx hb dX8_become_4 (by decide +kernel) ?_
  refine lv_iload_n hx hb dX8_become_7 rfl (lv_at hl 1 rfl) ?_
  refine x_iadd hx hb dX8_become_8 h (fun x4 h => ?_)
  refine x_iald (t0 := 0) hx hb hK hP ht h (g_M_1 cI a σ) dX8_become_9 (fun x5 h => ?_)
  refine lv_bipush (v := 16) hx hb dX8_become_10 (by decide +kernel) ?_
  refine lv_icmp_ge (tgt := 44) hx hb dX8_become_12 (by decide) (fun c6 => ?_) (fun c6 => ?_)
  · have h := if_t c6 h
    exact i44 σ x1 x2 x3 _ _ _ h hP hS (lv_sub hl [0, 1, 2, 3] rfl)
  · have h := if_f c6 h
    refine lv_iload_n hx hb dX8_become_15 rfl (lv_at hl 2 rfl) ?_
    refine lv_bipush (v := 16) hx hb dX8_become_16 (by decide +kernel) ?_
    refine lv_icmp_ne (tgt := 44) hx hb dX8_become_18 (by decide) (fun c10 => ?_) (fun c10 => ?_)
    · have h := if_f c10 h
      exact i44 σ x1 x2 x3 _ _ _ h hP hS (lv_sub hl [0, 1, 2, 3] rfl)
    · have h := if_t c10 h
      refine lv_aload_n hx hb dX8_become_21 rfl (lv_at hl 0 rfl) ?_
      refine x_getr (C := RX8) (k := 1) hx hb hts u_X8_become_8 hown hK hP (g_M_0 cI a σ) rfl (by decide) ⟨rfl, rfl, rfl⟩ k_X8_become_f7 rfl dX8_become_22 ?_
      refine lv_sipush (v := 550) hx hb dX8_become_25 (by decide +kernel) ?_
      refine lv_iload_n hx hb dX8_become_28 rfl (lv_at hl 1 rfl) ?_
      refine x_iadd hx hb dX8_become_29 h (fun x11 h => ?_)
      refine lv_aload_n hx hb dX8_become_30 rfl (lv_at hl 0 rfl) ?_
      refine x_getr (C := RX8) (k := 1) hx hb hts u_X8_become_8 hown hK hP (g_M_0 cI a σ) rfl (by decide) ⟨rfl, rfl, rfl⟩ k_X8_become_f7 rfl dX8_become_31 ?_
      refine lv_iconst (v := 5) hx hb dX8_become_34 (by decide +kernel) ?_
      refine x_iald (t0 := 0) hx hb hK hP ht h (g_M_1 cI a σ) dX8_become_35 (fun x12 h => ?_)
      refine lv_aload_n hx hb dX8_become_36 rfl (lv_at hl 0 rfl) ?_
      refine x_getr (C := RX8) (k := 1) hx hb hts u_X8_become_8 hown hK hP (g_M_0 cI a σ) rfl (by decide) ⟨rfl, rfl, rfl⟩ k_X8_become_f7 rfl dX8_become_37 ?_
      refine lv_iconst (v := 4) hx hb dX8_become_40 (by decide +kernel) ?_
      refine x_iald (t0 := 0) hx hb hK hP ht h (g_M_1 cI a σ) dX8_become_41 (fun x13 h => ?_)
      refine x_iadd hx hb dX8_become_42 h (fun x14 h => ?_)
      refine x_iast (p_M cI a) (t0 := 0) hx hb hK hP hD hS ht h (g_M_1 cI a σ) (fun j9 v9 => (s_M_1 cI a σ _)) dX8_become_43 (fun H locs s15 hP hS h => ?_)
      exact i44 s15 x1 x2 x3 _ _ _ h hP hS (lv_sub hl [0, 1, 2, 3] rfl)
/-! ===== VectorRoundsModel.receive(I)V: world M ===== -/
theorem i_X8_receive : yX8_receive.cls = RX8 ∧ yX8_receive.cls ≠ "java/lang/invoke/MethodHandle" ∧ yX8_receive.cls ≠ "java/lang/invoke/VarHandle" ∧ (parseMethodDescriptor yX8_receive.desc).map (fun d => d.parameters.length) = some 1 := by decide +kernel
theorem k_X8_receive_f19 : Cond.fieldLink RX8 19 RX8 "toWhom" "[I" ∈ wsX8_receive := by decide +kernel
theorem k_X8_receive_f22 : Cond.fieldLink RX8 22 RX8 "byWhom" "[I" ∈ wsX8_receive := by decide +kernel
theorem k_X8_receive_f25 : Cond.fieldLink RX8 25 RX8 "byCost" "[I" ∈ wsX8_receive := by decide +kernel
theorem k_X8_receive_f28 : Cond.fieldLink RX8 28 RX8 "ofWhom" "[I" ∈ wsX8_receive := by decide +kernel
theorem k_X8_receive_f31 : Cond.fieldLink RX8 31 RX8 "metrics" "[I" ∈ wsX8_receive := by decide +kernel
theorem k_X8_receive_f34 : Cond.fieldLink RX8 34 RX8 "sequences" "[I" ∈ wsX8_receive := by decide +kernel
theorem k_X8_receive_f7 : Cond.fieldLink RX8 7 RX8 "s" "[I" ∈ wsX8_receive := by decide +kernel
theorem k_X8_receive_m83 : Cond.methodLink RX8 83 Lib.Math.min.name ∈ wsX8_receive ∧ Cond.static Lib.Math.min.name ∈ wsX8_receive ∧ Cond.initialized "java/lang/Math" ∈ wsX8_receive ∧ Cond.code Lib.Math.min.name Lib.Math.min.code 2 (some .int) ∈ wsX8_receive := by decide +kernel
theorem u_X8_receive_8 : ∀ w ∈ u_ws RX8 TX8 26, w ∈ wsX8_receive := by decide +kernel
set_option maxHeartbeats 4000000 in
set_option maxRecDepth 100000 in
theorem c_X8_receive (l : Launch) (D : va_G) (cI : ClassId) (tys : List (ClassId × FieldType)) (ht : tys[0]? = some (cI, .int)) (a : Nat → Nat) (σ : qM) (x1 : Int32) : q_Mev l yX8_receive wsX8_receive ({ frames := 1, cells := 0, slots := 0, locals := 40 }) [.ref (a 0), .int x1] D tys (p_M cI a) σ (f_X8_receive σ x1) := by
  refine x_ofWv (cc := cX8_receive) (maxL := 7) (ret := none) (by decide +kernel) rfl (pf_M cI a) (Nat.le_of_ble_eq_true rfl) ?_
  intro p e s m below meth c A ls qq h hx hb hml hr hlocks hown hts hK hP hD hA hS hl
  have hown : s.vm.findClass RX8 = some m.cls := hown
  have hl : lv_has ls 7 [(0, .ref (a 0)), (1, .int x1)] := hl
  have i216 : ∀ (σ : qM) (x47 x48 x49 x50 : Int32) (H : Heap) (locs : List Loc) (ls : Array Slot), b_X8_receive_216 σ x47 x48 x49 x50 = some qq → va_P D vwCl (p_M cI a σ) H → va_S A s.heap H locs → lv_has ls 7 [(0, .ref (a 0)), (1, .int x47), (3, .int x48), (4, .int x49), (5, .int x50)] → W p l e ({ frames := 1, cells := 0, slots := 0, locals := 40 }) s m [.ref (a 0), .int x1].toArray below meth c H locs 0 0 (MQ below (va_Qv (fun τ => ((0 : Int32), τ) = qq) (fun τ t => va_P D vwCl ((p_M cI a) τ) t.heap) A) [.ref (a 0), .int x1].toArray s 0 0 A) (F0 m 216 ls []) := by
    intro σ x47 x48 x49 x50 H locs ls h hP hS hl
    unfold b_X8_receive_216 at h
    refine lv_aload_n hx hb dX8_receive_216 rfl (lv_at hl 0 rfl) ?_
    refine lv_iload hx hb dX8_receive_217 (lv_at hl 4 rfl) ?_
    refine lv_iload hx hb dX8_receive_219 (lv_at hl 3 rfl) ?_
    refine lv_iload_n hx hb dX8_receive_221 rfl (lv_at hl 2 rfl) ?_
    refine x_cVv (p_M cI a) (p_M cI a) (fun τ => τ) [] [.int x50, .int x49, .int x48] hx hb hml hl.1 hown hts hK hP hD hS hA rfl (c_X8_become l D cI tys ht a σ x50 x49 x48) gX8_receive_X8_become rfl ⟨rfl, rfl⟩ i_X8_become ⟨Nat.le_of_ble_eq_true rfl, Nat.le_of_ble_eq_true rfl⟩ q_frI (g_M_0 cI a σ) rfl rfl (Nat.le_of_ble_eq_true rfl) ⟨Nat.zero_le _, Nat.zero_le _⟩ dX8_receive_222 h (fun H locs s60 hP hS h => ?_)
    refine lv_aload_n hx hb dX8_receive_225 rfl (lv_at hl 0 rfl) ?_
    refine x_getr (C := RX8) (k := 1) hx hb hts u_X8_receive_8 hown hK hP (g_M_0 cI a s60) rfl (by decide) ⟨rfl, rfl, rfl⟩ k_X8_receive_f7 rfl dX8_receive_226 ?_
    refine lv_sipush (v := 450) hx hb dX8_receive_229 (by decide +kernel) ?_
    refine lv_iload hx hb dX8_receive_232 (lv_at hl 4 rfl) ?_
    refine x_iadd hx hb dX8_receive_234 h (fun x61 h => ?_)
    refine lv_aload_n hx hb dX8_receive_235 rfl (lv_at hl 0 rfl) ?_
    refine x_getr (C := RX8) (k := 9) hx hb hts u_X8_receive_8 hown hK hP (g_M_0 cI a s60) rfl (by decide) ⟨rfl, rfl, rfl⟩ k_X8_receive_f34 rfl dX8_receive_236 ?_
    refine lv_iload_n hx hb dX8_receive_239 rfl (lv_at hl 1 rfl) ?_
    refine x_iald (t0 := 0) hx hb hK hP ht h (g_M_9 cI a s60) dX8_receive_240 (fun x62 h => ?_)
    refine x_iast (p_M cI a) (t0 := 0) hx hb hK hP hD hS ht h (g_M_1 cI a s60) (fun j9 v9 => (s_M_1 cI a s60 _)) dX8_receive_241 (fun H locs s63 hP hS h => ?_)
    refine lv_goto (tgt := 279) hx hb dX8_receive_242 (by decide) ?_
    exact x_vret (p_M cI a) hx hb hr hlocks hP hS dX8_receive_279 h
  have i132 : ∀ (σ : qM) (x25 x26 x27 x28 x29 : Int32) (H : Heap) (locs : List Loc) (ls : Array Slot), b_X8_receive_132 σ x25 x26 x27 x28 x29 = some qq → va_P D vwCl (p_M cI a σ) H → va_S A s.heap H locs → lv_has ls 7 [(0, .ref (a 0)), (1, .int x25), (3, .int x26), (4, .int x27), (5, .int x28)] → W p l e ({ frames := 1, cells := 0, slots := 0, locals := 40 }) s m [.ref (a 0), .int x1].toArray below meth c H locs 0 0 (MQ below (va_Qv (fun τ => ((0 : Int32), τ) = qq) (fun τ t => va_P D vwCl ((p_M cI a) τ) t.heap) A) [.ref (a 0), .int x1].toArray s 0 0 A) (F0 m 132 ls [.int x29]) := by
    intro σ x25 x26 x27 x28 x29 H locs ls h hP hS hl
    unfold b_X8_receive_132 at h
    refine lv_istore (lv' := [(6, .int x29), (0, .ref (a 0)), (1, .int x25), (3, .int x26), (4, .int x27), (5, .int x28)]) hx hb dX8_receive_132 hl (by decide) rfl (fun ls hl => ?_)
    refine lv_aload_n hx hb dX8_receive_134 rfl (lv_at hl 1 rfl) ?_
    refine x_getr (C := RX8) (k := 1) hx hb hts u_X8_receive_8 hown hK hP (g_M_0 cI a σ) rfl (by decide) ⟨rfl, rfl, rfl⟩ k_X8_receive_f7 rfl dX8_receive_135 ?_
    refine lv_iconst (v := 3) hx hb dX8_receive_138 (by decide +kernel) ?_
    refine x_iald (t0 := 0) hx hb hK hP ht h (g_M_1 cI a σ) dX8_receive_139 (fun x34 h => ?_)
    refine lv_if_ne (tgt := 173) hx hb dX8_receive_140 (by decide) (fun c35 => ?_) (fun c35 => ?_)
    · have h := if_f c35 h
      refine lv_aload_n hx hb dX8_receive_173 rfl (lv_at hl 1 rfl) ?_
      refine x_getr (C := RX8) (k := 9) hx hb hts u_X8_receive_8 hown hK hP (g_M_0 cI a σ) rfl (by decide) ⟨rfl, rfl, rfl⟩ k_X8_receive_f34 rfl dX8_receive_174 ?_
      refine lv_iload_n hx hb dX8_receive_177 rfl (lv_at hl 2 rfl) ?_
      refine x_iald (t0 := 0) hx hb hK hP ht h (g_M_9 cI a σ) dX8_receive_178 (fun x36 h => ?_)
      refine lv_aload_n hx hb dX8_receive_179 rfl (lv_at hl 1 rfl) ?_
      refine x_getr (C := RX8) (k := 1) hx hb hts u_X8_receive_8 hown hK hP (g_M_0 cI a σ) rfl (by decide) ⟨rfl, rfl, rfl⟩ k_X8_receive_f7 rfl dX8_receive_180 ?_
      refine lv_sipush (v := 450) hx hb dX8_receive_183 (by decide +kernel) ?_
      refine lv_iload hx hb dX8_receive_186 (lv_at hl 5 rfl) ?_
      refine x_iadd hx hb dX8_receive_188 h (fun x37 h => ?_)
      refine x_iald (t0 := 0) hx hb hK hP ht h (g_M_1 cI a σ) dX8_receive_189 (fun x38 h => ?_)
      refine lv_icmp_le (tgt := 245) hx hb dX8_receive_190 (by decide) (fun c39 => ?_) (fun c39 => ?_)
      · have h := if_t c39 h
        refine lv_aload_n hx hb dX8_receive_245 rfl (lv_at hl 1 rfl) ?_
        refine x_getr (C := RX8) (k := 9) hx hb hts u_X8_receive_8 hown hK hP (g_M_0 cI a σ) rfl (by decide) ⟨rfl, rfl, rfl⟩ k_X8_receive_f34 rfl dX8_receive_246 ?_
        refine lv_iload_n hx hb dX8_receive_249 rfl (lv_at hl 2 rfl) ?_
        refine x_iald (t0 := 0) hx hb hK hP ht h (g_M_9 cI a σ) dX8_receive_250 (fun x40 h => ?_)
        refine lv_aload_n hx hb dX8_receive_251 rfl (lv_at hl 1 rfl) ?_
        refine x_getr (C := RX8) (k := 1) hx hb hts u_X8_receive_8 hown hK hP (g_M_0 cI a σ) rfl (by decide) ⟨rfl, rfl, rfl⟩ k_X8_receive_f7 rfl dX8_receive_252 ?_
        refine lv_sipush (v := 450) hx hb dX8_receive_255 (by decide +kernel) ?_
        refine lv_iload hx hb dX8_receive_258 (lv_at hl 5 rfl) ?_
        refine x_iadd hx hb dX8_receive_260 h (fun x41 h => ?_)
        refine x_iald (t0 := 0) hx hb hK hP ht h (g_M_1 cI a σ) dX8_receive_261 (fun x42 h => ?_)
        refine lv_icmp_ne (tgt := 279) hx hb dX8_receive_262 (by decide) (fun c43 => ?_) (fun c43 => ?_)
        · have h := if_f c43 h
          exact x_vret (p_M cI a) hx hb hr hlocks hP hS dX8_receive_279 h
        · have h := if_t c43 h
          refine lv_iload hx hb dX8_receive_265 (lv_at hl 0 rfl) ?_
          refine lv_if_eq (tgt := 279) hx hb dX8_receive_267 (by decide) (fun c44 => ?_) (fun c44 => ?_)
          · have h := if_t c44 h
            exact x_vret (p_M cI a) hx hb hr hlocks hP hS dX8_receive_279 h
          · have h := if_f c44 h
            refine lv_aload_n hx hb dX8_receive_270 rfl (lv_at hl 1 rfl) ?_
            refine lv_iload hx hb dX8_receive_271 (lv_at hl 5 rfl) ?_
            refine lv_iload hx hb dX8_receive_273 (lv_at hl 4 rfl) ?_
            refine lv_iload_n hx hb dX8_receive_275 rfl (lv_at hl 3 rfl) ?_
            refine x_cVv (p_M cI a) (p_M cI a) (fun τ => τ) [] [.int x28, .int x27, .int x26] hx hb hml hl.1 hown hts hK hP hD hS hA rfl (c_X8_become l D cI tys ht a σ x28 x27 x26) gX8_receive_X8_become rfl ⟨rfl, rfl⟩ i_X8_become ⟨Nat.le_of_ble_eq_true rfl, Nat.le_of_ble_eq_true rfl⟩ q_frI (g_M_0 cI a σ) rfl rfl (Nat.le_of_ble_eq_true rfl) ⟨Nat.zero_le _, Nat.zero_le _⟩ dX8_receive_276 h (fun H locs s45 hP hS h => ?_)
            exact x_vret (p_M cI a) hx hb hr hlocks hP hS dX8_receive_279 h
      · have h := if_f c39 h
        refine lv_iload hx hb dX8_receive_193 (lv_at hl 4 rfl) ?_
        refine lv_bipush (v := 16) hx hb dX8_receive_195 (by decide +kernel) ?_
        refine lv_icmp_ne (tgt := 216) hx hb dX8_receive_197 (by decide) (fun c46 => ?_) (fun c46 => ?_)
        · have h := if_f c46 h
          exact i216 σ x25 x26 x27 x28 _ _ _ h hP hS (lv_sub hl [1, 2, 3, 4, 5] rfl)
        · have h := if_t c46 h
          refine lv_aload_n hx hb dX8_receive_200 rfl (lv_at hl 1 rfl) ?_
          refine x_getr (C := RX8) (k := 1) hx hb hts u_X8_receive_8 hown hK hP (g_M_0 cI a σ) rfl (by decide) ⟨rfl, rfl, rfl⟩ k_X8_receive_f7 rfl dX8_receive_201 ?_
          refine lv_sipush (v := 350) hx hb dX8_receive_204 (by decide +kernel) ?_
          refine lv_iload hx hb dX8_receive_207 (lv_at hl 5 rfl) ?_
          refine x_iadd hx hb dX8_receive_209 h (fun x51 h => ?_)
          refine x_iald (t0 := 0) hx hb hK hP ht h (g_M_1 cI a σ) dX8_receive_210 (fun x52 h => ?_)
          refine lv_iload_n hx hb dX8_receive_211 rfl (lv_at hl 3 rfl) ?_
          refine lv_icmp_eq (tgt := 216) hx hb dX8_receive_212 (by decide) (fun c53 => ?_) (fun c53 => ?_)
          · have h := if_t c53 h
            exact i216 σ x25 x26 x27 x28 _ _ _ h hP hS (lv_sub hl [1, 2, 3, 4, 5] rfl)
          · have h := if_f c53 h
            exact x_vret (p_M cI a) hx hb hr hlocks hP hS dX8_receive_215 h
    · have h := if_t c35 h
      refine lv_aload_n hx hb dX8_receive_143 rfl (lv_at hl 1 rfl) ?_
      refine x_getr (C := RX8) (k := 1) hx hb hts u_X8_receive_8 hown hK hP (g_M_0 cI a σ) rfl (by decide) ⟨rfl, rfl, rfl⟩ k_X8_receive_f7 rfl dX8_receive_144 ?_
      refine lv_sipush (v := 350) hx hb dX8_receive_147 (by decide +kernel) ?_
      refine lv_iload hx hb dX8_receive_150 (lv_at hl 5 rfl) ?_
      refine x_iadd hx hb dX8_receive_152 h (fun x54 h => ?_)
      refine x_iald (t0 := 0) hx hb hK hP ht h (g_M_1 cI a σ) dX8_receive_153 (fun x55 h => ?_)
      refine lv_iload_n hx hb dX8_receive_154 rfl (lv_at hl 3 rfl) ?_
      refine lv_icmp_eq (tgt := 163) hx hb dX8_receive_155 (by decide) (fun c56 => ?_) (fun c56 => ?_)
      · have h := if_t c56 h
        refine lv_aload_n hx hb dX8_receive_163 rfl (lv_at hl 1 rfl) ?_
        refine lv_iload hx hb dX8_receive_164 (lv_at hl 5 rfl) ?_
        refine lv_iload hx hb dX8_receive_166 (lv_at hl 4 rfl) ?_
        refine lv_iload_n hx hb dX8_receive_168 rfl (lv_at hl 3 rfl) ?_
        refine x_cVv (p_M cI a) (p_M cI a) (fun τ => τ) [] [.int x28, .int x27, .int x26] hx hb hml hl.1 hown hts hK hP hD hS hA rfl (c_X8_become l D cI tys ht a σ x28 x27 x26) gX8_receive_X8_become rfl ⟨rfl, rfl⟩ i_X8_become ⟨Nat.le_of_ble_eq_true rfl, Nat.le_of_ble_eq_true rfl⟩ q_frI (g_M_0 cI a σ) rfl rfl (Nat.le_of_ble_eq_true rfl) ⟨Nat.zero_le _, Nat.zero_le _⟩ dX8_receive_169 h (fun H locs s57 hP hS h => ?_)
        exact x_vret (p_M cI a) hx hb hr hlocks hP hS dX8_receive_172 h
      · have h := if_f c56 h
        refine lv_iload hx hb dX8_receive_158 (lv_at hl 0 rfl) ?_
        refine lv_if_eq (tgt := 172) hx hb dX8_receive_160 (by decide) (fun c58 => ?_) (fun c58 => ?_)
        · have h := if_t c58 h
          exact x_vret (p_M cI a) hx hb hr hlocks hP hS dX8_receive_172 h
        · have h := if_f c58 h
          refine lv_aload_n hx hb dX8_receive_163 rfl (lv_at hl 1 rfl) ?_
          refine lv_iload hx hb dX8_receive_164 (lv_at hl 5 rfl) ?_
          refine lv_iload hx hb dX8_receive_166 (lv_at hl 4 rfl) ?_
          refine lv_iload_n hx hb dX8_receive_168 rfl (lv_at hl 3 rfl) ?_
          refine x_cVv (p_M cI a) (p_M cI a) (fun τ => τ) [] [.int x28, .int x27, .int x26] hx hb hml hl.1 hown hts hK hP hD hS hA rfl (c_X8_become l D cI tys ht a σ x28 x27 x26) gX8_receive_X8_become rfl ⟨rfl, rfl⟩ i_X8_become ⟨Nat.le_of_ble_eq_true rfl, Nat.le_of_ble_eq_true rfl⟩ q_frI (g_M_0 cI a σ) rfl rfl (Nat.le_of_ble_eq_true rfl) ⟨Nat.zero_le _, Nat.zero_le _⟩ dX8_receive_169 h (fun H locs s59 hP hS h => ?_)
          exact x_vret (p_M cI a) hx hb hr hlocks hP hS dX8_receive_172 h
  have i131 : ∀ (σ : qM) (x17 x18 x19 x20 : Int32) (H : Heap) (locs : List Loc) (ls : Array Slot), b_X8_receive_131 σ x17 x18 x19 x20 = some qq → va_P D vwCl (p_M cI a σ) H → va_S A s.heap H locs → lv_has ls 7 [(0, .ref (a 0)), (1, .int x17), (3, .int x18), (4, .int x19), (5, .int x20)] → W p l e ({ frames := 1, cells := 0, slots := 0, locals := 40 }) s m [.ref (a 0), .int x1].toArray below meth c H locs 0 0 (MQ below (va_Qv (fun τ => ((0 : Int32), τ) = qq) (fun τ t => va_P D vwCl ((p_M cI a) τ) t.heap) A) [.ref (a 0), .int x1].toArray s 0 0 A) (F0 m 131 ls []) := by
    intro σ x17 x18 x19 x20 H locs ls h hP hS hl
    unfold b_X8_receive_131 at h
    refine lv_iconst (v := 0) hx hb dX8_receive_131 (by decide +kernel) ?_
    exact i132 σ x17 x18 x19 x20 0 _ _ _ h hP hS (lv_sub hl [0, 1, 2, 3, 4] rfl)
  unfold f_X8_receive at h
  refine lv_aload_n hx hb dX8_receive_0 rfl (lv_at hl 0 rfl) ?_
  refine x_getr (C := RX8) (k := 4) hx hb hts u_X8_receive_8 hown hK hP (g_M_0 cI a σ) rfl (by decide) ⟨rfl, rfl, rfl⟩ k_X8_receive_f19 rfl dX8_receive_1 ?_
  refine lv_iload_n hx hb dX8_receive_4 rfl (lv_at hl 1 rfl) ?_
  refine x_iald (t0 := 0) hx hb hK hP ht h (g_M_4 cI a σ) dX8_receive_5 (fun x2 h => ?_)
  refine lv_istore_n (lv' := [(2, .int x2), (0, .ref (a 0)), (1, .int x1)]) hx hb dX8_receive_6 rfl hl (by decide) rfl (fun ls hl => ?_)
  refine lv_aload_n hx hb dX8_receive_7 rfl (lv_at hl 1 rfl) ?_
  refine x_getr (C := RX8) (k := 5) hx hb hts u_X8_receive_8 hown hK hP (g_M_0 cI a σ) rfl (by decide) ⟨rfl, rfl, rfl⟩ k_X8_receive_f22 rfl dX8_receive_8 ?_
  refine lv_iload_n hx hb dX8_receive_11 rfl (lv_at hl 2 rfl) ?_
  refine x_iald (t0 := 0) hx hb hK hP ht h (g_M_5 cI a σ) dX8_receive_12 (fun x3 h => ?_)
  refine lv_istore_n (lv' := [(3, .int x3), (2, .int x2), (0, .ref (a 0)), (1, .int x1)]) hx hb dX8_receive_13 rfl hl (by decide) rfl (fun ls hl => ?_)
  refine lv_aload_n hx hb dX8_receive_14 rfl (lv_at hl 2 rfl) ?_
  refine x_getr (C := RX8) (k := 7) hx hb hts u_X8_receive_8 hown hK hP (g_M_0 cI a σ) rfl (by decide) ⟨rfl, rfl, rfl⟩ k_X8_receive_f28 rfl dX8_receive_15 ?_
  refine lv_iload_n hx hb dX8_receive_18 rfl (lv_at hl 3 rfl) ?_
  refine x_iald (t0 := 0) hx hb hK hP ht h (g_M_7 cI a σ) dX8_receive_19 (fun x4 h => ?_)
  refine lv_iload_n hx hb dX8_receive_20 rfl (lv_at hl 1 rfl) ?_
  refine lv_icmp_ne (tgt := 25) hx hb dX8_receive_21 (by decide) (fun c5 => ?_) (fun c5 => ?_)
  · have h := if_f c5 h
    refine lv_bipush (v := 16) hx hb dX8_receive_25 (by decide +kernel) ?_
    refine lv_aload_n hx hb dX8_receive_27 rfl (lv_at hl 2 rfl) ?_
    refine x_getr (C := RX8) (k := 8) hx hb hts u_X8_receive_8 hown hK hP (g_M_0 cI a σ) rfl (by decide) ⟨rfl, rfl, rfl⟩ k_X8_receive_f31 rfl dX8_receive_28 ?_
    refine lv_iload_n hx hb dX8_receive_31 rfl (lv_at hl 3 rfl) ?_
    refine x_iald (t0 := 0) hx hb hK hP ht h (g_M_8 cI a σ) dX8_receive_32 (fun x6 h => ?_)
    refine lv_aload_n hx hb dX8_receive_33 rfl (lv_at hl 2 rfl) ?_
    refine x_getr (C := RX8) (k := 6) hx hb hts u_X8_receive_8 hown hK hP (g_M_0 cI a σ) rfl (by decide) ⟨rfl, rfl, rfl⟩ k_X8_receive_f25 rfl dX8_receive_34 ?_
    refine lv_iload_n hx hb dX8_receive_37 rfl (lv_at hl 3 rfl) ?_
    refine x_iald (t0 := 0) hx hb hK hP ht h (g_M_6 cI a σ) dX8_receive_38 (fun x7 h => ?_)
    refine x_iadd hx hb dX8_receive_39 h (fun x8 h => ?_)
    refine x_mmin hx hb (hml.trans hl.1.symm) hown hts k_X8_receive_m83 ⟨Nat.le_of_ble_eq_true rfl, Nat.le_of_ble_eq_true rfl, Nat.zero_le _, Nat.zero_le _⟩ dX8_receive_40 h (fun x9 h => ?_)
    refine lv_istore (lv' := [(4, .int x9), (3, .int x3), (2, .int x2), (0, .ref (a 0)), (1, .int x1)]) hx hb dX8_receive_43 hl (by decide) rfl (fun ls hl => ?_)
    refine lv_aload_n hx hb dX8_receive_45 rfl (lv_at hl 3 rfl) ?_
    refine lv_iload_n hx hb dX8_receive_46 rfl (lv_at hl 2 rfl) ?_
    refine lv_aload_n hx hb dX8_receive_47 rfl (lv_at hl 3 rfl) ?_
    refine x_getr (C := RX8) (k := 7) hx hb hts u_X8_receive_8 hown hK hP (g_M_0 cI a σ) rfl (by decide) ⟨rfl, rfl, rfl⟩ k_X8_receive_f28 rfl dX8_receive_48 ?_
    refine lv_iload_n hx hb dX8_receive_51 rfl (lv_at hl 4 rfl) ?_
    refine x_iald (t0 := 0) hx hb hK hP ht h (g_M_7 cI a σ) dX8_receive_52 (fun x10 h => ?_)
    refine x_cVi (p_M cI a) (p_M cI a) (fun τ => τ) [] [.int x2, .int x10] hx hb hml hl.1 hown hts hK hP hD hS hA rfl (c_X8_entryOf l D cI tys ht a σ x2 x10) gX8_receive_X8_entryOf rfl ⟨rfl, rfl⟩ i_X8_entryOf ⟨Nat.le_of_ble_eq_true rfl, Nat.le_of_ble_eq_true rfl⟩ q_frI (g_M_0 cI a σ) rfl rfl (Nat.le_of_ble_eq_true rfl) ⟨Nat.zero_le _, Nat.zero_le _⟩ dX8_receive_53 h (fun x12 H locs s11 hP hS h => ?_)
    refine lv_istore (lv' := [(5, .int x12), (4, .int x9), (3, .int x3), (2, .int x2), (0, .ref (a 0)), (1, .int x1)]) hx hb dX8_receive_56 hl (by decide) rfl (fun ls hl => ?_)
    refine lv_iload hx hb dX8_receive_58 (lv_at hl 0 rfl) ?_
    refine lv_if_ge (tgt := 91) hx hb dX8_receive_60 (by decide) (fun c13 => ?_) (fun c13 => ?_)
    · have h := if_t c13 h
      refine lv_iload hx hb dX8_receive_91 (lv_at hl 1 rfl) ?_
      refine lv_aload_n hx hb dX8_receive_93 rfl (lv_at hl 4 rfl) ?_
      refine x_getr (C := RX8) (k := 1) hx hb hts u_X8_receive_8 hown hK hP (g_M_0 cI a s11) rfl (by decide) ⟨rfl, rfl, rfl⟩ k_X8_receive_f7 rfl dX8_receive_94 ?_
      refine lv_sipush (v := 250) hx hb dX8_receive_97 (by decide +kernel) ?_
      refine lv_iload hx hb dX8_receive_100 (lv_at hl 0 rfl) ?_
      refine x_iadd hx hb dX8_receive_102 h (fun x14 h => ?_)
      refine x_iald (t0 := 0) hx hb hK hP ht h (g_M_1 cI a s11) dX8_receive_103 (fun x15 h => ?_)
      refine lv_icmp_ge (tgt := 131) hx hb dX8_receive_104 (by decide) (fun c16 => ?_) (fun c16 => ?_)
      · have h := if_t c16 h
        exact i131 s11 x1 x3 x9 x12 _ _ _ h hP hS (lv_sub hl [4, 5, 2, 1, 0] rfl)
      · have h := if_f c16 h
        refine lv_aload_n hx hb dX8_receive_107 rfl (lv_at hl 4 rfl) ?_
        refine x_getr (C := RX8) (k := 1) hx hb hts u_X8_receive_8 hown hK hP (g_M_0 cI a s11) rfl (by decide) ⟨rfl, rfl, rfl⟩ k_X8_receive_f7 rfl dX8_receive_108 ?_
        refine lv_sipush (v := 550) hx hb dX8_receive_111 (by decide +kernel) ?_
        refine lv_iload hx hb dX8_receive_114 (lv_at hl 0 rfl) ?_
        refine x_iadd hx hb dX8_receive_116 h (fun x21 h => ?_)
        refine x_iald (t0 := 0) hx hb hK hP ht h (g_M_1 cI a s11) dX8_receive_117 (fun x22 h => ?_)
        refine lv_aload_n hx hb dX8_receive_118 rfl (lv_at hl 4 rfl) ?_
        refine x_getr (C := RX8) (k := 1) hx hb hts u_X8_receive_8 hown hK hP (g_M_0 cI a s11) rfl (by decide) ⟨rfl, rfl, rfl⟩ k_X8_receive_f7 rfl dX8_receive_119 ?_
        refine lv_iconst (v := 5) hx hb dX8_receive_122 (by decide +kernel) ?_
        refine x_iald (t0 := 0) hx hb hK hP ht h (g_M_1 cI a s11) dX8_receive_123 (fun x23 h => ?_)
        refine lv_icmp_ge (tgt := 131) hx hb dX8_receive_124 (by decide) (fun c24 => ?_) (fun c24 => ?_)
        · have h := if_t c24 h
          exact i131 s11 x1 x3 x9 x12 _ _ _ h hP hS (lv_sub hl [4, 5, 2, 1, 0] rfl)
        · have h := if_f c24 h
          refine lv_iconst (v := 1) hx hb dX8_receive_127 (by decide +kernel) ?_
          refine lv_goto (tgt := 132) hx hb dX8_receive_128 (by decide) ?_
          exact i132 s11 x1 x3 x9 x12 1 _ _ _ h hP hS (lv_sub hl [4, 5, 2, 1, 0] rfl)
    · have h := if_f c13 h
      refine lv_iload hx hb dX8_receive_63 (lv_at hl 1 rfl) ?_
      refine lv_bipush (v := 16) hx hb dX8_receive_65 (by decide +kernel) ?_
      refine lv_icmp_ge (tgt := 90) hx hb dX8_receive_67 (by decide) (fun c30 => ?_) (fun c30 => ?_)
      · have h := if_t c30 h
        exact x_vret (p_M cI a) hx hb hr hlocks hP hS dX8_receive_90 h
      · have h := if_f c30 h
        refine lv_aload_n hx hb dX8_receive_70 rfl (lv_at hl 4 rfl) ?_
        refine lv_iload_n hx hb dX8_receive_71 rfl (lv_at hl 3 rfl) ?_
        refine lv_aload_n hx hb dX8_receive_72 rfl (lv_at hl 4 rfl) ?_
        refine x_getr (C := RX8) (k := 7) hx hb hts u_X8_receive_8 hown hK hP (g_M_0 cI a s11) rfl (by decide) ⟨rfl, rfl, rfl⟩ k_X8_receive_f28 rfl dX8_receive_73 ?_
        refine lv_iload_n hx hb dX8_receive_76 rfl (lv_at hl 5 rfl) ?_
        refine x_iald (t0 := 0) hx hb hK hP ht h (g_M_7 cI a s11) dX8_receive_77 (fun x31 h => ?_)
        refine lv_iload hx hb dX8_receive_78 (lv_at hl 1 rfl) ?_
        refine lv_iload_n hx hb dX8_receive_80 rfl (lv_at hl 2 rfl) ?_
        refine lv_aload_n hx hb dX8_receive_81 rfl (lv_at hl 4 rfl) ?_
        refine x_getr (C := RX8) (k := 9) hx hb hts u_X8_receive_8 hown hK hP (g_M_0 cI a s11) rfl (by decide) ⟨rfl, rfl, rfl⟩ k_X8_receive_f34 rfl dX8_receive_82 ?_
        refine lv_iload_n hx hb dX8_receive_85 rfl (lv_at hl 5 rfl) ?_
        refine x_iald (t0 := 0) hx hb hK hP ht h (g_M_9 cI a s11) dX8_receive_86 (fun x32 h => ?_)
        refine x_cVv (p_M cI a) (p_M cI a) (fun τ => τ) [] [.int x2, .int x31, .int x9, .int x3, .int x32] hx hb hml hl.1 hown hts hK hP hD hS hA rfl (c_X8_know l D cI tys ht a s11 x2 x31 x9 x3 x32) gX8_receive_X8_know rfl ⟨rfl, rfl⟩ i_X8_know ⟨Nat.le_of_ble_eq_true rfl, Nat.le_of_ble_eq_true rfl⟩ q_frI (g_M_0 cI a s11) rfl rfl (Nat.le_of_ble_eq_true rfl) ⟨Nat.zero_le _, Nat.zero_le _⟩ dX8_receive_87 h (fun H locs s33 hP hS h => ?_)
        exact x_vret (p_M cI a) hx hb hr hlocks hP hS dX8_receive_90 h
  · have h := if_t c5 h
    exact x_vret (p_M cI a) hx hb hr hlocks hP hS dX8_receive_24 h
/-! ===== VectorRoundsModel.goRound()I: world M ===== -/
theorem i_X8_goRound : yX8_goRound.cls = RX8 ∧ yX8_goRound.cls ≠ "java/lang/invoke/MethodHandle" ∧ yX8_goRound.cls ≠ "java/lang/invoke/VarHandle" ∧ (parseMethodDescriptor yX8_goRound.desc).map (fun d => d.parameters.length) = some 0 := by decide +kernel
theorem k_X8_goRound_f114 : Cond.fieldLink RX8 114 RX8 "sent" "I" ∈ wsX8_goRound := by decide +kernel
theorem k_X8_goRound_f37 : Cond.fieldLink RX8 37 RX8 "wasKnown" "[I" ∈ wsX8_goRound := by decide +kernel
theorem k_X8_goRound_f40 : Cond.fieldLink RX8 40 RX8 "was" "[I" ∈ wsX8_goRound := by decide +kernel
theorem k_X8_goRound_f7 : Cond.fieldLink RX8 7 RX8 "s" "[I" ∈ wsX8_goRound := by decide +kernel
theorem u_X8_goRound_8 : ∀ w ∈ u_ws RX8 TX8 26, w ∈ wsX8_goRound := by decide +kernel
set_option maxHeartbeats 4000000 in
set_option maxRecDepth 100000 in
theorem c_X8_goRound (l : Launch) (D : va_G) (cI : ClassId) (tys : List (ClassId × FieldType)) (ht : tys[0]? = some (cI, .int)) (a : Nat → Nat) (σ : qM) : q_Met l yX8_goRound wsX8_goRound ({ frames := 2, cells := 0, slots := 0, locals := 66 }) [.ref (a 0)] D tys (p_M cI a) σ (f_X8_goRound σ) := by
  refine x_ofWi (cc := cX8_goRound) (maxL := 5) (ret := (some .int)) (by decide +kernel) rfl (pf_M cI a) (Nat.le_of_ble_eq_true rfl) ?_
  intro p e s m below meth c A ls qq h hx hb hml hr hlocks hown hts hK hP hD hA hS hl
  have hown : s.vm.findClass RX8 = some m.cls := hown
  have hl : lv_has ls 5 [(0, .ref (a 0))] := hl
  have main : ∀ k9 : Nat, (∀ (σ : qM) (x1 : Int32) (H : Heap) (locs : List Loc) (ls : Array Slot), q_it (D_X8_goRound) k9 0 σ [x1] = some qq → va_P D vwCl (p_M cI a σ) H → va_S A s.heap H locs → lv_has ls 5 [(0, .ref (a 0)), (1, .int x1)] → W p l e ({ frames := 2, cells := 0, slots := 0, locals := 66 }) s m [.ref (a 0)].toArray below meth c H locs 0 0 (MQ below (va_Qi (fun r τ => (r, τ) = qq) (fun τ t => va_P D vwCl ((p_M cI a) τ) t.heap) A) [.ref (a 0)].toArray s 0 0 A) (F0 m 2 ls [])) ∧ (∀ (σ : qM) (x4 : Int32) (H : Heap) (locs : List Loc) (ls : Array Slot), q_it (D_X8_goRound) k9 1 σ [x4] = some qq → va_P D vwCl (p_M cI a σ) H → va_S A s.heap H locs → lv_has ls 5 [(0, .ref (a 0)), (1, .int x4)] → W p l e ({ frames := 2, cells := 0, slots := 0, locals := 66 }) s m [.ref (a 0)].toArray below meth c H locs 0 0 (MQ below (va_Qi (fun r τ => (r, τ) = qq) (fun τ t => va_P D vwCl ((p_M cI a) τ) t.heap) A) [.ref (a 0)].toArray s 0 0 A) (F0 m 36 ls [])) ∧ (∀ (σ : qM) (x16 : Int32) (H : Heap) (locs : List Loc) (ls : Array Slot), q_it (D_X8_goRound) k9 2 σ [x16] = some qq → va_P D vwCl (p_M cI a σ) H → va_S A s.heap H locs → lv_has ls 5 [(0, .ref (a 0)), (1, .int x16)] → W p l e ({ frames := 2, cells := 0, slots := 0, locals := 66 }) s m [.ref (a 0)].toArray below meth c H locs 0 0 (MQ below (va_Qi (fun r τ => (r, τ) = qq) (fun τ t => va_P D vwCl ((p_M cI a) τ) t.heap) A) [.ref (a 0)].toArray s 0 0 A) (F0 m 140 ls [])) ∧ (∀ (σ : qM) (x17 : Int32) (H : Heap) (locs : List Loc) (ls : Array Slot), q_it (D_X8_goRound) k9 3 σ [x17] = some qq → va_P D vwCl (p_M cI a σ) H → va_S A s.heap H locs → lv_has ls 5 [(0, .ref (a 0)), (1, .int x17)] → W p l e ({ frames := 2, cells := 0, slots := 0, locals := 66 }) s m [.ref (a 0)].toArray below meth c H locs 0 0 (MQ below (va_Qi (fun r τ => (r, τ) = qq) (fun τ t => va_P D vwCl ((p_M cI a) τ) t.heap) A) [.ref (a 0)].toArray s 0 0 A) (F0 m 100 ls [])) ∧ (∀ (σ : qM) (x32 : Int32) (H : Heap) (locs : List Loc) (ls : Array Slot), q_it (D_X8_goRound) k9 4 σ [x32] = some qq → va_P D vwCl (p_M cI a σ) H → va_S A s.heap H locs → lv_has ls 5 [(0, .ref (a 0)), (1, .int x32)] → W p l e ({ frames := 2, cells := 0, slots := 0, locals := 66 }) s m [.ref (a 0)].toArray below meth c H locs 0 0 (MQ below (va_Qi (fun r τ => (r, τ) = qq) (fun τ t => va_P D vwCl ((p_M cI a) τ) t.heap) A) [.ref (a 0)].toArray s 0 0 A) (F0 m 238 ls [])) ∧ (∀ (σ : qM) (x33 x34 : Int32) (H : Heap) (locs : List Loc) (ls : Array Slot), q_it (D_X8_goRound) k9 5 σ [x33, x34] = some qq → va_P D vwCl (p_M cI a σ) H → va_S A s.heap H locs → lv_has ls 5 [(0, .ref (a 0)), (1, .int x33), (2, .int x34)] → W p l e ({ frames := 2, cells := 0, slots := 0, locals := 66 }) s m [.ref (a 0)].toArray below meth c H locs 0 0 (MQ below (va_Qi (fun r τ => (r, τ) = qq) (fun τ t => va_P D vwCl ((p_M cI a) τ) t.heap) A) [.ref (a 0)].toArray s 0 0 A) (F0 m 152 ls [])) ∧ (∀ (σ : qM) (x46 x47 : Int32) (H : Heap) (locs : List Loc) (ls : Array Slot), q_it (D_X8_goRound) k9 6 σ [x46, x47] = some qq → va_P D vwCl (p_M cI a σ) H → va_S A s.heap H locs → lv_has ls 5 [(0, .ref (a 0)), (1, .int x46), (2, .int x47)] → W p l e ({ frames := 2, cells := 0, slots := 0, locals := 66 }) s m [.ref (a 0)].toArray below meth c H locs 0 0 (MQ below (va_Qi (fun r τ => (r, τ) = qq) (fun τ t => va_P D vwCl ((p_M cI a) τ) t.heap) A) [.ref (a 0)].toArray s 0 0 A) (F0 m 261 ls [])) ∧ (∀ (σ : qM) (x56 x57 x58 : Int32) (H : Heap) (locs : List Loc) (ls : Array Slot), q_it (D_X8_goRound) k9 7 σ [x56, x57, x58] = some qq → va_P D vwCl (p_M cI a σ) H → va_S A s.heap H locs → lv_has ls 5 [(0, .ref (a 0)), (1, .int x56), (2, .int x57)] → W p l e ({ frames := 2, cells := 0, slots := 0, locals := 66 }) s m [.ref (a 0)].toArray below meth c H locs 0 0 (MQ below (va_Qi (fun r τ => (r, τ) = qq) (fun τ t => va_P D vwCl ((p_M cI a) τ) t.heap) A) [.ref (a 0)].toArray s 0 0 A) (F0 m 177 ls [.int x58])) ∧ (∀ (σ : qM) (x61 x62 x63 : Int32) (H : Heap) (locs : List Loc) (ls : Array Slot), q_it (D_X8_goRound) k9 8 σ [x61, x62, x63] = some qq → va_P D vwCl (p_M cI a σ) H → va_S A s.heap H locs → lv_has ls 5 [(0, .ref (a 0)), (1, .int x61), (2, .int x62), (3, .int x63)] → W p l e ({ frames := 2, cells := 0, slots := 0, locals := 66 }) s m [.ref (a 0)].toArray below meth c H locs 0 0 (MQ below (va_Qi (fun r τ => (r, τ) = qq) (fun τ t => va_P D vwCl ((p_M cI a) τ) t.heap) A) [.ref (a 0)].toArray s 0 0 A) (F0 m 273 ls [])) := by
    intro k9
    induction k9 with
    | zero => exact ⟨(fun _ _ _ _ _ h _ _ _ => (q_no (show (none : qR) = some qq from h)).elim), (fun _ _ _ _ _ h _ _ _ => (q_no (show (none : qR) = some qq from h)).elim), (fun _ _ _ _ _ h _ _ _ => (q_no (show (none : qR) = some qq from h)).elim), (fun _ _ _ _ _ h _ _ _ => (q_no (show (none : qR) = some qq from h)).elim), (fun _ _ _ _ _ h _ _ _ => (q_no (show (none : qR) = some qq from h)).elim), (fun _ _ _ _ _ _ h _ _ _ => (q_no (show (none : qR) = some qq from h)).elim), (fun _ _ _ _ _ _ h _ _ _ => (q_no (show (none : qR) = some qq from h)).elim), (fun _ _ _ _ _ _ _ h _ _ _ => (q_no (show (none : qR) = some qq from h)).elim), (fun _ _ _ _ _ _ _ h _ _ _ => (q_no (show (none : qR) = some qq from h)).elim)⟩
    | succ k9 ih =>
      obtain ⟨i2, i36, i140, i100, i238, i152, i261, i177, i273⟩ := ih
      refine ⟨?_, ?_, ?_, ?_, ?_, ?_, ?_, ?_, ?_⟩
      · intro σ x1 H locs ls h hP hS hl
        have h : b_X8_goRound_2 (q_it (D_X8_goRound) k9) σ x1 = some qq := h
        unfold b_X8_goRound_2 at h
        refine lv_iload_n hx hb dX8_goRound_2 rfl (lv_at hl 1 rfl) ?_
        refine lv_aload_n hx hb dX8_goRound_3 rfl (lv_at hl 0 rfl) ?_
        refine x_getr (C := RX8) (k := 1) hx hb hts u_X8_goRound_8 hown hK hP (g_M_0 cI a σ) rfl (by decide) ⟨rfl, rfl, rfl⟩ k_X8_goRound_f7 rfl dX8_goRound_4 ?_
        refine lv_iconst (v := 0) hx hb dX8_goRound_7 (by decide +kernel) ?_
        refine x_iald (t0 := 0) hx hb hK hP ht h (g_M_1 cI a σ) dX8_goRound_8 (fun x2 h => ?_)
        refine lv_icmp_ge (tgt := 34) hx hb dX8_goRound_9 (by decide) (fun c3 => ?_) (fun c3 => ?_)
        · have h := if_t c3 h
          refine lv_iconst (v := 0) hx hb dX8_goRound_34 (by decide +kernel) ?_
          refine lv_istore_n (lv' := [(1, .int 0), (0, .ref (a 0))]) hx hb dX8_goRound_35 rfl hl (by decide) rfl (fun ls hl => ?_)
          exact i36 σ 0 _ _ _ h hP hS (lv_sub hl [1, 0] rfl)
        · have h := if_f c3 h
          refine lv_aload_n hx hb dX8_goRound_12 rfl (lv_at hl 0 rfl) ?_
          refine x_getr (C := RX8) (k := 11) hx hb hts u_X8_goRound_8 hown hK hP (g_M_0 cI a σ) rfl (by decide) ⟨rfl, rfl, rfl⟩ k_X8_goRound_f37 rfl dX8_goRound_13 ?_
          refine lv_iload_n hx hb dX8_goRound_16 rfl (lv_at hl 1 rfl) ?_
          refine lv_aload_n hx hb dX8_goRound_17 rfl (lv_at hl 0 rfl) ?_
          refine x_getr (C := RX8) (k := 1) hx hb hts u_X8_goRound_8 hown hK hP (g_M_0 cI a σ) rfl (by decide) ⟨rfl, rfl, rfl⟩ k_X8_goRound_f7 rfl dX8_goRound_18 ?_
          refine lv_sipush (v := 130) hx hb dX8_goRound_21 (by decide +kernel) ?_
          refine lv_iload_n hx hb dX8_goRound_24 rfl (lv_at hl 1 rfl) ?_
          refine x_iadd hx hb dX8_goRound_25 h (fun x5 h => ?_)
          refine x_iald (t0 := 0) hx hb hK hP ht h (g_M_1 cI a σ) dX8_goRound_26 (fun x6 h => ?_)
          refine x_iast (p_M cI a) (t0 := 0) hx hb hK hP hD hS ht h (g_M_10 cI a σ) (fun j9 v9 => (s_M_10 cI a σ _)) dX8_goRound_27 (fun H locs s7 hP hS h => ?_)
          refine x_iinc (k := 1) (w := 1) hx hb dX8_goRound_28 hl rfl (by decide +kernel) (by decide) (fun v9 => [(1, .int v9), (0, .ref (a 0))]) (fun v9 => rfl) h (fun x8 ls hl h => ?_)
          have hl : lv_has ls 5 [(1, .int x8), (0, .ref (a 0))] := hl
          refine lv_goto (tgt := 2) hx hb dX8_goRound_31 (by decide) ?_
          exact i2 s7 x8 _ _ _ h hP hS (lv_sub hl [1, 0] rfl)
      · intro σ x4 H locs ls h hP hS hl
        have h : b_X8_goRound_36 (q_it (D_X8_goRound) k9) σ x4 = some qq := h
        unfold b_X8_goRound_36 at h
        refine lv_iload_n hx hb dX8_goRound_36 rfl (lv_at hl 1 rfl) ?_
        refine lv_bipush (v := 100) hx hb dX8_goRound_37 (by decide +kernel) ?_
        refine lv_icmp_ge (tgt := 78) hx hb dX8_goRound_39 (by decide) (fun c9 => ?_) (fun c9 => ?_)
        · have h := if_t c9 h
          refine lv_aload_n hx hb dX8_goRound_78 rfl (lv_at hl 0 rfl) ?_
          refine x_getr (C := RX8) (k := 1) hx hb hts u_X8_goRound_8 hown hK hP (g_M_0 cI a σ) rfl (by decide) ⟨rfl, rfl, rfl⟩ k_X8_goRound_f7 rfl dX8_goRound_79 ?_
          refine lv_iconst (v := 5) hx hb dX8_goRound_82 (by decide +kernel) ?_
          refine lv_dup2_11 hx hb dX8_goRound_83 rfl rfl ?_
          refine x_iald (t0 := 0) hx hb hK hP ht h (g_M_1 cI a σ) dX8_goRound_84 (fun x10 h => ?_)
          refine lv_iconst (v := 1) hx hb dX8_goRound_85 (by decide +kernel) ?_
          refine x_iadd hx hb dX8_goRound_86 h (fun x11 h => ?_)
          refine x_iast (p_M cI a) (t0 := 0) hx hb hK hP hD hS ht h (g_M_1 cI a σ) (fun j9 v9 => (s_M_1 cI a σ _)) dX8_goRound_87 (fun H locs s12 hP hS h => ?_)
          refine lv_aload_n hx hb dX8_goRound_88 rfl (lv_at hl 0 rfl) ?_
          refine x_getr (C := RX8) (k := 1) hx hb hts u_X8_goRound_8 hown hK hP (g_M_0 cI a s12) rfl (by decide) ⟨rfl, rfl, rfl⟩ k_X8_goRound_f7 rfl dX8_goRound_89 ?_
          refine lv_iconst (v := 3) hx hb dX8_goRound_92 (by decide +kernel) ?_
          refine x_iald (t0 := 0) hx hb hK hP ht h (g_M_1 cI a s12) dX8_goRound_93 (fun x13 h => ?_)
          refine lv_iconst (v := 1) hx hb dX8_goRound_94 (by decide +kernel) ?_
          refine lv_icmp_ne (tgt := 133) hx hb dX8_goRound_95 (by decide) (fun c14 => ?_) (fun c14 => ?_)
          · have h := if_f c14 h
            refine lv_aload_n hx hb dX8_goRound_133 rfl (lv_at hl 0 rfl) ?_
            refine lv_iconst (v := 0) hx hb dX8_goRound_134 (by decide +kernel) ?_
            refine x_puti (p_M cI a) (C := RX8) (k := 10) hx hb hts u_X8_goRound_8 tyX8 tyX8_ok nmX8 hown hK hP hD hS h (g_M_0 cI a s12) rfl (by decide) ⟨rfl, rfl, rfl⟩ k_X8_goRound_f114 rfl rfl rfl rfl (Nat.le_of_ble_eq_true rfl) (s_M_0_10 cI a s12 0) dX8_goRound_135 (fun H locs s15 hP hS h => ?_)
            refine lv_iconst (v := 0) hx hb dX8_goRound_138 (by decide +kernel) ?_
            refine lv_istore_n (lv' := [(1, .int 0), (0, .ref (a 0))]) hx hb dX8_goRound_139 rfl hl (by decide) rfl (fun ls hl => ?_)
            exact i140 s15 0 _ _ _ h hP hS (lv_sub hl [1, 0] rfl)
          · have h := if_t c14 h
            refine lv_iconst (v := 0) hx hb dX8_goRound_98 (by decide +kernel) ?_
            refine lv_istore_n (lv' := [(1, .int 0), (0, .ref (a 0))]) hx hb dX8_goRound_99 rfl hl (by decide) rfl (fun ls hl => ?_)
            exact i100 s12 0 _ _ _ h hP hS (lv_sub hl [1, 0] rfl)
        · have h := if_f c9 h
          refine lv_aload_n hx hb dX8_goRound_42 rfl (lv_at hl 0 rfl) ?_
          refine x_getr (C := RX8) (k := 12) hx hb hts u_X8_goRound_8 hown hK hP (g_M_0 cI a σ) rfl (by decide) ⟨rfl, rfl, rfl⟩ k_X8_goRound_f40 rfl dX8_goRound_43 ?_
          refine lv_iload_n hx hb dX8_goRound_46 rfl (lv_at hl 1 rfl) ?_
          refine lv_bipush (v := 100) hx hb dX8_goRound_47 (by decide +kernel) ?_
          refine lv_aload_n hx hb dX8_goRound_49 rfl (lv_at hl 0 rfl) ?_
          refine x_getr (C := RX8) (k := 1) hx hb hts u_X8_goRound_8 hown hK hP (g_M_0 cI a σ) rfl (by decide) ⟨rfl, rfl, rfl⟩ k_X8_goRound_f7 rfl dX8_goRound_50 ?_
          refine lv_sipush (v := 250) hx hb dX8_goRound_53 (by decide +kernel) ?_
          refine lv_iload_n hx hb dX8_goRound_56 rfl (lv_at hl 1 rfl) ?_
          refine x_iadd hx hb dX8_goRound_57 h (fun x18 h => ?_)
          refine x_iald (t0 := 0) hx hb hK hP ht h (g_M_1 cI a σ) dX8_goRound_58 (fun x19 h => ?_)
          refine x_imul hx hb dX8_goRound_59 h (fun x20 h => ?_)
          refine lv_aload_n hx hb dX8_goRound_60 rfl (lv_at hl 0 rfl) ?_
          refine x_getr (C := RX8) (k := 1) hx hb hts u_X8_goRound_8 hown hK hP (g_M_0 cI a σ) rfl (by decide) ⟨rfl, rfl, rfl⟩ k_X8_goRound_f7 rfl dX8_goRound_61 ?_
          refine lv_sipush (v := 350) hx hb dX8_goRound_64 (by decide +kernel) ?_
          refine lv_iload_n hx hb dX8_goRound_67 rfl (lv_at hl 1 rfl) ?_
          refine x_iadd hx hb dX8_goRound_68 h (fun x21 h => ?_)
          refine x_iald (t0 := 0) hx hb hK hP ht h (g_M_1 cI a σ) dX8_goRound_69 (fun x22 h => ?_)
          refine x_iadd hx hb dX8_goRound_70 h (fun x23 h => ?_)
          refine x_iast (p_M cI a) (t0 := 0) hx hb hK hP hD hS ht h (g_M_11 cI a σ) (fun j9 v9 => (s_M_11 cI a σ _)) dX8_goRound_71 (fun H locs s24 hP hS h => ?_)
          refine x_iinc (k := 1) (w := 1) hx hb dX8_goRound_72 hl rfl (by decide +kernel) (by decide) (fun v9 => [(1, .int v9), (0, .ref (a 0))]) (fun v9 => rfl) h (fun x25 ls hl h => ?_)
          have hl : lv_has ls 5 [(1, .int x25), (0, .ref (a 0))] := hl
          refine lv_goto (tgt := 36) hx hb dX8_goRound_75 (by decide) ?_
          exact i36 s24 x25 _ _ _ h hP hS (lv_sub hl [1, 0] rfl)
      · intro σ x16 H locs ls h hP hS hl
        have h : b_X8_goRound_140 (q_it (D_X8_goRound) k9) σ x16 = some qq := h
        unfold b_X8_goRound_140 at h
        refine lv_iload_n hx hb dX8_goRound_140 rfl (lv_at hl 1 rfl) ?_
        refine lv_aload_n hx hb dX8_goRound_141 rfl (lv_at hl 0 rfl) ?_
        refine x_getr (C := RX8) (k := 1) hx hb hts u_X8_goRound_8 hown hK hP (g_M_0 cI a σ) rfl (by decide) ⟨rfl, rfl, rfl⟩ k_X8_goRound_f7 rfl dX8_goRound_142 ?_
        refine lv_iconst (v := 0) hx hb dX8_goRound_145 (by decide +kernel) ?_
        refine x_iald (t0 := 0) hx hb hK hP ht h (g_M_1 cI a σ) dX8_goRound_146 (fun x26 h => ?_)
        refine lv_icmp_ge (tgt := 222) hx hb dX8_goRound_147 (by decide) (fun c27 => ?_) (fun c27 => ?_)
        · have h := if_t c27 h
          refine lv_aload_n hx hb dX8_goRound_222 rfl (lv_at hl 0 rfl) ?_
          refine x_getr (C := RX8) (k := 1) hx hb hts u_X8_goRound_8 hown hK hP (g_M_0 cI a σ) rfl (by decide) ⟨rfl, rfl, rfl⟩ k_X8_goRound_f7 rfl dX8_goRound_223 ?_
          refine lv_bipush (v := 6) hx hb dX8_goRound_226 (by decide +kernel) ?_
          refine lv_dup2_11 hx hb dX8_goRound_228 rfl rfl ?_
          refine x_iald (t0 := 0) hx hb hK hP ht h (g_M_1 cI a σ) dX8_goRound_229 (fun x28 h => ?_)
          refine lv_aload_n hx hb dX8_goRound_230 rfl (lv_at hl 0 rfl) ?_
          refine x_geti (C := RX8) (k := 10) hx hb hts u_X8_goRound_8 hown hK hP (g_M_0 cI a σ) rfl (by decide) ⟨rfl, rfl, rfl⟩ k_X8_goRound_f114 rfl dX8_goRound_231 h (fun x29 h => ?_)
          refine x_iadd hx hb dX8_goRound_234 h (fun x30 h => ?_)
          refine x_iast (p_M cI a) (t0 := 0) hx hb hK hP hD hS ht h (g_M_1 cI a σ) (fun j9 v9 => (s_M_1 cI a σ _)) dX8_goRound_235 (fun H locs s31 hP hS h => ?_)
          refine lv_iconst (v := 0) hx hb dX8_goRound_236 (by decide +kernel) ?_
          refine lv_istore_n (lv' := [(1, .int 0), (0, .ref (a 0))]) hx hb dX8_goRound_237 rfl hl (by decide) rfl (fun ls hl => ?_)
          exact i238 s31 0 _ _ _ h hP hS (lv_sub hl [1, 0] rfl)
        · have h := if_f c27 h
          refine lv_iconst (v := 0) hx hb dX8_goRound_150 (by decide +kernel) ?_
          refine lv_istore_n (lv' := [(2, .int 0), (0, .ref (a 0)), (1, .int x16)]) hx hb dX8_goRound_151 rfl hl (by decide) rfl (fun ls hl => ?_)
          exact i152 σ x16 0 _ _ _ h hP hS (lv_sub hl [1, 2, 0] rfl)
      · intro σ x17 H locs ls h hP hS hl
        have h : b_X8_goRound_100 (q_it (D_X8_goRound) k9) σ x17 = some qq := h
        unfold b_X8_goRound_100 at h
        refine lv_iload_n hx hb dX8_goRound_100 rfl (lv_at hl 1 rfl) ?_
        refine lv_aload_n hx hb dX8_goRound_101 rfl (lv_at hl 0 rfl) ?_
        refine x_getr (C := RX8) (k := 1) hx hb hts u_X8_goRound_8 hown hK hP (g_M_0 cI a σ) rfl (by decide) ⟨rfl, rfl, rfl⟩ k_X8_goRound_f7 rfl dX8_goRound_102 ?_
        refine lv_iconst (v := 0) hx hb dX8_goRound_105 (by decide +kernel) ?_
        refine x_iald (t0 := 0) hx hb hK hP ht h (g_M_1 cI a σ) dX8_goRound_106 (fun x35 h => ?_)
        refine lv_icmp_ge (tgt := 133) hx hb dX8_goRound_107 (by decide) (fun c36 => ?_) (fun c36 => ?_)
        · have h := if_t c36 h
          refine lv_aload_n hx hb dX8_goRound_133 rfl (lv_at hl 0 rfl) ?_
          refine lv_iconst (v := 0) hx hb dX8_goRound_134 (by decide +kernel) ?_
          refine x_puti (p_M cI a) (C := RX8) (k := 10) hx hb hts u_X8_goRound_8 tyX8 tyX8_ok nmX8 hown hK hP hD hS h (g_M_0 cI a σ) rfl (by decide) ⟨rfl, rfl, rfl⟩ k_X8_goRound_f114 rfl rfl rfl rfl (Nat.le_of_ble_eq_true rfl) (s_M_0_10 cI a σ 0) dX8_goRound_135 (fun H locs s37 hP hS h => ?_)
          refine lv_iconst (v := 0) hx hb dX8_goRound_138 (by decide +kernel) ?_
          refine lv_istore_n (lv' := [(1, .int 0), (0, .ref (a 0))]) hx hb dX8_goRound_139 rfl hl (by decide) rfl (fun ls hl => ?_)
          exact i140 s37 0 _ _ _ h hP hS (lv_sub hl [1, 0] rfl)
        · have h := if_f c36 h
          refine lv_aload_n hx hb dX8_goRound_110 rfl (lv_at hl 0 rfl) ?_
          refine x_getr (C := RX8) (k := 1) hx hb hts u_X8_goRound_8 hown hK hP (g_M_0 cI a σ) rfl (by decide) ⟨rfl, rfl, rfl⟩ k_X8_goRound_f7 rfl dX8_goRound_111 ?_
          refine lv_sipush (v := 450) hx hb dX8_goRound_114 (by decide +kernel) ?_
          refine lv_bipush (v := 10) hx hb dX8_goRound_117 (by decide +kernel) ?_
          refine lv_iload_n hx hb dX8_goRound_119 rfl (lv_at hl 1 rfl) ?_
          refine x_imul hx hb dX8_goRound_120 h (fun x38 h => ?_)
          refine x_iadd hx hb dX8_goRound_121 h (fun x39 h => ?_)
          refine lv_dup2_11 hx hb dX8_goRound_122 rfl rfl ?_
          refine x_iald (t0 := 0) hx hb hK hP ht h (g_M_1 cI a σ) dX8_goRound_123 (fun x40 h => ?_)
          refine lv_iconst (v := 2) hx hb dX8_goRound_124 (by decide +kernel) ?_
          refine x_iadd hx hb dX8_goRound_125 h (fun x41 h => ?_)
          refine x_iast (p_M cI a) (t0 := 0) hx hb hK hP hD hS ht h (g_M_1 cI a σ) (fun j9 v9 => (s_M_1 cI a σ _)) dX8_goRound_126 (fun H locs s42 hP hS h => ?_)
          refine x_iinc (k := 1) (w := 1) hx hb dX8_goRound_127 hl rfl (by decide +kernel) (by decide) (fun v9 => [(1, .int v9), (0, .ref (a 0))]) (fun v9 => rfl) h (fun x43 ls hl h => ?_)
          have hl : lv_has ls 5 [(1, .int x43), (0, .ref (a 0))] := hl
          refine lv_goto (tgt := 100) hx hb dX8_goRound_130 (by decide) ?_
          exact i100 s42 x43 _ _ _ h hP hS (lv_sub hl [1, 0] rfl)
      · intro σ x32 H locs ls h hP hS hl
        have h : b_X8_goRound_238 (q_it (D_X8_goRound) k9) σ x32 = some qq := h
        unfold b_X8_goRound_238 at h
        refine lv_iload_n hx hb dX8_goRound_238 rfl (lv_at hl 1 rfl) ?_
        refine lv_aload_n hx hb dX8_goRound_239 rfl (lv_at hl 0 rfl) ?_
        refine x_geti (C := RX8) (k := 10) hx hb hts u_X8_goRound_8 hown hK hP (g_M_0 cI a σ) rfl (by decide) ⟨rfl, rfl, rfl⟩ k_X8_goRound_f114 rfl dX8_goRound_240 h (fun x44 h => ?_)
        refine lv_icmp_ge (tgt := 257) hx hb dX8_goRound_243 (by decide) (fun c45 => ?_) (fun c45 => ?_)
        · have h := if_t c45 h
          refine lv_iconst (v := 0) hx hb dX8_goRound_257 (by decide +kernel) ?_
          refine lv_istore_n (lv' := [(1, .int 0), (0, .ref (a 0))]) hx hb dX8_goRound_258 rfl hl (by decide) rfl (fun ls hl => ?_)
          refine lv_iconst (v := 0) hx hb dX8_goRound_259 (by decide +kernel) ?_
          refine lv_istore_n (lv' := [(2, .int 0), (1, .int 0), (0, .ref (a 0))]) hx hb dX8_goRound_260 rfl hl (by decide) rfl (fun ls hl => ?_)
          exact i261 σ 0 0 _ _ _ h hP hS (lv_sub hl [2, 1, 0] rfl)
        · have h := if_f c45 h
          refine lv_aload_n hx hb dX8_goRound_246 rfl (lv_at hl 0 rfl) ?_
          refine lv_iload_n hx hb dX8_goRound_247 rfl (lv_at hl 1 rfl) ?_
          refine x_cVv (p_M cI a) (p_M cI a) (fun τ => τ) [] [.int x32] hx hb hml hl.1 hown hts hK hP hD hS hA rfl (c_X8_receive l D cI tys ht a σ x32) gX8_goRound_X8_receive rfl ⟨rfl, rfl⟩ i_X8_receive ⟨Nat.le_of_ble_eq_true rfl, Nat.le_of_ble_eq_true rfl⟩ q_frI (g_M_0 cI a σ) rfl rfl (Nat.le_of_ble_eq_true rfl) ⟨Nat.zero_le _, Nat.zero_le _⟩ dX8_goRound_248 h (fun H locs s48 hP hS h => ?_)
          refine x_iinc (k := 1) (w := 1) hx hb dX8_goRound_251 hl rfl (by decide +kernel) (by decide) (fun v9 => [(1, .int v9), (0, .ref (a 0))]) (fun v9 => rfl) h (fun x49 ls hl h => ?_)
          have hl : lv_has ls 5 [(1, .int x49), (0, .ref (a 0))] := hl
          refine lv_goto (tgt := 238) hx hb dX8_goRound_254 (by decide) ?_
          exact i238 s48 x49 _ _ _ h hP hS (lv_sub hl [1, 0] rfl)
      · intro σ x33 x34 H locs ls h hP hS hl
        have h : b_X8_goRound_152 (q_it (D_X8_goRound) k9) σ x33 x34 = some qq := h
        unfold b_X8_goRound_152 at h
        refine lv_iload_n hx hb dX8_goRound_152 rfl (lv_at hl 2 rfl) ?_
        refine lv_aload_n hx hb dX8_goRound_153 rfl (lv_at hl 0 rfl) ?_
        refine x_getr (C := RX8) (k := 1) hx hb hts u_X8_goRound_8 hown hK hP (g_M_0 cI a σ) rfl (by decide) ⟨rfl, rfl, rfl⟩ k_X8_goRound_f7 rfl dX8_goRound_154 ?_
        refine lv_iconst (v := 0) hx hb dX8_goRound_157 (by decide +kernel) ?_
        refine x_iald (t0 := 0) hx hb hK hP ht h (g_M_1 cI a σ) dX8_goRound_158 (fun x50 h => ?_)
        refine lv_icmp_ge (tgt := 216) hx hb dX8_goRound_159 (by decide) (fun c51 => ?_) (fun c51 => ?_)
        · have h := if_t c51 h
          refine x_iinc (k := 1) (w := 1) hx hb dX8_goRound_216 hl rfl (by decide +kernel) (by decide) (fun v9 => [(1, .int v9), (0, .ref (a 0)), (2, .int x34)]) (fun v9 => rfl) h (fun x52 ls hl h => ?_)
          have hl : lv_has ls 5 [(1, .int x52), (0, .ref (a 0)), (2, .int x34)] := hl
          refine lv_goto (tgt := 140) hx hb dX8_goRound_219 (by decide) ?_
          exact i140 σ x52 _ _ _ h hP hS (lv_sub hl [1, 0] rfl)
        · have h := if_f c51 h
          refine lv_iload_n hx hb dX8_goRound_162 rfl (lv_at hl 2 rfl) ?_
          refine lv_iload_n hx hb dX8_goRound_163 rfl (lv_at hl 1 rfl) ?_
          refine lv_icmp_ne (tgt := 171) hx hb dX8_goRound_164 (by decide) (fun c53 => ?_) (fun c53 => ?_)
          · have h := if_f c53 h
            refine lv_aload_n hx hb dX8_goRound_171 rfl (lv_at hl 0 rfl) ?_
            refine lv_iload_n hx hb dX8_goRound_172 rfl (lv_at hl 1 rfl) ?_
            refine lv_iload_n hx hb dX8_goRound_173 rfl (lv_at hl 2 rfl) ?_
            refine x_cVi (p_M cI a) (p_M cI a) (fun τ => τ) [] [.int x33, .int x34] hx hb hml hl.1 hown hts hK hP hD hS hA rfl (c_X8_linkOf l D cI tys ht a σ x33 x34) gX8_goRound_X8_linkOf rfl ⟨rfl, rfl⟩ i_X8_linkOf ⟨Nat.le_of_ble_eq_true rfl, Nat.le_of_ble_eq_true rfl⟩ q_frI (g_M_0 cI a σ) rfl rfl (Nat.le_of_ble_eq_true rfl) ⟨Nat.zero_le _, Nat.zero_le _⟩ dX8_goRound_174 h (fun x55 H locs s54 hP hS h => ?_)
            exact i177 s54 x33 x34 x55 _ _ _ h hP hS (lv_sub hl [0, 1, 2] rfl)
          · have h := if_t c53 h
            refine lv_iconst (v := (-1)) hx hb dX8_goRound_167 (by decide +kernel) ?_
            refine lv_goto (tgt := 177) hx hb dX8_goRound_168 (by decide) ?_
            exact i177 σ x33 x34 (-1) _ _ _ h hP hS (lv_sub hl [0, 1, 2] rfl)
      · intro σ x46 x47 H locs ls h hP hS hl
        have h : b_X8_goRound_261 (q_it (D_X8_goRound) k9) σ x46 x47 = some qq := h
        unfold b_X8_goRound_261 at h
        refine lv_iload_n hx hb dX8_goRound_261 rfl (lv_at hl 2 rfl) ?_
        refine lv_aload_n hx hb dX8_goRound_262 rfl (lv_at hl 0 rfl) ?_
        refine x_getr (C := RX8) (k := 1) hx hb hts u_X8_goRound_8 hown hK hP (g_M_0 cI a σ) rfl (by decide) ⟨rfl, rfl, rfl⟩ k_X8_goRound_f7 rfl dX8_goRound_263 ?_
        refine lv_iconst (v := 0) hx hb dX8_goRound_266 (by decide +kernel) ?_
        refine x_iald (t0 := 0) hx hb hK hP ht h (g_M_1 cI a σ) dX8_goRound_267 (fun x59 h => ?_)
        refine lv_icmp_ge (tgt := 356) hx hb dX8_goRound_268 (by decide) (fun c60 => ?_) (fun c60 => ?_)
        · have h := if_t c60 h
          refine lv_iload_n hx hb dX8_goRound_356 rfl (lv_at hl 1 rfl) ?_
          exact x_iret (p_M cI a) hx hb hr hlocks hP hS dX8_goRound_357 h
        · have h := if_f c60 h
          refine lv_iconst (v := 0) hx hb dX8_goRound_271 (by decide +kernel) ?_
          refine lv_istore_n (lv' := [(3, .int 0), (0, .ref (a 0)), (1, .int x46), (2, .int x47)]) hx hb dX8_goRound_272 rfl hl (by decide) rfl (fun ls hl => ?_)
          exact i273 σ x46 x47 0 _ _ _ h hP hS (lv_sub hl [1, 2, 3, 0] rfl)
      · intro σ x56 x57 x58 H locs ls h hP hS hl
        have h : b_X8_goRound_177 (q_it (D_X8_goRound) k9) σ x56 x57 x58 = some qq := h
        unfold b_X8_goRound_177 at h
        refine lv_istore_n (lv' := [(3, .int x58), (0, .ref (a 0)), (1, .int x56), (2, .int x57)]) hx hb dX8_goRound_177 rfl hl (by decide) rfl (fun ls hl => ?_)
        refine lv_iload_n hx hb dX8_goRound_178 rfl (lv_at hl 0 rfl) ?_
        refine lv_if_lt (tgt := 210) hx hb dX8_goRound_179 (by decide) (fun c64 => ?_) (fun c64 => ?_)
        · have h := if_t c64 h
          refine x_iinc (k := 3) (w := 1) hx hb dX8_goRound_210 hl rfl (by decide +kernel) (by decide) (fun v9 => [(2, .int v9), (3, .int x58), (0, .ref (a 0)), (1, .int x56)]) (fun v9 => rfl) h (fun x65 ls hl h => ?_)
          have hl : lv_has ls 5 [(2, .int x65), (3, .int x58), (0, .ref (a 0)), (1, .int x56)] := hl
          refine lv_goto (tgt := 152) hx hb dX8_goRound_213 (by decide) ?_
          exact i152 σ x56 x65 _ _ _ h hP hS (lv_sub hl [2, 3, 0] rfl)
        · have h := if_f c64 h
          refine lv_aload_n hx hb dX8_goRound_182 rfl (lv_at hl 1 rfl) ?_
          refine x_getr (C := RX8) (k := 1) hx hb hts u_X8_goRound_8 hown hK hP (g_M_0 cI a σ) rfl (by decide) ⟨rfl, rfl, rfl⟩ k_X8_goRound_f7 rfl dX8_goRound_183 ?_
          refine lv_bipush (v := 100) hx hb dX8_goRound_186 (by decide +kernel) ?_
          refine lv_iload_n hx hb dX8_goRound_188 rfl (lv_at hl 0 rfl) ?_
          refine x_iadd hx hb dX8_goRound_189 h (fun x66 h => ?_)
          refine x_iald (t0 := 0) hx hb hK hP ht h (g_M_1 cI a σ) dX8_goRound_190 (fun x67 h => ?_)
          refine lv_iconst (v := 1) hx hb dX8_goRound_191 (by decide +kernel) ?_
          refine lv_icmp_ne (tgt := 210) hx hb dX8_goRound_192 (by decide) (fun c68 => ?_) (fun c68 => ?_)
          · have h := if_f c68 h
            refine x_iinc (k := 3) (w := 1) hx hb dX8_goRound_210 hl rfl (by decide +kernel) (by decide) (fun v9 => [(2, .int v9), (3, .int x58), (0, .ref (a 0)), (1, .int x56)]) (fun v9 => rfl) h (fun x69 ls hl h => ?_)
            have hl : lv_has ls 5 [(2, .int x69), (3, .int x58), (0, .ref (a 0)), (1, .int x56)] := hl
            refine lv_goto (tgt := 152) hx hb dX8_goRound_213 (by decide) ?_
            exact i152 σ x56 x69 _ _ _ h hP hS (lv_sub hl [2, 3, 0] rfl)
          · have h := if_t c68 h
            refine lv_aload_n hx hb dX8_goRound_195 rfl (lv_at hl 1 rfl) ?_
            refine lv_iload_n hx hb dX8_goRound_196 rfl (lv_at hl 2 rfl) ?_
            refine lv_iload_n hx hb dX8_goRound_197 rfl (lv_at hl 3 rfl) ?_
            refine lv_aload_n hx hb dX8_goRound_198 rfl (lv_at hl 1 rfl) ?_
            refine x_getr (C := RX8) (k := 1) hx hb hts u_X8_goRound_8 hown hK hP (g_M_0 cI a σ) rfl (by decide) ⟨rfl, rfl, rfl⟩ k_X8_goRound_f7 rfl dX8_goRound_199 ?_
            refine lv_bipush (v := 70) hx hb dX8_goRound_202 (by decide +kernel) ?_
            refine lv_iload_n hx hb dX8_goRound_204 rfl (lv_at hl 0 rfl) ?_
            refine x_iadd hx hb dX8_goRound_205 h (fun x70 h => ?_)
            refine x_iald (t0 := 0) hx hb hK hP ht h (g_M_1 cI a σ) dX8_goRound_206 (fun x71 h => ?_)
            refine x_cVv (p_M cI a) (p_M cI a) (fun τ => τ) [] [.int x56, .int x57, .int x71] hx hb hml hl.1 hown hts hK hP hD hS hA rfl (c_X8_tell l D cI tys ht a σ x56 x57 x71) gX8_goRound_X8_tell rfl ⟨rfl, rfl⟩ i_X8_tell ⟨Nat.le_of_ble_eq_true rfl, Nat.le_of_ble_eq_true rfl⟩ q_frI (g_M_0 cI a σ) rfl rfl (Nat.le_of_ble_eq_true rfl) ⟨Nat.zero_le _, Nat.zero_le _⟩ dX8_goRound_207 h (fun H locs s72 hP hS h => ?_)
            refine x_iinc (k := 3) (w := 1) hx hb dX8_goRound_210 hl rfl (by decide +kernel) (by decide) (fun v9 => [(2, .int v9), (3, .int x58), (0, .ref (a 0)), (1, .int x56)]) (fun v9 => rfl) h (fun x73 ls hl h => ?_)
            have hl : lv_has ls 5 [(2, .int x73), (3, .int x58), (0, .ref (a 0)), (1, .int x56)] := hl
            refine lv_goto (tgt := 152) hx hb dX8_goRound_213 (by decide) ?_
            exact i152 s72 x56 x73 _ _ _ h hP hS (lv_sub hl [2, 3, 0] rfl)
      · intro σ x61 x62 x63 H locs ls h hP hS hl
        have h : b_X8_goRound_273 (q_it (D_X8_goRound) k9) σ x61 x62 x63 = some qq := h
        unfold b_X8_goRound_273 at h
        refine lv_iload_n hx hb dX8_goRound_273 rfl (lv_at hl 3 rfl) ?_
        refine lv_aload_n hx hb dX8_goRound_274 rfl (lv_at hl 0 rfl) ?_
        refine x_getr (C := RX8) (k := 1) hx hb hts u_X8_goRound_8 hown hK hP (g_M_0 cI a σ) rfl (by decide) ⟨rfl, rfl, rfl⟩ k_X8_goRound_f7 rfl dX8_goRound_275 ?_
        refine lv_sipush (v := 130) hx hb dX8_goRound_278 (by decide +kernel) ?_
        refine lv_iload_n hx hb dX8_goRound_281 rfl (lv_at hl 2 rfl) ?_
        refine x_iadd hx hb dX8_goRound_282 h (fun x74 h => ?_)
        refine x_iald (t0 := 0) hx hb hK hP ht h (g_M_1 cI a σ) dX8_goRound_283 (fun x75 h => ?_)
        refine lv_icmp_ge (tgt := 350) hx hb dX8_goRound_284 (by decide) (fun c76 => ?_) (fun c76 => ?_)
        · have h := if_t c76 h
          refine x_iinc (k := 2) (w := 1) hx hb dX8_goRound_350 hl rfl (by decide +kernel) (by decide) (fun v9 => [(2, .int v9), (0, .ref (a 0)), (1, .int x61), (3, .int x63)]) (fun v9 => rfl) h (fun x77 ls hl h => ?_)
          have hl : lv_has ls 5 [(2, .int x77), (0, .ref (a 0)), (1, .int x61), (3, .int x63)] := hl
          refine lv_goto (tgt := 261) hx hb dX8_goRound_353 (by decide) ?_
          exact i261 σ x61 x77 _ _ _ h hP hS (lv_sub hl [1, 2, 0] rfl)
        · have h := if_f c76 h
          refine lv_bipush (v := 10) hx hb dX8_goRound_287 (by decide +kernel) ?_
          refine lv_iload_n hx hb dX8_goRound_289 rfl (lv_at hl 2 rfl) ?_
          refine x_imul hx hb dX8_goRound_290 h (fun x78 h => ?_)
          refine lv_iload_n hx hb dX8_goRound_291 rfl (lv_at hl 3 rfl) ?_
          refine x_iadd hx hb dX8_goRound_292 h (fun x79 h => ?_)
          refine lv_istore (lv' := [(4, .int x79), (0, .ref (a 0)), (1, .int x61), (2, .int x62), (3, .int x63)]) hx hb dX8_goRound_293 hl (by decide) rfl (fun ls hl => ?_)
          refine lv_iload_n hx hb dX8_goRound_295 rfl (lv_at hl 4 rfl) ?_
          refine lv_aload_n hx hb dX8_goRound_296 rfl (lv_at hl 1 rfl) ?_
          refine x_getr (C := RX8) (k := 11) hx hb hts u_X8_goRound_8 hown hK hP (g_M_0 cI a σ) rfl (by decide) ⟨rfl, rfl, rfl⟩ k_X8_goRound_f37 rfl dX8_goRound_297 ?_
          refine lv_iload_n hx hb dX8_goRound_300 rfl (lv_at hl 3 rfl) ?_
          refine x_iald (t0 := 0) hx hb hK hP ht h (g_M_10 cI a σ) dX8_goRound_301 (fun x80 h => ?_)
          refine lv_icmp_ge (tgt := 341) hx hb dX8_goRound_302 (by decide) (fun c81 => ?_) (fun c81 => ?_)
          · have h := if_t c81 h
            refine x_iinc (k := 2) (w := 1) hx hb dX8_goRound_341 hl rfl (by decide +kernel) (by decide) (fun v9 => [(1, .int v9), (4, .int x79), (0, .ref (a 0)), (2, .int x62), (3, .int x63)]) (fun v9 => rfl) h (fun x82 ls hl h => ?_)
            have hl : lv_has ls 5 [(1, .int x82), (4, .int x79), (0, .ref (a 0)), (2, .int x62), (3, .int x63)] := hl
            refine x_iinc (k := 4) (w := 1) hx hb dX8_goRound_344 hl rfl (by decide +kernel) (by decide) (fun v9 => [(3, .int v9), (1, .int x82), (4, .int x79), (0, .ref (a 0)), (2, .int x62)]) (fun v9 => rfl) h (fun x83 ls hl h => ?_)
            have hl : lv_has ls 5 [(3, .int x83), (1, .int x82), (4, .int x79), (0, .ref (a 0)), (2, .int x62)] := hl
            refine lv_goto (tgt := 273) hx hb dX8_goRound_347 (by decide) ?_
            exact i273 σ x82 x62 x83 _ _ _ h hP hS (lv_sub hl [3, 1, 4, 0] rfl)
          · have h := if_f c81 h
            refine lv_bipush (v := 100) hx hb dX8_goRound_305 (by decide +kernel) ?_
            refine lv_aload_n hx hb dX8_goRound_307 rfl (lv_at hl 1 rfl) ?_
            refine x_getr (C := RX8) (k := 1) hx hb hts u_X8_goRound_8 hown hK hP (g_M_0 cI a σ) rfl (by decide) ⟨rfl, rfl, rfl⟩ k_X8_goRound_f7 rfl dX8_goRound_308 ?_
            refine lv_sipush (v := 250) hx hb dX8_goRound_311 (by decide +kernel) ?_
            refine lv_iload hx hb dX8_goRound_314 (lv_at hl 0 rfl) ?_
            refine x_iadd hx hb dX8_goRound_316 h (fun x84 h => ?_)
            refine x_iald (t0 := 0) hx hb hK hP ht h (g_M_1 cI a σ) dX8_goRound_317 (fun x85 h => ?_)
            refine x_imul hx hb dX8_goRound_318 h (fun x86 h => ?_)
            refine lv_aload_n hx hb dX8_goRound_319 rfl (lv_at hl 1 rfl) ?_
            refine x_getr (C := RX8) (k := 1) hx hb hts u_X8_goRound_8 hown hK hP (g_M_0 cI a σ) rfl (by decide) ⟨rfl, rfl, rfl⟩ k_X8_goRound_f7 rfl dX8_goRound_320 ?_
            refine lv_sipush (v := 350) hx hb dX8_goRound_323 (by decide +kernel) ?_
            refine lv_iload hx hb dX8_goRound_326 (lv_at hl 0 rfl) ?_
            refine x_iadd hx hb dX8_goRound_328 h (fun x87 h => ?_)
            refine x_iald (t0 := 0) hx hb hK hP ht h (g_M_1 cI a σ) dX8_goRound_329 (fun x88 h => ?_)
            refine x_iadd hx hb dX8_goRound_330 h (fun x89 h => ?_)
            refine lv_aload_n hx hb dX8_goRound_331 rfl (lv_at hl 1 rfl) ?_
            refine x_getr (C := RX8) (k := 12) hx hb hts u_X8_goRound_8 hown hK hP (g_M_0 cI a σ) rfl (by decide) ⟨rfl, rfl, rfl⟩ k_X8_goRound_f40 rfl dX8_goRound_332 ?_
            refine lv_iload hx hb dX8_goRound_335 (lv_at hl 0 rfl) ?_
            refine x_iald (t0 := 0) hx hb hK hP ht h (g_M_11 cI a σ) dX8_goRound_337 (fun x90 h => ?_)
            refine lv_icmp_eq (tgt := 344) hx hb dX8_goRound_338 (by decide) (fun c91 => ?_) (fun c91 => ?_)
            · have h := if_t c91 h
              refine x_iinc (k := 4) (w := 1) hx hb dX8_goRound_344 hl rfl (by decide +kernel) (by decide) (fun v9 => [(3, .int v9), (4, .int x79), (0, .ref (a 0)), (1, .int x61), (2, .int x62)]) (fun v9 => rfl) h (fun x92 ls hl h => ?_)
              have hl : lv_has ls 5 [(3, .int x92), (4, .int x79), (0, .ref (a 0)), (1, .int x61), (2, .int x62)] := hl
              refine lv_goto (tgt := 273) hx hb dX8_goRound_347 (by decide) ?_
              exact i273 σ x61 x62 x92 _ _ _ h hP hS (lv_sub hl [2, 3, 4, 0] rfl)
            · have h := if_f c91 h
              refine x_iinc (k := 2) (w := 1) hx hb dX8_goRound_341 hl rfl (by decide +kernel) (by decide) (fun v9 => [(1, .int v9), (4, .int x79), (0, .ref (a 0)), (2, .int x62), (3, .int x63)]) (fun v9 => rfl) h (fun x93 ls hl h => ?_)
              have hl : lv_has ls 5 [(1, .int x93), (4, .int x79), (0, .ref (a 0)), (2, .int x62), (3, .int x63)] := hl
              refine x_iinc (k := 4) (w := 1) hx hb dX8_goRound_344 hl rfl (by decide +kernel) (by decide) (fun v9 => [(3, .int v9), (1, .int x93), (4, .int x79), (0, .ref (a 0)), (2, .int x62)]) (fun v9 => rfl) h (fun x94 ls hl h => ?_)
              have hl : lv_has ls 5 [(3, .int x94), (1, .int x93), (4, .int x79), (0, .ref (a 0)), (2, .int x62)] := hl
              refine lv_goto (tgt := 273) hx hb dX8_goRound_347 (by decide) ?_
              exact i273 σ x93 x62 x94 _ _ _ h hP hS (lv_sub hl [3, 1, 4, 0] rfl)
  have i2 : ∀ (σ : qM) (x1 : Int32) (H : Heap) (locs : List Loc) (ls : Array Slot), q_lim (D_X8_goRound) 0 σ [x1] = some qq → va_P D vwCl (p_M cI a σ) H → va_S A s.heap H locs → lv_has ls 5 [(0, .ref (a 0)), (1, .int x1)] → W p l e ({ frames := 2, cells := 0, slots := 0, locals := 66 }) s m [.ref (a 0)].toArray below meth c H locs 0 0 (MQ below (va_Qi (fun r τ => (r, τ) = qq) (fun τ t => va_P D vwCl ((p_M cI a) τ) t.heap) A) [.ref (a 0)].toArray s 0 0 A) (F0 m 2 ls []) := by
    intro σ x1 H locs ls h hP hS hl
    obtain ⟨k9, h⟩ := q_lim_n h
    exact (main k9).1 σ x1 H locs ls h hP hS hl
  have i36 : ∀ (σ : qM) (x4 : Int32) (H : Heap) (locs : List Loc) (ls : Array Slot), q_lim (D_X8_goRound) 1 σ [x4] = some qq → va_P D vwCl (p_M cI a σ) H → va_S A s.heap H locs → lv_has ls 5 [(0, .ref (a 0)), (1, .int x4)] → W p l e ({ frames := 2, cells := 0, slots := 0, locals := 66 }) s m [.ref (a 0)].toArray below meth c H locs 0 0 (MQ below (va_Qi (fun r τ => (r, τ) = qq) (fun τ t => va_P D vwCl ((p_M cI a) τ) t.heap) A) [.ref (a 0)].toArray s 0 0 A) (F0 m 36 ls []) := by
    intro σ x4 H locs ls h hP hS hl
    obtain ⟨k9, h⟩ := q_lim_n h
    exact (main k9).2.1 σ x4 H locs ls h hP hS hl
  have i140 : ∀ (σ : qM) (x16 : Int32) (H : Heap) (locs : List Loc) (ls : Array Slot), q_lim (D_X8_goRound) 2 σ [x16] = some qq → va_P D vwCl (p_M cI a σ) H → va_S A s.heap H locs → lv_has ls 5 [(0, .ref (a 0)), (1, .int x16)] → W p l e ({ frames := 2, cells := 0, slots := 0, locals := 66 }) s m [.ref (a 0)].toArray below meth c H locs 0 0 (MQ below (va_Qi (fun r τ => (r, τ) = qq) (fun τ t => va_P D vwCl ((p_M cI a) τ) t.heap) A) [.ref (a 0)].toArray s 0 0 A) (F0 m 140 ls []) := by
    intro σ x16 H locs ls h hP hS hl
    obtain ⟨k9, h⟩ := q_lim_n h
    exact (main k9).2.2.1 σ x16 H locs ls h hP hS hl
  have i100 : ∀ (σ : qM) (x17 : Int32) (H : Heap) (locs : List Loc) (ls : Array Slot), q_lim (D_X8_goRound) 3 σ [x17] = some qq → va_P D vwCl (p_M cI a σ) H → va_S A s.heap H locs → lv_has ls 5 [(0, .ref (a 0)), (1, .int x17)] → W p l e ({ frames := 2, cells := 0, slots := 0, locals := 66 }) s m [.ref (a 0)].toArray below meth c H locs 0 0 (MQ below (va_Qi (fun r τ => (r, τ) = qq) (fun τ t => va_P D vwCl ((p_M cI a) τ) t.heap) A) [.ref (a 0)].toArray s 0 0 A) (F0 m 100 ls []) := by
    intro σ x17 H locs ls h hP hS hl
    obtain ⟨k9, h⟩ := q_lim_n h
    exact (main k9).2.2.2.1 σ x17 H locs ls h hP hS hl
  have i238 : ∀ (σ : qM) (x32 : Int32) (H : Heap) (locs : List Loc) (ls : Array Slot), q_lim (D_X8_goRound) 4 σ [x32] = some qq → va_P D vwCl (p_M cI a σ) H → va_S A s.heap H locs → lv_has ls 5 [(0, .ref (a 0)), (1, .int x32)] → W p l e ({ frames := 2, cells := 0, slots := 0, locals := 66 }) s m [.ref (a 0)].toArray below meth c H locs 0 0 (MQ below (va_Qi (fun r τ => (r, τ) = qq) (fun τ t => va_P D vwCl ((p_M cI a) τ) t.heap) A) [.ref (a 0)].toArray s 0 0 A) (F0 m 238 ls []) := by
    intro σ x32 H locs ls h hP hS hl
    obtain ⟨k9, h⟩ := q_lim_n h
    exact (main k9).2.2.2.2.1 σ x32 H locs ls h hP hS hl
  have i152 : ∀ (σ : qM) (x33 x34 : Int32) (H : Heap) (locs : List Loc) (ls : Array Slot), q_lim (D_X8_goRound) 5 σ [x33, x34] = some qq → va_P D vwCl (p_M cI a σ) H → va_S A s.heap H locs → lv_has ls 5 [(0, .ref (a 0)), (1, .int x33), (2, .int x34)] → W p l e ({ frames := 2, cells := 0, slots := 0, locals := 66 }) s m [.ref (a 0)].toArray below meth c H locs 0 0 (MQ below (va_Qi (fun r τ => (r, τ) = qq) (fun τ t => va_P D vwCl ((p_M cI a) τ) t.heap) A) [.ref (a 0)].toArray s 0 0 A) (F0 m 152 ls []) := by
    intro σ x33 x34 H locs ls h hP hS hl
    obtain ⟨k9, h⟩ := q_lim_n h
    exact (main k9).2.2.2.2.2.1 σ x33 x34 H locs ls h hP hS hl
  have i261 : ∀ (σ : qM) (x46 x47 : Int32) (H : Heap) (locs : List Loc) (ls : Array Slot), q_lim (D_X8_goRound) 6 σ [x46, x47] = some qq → va_P D vwCl (p_M cI a σ) H → va_S A s.heap H locs → lv_has ls 5 [(0, .ref (a 0)), (1, .int x46), (2, .int x47)] → W p l e ({ frames := 2, cells := 0, slots := 0, locals := 66 }) s m [.ref (a 0)].toArray below meth c H locs 0 0 (MQ below (va_Qi (fun r τ => (r, τ) = qq) (fun τ t => va_P D vwCl ((p_M cI a) τ) t.heap) A) [.ref (a 0)].toArray s 0 0 A) (F0 m 261 ls []) := by
    intro σ x46 x47 H locs ls h hP hS hl
    obtain ⟨k9, h⟩ := q_lim_n h
    exact (main k9).2.2.2.2.2.2.1 σ x46 x47 H locs ls h hP hS hl
  have i177 : ∀ (σ : qM) (x56 x57 x58 : Int32) (H : Heap) (locs : List Loc) (ls : Array Slot), q_lim (D_X8_goRound) 7 σ [x56, x57, x58] = some qq → va_P D vwCl (p_M cI a σ) H → va_S A s.heap H locs → lv_has ls 5 [(0, .ref (a 0)), (1, .int x56), (2, .int x57)] → W p l e ({ frames := 2, cells := 0, slots := 0, locals := 66 }) s m [.ref (a 0)].toArray below meth c H locs 0 0 (MQ below (va_Qi (fun r τ => (r, τ) = qq) (fun τ t => va_P D vwCl ((p_M cI a) τ) t.heap) A) [.ref (a 0)].toArray s 0 0 A) (F0 m 177 ls [.int x58]) := by
    intro σ x56 x57 x58 H locs ls h hP hS hl
    obtain ⟨k9, h⟩ := q_lim_n h
    exact (main k9).2.2.2.2.2.2.2.1 σ x56 x57 x58 H locs ls h hP hS hl
  have i273 : ∀ (σ : qM) (x61 x62 x63 : Int32) (H : Heap) (locs : List Loc) (ls : Array Slot), q_lim (D_X8_goRound) 8 σ [x61, x62, x63] = some qq → va_P D vwCl (p_M cI a σ) H → va_S A s.heap H locs → lv_has ls 5 [(0, .ref (a 0)), (1, .int x61), (2, .int x62), (3, .int x63)] → W p l e ({ frames := 2, cells := 0, slots := 0, locals := 66 }) s m [.ref (a 0)].toArray below meth c H locs 0 0 (MQ below (va_Qi (fun r τ => (r, τ) = qq) (fun τ t => va_P D vwCl ((p_M cI a) τ) t.heap) A) [.ref (a 0)].toArray s 0 0 A) (F0 m 273 ls []) := by
    intro σ x61 x62 x63 H locs ls h hP hS hl
    obtain ⟨k9, h⟩ := q_lim_n h
    exact (main k9).2.2.2.2.2.2.2.2 σ x61 x62 x63 H locs ls h hP hS hl
  have h : e_X8_goRound (q_lim (D_X8_goRound)) σ = some qq := h
  unfold e_X8_goRound at h
  refine lv_iconst (v := 0) hx hb dX8_goRound_0 (by decide +kernel) ?_
  refine lv_istore_n (lv' := [(1, .int 0), (0, .ref (a 0))]) hx hb dX8_goRound_1 rfl hl (by decide) rfl (fun ls hl => ?_)
  exact i2 σ 0 _ _ _ h hP hS (lv_sub hl [1, 0] rfl)
/-! ===== VectorRoundsModel.rounds(I)I: world M ===== -/
theorem i_X8_rounds : yX8_rounds.cls = RX8 ∧ yX8_rounds.cls ≠ "java/lang/invoke/MethodHandle" ∧ yX8_rounds.cls ≠ "java/lang/invoke/VarHandle" ∧ (parseMethodDescriptor yX8_rounds.desc).map (fun d => d.parameters.length) = some 1 := by decide +kernel
set_option maxHeartbeats 4000000 in
set_option maxRecDepth 100000 in
theorem c_X8_rounds (l : Launch) (D : va_G) (cI : ClassId) (tys : List (ClassId × FieldType)) (ht : tys[0]? = some (cI, .int)) (a : Nat → Nat) (σ : qM) (x1 : Int32) : q_Met l yX8_rounds wsX8_rounds ({ frames := 3, cells := 0, slots := 0, locals := 90 }) [.ref (a 0), .int x1] D tys (p_M cI a) σ (f_X8_rounds σ x1) := by
  refine x_ofWi (cc := cX8_rounds) (maxL := 4) (ret := (some .int)) (by decide +kernel) rfl (pf_M cI a) (Nat.le_of_ble_eq_true rfl) ?_
  intro p e s m below meth c A ls qq h hx hb hml hr hlocks hown hts hK hP hD hA hS hl
  have hown : s.vm.findClass RX8 = some m.cls := hown
  have hl : lv_has ls 4 [(0, .ref (a 0)), (1, .int x1)] := hl
  have main : ∀ k9 : Nat, (∀ (σ : qM) (x5 x6 x7 : Int32) (H : Heap) (locs : List Loc) (ls : Array Slot), q_it (D_X8_rounds) k9 0 σ [x5, x6, x7] = some qq → va_P D vwCl (p_M cI a σ) H → va_S A s.heap H locs → lv_has ls 4 [(0, .ref (a 0)), (1, .int x5), (2, .int x6), (3, .int x7)] → W p l e ({ frames := 3, cells := 0, slots := 0, locals := 90 }) s m [.ref (a 0), .int x1].toArray below meth c H locs 0 0 (MQ below (va_Qi (fun r τ => (r, τ) = qq) (fun τ t => va_P D vwCl ((p_M cI a) τ) t.heap) A) [.ref (a 0), .int x1].toArray s 0 0 A) (F0 m 16 ls [])) := by
    intro k9
    induction k9 with
    | zero => exact (fun _ _ _ _ _ _ _ h _ _ _ => (q_no (show (none : qR) = some qq from h)).elim)
    | succ k9 ih =>
      have i16 := ih
      refine ?_
      · intro σ x5 x6 x7 H locs ls h hP hS hl
        have h : b_X8_rounds_16 (q_it (D_X8_rounds) k9) σ x5 x6 x7 = some qq := h
        unfold b_X8_rounds_16 at h
        refine lv_iload_n hx hb dX8_rounds_16 rfl (lv_at hl 3 rfl) ?_
        refine lv_iload_n hx hb dX8_rounds_17 rfl (lv_at hl 1 rfl) ?_
        refine lv_icmp_ge (tgt := 34) hx hb dX8_rounds_18 (by decide) (fun c8 => ?_) (fun c8 => ?_)
        · have h := if_t c8 h
          refine lv_iload_n hx hb dX8_rounds_34 rfl (lv_at hl 2 rfl) ?_
          exact x_iret (p_M cI a) hx hb hr hlocks hP hS dX8_rounds_35 h
        · have h := if_f c8 h
          refine lv_iload_n hx hb dX8_rounds_21 rfl (lv_at hl 2 rfl) ?_
          refine lv_aload_n hx hb dX8_rounds_22 rfl (lv_at hl 0 rfl) ?_
          refine x_cVi (p_M cI a) (p_M cI a) (fun τ => τ) [.int x6] [] hx hb hml hl.1 hown hts hK hP hD hS hA rfl (c_X8_goRound l D cI tys ht a σ) gX8_rounds_X8_goRound rfl ⟨rfl, rfl⟩ i_X8_goRound ⟨Nat.le_of_ble_eq_true rfl, Nat.le_of_ble_eq_true rfl⟩ q_frI (g_M_0 cI a σ) rfl rfl (Nat.le_of_ble_eq_true rfl) ⟨Nat.zero_le _, Nat.zero_le _⟩ dX8_rounds_23 h (fun x10 H locs s9 hP hS h => ?_)
          refine x_iadd hx hb dX8_rounds_26 h (fun x11 h => ?_)
          refine lv_istore_n (lv' := [(2, .int x11), (0, .ref (a 0)), (1, .int x5), (3, .int x7)]) hx hb dX8_rounds_27 rfl hl (by decide) rfl (fun ls hl => ?_)
          refine x_iinc (k := 3) (w := 1) hx hb dX8_rounds_28 hl rfl (by decide +kernel) (by decide) (fun v9 => [(3, .int v9), (2, .int x11), (0, .ref (a 0)), (1, .int x5)]) (fun v9 => rfl) h (fun x12 ls hl h => ?_)
          have hl : lv_has ls 4 [(3, .int x12), (2, .int x11), (0, .ref (a 0)), (1, .int x5)] := hl
          refine lv_goto (tgt := 16) hx hb dX8_rounds_31 (by decide) ?_
          exact i16 s9 x5 x11 x12 _ _ _ h hP hS (lv_sub hl [2, 3, 1, 0] rfl)
  have i16 : ∀ (σ : qM) (x5 x6 x7 : Int32) (H : Heap) (locs : List Loc) (ls : Array Slot), q_lim (D_X8_rounds) 0 σ [x5, x6, x7] = some qq → va_P D vwCl (p_M cI a σ) H → va_S A s.heap H locs → lv_has ls 4 [(0, .ref (a 0)), (1, .int x5), (2, .int x6), (3, .int x7)] → W p l e ({ frames := 3, cells := 0, slots := 0, locals := 90 }) s m [.ref (a 0), .int x1].toArray below meth c H locs 0 0 (MQ below (va_Qi (fun r τ => (r, τ) = qq) (fun τ t => va_P D vwCl ((p_M cI a) τ) t.heap) A) [.ref (a 0), .int x1].toArray s 0 0 A) (F0 m 16 ls []) := by
    intro σ x5 x6 x7 H locs ls h hP hS hl
    obtain ⟨k9, h⟩ := q_lim_n h
    exact (main k9) σ x5 x6 x7 H locs ls h hP hS hl
  have h : e_X8_rounds (q_lim (D_X8_rounds)) σ x1 = some qq := h
  unfold e_X8_rounds at h
  refine lv_iload_n hx hb dX8_rounds_0 rfl (lv_at hl 1 rfl) ?_
  refine lv_iconst (v := 1) hx hb dX8_rounds_1 (by decide +kernel) ?_
  refine lv_bipush (v := 80) hx hb dX8_rounds_2 (by decide +kernel) ?_
  refine x_cSi (p_M cI a) (fun _ => []) (fun _ => σ) [] [.int x1, .int 1, .int 80] hx hb hml hl.1 hown hts hK hP hD hS hA rfl (c_X8_in l D cI tys ht σ x1 1 80) gX8_rounds_X8_in rfl ⟨rfl, rfl⟩ i_X8_in ⟨Nat.le_of_ble_eq_true rfl, Nat.le_of_ble_eq_true rfl⟩ (q_fr0 (fun _ => rfl)) rfl (Nat.le_of_ble_eq_true rfl) ⟨Nat.zero_le _, Nat.zero_le _⟩ dX8_rounds_4 h (fun x3 H locs s2 hP hS h => ?_)
  refine lv_if_ne (tgt := 12) hx hb dX8_rounds_7 (by decide) (fun c4 => ?_) (fun c4 => ?_)
  · have h := if_f c4 h
    refine lv_iconst (v := 0) hx hb dX8_rounds_12 (by decide +kernel) ?_
    refine lv_istore_n (lv' := [(2, .int 0), (0, .ref (a 0)), (1, .int x1)]) hx hb dX8_rounds_13 rfl hl (by decide) rfl (fun ls hl => ?_)
    refine lv_iconst (v := 0) hx hb dX8_rounds_14 (by decide +kernel) ?_
    refine lv_istore_n (lv' := [(3, .int 0), (2, .int 0), (0, .ref (a 0)), (1, .int x1)]) hx hb dX8_rounds_15 rfl hl (by decide) rfl (fun ls hl => ?_)
    exact i16 s2 x1 0 0 _ _ _ h hP hS (lv_sub hl [2, 3, 1, 0] rfl)
  · have h := if_t c4 h
    refine lv_iconst (v := (-1)) hx hb dX8_rounds_10 (by decide +kernel) ?_
    exact x_iret (p_M cI a) hx hb hr hlocks hP hS dX8_rounds_11 h
/-! ===== VectorRoundsModel.entry(III)I: world M ===== -/
theorem i_X8_entry : yX8_entry.cls = RX8 ∧ yX8_entry.cls ≠ "java/lang/invoke/MethodHandle" ∧ yX8_entry.cls ≠ "java/lang/invoke/VarHandle" ∧ (parseMethodDescriptor yX8_entry.desc).map (fun d => d.parameters.length) = some 3 := by decide +kernel
theorem k_X8_entry_f7 : Cond.fieldLink RX8 7 RX8 "s" "[I" ∈ wsX8_entry := by decide +kernel
theorem u_X8_entry_8 : ∀ w ∈ u_ws RX8 TX8 26, w ∈ wsX8_entry := by decide +kernel
set_option maxHeartbeats 4000000 in
set_option maxRecDepth 100000 in
theorem c_X8_entry (l : Launch) (D : va_G) (cI : ClassId) (tys : List (ClassId × FieldType)) (ht : tys[0]? = some (cI, .int)) (a : Nat → Nat) (σ : qM) (x1 : Int32) (x2 : Int32) (x3 : Int32) : q_Met l yX8_entry wsX8_entry ({ frames := 2, cells := 0, slots := 0, locals := 43 }) [.ref (a 0), .int x1, .int x2, .int x3] D tys (p_M cI a) σ (f_X8_entry σ x1 x2 x3) := by
  refine x_ofWi (cc := cX8_entry) (maxL := 5) (ret := (some .int)) (by decide +kernel) rfl (pf_M cI a) (Nat.le_of_ble_eq_true rfl) ?_
  intro p e s m below meth c A ls qq h hx hb hml hr hlocks hown hts hK hP hD hA hS hl
  have hown : s.vm.findClass RX8 = some m.cls := hown
  have hl : lv_has ls 5 [(0, .ref (a 0)), (1, .int x1), (2, .int x2), (3, .int x3)] := hl
  unfold f_X8_entry at h
  refine lv_aload_n hx hb dX8_entry_0 rfl (lv_at hl 0 rfl) ?_
  refine lv_iload_n hx hb dX8_entry_1 rfl (lv_at hl 1 rfl) ?_
  refine x_cVi (p_M cI a) (p_M cI a) (fun τ => τ) [] [.int x1] hx hb hml hl.1 hown hts hK hP hD hS hA rfl (c_X8_isRouter l D cI tys ht a σ x1) gX8_entry_X8_isRouter rfl ⟨rfl, rfl⟩ i_X8_isRouter ⟨Nat.le_of_ble_eq_true rfl, Nat.le_of_ble_eq_true rfl⟩ q_frI (g_M_0 cI a σ) rfl rfl (Nat.le_of_ble_eq_true rfl) ⟨Nat.zero_le _, Nat.zero_le _⟩ dX8_entry_2 h (fun x5 H locs s4 hP hS h => ?_)
  refine lv_if_eq (tgt := 25) hx hb dX8_entry_5 (by decide) (fun c6 => ?_) (fun c6 => ?_)
  · have h := if_t c6 h
    refine lv_iconst (v := (-1)) hx hb dX8_entry_25 (by decide +kernel) ?_
    exact x_iret (p_M cI a) hx hb hr hlocks hP hS dX8_entry_26 h
  · have h := if_f c6 h
    refine lv_aload_n hx hb dX8_entry_8 rfl (lv_at hl 0 rfl) ?_
    refine lv_iload_n hx hb dX8_entry_9 rfl (lv_at hl 2 rfl) ?_
    refine x_cVi (p_M cI a) (p_M cI a) (fun τ => τ) [] [.int x2] hx hb hml hl.1 hown hts hK hP hD hS hA rfl (c_X8_isRouter l D cI tys ht a s4 x2) gX8_entry_X8_isRouter rfl ⟨rfl, rfl⟩ i_X8_isRouter ⟨Nat.le_of_ble_eq_true rfl, Nat.le_of_ble_eq_true rfl⟩ q_frI (g_M_0 cI a s4) rfl rfl (Nat.le_of_ble_eq_true rfl) ⟨Nat.zero_le _, Nat.zero_le _⟩ dX8_entry_10 h (fun x8 H locs s7 hP hS h => ?_)
    refine lv_if_eq (tgt := 25) hx hb dX8_entry_13 (by decide) (fun c9 => ?_) (fun c9 => ?_)
    · have h := if_t c9 h
      refine lv_iconst (v := (-1)) hx hb dX8_entry_25 (by decide +kernel) ?_
      exact x_iret (p_M cI a) hx hb hr hlocks hP hS dX8_entry_26 h
    · have h := if_f c9 h
      refine lv_iload_n hx hb dX8_entry_16 rfl (lv_at hl 3 rfl) ?_
      refine lv_iconst (v := 0) hx hb dX8_entry_17 (by decide +kernel) ?_
      refine lv_iconst (v := 4) hx hb dX8_entry_18 (by decide +kernel) ?_
      refine x_cSi (p_M cI a) (fun _ => []) (fun _ => s7) [] [.int x3, .int 0, .int 4] hx hb hml hl.1 hown hts hK hP hD hS hA rfl (c_X8_in l D cI tys ht s7 x3 0 4) gX8_entry_X8_in rfl ⟨rfl, rfl⟩ i_X8_in ⟨Nat.le_of_ble_eq_true rfl, Nat.le_of_ble_eq_true rfl⟩ (q_fr0 (fun _ => rfl)) rfl (Nat.le_of_ble_eq_true rfl) ⟨Nat.zero_le _, Nat.zero_le _⟩ dX8_entry_19 h (fun x11 H locs s10 hP hS h => ?_)
      refine lv_if_ne (tgt := 27) hx hb dX8_entry_22 (by decide) (fun c12 => ?_) (fun c12 => ?_)
      · have h := if_f c12 h
        refine lv_aload_n hx hb dX8_entry_27 rfl (lv_at hl 0 rfl) ?_
        refine lv_iload_n hx hb dX8_entry_28 rfl (lv_at hl 1 rfl) ?_
        refine lv_iload_n hx hb dX8_entry_29 rfl (lv_at hl 2 rfl) ?_
        refine x_cVi (p_M cI a) (p_M cI a) (fun τ => τ) [] [.int x1, .int x2] hx hb hml hl.1 hown hts hK hP hD hS hA rfl (c_X8_entryOf l D cI tys ht a s10 x1 x2) gX8_entry_X8_entryOf rfl ⟨rfl, rfl⟩ i_X8_entryOf ⟨Nat.le_of_ble_eq_true rfl, Nat.le_of_ble_eq_true rfl⟩ q_frI (g_M_0 cI a s10) rfl rfl (Nat.le_of_ble_eq_true rfl) ⟨Nat.zero_le _, Nat.zero_le _⟩ dX8_entry_30 h (fun x14 H locs s13 hP hS h => ?_)
        refine lv_istore (lv' := [(4, .int x14), (0, .ref (a 0)), (1, .int x1), (2, .int x2), (3, .int x3)]) hx hb dX8_entry_33 hl (by decide) rfl (fun ls hl => ?_)
        refine lv_iload hx hb dX8_entry_35 (lv_at hl 0 rfl) ?_
        refine lv_if_ge (tgt := 43) hx hb dX8_entry_37 (by decide) (fun c15 => ?_) (fun c15 => ?_)
        · have h := if_t c15 h
          refine lv_iload_n hx hb dX8_entry_43 rfl (lv_at hl 4 rfl) ?_
          by_cases c16 : x3 = 0
          · have h := if_t c16 h
            refine x_tsw_in (v := 0) (off := 32) (tgt := 76) hx hb dX8_entry_44 c16 (by decide +kernel) ?_
            refine lv_aload_n hx hb dX8_entry_76 rfl (lv_at hl 1 rfl) ?_
            refine x_getr (C := RX8) (k := 1) hx hb hts u_X8_entry_8 hown hK hP (g_M_0 cI a s13) rfl (by decide) ⟨rfl, rfl, rfl⟩ k_X8_entry_f7 rfl dX8_entry_77 ?_
            refine lv_sipush (v := 250) hx hb dX8_entry_80 (by decide +kernel) ?_
            refine lv_iload hx hb dX8_entry_83 (lv_at hl 0 rfl) ?_
            refine x_iadd hx hb dX8_entry_85 h (fun x17 h => ?_)
            refine x_iald (t0 := 0) hx hb hK hP ht h (g_M_1 cI a s13) dX8_entry_86 (fun x18 h => ?_)
            exact x_iret (p_M cI a) hx hb hr hlocks hP hS dX8_entry_87 h
          have h := if_f c16 h
          by_cases c19 : x3 = 1
          · have h := if_t c19 h
            refine x_tsw_in (v := 1) (off := 44) (tgt := 88) hx hb dX8_entry_44 c19 (by decide +kernel) ?_
            refine lv_aload_n hx hb dX8_entry_88 rfl (lv_at hl 1 rfl) ?_
            refine x_getr (C := RX8) (k := 1) hx hb hts u_X8_entry_8 hown hK hP (g_M_0 cI a s13) rfl (by decide) ⟨rfl, rfl, rfl⟩ k_X8_entry_f7 rfl dX8_entry_89 ?_
            refine lv_sipush (v := 350) hx hb dX8_entry_92 (by decide +kernel) ?_
            refine lv_iload hx hb dX8_entry_95 (lv_at hl 0 rfl) ?_
            refine x_iadd hx hb dX8_entry_97 h (fun x20 h => ?_)
            refine x_iald (t0 := 0) hx hb hK hP ht h (g_M_1 cI a s13) dX8_entry_98 (fun x21 h => ?_)
            exact x_iret (p_M cI a) hx hb hr hlocks hP hS dX8_entry_99 h
          have h := if_f c19 h
          by_cases c22 : x3 = 2
          · have h := if_t c22 h
            refine x_tsw_in (v := 2) (off := 56) (tgt := 100) hx hb dX8_entry_44 c22 (by decide +kernel) ?_
            refine lv_aload_n hx hb dX8_entry_100 rfl (lv_at hl 1 rfl) ?_
            refine x_getr (C := RX8) (k := 1) hx hb hts u_X8_entry_8 hown hK hP (g_M_0 cI a s13) rfl (by decide) ⟨rfl, rfl, rfl⟩ k_X8_entry_f7 rfl dX8_entry_101 ?_
            refine lv_sipush (v := 450) hx hb dX8_entry_104 (by decide +kernel) ?_
            refine lv_iload hx hb dX8_entry_107 (lv_at hl 0 rfl) ?_
            refine x_iadd hx hb dX8_entry_109 h (fun x23 h => ?_)
            refine x_iald (t0 := 0) hx hb hK hP ht h (g_M_1 cI a s13) dX8_entry_110 (fun x24 h => ?_)
            exact x_iret (p_M cI a) hx hb hr hlocks hP hS dX8_entry_111 h
          have h := if_f c22 h
          by_cases c25 : x3 = 3
          · have h := if_t c25 h
            refine x_tsw_in (v := 3) (off := 68) (tgt := 112) hx hb dX8_entry_44 c25 (by decide +kernel) ?_
            refine lv_aload_n hx hb dX8_entry_112 rfl (lv_at hl 1 rfl) ?_
            refine x_getr (C := RX8) (k := 1) hx hb hts u_X8_entry_8 hown hK hP (g_M_0 cI a s13) rfl (by decide) ⟨rfl, rfl, rfl⟩ k_X8_entry_f7 rfl dX8_entry_113 ?_
            refine lv_sipush (v := 550) hx hb dX8_entry_116 (by decide +kernel) ?_
            refine lv_iload hx hb dX8_entry_119 (lv_at hl 0 rfl) ?_
            refine x_iadd hx hb dX8_entry_121 h (fun x26 h => ?_)
            refine x_iald (t0 := 0) hx hb hK hP ht h (g_M_1 cI a s13) dX8_entry_122 (fun x27 h => ?_)
            exact x_iret (p_M cI a) hx hb hr hlocks hP hS dX8_entry_123 h
          have h := if_f c25 h
          refine x_tsw_out (tgt := 124) hx hb dX8_entry_44 4 (by decide) (fun k9 hk9 => ?_) (by decide) ?_
          · rcases (show k9 = 0 ∨ k9 = 1 ∨ k9 = 2 ∨ k9 = 3 by omega) with rfl | rfl | rfl | rfl
            · exact fun h9 => c16 (h9.trans (by decide +kernel))
            · exact fun h9 => c19 (h9.trans (by decide +kernel))
            · exact fun h9 => c22 (h9.trans (by decide +kernel))
            · exact fun h9 => c25 (h9.trans (by decide +kernel))
          refine lv_iload hx hb dX8_entry_124 (lv_at hl 0 rfl) ?_
          refine lv_bipush (v := 10) hx hb dX8_entry_126 (by decide +kernel) ?_
          refine lv_iload_n hx hb dX8_entry_128 rfl (lv_at hl 2 rfl) ?_
          refine x_imul hx hb dX8_entry_129 h (fun x28 h => ?_)
          refine x_isub hx hb dX8_entry_130 h (fun x29 h => ?_)
          exact x_iret (p_M cI a) hx hb hr hlocks hP hS dX8_entry_131 h
        · have h := if_f c15 h
          refine lv_bipush (v := (-2)) hx hb dX8_entry_40 (by decide +kernel) ?_
          exact x_iret (p_M cI a) hx hb hr hlocks hP hS dX8_entry_42 h
      · have h := if_t c12 h
        refine lv_iconst (v := (-1)) hx hb dX8_entry_25 (by decide +kernel) ?_
        exact x_iret (p_M cI a) hx hb hr hlocks hP hS dX8_entry_26 h
/-! ===== VectorRoundsModel.known(II)I: world M ===== -/
theorem i_X8_known : yX8_known.cls = RX8 ∧ yX8_known.cls ≠ "java/lang/invoke/MethodHandle" ∧ yX8_known.cls ≠ "java/lang/invoke/VarHandle" ∧ (parseMethodDescriptor yX8_known.desc).map (fun d => d.parameters.length) = some 2 := by decide +kernel
theorem k_X8_known_f7 : Cond.fieldLink RX8 7 RX8 "s" "[I" ∈ wsX8_known := by decide +kernel
theorem u_X8_known_8 : ∀ w ∈ u_ws RX8 TX8 26, w ∈ wsX8_known := by decide +kernel
set_option maxHeartbeats 4000000 in
set_option maxRecDepth 100000 in
theorem c_X8_known (l : Launch) (D : va_G) (cI : ClassId) (tys : List (ClassId × FieldType)) (ht : tys[0]? = some (cI, .int)) (a : Nat → Nat) (σ : qM) (x1 : Int32) (x2 : Int32) : q_Met l yX8_known wsX8_known ({ frames := 2, cells := 0, slots := 0, locals := 43 }) [.ref (a 0), .int x1, .int x2] D tys (p_M cI a) σ (f_X8_known σ x1 x2) := by
  refine x_ofWi (cc := cX8_known) (maxL := 3) (ret := (some .int)) (by decide +kernel) rfl (pf_M cI a) (Nat.le_of_ble_eq_true rfl) ?_
  intro p e s m below meth c A ls qq h hx hb hml hr hlocks hown hts hK hP hD hA hS hl
  have hown : s.vm.findClass RX8 = some m.cls := hown
  have hl : lv_has ls 3 [(0, .ref (a 0)), (1, .int x1), (2, .int x2)] := hl
  unfold f_X8_known at h
  refine lv_aload_n hx hb dX8_known_0 rfl (lv_at hl 0 rfl) ?_
  refine lv_iload_n hx hb dX8_known_1 rfl (lv_at hl 1 rfl) ?_
  refine x_cVi (p_M cI a) (p_M cI a) (fun τ => τ) [] [.int x1] hx hb hml hl.1 hown hts hK hP hD hS hA rfl (c_X8_isRouter l D cI tys ht a σ x1) gX8_known_X8_isRouter rfl ⟨rfl, rfl⟩ i_X8_isRouter ⟨Nat.le_of_ble_eq_true rfl, Nat.le_of_ble_eq_true rfl⟩ q_frI (g_M_0 cI a σ) rfl rfl (Nat.le_of_ble_eq_true rfl) ⟨Nat.zero_le _, Nat.zero_le _⟩ dX8_known_2 h (fun x4 H locs s3 hP hS h => ?_)
  refine lv_if_eq (tgt := 12) hx hb dX8_known_5 (by decide) (fun c5 => ?_) (fun c5 => ?_)
  · have h := if_t c5 h
    refine lv_iconst (v := (-1)) hx hb dX8_known_12 (by decide +kernel) ?_
    exact x_iret (p_M cI a) hx hb hr hlocks hP hS dX8_known_13 h
  · have h := if_f c5 h
    refine lv_iload_n hx hb dX8_known_8 rfl (lv_at hl 2 rfl) ?_
    refine lv_if_ge (tgt := 14) hx hb dX8_known_9 (by decide) (fun c6 => ?_) (fun c6 => ?_)
    · have h := if_t c6 h
      refine lv_iload_n hx hb dX8_known_14 rfl (lv_at hl 2 rfl) ?_
      refine lv_aload_n hx hb dX8_known_15 rfl (lv_at hl 0 rfl) ?_
      refine x_getr (C := RX8) (k := 1) hx hb hts u_X8_known_8 hown hK hP (g_M_0 cI a s3) rfl (by decide) ⟨rfl, rfl, rfl⟩ k_X8_known_f7 rfl dX8_known_16 ?_
      refine lv_sipush (v := 130) hx hb dX8_known_19 (by decide +kernel) ?_
      refine lv_iload_n hx hb dX8_known_22 rfl (lv_at hl 1 rfl) ?_
      refine x_iadd hx hb dX8_known_23 h (fun x7 h => ?_)
      refine x_iald (t0 := 0) hx hb hK hP ht h (g_M_1 cI a s3) dX8_known_24 (fun x8 h => ?_)
      refine lv_icmp_ge (tgt := 46) hx hb dX8_known_25 (by decide) (fun c9 => ?_) (fun c9 => ?_)
      · have h := if_t c9 h
        refine lv_bipush (v := (-2)) hx hb dX8_known_46 (by decide +kernel) ?_
        exact x_iret (p_M cI a) hx hb hr hlocks hP hS dX8_known_48 h
      · have h := if_f c9 h
        refine lv_aload_n hx hb dX8_known_28 rfl (lv_at hl 0 rfl) ?_
        refine x_getr (C := RX8) (k := 1) hx hb hts u_X8_known_8 hown hK hP (g_M_0 cI a s3) rfl (by decide) ⟨rfl, rfl, rfl⟩ k_X8_known_f7 rfl dX8_known_29 ?_
        refine lv_sipush (v := 150) hx hb dX8_known_32 (by decide +kernel) ?_
        refine lv_bipush (v := 10) hx hb dX8_known_35 (by decide +kernel) ?_
        refine lv_iload_n hx hb dX8_known_37 rfl (lv_at hl 1 rfl) ?_
        refine x_imul hx hb dX8_known_38 h (fun x10 h => ?_)
        refine x_iadd hx hb dX8_known_39 h (fun x11 h => ?_)
        refine lv_iload_n hx hb dX8_known_40 rfl (lv_at hl 2 rfl) ?_
        refine x_iadd hx hb dX8_known_41 h (fun x12 h => ?_)
        refine x_iald (t0 := 0) hx hb hK hP ht h (g_M_1 cI a s3) dX8_known_42 (fun x13 h => ?_)
        refine lv_goto (tgt := 48) hx hb dX8_known_43 (by decide) ?_
        exact x_iret (p_M cI a) hx hb hr hlocks hP hS dX8_known_48 h
    · have h := if_f c6 h
      refine lv_iconst (v := (-1)) hx hb dX8_known_12 (by decide +kernel) ?_
      exact x_iret (p_M cI a) hx hb hr hlocks hP hS dX8_known_13 h
