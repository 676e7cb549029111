/-! ===== java/util/Arrays.fill([II)V: world A ===== -/
theorem i_J7_fill_53178 : yJ7_fill_53178.cls ≠ "java/lang/invoke/MethodHandle" ∧ yJ7_fill_53178.cls ≠ "java/lang/invoke/VarHandle" ∧ (parseMethodDescriptor yJ7_fill_53178.desc).map (fun d => d.parameters.length) = some 2 := by decide +kernel
set_option maxHeartbeats 4000000 in
set_option maxRecDepth 100000 in
theorem c_J7_fill_53178 (l : Launch) (D : va_G) (cI : ClassId) (tys : List (ClassId × FieldType)) (ht : tys[0]? = some (cI, .int)) (n : Nat) (a : Nat → Nat) (σ : qM) (x1 : Int32) : q_Mev l yJ7_fill_53178 wsJ7_fill_53178 ({ frames := 0, cells := 0, slots := 0, locals := 0 }) [.ref (a 0), .int x1] D tys (p_A cI n a) σ (f_J7_fill_53178 n σ x1) := by
  refine x_ofWv (cc := cJ7_fill_53178) (maxL := 4) (ret := none) (by decide +kernel) rfl (pf_A cI n a) (Nat.le_of_ble_eq_true rfl) ?_
  intro p e s m below meth c A ls qq h hx hb hml hr hlocks hown hts hK hP hD hA hS hl
  have hown : s.vm.findClass RJ7 = some m.cls := hown
  have hl : lv_has ls 4 [(0, .ref (a 0)), (1, .int x1)] := hl
  have main : ∀ k9 : Nat, (∀ (σ : qM) (x3 x4 x5 : Int32) (H : Heap) (locs : List Loc) (ls : Array Slot), q_it (D_J7_fill_53178 n) k9 0 σ [x3, x4, x5] = some qq → va_P D vwCl (p_A cI n a σ) H → va_S A s.heap H locs → lv_has ls 4 [(0, .ref (a 0)), (1, .int x3), (2, .int x4), (3, .int x5)] → W p l e ({ frames := 0, cells := 0, slots := 0, locals := 0 }) s m [.ref (a 0), .int x1].toArray below meth c H locs 0 0 (MQ below (va_Qv (fun τ => ((0 : Int32), τ) = qq) (fun τ t => va_P D vwCl ((p_A cI n a) τ) t.heap) A) [.ref (a 0), .int x1].toArray s 0 0 A) (F0 m 5 ls [])) := by
    intro k9
    induction k9 with
    | zero => exact (fun _ _ _ _ _ _ _ h _ _ _ => (q_no (show (none : qR) = some qq from h)).elim)
    | succ k9 ih =>
      have i5 := ih
      refine ?_
      · intro σ x3 x4 x5 H locs ls h hP hS hl
        have h : b_J7_fill_53178_5 n (q_it (D_J7_fill_53178 n) k9) σ x3 x4 x5 = some qq := h
        unfold b_J7_fill_53178_5 at h
        refine lv_iload_n hx hb dJ7_fill_53178_5 rfl (lv_at hl 2 rfl) ?_
        refine lv_iload_n hx hb dJ7_fill_53178_6 rfl (lv_at hl 3 rfl) ?_
        refine lv_icmp_ge (tgt := 20) hx hb dJ7_fill_53178_7 (by decide) (fun c6 => ?_) (fun c6 => ?_)
        · have h := if_t c6 h
          exact x_vret (p_A cI n a) hx hb hr hlocks hP hS dJ7_fill_53178_20 h
        · have h := if_f c6 h
          refine lv_aload_n hx hb dJ7_fill_53178_10 rfl (lv_at hl 0 rfl) ?_
          refine lv_iload_n hx hb dJ7_fill_53178_11 rfl (lv_at hl 2 rfl) ?_
          refine lv_iload_n hx hb dJ7_fill_53178_12 rfl (lv_at hl 1 rfl) ?_
          refine x_iast (p_A cI n a) (t0 := 0) hx hb hK hP hD hS ht h (g_A_0 cI n a σ) (fun j9 v9 => (s_A_0 cI n a σ _)) dJ7_fill_53178_13 (fun H locs s7 hP hS h => ?_)
          refine x_iinc (k := 2) (w := 1) hx hb dJ7_fill_53178_14 hl rfl (by decide +kernel) (by decide) (fun v9 => [(2, .int v9), (0, .ref (a 0)), (1, .int x3), (3, .int x5)]) (fun v9 => rfl) h (fun x8 ls hl h => ?_)
          have hl : lv_has ls 4 [(2, .int x8), (0, .ref (a 0)), (1, .int x3), (3, .int x5)] := hl
          refine lv_goto (tgt := 5) hx hb dJ7_fill_53178_17 (by decide) ?_
          exact i5 s7 x3 x8 x5 _ _ _ h hP hS (lv_sub hl [1, 2, 0, 3] rfl)
  have i5 : ∀ (σ : qM) (x3 x4 x5 : Int32) (H : Heap) (locs : List Loc) (ls : Array Slot), q_lim (D_J7_fill_53178 n) 0 σ [x3, x4, x5] = some qq → va_P D vwCl (p_A cI n a σ) H → va_S A s.heap H locs → lv_has ls 4 [(0, .ref (a 0)), (1, .int x3), (2, .int x4), (3, .int x5)] → W p l e ({ frames := 0, cells := 0, slots := 0, locals := 0 }) s m [.ref (a 0), .int x1].toArray below meth c H locs 0 0 (MQ below (va_Qv (fun τ => ((0 : Int32), τ) = qq) (fun τ t => va_P D vwCl ((p_A cI n a) τ) t.heap) A) [.ref (a 0), .int x1].toArray s 0 0 A) (F0 m 5 ls []) := by
    intro σ x3 x4 x5 H locs ls h hP hS hl
    obtain ⟨k9, h⟩ := q_lim_n h
    exact (main k9) σ x3 x4 x5 H locs ls h hP hS hl
  have h : e_J7_fill_53178 n (q_lim (D_J7_fill_53178 n)) σ x1 = some qq := h
  unfold e_J7_fill_53178 at h
  refine lv_iconst (v := 0) hx hb dJ7_fill_53178_0 (by decide +kernel) ?_
  refine lv_istore_n (lv' := [(2, .int 0), (0, .ref (a 0)), (1, .int x1)]) hx hb dJ7_fill_53178_1 rfl hl (by decide) rfl (fun ls hl => ?_)
  refine lv_aload_n hx hb dJ7_fill_53178_2 rfl (lv_at hl 1 rfl) ?_
  refine x_alen (t0 := 0) hx hb hK hP ht (g_A_0 cI n a σ) dJ7_fill_53178_3 h (fun x2 h => ?_)
  refine lv_istore_n (lv' := [(3, .int x2), (2, .int 0), (0, .ref (a 0)), (1, .int x1)]) hx hb dJ7_fill_53178_4 rfl hl (by decide) rfl (fun ls hl => ?_)
  exact i5 σ x1 0 x2 _ _ _ h hP hS (lv_sub hl [2, 3, 1, 0] rfl)
/-! ===== VectorRounds$Tables.has(I)Z: world T ===== -/
theorem i_X4_has : yX4_has.cls = RX4 ∧ yX4_has.cls ≠ "java/lang/invoke/MethodHandle" ∧ yX4_has.cls ≠ "java/lang/invoke/VarHandle" ∧ (parseMethodDescriptor yX4_has.desc).map (fun d => d.parameters.length) = some 1 := by decide +kernel
theorem k_X4_has_f9 : Cond.fieldLink RX4 9 RX4 "metric" "[I" ∈ wsX4_has := by decide +kernel
theorem u_X4_has_4 : ∀ w ∈ u_ws RX4 TX4 6, w ∈ wsX4_has := by decide +kernel
set_option maxHeartbeats 4000000 in
set_option maxRecDepth 100000 in
theorem c_X4_has (l : Launch) (D : va_G) (cI : ClassId) (tys : List (ClassId × FieldType)) (ht : tys[0]? = some (cI, .int)) (a : Nat → Nat) (σ : qM) (x1 : Int32) : q_Met l yX4_has wsX4_has ({ frames := 0, cells := 0, slots := 0, locals := 0 }) [.ref (a 0), .int x1] D tys (p_T cI a) σ (f_X4_has σ x1) := by
  refine x_ofWi (cc := cX4_has) (maxL := 2) (ret := (some .boolean)) (by decide +kernel) rfl (pf_T cI a) (Nat.le_of_ble_eq_true rfl) ?_
  intro p e s m below meth c A ls qq h hx hb hml hr hlocks hown hts hK hP hD hA hS hl
  have hown : s.vm.findClass RX4 = some m.cls := hown
  have hl : lv_has ls 2 [(0, .ref (a 0)), (1, .int x1)] := hl
  unfold f_X4_has at h
  refine lv_aload_n hx hb dX4_has_0 rfl (lv_at hl 0 rfl) ?_
  refine x_getr (C := RX4) (k := 0) hx hb hts u_X4_has_4 hown hK hP (g_T_0 cI a σ) rfl (by decide) ⟨rfl, rfl, rfl⟩ k_X4_has_f9 rfl dX4_has_1 ?_
  refine lv_iload_n hx hb dX4_has_4 rfl (lv_at hl 1 rfl) ?_
  refine x_iald (t0 := 0) hx hb hK hP ht h (g_T_1 cI a σ) dX4_has_5 (fun x2 h => ?_)
  refine lv_iconst (v := (-1)) hx hb dX4_has_6 (by decide +kernel) ?_
  refine lv_icmp_eq (tgt := 14) hx hb dX4_has_7 (by decide) (fun c3 => ?_) (fun c3 => ?_)
  · have h := if_t c3 h
    refine lv_iconst (v := 0) hx hb dX4_has_14 (by decide +kernel) ?_
    exact x_zret (p_T cI a) hx hb hr hlocks hP hS dX4_has_15 h
  · have h := if_f c3 h
    refine lv_iconst (v := 1) hx hb dX4_has_10 (by decide +kernel) ?_
    refine lv_goto (tgt := 15) hx hb dX4_has_11 (by decide) ?_
    exact x_zret (p_T cI a) hx hb hr hlocks hP hS dX4_has_15 h
/-! ===== VectorRounds$Tables.reaches(I)Z: world T ===== -/
theorem i_X4_reaches : yX4_reaches.cls = RX4 ∧ yX4_reaches.cls ≠ "java/lang/invoke/MethodHandle" ∧ yX4_reaches.cls ≠ "java/lang/invoke/VarHandle" ∧ (parseMethodDescriptor yX4_reaches.desc).map (fun d => d.parameters.length) = some 1 := by decide +kernel
theorem k_X4_reaches_f9 : Cond.fieldLink RX4 9 RX4 "metric" "[I" ∈ wsX4_reaches := by decide +kernel
theorem u_X4_reaches_4 : ∀ w ∈ u_ws RX4 TX4 6, w ∈ wsX4_reaches := by decide +kernel
set_option maxHeartbeats 4000000 in
set_option maxRecDepth 100000 in
theorem c_X4_reaches (l : Launch) (D : va_G) (cI : ClassId) (tys : List (ClassId × FieldType)) (ht : tys[0]? = some (cI, .int)) (a : Nat → Nat) (σ : qM) (x1 : Int32) : q_Met l yX4_reaches wsX4_reaches ({ frames := 0, cells := 0, slots := 0, locals := 0 }) [.ref (a 0), .int x1] D tys (p_T cI a) σ (f_X4_reaches σ x1) := by
  refine x_ofWi (cc := cX4_reaches) (maxL := 2) (ret := (some .boolean)) (by decide +kernel) rfl (pf_T cI a) (Nat.le_of_ble_eq_true rfl) ?_
  intro p e s m below meth c A ls qq h hx hb hml hr hlocks hown hts hK hP hD hA hS hl
  have hown : s.vm.findClass RX4 = some m.cls := hown
  have hl : lv_has ls 2 [(0, .ref (a 0)), (1, .int x1)] := hl
  unfold f_X4_reaches at h
  refine lv_aload_n hx hb dX4_reaches_0 rfl (lv_at hl 0 rfl) ?_
  refine x_getr (C := RX4) (k := 0) hx hb hts u_X4_reaches_4 hown hK hP (g_T_0 cI a σ) rfl (by decide) ⟨rfl, rfl, rfl⟩ k_X4_reaches_f9 rfl dX4_reaches_1 ?_
  refine lv_iload_n hx hb dX4_reaches_4 rfl (lv_at hl 1 rfl) ?_
  refine x_iald (t0 := 0) hx hb hK hP ht h (g_T_1 cI a σ) dX4_reaches_5 (fun x2 h => ?_)
  refine lv_iconst (v := (-1)) hx hb dX4_reaches_6 (by decide +kernel) ?_
  refine lv_icmp_eq (tgt := 25) hx hb dX4_reaches_7 (by decide) (fun c3 => ?_) (fun c3 => ?_)
  · have h := if_t c3 h
    refine lv_iconst (v := 0) hx hb dX4_reaches_25 (by decide +kernel) ?_
    exact x_zret (p_T cI a) hx hb hr hlocks hP hS dX4_reaches_26 h
  · have h := if_f c3 h
    refine lv_aload_n hx hb dX4_reaches_10 rfl (lv_at hl 0 rfl) ?_
    refine x_getr (C := RX4) (k := 0) hx hb hts u_X4_reaches_4 hown hK hP (g_T_0 cI a σ) rfl (by decide) ⟨rfl, rfl, rfl⟩ k_X4_reaches_f9 rfl dX4_reaches_11 ?_
    refine lv_iload_n hx hb dX4_reaches_14 rfl (lv_at hl 1 rfl) ?_
    refine x_iald (t0 := 0) hx hb hK hP ht h (g_T_1 cI a σ) dX4_reaches_15 (fun x4 h => ?_)
    refine lv_bipush (v := 16) hx hb dX4_reaches_16 (by decide +kernel) ?_
    refine lv_icmp_ge (tgt := 25) hx hb dX4_reaches_18 (by decide) (fun c5 => ?_) (fun c5 => ?_)
    · have h := if_t c5 h
      refine lv_iconst (v := 0) hx hb dX4_reaches_25 (by decide +kernel) ?_
      exact x_zret (p_T cI a) hx hb hr hlocks hP hS dX4_reaches_26 h
    · have h := if_f c5 h
      refine lv_iconst (v := 1) hx hb dX4_reaches_21 (by decide +kernel) ?_
      refine lv_goto (tgt := 26) hx hb dX4_reaches_22 (by decide) ?_
      exact x_zret (p_T cI a) hx hb hr hlocks hP hS dX4_reaches_26 h
/-! ===== VectorRounds$Tables.enter(IIIII)V: world T ===== -/
theorem i_X4_enter : yX4_enter.cls = RX4 ∧ yX4_enter.cls ≠ "java/lang/invoke/MethodHandle" ∧ yX4_enter.cls ≠ "java/lang/invoke/VarHandle" ∧ (parseMethodDescriptor yX4_enter.desc).map (fun d => d.parameters.length) = some 5 := by decide +kernel
theorem k_X4_enter_f15 : Cond.fieldLink RX4 15 RX4 "via" "[I" ∈ wsX4_enter := by decide +kernel
theorem k_X4_enter_f18 : Cond.fieldLink RX4 18 RX4 "sequence" "[I" ∈ wsX4_enter := by decide +kernel
theorem k_X4_enter_f21 : Cond.fieldLink RX4 21 RX4 "held" "[I" ∈ wsX4_enter := by decide +kernel
theorem k_X4_enter_f24 : Cond.fieldLink RX4 24 RX4 "order" "[I" ∈ wsX4_enter := by decide +kernel
theorem k_X4_enter_f27 : Cond.fieldLink RX4 27 RX4 "size" "[I" ∈ wsX4_enter := by decide +kernel
theorem k_X4_enter_f9 : Cond.fieldLink RX4 9 RX4 "metric" "[I" ∈ wsX4_enter := by decide +kernel
theorem u_X4_enter_4 : ∀ w ∈ u_ws RX4 TX4 6, w ∈ wsX4_enter := by decide +kernel
set_option maxHeartbeats 4000000 in
set_option maxRecDepth 100000 in
theorem c_X4_enter (l : Launch) (D : va_G) (cI : ClassId) (tys : List (ClassId × FieldType)) (ht : tys[0]? = some (cI, .int)) (a : Nat → Nat) (σ : qM) (x1 : Int32) (x2 : Int32) (x3 : Int32) (x4 : Int32) (x5 : Int32) : q_Mev l yX4_enter wsX4_enter ({ frames := 0, cells := 0, slots := 0, locals := 0 }) [.ref (a 0), .int x1, .int x2, .int x3, .int x4, .int x5] D tys (p_T cI a) σ (f_X4_enter σ x1 x2 x3 x4 x5) := by
  refine x_ofWv (cc := cX4_enter) (maxL := 8) (ret := none) (by decide +kernel) rfl (pf_T cI a) (Nat.le_of_ble_eq_true rfl) ?_
  intro p e s m below meth c A ls qq h hx hb hml hr hlocks hown hts hK hP hD hA hS hl
  have hown : s.vm.findClass RX4 = some m.cls := hown
  have hl : lv_has ls 8 [(0, .ref (a 0)), (1, .int x1), (2, .int x2), (3, .int x3), (4, .int x4), (5, .int x5)] := hl
  unfold f_X4_enter at h
  refine lv_aload_n hx hb dX4_enter_0 rfl (lv_at hl 0 rfl) ?_
  refine x_getr (C := RX4) (k := 5) hx hb hts u_X4_enter_4 hown hK hP (g_T_0 cI a σ) rfl (by decide) ⟨rfl, rfl, rfl⟩ k_X4_enter_f27 rfl dX4_enter_1 ?_
  refine lv_iload_n hx hb dX4_enter_4 rfl (lv_at hl 1 rfl) ?_
  refine x_iald (t0 := 0) hx hb hK hP ht h (g_T_6 cI a σ) dX4_enter_5 (fun x6 h => ?_)
  refine lv_istore (lv' := [(6, .int x6), (0, .ref (a 0)), (1, .int x1), (2, .int x2), (3, .int x3), (4, .int x4), (5, .int x5)]) hx hb dX4_enter_6 hl (by decide) rfl (fun ls hl => ?_)
  refine lv_iload hx hb dX4_enter_8 (lv_at hl 0 rfl) ?_
  refine lv_bipush (v := 10) hx hb dX4_enter_10 (by decide +kernel) ?_
  refine lv_icmp_lt (tgt := 16) hx hb dX4_enter_12 (by decide) (fun c7 => ?_) (fun c7 => ?_)
  · have h := if_t c7 h
    refine lv_iload_n hx hb dX4_enter_16 rfl (lv_at hl 2 rfl) ?_
    refine lv_bipush (v := 10) hx hb dX4_enter_17 (by decide +kernel) ?_
    refine x_imul hx hb dX4_enter_19 h (fun x8 h => ?_)
    refine lv_iload_n hx hb dX4_enter_20 rfl (lv_at hl 3 rfl) ?_
    refine x_iadd hx hb dX4_enter_21 h (fun x9 h => ?_)
    refine lv_istore (lv' := [(7, .int x9), (6, .int x6), (0, .ref (a 0)), (1, .int x1), (2, .int x2), (3, .int x3), (4, .int x4), (5, .int x5)]) hx hb dX4_enter_22 hl (by decide) rfl (fun ls hl => ?_)
    refine lv_aload_n hx hb dX4_enter_24 rfl (lv_at hl 2 rfl) ?_
    refine x_getr (C := RX4) (k := 0) hx hb hts u_X4_enter_4 hown hK hP (g_T_0 cI a σ) rfl (by decide) ⟨rfl, rfl, rfl⟩ k_X4_enter_f9 rfl dX4_enter_25 ?_
    refine lv_iload hx hb dX4_enter_28 (lv_at hl 0 rfl) ?_
    refine lv_iload_n hx hb dX4_enter_30 rfl (lv_at hl 5 rfl) ?_
    refine x_iast (p_T cI a) (t0 := 0) hx hb hK hP hD hS ht h (g_T_1 cI a σ) (fun j9 v9 => (s_T_1 cI a σ _)) dX4_enter_31 (fun H locs s10 hP hS h => ?_)
    refine lv_aload_n hx hb dX4_enter_32 rfl (lv_at hl 2 rfl) ?_
    refine x_getr (C := RX4) (k := 1) hx hb hts u_X4_enter_4 hown hK hP (g_T_0 cI a s10) rfl (by decide) ⟨rfl, rfl, rfl⟩ k_X4_enter_f15 rfl dX4_enter_33 ?_
    refine lv_iload hx hb dX4_enter_36 (lv_at hl 0 rfl) ?_
    refine lv_iload hx hb dX4_enter_38 (lv_at hl 6 rfl) ?_
    refine x_iast (p_T cI a) (t0 := 0) hx hb hK hP hD hS ht h (g_T_2 cI a s10) (fun j9 v9 => (s_T_2 cI a s10 _)) dX4_enter_40 (fun H locs s11 hP hS h => ?_)
    refine lv_aload_n hx hb dX4_enter_41 rfl (lv_at hl 2 rfl) ?_
    refine x_getr (C := RX4) (k := 2) hx hb hts u_X4_enter_4 hown hK hP (g_T_0 cI a s11) rfl (by decide) ⟨rfl, rfl, rfl⟩ k_X4_enter_f18 rfl dX4_enter_42 ?_
    refine lv_iload hx hb dX4_enter_45 (lv_at hl 0 rfl) ?_
    refine lv_iload hx hb dX4_enter_47 (lv_at hl 7 rfl) ?_
    refine x_iast (p_T cI a) (t0 := 0) hx hb hK hP hD hS ht h (g_T_3 cI a s11) (fun j9 v9 => (s_T_3 cI a s11 _)) dX4_enter_49 (fun H locs s12 hP hS h => ?_)
    refine lv_aload_n hx hb dX4_enter_50 rfl (lv_at hl 2 rfl) ?_
    refine x_getr (C := RX4) (k := 3) hx hb hts u_X4_enter_4 hown hK hP (g_T_0 cI a s12) rfl (by decide) ⟨rfl, rfl, rfl⟩ k_X4_enter_f21 rfl dX4_enter_51 ?_
    refine lv_iload hx hb dX4_enter_54 (lv_at hl 0 rfl) ?_
    refine lv_iconst (v := 0) hx hb dX4_enter_56 (by decide +kernel) ?_
    refine x_iast (p_T cI a) (t0 := 0) hx hb hK hP hD hS ht h (g_T_4 cI a s12) (fun j9 v9 => (s_T_4 cI a s12 _)) dX4_enter_57 (fun H locs s13 hP hS h => ?_)
    refine lv_aload_n hx hb dX4_enter_58 rfl (lv_at hl 2 rfl) ?_
    refine x_getr (C := RX4) (k := 4) hx hb hts u_X4_enter_4 hown hK hP (g_T_0 cI a s13) rfl (by decide) ⟨rfl, rfl, rfl⟩ k_X4_enter_f24 rfl dX4_enter_59 ?_
    refine lv_iload_n hx hb dX4_enter_62 rfl (lv_at hl 3 rfl) ?_
    refine lv_bipush (v := 10) hx hb dX4_enter_63 (by decide +kernel) ?_
    refine x_imul hx hb dX4_enter_65 h (fun x14 h => ?_)
    refine lv_iload hx hb dX4_enter_66 (lv_at hl 1 rfl) ?_
    refine x_iadd hx hb dX4_enter_68 h (fun x15 h => ?_)
    refine lv_iload_n hx hb dX4_enter_69 rfl (lv_at hl 4 rfl) ?_
    refine x_iast (p_T cI a) (t0 := 0) hx hb hK hP hD hS ht h (g_T_5 cI a s13) (fun j9 v9 => (s_T_5 cI a s13 _)) dX4_enter_70 (fun H locs s16 hP hS h => ?_)
    refine lv_aload_n hx hb dX4_enter_71 rfl (lv_at hl 2 rfl) ?_
    refine x_getr (C := RX4) (k := 5) hx hb hts u_X4_enter_4 hown hK hP (g_T_0 cI a s16) rfl (by decide) ⟨rfl, rfl, rfl⟩ k_X4_enter_f27 rfl dX4_enter_72 ?_
    refine lv_iload_n hx hb dX4_enter_75 rfl (lv_at hl 3 rfl) ?_
    refine lv_iload hx hb dX4_enter_76 (lv_at hl 1 rfl) ?_
    refine lv_iconst (v := 1) hx hb dX4_enter_78 (by decide +kernel) ?_
    refine x_iadd hx hb dX4_enter_79 h (fun x17 h => ?_)
    refine x_iast (p_T cI a) (t0 := 0) hx hb hK hP hD hS ht h (g_T_6 cI a s16) (fun j9 v9 => (s_T_6 cI a s16 _)) dX4_enter_80 (fun H locs s18 hP hS h => ?_)
    exact x_vret (p_T cI a) hx hb hr hlocks hP hS dX4_enter_81 h
  · have h := if_f c7 h
    exact x_vret (p_T cI a) hx hb hr hlocks hP hS dX4_enter_15 h
/-! ===== VectorRounds$Tables.placeOf(II)I: world T ===== -/
theorem i_X4_placeOf : yX4_placeOf.cls = RX4 ∧ yX4_placeOf.cls ≠ "java/lang/invoke/MethodHandle" ∧ yX4_placeOf.cls ≠ "java/lang/invoke/VarHandle" ∧ (parseMethodDescriptor yX4_placeOf.desc).map (fun d => d.parameters.length) = some 2 := by decide +kernel
theorem k_X4_placeOf_f24 : Cond.fieldLink RX4 24 RX4 "order" "[I" ∈ wsX4_placeOf := by decide +kernel
theorem k_X4_placeOf_f27 : Cond.fieldLink RX4 27 RX4 "size" "[I" ∈ wsX4_placeOf := by decide +kernel
theorem u_X4_placeOf_4 : ∀ w ∈ u_ws RX4 TX4 6, w ∈ wsX4_placeOf := by decide +kernel
set_option maxHeartbeats 4000000 in
set_option maxRecDepth 100000 in
theorem c_X4_placeOf (l : Launch) (D : va_G) (cI : ClassId) (tys : List (ClassId × FieldType)) (ht : tys[0]? = some (cI, .int)) (a : Nat → Nat) (σ : qM) (x1 : Int32) (x2 : Int32) : q_Met l yX4_placeOf wsX4_placeOf ({ frames := 0, cells := 0, slots := 0, locals := 0 }) [.ref (a 0), .int x1, .int x2] D tys (p_T cI a) σ (f_X4_placeOf σ x1 x2) := by
  refine x_ofWi (cc := cX4_placeOf) (maxL := 4) (ret := (some .int)) (by decide +kernel) rfl (pf_T cI a) (Nat.le_of_ble_eq_true rfl) ?_
  intro p e s m below meth c A ls qq h hx hb hml hr hlocks hown hts hK hP hD hA hS hl
  have hown : s.vm.findClass RX4 = some m.cls := hown
  have hl : lv_has ls 4 [(0, .ref (a 0)), (1, .int x1), (2, .int x2)] := hl
  have main : ∀ k9 : Nat, (∀ (σ : qM) (x3 x4 x5 : Int32) (H : Heap) (locs : List Loc) (ls : Array Slot), q_it (D_X4_placeOf) k9 0 σ [x3, x4, x5] = some qq → va_P D vwCl (p_T cI a σ) H → va_S A s.heap H locs → lv_has ls 4 [(0, .ref (a 0)), (1, .int x3), (2, .int x4), (3, .int x5)] → W p l e ({ frames := 0, cells := 0, slots := 0, locals := 0 }) s m [.ref (a 0), .int x1, .int x2].toArray below meth c H locs 0 0 (MQ below (va_Qi (fun r τ => (r, τ) = qq) (fun τ t => va_P D vwCl ((p_T cI a) τ) t.heap) A) [.ref (a 0), .int x1, .int x2].toArray s 0 0 A) (F0 m 2 ls [])) := by
    intro k9
    induction k9 with
    | zero => exact (fun _ _ _ _ _ _ _ h _ _ _ => (q_no (show (none : qR) = some qq from h)).elim)
    | succ k9 ih =>
      have i2 := ih
      refine ?_
      · intro σ x3 x4 x5 H locs ls h hP hS hl
        have h : b_X4_placeOf_2 (q_it (D_X4_placeOf) k9) σ x3 x4 x5 = some qq := h
        unfold b_X4_placeOf_2 at h
        refine lv_iload_n hx hb dX4_placeOf_2 rfl (lv_at hl 3 rfl) ?_
        refine lv_aload_n hx hb dX4_placeOf_3 rfl (lv_at hl 0 rfl) ?_
        refine x_getr (C := RX4) (k := 5) hx hb hts u_X4_placeOf_4 hown hK hP (g_T_0 cI a σ) rfl (by decide) ⟨rfl, rfl, rfl⟩ k_X4_placeOf_f27 rfl dX4_placeOf_4 ?_
        refine lv_iload_n hx hb dX4_placeOf_7 rfl (lv_at hl 1 rfl) ?_
        refine x_iald (t0 := 0) hx hb hK hP ht h (g_T_6 cI a σ) dX4_placeOf_8 (fun x6 h => ?_)
        refine lv_icmp_ge (tgt := 35) hx hb dX4_placeOf_9 (by decide) (fun c7 => ?_) (fun c7 => ?_)
        · have h := if_t c7 h
          refine lv_bipush (v := (-2)) hx hb dX4_placeOf_35 (by decide +kernel) ?_
          exact x_iret (p_T cI a) hx hb hr hlocks hP hS dX4_placeOf_37 h
        · have h := if_f c7 h
          refine lv_aload_n hx hb dX4_placeOf_12 rfl (lv_at hl 0 rfl) ?_
          refine x_getr (C := RX4) (k := 4) hx hb hts u_X4_placeOf_4 hown hK hP (g_T_0 cI a σ) rfl (by decide) ⟨rfl, rfl, rfl⟩ k_X4_placeOf_f24 rfl dX4_placeOf_13 ?_
          refine lv_iload_n hx hb dX4_placeOf_16 rfl (lv_at hl 1 rfl) ?_
          refine lv_bipush (v := 10) hx hb dX4_placeOf_17 (by decide +kernel) ?_
          refine x_imul hx hb dX4_placeOf_19 h (fun x8 h => ?_)
          refine lv_iload_n hx hb dX4_placeOf_20 rfl (lv_at hl 3 rfl) ?_
          refine x_iadd hx hb dX4_placeOf_21 h (fun x9 h => ?_)
          refine x_iald (t0 := 0) hx hb hK hP ht h (g_T_5 cI a σ) dX4_placeOf_22 (fun x10 h => ?_)
          refine lv_iload_n hx hb dX4_placeOf_23 rfl (lv_at hl 2 rfl) ?_
          refine lv_icmp_ne (tgt := 29) hx hb dX4_placeOf_24 (by decide) (fun c11 => ?_) (fun c11 => ?_)
          · have h := if_f c11 h
            refine x_iinc (k := 3) (w := 1) hx hb dX4_placeOf_29 hl rfl (by decide +kernel) (by decide) (fun v9 => [(3, .int v9), (0, .ref (a 0)), (1, .int x3), (2, .int x4)]) (fun v9 => rfl) h (fun x12 ls hl h => ?_)
            have hl : lv_has ls 4 [(3, .int x12), (0, .ref (a 0)), (1, .int x3), (2, .int x4)] := hl
            refine lv_goto (tgt := 2) hx hb dX4_placeOf_32 (by decide) ?_
            exact i2 σ x3 x4 x12 _ _ _ h hP hS (lv_sub hl [1, 2, 3, 0] rfl)
          · have h := if_t c11 h
            refine lv_iload_n hx hb dX4_placeOf_27 rfl (lv_at hl 3 rfl) ?_
            exact x_iret (p_T cI a) hx hb hr hlocks hP hS dX4_placeOf_28 h
  have i2 : ∀ (σ : qM) (x3 x4 x5 : Int32) (H : Heap) (locs : List Loc) (ls : Array Slot), q_lim (D_X4_placeOf) 0 σ [x3, x4, x5] = some qq → va_P D vwCl (p_T cI a σ) H → va_S A s.heap H locs → lv_has ls 4 [(0, .ref (a 0)), (1, .int x3), (2, .int x4), (3, .int x5)] → W p l e ({ frames := 0, cells := 0, slots := 0, locals := 0 }) s m [.ref (a 0), .int x1, .int x2].toArray below meth c H locs 0 0 (MQ below (va_Qi (fun r τ => (r, τ) = qq) (fun τ t => va_P D vwCl ((p_T cI a) τ) t.heap) A) [.ref (a 0), .int x1, .int x2].toArray s 0 0 A) (F0 m 2 ls []) := by
    intro σ x3 x4 x5 H locs ls h hP hS hl
    obtain ⟨k9, h⟩ := q_lim_n h
    exact (main k9) σ x3 x4 x5 H locs ls h hP hS hl
  have h : e_X4_placeOf (q_lim (D_X4_placeOf)) σ x1 x2 = some qq := h
  unfold e_X4_placeOf at h
  refine lv_iconst (v := 0) hx hb dX4_placeOf_0 (by decide +kernel) ?_
  refine lv_istore_n (lv' := [(3, .int 0), (0, .ref (a 0)), (1, .int x1), (2, .int x2)]) hx hb dX4_placeOf_1 rfl hl (by decide) rfl (fun ls hl => ?_)
  exact i2 σ x1 x2 0 _ _ _ h hP hS (lv_sub hl [1, 2, 3, 0] rfl)
/-! ===== VectorRounds$Tables.howMany(Z)I: world T ===== -/
theorem i_X4_howMany : yX4_howMany.cls = RX4 ∧ yX4_howMany.cls ≠ "java/lang/invoke/MethodHandle" ∧ yX4_howMany.cls ≠ "java/lang/invoke/VarHandle" ∧ (parseMethodDescriptor yX4_howMany.desc).map (fun d => d.parameters.length) = some 1 := by decide +kernel
theorem k_X4_howMany_f9 : Cond.fieldLink RX4 9 RX4 "metric" "[I" ∈ wsX4_howMany := by decide +kernel
theorem u_X4_howMany_4 : ∀ w ∈ u_ws RX4 TX4 6, w ∈ wsX4_howMany := by decide +kernel
set_option maxHeartbeats 4000000 in
set_option maxRecDepth 100000 in
theorem c_X4_howMany (l : Launch) (D : va_G) (cI : ClassId) (tys : List (ClassId × FieldType)) (ht : tys[0]? = some (cI, .int)) (a : Nat → Nat) (σ : qM) (x1 : Int32) : q_Met l yX4_howMany wsX4_howMany ({ frames := 1, cells := 0, slots := 0, locals := 21 }) [.ref (a 0), .int x1] D tys (p_T cI a) σ (f_X4_howMany σ x1) := by
  refine x_ofWi (cc := cX4_howMany) (maxL := 4) (ret := (some .int)) (by decide +kernel) rfl (pf_T cI a) (Nat.le_of_ble_eq_true rfl) ?_
  intro p e s m below meth c A ls qq h hx hb hml hr hlocks hown hts hK hP hD hA hS hl
  have hown : s.vm.findClass RX4 = some m.cls := hown
  have hl : lv_has ls 4 [(0, .ref (a 0)), (1, .int x1)] := hl
  have main : ∀ k9 : Nat, (∀ (σ : qM) (x2 x3 x4 : Int32) (H : Heap) (locs : List Loc) (ls : Array Slot), q_it (D_X4_howMany) k9 0 σ [x2, x3, x4] = some qq → va_P D vwCl (p_T cI a σ) H → va_S A s.heap H locs → lv_has ls 4 [(0, .ref (a 0)), (1, .int x2), (2, .int x3), (3, .int x4)] → W p l e ({ frames := 1, cells := 0, slots := 0, locals := 21 }) s m [.ref (a 0), .int x1].toArray below meth c H locs 0 0 (MQ below (va_Qi (fun r τ => (r, τ) = qq) (fun τ t => va_P D vwCl ((p_T cI a) τ) t.heap) A) [.ref (a 0), .int x1].toArray s 0 0 A) (F0 m 4 ls [])) := by
    intro k9
    induction k9 with
    | zero => exact (fun _ _ _ _ _ _ _ h _ _ _ => (q_no (show (none : qR) = some qq from h)).elim)
    | succ k9 ih =>
      have i4 := ih
      refine ?_
      · intro σ x2 x3 x4 H locs ls h hP hS hl
        have h : b_X4_howMany_4 (q_it (D_X4_howMany) k9) σ x2 x3 x4 = some qq := h
        unfold b_X4_howMany_4 at h
        refine lv_iload_n hx hb dX4_howMany_4 rfl (lv_at hl 3 rfl) ?_
        refine lv_bipush (v := 100) hx hb dX4_howMany_5 (by decide +kernel) ?_
        refine lv_icmp_ge (tgt := 45) hx hb dX4_howMany_7 (by decide) (fun c5 => ?_) (fun c5 => ?_)
        · have h := if_t c5 h
          refine lv_iload_n hx hb dX4_howMany_45 rfl (lv_at hl 2 rfl) ?_
          exact x_iret (p_T cI a) hx hb hr hlocks hP hS dX4_howMany_46 h
        · have h := if_f c5 h
          refine lv_iload_n hx hb dX4_howMany_10 rfl (lv_at hl 1 rfl) ?_
          refine lv_if_eq (tgt := 28) hx hb dX4_howMany_11 (by decide) (fun c6 => ?_) (fun c6 => ?_)
          · have h := if_t c6 h
            refine lv_aload_n hx hb dX4_howMany_28 rfl (lv_at hl 0 rfl) ?_
            refine lv_iload_n hx hb dX4_howMany_29 rfl (lv_at hl 3 rfl) ?_
            refine x_cVi (p_T cI a) (p_T cI a) (fun τ => τ) [] [.int x4] hx hb hml hl.1 hown hts hK hP hD hS hA rfl (c_X4_has l D cI tys ht a σ x4) gX4_howMany_X4_has rfl ⟨rfl, rfl⟩ i_X4_has ⟨Nat.le_of_ble_eq_true rfl, Nat.le_of_ble_eq_true rfl⟩ q_frI (g_T_0 cI a σ) rfl rfl (Nat.le_of_ble_eq_true rfl) ⟨Nat.zero_le _, Nat.zero_le _⟩ dX4_howMany_30 h (fun x8 H locs s7 hP hS h => ?_)
            refine lv_if_eq (tgt := 39) hx hb dX4_howMany_33 (by decide) (fun c9 => ?_) (fun c9 => ?_)
            · have h := if_t c9 h
              refine x_iinc (k := 3) (w := 1) hx hb dX4_howMany_39 hl rfl (by decide +kernel) (by decide) (fun v9 => [(3, .int v9), (0, .ref (a 0)), (1, .int x2), (2, .int x3)]) (fun v9 => rfl) h (fun x10 ls hl h => ?_)
              have hl : lv_has ls 4 [(3, .int x10), (0, .ref (a 0)), (1, .int x2), (2, .int x3)] := hl
              refine lv_goto (tgt := 4) hx hb dX4_howMany_42 (by decide) ?_
              exact i4 s7 x2 x3 x10 _ _ _ h hP hS (lv_sub hl [1, 2, 3, 0] rfl)
            · have h := if_f c9 h
              refine x_iinc (k := 2) (w := 1) hx hb dX4_howMany_36 hl rfl (by decide +kernel) (by decide) (fun v9 => [(2, .int v9), (0, .ref (a 0)), (1, .int x2), (3, .int x4)]) (fun v9 => rfl) h (fun x11 ls hl h => ?_)
              have hl : lv_has ls 4 [(2, .int x11), (0, .ref (a 0)), (1, .int x2), (3, .int x4)] := hl
              refine x_iinc (k := 3) (w := 1) hx hb dX4_howMany_39 hl rfl (by decide +kernel) (by decide) (fun v9 => [(3, .int v9), (2, .int x11), (0, .ref (a 0)), (1, .int x2)]) (fun v9 => rfl) h (fun x12 ls hl h => ?_)
              have hl : lv_has ls 4 [(3, .int x12), (2, .int x11), (0, .ref (a 0)), (1, .int x2)] := hl
              refine lv_goto (tgt := 4) hx hb dX4_howMany_42 (by decide) ?_
              exact i4 s7 x2 x11 x12 _ _ _ h hP hS (lv_sub hl [2, 3, 1, 0] rfl)
          · have h := if_f c6 h
            refine lv_aload_n hx hb dX4_howMany_14 rfl (lv_at hl 0 rfl) ?_
            refine x_getr (C := RX4) (k := 0) hx hb hts u_X4_howMany_4 hown hK hP (g_T_0 cI a σ) rfl (by decide) ⟨rfl, rfl, rfl⟩ k_X4_howMany_f9 rfl dX4_howMany_15 ?_
            refine lv_iload_n hx hb dX4_howMany_18 rfl (lv_at hl 3 rfl) ?_
            refine x_iald (t0 := 0) hx hb hK hP ht h (g_T_1 cI a σ) dX4_howMany_19 (fun x13 h => ?_)
            refine lv_bipush (v := 16) hx hb dX4_howMany_20 (by decide +kernel) ?_
            refine lv_icmp_ne (tgt := 39) hx hb dX4_howMany_22 (by decide) (fun c14 => ?_) (fun c14 => ?_)
            · have h := if_f c14 h
              refine x_iinc (k := 3) (w := 1) hx hb dX4_howMany_39 hl rfl (by decide +kernel) (by decide) (fun v9 => [(3, .int v9), (0, .ref (a 0)), (1, .int x2), (2, .int x3)]) (fun v9 => rfl) h (fun x15 ls hl h => ?_)
              have hl : lv_has ls 4 [(3, .int x15), (0, .ref (a 0)), (1, .int x2), (2, .int x3)] := hl
              refine lv_goto (tgt := 4) hx hb dX4_howMany_42 (by decide) ?_
              exact i4 σ x2 x3 x15 _ _ _ h hP hS (lv_sub hl [1, 2, 3, 0] rfl)
            · have h := if_t c14 h
              refine lv_goto (tgt := 36) hx hb dX4_howMany_25 (by decide) ?_
              refine x_iinc (k := 2) (w := 1) hx hb dX4_howMany_36 hl rfl (by decide +kernel) (by decide) (fun v9 => [(2, .int v9), (0, .ref (a 0)), (1, .int x2), (3, .int x4)]) (fun v9 => rfl) h (fun x16 ls hl h => ?_)
              have hl : lv_has ls 4 [(2, .int x16), (0, .ref (a 0)), (1, .int x2), (3, .int x4)] := hl
              refine x_iinc (k := 3) (w := 1) hx hb dX4_howMany_39 hl rfl (by decide +kernel) (by decide) (fun v9 => [(3, .int v9), (2, .int x16), (0, .ref (a 0)), (1, .int x2)]) (fun v9 => rfl) h (fun x17 ls hl h => ?_)
              have hl : lv_has ls 4 [(3, .int x17), (2, .int x16), (0, .ref (a 0)), (1, .int x2)] := hl
              refine lv_goto (tgt := 4) hx hb dX4_howMany_42 (by decide) ?_
              exact i4 σ x2 x16 x17 _ _ _ h hP hS (lv_sub hl [2, 3, 1, 0] rfl)
  have i4 : ∀ (σ : qM) (x2 x3 x4 : Int32) (H : Heap) (locs : List Loc) (ls : Array Slot), q_lim (D_X4_howMany) 0 σ [x2, x3, x4] = some qq → va_P D vwCl (p_T cI a σ) H → va_S A s.heap H locs → lv_has ls 4 [(0, .ref (a 0)), (1, .int x2), (2, .int x3), (3, .int x4)] → W p l e ({ frames := 1, cells := 0, slots := 0, locals := 21 }) s m [.ref (a 0), .int x1].toArray below meth c H locs 0 0 (MQ below (va_Qi (fun r τ => (r, τ) = qq) (fun τ t => va_P D vwCl ((p_T cI a) τ) t.heap) A) [.ref (a 0), .int x1].toArray s 0 0 A) (F0 m 4 ls []) := by
    intro σ x2 x3 x4 H locs ls h hP hS hl
    obtain ⟨k9, h⟩ := q_lim_n h
    exact (main k9) σ x2 x3 x4 H locs ls h hP hS hl
  have h : e_X4_howMany (q_lim (D_X4_howMany)) σ x1 = some qq := h
  unfold e_X4_howMany at h
  refine lv_iconst (v := 0) hx hb dX4_howMany_0 (by decide +kernel) ?_
  refine lv_istore_n (lv' := [(2, .int 0), (0, .ref (a 0)), (1, .int x1)]) hx hb dX4_howMany_1 rfl hl (by decide) rfl (fun ls hl => ?_)
  refine lv_iconst (v := 0) hx hb dX4_howMany_2 (by decide +kernel) ?_
  refine lv_istore_n (lv' := [(3, .int 0), (2, .int 0), (0, .ref (a 0)), (1, .int x1)]) hx hb dX4_howMany_3 rfl hl (by decide) rfl (fun ls hl => ?_)
  exact i4 σ x1 0 0 _ _ _ h hP hS (lv_sub hl [2, 3, 1, 0] rfl)
/-! ===== VectorRounds$Tables.howManyDiffer(LVectorRounds$Tables;)I: world TT ===== -/
theorem i_X4_howManyDiffer : yX4_howManyDiffer.cls = RX4 ∧ yX4_howManyDiffer.cls ≠ "java/lang/invoke/MethodHandle" ∧ yX4_howManyDiffer.cls ≠ "java/lang/invoke/VarHandle" ∧ (parseMethodDescriptor yX4_howManyDiffer.desc).map (fun d => d.parameters.length) = some 1 := by decide +kernel
theorem k_X4_howManyDiffer_f15 : Cond.fieldLink RX4 15 RX4 "via" "[I" ∈ wsX4_howManyDiffer := by decide +kernel
theorem k_X4_howManyDiffer_f9 : Cond.fieldLink RX4 9 RX4 "metric" "[I" ∈ wsX4_howManyDiffer := by decide +kernel
theorem u_X4_howManyDiffer_4 : ∀ w ∈ u_ws RX4 TX4 6, w ∈ wsX4_howManyDiffer := by decide +kernel
set_option maxHeartbeats 4000000 in
set_option maxRecDepth 100000 in
theorem c_X4_howManyDiffer (l : Launch) (D : va_G) (cI : ClassId) (tys : List (ClassId × FieldType)) (ht : tys[0]? = some (cI, .int)) (a : Nat → Nat) (σ : qM) : q_Met l yX4_howManyDiffer wsX4_howManyDiffer ({ frames := 0, cells := 0, slots := 0, locals := 0 }) [.ref (a 0), .ref (a 7)] D tys (p_TT cI a) σ (f_X4_howManyDiffer σ) := by
  refine x_ofWi (cc := cX4_howManyDiffer) (maxL := 4) (ret := (some .int)) (by decide +kernel) rfl (pf_TT cI a) (Nat.le_of_ble_eq_true rfl) ?_
  intro p e s m below meth c A ls qq h hx hb hml hr hlocks hown hts hK hP hD hA hS hl
  have hown : s.vm.findClass RX4 = some m.cls := hown
  have hl : lv_has ls 4 [(0, .ref (a 0)), (1, .ref (a 7))] := hl
  have main : ∀ k9 : Nat, (∀ (σ : qM) (x1 x2 : Int32) (H : Heap) (locs : List Loc) (ls : Array Slot), q_it (D_X4_howManyDiffer) k9 0 σ [x1, x2] = some qq → va_P D vwCl (p_TT cI a σ) H → va_S A s.heap H locs → lv_has ls 4 [(0, .ref (a 0)), (1, .ref (a 7)), (2, .int x1), (3, .int x2)] → W p l e ({ frames := 0, cells := 0, slots := 0, locals := 0 }) s m [.ref (a 0), .ref (a 7)].toArray below meth c H locs 0 0 (MQ below (va_Qi (fun r τ => (r, τ) = qq) (fun τ t => va_P D vwCl ((p_TT cI a) τ) t.heap) A) [.ref (a 0), .ref (a 7)].toArray s 0 0 A) (F0 m 4 ls [])) := by
    intro k9
    induction k9 with
    | zero => exact (fun _ _ _ _ _ _ h _ _ _ => (q_no (show (none : qR) = some qq from h)).elim)
    | succ k9 ih =>
      have i4 := ih
      refine ?_
      · intro σ x1 x2 H locs ls h hP hS hl
        have h : b_X4_howManyDiffer_4 (q_it (D_X4_howManyDiffer) k9) σ x1 x2 = some qq := h
        unfold b_X4_howManyDiffer_4 at h
        refine lv_iload_n hx hb dX4_howManyDiffer_4 rfl (lv_at hl 3 rfl) ?_
        refine lv_bipush (v := 100) hx hb dX4_howManyDiffer_5 (by decide +kernel) ?_
        refine lv_icmp_ge (tgt := 49) hx hb dX4_howManyDiffer_7 (by decide) (fun c3 => ?_) (fun c3 => ?_)
        · have h := if_t c3 h
          refine lv_iload_n hx hb dX4_howManyDiffer_49 rfl (lv_at hl 2 rfl) ?_
          exact x_iret (p_TT cI a) hx hb hr hlocks hP hS dX4_howManyDiffer_50 h
        · have h := if_f c3 h
          refine lv_aload_n hx hb dX4_howManyDiffer_10 rfl (lv_at hl 0 rfl) ?_
          refine x_getr (C := RX4) (k := 0) hx hb hts u_X4_howManyDiffer_4 hown hK hP (g_TT_0 cI a σ) rfl (by decide) ⟨rfl, rfl, rfl⟩ k_X4_howManyDiffer_f9 rfl dX4_howManyDiffer_11 ?_
          refine lv_iload_n hx hb dX4_howManyDiffer_14 rfl (lv_at hl 3 rfl) ?_
          refine x_iald (t0 := 0) hx hb hK hP ht h (g_TT_1 cI a σ) dX4_howManyDiffer_15 (fun x4 h => ?_)
          refine lv_aload_n hx hb dX4_howManyDiffer_16 rfl (lv_at hl 1 rfl) ?_
          refine x_getr (C := RX4) (k := 0) hx hb hts u_X4_howManyDiffer_4 hown hK hP (g_TT_7 cI a σ) rfl (by decide) ⟨rfl, rfl, rfl⟩ k_X4_howManyDiffer_f9 rfl dX4_howManyDiffer_17 ?_
          refine lv_iload_n hx hb dX4_howManyDiffer_20 rfl (lv_at hl 3 rfl) ?_
          refine x_iald (t0 := 0) hx hb hK hP ht h (g_TT_8 cI a σ) dX4_howManyDiffer_21 (fun x5 h => ?_)
          refine lv_icmp_ne (tgt := 40) hx hb dX4_howManyDiffer_22 (by decide) (fun c6 => ?_) (fun c6 => ?_)
          · have h := if_f c6 h
            refine x_iinc (k := 2) (w := 1) hx hb dX4_howManyDiffer_40 hl rfl (by decide +kernel) (by decide) (fun v9 => [(2, .int v9), (0, .ref (a 0)), (1, .ref (a 7)), (3, .int x2)]) (fun v9 => rfl) h (fun x7 ls hl h => ?_)
            have hl : lv_has ls 4 [(2, .int x7), (0, .ref (a 0)), (1, .ref (a 7)), (3, .int x2)] := hl
            refine x_iinc (k := 3) (w := 1) hx hb dX4_howManyDiffer_43 hl rfl (by decide +kernel) (by decide) (fun v9 => [(3, .int v9), (2, .int x7), (0, .ref (a 0)), (1, .ref (a 7))]) (fun v9 => rfl) h (fun x8 ls hl h => ?_)
            have hl : lv_has ls 4 [(3, .int x8), (2, .int x7), (0, .ref (a 0)), (1, .ref (a 7))] := hl
            refine lv_goto (tgt := 4) hx hb dX4_howManyDiffer_46 (by decide) ?_
            exact i4 σ x7 x8 _ _ _ h hP hS (lv_sub hl [2, 3, 1, 0] rfl)
          · have h := if_t c6 h
            refine lv_aload_n hx hb dX4_howManyDiffer_25 rfl (lv_at hl 0 rfl) ?_
            refine x_getr (C := RX4) (k := 1) hx hb hts u_X4_howManyDiffer_4 hown hK hP (g_TT_0 cI a σ) rfl (by decide) ⟨rfl, rfl, rfl⟩ k_X4_howManyDiffer_f15 rfl dX4_howManyDiffer_26 ?_
            refine lv_iload_n hx hb dX4_howManyDiffer_29 rfl (lv_at hl 3 rfl) ?_
            refine x_iald (t0 := 0) hx hb hK hP ht h (g_TT_2 cI a σ) dX4_howManyDiffer_30 (fun x9 h => ?_)
            refine lv_aload_n hx hb dX4_howManyDiffer_31 rfl (lv_at hl 1 rfl) ?_
            refine x_getr (C := RX4) (k := 1) hx hb hts u_X4_howManyDiffer_4 hown hK hP (g_TT_7 cI a σ) rfl (by decide) ⟨rfl, rfl, rfl⟩ k_X4_howManyDiffer_f15 rfl dX4_howManyDiffer_32 ?_
            refine lv_iload_n hx hb dX4_howManyDiffer_35 rfl (lv_at hl 3 rfl) ?_
            refine x_iald (t0 := 0) hx hb hK hP ht h (g_TT_9 cI a σ) dX4_howManyDiffer_36 (fun x10 h => ?_)
            refine lv_icmp_eq (tgt := 43) hx hb dX4_howManyDiffer_37 (by decide) (fun c11 => ?_) (fun c11 => ?_)
            · have h := if_t c11 h
              refine x_iinc (k := 3) (w := 1) hx hb dX4_howManyDiffer_43 hl rfl (by decide +kernel) (by decide) (fun v9 => [(3, .int v9), (0, .ref (a 0)), (1, .ref (a 7)), (2, .int x1)]) (fun v9 => rfl) h (fun x12 ls hl h => ?_)
              have hl : lv_has ls 4 [(3, .int x12), (0, .ref (a 0)), (1, .ref (a 7)), (2, .int x1)] := hl
              refine lv_goto (tgt := 4) hx hb dX4_howManyDiffer_46 (by decide) ?_
              exact i4 σ x1 x12 _ _ _ h hP hS (lv_sub hl [1, 2, 3, 0] rfl)
            · have h := if_f c11 h
              refine x_iinc (k := 2) (w := 1) hx hb dX4_howManyDiffer_40 hl rfl (by decide +kernel) (by decide) (fun v9 => [(2, .int v9), (0, .ref (a 0)), (1, .ref (a 7)), (3, .int x2)]) (fun v9 => rfl) h (fun x13 ls hl h => ?_)
              have hl : lv_has ls 4 [(2, .int x13), (0, .ref (a 0)), (1, .ref (a 7)), (3, .int x2)] := hl
              refine x_iinc (k := 3) (w := 1) hx hb dX4_howManyDiffer_43 hl rfl (by decide +kernel) (by decide) (fun v9 => [(3, .int v9), (2, .int x13), (0, .ref (a 0)), (1, .ref (a 7))]) (fun v9 => rfl) h (fun x14 ls hl h => ?_)
              have hl : lv_has ls 4 [(3, .int x14), (2, .int x13), (0, .ref (a 0)), (1, .ref (a 7))] := hl
              refine lv_goto (tgt := 4) hx hb dX4_howManyDiffer_46 (by decide) ?_
              exact i4 σ x13 x14 _ _ _ h hP hS (lv_sub hl [2, 3, 1, 0] rfl)
  have i4 : ∀ (σ : qM) (x1 x2 : Int32) (H : Heap) (locs : List Loc) (ls : Array Slot), q_lim (D_X4_howManyDiffer) 0 σ [x1, x2] = some qq → va_P D vwCl (p_TT cI a σ) H → va_S A s.heap H locs → lv_has ls 4 [(0, .ref (a 0)), (1, .ref (a 7)), (2, .int x1), (3, .int x2)] → W p l e ({ frames := 0, cells := 0, slots := 0, locals := 0 }) s m [.ref (a 0), .ref (a 7)].toArray below meth c H locs 0 0 (MQ below (va_Qi (fun r τ => (r, τ) = qq) (fun τ t => va_P D vwCl ((p_TT cI a) τ) t.heap) A) [.ref (a 0), .ref (a 7)].toArray s 0 0 A) (F0 m 4 ls []) := by
    intro σ x1 x2 H locs ls h hP hS hl
    obtain ⟨k9, h⟩ := q_lim_n h
    exact (main k9) σ x1 x2 H locs ls h hP hS hl
  have h : e_X4_howManyDiffer (q_lim (D_X4_howManyDiffer)) σ = some qq := h
  unfold e_X4_howManyDiffer at h
  refine lv_iconst (v := 0) hx hb dX4_howManyDiffer_0 (by decide +kernel) ?_
  refine lv_istore_n (lv' := [(2, .int 0), (0, .ref (a 0)), (1, .ref (a 7))]) hx hb dX4_howManyDiffer_1 rfl hl (by decide) rfl (fun ls hl => ?_)
  refine lv_iconst (v := 0) hx hb dX4_howManyDiffer_2 (by decide +kernel) ?_
  refine lv_istore_n (lv' := [(3, .int 0), (2, .int 0), (0, .ref (a 0)), (1, .ref (a 7))]) hx hb dX4_howManyDiffer_3 rfl hl (by decide) rfl (fun ls hl => ?_)
  exact i4 σ 0 0 _ _ _ h hP hS (lv_sub hl [2, 3, 1, 0] rfl)
/-! ===== VectorRounds$Tables.become(LVectorRounds$Tables;)V: world TT ===== -/
theorem i_X4_become : yX4_become.cls = RX4 ∧ yX4_become.cls ≠ "java/lang/invoke/MethodHandle" ∧ yX4_become.cls ≠ "java/lang/invoke/VarHandle" ∧ (parseMethodDescriptor yX4_become.desc).map (fun d => d.parameters.length) = some 1 := by decide +kernel
theorem k_X4_become_f15 : Cond.fieldLink RX4 15 RX4 "via" "[I" ∈ wsX4_become := by decide +kernel
theorem k_X4_become_f18 : Cond.fieldLink RX4 18 RX4 "sequence" "[I" ∈ wsX4_become := by decide +kernel
theorem k_X4_become_f21 : Cond.fieldLink RX4 21 RX4 "held" "[I" ∈ wsX4_become := by decide +kernel
theorem k_X4_become_f24 : Cond.fieldLink RX4 24 RX4 "order" "[I" ∈ wsX4_become := by decide +kernel
theorem k_X4_become_f27 : Cond.fieldLink RX4 27 RX4 "size" "[I" ∈ wsX4_become := by decide +kernel
theorem k_X4_become_f9 : Cond.fieldLink RX4 9 RX4 "metric" "[I" ∈ wsX4_become := by decide +kernel
theorem k_X4_become_m36 : Cond.methodLink RX4 36 arraycopyName ∈ wsX4_become ∧ Cond.native arraycopyName ∈ wsX4_become ∧ Cond.static arraycopyName ∈ wsX4_become ∧ Cond.initialized "java/lang/System" ∈ wsX4_become := by decide +kernel
theorem u_X4_become_4 : ∀ w ∈ u_ws RX4 TX4 6, w ∈ wsX4_become := by decide +kernel
set_option maxHeartbeats 4000000 in
set_option maxRecDepth 100000 in
theorem c_X4_become (l : Launch) (D : va_G) (cI : ClassId) (tys : List (ClassId × FieldType)) (ht : tys[0]? = some (cI, .int)) (a : Nat → Nat) (σ : qM) : q_Mev l yX4_become wsX4_become ({ frames := 1, cells := 0, slots := 0, locals := 60 }) [.ref (a 0), .ref (a 7)] D tys (p_TT cI a) σ (f_X4_become σ) := by
  refine x_ofWv (cc := cX4_become) (maxL := 2) (ret := none) (by decide +kernel) rfl (pf_TT cI a) (Nat.le_of_ble_eq_true rfl) ?_
  intro p e s m below meth c A ls qq h hx hb hml hr hlocks hown hts hK hP hD hA hS hl
  have hown : s.vm.findClass RX4 = some m.cls := hown
  have hl : lv_has ls 2 [(0, .ref (a 0)), (1, .ref (a 7))] := hl
  unfold f_X4_become at h
  refine lv_aload_n hx hb dX4_become_0 rfl (lv_at hl 1 rfl) ?_
  refine x_getr (C := RX4) (k := 0) hx hb hts u_X4_become_4 hown hK hP (g_TT_7 cI a σ) rfl (by decide) ⟨rfl, rfl, rfl⟩ k_X4_become_f9 rfl dX4_become_1 ?_
  refine lv_iconst (v := 0) hx hb dX4_become_4 (by decide +kernel) ?_
  refine lv_aload_n hx hb dX4_become_5 rfl (lv_at hl 0 rfl) ?_
  refine x_getr (C := RX4) (k := 0) hx hb hts u_X4_become_4 hown hK hP (g_TT_0 cI a σ) rfl (by decide) ⟨rfl, rfl, rfl⟩ k_X4_become_f9 rfl dX4_become_6 ?_
  refine lv_iconst (v := 0) hx hb dX4_become_9 (by decide +kernel) ?_
  refine lv_bipush (v := 100) hx hb dX4_become_10 (by decide +kernel) ?_
  refine x_copy (p_TT cI a) 100 (t0 := 0) hx hb (hml.trans hl.1.symm) hown hts hK hP hD hS k_X4_become_m36 ht h (g_TT_8 cI a σ) (g_TT_1 cI a σ) (by decide +kernel) (fun g9 => (s_TT_1 cI a σ g9)) ⟨Nat.le_of_ble_eq_true rfl, by decide +kernel⟩ dX4_become_12 (fun H locs s1 hP hS h => ?_)
  refine lv_aload_n hx hb dX4_become_15 rfl (lv_at hl 1 rfl) ?_
  refine x_getr (C := RX4) (k := 1) hx hb hts u_X4_become_4 hown hK hP (g_TT_7 cI a s1) rfl (by decide) ⟨rfl, rfl, rfl⟩ k_X4_become_f15 rfl dX4_become_16 ?_
  refine lv_iconst (v := 0) hx hb dX4_become_19 (by decide +kernel) ?_
  refine lv_aload_n hx hb dX4_become_20 rfl (lv_at hl 0 rfl) ?_
  refine x_getr (C := RX4) (k := 1) hx hb hts u_X4_become_4 hown hK hP (g_TT_0 cI a s1) rfl (by decide) ⟨rfl, rfl, rfl⟩ k_X4_become_f15 rfl dX4_become_21 ?_
  refine lv_iconst (v := 0) hx hb dX4_become_24 (by decide +kernel) ?_
  refine lv_bipush (v := 100) hx hb dX4_become_25 (by decide +kernel) ?_
  refine x_copy (p_TT cI a) 100 (t0 := 0) hx hb (hml.trans hl.1.symm) hown hts hK hP hD hS k_X4_become_m36 ht h (g_TT_9 cI a s1) (g_TT_2 cI a s1) (by decide +kernel) (fun g9 => (s_TT_2 cI a s1 g9)) ⟨Nat.le_of_ble_eq_true rfl, by decide +kernel⟩ dX4_become_27 (fun H locs s2 hP hS h => ?_)
  refine lv_aload_n hx hb dX4_become_30 rfl (lv_at hl 1 rfl) ?_
  refine x_getr (C := RX4) (k := 2) hx hb hts u_X4_become_4 hown hK hP (g_TT_7 cI a s2) rfl (by decide) ⟨rfl, rfl, rfl⟩ k_X4_become_f18 rfl dX4_become_31 ?_
  refine lv_iconst (v := 0) hx hb dX4_become_34 (by decide +kernel) ?_
  refine lv_aload_n hx hb dX4_become_35 rfl (lv_at hl 0 rfl) ?_
  refine x_getr (C := RX4) (k := 2) hx hb hts u_X4_become_4 hown hK hP (g_TT_0 cI a s2) rfl (by decide) ⟨rfl, rfl, rfl⟩ k_X4_become_f18 rfl dX4_become_36 ?_
  refine lv_iconst (v := 0) hx hb dX4_become_39 (by decide +kernel) ?_
  refine lv_bipush (v := 100) hx hb dX4_become_40 (by decide +kernel) ?_
  refine x_copy (p_TT cI a) 100 (t0 := 0) hx hb (hml.trans hl.1.symm) hown hts hK hP hD hS k_X4_become_m36 ht h (g_TT_10 cI a s2) (g_TT_3 cI a s2) (by decide +kernel) (fun g9 => (s_TT_3 cI a s2 g9)) ⟨Nat.le_of_ble_eq_true rfl, by decide +kernel⟩ dX4_become_42 (fun H locs s3 hP hS h => ?_)
  refine lv_aload_n hx hb dX4_become_45 rfl (lv_at hl 1 rfl) ?_
  refine x_getr (C := RX4) (k := 3) hx hb hts u_X4_become_4 hown hK hP (g_TT_7 cI a s3) rfl (by decide) ⟨rfl, rfl, rfl⟩ k_X4_become_f21 rfl dX4_become_46 ?_
  refine lv_iconst (v := 0) hx hb dX4_become_49 (by decide +kernel) ?_
  refine lv_aload_n hx hb dX4_become_50 rfl (lv_at hl 0 rfl) ?_
  refine x_getr (C := RX4) (k := 3) hx hb hts u_X4_become_4 hown hK hP (g_TT_0 cI a s3) rfl (by decide) ⟨rfl, rfl, rfl⟩ k_X4_become_f21 rfl dX4_become_51 ?_
  refine lv_iconst (v := 0) hx hb dX4_become_54 (by decide +kernel) ?_
  refine lv_bipush (v := 100) hx hb dX4_become_55 (by decide +kernel) ?_
  refine x_copy (p_TT cI a) 100 (t0 := 0) hx hb (hml.trans hl.1.symm) hown hts hK hP hD hS k_X4_become_m36 ht h (g_TT_11 cI a s3) (g_TT_4 cI a s3) (by decide +kernel) (fun g9 => (s_TT_4 cI a s3 g9)) ⟨Nat.le_of_ble_eq_true rfl, by decide +kernel⟩ dX4_become_57 (fun H locs s4 hP hS h => ?_)
  refine lv_aload_n hx hb dX4_become_60 rfl (lv_at hl 1 rfl) ?_
  refine x_getr (C := RX4) (k := 4) hx hb hts u_X4_become_4 hown hK hP (g_TT_7 cI a s4) rfl (by decide) ⟨rfl, rfl, rfl⟩ k_X4_become_f24 rfl dX4_become_61 ?_
  refine lv_iconst (v := 0) hx hb dX4_become_64 (by decide +kernel) ?_
  refine lv_aload_n hx hb dX4_become_65 rfl (lv_at hl 0 rfl) ?_
  refine x_getr (C := RX4) (k := 4) hx hb hts u_X4_become_4 hown hK hP (g_TT_0 cI a s4) rfl (by decide) ⟨rfl, rfl, rfl⟩ k_X4_become_f24 rfl dX4_become_66 ?_
  refine lv_iconst (v := 0) hx hb dX4_become_69 (by decide +kernel) ?_
  refine lv_bipush (v := 100) hx hb dX4_become_70 (by decide +kernel) ?_
  refine x_copy (p_TT cI a) 100 (t0 := 0) hx hb (hml.trans hl.1.symm) hown hts hK hP hD hS k_X4_become_m36 ht h (g_TT_12 cI a s4) (g_TT_5 cI a s4) (by decide +kernel) (fun g9 => (s_TT_5 cI a s4 g9)) ⟨Nat.le_of_ble_eq_true rfl, by decide +kernel⟩ dX4_become_72 (fun H locs s5 hP hS h => ?_)
  refine lv_aload_n hx hb dX4_become_75 rfl (lv_at hl 1 rfl) ?_
  refine x_getr (C := RX4) (k := 5) hx hb hts u_X4_become_4 hown hK hP (g_TT_7 cI a s5) rfl (by decide) ⟨rfl, rfl, rfl⟩ k_X4_become_f27 rfl dX4_become_76 ?_
  refine lv_iconst (v := 0) hx hb dX4_become_79 (by decide +kernel) ?_
  refine lv_aload_n hx hb dX4_become_80 rfl (lv_at hl 0 rfl) ?_
  refine x_getr (C := RX4) (k := 5) hx hb hts u_X4_become_4 hown hK hP (g_TT_0 cI a s5) rfl (by decide) ⟨rfl, rfl, rfl⟩ k_X4_become_f27 rfl dX4_become_81 ?_
  refine lv_iconst (v := 0) hx hb dX4_become_84 (by decide +kernel) ?_
  refine lv_bipush (v := 10) hx hb dX4_become_85 (by decide +kernel) ?_
  refine x_copy (p_TT cI a) 10 (t0 := 0) hx hb (hml.trans hl.1.symm) hown hts hK hP hD hS k_X4_become_m36 ht h (g_TT_13 cI a s5) (g_TT_6 cI a s5) (by decide +kernel) (fun g9 => (s_TT_6 cI a s5 g9)) ⟨Nat.le_of_ble_eq_true rfl, by decide +kernel⟩ dX4_become_87 (fun H locs s6 hP hS h => ?_)
  exact x_vret (p_TT cI a) hx hb hr hlocks hP hS dX4_become_90 h
/-! ===== VectorRounds$Links.joining(II)I: world L ===== -/
theorem i_X2_joining : yX2_joining.cls = RX2 ∧ yX2_joining.cls ≠ "java/lang/invoke/MethodHandle" ∧ yX2_joining.cls ≠ "java/lang/invoke/VarHandle" ∧ (parseMethodDescriptor yX2_joining.desc).map (fun d => d.parameters.length) = some 2 := by decide +kernel
theorem k_X2_joining_f24 : Cond.fieldLink RX2 24 RX2 "joint" "[I" ∈ wsX2_joining := by decide +kernel
theorem u_X2_joining_2 : ∀ w ∈ u_ws RX2 TX2 6, w ∈ wsX2_joining := by decide +kernel
set_option maxHeartbeats 4000000 in
set_option maxRecDepth 100000 in
theorem c_X2_joining (l : Launch) (D : va_G) (cI : ClassId) (tys : List (ClassId × FieldType)) (ht : tys[0]? = some (cI, .int)) (a : Nat → Nat) (σ : qM) (x1 : Int32) (x2 : Int32) : q_Met l yX2_joining wsX2_joining ({ frames := 0, cells := 0, slots := 0, locals := 0 }) [.ref (a 0), .int x1, .int x2] D tys (p_L cI a) σ (f_X2_joining σ x1 x2) := by
  refine x_ofWi (cc := cX2_joining) (maxL := 3) (ret := (some .int)) (by decide +kernel) rfl (pf_L cI a) (Nat.le_of_ble_eq_true rfl) ?_
  intro p e s m below meth c A ls qq h hx hb hml hr hlocks hown hts hK hP hD hA hS hl
  have hown : s.vm.findClass RX2 = some m.cls := hown
  have hl : lv_has ls 3 [(0, .ref (a 0)), (1, .int x1), (2, .int x2)] := hl
  unfold f_X2_joining at h
  refine lv_aload_n hx hb dX2_joining_0 rfl (lv_at hl 0 rfl) ?_
  refine x_getr (C := RX2) (k := 4) hx hb hts u_X2_joining_2 hown hK hP (g_L_0 cI a σ) rfl (by decide) ⟨rfl, rfl, rfl⟩ k_X2_joining_f24 rfl dX2_joining_1 ?_
  refine lv_iload_n hx hb dX2_joining_4 rfl (lv_at hl 1 rfl) ?_
  refine lv_bipush (v := 10) hx hb dX2_joining_5 (by decide +kernel) ?_
  refine x_imul hx hb dX2_joining_7 h (fun x3 h => ?_)
  refine lv_iload_n hx hb dX2_joining_8 rfl (lv_at hl 2 rfl) ?_
  refine x_iadd hx hb dX2_joining_9 h (fun x4 h => ?_)
  refine x_iald (t0 := 0) hx hb hK hP ht h (g_L_5 cI a σ) dX2_joining_10 (fun x5 h => ?_)
  refine lv_iconst (v := 1) hx hb dX2_joining_11 (by decide +kernel) ?_
  refine x_isub hx hb dX2_joining_12 h (fun x6 h => ?_)
  exact x_iret (p_L cI a) hx hb hr hlocks hP hS dX2_joining_13 h
/-! ===== VectorRounds$Links.add(III)I: world L ===== -/
theorem i_X2_add : yX2_add.cls = RX2 ∧ yX2_add.cls ≠ "java/lang/invoke/MethodHandle" ∧ yX2_add.cls ≠ "java/lang/invoke/VarHandle" ∧ (parseMethodDescriptor yX2_add.desc).map (fun d => d.parameters.length) = some 3 := by decide +kernel
theorem k_X2_add_f15 : Cond.fieldLink RX2 15 RX2 "greater" "[I" ∈ wsX2_add := by decide +kernel
theorem k_X2_add_f18 : Cond.fieldLink RX2 18 RX2 "price" "[I" ∈ wsX2_add := by decide +kernel
theorem k_X2_add_f21 : Cond.fieldLink RX2 21 RX2 "up" "[I" ∈ wsX2_add := by decide +kernel
theorem k_X2_add_f24 : Cond.fieldLink RX2 24 RX2 "joint" "[I" ∈ wsX2_add := by decide +kernel
theorem k_X2_add_f33 : Cond.fieldLink RX2 33 RX2 "size" "I" ∈ wsX2_add := by decide +kernel
theorem k_X2_add_f9 : Cond.fieldLink RX2 9 RX2 "lesser" "[I" ∈ wsX2_add := by decide +kernel
theorem k_X2_add_m37 : Cond.methodLink RX2 37 Lib.Math.min.name ∈ wsX2_add ∧ Cond.static Lib.Math.min.name ∈ wsX2_add ∧ Cond.initialized "java/lang/Math" ∈ wsX2_add ∧ Cond.code Lib.Math.min.name Lib.Math.min.code 2 (some .int) ∈ wsX2_add := by decide +kernel
theorem k_X2_add_m43 : Cond.methodLink RX2 43 Lib.Math.max.name ∈ wsX2_add ∧ Cond.static Lib.Math.max.name ∈ wsX2_add ∧ Cond.initialized "java/lang/Math" ∈ wsX2_add ∧ Cond.code Lib.Math.max.name Lib.Math.max.code 2 (some .int) ∈ wsX2_add := by decide +kernel
theorem u_X2_add_2 : ∀ w ∈ u_ws RX2 TX2 6, w ∈ wsX2_add := by decide +kernel
set_option maxHeartbeats 4000000 in
set_option maxRecDepth 100000 in
theorem c_X2_add (l : Launch) (D : va_G) (cI : ClassId) (tys : List (ClassId × FieldType)) (ht : tys[0]? = some (cI, .int)) (a : Nat → Nat) (σ : qM) (x1 : Int32) (x2 : Int32) (x3 : Int32) : q_Met l yX2_add wsX2_add ({ frames := 1, cells := 0, slots := 0, locals := 40 }) [.ref (a 0), .int x1, .int x2, .int x3] D tys (p_L cI a) σ (f_X2_add σ x1 x2 x3) := by
  refine x_ofWi (cc := cX2_add) (maxL := 5) (ret := (some .int)) (by decide +kernel) rfl (pf_L cI a) (Nat.le_of_ble_eq_true rfl) ?_
  intro p e s m below meth c A ls qq h hx hb hml hr hlocks hown hts hK hP hD hA hS hl
  have hown : s.vm.findClass RX2 = some m.cls := hown
  have hl : lv_has ls 5 [(0, .ref (a 0)), (1, .int x1), (2, .int x2), (3, .int x3)] := hl
  unfold f_X2_add at h
  refine lv_aload_n hx hb dX2_add_0 rfl (lv_at hl 0 rfl) ?_
  refine x_geti (C := RX2) (k := 5) hx hb hts u_X2_add_2 hown hK hP (g_L_0 cI a σ) rfl (by decide) ⟨rfl, rfl, rfl⟩ k_X2_add_f33 rfl dX2_add_1 h (fun x4 h => ?_)
  refine lv_istore (lv' := [(4, .int x4), (0, .ref (a 0)), (1, .int x1), (2, .int x2), (3, .int x3)]) hx hb dX2_add_4 hl (by decide) rfl (fun ls hl => ?_)
  refine lv_aload_n hx hb dX2_add_6 rfl (lv_at hl 1 rfl) ?_
  refine x_getr (C := RX2) (k := 0) hx hb hts u_X2_add_2 hown hK hP (g_L_0 cI a σ) rfl (by decide) ⟨rfl, rfl, rfl⟩ k_X2_add_f9 rfl dX2_add_7 ?_
  refine lv_iload hx hb dX2_add_10 (lv_at hl 0 rfl) ?_
  refine lv_iload_n hx hb dX2_add_12 rfl (lv_at hl 2 rfl) ?_
  refine lv_iload_n hx hb dX2_add_13 rfl (lv_at hl 3 rfl) ?_
  refine x_mmin hx hb (hml.trans hl.1.symm) hown hts k_X2_add_m37 ⟨Nat.le_of_ble_eq_true rfl, Nat.le_of_ble_eq_true rfl, Nat.zero_le _, Nat.zero_le _⟩ dX2_add_14 h (fun x5 h => ?_)
  refine x_iast (p_L cI a) (t0 := 0) hx hb hK hP hD hS ht h (g_L_1 cI a σ) (fun j9 v9 => (s_L_1 cI a σ _)) dX2_add_17 (fun H locs s6 hP hS h => ?_)
  refine lv_aload_n hx hb dX2_add_18 rfl (lv_at hl 1 rfl) ?_
  refine x_getr (C := RX2) (k := 1) hx hb hts u_X2_add_2 hown hK hP (g_L_0 cI a s6) rfl (by decide) ⟨rfl, rfl, rfl⟩ k_X2_add_f15 rfl dX2_add_19 ?_
  refine lv_iload hx hb dX2_add_22 (lv_at hl 0 rfl) ?_
  refine lv_iload_n hx hb dX2_add_24 rfl (lv_at hl 2 rfl) ?_
  refine lv_iload_n hx hb dX2_add_25 rfl (lv_at hl 3 rfl) ?_
  refine x_mmax hx hb (hml.trans hl.1.symm) hown hts k_X2_add_m43 ⟨Nat.le_of_ble_eq_true rfl, Nat.le_of_ble_eq_true rfl, Nat.zero_le _, Nat.zero_le _⟩ dX2_add_26 h (fun x7 h => ?_)
  refine x_iast (p_L cI a) (t0 := 0) hx hb hK hP hD hS ht h (g_L_2 cI a s6) (fun j9 v9 => (s_L_2 cI a s6 _)) dX2_add_29 (fun H locs s8 hP hS h => ?_)
  refine lv_aload_n hx hb dX2_add_30 rfl (lv_at hl 1 rfl) ?_
  refine x_getr (C := RX2) (k := 2) hx hb hts u_X2_add_2 hown hK hP (g_L_0 cI a s8) rfl (by decide) ⟨rfl, rfl, rfl⟩ k_X2_add_f18 rfl dX2_add_31 ?_
  refine lv_iload hx hb dX2_add_34 (lv_at hl 0 rfl) ?_
  refine lv_iload_n hx hb dX2_add_36 rfl (lv_at hl 4 rfl) ?_
  refine x_iast (p_L cI a) (t0 := 0) hx hb hK hP hD hS ht h (g_L_3 cI a s8) (fun j9 v9 => (s_L_3 cI a s8 _)) dX2_add_37 (fun H locs s9 hP hS h => ?_)
  refine lv_aload_n hx hb dX2_add_38 rfl (lv_at hl 1 rfl) ?_
  refine x_getr (C := RX2) (k := 3) hx hb hts u_X2_add_2 hown hK hP (g_L_0 cI a s9) rfl (by decide) ⟨rfl, rfl, rfl⟩ k_X2_add_f21 rfl dX2_add_39 ?_
  refine lv_iload hx hb dX2_add_42 (lv_at hl 0 rfl) ?_
  refine lv_iconst (v := 1) hx hb dX2_add_44 (by decide +kernel) ?_
  refine x_iast (p_L cI a) (t0 := 0) hx hb hK hP hD hS ht h (g_L_4 cI a s9) (fun j9 v9 => (s_L_4 cI a s9 _)) dX2_add_45 (fun H locs s10 hP hS h => ?_)
  refine lv_aload_n hx hb dX2_add_46 rfl (lv_at hl 1 rfl) ?_
  refine lv_dup hx hb dX2_add_47 rfl ?_
  refine x_geti (C := RX2) (k := 5) hx hb hts u_X2_add_2 hown hK hP (g_L_0 cI a s10) rfl (by decide) ⟨rfl, rfl, rfl⟩ k_X2_add_f33 rfl dX2_add_48 h (fun x11 h => ?_)
  refine lv_iconst (v := 1) hx hb dX2_add_51 (by decide +kernel) ?_
  refine x_iadd hx hb dX2_add_52 h (fun x12 h => ?_)
  refine x_puti (p_L cI a) (C := RX2) (k := 5) hx hb hts u_X2_add_2 tyX2 tyX2_ok nmX2 hown hK hP hD hS h (g_L_0 cI a s10) rfl (by decide) ⟨rfl, rfl, rfl⟩ k_X2_add_f33 rfl rfl rfl rfl (Nat.le_of_ble_eq_true rfl) (s_L_0_5 cI a s10 x12) dX2_add_53 (fun H locs s13 hP hS h => ?_)
  refine lv_aload_n hx hb dX2_add_56 rfl (lv_at hl 1 rfl) ?_
  refine x_getr (C := RX2) (k := 4) hx hb hts u_X2_add_2 hown hK hP (g_L_0 cI a s13) rfl (by decide) ⟨rfl, rfl, rfl⟩ k_X2_add_f24 rfl dX2_add_57 ?_
  refine lv_iload_n hx hb dX2_add_60 rfl (lv_at hl 2 rfl) ?_
  refine lv_bipush (v := 10) hx hb dX2_add_61 (by decide +kernel) ?_
  refine x_imul hx hb dX2_add_63 h (fun x14 h => ?_)
  refine lv_iload_n hx hb dX2_add_64 rfl (lv_at hl 3 rfl) ?_
  refine x_iadd hx hb dX2_add_65 h (fun x15 h => ?_)
  refine lv_aload_n hx hb dX2_add_66 rfl (lv_at hl 1 rfl) ?_
  refine x_geti (C := RX2) (k := 5) hx hb hts u_X2_add_2 hown hK hP (g_L_0 cI a s13) rfl (by decide) ⟨rfl, rfl, rfl⟩ k_X2_add_f33 rfl dX2_add_67 h (fun x16 h => ?_)
  refine x_iast (p_L cI a) (t0 := 0) hx hb hK hP hD hS ht h (g_L_5 cI a s13) (fun j9 v9 => (s_L_5 cI a s13 _)) dX2_add_70 (fun H locs s17 hP hS h => ?_)
  refine lv_aload_n hx hb dX2_add_71 rfl (lv_at hl 1 rfl) ?_
  refine x_getr (C := RX2) (k := 4) hx hb hts u_X2_add_2 hown hK hP (g_L_0 cI a s17) rfl (by decide) ⟨rfl, rfl, rfl⟩ k_X2_add_f24 rfl dX2_add_72 ?_
  refine lv_iload_n hx hb dX2_add_75 rfl (lv_at hl 3 rfl) ?_
  refine lv_bipush (v := 10) hx hb dX2_add_76 (by decide +kernel) ?_
  refine x_imul hx hb dX2_add_78 h (fun x18 h => ?_)
  refine lv_iload_n hx hb dX2_add_79 rfl (lv_at hl 2 rfl) ?_
  refine x_iadd hx hb dX2_add_80 h (fun x19 h => ?_)
  refine lv_aload_n hx hb dX2_add_81 rfl (lv_at hl 1 rfl) ?_
  refine x_geti (C := RX2) (k := 5) hx hb hts u_X2_add_2 hown hK hP (g_L_0 cI a s17) rfl (by decide) ⟨rfl, rfl, rfl⟩ k_X2_add_f33 rfl dX2_add_82 h (fun x20 h => ?_)
  refine x_iast (p_L cI a) (t0 := 0) hx hb hK hP hD hS ht h (g_L_5 cI a s17) (fun j9 v9 => (s_L_5 cI a s17 _)) dX2_add_85 (fun H locs s21 hP hS h => ?_)
  refine lv_iload hx hb dX2_add_86 (lv_at hl 0 rfl) ?_
  exact x_iret (p_L cI a) hx hb hr hlocks hP hS dX2_add_88 h
/-! ===== VectorRounds$Links.howManyUp()I: world L ===== -/
theorem i_X2_howManyUp : yX2_howManyUp.cls = RX2 ∧ yX2_howManyUp.cls ≠ "java/lang/invoke/MethodHandle" ∧ yX2_howManyUp.cls ≠ "java/lang/invoke/VarHandle" ∧ (parseMethodDescriptor yX2_howManyUp.desc).map (fun d => d.parameters.length) = some 0 := by decide +kernel
theorem k_X2_howManyUp_f21 : Cond.fieldLink RX2 21 RX2 "up" "[I" ∈ wsX2_howManyUp := by decide +kernel
theorem k_X2_howManyUp_f33 : Cond.fieldLink RX2 33 RX2 "size" "I" ∈ wsX2_howManyUp := by decide +kernel
theorem u_X2_howManyUp_2 : ∀ w ∈ u_ws RX2 TX2 6, w ∈ wsX2_howManyUp := by decide +kernel
set_option maxHeartbeats 4000000 in
set_option maxRecDepth 100000 in
theorem c_X2_howManyUp (l : Launch) (D : va_G) (cI : ClassId) (tys : List (ClassId × FieldType)) (ht : tys[0]? = some (cI, .int)) (a : Nat → Nat) (σ : qM) : q_Met l yX2_howManyUp wsX2_howManyUp ({ frames := 0, cells := 0, slots := 0, locals := 0 }) [.ref (a 0)] D tys (p_L cI a) σ (f_X2_howManyUp σ) := by
  refine x_ofWi (cc := cX2_howManyUp) (maxL := 3) (ret := (some .int)) (by decide +kernel) rfl (pf_L cI a) (Nat.le_of_ble_eq_true rfl) ?_
  intro p e s m below meth c A ls qq h hx hb hml hr hlocks hown hts hK hP hD hA hS hl
  have hown : s.vm.findClass RX2 = some m.cls := hown
  have hl : lv_has ls 3 [(0, .ref (a 0))] := hl
  have main : ∀ k9 : Nat, (∀ (σ : qM) (x1 x2 : Int32) (H : Heap) (locs : List Loc) (ls : Array Slot), q_it (D_X2_howManyUp) k9 0 σ [x1, x2] = some qq → va_P D vwCl (p_L cI a σ) H → va_S A s.heap H locs → lv_has ls 3 [(0, .ref (a 0)), (1, .int x1), (2, .int x2)] → W p l e ({ frames := 0, cells := 0, slots := 0, locals := 0 }) s m [.ref (a 0)].toArray below meth c H locs 0 0 (MQ below (va_Qi (fun r τ => (r, τ) = qq) (fun τ t => va_P D vwCl ((p_L cI a) τ) t.heap) A) [.ref (a 0)].toArray s 0 0 A) (F0 m 4 ls [])) := by
    intro k9
    induction k9 with
    | zero => exact (fun _ _ _ _ _ _ h _ _ _ => (q_no (show (none : qR) = some qq from h)).elim)
    | succ k9 ih =>
      have i4 := ih
      refine ?_
      · intro σ x1 x2 H locs ls h hP hS hl
        have h : b_X2_howManyUp_4 (q_it (D_X2_howManyUp) k9) σ x1 x2 = some qq := h
        unfold b_X2_howManyUp_4 at h
        refine lv_iload_n hx hb dX2_howManyUp_4 rfl (lv_at hl 2 rfl) ?_
        refine lv_aload_n hx hb dX2_howManyUp_5 rfl (lv_at hl 0 rfl) ?_
        refine x_geti (C := RX2) (k := 5) hx hb hts u_X2_howManyUp_2 hown hK hP (g_L_0 cI a σ) rfl (by decide) ⟨rfl, rfl, rfl⟩ k_X2_howManyUp_f33 rfl dX2_howManyUp_6 h (fun x3 h => ?_)
        refine lv_icmp_ge (tgt := 27) hx hb dX2_howManyUp_9 (by decide) (fun c4 => ?_) (fun c4 => ?_)
        · have h := if_t c4 h
          refine lv_iload_n hx hb dX2_howManyUp_27 rfl (lv_at hl 1 rfl) ?_
          exact x_iret (p_L cI a) hx hb hr hlocks hP hS dX2_howManyUp_28 h
        · have h := if_f c4 h
          refine lv_iload_n hx hb dX2_howManyUp_12 rfl (lv_at hl 1 rfl) ?_
          refine lv_aload_n hx hb dX2_howManyUp_13 rfl (lv_at hl 0 rfl) ?_
          refine x_getr (C := RX2) (k := 3) hx hb hts u_X2_howManyUp_2 hown hK hP (g_L_0 cI a σ) rfl (by decide) ⟨rfl, rfl, rfl⟩ k_X2_howManyUp_f21 rfl dX2_howManyUp_14 ?_
          refine lv_iload_n hx hb dX2_howManyUp_17 rfl (lv_at hl 2 rfl) ?_
          refine x_iald (t0 := 0) hx hb hK hP ht h (g_L_4 cI a σ) dX2_howManyUp_18 (fun x5 h => ?_)
          refine x_iadd hx hb dX2_howManyUp_19 h (fun x6 h => ?_)
          refine lv_istore_n (lv' := [(1, .int x6), (0, .ref (a 0)), (2, .int x2)]) hx hb dX2_howManyUp_20 rfl hl (by decide) rfl (fun ls hl => ?_)
          refine x_iinc (k := 2) (w := 1) hx hb dX2_howManyUp_21 hl rfl (by decide +kernel) (by decide) (fun v9 => [(2, .int v9), (1, .int x6), (0, .ref (a 0))]) (fun v9 => rfl) h (fun x7 ls hl h => ?_)
          have hl : lv_has ls 3 [(2, .int x7), (1, .int x6), (0, .ref (a 0))] := hl
          refine lv_goto (tgt := 4) hx hb dX2_howManyUp_24 (by decide) ?_
          exact i4 σ x6 x7 _ _ _ h hP hS (lv_sub hl [2, 1, 0] rfl)
  have i4 : ∀ (σ : qM) (x1 x2 : Int32) (H : Heap) (locs : List Loc) (ls : Array Slot), q_lim (D_X2_howManyUp) 0 σ [x1, x2] = some qq → va_P D vwCl (p_L cI a σ) H → va_S A s.heap H locs → lv_has ls 3 [(0, .ref (a 0)), (1, .int x1), (2, .int x2)] → W p l e ({ frames := 0, cells := 0, slots := 0, locals := 0 }) s m [.ref (a 0)].toArray below meth c H locs 0 0 (MQ below (va_Qi (fun r τ => (r, τ) = qq) (fun τ t => va_P D vwCl ((p_L cI a) τ) t.heap) A) [.ref (a 0)].toArray s 0 0 A) (F0 m 4 ls []) := by
    intro σ x1 x2 H locs ls h hP hS hl
    obtain ⟨k9, h⟩ := q_lim_n h
    exact (main k9) σ x1 x2 H locs ls h hP hS hl
  have h : e_X2_howManyUp (q_lim (D_X2_howManyUp)) σ = some qq := h
  unfold e_X2_howManyUp at h
  refine lv_iconst (v := 0) hx hb dX2_howManyUp_0 (by decide +kernel) ?_
  refine lv_istore_n (lv' := [(1, .int 0), (0, .ref (a 0))]) hx hb dX2_howManyUp_1 rfl hl (by decide) rfl (fun ls hl => ?_)
  refine lv_iconst (v := 0) hx hb dX2_howManyUp_2 (by decide +kernel) ?_
  refine lv_istore_n (lv' := [(2, .int 0), (1, .int 0), (0, .ref (a 0))]) hx hb dX2_howManyUp_3 rfl hl (by decide) rfl (fun ls hl => ?_)
  exact i4 σ 0 0 _ _ _ h hP hS (lv_sub hl [2, 1, 0] rfl)
/-! ===== VectorRounds$Links.become(LVectorRounds$Links;)V: world LL ===== -/
theorem i_X2_become : yX2_become.cls = RX2 ∧ yX2_become.cls ≠ "java/lang/invoke/MethodHandle" ∧ yX2_become.cls ≠ "java/lang/invoke/VarHandle" ∧ (parseMethodDescriptor yX2_become.desc).map (fun d => d.parameters.length) = some 1 := by decide +kernel
theorem k_X2_become_f15 : Cond.fieldLink RX2 15 RX2 "greater" "[I" ∈ wsX2_become := by decide +kernel
theorem k_X2_become_f18 : Cond.fieldLink RX2 18 RX2 "price" "[I" ∈ wsX2_become := by decide +kernel
theorem k_X2_become_f21 : Cond.fieldLink RX2 21 RX2 "up" "[I" ∈ wsX2_become := by decide +kernel
theorem k_X2_become_f24 : Cond.fieldLink RX2 24 RX2 "joint" "[I" ∈ wsX2_become := by decide +kernel
theorem k_X2_become_f33 : Cond.fieldLink RX2 33 RX2 "size" "I" ∈ wsX2_become := by decide +kernel
theorem k_X2_become_f9 : Cond.fieldLink RX2 9 RX2 "lesser" "[I" ∈ wsX2_become := by decide +kernel
theorem k_X2_become_m27 : Cond.methodLink RX2 27 arraycopyName ∈ wsX2_become ∧ Cond.native arraycopyName ∈ wsX2_become ∧ Cond.static arraycopyName ∈ wsX2_become ∧ Cond.initialized "java/lang/System" ∈ wsX2_become := by decide +kernel
theorem u_X2_become_2 : ∀ w ∈ u_ws RX2 TX2 6, w ∈ wsX2_become := by decide +kernel
set_option maxHeartbeats 4000000 in
set_option maxRecDepth 100000 in
theorem c_X2_become (l : Launch) (D : va_G) (cI : ClassId) (tys : List (ClassId × FieldType)) (ht : tys[0]? = some (cI, .int)) (a : Nat → Nat) (σ : qM) : q_Mev l yX2_become wsX2_become ({ frames := 1, cells := 0, slots := 0, locals := 60 }) [.ref (a 0), .ref (a 6)] D tys (p_LL cI a) σ (f_X2_become σ) := by
  refine x_ofWv (cc := cX2_become) (maxL := 2) (ret := none) (by decide +kernel) rfl (pf_LL cI a) (Nat.le_of_ble_eq_true rfl) ?_
  intro p e s m below meth c A ls qq h hx hb hml hr hlocks hown hts hK hP hD hA hS hl
  have hown : s.vm.findClass RX2 = some m.cls := hown
  have hl : lv_has ls 2 [(0, .ref (a 0)), (1, .ref (a 6))] := hl
  unfold f_X2_become at h
  refine lv_aload_n hx hb dX2_become_0 rfl (lv_at hl 1 rfl) ?_
  refine x_getr (C := RX2) (k := 0) hx hb hts u_X2_become_2 hown hK hP (g_LL_6 cI a σ) rfl (by decide) ⟨rfl, rfl, rfl⟩ k_X2_become_f9 rfl dX2_become_1 ?_
  refine lv_iconst (v := 0) hx hb dX2_become_4 (by decide +kernel) ?_
  refine lv_aload_n hx hb dX2_become_5 rfl (lv_at hl 0 rfl) ?_
  refine x_getr (C := RX2) (k := 0) hx hb hts u_X2_become_2 hown hK hP (g_LL_0 cI a σ) rfl (by decide) ⟨rfl, rfl, rfl⟩ k_X2_become_f9 rfl dX2_become_6 ?_
  refine lv_iconst (v := 0) hx hb dX2_become_9 (by decide +kernel) ?_
  refine lv_bipush (v := 24) hx hb dX2_become_10 (by decide +kernel) ?_
  refine x_copy (p_LL cI a) 24 (t0 := 0) hx hb (hml.trans hl.1.symm) hown hts hK hP hD hS k_X2_become_m27 ht h (g_LL_7 cI a σ) (g_LL_1 cI a σ) (by decide +kernel) (fun g9 => (s_LL_1 cI a σ g9)) ⟨Nat.le_of_ble_eq_true rfl, by decide +kernel⟩ dX2_become_12 (fun H locs s1 hP hS h => ?_)
  refine lv_aload_n hx hb dX2_become_15 rfl (lv_at hl 1 rfl) ?_
  refine x_getr (C := RX2) (k := 1) hx hb hts u_X2_become_2 hown hK hP (g_LL_6 cI a s1) rfl (by decide) ⟨rfl, rfl, rfl⟩ k_X2_become_f15 rfl dX2_become_16 ?_
  refine lv_iconst (v := 0) hx hb dX2_become_19 (by decide +kernel) ?_
  refine lv_aload_n hx hb dX2_become_20 rfl (lv_at hl 0 rfl) ?_
  refine x_getr (C := RX2) (k := 1) hx hb hts u_X2_become_2 hown hK hP (g_LL_0 cI a s1) rfl (by decide) ⟨rfl, rfl, rfl⟩ k_X2_become_f15 rfl dX2_become_21 ?_
  refine lv_iconst (v := 0) hx hb dX2_become_24 (by decide +kernel) ?_
  refine lv_bipush (v := 24) hx hb dX2_become_25 (by decide +kernel) ?_
  refine x_copy (p_LL cI a) 24 (t0 := 0) hx hb (hml.trans hl.1.symm) hown hts hK hP hD hS k_X2_become_m27 ht h (g_LL_8 cI a s1) (g_LL_2 cI a s1) (by decide +kernel) (fun g9 => (s_LL_2 cI a s1 g9)) ⟨Nat.le_of_ble_eq_true rfl, by decide +kernel⟩ dX2_become_27 (fun H locs s2 hP hS h => ?_)
  refine lv_aload_n hx hb dX2_become_30 rfl (lv_at hl 1 rfl) ?_
  refine x_getr (C := RX2) (k := 2) hx hb hts u_X2_become_2 hown hK hP (g_LL_6 cI a s2) rfl (by decide) ⟨rfl, rfl, rfl⟩ k_X2_become_f18 rfl dX2_become_31 ?_
  refine lv_iconst (v := 0) hx hb dX2_become_34 (by decide +kernel) ?_
  refine lv_aload_n hx hb dX2_become_35 rfl (lv_at hl 0 rfl) ?_
  refine x_getr (C := RX2) (k := 2) hx hb hts u_X2_become_2 hown hK hP (g_LL_0 cI a s2) rfl (by decide) ⟨rfl, rfl, rfl⟩ k_X2_become_f18 rfl dX2_become_36 ?_
  refine lv_iconst (v := 0) hx hb dX2_become_39 (by decide +kernel) ?_
  refine lv_bipush (v := 24) hx hb dX2_become_40 (by decide +kernel) ?_
  refine x_copy (p_LL cI a) 24 (t0 := 0) hx hb (hml.trans hl.1.symm) hown hts hK hP hD hS k_X2_become_m27 ht h (g_LL_9 cI a s2) (g_LL_3 cI a s2) (by decide +kernel) (fun g9 => (s_LL_3 cI a s2 g9)) ⟨Nat.le_of_ble_eq_true rfl, by decide +kernel⟩ dX2_become_42 (fun H locs s3 hP hS h => ?_)
  refine lv_aload_n hx hb dX2_become_45 rfl (lv_at hl 1 rfl) ?_
  refine x_getr (C := RX2) (k := 3) hx hb hts u_X2_become_2 hown hK hP (g_LL_6 cI a s3) rfl (by decide) ⟨rfl, rfl, rfl⟩ k_X2_become_f21 rfl dX2_become_46 ?_
  refine lv_iconst (v := 0) hx hb dX2_become_49 (by decide +kernel) ?_
  refine lv_aload_n hx hb dX2_become_50 rfl (lv_at hl 0 rfl) ?_
  refine x_getr (C := RX2) (k := 3) hx hb hts u_X2_become_2 hown hK hP (g_LL_0 cI a s3) rfl (by decide) ⟨rfl, rfl, rfl⟩ k_X2_become_f21 rfl dX2_become_51 ?_
  refine lv_iconst (v := 0) hx hb dX2_become_54 (by decide +kernel) ?_
  refine lv_bipush (v := 24) hx hb dX2_become_55 (by decide +kernel) ?_
  refine x_copy (p_LL cI a) 24 (t0 := 0) hx hb (hml.trans hl.1.symm) hown hts hK hP hD hS k_X2_become_m27 ht h (g_LL_10 cI a s3) (g_LL_4 cI a s3) (by decide +kernel) (fun g9 => (s_LL_4 cI a s3 g9)) ⟨Nat.le_of_ble_eq_true rfl, by decide +kernel⟩ dX2_become_57 (fun H locs s4 hP hS h => ?_)
  refine lv_aload_n hx hb dX2_become_60 rfl (lv_at hl 1 rfl) ?_
  refine x_getr (C := RX2) (k := 4) hx hb hts u_X2_become_2 hown hK hP (g_LL_6 cI a s4) rfl (by decide) ⟨rfl, rfl, rfl⟩ k_X2_become_f24 rfl dX2_become_61 ?_
  refine lv_iconst (v := 0) hx hb dX2_become_64 (by decide +kernel) ?_
  refine lv_aload_n hx hb dX2_become_65 rfl (lv_at hl 0 rfl) ?_
  refine x_getr (C := RX2) (k := 4) hx hb hts u_X2_become_2 hown hK hP (g_LL_0 cI a s4) rfl (by decide) ⟨rfl, rfl, rfl⟩ k_X2_become_f24 rfl dX2_become_66 ?_
  refine lv_iconst (v := 0) hx hb dX2_become_69 (by decide +kernel) ?_
  refine lv_bipush (v := 100) hx hb dX2_become_70 (by decide +kernel) ?_
  refine x_copy (p_LL cI a) 100 (t0 := 0) hx hb (hml.trans hl.1.symm) hown hts hK hP hD hS k_X2_become_m27 ht h (g_LL_11 cI a s4) (g_LL_5 cI a s4) (by decide +kernel) (fun g9 => (s_LL_5 cI a s4 g9)) ⟨Nat.le_of_ble_eq_true rfl, by decide +kernel⟩ dX2_become_72 (fun H locs s5 hP hS h => ?_)
  refine lv_aload_n hx hb dX2_become_75 rfl (lv_at hl 0 rfl) ?_
  refine lv_aload_n hx hb dX2_become_76 rfl (lv_at hl 1 rfl) ?_
  refine x_geti (C := RX2) (k := 5) hx hb hts u_X2_become_2 hown hK hP (g_LL_6 cI a s5) rfl (by decide) ⟨rfl, rfl, rfl⟩ k_X2_become_f33 rfl dX2_become_77 h (fun x6 h => ?_)
  refine x_puti (p_LL cI a) (C := RX2) (k := 5) hx hb hts u_X2_become_2 tyX2 tyX2_ok nmX2 hown hK hP hD hS h (g_LL_0 cI a s5) rfl (by decide) ⟨rfl, rfl, rfl⟩ k_X2_become_f33 rfl rfl rfl rfl (Nat.le_of_ble_eq_true rfl) (s_LL_0_5 cI a s5 x6) dX2_become_80 (fun H locs s7 hP hS h => ?_)
  exact x_vret (p_LL cI a) hx hb hr hlocks hP hS dX2_become_83 h
