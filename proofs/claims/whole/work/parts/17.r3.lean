/-! ===== VectorRoundsModel.settledNow()I: world M ===== -/
theorem i_X8_settledNow : yX8_settledNow.cls = RX8 ∧ yX8_settledNow.cls ≠ "java/lang/invoke/MethodHandle" ∧ yX8_settledNow.cls ≠ "java/lang/invoke/VarHandle" ∧ (parseMethodDescriptor yX8_settledNow.desc).map (fun d => d.parameters.length) = some 0 := by decide +kernel
set_option maxHeartbeats 4000000 in
set_option maxRecDepth 100000 in
theorem c_X8_settledNow (l : Launch) (D : va_G) (cI : ClassId) (tys : List (ClassId × FieldType)) (ht : tys[0]? = some (cI, .int)) (a : Nat → Nat) (σ : qM) : q_Met l yX8_settledNow wsX8_settledNow ({ frames := 4, cells := 0, slots := 0, locals := 121 }) [.ref (a 0)] D tys (p_M cI a) σ (f_X8_settledNow σ) := by
  refine x_ofWi (cc := cX8_settledNow) (maxL := 2) (ret := (some .int)) (by decide +kernel) rfl (pf_M cI a) (Nat.le_of_ble_eq_true rfl) ?_
  intro p e s m below meth c A ls qq h hx hb hml hr hlocks hown hts hK hP hD hA hS hl
  have hown : s.vm.findClass RX8 = some m.cls := hown
  have hl : lv_has ls 2 [(0, .ref (a 0))] := hl
  have hDs : ∀ σ1, va_D A (p_M cI (q_sw a) σ1) := fun σ1 => q_D_sw (hD σ1)
  unfold f_X8_settledNow at h
  refine lv_aload_n hx hb dX8_settledNow_0 rfl (lv_at hl 0 rfl) ?_
  refine x_cVw (p_M cI a) (p_M cI (q_sw a)) [] [] hx hb hml hl.1 hown hts hK hP hD hS hA rfl (c_X8_think l D cI tys ht a σ) gX8_settledNow_X8_think rfl ⟨rfl, rfl⟩ i_X8_think ⟨Nat.le_of_ble_eq_true rfl, Nat.le_of_ble_eq_true rfl⟩ (g_M_0 cI a σ) rfl rfl (Nat.le_of_ble_eq_true rfl) ⟨Nat.zero_le _, Nat.zero_le _⟩ dX8_settledNow_1 h (fun H locs s1 hP hS h => ?_)
  refine lv_aload_n hx hb dX8_settledNow_4 rfl (lv_at hl 0 rfl) ?_
  refine x_cVi (p_M cI (q_sw a)) (p_M cI (q_sw a)) (fun τ => τ) [] [] hx hb hml hl.1 hown hts hK hP hDs hS hA rfl (c_X8_settled l D cI tys ht (q_sw a) s1) gX8_settledNow_X8_settled rfl ⟨rfl, rfl⟩ i_X8_settled ⟨Nat.le_of_ble_eq_true rfl, Nat.le_of_ble_eq_true rfl⟩ q_frI (g_M_0 cI (q_sw a) s1) rfl rfl (Nat.le_of_ble_eq_true rfl) ⟨Nat.zero_le _, Nat.zero_le _⟩ dX8_settledNow_5 h (fun x3 H locs s2 hP hS h => ?_)
  refine lv_istore_n (lv' := [(1, .int x3), (0, .ref (a 0))]) hx hb dX8_settledNow_8 rfl hl (by decide) rfl (fun ls hl => ?_)
  refine lv_aload_n hx hb dX8_settledNow_9 rfl (lv_at hl 1 rfl) ?_
  refine x_cVw (p_M cI (q_sw a)) (p_M cI (q_sw (q_sw a))) [] [] hx hb hml hl.1 hown hts hK hP hDs hS hA rfl (c_X8_wake l D cI tys ht (q_sw a) s2) gX8_settledNow_X8_wake rfl ⟨rfl, rfl⟩ i_X8_wake ⟨Nat.le_of_ble_eq_true rfl, Nat.le_of_ble_eq_true rfl⟩ (g_M_0 cI (q_sw a) s2) rfl rfl (Nat.le_of_ble_eq_true rfl) ⟨Nat.zero_le _, Nat.zero_le _⟩ dX8_settledNow_10 h (fun H locs s4 hP hS h => ?_)
  have hP : va_P D vwCl (p_M cI a s4) H := hP
  refine lv_iload_n hx hb dX8_settledNow_13 rfl (lv_at hl 0 rfl) ?_
  exact x_iret (p_M cI a) hx hb hr hlocks hP hS dX8_settledNow_14 h
/-! ===== VectorRoundsModel.looped()I: world M ===== -/
theorem i_X8_looped : yX8_looped.cls = RX8 ∧ yX8_looped.cls ≠ "java/lang/invoke/MethodHandle" ∧ yX8_looped.cls ≠ "java/lang/invoke/VarHandle" ∧ (parseMethodDescriptor yX8_looped.desc).map (fun d => d.parameters.length) = some 0 := by decide +kernel
set_option maxHeartbeats 4000000 in
set_option maxRecDepth 100000 in
theorem c_X8_looped (l : Launch) (D : va_G) (cI : ClassId) (tys : List (ClassId × FieldType)) (ht : tys[0]? = some (cI, .int)) (a : Nat → Nat) (σ : qM) : q_Met l yX8_looped wsX8_looped ({ frames := 4, cells := 0, slots := 0, locals := 121 }) [.ref (a 0)] D tys (p_M cI a) σ (f_X8_looped σ) := by
  refine x_ofWi (cc := cX8_looped) (maxL := 3) (ret := (some .int)) (by decide +kernel) rfl (pf_M cI a) (Nat.le_of_ble_eq_true rfl) ?_
  intro p e s m below meth c A ls qq h hx hb hml hr hlocks hown hts hK hP hD hA hS hl
  have hown : s.vm.findClass RX8 = some m.cls := hown
  have hl : lv_has ls 3 [(0, .ref (a 0))] := hl
  have hDs : ∀ σ1, va_D A (p_M cI (q_sw a) σ1) := fun σ1 => q_D_sw (hD σ1)
  have main : ∀ k9 : Nat, (∀ (σ : qM) (x2 x3 : Int32) (H : Heap) (locs : List Loc) (ls : Array Slot), q_it (D_X8_looped) k9 0 σ [x2, x3] = some qq → va_P D vwCl (p_M cI (q_sw a) σ) H → va_S A s.heap H locs → lv_has ls 3 [(0, .ref (a 0)), (1, .int x2), (2, .int x3)] → W p l e ({ frames := 4, cells := 0, slots := 0, locals := 121 }) s m [.ref (a 0)].toArray below meth c H locs 0 0 (MQ below (va_Qi (fun r τ => (r, τ) = qq) (fun τ t => va_P D vwCl ((p_M cI a) τ) t.heap) A) [.ref (a 0)].toArray s 0 0 A) (F0 m 9 ls [])) := by
    intro k9
    induction k9 with
    | zero => exact (fun _ _ _ _ _ _ h _ _ _ => (q_no (show (none : qR) = some qq from h)).elim)
    | succ k9 ih =>
      have i9 := ih
      refine ?_
      · intro σ x2 x3 H locs ls h hP hS hl
        have h : b_X8_looped_9 (q_it (D_X8_looped) k9) σ x2 x3 = some qq := h
        unfold b_X8_looped_9 at h
        refine lv_iload_n hx hb dX8_looped_9 rfl (lv_at hl 2 rfl) ?_
        refine lv_bipush (v := 80) hx hb dX8_looped_10 (by decide +kernel) ?_
        refine lv_icmp_gt (tgt := 41) hx hb dX8_looped_12 (by decide) (fun c4 => ?_) (fun c4 => ?_)
        · have h := if_t c4 h
          refine lv_aload_n hx hb dX8_looped_41 rfl (lv_at hl 0 rfl) ?_
          refine x_cVw (p_M cI (q_sw a)) (p_M cI (q_sw (q_sw a))) [] [] hx hb hml hl.1 hown hts hK hP hDs hS hA rfl (c_X8_wake l D cI tys ht (q_sw a) σ) gX8_looped_X8_wake rfl ⟨rfl, rfl⟩ i_X8_wake ⟨Nat.le_of_ble_eq_true rfl, Nat.le_of_ble_eq_true rfl⟩ (g_M_0 cI (q_sw a) σ) rfl rfl (Nat.le_of_ble_eq_true rfl) ⟨Nat.zero_le _, Nat.zero_le _⟩ dX8_looped_42 h (fun H locs s5 hP hS h => ?_)
          have hP : va_P D vwCl (p_M cI a s5) H := hP
          refine lv_iload_n hx hb dX8_looped_45 rfl (lv_at hl 1 rfl) ?_
          exact x_iret (p_M cI a) hx hb hr hlocks hP hS dX8_looped_46 h
        · have h := if_f c4 h
          refine lv_iload_n hx hb dX8_looped_15 rfl (lv_at hl 1 rfl) ?_
          refine lv_bipush (v := (-2)) hx hb dX8_looped_16 (by decide +kernel) ?_
          refine lv_icmp_ne (tgt := 41) hx hb dX8_looped_18 (by decide) (fun c6 => ?_) (fun c6 => ?_)
          · have h := if_f c6 h
            refine lv_aload_n hx hb dX8_looped_41 rfl (lv_at hl 0 rfl) ?_
            refine x_cVw (p_M cI (q_sw a)) (p_M cI (q_sw (q_sw a))) [] [] hx hb hml hl.1 hown hts hK hP hDs hS hA rfl (c_X8_wake l D cI tys ht (q_sw a) σ) gX8_looped_X8_wake rfl ⟨rfl, rfl⟩ i_X8_wake ⟨Nat.le_of_ble_eq_true rfl, Nat.le_of_ble_eq_true rfl⟩ (g_M_0 cI (q_sw a) σ) rfl rfl (Nat.le_of_ble_eq_true rfl) ⟨Nat.zero_le _, Nat.zero_le _⟩ dX8_looped_42 h (fun H locs s7 hP hS h => ?_)
            have hP : va_P D vwCl (p_M cI a s7) H := hP
            refine lv_iload_n hx hb dX8_looped_45 rfl (lv_at hl 1 rfl) ?_
            exact x_iret (p_M cI a) hx hb hr hlocks hP hS dX8_looped_46 h
          · have h := if_t c6 h
            refine lv_aload_n hx hb dX8_looped_21 rfl (lv_at hl 0 rfl) ?_
            refine x_cVi (p_M cI (q_sw a)) (p_M cI (q_sw a)) (fun τ => τ) [] [] hx hb hml hl.1 hown hts hK hP hDs hS hA rfl (c_X8_loops l D cI tys ht (q_sw a) σ) gX8_looped_X8_loops rfl ⟨rfl, rfl⟩ i_X8_loops ⟨Nat.le_of_ble_eq_true rfl, Nat.le_of_ble_eq_true rfl⟩ q_frI (g_M_0 cI (q_sw a) σ) rfl rfl (Nat.le_of_ble_eq_true rfl) ⟨Nat.zero_le _, Nat.zero_le _⟩ dX8_looped_22 h (fun x9 H locs s8 hP hS h => ?_)
            refine lv_if_le (tgt := 30) hx hb dX8_looped_25 (by decide) (fun c10 => ?_) (fun c10 => ?_)
            · have h := if_t c10 h
              refine lv_aload_n hx hb dX8_looped_30 rfl (lv_at hl 0 rfl) ?_
              refine x_cVi (p_M cI (q_sw a)) (p_M cI (q_sw a)) (fun τ => τ) [] [] hx hb hml hl.1 hown hts hK hP hDs hS hA rfl (c_X8_goRound l D cI tys ht (q_sw a) s8) gX8_looped_X8_goRound rfl ⟨rfl, rfl⟩ i_X8_goRound ⟨Nat.le_of_ble_eq_true rfl, Nat.le_of_ble_eq_true rfl⟩ q_frI (g_M_0 cI (q_sw a) s8) rfl rfl (Nat.le_of_ble_eq_true rfl) ⟨Nat.zero_le _, Nat.zero_le _⟩ dX8_looped_31 h (fun x12 H locs s11 hP hS h => ?_)
              refine lv_pop hx hb dX8_looped_34 rfl ?_
              refine x_iinc (k := 2) (w := 1) hx hb dX8_looped_35 hl rfl (by decide +kernel) (by decide) (fun v9 => [(2, .int v9), (0, .ref (a 0)), (1, .int x2)]) (fun v9 => rfl) h (fun x13 ls hl h => ?_)
              have hl : lv_has ls 3 [(2, .int x13), (0, .ref (a 0)), (1, .int x2)] := hl
              refine lv_goto (tgt := 9) hx hb dX8_looped_38 (by decide) ?_
              exact i9 s11 x2 x13 _ _ _ h hP hS (lv_sub hl [1, 2, 0] rfl)
            · have h := if_f c10 h
              refine lv_iload_n hx hb dX8_looped_28 rfl (lv_at hl 2 rfl) ?_
              refine lv_istore_n (lv' := [(1, .int x3), (0, .ref (a 0)), (2, .int x3)]) hx hb dX8_looped_29 rfl hl (by decide) rfl (fun ls hl => ?_)
              refine lv_aload_n hx hb dX8_looped_30 rfl (lv_at hl 1 rfl) ?_
              refine x_cVi (p_M cI (q_sw a)) (p_M cI (q_sw a)) (fun τ => τ) [] [] hx hb hml hl.1 hown hts hK hP hDs hS hA rfl (c_X8_goRound l D cI tys ht (q_sw a) s8) gX8_looped_X8_goRound rfl ⟨rfl, rfl⟩ i_X8_goRound ⟨Nat.le_of_ble_eq_true rfl, Nat.le_of_ble_eq_true rfl⟩ q_frI (g_M_0 cI (q_sw a) s8) rfl rfl (Nat.le_of_ble_eq_true rfl) ⟨Nat.zero_le _, Nat.zero_le _⟩ dX8_looped_31 h (fun x15 H locs s14 hP hS h => ?_)
              refine lv_pop hx hb dX8_looped_34 rfl ?_
              refine x_iinc (k := 2) (w := 1) hx hb dX8_looped_35 hl rfl (by decide +kernel) (by decide) (fun v9 => [(2, .int v9), (1, .int x3), (0, .ref (a 0))]) (fun v9 => rfl) h (fun x16 ls hl h => ?_)
              have hl : lv_has ls 3 [(2, .int x16), (1, .int x3), (0, .ref (a 0))] := hl
              refine lv_goto (tgt := 9) hx hb dX8_looped_38 (by decide) ?_
              exact i9 s14 x3 x16 _ _ _ h hP hS (lv_sub hl [2, 1, 0] rfl)
  have i9 : ∀ (σ : qM) (x2 x3 : Int32) (H : Heap) (locs : List Loc) (ls : Array Slot), q_lim (D_X8_looped) 0 σ [x2, x3] = some qq → va_P D vwCl (p_M cI (q_sw a) σ) H → va_S A s.heap H locs → lv_has ls 3 [(0, .ref (a 0)), (1, .int x2), (2, .int x3)] → W p l e ({ frames := 4, cells := 0, slots := 0, locals := 121 }) s m [.ref (a 0)].toArray below meth c H locs 0 0 (MQ below (va_Qi (fun r τ => (r, τ) = qq) (fun τ t => va_P D vwCl ((p_M cI a) τ) t.heap) A) [.ref (a 0)].toArray s 0 0 A) (F0 m 9 ls []) := by
    intro σ x2 x3 H locs ls h hP hS hl
    obtain ⟨k9, h⟩ := q_lim_n h
    exact (main k9) σ x2 x3 H locs ls h hP hS hl
  have h : e_X8_looped (q_lim (D_X8_looped)) σ = some qq := h
  unfold e_X8_looped at h
  refine lv_aload_n hx hb dX8_looped_0 rfl (lv_at hl 0 rfl) ?_
  refine x_cVw (p_M cI a) (p_M cI (q_sw a)) [] [] hx hb hml hl.1 hown hts hK hP hD hS hA rfl (c_X8_think l D cI tys ht a σ) gX8_looped_X8_think rfl ⟨rfl, rfl⟩ i_X8_think ⟨Nat.le_of_ble_eq_true rfl, Nat.le_of_ble_eq_true rfl⟩ (g_M_0 cI a σ) rfl rfl (Nat.le_of_ble_eq_true rfl) ⟨Nat.zero_le _, Nat.zero_le _⟩ dX8_looped_1 h (fun H locs s1 hP hS h => ?_)
  refine lv_bipush (v := (-2)) hx hb dX8_looped_4 (by decide +kernel) ?_
  refine lv_istore_n (lv' := [(1, .int (-2)), (0, .ref (a 0))]) hx hb dX8_looped_6 rfl hl (by decide) rfl (fun ls hl => ?_)
  refine lv_iconst (v := 0) hx hb dX8_looped_7 (by decide +kernel) ?_
  refine lv_istore_n (lv' := [(2, .int 0), (1, .int (-2)), (0, .ref (a 0))]) hx hb dX8_looped_8 rfl hl (by decide) rfl (fun ls hl => ?_)
  exact i9 s1 (-2) 0 _ _ _ h hP hS (lv_sub hl [2, 1, 0] rfl)
/-! ===== VectorRoundsModel.worstCut()I: world M ===== -/
theorem i_X8_worstCut : yX8_worstCut.cls = RX8 ∧ yX8_worstCut.cls ≠ "java/lang/invoke/MethodHandle" ∧ yX8_worstCut.cls ≠ "java/lang/invoke/VarHandle" ∧ (parseMethodDescriptor yX8_worstCut.desc).map (fun d => d.parameters.length) = some 0 := by decide +kernel
theorem k_X8_worstCut_f7 : Cond.fieldLink RX8 7 RX8 "s" "[I" ∈ wsX8_worstCut := by decide +kernel
theorem u_X8_worstCut_8 : ∀ w ∈ u_ws RX8 TX8 26, w ∈ wsX8_worstCut := by decide +kernel
set_option maxHeartbeats 4000000 in
set_option maxRecDepth 100000 in
theorem c_X8_worstCut (l : Launch) (D : va_G) (cI : ClassId) (tys : List (ClassId × FieldType)) (ht : tys[0]? = some (cI, .int)) (a : Nat → Nat) (σ : qM) : q_Met l yX8_worstCut wsX8_worstCut ({ frames := 4, cells := 0, slots := 0, locals := 121 }) [.ref (a 0)] D tys (p_M cI a) σ (f_X8_worstCut σ) := by
  refine x_ofWi (cc := cX8_worstCut) (maxL := 6) (ret := (some .int)) (by decide +kernel) rfl (pf_M cI a) (Nat.le_of_ble_eq_true rfl) ?_
  intro p e s m below meth c A ls qq h hx hb hml hr hlocks hown hts hK hP hD hA hS hl
  have hown : s.vm.findClass RX8 = some m.cls := hown
  have hl : lv_has ls 6 [(0, .ref (a 0))] := hl
  have hDs : ∀ σ1, va_D A (p_M cI (q_sw a) σ1) := fun σ1 => q_D_sw (hD σ1)
  have main : ∀ k9 : Nat, (∀ (σ : qM) (x1 x2 x3 : Int32) (H : Heap) (locs : List Loc) (ls : Array Slot), q_it (D_X8_worstCut) k9 0 σ [x1, x2, x3] = some qq → va_P D vwCl (p_M cI a σ) H → va_S A s.heap H locs → lv_has ls 6 [(0, .ref (a 0)), (1, .int x1), (2, .int x2), (3, .int x3)] → W p l e ({ frames := 4, cells := 0, slots := 0, locals := 121 }) s m [.ref (a 0)].toArray below meth c H locs 0 0 (MQ below (va_Qi (fun r τ => (r, τ) = qq) (fun τ t => va_P D vwCl ((p_M cI a) τ) t.heap) A) [.ref (a 0)].toArray s 0 0 A) (F0 m 7 ls [])) ∧ (∀ (σ : qM) (x15 x16 x17 x18 : Int32) (H : Heap) (locs : List Loc) (ls : Array Slot), q_it (D_X8_worstCut) k9 1 σ [x15, x16, x17, x18] = some qq → va_P D vwCl (p_M cI a σ) H → va_S A s.heap H locs → lv_has ls 6 [(0, .ref (a 0)), (1, .int x15), (2, .int x16), (3, .int x17)] → W p l e ({ frames := 4, cells := 0, slots := 0, locals := 121 }) s m [.ref (a 0)].toArray below meth c H locs 0 0 (MQ below (va_Qi (fun r τ => (r, τ) = qq) (fun τ t => va_P D vwCl ((p_M cI a) τ) t.heap) A) [.ref (a 0)].toArray s 0 0 A) (F0 m 66 ls [.int x18])) := by
    intro k9
    induction k9 with
    | zero => exact ⟨(fun _ _ _ _ _ _ _ h _ _ _ => (q_no (show (none : qR) = some qq from h)).elim), (fun _ _ _ _ _ _ _ _ h _ _ _ => (q_no (show (none : qR) = some qq from h)).elim)⟩
    | succ k9 ih =>
      obtain ⟨i7, i66⟩ := ih
      refine ⟨?_, ?_⟩
      · intro σ x1 x2 x3 H locs ls h hP hS hl
        have h : b_X8_worstCut_7 (q_it (D_X8_worstCut) k9) σ x1 x2 x3 = some qq := h
        unfold b_X8_worstCut_7 at h
        refine lv_iload_n hx hb dX8_worstCut_7 rfl (lv_at hl 3 rfl) ?_
        refine lv_aload_n hx hb dX8_worstCut_8 rfl (lv_at hl 0 rfl) ?_
        refine x_getr (C := RX8) (k := 1) hx hb hts u_X8_worstCut_8 hown hK hP (g_M_0 cI a σ) rfl (by decide) ⟨rfl, rfl, rfl⟩ k_X8_worstCut_f7 rfl dX8_worstCut_9 ?_
        refine lv_iconst (v := 1) hx hb dX8_worstCut_12 (by decide +kernel) ?_
        refine x_iald (t0 := 0) hx hb hK hP ht h (g_M_1 cI a σ) dX8_worstCut_13 (fun x4 h => ?_)
        refine lv_icmp_ge (tgt := 92) hx hb dX8_worstCut_14 (by decide) (fun c5 => ?_) (fun c5 => ?_)
        · have h := if_t c5 h
          refine lv_iload_n hx hb dX8_worstCut_92 rfl (lv_at hl 1 rfl) ?_
          exact x_iret (p_M cI a) hx hb hr hlocks hP hS dX8_worstCut_93 h
        · have h := if_f c5 h
          refine lv_aload_n hx hb dX8_worstCut_17 rfl (lv_at hl 0 rfl) ?_
          refine x_getr (C := RX8) (k := 1) hx hb hts u_X8_worstCut_8 hown hK hP (g_M_0 cI a σ) rfl (by decide) ⟨rfl, rfl, rfl⟩ k_X8_worstCut_f7 rfl dX8_worstCut_18 ?_
          refine lv_bipush (v := 100) hx hb dX8_worstCut_21 (by decide +kernel) ?_
          refine lv_iload_n hx hb dX8_worstCut_23 rfl (lv_at hl 3 rfl) ?_
          refine x_iadd hx hb dX8_worstCut_24 h (fun x6 h => ?_)
          refine x_iald (t0 := 0) hx hb hK hP ht h (g_M_1 cI a σ) dX8_worstCut_25 (fun x7 h => ?_)
          refine lv_if_ne (tgt := 32) hx hb dX8_worstCut_26 (by decide) (fun c8 => ?_) (fun c8 => ?_)
          · have h := if_f c8 h
            refine lv_aload_n hx hb dX8_worstCut_32 rfl (lv_at hl 0 rfl) ?_
            refine x_cVw (p_M cI a) (p_M cI (q_sw a)) [] [] hx hb hml hl.1 hown hts hK hP hD hS hA rfl (c_X8_think l D cI tys ht a σ) gX8_worstCut_X8_think rfl ⟨rfl, rfl⟩ i_X8_think ⟨Nat.le_of_ble_eq_true rfl, Nat.le_of_ble_eq_true rfl⟩ (g_M_0 cI a σ) rfl rfl (Nat.le_of_ble_eq_true rfl) ⟨Nat.zero_le _, Nat.zero_le _⟩ dX8_worstCut_33 h (fun H locs s9 hP hS h => ?_)
            refine lv_aload_n hx hb dX8_worstCut_36 rfl (lv_at hl 0 rfl) ?_
            refine lv_iload_n hx hb dX8_worstCut_37 rfl (lv_at hl 3 rfl) ?_
            refine x_cVv (p_M cI (q_sw a)) (p_M cI (q_sw a)) (fun τ => τ) [] [.int x3] hx hb hml hl.1 hown hts hK hP hDs hS hA rfl (c_X8_cut l D cI tys ht (q_sw a) s9 x3) gX8_worstCut_X8_cut rfl ⟨rfl, rfl⟩ i_X8_cut ⟨Nat.le_of_ble_eq_true rfl, Nat.le_of_ble_eq_true rfl⟩ q_frI (g_M_0 cI (q_sw a) s9) rfl rfl (Nat.le_of_ble_eq_true rfl) ⟨Nat.zero_le _, Nat.zero_le _⟩ dX8_worstCut_38 h (fun H locs s10 hP hS h => ?_)
            refine lv_aload_n hx hb dX8_worstCut_41 rfl (lv_at hl 0 rfl) ?_
            refine x_cVi (p_M cI (q_sw a)) (p_M cI (q_sw a)) (fun τ => τ) [] [] hx hb hml hl.1 hown hts hK hP hDs hS hA rfl (c_X8_settled l D cI tys ht (q_sw a) s10) gX8_worstCut_X8_settled rfl ⟨rfl, rfl⟩ i_X8_settled ⟨Nat.le_of_ble_eq_true rfl, Nat.le_of_ble_eq_true rfl⟩ q_frI (g_M_0 cI (q_sw a) s10) rfl rfl (Nat.le_of_ble_eq_true rfl) ⟨Nat.zero_le _, Nat.zero_le _⟩ dX8_worstCut_42 h (fun x12 H locs s11 hP hS h => ?_)
            refine lv_istore (lv' := [(4, .int x12), (0, .ref (a 0)), (1, .int x1), (2, .int x2), (3, .int x3)]) hx hb dX8_worstCut_45 hl (by decide) rfl (fun ls hl => ?_)
            refine lv_aload_n hx hb dX8_worstCut_47 rfl (lv_at hl 1 rfl) ?_
            refine x_cVw (p_M cI (q_sw a)) (p_M cI (q_sw (q_sw a))) [] [] hx hb hml hl.1 hown hts hK hP hDs hS hA rfl (c_X8_wake l D cI tys ht (q_sw a) s11) gX8_worstCut_X8_wake rfl ⟨rfl, rfl⟩ i_X8_wake ⟨Nat.le_of_ble_eq_true rfl, Nat.le_of_ble_eq_true rfl⟩ (g_M_0 cI (q_sw a) s11) rfl rfl (Nat.le_of_ble_eq_true rfl) ⟨Nat.zero_le _, Nat.zero_le _⟩ dX8_worstCut_48 h (fun H locs s13 hP hS h => ?_)
            have hP : va_P D vwCl (p_M cI a s13) H := hP
            refine lv_iload hx hb dX8_worstCut_51 (lv_at hl 0 rfl) ?_
            refine lv_bipush (v := (-2)) hx hb dX8_worstCut_53 (by decide +kernel) ?_
            refine lv_icmp_ne (tgt := 64) hx hb dX8_worstCut_55 (by decide) (fun c14 => ?_) (fun c14 => ?_)
            · have h := if_f c14 h
              refine lv_iload hx hb dX8_worstCut_64 (lv_at hl 0 rfl) ?_
              exact i66 s13 x1 x2 x3 x12 _ _ _ h hP hS (lv_sub hl [1, 2, 3, 4] rfl)
            · have h := if_t c14 h
              refine lv_sipush (v := 1000) hx hb dX8_worstCut_58 (by decide +kernel) ?_
              refine lv_goto (tgt := 66) hx hb dX8_worstCut_61 (by decide) ?_
              exact i66 s13 x1 x2 x3 1000 _ _ _ h hP hS (lv_sub hl [1, 2, 3, 4] rfl)
          · have h := if_t c8 h
            refine lv_goto (tgt := 86) hx hb dX8_worstCut_29 (by decide) ?_
            refine x_iinc (k := 3) (w := 1) hx hb dX8_worstCut_86 hl rfl (by decide +kernel) (by decide) (fun v9 => [(3, .int v9), (0, .ref (a 0)), (1, .int x1), (2, .int x2)]) (fun v9 => rfl) h (fun x19 ls hl h => ?_)
            have hl : lv_has ls 6 [(3, .int x19), (0, .ref (a 0)), (1, .int x1), (2, .int x2)] := hl
            refine lv_goto (tgt := 7) hx hb dX8_worstCut_89 (by decide) ?_
            exact i7 σ x1 x2 x19 _ _ _ h hP hS (lv_sub hl [1, 2, 3, 0] rfl)
      · intro σ x15 x16 x17 x18 H locs ls h hP hS hl
        have h : b_X8_worstCut_66 (q_it (D_X8_worstCut) k9) σ x15 x16 x17 x18 = some qq := h
        unfold b_X8_worstCut_66 at h
        refine lv_istore (lv' := [(5, .int x18), (0, .ref (a 0)), (1, .int x15), (2, .int x16), (3, .int x17)]) hx hb dX8_worstCut_66 hl (by decide) rfl (fun ls hl => ?_)
        refine lv_iload_n hx hb dX8_worstCut_68 rfl (lv_at hl 2 rfl) ?_
        refine lv_if_lt (tgt := 81) hx hb dX8_worstCut_69 (by decide) (fun c20 => ?_) (fun c20 => ?_)
        · have h := if_t c20 h
          refine lv_iload_n hx hb dX8_worstCut_81 rfl (lv_at hl 4 rfl) ?_
          refine lv_istore_n (lv' := [(1, .int x17), (5, .int x18), (0, .ref (a 0)), (2, .int x16), (3, .int x17)]) hx hb dX8_worstCut_82 rfl hl (by decide) rfl (fun ls hl => ?_)
          refine lv_iload hx hb dX8_worstCut_83 (lv_at hl 1 rfl) ?_
          refine lv_istore_n (lv' := [(2, .int x18), (1, .int x17), (5, .int x18), (0, .ref (a 0)), (3, .int x17)]) hx hb dX8_worstCut_85 rfl hl (by decide) rfl (fun ls hl => ?_)
          refine x_iinc (k := 4) (w := 1) hx hb dX8_worstCut_86 hl rfl (by decide +kernel) (by decide) (fun v9 => [(3, .int v9), (2, .int x18), (1, .int x17), (5, .int x18), (0, .ref (a 0))]) (fun v9 => rfl) h (fun x21 ls hl h => ?_)
          have hl : lv_has ls 6 [(3, .int x21), (2, .int x18), (1, .int x17), (5, .int x18), (0, .ref (a 0))] := hl
          refine lv_goto (tgt := 7) hx hb dX8_worstCut_89 (by decide) ?_
          exact i7 σ x17 x18 x21 _ _ _ h hP hS (lv_sub hl [4, 2, 1, 0] rfl)
        · have h := if_f c20 h
          refine lv_iload hx hb dX8_worstCut_72 (lv_at hl 0 rfl) ?_
          refine lv_iload_n hx hb dX8_worstCut_74 rfl (lv_at hl 3 rfl) ?_
          refine lv_icmp_gt (tgt := 81) hx hb dX8_worstCut_75 (by decide) (fun c22 => ?_) (fun c22 => ?_)
          · have h := if_t c22 h
            refine lv_iload_n hx hb dX8_worstCut_81 rfl (lv_at hl 4 rfl) ?_
            refine lv_istore_n (lv' := [(1, .int x17), (5, .int x18), (0, .ref (a 0)), (2, .int x16), (3, .int x17)]) hx hb dX8_worstCut_82 rfl hl (by decide) rfl (fun ls hl => ?_)
            refine lv_iload hx hb dX8_worstCut_83 (lv_at hl 1 rfl) ?_
            refine lv_istore_n (lv' := [(2, .int x18), (1, .int x17), (5, .int x18), (0, .ref (a 0)), (3, .int x17)]) hx hb dX8_worstCut_85 rfl hl (by decide) rfl (fun ls hl => ?_)
            refine x_iinc (k := 4) (w := 1) hx hb dX8_worstCut_86 hl rfl (by decide +kernel) (by decide) (fun v9 => [(3, .int v9), (2, .int x18), (1, .int x17), (5, .int x18), (0, .ref (a 0))]) (fun v9 => rfl) h (fun x23 ls hl h => ?_)
            have hl : lv_has ls 6 [(3, .int x23), (2, .int x18), (1, .int x17), (5, .int x18), (0, .ref (a 0))] := hl
            refine lv_goto (tgt := 7) hx hb dX8_worstCut_89 (by decide) ?_
            exact i7 σ x17 x18 x23 _ _ _ h hP hS (lv_sub hl [4, 2, 1, 0] rfl)
          · have h := if_f c22 h
            refine lv_goto (tgt := 86) hx hb dX8_worstCut_78 (by decide) ?_
            refine x_iinc (k := 4) (w := 1) hx hb dX8_worstCut_86 hl rfl (by decide +kernel) (by decide) (fun v9 => [(3, .int v9), (5, .int x18), (0, .ref (a 0)), (1, .int x15), (2, .int x16)]) (fun v9 => rfl) h (fun x24 ls hl h => ?_)
            have hl : lv_has ls 6 [(3, .int x24), (5, .int x18), (0, .ref (a 0)), (1, .int x15), (2, .int x16)] := hl
            refine lv_goto (tgt := 7) hx hb dX8_worstCut_89 (by decide) ?_
            exact i7 σ x15 x16 x24 _ _ _ h hP hS (lv_sub hl [2, 3, 4, 0] rfl)
  have i7 : ∀ (σ : qM) (x1 x2 x3 : Int32) (H : Heap) (locs : List Loc) (ls : Array Slot), q_lim (D_X8_worstCut) 0 σ [x1, x2, x3] = some qq → va_P D vwCl (p_M cI a σ) H → va_S A s.heap H locs → lv_has ls 6 [(0, .ref (a 0)), (1, .int x1), (2, .int x2), (3, .int x3)] → W p l e ({ frames := 4, cells := 0, slots := 0, locals := 121 }) s m [.ref (a 0)].toArray below meth c H locs 0 0 (MQ below (va_Qi (fun r τ => (r, τ) = qq) (fun τ t => va_P D vwCl ((p_M cI a) τ) t.heap) A) [.ref (a 0)].toArray s 0 0 A) (F0 m 7 ls []) := by
    intro σ x1 x2 x3 H locs ls h hP hS hl
    obtain ⟨k9, h⟩ := q_lim_n h
    exact (main k9).1 σ x1 x2 x3 H locs ls h hP hS hl
  have i66 : ∀ (σ : qM) (x15 x16 x17 x18 : Int32) (H : Heap) (locs : List Loc) (ls : Array Slot), q_lim (D_X8_worstCut) 1 σ [x15, x16, x17, x18] = some qq → va_P D vwCl (p_M cI a σ) H → va_S A s.heap H locs → lv_has ls 6 [(0, .ref (a 0)), (1, .int x15), (2, .int x16), (3, .int x17)] → W p l e ({ frames := 4, cells := 0, slots := 0, locals := 121 }) s m [.ref (a 0)].toArray below meth c H locs 0 0 (MQ below (va_Qi (fun r τ => (r, τ) = qq) (fun τ t => va_P D vwCl ((p_M cI a) τ) t.heap) A) [.ref (a 0)].toArray s 0 0 A) (F0 m 66 ls [.int x18]) := by
    intro σ x15 x16 x17 x18 H locs ls h hP hS hl
    obtain ⟨k9, h⟩ := q_lim_n h
    exact (main k9).2 σ x15 x16 x17 x18 H locs ls h hP hS hl
  have h : e_X8_worstCut (q_lim (D_X8_worstCut)) σ = some qq := h
  unfold e_X8_worstCut at h
  refine lv_bipush (v := (-2)) hx hb dX8_worstCut_0 (by decide +kernel) ?_
  refine lv_istore_n (lv' := [(1, .int (-2)), (0, .ref (a 0))]) hx hb dX8_worstCut_2 rfl hl (by decide) rfl (fun ls hl => ?_)
  refine lv_iconst (v := 0) hx hb dX8_worstCut_3 (by decide +kernel) ?_
  refine lv_istore_n (lv' := [(2, .int 0), (1, .int (-2)), (0, .ref (a 0))]) hx hb dX8_worstCut_4 rfl hl (by decide) rfl (fun ls hl => ?_)
  refine lv_iconst (v := 0) hx hb dX8_worstCut_5 (by decide +kernel) ?_
  refine lv_istore_n (lv' := [(3, .int 0), (2, .int 0), (1, .int (-2)), (0, .ref (a 0))]) hx hb dX8_worstCut_6 rfl hl (by decide) rfl (fun ls hl => ?_)
  exact i7 σ (-2) 0 0 _ _ _ h hP hS (lv_sub hl [3, 2, 1, 0] rfl)
/-! ===== VectorRoundsModel.told(I)I: world M ===== -/
theorem i_X8_told : yX8_told.cls = RX8 ∧ yX8_told.cls ≠ "java/lang/invoke/MethodHandle" ∧ yX8_told.cls ≠ "java/lang/invoke/VarHandle" ∧ (parseMethodDescriptor yX8_told.desc).map (fun d => d.parameters.length) = some 1 := by decide +kernel
set_option maxHeartbeats 4000000 in
set_option maxRecDepth 100000 in
theorem c_X8_told (l : Launch) (D : va_G) (cI : ClassId) (tys : List (ClassId × FieldType)) (ht : tys[0]? = some (cI, .int)) (a : Nat → Nat) (σ : qM) (x1 : Int32) : q_Met l yX8_told wsX8_told ({ frames := 5, cells := 0, slots := 0, locals := 146 }) [.ref (a 0), .int x1] D tys (p_M cI a) σ (f_X8_told σ x1) := by
  refine x_ofWi (cc := cX8_told) (maxL := 2) (ret := (some .int)) (by decide +kernel) rfl (pf_M cI a) (Nat.le_of_ble_eq_true rfl) ?_
  intro p e s m below meth c A ls qq h hx hb hml hr hlocks hown hts hK hP hD hA hS hl
  have hown : s.vm.findClass RX8 = some m.cls := hown
  have hl : lv_has ls 2 [(0, .ref (a 0)), (1, .int x1)] := hl
  unfold f_X8_told at h
  refine lv_iload_n hx hb dX8_told_0 rfl (lv_at hl 1 rfl) ?_
  by_cases c2 : x1 = 0
  · have h := if_t c2 h
    refine x_tsw_in (v := 0) (off := 39) (tgt := 40) hx hb dX8_told_1 c2 (by decide +kernel) ?_
    refine lv_aload_n hx hb dX8_told_40 rfl (lv_at hl 0 rfl) ?_
    refine x_cVi (p_M cI a) (p_M cI a) (fun τ => τ) [] [] hx hb hml hl.1 hown hts hK hP hD hS hA rfl (c_X8_settledNow l D cI tys ht a σ) gX8_told_X8_settledNow rfl ⟨rfl, rfl⟩ i_X8_settledNow ⟨Nat.le_of_ble_eq_true rfl, Nat.le_of_ble_eq_true rfl⟩ q_frI (g_M_0 cI a σ) rfl rfl (Nat.le_of_ble_eq_true rfl) ⟨Nat.zero_le _, Nat.zero_le _⟩ dX8_told_41 h (fun x4 H locs s3 hP hS h => ?_)
    exact x_iret (p_M cI a) hx hb hr hlocks hP hS dX8_told_44 h
  have h := if_f c2 h
  by_cases c5 : x1 = 1
  · have h := if_t c5 h
    refine x_tsw_in (v := 1) (off := 44) (tgt := 45) hx hb dX8_told_1 c5 (by decide +kernel) ?_
    refine lv_aload_n hx hb dX8_told_45 rfl (lv_at hl 0 rfl) ?_
    refine x_cVi (p_M cI a) (p_M cI a) (fun τ => τ) [] [] hx hb hml hl.1 hown hts hK hP hD hS hA rfl (c_X8_looped l D cI tys ht a σ) gX8_told_X8_looped rfl ⟨rfl, rfl⟩ i_X8_looped ⟨Nat.le_of_ble_eq_true rfl, Nat.le_of_ble_eq_true rfl⟩ q_frI (g_M_0 cI a σ) rfl rfl (Nat.le_of_ble_eq_true rfl) ⟨Nat.zero_le _, Nat.zero_le _⟩ dX8_told_46 h (fun x7 H locs s6 hP hS h => ?_)
    exact x_iret (p_M cI a) hx hb hr hlocks hP hS dX8_told_49 h
  have h := if_f c5 h
  by_cases c8 : x1 = 2
  · have h := if_t c8 h
    refine x_tsw_in (v := 2) (off := 49) (tgt := 50) hx hb dX8_told_1 c8 (by decide +kernel) ?_
    refine lv_aload_n hx hb dX8_told_50 rfl (lv_at hl 0 rfl) ?_
    refine x_cVi (p_M cI a) (p_M cI a) (fun τ => τ) [] [] hx hb hml hl.1 hown hts hK hP hD hS hA rfl (c_X8_loops l D cI tys ht a σ) gX8_told_X8_loops rfl ⟨rfl, rfl⟩ i_X8_loops ⟨Nat.le_of_ble_eq_true rfl, Nat.le_of_ble_eq_true rfl⟩ q_frI (g_M_0 cI a σ) rfl rfl (Nat.le_of_ble_eq_true rfl) ⟨Nat.zero_le _, Nat.zero_le _⟩ dX8_told_51 h (fun x10 H locs s9 hP hS h => ?_)
    exact x_iret (p_M cI a) hx hb hr hlocks hP hS dX8_told_54 h
  have h := if_f c8 h
  by_cases c11 : x1 = 3
  · have h := if_t c11 h
    refine x_tsw_in (v := 3) (off := 54) (tgt := 55) hx hb dX8_told_1 c11 (by decide +kernel) ?_
    refine lv_aload_n hx hb dX8_told_55 rfl (lv_at hl 0 rfl) ?_
    refine x_cVi (p_M cI a) (p_M cI a) (fun τ => τ) [] [] hx hb hml hl.1 hown hts hK hP hD hS hA rfl (c_X8_right l D cI tys ht a σ) gX8_told_X8_right rfl ⟨rfl, rfl⟩ i_X8_right ⟨Nat.le_of_ble_eq_true rfl, Nat.le_of_ble_eq_true rfl⟩ q_frI (g_M_0 cI a σ) rfl rfl (Nat.le_of_ble_eq_true rfl) ⟨Nat.zero_le _, Nat.zero_le _⟩ dX8_told_56 h (fun x13 H locs s12 hP hS h => ?_)
    exact x_iret (p_M cI a) hx hb hr hlocks hP hS dX8_told_59 h
  have h := if_f c11 h
  by_cases c14 : x1 = 4
  · have h := if_t c14 h
    refine x_tsw_in (v := 4) (off := 59) (tgt := 60) hx hb dX8_told_1 c14 (by decide +kernel) ?_
    refine lv_aload_n hx hb dX8_told_60 rfl (lv_at hl 0 rfl) ?_
    refine x_cVi (p_M cI a) (p_M cI a) (fun τ => τ) [] [] hx hb hml hl.1 hown hts hK hP hD hS hA rfl (c_X8_worstCut l D cI tys ht a σ) gX8_told_X8_worstCut rfl ⟨rfl, rfl⟩ i_X8_worstCut ⟨Nat.le_of_ble_eq_true rfl, Nat.le_of_ble_eq_true rfl⟩ q_frI (g_M_0 cI a σ) rfl rfl (Nat.le_of_ble_eq_true rfl) ⟨Nat.zero_le _, Nat.zero_le _⟩ dX8_told_61 h (fun x16 H locs s15 hP hS h => ?_)
    exact x_iret (p_M cI a) hx hb hr hlocks hP hS dX8_told_64 h
  have h := if_f c14 h
  by_cases c17 : x1 = 5
  · have h := if_t c17 h
    refine x_tsw_in (v := 5) (off := 64) (tgt := 65) hx hb dX8_told_1 c17 (by decide +kernel) ?_
    refine lv_aload_n hx hb dX8_told_65 rfl (lv_at hl 0 rfl) ?_
    refine x_cVi (p_M cI a) (p_M cI a) (fun τ => τ) [] [] hx hb hml hl.1 hown hts hK hP hD hS hA rfl (c_X8_needed l D cI tys ht a σ) gX8_told_X8_needed rfl ⟨rfl, rfl⟩ i_X8_needed ⟨Nat.le_of_ble_eq_true rfl, Nat.le_of_ble_eq_true rfl⟩ q_frI (g_M_0 cI a σ) rfl rfl (Nat.le_of_ble_eq_true rfl) ⟨Nat.zero_le _, Nat.zero_le _⟩ dX8_told_66 h (fun x19 H locs s18 hP hS h => ?_)
    exact x_iret (p_M cI a) hx hb hr hlocks hP hS dX8_told_69 h
  have h := if_f c17 h
  refine x_tsw_out (tgt := 70) hx hb dX8_told_1 6 (by decide) (fun k9 hk9 => ?_) (by decide) ?_
  · rcases (show k9 = 0 ∨ k9 = 1 ∨ k9 = 2 ∨ k9 = 3 ∨ k9 = 4 ∨ k9 = 5 by omega) with rfl | rfl | rfl | rfl | rfl | rfl
    · exact fun h9 => c2 (h9.trans (by decide +kernel))
    · exact fun h9 => c5 (h9.trans (by decide +kernel))
    · exact fun h9 => c8 (h9.trans (by decide +kernel))
    · exact fun h9 => c11 (h9.trans (by decide +kernel))
    · exact fun h9 => c14 (h9.trans (by decide +kernel))
    · exact fun h9 => c17 (h9.trans (by decide +kernel))
  refine lv_iconst (v := (-1)) hx hb dX8_told_70 (by decide +kernel) ?_
  exact x_iret (p_M cI a) hx hb hr hlocks hP hS dX8_told_71 h
/-! ===== VectorRoundsModel.then(IIII)I: world M ===== -/
theorem i_X8_then : yX8_then.cls = RX8 ∧ yX8_then.cls ≠ "java/lang/invoke/MethodHandle" ∧ yX8_then.cls ≠ "java/lang/invoke/VarHandle" ∧ (parseMethodDescriptor yX8_then.desc).map (fun d => d.parameters.length) = some 4 := by decide +kernel
theorem k_X8_then_f7 : Cond.fieldLink RX8 7 RX8 "s" "[I" ∈ wsX8_then := by decide +kernel
theorem u_X8_then_8 : ∀ w ∈ u_ws RX8 TX8 26, w ∈ wsX8_then := by decide +kernel
set_option maxHeartbeats 4000000 in
set_option maxRecDepth 100000 in
theorem c_X8_then (l : Launch) (D : va_G) (cI : ClassId) (tys : List (ClassId × FieldType)) (ht : tys[0]? = some (cI, .int)) (a : Nat → Nat) (σ : qM) (x1 : Int32) (x2 : Int32) (x3 : Int32) (x4 : Int32) : q_Met l yX8_then wsX8_then ({ frames := 4, cells := 0, slots := 0, locals := 121 }) [.ref (a 0), .int x1, .int x2, .int x3, .int x4] D tys (p_M cI a) σ (f_X8_then σ x1 x2 x3 x4) := by
  refine x_ofWi (cc := cX8_then) (maxL := 7) (ret := (some .int)) (by decide +kernel) rfl (pf_M cI a) (Nat.le_of_ble_eq_true rfl) ?_
  intro p e s m below meth c A ls qq h hx hb hml hr hlocks hown hts hK hP hD hA hS hl
  have hown : s.vm.findClass RX8 = some m.cls := hown
  have hl : lv_has ls 7 [(0, .ref (a 0)), (1, .int x1), (2, .int x2), (3, .int x3), (4, .int x4)] := hl
  have hDs : ∀ σ1, va_D A (p_M cI (q_sw a) σ1) := fun σ1 => q_D_sw (hD σ1)
  have main : ∀ k9 : Nat, (∀ (σ : qM) (x18 x19 x20 x21 x22 : Int32) (H : Heap) (locs : List Loc) (ls : Array Slot), q_it (D_X8_then) k9 0 σ [x18, x19, x20, x21, x22] = some qq → va_P D vwCl (p_M cI (q_sw a) σ) H → va_S A s.heap H locs → lv_has ls 7 [(0, .ref (a 0)), (1, .int x18), (2, .int x19), (3, .int x20), (4, .int x21), (5, .int x22)] → W p l e ({ frames := 4, cells := 0, slots := 0, locals := 121 }) s m [.ref (a 0), .int x1, .int x2, .int x3, .int x4].toArray below meth c H locs 0 0 (MQ below (va_Qi (fun r τ => (r, τ) = qq) (fun τ t => va_P D vwCl ((p_M cI a) τ) t.heap) A) [.ref (a 0), .int x1, .int x2, .int x3, .int x4].toArray s 0 0 A) (F0 m 45 ls [])) := by
    intro k9
    induction k9 with
    | zero => exact (fun _ _ _ _ _ _ _ _ _ h _ _ _ => (q_no (show (none : qR) = some qq from h)).elim)
    | succ k9 ih =>
      have i45 := ih
      refine ?_
      · intro σ x18 x19 x20 x21 x22 H locs ls h hP hS hl
        have h : b_X8_then_45 (q_it (D_X8_then) k9) σ x18 x19 x20 x21 x22 = some qq := h
        unfold b_X8_then_45 at h
        refine lv_iload hx hb dX8_then_45 (lv_at hl 5 rfl) ?_
        refine lv_iload_n hx hb dX8_then_47 rfl (lv_at hl 3 rfl) ?_
        refine lv_icmp_ge (tgt := 62) hx hb dX8_then_48 (by decide) (fun c23 => ?_) (fun c23 => ?_)
        · have h := if_t c23 h
          refine lv_aload_n hx hb dX8_then_62 rfl (lv_at hl 0 rfl) ?_
          refine lv_iload_n hx hb dX8_then_63 rfl (lv_at hl 1 rfl) ?_
          refine lv_iload_n hx hb dX8_then_64 rfl (lv_at hl 2 rfl) ?_
          refine x_cVi (p_M cI (q_sw a)) (p_M cI (q_sw a)) (fun τ => τ) [] [.int x18, .int x19] hx hb hml hl.1 hown hts hK hP hDs hS hA rfl (c_X8_entryOf l D cI tys ht (q_sw a) σ x18 x19) gX8_then_X8_entryOf rfl ⟨rfl, rfl⟩ i_X8_entryOf ⟨Nat.le_of_ble_eq_true rfl, Nat.le_of_ble_eq_true rfl⟩ q_frI (g_M_0 cI (q_sw a) σ) rfl rfl (Nat.le_of_ble_eq_true rfl) ⟨Nat.zero_le _, Nat.zero_le _⟩ dX8_then_65 h (fun x25 H locs s24 hP hS h => ?_)
          refine lv_istore (lv' := [(5, .int x25), (0, .ref (a 0)), (1, .int x18), (2, .int x19), (3, .int x20), (4, .int x21)]) hx hb dX8_then_68 hl (by decide) rfl (fun ls hl => ?_)
          refine lv_iload hx hb dX8_then_70 (lv_at hl 5 rfl) ?_
          refine lv_iconst (v := 2) hx hb dX8_then_72 (by decide +kernel) ?_
          refine lv_icmp_ne (tgt := 83) hx hb dX8_then_73 (by decide) (fun c26 => ?_) (fun c26 => ?_)
          · have h := if_f c26 h
            refine lv_iload hx hb dX8_then_83 (lv_at hl 0 rfl) ?_
            refine lv_if_ge (tgt := 93) hx hb dX8_then_85 (by decide) (fun c27 => ?_) (fun c27 => ?_)
            · have h := if_t c27 h
              refine lv_iload hx hb dX8_then_93 (lv_at hl 5 rfl) ?_
              refine lv_if_ne (tgt := 112) hx hb dX8_then_95 (by decide) (fun c28 => ?_) (fun c28 => ?_)
              · have h := if_f c28 h
                refine lv_aload_n hx hb dX8_then_112 rfl (lv_at hl 1 rfl) ?_
                refine x_getr (C := RX8) (k := 1) hx hb hts u_X8_then_8 hown hK hP (g_M_0 cI (q_sw a) s24) rfl (by decide) ⟨rfl, rfl, rfl⟩ k_X8_then_f7 rfl dX8_then_113 ?_
                refine lv_sipush (v := 350) hx hb dX8_then_116 (by decide +kernel) ?_
                refine lv_iload hx hb dX8_then_119 (lv_at hl 0 rfl) ?_
                refine x_iadd hx hb dX8_then_121 h (fun x29 h => ?_)
                refine x_iald (t0 := 0) hx hb hK hP ht h (g_M_1 cI (q_sw a) s24) dX8_then_122 (fun x30 h => ?_)
                refine lv_istore (lv' := [(6, .int x30), (5, .int x25), (0, .ref (a 0)), (1, .int x18), (2, .int x19), (3, .int x20), (4, .int x21)]) hx hb dX8_then_123 hl (by decide) rfl (fun ls hl => ?_)
                refine lv_aload_n hx hb dX8_then_125 rfl (lv_at hl 2 rfl) ?_
                refine x_cVw (p_M cI (q_sw a)) (p_M cI (q_sw (q_sw a))) [] [] hx hb hml hl.1 hown hts hK hP hDs hS hA rfl (c_X8_wake l D cI tys ht (q_sw a) s24) gX8_then_X8_wake rfl ⟨rfl, rfl⟩ i_X8_wake ⟨Nat.le_of_ble_eq_true rfl, Nat.le_of_ble_eq_true rfl⟩ (g_M_0 cI (q_sw a) s24) rfl rfl (Nat.le_of_ble_eq_true rfl) ⟨Nat.zero_le _, Nat.zero_le _⟩ dX8_then_126 h (fun H locs s31 hP hS h => ?_)
                have hP : va_P D vwCl (p_M cI a s31) H := hP
                refine lv_iload hx hb dX8_then_129 (lv_at hl 0 rfl) ?_
                exact x_iret (p_M cI a) hx hb hr hlocks hP hS dX8_then_131 h
              · have h := if_t c28 h
                refine lv_aload_n hx hb dX8_then_98 rfl (lv_at hl 1 rfl) ?_
                refine x_getr (C := RX8) (k := 1) hx hb hts u_X8_then_8 hown hK hP (g_M_0 cI (q_sw a) s24) rfl (by decide) ⟨rfl, rfl, rfl⟩ k_X8_then_f7 rfl dX8_then_99 ?_
                refine lv_sipush (v := 250) hx hb dX8_then_102 (by decide +kernel) ?_
                refine lv_iload hx hb dX8_then_105 (lv_at hl 0 rfl) ?_
                refine x_iadd hx hb dX8_then_107 h (fun x32 h => ?_)
                refine x_iald (t0 := 0) hx hb hK hP ht h (g_M_1 cI (q_sw a) s24) dX8_then_108 (fun x33 h => ?_)
                refine lv_goto (tgt := 123) hx hb dX8_then_109 (by decide) ?_
                refine lv_istore (lv' := [(6, .int x33), (5, .int x25), (0, .ref (a 0)), (1, .int x18), (2, .int x19), (3, .int x20), (4, .int x21)]) hx hb dX8_then_123 hl (by decide) rfl (fun ls hl => ?_)
                refine lv_aload_n hx hb dX8_then_125 rfl (lv_at hl 2 rfl) ?_
                refine x_cVw (p_M cI (q_sw a)) (p_M cI (q_sw (q_sw a))) [] [] hx hb hml hl.1 hown hts hK hP hDs hS hA rfl (c_X8_wake l D cI tys ht (q_sw a) s24) gX8_then_X8_wake rfl ⟨rfl, rfl⟩ i_X8_wake ⟨Nat.le_of_ble_eq_true rfl, Nat.le_of_ble_eq_true rfl⟩ (g_M_0 cI (q_sw a) s24) rfl rfl (Nat.le_of_ble_eq_true rfl) ⟨Nat.zero_le _, Nat.zero_le _⟩ dX8_then_126 h (fun H locs s34 hP hS h => ?_)
                have hP : va_P D vwCl (p_M cI a s34) H := hP
                refine lv_iload hx hb dX8_then_129 (lv_at hl 0 rfl) ?_
                exact x_iret (p_M cI a) hx hb hr hlocks hP hS dX8_then_131 h
            · have h := if_f c27 h
              refine lv_bipush (v := (-2)) hx hb dX8_then_88 (by decide +kernel) ?_
              refine lv_goto (tgt := 123) hx hb dX8_then_90 (by decide) ?_
              refine lv_istore (lv' := [(6, .int (-2)), (5, .int x25), (0, .ref (a 0)), (1, .int x18), (2, .int x19), (3, .int x20), (4, .int x21)]) hx hb dX8_then_123 hl (by decide) rfl (fun ls hl => ?_)
              refine lv_aload_n hx hb dX8_then_125 rfl (lv_at hl 2 rfl) ?_
              refine x_cVw (p_M cI (q_sw a)) (p_M cI (q_sw (q_sw a))) [] [] hx hb hml hl.1 hown hts hK hP hDs hS hA rfl (c_X8_wake l D cI tys ht (q_sw a) s24) gX8_then_X8_wake rfl ⟨rfl, rfl⟩ i_X8_wake ⟨Nat.le_of_ble_eq_true rfl, Nat.le_of_ble_eq_true rfl⟩ (g_M_0 cI (q_sw a) s24) rfl rfl (Nat.le_of_ble_eq_true rfl) ⟨Nat.zero_le _, Nat.zero_le _⟩ dX8_then_126 h (fun H locs s35 hP hS h => ?_)
              have hP : va_P D vwCl (p_M cI a s35) H := hP
              refine lv_iload hx hb dX8_then_129 (lv_at hl 0 rfl) ?_
              exact x_iret (p_M cI a) hx hb hr hlocks hP hS dX8_then_131 h
          · have h := if_t c26 h
            refine lv_aload_n hx hb dX8_then_76 rfl (lv_at hl 1 rfl) ?_
            refine x_cVi (p_M cI (q_sw a)) (p_M cI (q_sw a)) (fun τ => τ) [] [] hx hb hml hl.1 hown hts hK hP hDs hS hA rfl (c_X8_loops l D cI tys ht (q_sw a) s24) gX8_then_X8_loops rfl ⟨rfl, rfl⟩ i_X8_loops ⟨Nat.le_of_ble_eq_true rfl, Nat.le_of_ble_eq_true rfl⟩ q_frI (g_M_0 cI (q_sw a) s24) rfl rfl (Nat.le_of_ble_eq_true rfl) ⟨Nat.zero_le _, Nat.zero_le _⟩ dX8_then_77 h (fun x37 H locs s36 hP hS h => ?_)
            refine lv_goto (tgt := 123) hx hb dX8_then_80 (by decide) ?_
            refine lv_istore (lv' := [(6, .int x37), (5, .int x25), (0, .ref (a 0)), (1, .int x18), (2, .int x19), (3, .int x20), (4, .int x21)]) hx hb dX8_then_123 hl (by decide) rfl (fun ls hl => ?_)
            refine lv_aload_n hx hb dX8_then_125 rfl (lv_at hl 2 rfl) ?_
            refine x_cVw (p_M cI (q_sw a)) (p_M cI (q_sw (q_sw a))) [] [] hx hb hml hl.1 hown hts hK hP hDs hS hA rfl (c_X8_wake l D cI tys ht (q_sw a) s36) gX8_then_X8_wake rfl ⟨rfl, rfl⟩ i_X8_wake ⟨Nat.le_of_ble_eq_true rfl, Nat.le_of_ble_eq_true rfl⟩ (g_M_0 cI (q_sw a) s36) rfl rfl (Nat.le_of_ble_eq_true rfl) ⟨Nat.zero_le _, Nat.zero_le _⟩ dX8_then_126 h (fun H locs s38 hP hS h => ?_)
            have hP : va_P D vwCl (p_M cI a s38) H := hP
            refine lv_iload hx hb dX8_then_129 (lv_at hl 0 rfl) ?_
            exact x_iret (p_M cI a) hx hb hr hlocks hP hS dX8_then_131 h
        · have h := if_f c23 h
          refine lv_aload_n hx hb dX8_then_51 rfl (lv_at hl 0 rfl) ?_
          refine x_cVi (p_M cI (q_sw a)) (p_M cI (q_sw a)) (fun τ => τ) [] [] hx hb hml hl.1 hown hts hK hP hDs hS hA rfl (c_X8_goRound l D cI tys ht (q_sw a) σ) gX8_then_X8_goRound rfl ⟨rfl, rfl⟩ i_X8_goRound ⟨Nat.le_of_ble_eq_true rfl, Nat.le_of_ble_eq_true rfl⟩ q_frI (g_M_0 cI (q_sw a) σ) rfl rfl (Nat.le_of_ble_eq_true rfl) ⟨Nat.zero_le _, Nat.zero_le _⟩ dX8_then_52 h (fun x40 H locs s39 hP hS h => ?_)
          refine lv_pop hx hb dX8_then_55 rfl ?_
          refine x_iinc (k := 5) (w := 1) hx hb dX8_then_56 hl rfl (by decide +kernel) (by decide) (fun v9 => [(5, .int v9), (0, .ref (a 0)), (1, .int x18), (2, .int x19), (3, .int x20), (4, .int x21)]) (fun v9 => rfl) h (fun x41 ls hl h => ?_)
          have hl : lv_has ls 7 [(5, .int x41), (0, .ref (a 0)), (1, .int x18), (2, .int x19), (3, .int x20), (4, .int x21)] := hl
          refine lv_goto (tgt := 45) hx hb dX8_then_59 (by decide) ?_
          exact i45 s39 x18 x19 x20 x21 x41 _ _ _ h hP hS (lv_sub hl [1, 2, 3, 4, 5, 0] rfl)
  have i45 : ∀ (σ : qM) (x18 x19 x20 x21 x22 : Int32) (H : Heap) (locs : List Loc) (ls : Array Slot), q_lim (D_X8_then) 0 σ [x18, x19, x20, x21, x22] = some qq → va_P D vwCl (p_M cI (q_sw a) σ) H → va_S A s.heap H locs → lv_has ls 7 [(0, .ref (a 0)), (1, .int x18), (2, .int x19), (3, .int x20), (4, .int x21), (5, .int x22)] → W p l e ({ frames := 4, cells := 0, slots := 0, locals := 121 }) s m [.ref (a 0), .int x1, .int x2, .int x3, .int x4].toArray below meth c H locs 0 0 (MQ below (va_Qi (fun r τ => (r, τ) = qq) (fun τ t => va_P D vwCl ((p_M cI a) τ) t.heap) A) [.ref (a 0), .int x1, .int x2, .int x3, .int x4].toArray s 0 0 A) (F0 m 45 ls []) := by
    intro σ x18 x19 x20 x21 x22 H locs ls h hP hS hl
    obtain ⟨k9, h⟩ := q_lim_n h
    exact (main k9) σ x18 x19 x20 x21 x22 H locs ls h hP hS hl
  have h : e_X8_then (q_lim (D_X8_then)) σ x1 x2 x3 x4 = some qq := h
  unfold e_X8_then at h
  refine lv_aload_n hx hb dX8_then_0 rfl (lv_at hl 0 rfl) ?_
  refine lv_iload_n hx hb dX8_then_1 rfl (lv_at hl 1 rfl) ?_
  refine x_cVi (p_M cI a) (p_M cI a) (fun τ => τ) [] [.int x1] hx hb hml hl.1 hown hts hK hP hD hS hA rfl (c_X8_isRouter l D cI tys ht a σ x1) gX8_then_X8_isRouter rfl ⟨rfl, rfl⟩ i_X8_isRouter ⟨Nat.le_of_ble_eq_true rfl, Nat.le_of_ble_eq_true rfl⟩ q_frI (g_M_0 cI a σ) rfl rfl (Nat.le_of_ble_eq_true rfl) ⟨Nat.zero_le _, Nat.zero_le _⟩ dX8_then_2 h (fun x6 H locs s5 hP hS h => ?_)
  refine lv_if_eq (tgt := 36) hx hb dX8_then_5 (by decide) (fun c7 => ?_) (fun c7 => ?_)
  · have h := if_t c7 h
    refine lv_iconst (v := (-1)) hx hb dX8_then_36 (by decide +kernel) ?_
    exact x_iret (p_M cI a) hx hb hr hlocks hP hS dX8_then_37 h
  · have h := if_f c7 h
    refine lv_aload_n hx hb dX8_then_8 rfl (lv_at hl 0 rfl) ?_
    refine lv_iload_n hx hb dX8_then_9 rfl (lv_at hl 2 rfl) ?_
    refine x_cVi (p_M cI a) (p_M cI a) (fun τ => τ) [] [.int x2] hx hb hml hl.1 hown hts hK hP hD hS hA rfl (c_X8_isRouter l D cI tys ht a s5 x2) gX8_then_X8_isRouter rfl ⟨rfl, rfl⟩ i_X8_isRouter ⟨Nat.le_of_ble_eq_true rfl, Nat.le_of_ble_eq_true rfl⟩ q_frI (g_M_0 cI a s5) rfl rfl (Nat.le_of_ble_eq_true rfl) ⟨Nat.zero_le _, Nat.zero_le _⟩ dX8_then_10 h (fun x9 H locs s8 hP hS h => ?_)
    refine lv_if_eq (tgt := 36) hx hb dX8_then_13 (by decide) (fun c10 => ?_) (fun c10 => ?_)
    · have h := if_t c10 h
      refine lv_iconst (v := (-1)) hx hb dX8_then_36 (by decide +kernel) ?_
      exact x_iret (p_M cI a) hx hb hr hlocks hP hS dX8_then_37 h
    · have h := if_f c10 h
      refine lv_iload_n hx hb dX8_then_16 rfl (lv_at hl 3 rfl) ?_
      refine lv_iconst (v := 0) hx hb dX8_then_17 (by decide +kernel) ?_
      refine lv_bipush (v := 80) hx hb dX8_then_18 (by decide +kernel) ?_
      refine x_cSi (p_M cI a) (fun _ => []) (fun _ => s8) [] [.int x3, .int 0, .int 80] hx hb hml hl.1 hown hts hK hP hD hS hA rfl (c_X8_in l D cI tys ht s8 x3 0 80) gX8_then_X8_in rfl ⟨rfl, rfl⟩ i_X8_in ⟨Nat.le_of_ble_eq_true rfl, Nat.le_of_ble_eq_true rfl⟩ (q_fr0 (fun _ => rfl)) rfl (Nat.le_of_ble_eq_true rfl) ⟨Nat.zero_le _, Nat.zero_le _⟩ dX8_then_20 h (fun x12 H locs s11 hP hS h => ?_)
      refine lv_if_eq (tgt := 36) hx hb dX8_then_23 (by decide) (fun c13 => ?_) (fun c13 => ?_)
      · have h := if_t c13 h
        refine lv_iconst (v := (-1)) hx hb dX8_then_36 (by decide +kernel) ?_
        exact x_iret (p_M cI a) hx hb hr hlocks hP hS dX8_then_37 h
      · have h := if_f c13 h
        refine lv_iload hx hb dX8_then_26 (lv_at hl 4 rfl) ?_
        refine lv_iconst (v := 0) hx hb dX8_then_28 (by decide +kernel) ?_
        refine lv_iconst (v := 2) hx hb dX8_then_29 (by decide +kernel) ?_
        refine x_cSi (p_M cI a) (fun _ => []) (fun _ => s11) [] [.int x4, .int 0, .int 2] hx hb hml hl.1 hown hts hK hP hD hS hA rfl (c_X8_in l D cI tys ht s11 x4 0 2) gX8_then_X8_in rfl ⟨rfl, rfl⟩ i_X8_in ⟨Nat.le_of_ble_eq_true rfl, Nat.le_of_ble_eq_true rfl⟩ (q_fr0 (fun _ => rfl)) rfl (Nat.le_of_ble_eq_true rfl) ⟨Nat.zero_le _, Nat.zero_le _⟩ dX8_then_30 h (fun x15 H locs s14 hP hS h => ?_)
        refine lv_if_ne (tgt := 38) hx hb dX8_then_33 (by decide) (fun c16 => ?_) (fun c16 => ?_)
        · have h := if_f c16 h
          refine lv_aload_n hx hb dX8_then_38 rfl (lv_at hl 0 rfl) ?_
          refine x_cVw (p_M cI a) (p_M cI (q_sw a)) [] [] hx hb hml hl.1 hown hts hK hP hD hS hA rfl (c_X8_think l D cI tys ht a s14) gX8_then_X8_think rfl ⟨rfl, rfl⟩ i_X8_think ⟨Nat.le_of_ble_eq_true rfl, Nat.le_of_ble_eq_true rfl⟩ (g_M_0 cI a s14) rfl rfl (Nat.le_of_ble_eq_true rfl) ⟨Nat.zero_le _, Nat.zero_le _⟩ dX8_then_39 h (fun H locs s17 hP hS h => ?_)
          refine lv_iconst (v := 0) hx hb dX8_then_42 (by decide +kernel) ?_
          refine lv_istore (lv' := [(5, .int 0), (0, .ref (a 0)), (1, .int x1), (2, .int x2), (3, .int x3), (4, .int x4)]) hx hb dX8_then_43 hl (by decide) rfl (fun ls hl => ?_)
          exact i45 s17 x1 x2 x3 x4 0 _ _ _ h hP hS (lv_sub hl [1, 2, 3, 4, 5, 0] rfl)
        · have h := if_t c16 h
          refine lv_iconst (v := (-1)) hx hb dX8_then_36 (by decide +kernel) ?_
          exact x_iret (p_M cI a) hx hb hr hlocks hP hS dX8_then_37 h
/-! ===== VectorRoundsModel.counts(II)I: world M ===== -/
theorem i_X8_counts : yX8_counts.cls = RX8 ∧ yX8_counts.cls ≠ "java/lang/invoke/MethodHandle" ∧ yX8_counts.cls ≠ "java/lang/invoke/VarHandle" ∧ (parseMethodDescriptor yX8_counts.desc).map (fun d => d.parameters.length) = some 2 := by decide +kernel
theorem k_X8_counts_f7 : Cond.fieldLink RX8 7 RX8 "s" "[I" ∈ wsX8_counts := by decide +kernel
theorem u_X8_counts_8 : ∀ w ∈ u_ws RX8 TX8 26, w ∈ wsX8_counts := by decide +kernel
set_option maxHeartbeats 4000000 in
set_option maxRecDepth 100000 in
theorem c_X8_counts (l : Launch) (D : va_G) (cI : ClassId) (tys : List (ClassId × FieldType)) (ht : tys[0]? = some (cI, .int)) (a : Nat → Nat) (σ : qM) (x1 : Int32) (x2 : Int32) : q_Met l yX8_counts wsX8_counts ({ frames := 3, cells := 0, slots := 0, locals := 121 }) [.ref (a 0), .int x1, .int x2] D tys (p_M cI a) σ (f_X8_counts σ x1 x2) := by
  refine x_ofWi (cc := cX8_counts) (maxL := 6) (ret := (some .int)) (by decide +kernel) rfl (pf_M cI a) (Nat.le_of_ble_eq_true rfl) ?_
  intro p e s m below meth c A ls qq h hx hb hml hr hlocks hown hts hK hP hD hA hS hl
  have hown : s.vm.findClass RX8 = some m.cls := hown
  have hl : lv_has ls 6 [(0, .ref (a 0)), (1, .int x1), (2, .int x2)] := hl
  have hDs : ∀ σ1, va_D A (p_M cI (q_sw a) σ1) := fun σ1 => q_D_sw (hD σ1)
  have main : ∀ k9 : Nat, (∀ (σ : qM) (x10 x11 x12 x13 : Int32) (H : Heap) (locs : List Loc) (ls : Array Slot), q_it (D_X8_counts) k9 0 σ [x10, x11, x12, x13] = some qq → va_P D vwCl (p_M cI (q_sw a) σ) H → va_S A s.heap H locs → lv_has ls 6 [(0, .ref (a 0)), (1, .int x10), (2, .int x11), (3, .int x12), (4, .int x13)] → W p l e ({ frames := 3, cells := 0, slots := 0, locals := 121 }) s m [.ref (a 0), .int x1, .int x2].toArray below meth c H locs 0 0 (MQ below (va_Qi (fun r τ => (r, τ) = qq) (fun τ t => va_P D vwCl ((p_M cI a) τ) t.heap) A) [.ref (a 0), .int x1, .int x2].toArray s 0 0 A) (F0 m 28 ls [])) := by
    intro k9
    induction k9 with
    | zero => exact (fun _ _ _ _ _ _ _ _ h _ _ _ => (q_no (show (none : qR) = some qq from h)).elim)
    | succ k9 ih =>
      have i28 := ih
      refine ?_
      · intro σ x10 x11 x12 x13 H locs ls h hP hS hl
        have h : b_X8_counts_28 (q_it (D_X8_counts) k9) σ x10 x11 x12 x13 = some qq := h
        unfold b_X8_counts_28 at h
        refine lv_iload hx hb dX8_counts_28 (lv_at hl 4 rfl) ?_
        refine lv_bipush (v := 80) hx hb dX8_counts_30 (by decide +kernel) ?_
        refine lv_icmp_gt (tgt := 84) hx hb dX8_counts_32 (by decide) (fun c14 => ?_) (fun c14 => ?_)
        · have h := if_t c14 h
          refine lv_aload_n hx hb dX8_counts_84 rfl (lv_at hl 0 rfl) ?_
          refine x_cVw (p_M cI (q_sw a)) (p_M cI (q_sw (q_sw a))) [] [] hx hb hml hl.1 hown hts hK hP hDs hS hA rfl (c_X8_wake l D cI tys ht (q_sw a) σ) gX8_counts_X8_wake rfl ⟨rfl, rfl⟩ i_X8_wake ⟨Nat.le_of_ble_eq_true rfl, Nat.le_of_ble_eq_true rfl⟩ (g_M_0 cI (q_sw a) σ) rfl rfl (Nat.le_of_ble_eq_true rfl) ⟨Nat.zero_le _, Nat.zero_le _⟩ dX8_counts_85 h (fun H locs s15 hP hS h => ?_)
          have hP : va_P D vwCl (p_M cI a s15) H := hP
          refine lv_iload_n hx hb dX8_counts_88 rfl (lv_at hl 3 rfl) ?_
          exact x_iret (p_M cI a) hx hb hr hlocks hP hS dX8_counts_89 h
        · have h := if_f c14 h
          refine lv_iload_n hx hb dX8_counts_35 rfl (lv_at hl 3 rfl) ?_
          refine lv_bipush (v := (-2)) hx hb dX8_counts_36 (by decide +kernel) ?_
          refine lv_icmp_ne (tgt := 84) hx hb dX8_counts_38 (by decide) (fun c16 => ?_) (fun c16 => ?_)
          · have h := if_f c16 h
            refine lv_aload_n hx hb dX8_counts_84 rfl (lv_at hl 0 rfl) ?_
            refine x_cVw (p_M cI (q_sw a)) (p_M cI (q_sw (q_sw a))) [] [] hx hb hml hl.1 hown hts hK hP hDs hS hA rfl (c_X8_wake l D cI tys ht (q_sw a) σ) gX8_counts_X8_wake rfl ⟨rfl, rfl⟩ i_X8_wake ⟨Nat.le_of_ble_eq_true rfl, Nat.le_of_ble_eq_true rfl⟩ (g_M_0 cI (q_sw a) σ) rfl rfl (Nat.le_of_ble_eq_true rfl) ⟨Nat.zero_le _, Nat.zero_le _⟩ dX8_counts_85 h (fun H locs s17 hP hS h => ?_)
            have hP : va_P D vwCl (p_M cI a s17) H := hP
            refine lv_iload_n hx hb dX8_counts_88 rfl (lv_at hl 3 rfl) ?_
            exact x_iret (p_M cI a) hx hb hr hlocks hP hS dX8_counts_89 h
          · have h := if_t c16 h
            refine lv_aload_n hx hb dX8_counts_41 rfl (lv_at hl 0 rfl) ?_
            refine lv_iload_n hx hb dX8_counts_42 rfl (lv_at hl 1 rfl) ?_
            refine lv_iload_n hx hb dX8_counts_43 rfl (lv_at hl 2 rfl) ?_
            refine x_cVi (p_M cI (q_sw a)) (p_M cI (q_sw a)) (fun τ => τ) [] [.int x10, .int x11] hx hb hml hl.1 hown hts hK hP hDs hS hA rfl (c_X8_entryOf l D cI tys ht (q_sw a) σ x10 x11) gX8_counts_X8_entryOf rfl ⟨rfl, rfl⟩ i_X8_entryOf ⟨Nat.le_of_ble_eq_true rfl, Nat.le_of_ble_eq_true rfl⟩ q_frI (g_M_0 cI (q_sw a) σ) rfl rfl (Nat.le_of_ble_eq_true rfl) ⟨Nat.zero_le _, Nat.zero_le _⟩ dX8_counts_44 h (fun x19 H locs s18 hP hS h => ?_)
            refine lv_istore (lv' := [(5, .int x19), (0, .ref (a 0)), (1, .int x10), (2, .int x11), (3, .int x12), (4, .int x13)]) hx hb dX8_counts_47 hl (by decide) rfl (fun ls hl => ?_)
            refine lv_iload hx hb dX8_counts_49 (lv_at hl 0 rfl) ?_
            refine lv_if_lt (tgt := 70) hx hb dX8_counts_51 (by decide) (fun c20 => ?_) (fun c20 => ?_)
            · have h := if_t c20 h
              refine lv_iload hx hb dX8_counts_70 (lv_at hl 5 rfl) ?_
              refine lv_istore_n (lv' := [(3, .int x13), (5, .int x19), (0, .ref (a 0)), (1, .int x10), (2, .int x11), (4, .int x13)]) hx hb dX8_counts_72 rfl hl (by decide) rfl (fun ls hl => ?_)
              refine lv_aload_n hx hb dX8_counts_73 rfl (lv_at hl 2 rfl) ?_
              refine x_cVi (p_M cI (q_sw a)) (p_M cI (q_sw a)) (fun τ => τ) [] [] hx hb hml hl.1 hown hts hK hP hDs hS hA rfl (c_X8_goRound l D cI tys ht (q_sw a) s18) gX8_counts_X8_goRound rfl ⟨rfl, rfl⟩ i_X8_goRound ⟨Nat.le_of_ble_eq_true rfl, Nat.le_of_ble_eq_true rfl⟩ q_frI (g_M_0 cI (q_sw a) s18) rfl rfl (Nat.le_of_ble_eq_true rfl) ⟨Nat.zero_le _, Nat.zero_le _⟩ dX8_counts_74 h (fun x22 H locs s21 hP hS h => ?_)
              refine lv_pop hx hb dX8_counts_77 rfl ?_
              refine x_iinc (k := 5) (w := 1) hx hb dX8_counts_78 hl rfl (by decide +kernel) (by decide) (fun v9 => [(4, .int v9), (3, .int x13), (5, .int x19), (0, .ref (a 0)), (1, .int x10), (2, .int x11)]) (fun v9 => rfl) h (fun x23 ls hl h => ?_)
              have hl : lv_has ls 6 [(4, .int x23), (3, .int x13), (5, .int x19), (0, .ref (a 0)), (1, .int x10), (2, .int x11)] := hl
              refine lv_goto (tgt := 28) hx hb dX8_counts_81 (by decide) ?_
              exact i28 s21 x10 x11 x13 x23 _ _ _ h hP hS (lv_sub hl [3, 4, 5, 1, 0] rfl)
            · have h := if_f c20 h
              refine lv_aload_n hx hb dX8_counts_54 rfl (lv_at hl 1 rfl) ?_
              refine x_getr (C := RX8) (k := 1) hx hb hts u_X8_counts_8 hown hK hP (g_M_0 cI (q_sw a) s18) rfl (by decide) ⟨rfl, rfl, rfl⟩ k_X8_counts_f7 rfl dX8_counts_55 ?_
              refine lv_sipush (v := 250) hx hb dX8_counts_58 (by decide +kernel) ?_
              refine lv_iload hx hb dX8_counts_61 (lv_at hl 0 rfl) ?_
              refine x_iadd hx hb dX8_counts_63 h (fun x24 h => ?_)
              refine x_iald (t0 := 0) hx hb hK hP ht h (g_M_1 cI (q_sw a) s18) dX8_counts_64 (fun x25 h => ?_)
              refine lv_bipush (v := 16) hx hb dX8_counts_65 (by decide +kernel) ?_
              refine lv_icmp_ne (tgt := 73) hx hb dX8_counts_67 (by decide) (fun c26 => ?_) (fun c26 => ?_)
              · have h := if_f c26 h
                refine lv_aload_n hx hb dX8_counts_73 rfl (lv_at hl 1 rfl) ?_
                refine x_cVi (p_M cI (q_sw a)) (p_M cI (q_sw a)) (fun τ => τ) [] [] hx hb hml hl.1 hown hts hK hP hDs hS hA rfl (c_X8_goRound l D cI tys ht (q_sw a) s18) gX8_counts_X8_goRound rfl ⟨rfl, rfl⟩ i_X8_goRound ⟨Nat.le_of_ble_eq_true rfl, Nat.le_of_ble_eq_true rfl⟩ q_frI (g_M_0 cI (q_sw a) s18) rfl rfl (Nat.le_of_ble_eq_true rfl) ⟨Nat.zero_le _, Nat.zero_le _⟩ dX8_counts_74 h (fun x28 H locs s27 hP hS h => ?_)
                refine lv_pop hx hb dX8_counts_77 rfl ?_
                refine x_iinc (k := 5) (w := 1) hx hb dX8_counts_78 hl rfl (by decide +kernel) (by decide) (fun v9 => [(4, .int v9), (5, .int x19), (0, .ref (a 0)), (1, .int x10), (2, .int x11), (3, .int x12)]) (fun v9 => rfl) h (fun x29 ls hl h => ?_)
                have hl : lv_has ls 6 [(4, .int x29), (5, .int x19), (0, .ref (a 0)), (1, .int x10), (2, .int x11), (3, .int x12)] := hl
                refine lv_goto (tgt := 28) hx hb dX8_counts_81 (by decide) ?_
                exact i28 s27 x10 x11 x12 x29 _ _ _ h hP hS (lv_sub hl [2, 3, 4, 5, 0] rfl)
              · have h := if_t c26 h
                refine lv_iload hx hb dX8_counts_70 (lv_at hl 5 rfl) ?_
                refine lv_istore_n (lv' := [(3, .int x13), (5, .int x19), (0, .ref (a 0)), (1, .int x10), (2, .int x11), (4, .int x13)]) hx hb dX8_counts_72 rfl hl (by decide) rfl (fun ls hl => ?_)
                refine lv_aload_n hx hb dX8_counts_73 rfl (lv_at hl 2 rfl) ?_
                refine x_cVi (p_M cI (q_sw a)) (p_M cI (q_sw a)) (fun τ => τ) [] [] hx hb hml hl.1 hown hts hK hP hDs hS hA rfl (c_X8_goRound l D cI tys ht (q_sw a) s18) gX8_counts_X8_goRound rfl ⟨rfl, rfl⟩ i_X8_goRound ⟨Nat.le_of_ble_eq_true rfl, Nat.le_of_ble_eq_true rfl⟩ q_frI (g_M_0 cI (q_sw a) s18) rfl rfl (Nat.le_of_ble_eq_true rfl) ⟨Nat.zero_le _, Nat.zero_le _⟩ dX8_counts_74 h (fun x31 H locs s30 hP hS h => ?_)
                refine lv_pop hx hb dX8_counts_77 rfl ?_
                refine x_iinc (k := 5) (w := 1) hx hb dX8_counts_78 hl rfl (by decide +kernel) (by decide) (fun v9 => [(4, .int v9), (3, .int x13), (5, .int x19), (0, .ref (a 0)), (1, .int x10), (2, .int x11)]) (fun v9 => rfl) h (fun x32 ls hl h => ?_)
                have hl : lv_has ls 6 [(4, .int x32), (3, .int x13), (5, .int x19), (0, .ref (a 0)), (1, .int x10), (2, .int x11)] := hl
                refine lv_goto (tgt := 28) hx hb dX8_counts_81 (by decide) ?_
                exact i28 s30 x10 x11 x13 x32 _ _ _ h hP hS (lv_sub hl [3, 4, 5, 1, 0] rfl)
  have i28 : ∀ (σ : qM) (x10 x11 x12 x13 : Int32) (H : Heap) (locs : List Loc) (ls : Array Slot), q_lim (D_X8_counts) 0 σ [x10, x11, x12, x13] = some qq → va_P D vwCl (p_M cI (q_sw a) σ) H → va_S A s.heap H locs → lv_has ls 6 [(0, .ref (a 0)), (1, .int x10), (2, .int x11), (3, .int x12), (4, .int x13)] → W p l e ({ frames := 3, cells := 0, slots := 0, locals := 121 }) s m [.ref (a 0), .int x1, .int x2].toArray below meth c H locs 0 0 (MQ below (va_Qi (fun r τ => (r, τ) = qq) (fun τ t => va_P D vwCl ((p_M cI a) τ) t.heap) A) [.ref (a 0), .int x1, .int x2].toArray s 0 0 A) (F0 m 28 ls []) := by
    intro σ x10 x11 x12 x13 H locs ls h hP hS hl
    obtain ⟨k9, h⟩ := q_lim_n h
    exact (main k9) σ x10 x11 x12 x13 H locs ls h hP hS hl
  have h : e_X8_counts (q_lim (D_X8_counts)) σ x1 x2 = some qq := h
  unfold e_X8_counts at h
  refine lv_aload_n hx hb dX8_counts_0 rfl (lv_at hl 0 rfl) ?_
  refine lv_iload_n hx hb dX8_counts_1 rfl (lv_at hl 1 rfl) ?_
  refine x_cVi (p_M cI a) (p_M cI a) (fun τ => τ) [] [.int x1] hx hb hml hl.1 hown hts hK hP hD hS hA rfl (c_X8_isRouter l D cI tys ht a σ x1) gX8_counts_X8_isRouter rfl ⟨rfl, rfl⟩ i_X8_isRouter ⟨Nat.le_of_ble_eq_true rfl, Nat.le_of_ble_eq_true rfl⟩ q_frI (g_M_0 cI a σ) rfl rfl (Nat.le_of_ble_eq_true rfl) ⟨Nat.zero_le _, Nat.zero_le _⟩ dX8_counts_2 h (fun x4 H locs s3 hP hS h => ?_)
  refine lv_if_eq (tgt := 16) hx hb dX8_counts_5 (by decide) (fun c5 => ?_) (fun c5 => ?_)
  · have h := if_t c5 h
    refine lv_iconst (v := (-1)) hx hb dX8_counts_16 (by decide +kernel) ?_
    exact x_iret (p_M cI a) hx hb hr hlocks hP hS dX8_counts_17 h
  · have h := if_f c5 h
    refine lv_aload_n hx hb dX8_counts_8 rfl (lv_at hl 0 rfl) ?_
    refine lv_iload_n hx hb dX8_counts_9 rfl (lv_at hl 2 rfl) ?_
    refine x_cVi (p_M cI a) (p_M cI a) (fun τ => τ) [] [.int x2] hx hb hml hl.1 hown hts hK hP hD hS hA rfl (c_X8_isRouter l D cI tys ht a s3 x2) gX8_counts_X8_isRouter rfl ⟨rfl, rfl⟩ i_X8_isRouter ⟨Nat.le_of_ble_eq_true rfl, Nat.le_of_ble_eq_true rfl⟩ q_frI (g_M_0 cI a s3) rfl rfl (Nat.le_of_ble_eq_true rfl) ⟨Nat.zero_le _, Nat.zero_le _⟩ dX8_counts_10 h (fun x7 H locs s6 hP hS h => ?_)
    refine lv_if_ne (tgt := 18) hx hb dX8_counts_13 (by decide) (fun c8 => ?_) (fun c8 => ?_)
    · have h := if_f c8 h
      refine lv_aload_n hx hb dX8_counts_18 rfl (lv_at hl 0 rfl) ?_
      refine x_cVw (p_M cI a) (p_M cI (q_sw a)) [] [] hx hb hml hl.1 hown hts hK hP hD hS hA rfl (c_X8_think l D cI tys ht a s6) gX8_counts_X8_think rfl ⟨rfl, rfl⟩ i_X8_think ⟨Nat.le_of_ble_eq_true rfl, Nat.le_of_ble_eq_true rfl⟩ (g_M_0 cI a s6) rfl rfl (Nat.le_of_ble_eq_true rfl) ⟨Nat.zero_le _, Nat.zero_le _⟩ dX8_counts_19 h (fun H locs s9 hP hS h => ?_)
      refine lv_bipush (v := (-2)) hx hb dX8_counts_22 (by decide +kernel) ?_
      refine lv_istore_n (lv' := [(3, .int (-2)), (0, .ref (a 0)), (1, .int x1), (2, .int x2)]) hx hb dX8_counts_24 rfl hl (by decide) rfl (fun ls hl => ?_)
      refine lv_iconst (v := 0) hx hb dX8_counts_25 (by decide +kernel) ?_
      refine lv_istore (lv' := [(4, .int 0), (3, .int (-2)), (0, .ref (a 0)), (1, .int x1), (2, .int x2)]) hx hb dX8_counts_26 hl (by decide) rfl (fun ls hl => ?_)
      exact i28 s9 x1 x2 (-2) 0 _ _ _ h hP hS (lv_sub hl [2, 3, 4, 1, 0] rfl)
    · have h := if_t c8 h
      refine lv_iconst (v := (-1)) hx hb dX8_counts_16 (by decide +kernel) ?_
      exact x_iret (p_M cI a) hx hb hr hlocks hP hS dX8_counts_17 h
/-! ===== VectorRoundsModel.packet(IIII)I: world M ===== -/
theorem i_X8_packet : yX8_packet.cls = RX8 ∧ yX8_packet.cls ≠ "java/lang/invoke/MethodHandle" ∧ yX8_packet.cls ≠ "java/lang/invoke/VarHandle" ∧ (parseMethodDescriptor yX8_packet.desc).map (fun d => d.parameters.length) = some 4 := by decide +kernel
set_option maxHeartbeats 4000000 in
set_option maxRecDepth 100000 in
theorem c_X8_packet (l : Launch) (D : va_G) (cI : ClassId) (tys : List (ClassId × FieldType)) (ht : tys[0]? = some (cI, .int)) (a : Nat → Nat) (σ : qM) (x1 : Int32) (x2 : Int32) (x3 : Int32) (x4 : Int32) : q_Met l yX8_packet wsX8_packet ({ frames := 3, cells := 0, slots := 0, locals := 121 }) [.ref (a 0), .int x1, .int x2, .int x3, .int x4] D tys (p_M cI a) σ (f_X8_packet σ x1 x2 x3 x4) := by
  refine x_ofWi (cc := cX8_packet) (maxL := 7) (ret := (some .int)) (by decide +kernel) rfl (pf_M cI a) (Nat.le_of_ble_eq_true rfl) ?_
  intro p e s m below meth c A ls qq h hx hb hml hr hlocks hown hts hK hP hD hA hS hl
  have hown : s.vm.findClass RX8 = some m.cls := hown
  have hl : lv_has ls 7 [(0, .ref (a 0)), (1, .int x1), (2, .int x2), (3, .int x3), (4, .int x4)] := hl
  have hDs : ∀ σ1, va_D A (p_M cI (q_sw a) σ1) := fun σ1 => q_D_sw (hD σ1)
  have main : ∀ k9 : Nat, (∀ (σ : qM) (x18 x19 x20 x21 x22 : Int32) (H : Heap) (locs : List Loc) (ls : Array Slot), q_it (D_X8_packet) k9 0 σ [x18, x19, x20, x21, x22] = some qq → va_P D vwCl (p_M cI (q_sw a) σ) H → va_S A s.heap H locs → lv_has ls 7 [(0, .ref (a 0)), (2, .int x18), (3, .int x19), (4, .int x20), (5, .int x21), (6, .int x22)] → W p l e ({ frames := 3, cells := 0, slots := 0, locals := 121 }) s m [.ref (a 0), .int x1, .int x2, .int x3, .int x4].toArray below meth c H locs 0 0 (MQ below (va_Qi (fun r τ => (r, τ) = qq) (fun τ t => va_P D vwCl ((p_M cI a) τ) t.heap) A) [.ref (a 0), .int x1, .int x2, .int x3, .int x4].toArray s 0 0 A) (F0 m 48 ls [])) ∧ (∀ (σ : qM) (x24 x25 x26 : Int32) (H : Heap) (locs : List Loc) (ls : Array Slot), q_it (D_X8_packet) k9 1 σ [x24, x25, x26] = some qq → va_P D vwCl (p_M cI (q_sw a) σ) H → va_S A s.heap H locs → lv_has ls 7 [(0, .ref (a 0)), (4, .int x24), (5, .int x25), (6, .int x26)] → W p l e ({ frames := 3, cells := 0, slots := 0, locals := 121 }) s m [.ref (a 0), .int x1, .int x2, .int x3, .int x4].toArray below meth c H locs 0 0 (MQ below (va_Qi (fun r τ => (r, τ) = qq) (fun τ t => va_P D vwCl ((p_M cI a) τ) t.heap) A) [.ref (a 0), .int x1, .int x2, .int x3, .int x4].toArray s 0 0 A) (F0 m 90 ls [])) := by
    intro k9
    induction k9 with
    | zero => exact ⟨(fun _ _ _ _ _ _ _ _ _ h _ _ _ => (q_no (show (none : qR) = some qq from h)).elim), (fun _ _ _ _ _ _ _ h _ _ _ => (q_no (show (none : qR) = some qq from h)).elim)⟩
    | succ k9 ih =>
      obtain ⟨i48, i90⟩ := ih
      refine ⟨?_, ?_⟩
      · intro σ x18 x19 x20 x21 x22 H locs ls h hP hS hl
        have h : b_X8_packet_48 (q_it (D_X8_packet) k9) σ x18 x19 x20 x21 x22 = some qq := h
        unfold b_X8_packet_48 at h
        refine lv_iload hx hb dX8_packet_48 (lv_at hl 5 rfl) ?_
        refine lv_iload_n hx hb dX8_packet_50 rfl (lv_at hl 2 rfl) ?_
        refine lv_icmp_ge (tgt := 90) hx hb dX8_packet_51 (by decide) (fun c23 => ?_) (fun c23 => ?_)
        · have h := if_t c23 h
          exact i90 σ x20 x21 x22 _ _ _ h hP hS (lv_sub hl [0, 3, 4, 5] rfl)
        · have h := if_f c23 h
          refine lv_iload hx hb dX8_packet_54 (lv_at hl 4 rfl) ?_
          refine lv_iload_n hx hb dX8_packet_56 rfl (lv_at hl 1 rfl) ?_
          refine lv_icmp_eq (tgt := 90) hx hb dX8_packet_57 (by decide) (fun c27 => ?_) (fun c27 => ?_)
          · have h := if_t c27 h
            exact i90 σ x20 x21 x22 _ _ _ h hP hS (lv_sub hl [0, 3, 4, 5] rfl)
          · have h := if_f c27 h
            refine lv_aload_n hx hb dX8_packet_60 rfl (lv_at hl 0 rfl) ?_
            refine lv_iload hx hb dX8_packet_61 (lv_at hl 4 rfl) ?_
            refine lv_iload_n hx hb dX8_packet_63 rfl (lv_at hl 1 rfl) ?_
            refine x_cVi (p_M cI (q_sw a)) (p_M cI (q_sw a)) (fun τ => τ) [] [.int x21, .int x18] hx hb hml hl.1 hown hts hK hP hDs hS hA rfl (c_X8_nextOf l D cI tys ht (q_sw a) σ x21 x18) gX8_packet_X8_nextOf rfl ⟨rfl, rfl⟩ i_X8_nextOf ⟨Nat.le_of_ble_eq_true rfl, Nat.le_of_ble_eq_true rfl⟩ q_frI (g_M_0 cI (q_sw a) σ) rfl rfl (Nat.le_of_ble_eq_true rfl) ⟨Nat.zero_le _, Nat.zero_le _⟩ dX8_packet_64 h (fun x29 H locs s28 hP hS h => ?_)
            refine lv_if_lt (tgt := 90) hx hb dX8_packet_67 (by decide) (fun c30 => ?_) (fun c30 => ?_)
            · have h := if_t c30 h
              exact i90 s28 x20 x21 x22 _ _ _ h hP hS (lv_sub hl [0, 3, 4, 5] rfl)
            · have h := if_f c30 h
              refine lv_aload_n hx hb dX8_packet_70 rfl (lv_at hl 0 rfl) ?_
              refine lv_iload hx hb dX8_packet_71 (lv_at hl 4 rfl) ?_
              refine lv_iload_n hx hb dX8_packet_73 rfl (lv_at hl 1 rfl) ?_
              refine x_cVi (p_M cI (q_sw a)) (p_M cI (q_sw a)) (fun τ => τ) [] [.int x21, .int x18] hx hb hml hl.1 hown hts hK hP hDs hS hA rfl (c_X8_nextOf l D cI tys ht (q_sw a) s28 x21 x18) gX8_packet_X8_nextOf rfl ⟨rfl, rfl⟩ i_X8_nextOf ⟨Nat.le_of_ble_eq_true rfl, Nat.le_of_ble_eq_true rfl⟩ q_frI (g_M_0 cI (q_sw a) s28) rfl rfl (Nat.le_of_ble_eq_true rfl) ⟨Nat.zero_le _, Nat.zero_le _⟩ dX8_packet_74 h (fun x32 H locs s31 hP hS h => ?_)
              refine lv_istore (lv' := [(5, .int x32), (0, .ref (a 0)), (2, .int x18), (3, .int x19), (4, .int x20), (6, .int x22)]) hx hb dX8_packet_77 hl (by decide) rfl (fun ls hl => ?_)
              refine x_iinc (k := 5) (w := 1) hx hb dX8_packet_79 hl rfl (by decide +kernel) (by decide) (fun v9 => [(6, .int v9), (5, .int x32), (0, .ref (a 0)), (2, .int x18), (3, .int x19), (4, .int x20)]) (fun v9 => rfl) h (fun x33 ls hl h => ?_)
              have hl : lv_has ls 7 [(6, .int x33), (5, .int x32), (0, .ref (a 0)), (2, .int x18), (3, .int x19), (4, .int x20)] := hl
              refine lv_aload_n hx hb dX8_packet_82 rfl (lv_at hl 2 rfl) ?_
              refine x_cVi (p_M cI (q_sw a)) (p_M cI (q_sw a)) (fun τ => τ) [] [] hx hb hml hl.1 hown hts hK hP hDs hS hA rfl (c_X8_goRound l D cI tys ht (q_sw a) s31) gX8_packet_X8_goRound rfl ⟨rfl, rfl⟩ i_X8_goRound ⟨Nat.le_of_ble_eq_true rfl, Nat.le_of_ble_eq_true rfl⟩ q_frI (g_M_0 cI (q_sw a) s31) rfl rfl (Nat.le_of_ble_eq_true rfl) ⟨Nat.zero_le _, Nat.zero_le _⟩ dX8_packet_83 h (fun x35 H locs s34 hP hS h => ?_)
              refine lv_pop hx hb dX8_packet_86 rfl ?_
              refine lv_goto (tgt := 48) hx hb dX8_packet_87 (by decide) ?_
              exact i48 s34 x18 x19 x20 x32 x33 _ _ _ h hP hS (lv_sub hl [2, 3, 4, 5, 1, 0] rfl)
      · intro σ x24 x25 x26 H locs ls h hP hS hl
        have h : b_X8_packet_90 (q_it (D_X8_packet) k9) σ x24 x25 x26 = some qq := h
        unfold b_X8_packet_90 at h
        refine lv_aload_n hx hb dX8_packet_90 rfl (lv_at hl 0 rfl) ?_
        refine x_cVw (p_M cI (q_sw a)) (p_M cI (q_sw (q_sw a))) [] [] hx hb hml hl.1 hown hts hK hP hDs hS hA rfl (c_X8_wake l D cI tys ht (q_sw a) σ) gX8_packet_X8_wake rfl ⟨rfl, rfl⟩ i_X8_wake ⟨Nat.le_of_ble_eq_true rfl, Nat.le_of_ble_eq_true rfl⟩ (g_M_0 cI (q_sw a) σ) rfl rfl (Nat.le_of_ble_eq_true rfl) ⟨Nat.zero_le _, Nat.zero_le _⟩ dX8_packet_91 h (fun H locs s36 hP hS h => ?_)
        have hP : va_P D vwCl (p_M cI a s36) H := hP
        refine lv_iload hx hb dX8_packet_94 (lv_at hl 1 rfl) ?_
        refine lv_if_ne (tgt := 104) hx hb dX8_packet_96 (by decide) (fun c37 => ?_) (fun c37 => ?_)
        · have h := if_f c37 h
          refine lv_iload hx hb dX8_packet_104 (lv_at hl 3 rfl) ?_
          exact x_iret (p_M cI a) hx hb hr hlocks hP hS dX8_packet_106 h
        · have h := if_t c37 h
          refine lv_iload hx hb dX8_packet_99 (lv_at hl 2 rfl) ?_
          refine lv_goto (tgt := 106) hx hb dX8_packet_101 (by decide) ?_
          exact x_iret (p_M cI a) hx hb hr hlocks hP hS dX8_packet_106 h
  have i48 : ∀ (σ : qM) (x18 x19 x20 x21 x22 : Int32) (H : Heap) (locs : List Loc) (ls : Array Slot), q_lim (D_X8_packet) 0 σ [x18, x19, x20, x21, x22] = some qq → va_P D vwCl (p_M cI (q_sw a) σ) H → va_S A s.heap H locs → lv_has ls 7 [(0, .ref (a 0)), (2, .int x18), (3, .int x19), (4, .int x20), (5, .int x21), (6, .int x22)] → W p l e ({ frames := 3, cells := 0, slots := 0, locals := 121 }) s m [.ref (a 0), .int x1, .int x2, .int x3, .int x4].toArray below meth c H locs 0 0 (MQ below (va_Qi (fun r τ => (r, τ) = qq) (fun τ t => va_P D vwCl ((p_M cI a) τ) t.heap) A) [.ref (a 0), .int x1, .int x2, .int x3, .int x4].toArray s 0 0 A) (F0 m 48 ls []) := by
    intro σ x18 x19 x20 x21 x22 H locs ls h hP hS hl
    obtain ⟨k9, h⟩ := q_lim_n h
    exact (main k9).1 σ x18 x19 x20 x21 x22 H locs ls h hP hS hl
  have i90 : ∀ (σ : qM) (x24 x25 x26 : Int32) (H : Heap) (locs : List Loc) (ls : Array Slot), q_lim (D_X8_packet) 1 σ [x24, x25, x26] = some qq → va_P D vwCl (p_M cI (q_sw a) σ) H → va_S A s.heap H locs → lv_has ls 7 [(0, .ref (a 0)), (4, .int x24), (5, .int x25), (6, .int x26)] → W p l e ({ frames := 3, cells := 0, slots := 0, locals := 121 }) s m [.ref (a 0), .int x1, .int x2, .int x3, .int x4].toArray below meth c H locs 0 0 (MQ below (va_Qi (fun r τ => (r, τ) = qq) (fun τ t => va_P D vwCl ((p_M cI a) τ) t.heap) A) [.ref (a 0), .int x1, .int x2, .int x3, .int x4].toArray s 0 0 A) (F0 m 90 ls []) := by
    intro σ x24 x25 x26 H locs ls h hP hS hl
    obtain ⟨k9, h⟩ := q_lim_n h
    exact (main k9).2 σ x24 x25 x26 H locs ls h hP hS hl
  have h : e_X8_packet (q_lim (D_X8_packet)) σ x1 x2 x3 x4 = some qq := h
  unfold e_X8_packet at h
  refine lv_aload_n hx hb dX8_packet_0 rfl (lv_at hl 0 rfl) ?_
  refine lv_iload_n hx hb dX8_packet_1 rfl (lv_at hl 1 rfl) ?_
  refine x_cVi (p_M cI a) (p_M cI a) (fun τ => τ) [] [.int x1] hx hb hml hl.1 hown hts hK hP hD hS hA rfl (c_X8_isRouter l D cI tys ht a σ x1) gX8_packet_X8_isRouter rfl ⟨rfl, rfl⟩ i_X8_isRouter ⟨Nat.le_of_ble_eq_true rfl, Nat.le_of_ble_eq_true rfl⟩ q_frI (g_M_0 cI a σ) rfl rfl (Nat.le_of_ble_eq_true rfl) ⟨Nat.zero_le _, Nat.zero_le _⟩ dX8_packet_2 h (fun x6 H locs s5 hP hS h => ?_)
  refine lv_if_eq (tgt := 36) hx hb dX8_packet_5 (by decide) (fun c7 => ?_) (fun c7 => ?_)
  · have h := if_t c7 h
    refine lv_iconst (v := (-1)) hx hb dX8_packet_36 (by decide +kernel) ?_
    exact x_iret (p_M cI a) hx hb hr hlocks hP hS dX8_packet_37 h
  · have h := if_f c7 h
    refine lv_aload_n hx hb dX8_packet_8 rfl (lv_at hl 0 rfl) ?_
    refine lv_iload_n hx hb dX8_packet_9 rfl (lv_at hl 2 rfl) ?_
    refine x_cVi (p_M cI a) (p_M cI a) (fun τ => τ) [] [.int x2] hx hb hml hl.1 hown hts hK hP hD hS hA rfl (c_X8_isRouter l D cI tys ht a s5 x2) gX8_packet_X8_isRouter rfl ⟨rfl, rfl⟩ i_X8_isRouter ⟨Nat.le_of_ble_eq_true rfl, Nat.le_of_ble_eq_true rfl⟩ q_frI (g_M_0 cI a s5) rfl rfl (Nat.le_of_ble_eq_true rfl) ⟨Nat.zero_le _, Nat.zero_le _⟩ dX8_packet_10 h (fun x9 H locs s8 hP hS h => ?_)
    refine lv_if_eq (tgt := 36) hx hb dX8_packet_13 (by decide) (fun c10 => ?_) (fun c10 => ?_)
    · have h := if_t c10 h
      refine lv_iconst (v := (-1)) hx hb dX8_packet_36 (by decide +kernel) ?_
      exact x_iret (p_M cI a) hx hb hr hlocks hP hS dX8_packet_37 h
    · have h := if_f c10 h
      refine lv_iload_n hx hb dX8_packet_16 rfl (lv_at hl 3 rfl) ?_
      refine lv_iconst (v := 1) hx hb dX8_packet_17 (by decide +kernel) ?_
      refine lv_bipush (v := 40) hx hb dX8_packet_18 (by decide +kernel) ?_
      refine x_cSi (p_M cI a) (fun _ => []) (fun _ => s8) [] [.int x3, .int 1, .int 40] hx hb hml hl.1 hown hts hK hP hD hS hA rfl (c_X8_in l D cI tys ht s8 x3 1 40) gX8_packet_X8_in rfl ⟨rfl, rfl⟩ i_X8_in ⟨Nat.le_of_ble_eq_true rfl, Nat.le_of_ble_eq_true rfl⟩ (q_fr0 (fun _ => rfl)) rfl (Nat.le_of_ble_eq_true rfl) ⟨Nat.zero_le _, Nat.zero_le _⟩ dX8_packet_20 h (fun x12 H locs s11 hP hS h => ?_)
      refine lv_if_eq (tgt := 36) hx hb dX8_packet_23 (by decide) (fun c13 => ?_) (fun c13 => ?_)
      · have h := if_t c13 h
        refine lv_iconst (v := (-1)) hx hb dX8_packet_36 (by decide +kernel) ?_
        exact x_iret (p_M cI a) hx hb hr hlocks hP hS dX8_packet_37 h
      · have h := if_f c13 h
        refine lv_iload hx hb dX8_packet_26 (lv_at hl 4 rfl) ?_
        refine lv_iconst (v := 0) hx hb dX8_packet_28 (by decide +kernel) ?_
        refine lv_iconst (v := 1) hx hb dX8_packet_29 (by decide +kernel) ?_
        refine x_cSi (p_M cI a) (fun _ => []) (fun _ => s11) [] [.int x4, .int 0, .int 1] hx hb hml hl.1 hown hts hK hP hD hS hA rfl (c_X8_in l D cI tys ht s11 x4 0 1) gX8_packet_X8_in rfl ⟨rfl, rfl⟩ i_X8_in ⟨Nat.le_of_ble_eq_true rfl, Nat.le_of_ble_eq_true rfl⟩ (q_fr0 (fun _ => rfl)) rfl (Nat.le_of_ble_eq_true rfl) ⟨Nat.zero_le _, Nat.zero_le _⟩ dX8_packet_30 h (fun x15 H locs s14 hP hS h => ?_)
        refine lv_if_ne (tgt := 38) hx hb dX8_packet_33 (by decide) (fun c16 => ?_) (fun c16 => ?_)
        · have h := if_f c16 h
          refine lv_aload_n hx hb dX8_packet_38 rfl (lv_at hl 0 rfl) ?_
          refine x_cVw (p_M cI a) (p_M cI (q_sw a)) [] [] hx hb hml hl.1 hown hts hK hP hD hS hA rfl (c_X8_think l D cI tys ht a s14) gX8_packet_X8_think rfl ⟨rfl, rfl⟩ i_X8_think ⟨Nat.le_of_ble_eq_true rfl, Nat.le_of_ble_eq_true rfl⟩ (g_M_0 cI a s14) rfl rfl (Nat.le_of_ble_eq_true rfl) ⟨Nat.zero_le _, Nat.zero_le _⟩ dX8_packet_39 h (fun H locs s17 hP hS h => ?_)
          refine lv_iload_n hx hb dX8_packet_42 rfl (lv_at hl 1 rfl) ?_
          refine lv_istore (lv' := [(5, .int x1), (0, .ref (a 0)), (1, .int x1), (2, .int x2), (3, .int x3), (4, .int x4)]) hx hb dX8_packet_43 hl (by decide) rfl (fun ls hl => ?_)
          refine lv_iconst (v := 0) hx hb dX8_packet_45 (by decide +kernel) ?_
          refine lv_istore (lv' := [(6, .int 0), (5, .int x1), (0, .ref (a 0)), (1, .int x1), (2, .int x2), (3, .int x3), (4, .int x4)]) hx hb dX8_packet_46 hl (by decide) rfl (fun ls hl => ?_)
          exact i48 s17 x2 x3 x4 x1 0 _ _ _ h hP hS (lv_sub hl [2, 4, 5, 6, 1, 0] rfl)
        · have h := if_t c16 h
          refine lv_iconst (v := (-1)) hx hb dX8_packet_36 (by decide +kernel) ?_
          exact x_iret (p_M cI a) hx hb hr hlocks hP hS dX8_packet_37 h
/-! ===== VectorRoundsModel.tried(I)I: world M ===== -/
theorem i_X8_tried : yX8_tried.cls = RX8 ∧ yX8_tried.cls ≠ "java/lang/invoke/MethodHandle" ∧ yX8_tried.cls ≠ "java/lang/invoke/VarHandle" ∧ (parseMethodDescriptor yX8_tried.desc).map (fun d => d.parameters.length) = some 1 := by decide +kernel
theorem k_X8_tried_f7 : Cond.fieldLink RX8 7 RX8 "s" "[I" ∈ wsX8_tried := by decide +kernel
theorem u_X8_tried_8 : ∀ w ∈ u_ws RX8 TX8 26, w ∈ wsX8_tried := by decide +kernel
set_option maxHeartbeats 4000000 in
set_option maxRecDepth 100000 in
theorem c_X8_tried (l : Launch) (D : va_G) (cI : ClassId) (tys : List (ClassId × FieldType)) (ht : tys[0]? = some (cI, .int)) (a : Nat → Nat) (σ : qM) (x1 : Int32) : q_Met l yX8_tried wsX8_tried ({ frames := 4, cells := 0, slots := 0, locals := 121 }) [.ref (a 0), .int x1] D tys (p_M cI a) σ (f_X8_tried σ x1) := by
  refine x_ofWi (cc := cX8_tried) (maxL := 7) (ret := (some .int)) (by decide +kernel) rfl (pf_M cI a) (Nat.le_of_ble_eq_true rfl) ?_
  intro p e s m below meth c A ls qq h hx hb hml hr hlocks hown hts hK hP hD hA hS hl
  have hown : s.vm.findClass RX8 = some m.cls := hown
  have hl : lv_has ls 7 [(0, .ref (a 0)), (1, .int x1)] := hl
  have hDs : ∀ σ1, va_D A (p_M cI (q_sw a) σ1) := fun σ1 => q_D_sw (hD σ1)
  have main : ∀ k9 : Nat, (∀ (σ : qM) (x5 x6 x7 x8 : Int32) (H : Heap) (locs : List Loc) (ls : Array Slot), q_it (D_X8_tried) k9 0 σ [x5, x6, x7, x8] = some qq → va_P D vwCl (p_M cI a σ) H → va_S A s.heap H locs → lv_has ls 7 [(0, .ref (a 0)), (1, .int x5), (2, .int x6), (3, .int x7), (4, .int x8)] → W p l e ({ frames := 4, cells := 0, slots := 0, locals := 121 }) s m [.ref (a 0), .int x1].toArray below meth c H locs 0 0 (MQ below (va_Qi (fun r τ => (r, τ) = qq) (fun τ t => va_P D vwCl ((p_M cI a) τ) t.heap) A) [.ref (a 0), .int x1].toArray s 0 0 A) (F0 m 20 ls [])) ∧ (∀ (σ : qM) (x24 x25 x26 x27 x28 : Int32) (H : Heap) (locs : List Loc) (ls : Array Slot), q_it (D_X8_tried) k9 1 σ [x24, x25, x26, x27, x28] = some qq → va_P D vwCl (p_M cI a σ) H → va_S A s.heap H locs → lv_has ls 7 [(0, .ref (a 0)), (1, .int x24), (2, .int x25), (3, .int x26), (4, .int x27)] → W p l e ({ frames := 4, cells := 0, slots := 0, locals := 121 }) s m [.ref (a 0), .int x1].toArray below meth c H locs 0 0 (MQ below (va_Qi (fun r τ => (r, τ) = qq) (fun τ t => va_P D vwCl ((p_M cI a) τ) t.heap) A) [.ref (a 0), .int x1].toArray s 0 0 A) (F0 m 76 ls [.int x28])) := by
    intro k9
    induction k9 with
    | zero => exact ⟨(fun _ _ _ _ _ _ _ _ h _ _ _ => (q_no (show (none : qR) = some qq from h)).elim), (fun _ _ _ _ _ _ _ _ _ h _ _ _ => (q_no (show (none : qR) = some qq from h)).elim)⟩
    | succ k9 ih =>
      obtain ⟨i20, i76⟩ := ih
      refine ⟨?_, ?_⟩
      · intro σ x5 x6 x7 x8 H locs ls h hP hS hl
        have h : b_X8_tried_20 (q_it (D_X8_tried) k9) σ x5 x6 x7 x8 = some qq := h
        unfold b_X8_tried_20 at h
        refine lv_iload hx hb dX8_tried_20 (lv_at hl 4 rfl) ?_
        refine lv_bipush (v := 6) hx hb dX8_tried_22 (by decide +kernel) ?_
        refine lv_icmp_ge (tgt := 99) hx hb dX8_tried_24 (by decide) (fun c9 => ?_) (fun c9 => ?_)
        · have h := if_t c9 h
          refine lv_iload_n hx hb dX8_tried_99 rfl (lv_at hl 1 rfl) ?_
          refine lv_if_ne (tgt := 109) hx hb dX8_tried_100 (by decide) (fun c10 => ?_) (fun c10 => ?_)
          · have h := if_f c10 h
            refine lv_iload_n hx hb dX8_tried_109 rfl (lv_at hl 1 rfl) ?_
            refine lv_iconst (v := 1) hx hb dX8_tried_110 (by decide +kernel) ?_
            refine lv_icmp_ne (tgt := 120) hx hb dX8_tried_111 (by decide) (fun c11 => ?_) (fun c11 => ?_)
            · have h := if_f c11 h
              refine lv_iload_n hx hb dX8_tried_120 rfl (lv_at hl 3 rfl) ?_
              refine lv_sipush (v := 1000) hx hb dX8_tried_121 (by decide +kernel) ?_
              refine lv_icmp_ne (tgt := 132) hx hb dX8_tried_124 (by decide) (fun c12 => ?_) (fun c12 => ?_)
              · have h := if_f c12 h
                refine lv_iload_n hx hb dX8_tried_132 rfl (lv_at hl 3 rfl) ?_
                exact x_iret (p_M cI a) hx hb hr hlocks hP hS dX8_tried_133 h
              · have h := if_t c12 h
                refine lv_bipush (v := (-2)) hx hb dX8_tried_127 (by decide +kernel) ?_
                refine lv_goto (tgt := 133) hx hb dX8_tried_129 (by decide) ?_
                exact x_iret (p_M cI a) hx hb hr hlocks hP hS dX8_tried_133 h
            · have h := if_t c11 h
              refine lv_iload_n hx hb dX8_tried_114 rfl (lv_at hl 2 rfl) ?_
              refine lv_iconst (v := 2) hx hb dX8_tried_115 (by decide +kernel) ?_
              refine x_irem hx hb dX8_tried_116 h (fun x13 h => ?_)
              refine lv_goto (tgt := 133) hx hb dX8_tried_117 (by decide) ?_
              exact x_iret (p_M cI a) hx hb hr hlocks hP hS dX8_tried_133 h
          · have h := if_t c10 h
            refine lv_iload_n hx hb dX8_tried_103 rfl (lv_at hl 2 rfl) ?_
            refine lv_iconst (v := 2) hx hb dX8_tried_104 (by decide +kernel) ?_
            refine x_idiv hx hb dX8_tried_105 h (fun x14 h => ?_)
            refine lv_goto (tgt := 133) hx hb dX8_tried_106 (by decide) ?_
            exact x_iret (p_M cI a) hx hb hr hlocks hP hS dX8_tried_133 h
        · have h := if_f c9 h
          refine lv_aload_n hx hb dX8_tried_27 rfl (lv_at hl 0 rfl) ?_
          refine x_cVw (p_M cI a) (p_M cI (q_sw a)) [] [] hx hb hml hl.1 hown hts hK hP hD hS hA rfl (c_X8_think l D cI tys ht a σ) gX8_tried_X8_think rfl ⟨rfl, rfl⟩ i_X8_think ⟨Nat.le_of_ble_eq_true rfl, Nat.le_of_ble_eq_true rfl⟩ (g_M_0 cI a σ) rfl rfl (Nat.le_of_ble_eq_true rfl) ⟨Nat.zero_le _, Nat.zero_le _⟩ dX8_tried_28 h (fun H locs s15 hP hS h => ?_)
          refine lv_aload_n hx hb dX8_tried_31 rfl (lv_at hl 0 rfl) ?_
          refine x_getr (C := RX8) (k := 1) hx hb hts u_X8_tried_8 hown hK hP (g_M_0 cI (q_sw a) s15) rfl (by decide) ⟨rfl, rfl, rfl⟩ k_X8_tried_f7 rfl dX8_tried_32 ?_
          refine lv_iconst (v := 2) hx hb dX8_tried_35 (by decide +kernel) ?_
          refine lv_iload hx hb dX8_tried_36 (lv_at hl 4 rfl) ?_
          refine lv_iconst (v := 2) hx hb dX8_tried_38 (by decide +kernel) ?_
          refine x_idiv hx hb dX8_tried_39 h (fun x16 h => ?_)
          refine x_iast (p_M cI (q_sw a)) (t0 := 0) hx hb hK hP hDs hS ht h (g_M_1 cI (q_sw a) s15) (fun j9 v9 => (s_M_1 cI (q_sw a) s15 _)) dX8_tried_40 (fun H locs s17 hP hS h => ?_)
          refine lv_aload_n hx hb dX8_tried_41 rfl (lv_at hl 0 rfl) ?_
          refine x_getr (C := RX8) (k := 1) hx hb hts u_X8_tried_8 hown hK hP (g_M_0 cI (q_sw a) s17) rfl (by decide) ⟨rfl, rfl, rfl⟩ k_X8_tried_f7 rfl dX8_tried_42 ?_
          refine lv_iconst (v := 3) hx hb dX8_tried_45 (by decide +kernel) ?_
          refine lv_iload hx hb dX8_tried_46 (lv_at hl 4 rfl) ?_
          refine lv_iconst (v := 2) hx hb dX8_tried_48 (by decide +kernel) ?_
          refine x_irem hx hb dX8_tried_49 h (fun x18 h => ?_)
          refine x_iast (p_M cI (q_sw a)) (t0 := 0) hx hb hK hP hDs hS ht h (g_M_1 cI (q_sw a) s17) (fun j9 v9 => (s_M_1 cI (q_sw a) s17 _)) dX8_tried_50 (fun H locs s19 hP hS h => ?_)
          refine lv_aload_n hx hb dX8_tried_51 rfl (lv_at hl 0 rfl) ?_
          refine x_cVi (p_M cI (q_sw a)) (p_M cI (q_sw a)) (fun τ => τ) [] [] hx hb hml hl.1 hown hts hK hP hDs hS hA rfl (c_X8_settled l D cI tys ht (q_sw a) s19) gX8_tried_X8_settled rfl ⟨rfl, rfl⟩ i_X8_settled ⟨Nat.le_of_ble_eq_true rfl, Nat.le_of_ble_eq_true rfl⟩ q_frI (g_M_0 cI (q_sw a) s19) rfl rfl (Nat.le_of_ble_eq_true rfl) ⟨Nat.zero_le _, Nat.zero_le _⟩ dX8_tried_52 h (fun x21 H locs s20 hP hS h => ?_)
          refine lv_istore (lv' := [(5, .int x21), (0, .ref (a 0)), (1, .int x5), (2, .int x6), (3, .int x7), (4, .int x8)]) hx hb dX8_tried_55 hl (by decide) rfl (fun ls hl => ?_)
          refine lv_aload_n hx hb dX8_tried_57 rfl (lv_at hl 1 rfl) ?_
          refine x_cVw (p_M cI (q_sw a)) (p_M cI (q_sw (q_sw a))) [] [] hx hb hml hl.1 hown hts hK hP hDs hS hA rfl (c_X8_wake l D cI tys ht (q_sw a) s20) gX8_tried_X8_wake rfl ⟨rfl, rfl⟩ i_X8_wake ⟨Nat.le_of_ble_eq_true rfl, Nat.le_of_ble_eq_true rfl⟩ (g_M_0 cI (q_sw a) s20) rfl rfl (Nat.le_of_ble_eq_true rfl) ⟨Nat.zero_le _, Nat.zero_le _⟩ dX8_tried_58 h (fun H locs s22 hP hS h => ?_)
          have hP : va_P D vwCl (p_M cI a s22) H := hP
          refine lv_iload hx hb dX8_tried_61 (lv_at hl 0 rfl) ?_
          refine lv_bipush (v := (-2)) hx hb dX8_tried_63 (by decide +kernel) ?_
          refine lv_icmp_ne (tgt := 74) hx hb dX8_tried_65 (by decide) (fun c23 => ?_) (fun c23 => ?_)
          · have h := if_f c23 h
            refine lv_iload hx hb dX8_tried_74 (lv_at hl 0 rfl) ?_
            exact i76 s22 x5 x6 x7 x8 x21 _ _ _ h hP hS (lv_sub hl [1, 2, 3, 4, 5] rfl)
          · have h := if_t c23 h
            refine lv_sipush (v := 1000) hx hb dX8_tried_68 (by decide +kernel) ?_
            refine lv_goto (tgt := 76) hx hb dX8_tried_71 (by decide) ?_
            exact i76 s22 x5 x6 x7 x8 1000 _ _ _ h hP hS (lv_sub hl [1, 2, 3, 4, 5] rfl)
      · intro σ x24 x25 x26 x27 x28 H locs ls h hP hS hl
        have h : b_X8_tried_76 (q_it (D_X8_tried) k9) σ x24 x25 x26 x27 x28 = some qq := h
        unfold b_X8_tried_76 at h
        refine lv_istore (lv' := [(6, .int x28), (0, .ref (a 0)), (1, .int x24), (2, .int x25), (3, .int x26), (4, .int x27)]) hx hb dX8_tried_76 hl (by decide) rfl (fun ls hl => ?_)
        refine lv_iload hx hb dX8_tried_78 (lv_at hl 0 rfl) ?_
        refine lv_iload_n hx hb dX8_tried_80 rfl (lv_at hl 4 rfl) ?_
        refine lv_icmp_lt (tgt := 87) hx hb dX8_tried_81 (by decide) (fun c29 => ?_) (fun c29 => ?_)
        · have h := if_t c29 h
          refine lv_iload hx hb dX8_tried_87 (lv_at hl 5 rfl) ?_
          refine lv_istore_n (lv' := [(2, .int x27), (6, .int x28), (0, .ref (a 0)), (1, .int x24), (3, .int x26), (4, .int x27)]) hx hb dX8_tried_89 rfl hl (by decide) rfl (fun ls hl => ?_)
          refine lv_iload hx hb dX8_tried_90 (lv_at hl 1 rfl) ?_
          refine lv_istore_n (lv' := [(3, .int x28), (2, .int x27), (6, .int x28), (0, .ref (a 0)), (1, .int x24), (4, .int x27)]) hx hb dX8_tried_92 rfl hl (by decide) rfl (fun ls hl => ?_)
          refine x_iinc (k := 5) (w := 1) hx hb dX8_tried_93 hl rfl (by decide +kernel) (by decide) (fun v9 => [(4, .int v9), (3, .int x28), (2, .int x27), (6, .int x28), (0, .ref (a 0)), (1, .int x24)]) (fun v9 => rfl) h (fun x30 ls hl h => ?_)
          have hl : lv_has ls 7 [(4, .int x30), (3, .int x28), (2, .int x27), (6, .int x28), (0, .ref (a 0)), (1, .int x24)] := hl
          refine lv_goto (tgt := 20) hx hb dX8_tried_96 (by decide) ?_
          exact i20 σ x24 x27 x28 x30 _ _ _ h hP hS (lv_sub hl [4, 5, 2, 1, 0] rfl)
        · have h := if_f c29 h
          refine lv_goto (tgt := 93) hx hb dX8_tried_84 (by decide) ?_
          refine x_iinc (k := 5) (w := 1) hx hb dX8_tried_93 hl rfl (by decide +kernel) (by decide) (fun v9 => [(4, .int v9), (6, .int x28), (0, .ref (a 0)), (1, .int x24), (2, .int x25), (3, .int x26)]) (fun v9 => rfl) h (fun x31 ls hl h => ?_)
          have hl : lv_has ls 7 [(4, .int x31), (6, .int x28), (0, .ref (a 0)), (1, .int x24), (2, .int x25), (3, .int x26)] := hl
          refine lv_goto (tgt := 20) hx hb dX8_tried_96 (by decide) ?_
          exact i20 σ x24 x25 x26 x31 _ _ _ h hP hS (lv_sub hl [2, 3, 4, 5, 0] rfl)
  have i20 : ∀ (σ : qM) (x5 x6 x7 x8 : Int32) (H : Heap) (locs : List Loc) (ls : Array Slot), q_lim (D_X8_tried) 0 σ [x5, x6, x7, x8] = some qq → va_P D vwCl (p_M cI a σ) H → va_S A s.heap H locs → lv_has ls 7 [(0, .ref (a 0)), (1, .int x5), (2, .int x6), (3, .int x7), (4, .int x8)] → W p l e ({ frames := 4, cells := 0, slots := 0, locals := 121 }) s m [.ref (a 0), .int x1].toArray below meth c H locs 0 0 (MQ below (va_Qi (fun r τ => (r, τ) = qq) (fun τ t => va_P D vwCl ((p_M cI a) τ) t.heap) A) [.ref (a 0), .int x1].toArray s 0 0 A) (F0 m 20 ls []) := by
    intro σ x5 x6 x7 x8 H locs ls h hP hS hl
    obtain ⟨k9, h⟩ := q_lim_n h
    exact (main k9).1 σ x5 x6 x7 x8 H locs ls h hP hS hl
  have i76 : ∀ (σ : qM) (x24 x25 x26 x27 x28 : Int32) (H : Heap) (locs : List Loc) (ls : Array Slot), q_lim (D_X8_tried) 1 σ [x24, x25, x26, x27, x28] = some qq → va_P D vwCl (p_M cI a σ) H → va_S A s.heap H locs → lv_has ls 7 [(0, .ref (a 0)), (1, .int x24), (2, .int x25), (3, .int x26), (4, .int x27)] → W p l e ({ frames := 4, cells := 0, slots := 0, locals := 121 }) s m [.ref (a 0), .int x1].toArray below meth c H locs 0 0 (MQ below (va_Qi (fun r τ => (r, τ) = qq) (fun τ t => va_P D vwCl ((p_M cI a) τ) t.heap) A) [.ref (a 0), .int x1].toArray s 0 0 A) (F0 m 76 ls [.int x28]) := by
    intro σ x24 x25 x26 x27 x28 H locs ls h hP hS hl
    obtain ⟨k9, h⟩ := q_lim_n h
    exact (main k9).2 σ x24 x25 x26 x27 x28 H locs ls h hP hS hl
  have h : e_X8_tried (q_lim (D_X8_tried)) σ x1 = some qq := h
  unfold e_X8_tried at h
  refine lv_iload_n hx hb dX8_tried_0 rfl (lv_at hl 1 rfl) ?_
  refine lv_iconst (v := 0) hx hb dX8_tried_1 (by decide +kernel) ?_
  refine lv_iconst (v := 2) hx hb dX8_tried_2 (by decide +kernel) ?_
  refine x_cSi (p_M cI a) (fun _ => []) (fun _ => σ) [] [.int x1, .int 0, .int 2] hx hb hml hl.1 hown hts hK hP hD hS hA rfl (c_X8_in l D cI tys ht σ x1 0 2) gX8_tried_X8_in rfl ⟨rfl, rfl⟩ i_X8_in ⟨Nat.le_of_ble_eq_true rfl, Nat.le_of_ble_eq_true rfl⟩ (q_fr0 (fun _ => rfl)) rfl (Nat.le_of_ble_eq_true rfl) ⟨Nat.zero_le _, Nat.zero_le _⟩ dX8_tried_3 h (fun x3 H locs s2 hP hS h => ?_)
  refine lv_if_ne (tgt := 11) hx hb dX8_tried_6 (by decide) (fun c4 => ?_) (fun c4 => ?_)
  · have h := if_f c4 h
    refine lv_iconst (v := 0) hx hb dX8_tried_11 (by decide +kernel) ?_
    refine lv_istore_n (lv' := [(2, .int 0), (0, .ref (a 0)), (1, .int x1)]) hx hb dX8_tried_12 rfl hl (by decide) rfl (fun ls hl => ?_)
    refine lv_sipush (v := 2000) hx hb dX8_tried_13 (by decide +kernel) ?_
    refine lv_istore_n (lv' := [(3, .int 2000), (2, .int 0), (0, .ref (a 0)), (1, .int x1)]) hx hb dX8_tried_16 rfl hl (by decide) rfl (fun ls hl => ?_)
    refine lv_iconst (v := 0) hx hb dX8_tried_17 (by decide +kernel) ?_
    refine lv_istore (lv' := [(4, .int 0), (3, .int 2000), (2, .int 0), (0, .ref (a 0)), (1, .int x1)]) hx hb dX8_tried_18 hl (by decide) rfl (fun ls hl => ?_)
    exact i20 s2 x1 0 2000 0 _ _ _ h hP hS (lv_sub hl [3, 4, 2, 1, 0] rfl)
  · have h := if_t c4 h
    refine lv_iconst (v := (-1)) hx hb dX8_tried_9 (by decide +kernel) ?_
    exact x_iret (p_M cI a) hx hb hr hlocks hP hS dX8_tried_10 h
