/-! ===== VectorRounds.settledNow()I: world V ===== -/
theorem i_X7_settledNow : yX7_settledNow.cls = RX7 ∧ yX7_settledNow.cls ≠ "java/lang/invoke/MethodHandle" ∧ yX7_settledNow.cls ≠ "java/lang/invoke/VarHandle" ∧ (parseMethodDescriptor yX7_settledNow.desc).map (fun d => d.parameters.length) = some 0 := by decide +kernel
theorem k_X7_settledNow_f12 : Cond.fieldLink RX7 12 RX7 "now" "LVectorRounds$Network;" ∈ wsX7_settledNow := by decide +kernel
theorem k_X7_settledNow_f16 : Cond.fieldLink RX7 16 RX7 "thought" "LVectorRounds$Network;" ∈ wsX7_settledNow := by decide +kernel
theorem u_X7_settledNow_7 : ∀ w ∈ u_ws RX7 TX7 9, w ∈ wsX7_settledNow := by decide +kernel
set_option maxHeartbeats 4000000 in
set_option maxRecDepth 100000 in
theorem c_X7_settledNow (l : Launch) (D : va_G) (cI cO : ClassId) (tys : List (ClassId × FieldType)) (ht : tys[0]? = some (cI, .int)) (ht1 : tys[1]? = some (cO, .object "VectorRounds$Holder")) (a : Nat → Nat) (σ : qM) : q_Met l yX7_settledNow wsX7_settledNow ({ frames := 5, cells := 0, slots := 0, locals := 125 }) [.ref (a 0)] D tys (p_V cI cO a) σ (f_X7_settledNow σ) := by
  refine x_ofWi (cc := cX7_settledNow) (maxL := 1) (ret := (some .int)) (by decide +kernel) rfl (pf_V cI cO a) (Nat.le_of_ble_eq_true rfl) ?_
  intro p e s m below meth c A ls qq h hx hb hml hr hlocks hown hts hK hP hD hA hS hl
  have hown : s.vm.findClass RX7 = some m.cls := hown
  have hl : lv_has ls 1 [(0, .ref (a 0))] := hl
  unfold f_X7_settledNow at h
  refine lv_aload_n hx hb dX7_settledNow_0 rfl (lv_at hl 0 rfl) ?_
  refine x_getr (C := RX7) (k := 1) hx hb hts u_X7_settledNow_7 hown hK hP (g_V_0 cI cO a σ) rfl (by decide) ⟨rfl, rfl, rfl⟩ k_X7_settledNow_f16 rfl dX7_settledNow_1 ?_
  refine lv_aload_n hx hb dX7_settledNow_4 rfl (lv_at hl 0 rfl) ?_
  refine x_getr (C := RX7) (k := 0) hx hb hts u_X7_settledNow_7 hown hK hP (g_V_0 cI cO a σ) rfl (by decide) ⟨rfl, rfl, rfl⟩ k_X7_settledNow_f12 rfl dX7_settledNow_5 ?_
  refine x_cVv (p_V cI cO a) (p_NN cI (q_sub2 21 22 1 a)) (q_put2 21 22 21 1 σ) [] [.ref (a 1)] hx hb hml hl.1 hown hts hK hP hD hS hA rfl (c_X3_become l D cI tys ht (q_sub2 21 22 1 a) (q_sub2 21 22 1 σ)) gX7_settledNow_X3_become rfl ⟨rfl, rfl⟩ i_X3_become ⟨Nat.le_of_ble_eq_true rfl, Nat.le_of_ble_eq_true rfl⟩ (fr_V_NN_22_1 cI cO a σ) (g_NN_0 cI (q_sub2 21 22 1 a) (q_sub2 21 22 1 σ)) rfl rfl (Nat.le_of_ble_eq_true rfl) ⟨Nat.zero_le _, Nat.zero_le _⟩ dX7_settledNow_8 h (fun H locs s1 hP hS h => ?_)
  refine lv_aload_n hx hb dX7_settledNow_11 rfl (lv_at hl 0 rfl) ?_
  refine x_getr (C := RX7) (k := 1) hx hb hts u_X7_settledNow_7 hown hK hP (g_V_0 cI cO a s1) rfl (by decide) ⟨rfl, rfl, rfl⟩ k_X7_settledNow_f16 rfl dX7_settledNow_12 ?_
  refine x_cVi (p_V cI cO a) (p_N cI (q_sub 22 a)) (q_put 22 21 s1) [] [] hx hb hml hl.1 hown hts hK hP hD hS hA rfl (c_X3_roundsToSettle l D cI tys ht (q_sub 22 a) (q_sub 22 s1)) gX7_settledNow_X3_roundsToSettle rfl ⟨rfl, rfl⟩ i_X3_roundsToSettle ⟨Nat.le_of_ble_eq_true rfl, Nat.le_of_ble_eq_true rfl⟩ (fr_V_N_22 cI cO a s1) (g_N_0 cI (q_sub 22 a) (q_sub 22 s1)) rfl rfl (Nat.le_of_ble_eq_true rfl) ⟨Nat.zero_le _, Nat.zero_le _⟩ dX7_settledNow_15 h (fun x3 H locs s2 hP hS h => ?_)
  refine x_cSi (p_V cI cO a) (fun _ => []) (fun _ => s2) [] [.int x3] hx hb hml hl.1 hown hts hK hP hD hS hA rfl (c_X7_orNot l D cI tys ht s2 x3) gX7_settledNow_X7_orNot rfl ⟨rfl, rfl⟩ i_X7_orNot ⟨Nat.le_of_ble_eq_true rfl, Nat.le_of_ble_eq_true rfl⟩ (q_fr0 (fun _ => rfl)) rfl (Nat.le_of_ble_eq_true rfl) ⟨Nat.zero_le _, Nat.zero_le _⟩ dX7_settledNow_18 h (fun x5 H locs s4 hP hS h => ?_)
  exact x_iret (p_V cI cO a) hx hb hr hlocks hP hS dX7_settledNow_21 h
/-! ===== VectorRounds.loopedFirst()I: world V ===== -/
theorem i_X7_loopedFirst : yX7_loopedFirst.cls = RX7 ∧ yX7_loopedFirst.cls ≠ "java/lang/invoke/MethodHandle" ∧ yX7_loopedFirst.cls ≠ "java/lang/invoke/VarHandle" ∧ (parseMethodDescriptor yX7_loopedFirst.desc).map (fun d => d.parameters.length) = some 0 := by decide +kernel
theorem k_X7_loopedFirst_f12 : Cond.fieldLink RX7 12 RX7 "now" "LVectorRounds$Network;" ∈ wsX7_loopedFirst := by decide +kernel
theorem k_X7_loopedFirst_f16 : Cond.fieldLink RX7 16 RX7 "thought" "LVectorRounds$Network;" ∈ wsX7_loopedFirst := by decide +kernel
theorem k_X7_loopedFirst_f28 : Cond.fieldLink RX7 28 RX7 "path" "LVectorRounds$Way;" ∈ wsX7_loopedFirst := by decide +kernel
theorem u_X7_loopedFirst_7 : ∀ w ∈ u_ws RX7 TX7 9, w ∈ wsX7_loopedFirst := by decide +kernel
set_option maxHeartbeats 4000000 in
set_option maxRecDepth 100000 in
theorem c_X7_loopedFirst (l : Launch) (D : va_G) (cI cO : ClassId) (tys : List (ClassId × FieldType)) (ht : tys[0]? = some (cI, .int)) (ht1 : tys[1]? = some (cO, .object "VectorRounds$Holder")) (a : Nat → Nat) (σ : qM) : q_Met l yX7_loopedFirst wsX7_loopedFirst ({ frames := 4, cells := 0, slots := 0, locals := 104 }) [.ref (a 0)] D tys (p_V cI cO a) σ (f_X7_loopedFirst σ) := by
  refine x_ofWi (cc := cX7_loopedFirst) (maxL := 2) (ret := (some .int)) (by decide +kernel) rfl (pf_V cI cO a) (Nat.le_of_ble_eq_true rfl) ?_
  intro p e s m below meth c A ls qq h hx hb hml hr hlocks hown hts hK hP hD hA hS hl
  have hown : s.vm.findClass RX7 = some m.cls := hown
  have hl : lv_has ls 2 [(0, .ref (a 0))] := hl
  have main : ∀ k9 : Nat, (∀ (σ : qM) (x2 : Int32) (H : Heap) (locs : List Loc) (ls : Array Slot), q_it (D_X7_loopedFirst) k9 0 σ [x2] = some qq → va_P D vwCl (p_V cI cO a σ) H → va_S A s.heap H locs → lv_has ls 2 [(0, .ref (a 0)), (1, .int x2)] → W p l e ({ frames := 4, cells := 0, slots := 0, locals := 104 }) s m [.ref (a 0)].toArray below meth c H locs 0 0 (MQ below (va_Qi (fun r τ => (r, τ) = qq) (fun τ t => va_P D vwCl ((p_V cI cO a) τ) t.heap) A) [.ref (a 0)].toArray s 0 0 A) (F0 m 13 ls [])) := by
    intro k9
    induction k9 with
    | zero => exact (fun _ _ _ _ _ h _ _ _ => (q_no (show (none : qR) = some qq from h)).elim)
    | succ k9 ih =>
      have i13 := ih
      refine ?_
      · intro σ x2 H locs ls h hP hS hl
        have h : b_X7_loopedFirst_13 (q_it (D_X7_loopedFirst) k9) σ x2 = some qq := h
        unfold b_X7_loopedFirst_13 at h
        refine lv_iload_n hx hb dX7_loopedFirst_13 rfl (lv_at hl 1 rfl) ?_
        refine lv_bipush (v := 80) hx hb dX7_loopedFirst_14 (by decide +kernel) ?_
        refine lv_icmp_gt (tgt := 49) hx hb dX7_loopedFirst_16 (by decide) (fun c3 => ?_) (fun c3 => ?_)
        · have h := if_t c3 h
          refine lv_bipush (v := (-2)) hx hb dX7_loopedFirst_49 (by decide +kernel) ?_
          exact x_iret (p_V cI cO a) hx hb hr hlocks hP hS dX7_loopedFirst_51 h
        · have h := if_f c3 h
          refine lv_aload_n hx hb dX7_loopedFirst_19 rfl (lv_at hl 0 rfl) ?_
          refine x_getr (C := RX7) (k := 4) hx hb hts u_X7_loopedFirst_7 hown hK hP (g_V_0 cI cO a σ) rfl (by decide) ⟨rfl, rfl, rfl⟩ k_X7_loopedFirst_f28 rfl dX7_loopedFirst_20 ?_
          refine lv_aload_n hx hb dX7_loopedFirst_23 rfl (lv_at hl 0 rfl) ?_
          refine x_getr (C := RX7) (k := 1) hx hb hts u_X7_loopedFirst_7 hown hK hP (g_V_0 cI cO a σ) rfl (by decide) ⟨rfl, rfl, rfl⟩ k_X7_loopedFirst_f16 rfl dX7_loopedFirst_24 ?_
          refine x_cVi (p_V cI cO a) (p_YN cI (q_sub2 2 85 22 a)) (q_put2 2 85 21 22 σ) [] [.ref (a 22)] hx hb hml hl.1 hown hts hK hP hD hS hA rfl (c_X6_loopsIn l D cI tys ht (q_sub2 2 85 22 a) (q_sub2 2 85 22 σ)) gX7_loopedFirst_X6_loopsIn rfl ⟨rfl, rfl⟩ i_X6_loopsIn ⟨Nat.le_of_ble_eq_true rfl, Nat.le_of_ble_eq_true rfl⟩ (fr_V_YN_85_22 cI cO a σ) (g_YN_0 cI (q_sub2 2 85 22 a) (q_sub2 2 85 22 σ)) rfl rfl (Nat.le_of_ble_eq_true rfl) ⟨Nat.zero_le _, Nat.zero_le _⟩ dX7_loopedFirst_27 h (fun x5 H locs s4 hP hS h => ?_)
          refine lv_if_le (tgt := 35) hx hb dX7_loopedFirst_30 (by decide) (fun c6 => ?_) (fun c6 => ?_)
          · have h := if_t c6 h
            refine lv_aload_n hx hb dX7_loopedFirst_35 rfl (lv_at hl 0 rfl) ?_
            refine x_getr (C := RX7) (k := 1) hx hb hts u_X7_loopedFirst_7 hown hK hP (g_V_0 cI cO a s4) rfl (by decide) ⟨rfl, rfl, rfl⟩ k_X7_loopedFirst_f16 rfl dX7_loopedFirst_36 ?_
            refine x_cVi (p_V cI cO a) (p_N cI (q_sub 22 a)) (q_put 22 21 s4) [] [] hx hb hml hl.1 hown hts hK hP hD hS hA rfl (c_X3_goRound l D cI tys ht (q_sub 22 a) (q_sub 22 s4)) gX7_loopedFirst_X3_goRound rfl ⟨rfl, rfl⟩ i_X3_goRound ⟨Nat.le_of_ble_eq_true rfl, Nat.le_of_ble_eq_true rfl⟩ (fr_V_N_22 cI cO a s4) (g_N_0 cI (q_sub 22 a) (q_sub 22 s4)) rfl rfl (Nat.le_of_ble_eq_true rfl) ⟨Nat.zero_le _, Nat.zero_le _⟩ dX7_loopedFirst_39 h (fun x8 H locs s7 hP hS h => ?_)
            refine lv_pop hx hb dX7_loopedFirst_42 rfl ?_
            refine x_iinc (k := 1) (w := 1) hx hb dX7_loopedFirst_43 hl rfl (by decide +kernel) (by decide) (fun v9 => [(1, .int v9), (0, .ref (a 0))]) (fun v9 => rfl) h (fun x9 ls hl h => ?_)
            have hl : lv_has ls 2 [(1, .int x9), (0, .ref (a 0))] := hl
            refine lv_goto (tgt := 13) hx hb dX7_loopedFirst_46 (by decide) ?_
            exact i13 s7 x9 _ _ _ h hP hS (lv_sub hl [1, 0] rfl)
          · have h := if_f c6 h
            refine lv_iload_n hx hb dX7_loopedFirst_33 rfl (lv_at hl 1 rfl) ?_
            exact x_iret (p_V cI cO a) hx hb hr hlocks hP hS dX7_loopedFirst_34 h
  have i13 : ∀ (σ : qM) (x2 : Int32) (H : Heap) (locs : List Loc) (ls : Array Slot), q_lim (D_X7_loopedFirst) 0 σ [x2] = some qq → va_P D vwCl (p_V cI cO a σ) H → va_S A s.heap H locs → lv_has ls 2 [(0, .ref (a 0)), (1, .int x2)] → W p l e ({ frames := 4, cells := 0, slots := 0, locals := 104 }) s m [.ref (a 0)].toArray below meth c H locs 0 0 (MQ below (va_Qi (fun r τ => (r, τ) = qq) (fun τ t => va_P D vwCl ((p_V cI cO a) τ) t.heap) A) [.ref (a 0)].toArray s 0 0 A) (F0 m 13 ls []) := by
    intro σ x2 H locs ls h hP hS hl
    obtain ⟨k9, h⟩ := q_lim_n h
    exact (main k9) σ x2 H locs ls h hP hS hl
  have h : e_X7_loopedFirst (q_lim (D_X7_loopedFirst)) σ = some qq := h
  unfold e_X7_loopedFirst at h
  refine lv_aload_n hx hb dX7_loopedFirst_0 rfl (lv_at hl 0 rfl) ?_
  refine x_getr (C := RX7) (k := 1) hx hb hts u_X7_loopedFirst_7 hown hK hP (g_V_0 cI cO a σ) rfl (by decide) ⟨rfl, rfl, rfl⟩ k_X7_loopedFirst_f16 rfl dX7_loopedFirst_1 ?_
  refine lv_aload_n hx hb dX7_loopedFirst_4 rfl (lv_at hl 0 rfl) ?_
  refine x_getr (C := RX7) (k := 0) hx hb hts u_X7_loopedFirst_7 hown hK hP (g_V_0 cI cO a σ) rfl (by decide) ⟨rfl, rfl, rfl⟩ k_X7_loopedFirst_f12 rfl dX7_loopedFirst_5 ?_
  refine x_cVv (p_V cI cO a) (p_NN cI (q_sub2 21 22 1 a)) (q_put2 21 22 21 1 σ) [] [.ref (a 1)] hx hb hml hl.1 hown hts hK hP hD hS hA rfl (c_X3_become l D cI tys ht (q_sub2 21 22 1 a) (q_sub2 21 22 1 σ)) gX7_loopedFirst_X3_become rfl ⟨rfl, rfl⟩ i_X3_become ⟨Nat.le_of_ble_eq_true rfl, Nat.le_of_ble_eq_true rfl⟩ (fr_V_NN_22_1 cI cO a σ) (g_NN_0 cI (q_sub2 21 22 1 a) (q_sub2 21 22 1 σ)) rfl rfl (Nat.le_of_ble_eq_true rfl) ⟨Nat.zero_le _, Nat.zero_le _⟩ dX7_loopedFirst_8 h (fun H locs s1 hP hS h => ?_)
  refine lv_iconst (v := 0) hx hb dX7_loopedFirst_11 (by decide +kernel) ?_
  refine lv_istore_n (lv' := [(1, .int 0), (0, .ref (a 0))]) hx hb dX7_loopedFirst_12 rfl hl (by decide) rfl (fun ls hl => ?_)
  exact i13 s1 0 _ _ _ h hP hS (lv_sub hl [1, 0] rfl)
/-! ===== VectorRounds.rightEntries()I: world V ===== -/
theorem i_X7_rightEntries : yX7_rightEntries.cls = RX7 ∧ yX7_rightEntries.cls ≠ "java/lang/invoke/MethodHandle" ∧ yX7_rightEntries.cls ≠ "java/lang/invoke/VarHandle" ∧ (parseMethodDescriptor yX7_rightEntries.desc).map (fun d => d.parameters.length) = some 0 := by decide +kernel
theorem k_X7_rightEntries_f118 : Cond.fieldLink RX7 118 RX3 "tables" "LVectorRounds$Tables;" ∈ wsX7_rightEntries := by decide +kernel
theorem k_X7_rightEntries_f12 : Cond.fieldLink RX7 12 RX7 "now" "LVectorRounds$Network;" ∈ wsX7_rightEntries := by decide +kernel
theorem k_X7_rightEntries_f127 : Cond.fieldLink RX7 127 RX4 "metric" "[I" ∈ wsX7_rightEntries := by decide +kernel
theorem k_X7_rightEntries_f187 : Cond.fieldLink RX7 187 RX0 "to" "[I" ∈ wsX7_rightEntries := by decide +kernel
theorem k_X7_rightEntries_f35 : Cond.fieldLink RX7 35 RX7 "least" "LVectorRounds$Distances;" ∈ wsX7_rightEntries := by decide +kernel
theorem k_X7_rightEntries_f53 : Cond.fieldLink RX7 53 RX3 "routers" "I" ∈ wsX7_rightEntries := by decide +kernel
theorem k_X7_rightEntries_m268 : Cond.methodLink RX7 268 Lib.Math.min.name ∈ wsX7_rightEntries ∧ Cond.static Lib.Math.min.name ∈ wsX7_rightEntries ∧ Cond.initialized "java/lang/Math" ∈ wsX7_rightEntries ∧ Cond.code Lib.Math.min.name Lib.Math.min.code 2 (some .int) ∈ wsX7_rightEntries := by decide +kernel
theorem u_X7_rightEntries_0 : ∀ w ∈ u_ws RX0 TX0 1, w ∈ wsX7_rightEntries := by decide +kernel
theorem u_X7_rightEntries_3 : ∀ w ∈ u_ws RX3 TX3 9, w ∈ wsX7_rightEntries := by decide +kernel
theorem u_X7_rightEntries_4 : ∀ w ∈ u_ws RX4 TX4 6, w ∈ wsX7_rightEntries := by decide +kernel
theorem u_X7_rightEntries_7 : ∀ w ∈ u_ws RX7 TX7 9, w ∈ wsX7_rightEntries := by decide +kernel
set_option maxHeartbeats 4000000 in
set_option maxRecDepth 100000 in
theorem c_X7_rightEntries (l : Launch) (D : va_G) (cI cO : ClassId) (tys : List (ClassId × FieldType)) (ht : tys[0]? = some (cI, .int)) (ht1 : tys[1]? = some (cO, .object "VectorRounds$Holder")) (a : Nat → Nat) (σ : qM) : q_Met l yX7_rightEntries wsX7_rightEntries ({ frames := 2, cells := 0, slots := 0, locals := 51 }) [.ref (a 0)] D tys (p_V cI cO a) σ (f_X7_rightEntries σ) := by
  refine x_ofWi (cc := cX7_rightEntries) (maxL := 6) (ret := (some .int)) (by decide +kernel) rfl (pf_V cI cO a) (Nat.le_of_ble_eq_true rfl) ?_
  intro p e s m below meth c A ls qq h hx hb hml hr hlocks hown hts hK hP hD hA hS hl
  have hown : s.vm.findClass RX7 = some m.cls := hown
  have hl : lv_has ls 6 [(0, .ref (a 0))] := hl
  have main : ∀ k9 : Nat, (∀ (σ : qM) (x1 x2 : Int32) (H : Heap) (locs : List Loc) (ls : Array Slot), q_it (D_X7_rightEntries) k9 0 σ [x1, x2] = some qq → va_P D vwCl (p_V cI cO a σ) H → va_S A s.heap H locs → lv_has ls 6 [(0, .ref (a 0)), (1, .int x1), (2, .int x2)] → W p l e ({ frames := 2, cells := 0, slots := 0, locals := 51 }) s m [.ref (a 0)].toArray below meth c H locs 0 0 (MQ below (va_Qi (fun r τ => (r, τ) = qq) (fun τ t => va_P D vwCl ((p_V cI cO a) τ) t.heap) A) [.ref (a 0)].toArray s 0 0 A) (F0 m 4 ls [])) ∧ (∀ (σ : qM) (x6 x7 x8 : Int32) (H : Heap) (locs : List Loc) (ls : Array Slot), q_it (D_X7_rightEntries) k9 1 σ [x6, x7, x8] = some qq → va_P D vwCl (p_V cI cO a σ) H → va_S A s.heap H locs → lv_has ls 6 [(0, .ref (a 0)), (1, .int x6), (2, .int x7), (3, .int x8)] → W p l e ({ frames := 2, cells := 0, slots := 0, locals := 51 }) s m [.ref (a 0)].toArray below meth c H locs 0 0 (MQ below (va_Qi (fun r τ => (r, τ) = qq) (fun τ t => va_P D vwCl ((p_V cI cO a) τ) t.heap) A) [.ref (a 0)].toArray s 0 0 A) (F0 m 30 ls [])) ∧ (∀ (σ : qM) (x17 x18 x19 x20 : Int32) (H : Heap) (locs : List Loc) (ls : Array Slot), q_it (D_X7_rightEntries) k9 2 σ [x17, x18, x19, x20] = some qq → va_P D vwCl (p_V cI cO a σ) H → va_S A s.heap H locs → lv_has ls 6 [(0, .ref (a 0)), (1, .int x17), (2, .int x18), (3, .int x19)] → W p l e ({ frames := 2, cells := 0, slots := 0, locals := 51 }) s m [.ref (a 0)].toArray below meth c H locs 0 0 (MQ below (va_Qi (fun r τ => (r, τ) = qq) (fun τ t => va_P D vwCl ((p_V cI cO a) τ) t.heap) A) [.ref (a 0)].toArray s 0 0 A) (F0 m 82 ls [.int x20])) := by
    intro k9
    induction k9 with
    | zero => exact ⟨(fun _ _ _ _ _ _ h _ _ _ => (q_no (show (none : qR) = some qq from h)).elim), (fun _ _ _ _ _ _ _ h _ _ _ => (q_no (show (none : qR) = some qq from h)).elim), (fun _ _ _ _ _ _ _ _ h _ _ _ => (q_no (show (none : qR) = some qq from h)).elim)⟩
    | succ k9 ih =>
      obtain ⟨i4, i30, i82⟩ := ih
      refine ⟨?_, ?_, ?_⟩
      · intro σ x1 x2 H locs ls h hP hS hl
        have h : b_X7_rightEntries_4 (q_it (D_X7_rightEntries) k9) σ x1 x2 = some qq := h
        unfold b_X7_rightEntries_4 at h
        refine lv_iload_n hx hb dX7_rightEntries_4 rfl (lv_at hl 2 rfl) ?_
        refine lv_aload_n hx hb dX7_rightEntries_5 rfl (lv_at hl 0 rfl) ?_
        refine x_getr (C := RX7) (k := 0) hx hb hts u_X7_rightEntries_7 hown hK hP (g_V_0 cI cO a σ) rfl (by decide) ⟨rfl, rfl, rfl⟩ k_X7_rightEntries_f12 rfl dX7_rightEntries_6 ?_
        refine x_geti (C := RX3) (k := 3) hx hb hts u_X7_rightEntries_3 hown hK hP (g_V_1 cI cO a σ) rfl (by decide) ⟨rfl, rfl, rfl⟩ k_X7_rightEntries_f53 rfl dX7_rightEntries_9 h (fun x3 h => ?_)
        refine lv_icmp_ge (tgt := 118) hx hb dX7_rightEntries_12 (by decide) (fun c4 => ?_) (fun c4 => ?_)
        · have h := if_t c4 h
          refine lv_iload_n hx hb dX7_rightEntries_118 rfl (lv_at hl 1 rfl) ?_
          exact x_iret (p_V cI cO a) hx hb hr hlocks hP hS dX7_rightEntries_119 h
        · have h := if_f c4 h
          refine lv_aload_n hx hb dX7_rightEntries_15 rfl (lv_at hl 0 rfl) ?_
          refine x_getr (C := RX7) (k := 5) hx hb hts u_X7_rightEntries_7 hown hK hP (g_V_0 cI cO a σ) rfl (by decide) ⟨rfl, rfl, rfl⟩ k_X7_rightEntries_f35 rfl dX7_rightEntries_16 ?_
          refine lv_aload_n hx hb dX7_rightEntries_19 rfl (lv_at hl 0 rfl) ?_
          refine x_getr (C := RX7) (k := 0) hx hb hts u_X7_rightEntries_7 hown hK hP (g_V_0 cI cO a σ) rfl (by decide) ⟨rfl, rfl, rfl⟩ k_X7_rightEntries_f12 rfl dX7_rightEntries_20 ?_
          refine lv_iload_n hx hb dX7_rightEntries_23 rfl (lv_at hl 2 rfl) ?_
          refine lv_iconst (v := (-1)) hx hb dX7_rightEntries_24 (by decide +kernel) ?_
          refine x_cVv (p_V cI cO a) (p_DN cI (q_sub2 2 87 1 a)) (q_put2 2 87 21 1 σ) [] [.ref (a 1), .int x2, .int (-1)] hx hb hml hl.1 hown hts hK hP hD hS hA rfl (c_X0_measure l D cI tys ht (q_sub2 2 87 1 a) (q_sub2 2 87 1 σ) x2 (-1)) gX7_rightEntries_X0_measure rfl ⟨rfl, rfl⟩ i_X0_measure ⟨Nat.le_of_ble_eq_true rfl, Nat.le_of_ble_eq_true rfl⟩ (fr_V_DN_87_1 cI cO a σ) (g_DN_0 cI (q_sub2 2 87 1 a) (q_sub2 2 87 1 σ)) rfl rfl (Nat.le_of_ble_eq_true rfl) ⟨Nat.zero_le _, Nat.zero_le _⟩ dX7_rightEntries_25 h (fun H locs s5 hP hS h => ?_)
          refine lv_iconst (v := 0) hx hb dX7_rightEntries_28 (by decide +kernel) ?_
          refine lv_istore_n (lv' := [(3, .int 0), (0, .ref (a 0)), (1, .int x1), (2, .int x2)]) hx hb dX7_rightEntries_29 rfl hl (by decide) rfl (fun ls hl => ?_)
          exact i30 s5 x1 x2 0 _ _ _ h hP hS (lv_sub hl [1, 2, 3, 0] rfl)
      · intro σ x6 x7 x8 H locs ls h hP hS hl
        have h : b_X7_rightEntries_30 (q_it (D_X7_rightEntries) k9) σ x6 x7 x8 = some qq := h
        unfold b_X7_rightEntries_30 at h
        refine lv_iload_n hx hb dX7_rightEntries_30 rfl (lv_at hl 3 rfl) ?_
        refine lv_aload_n hx hb dX7_rightEntries_31 rfl (lv_at hl 0 rfl) ?_
        refine x_getr (C := RX7) (k := 0) hx hb hts u_X7_rightEntries_7 hown hK hP (g_V_0 cI cO a σ) rfl (by decide) ⟨rfl, rfl, rfl⟩ k_X7_rightEntries_f12 rfl dX7_rightEntries_32 ?_
        refine x_geti (C := RX3) (k := 3) hx hb hts u_X7_rightEntries_3 hown hK hP (g_V_1 cI cO a σ) rfl (by decide) ⟨rfl, rfl, rfl⟩ k_X7_rightEntries_f53 rfl dX7_rightEntries_35 h (fun x9 h => ?_)
        refine lv_icmp_ge (tgt := 112) hx hb dX7_rightEntries_38 (by decide) (fun c10 => ?_) (fun c10 => ?_)
        · have h := if_t c10 h
          refine x_iinc (k := 2) (w := 1) hx hb dX7_rightEntries_112 hl rfl (by decide +kernel) (by decide) (fun v9 => [(2, .int v9), (0, .ref (a 0)), (1, .int x6), (3, .int x8)]) (fun v9 => rfl) h (fun x11 ls hl h => ?_)
          have hl : lv_has ls 6 [(2, .int x11), (0, .ref (a 0)), (1, .int x6), (3, .int x8)] := hl
          refine lv_goto (tgt := 4) hx hb dX7_rightEntries_115 (by decide) ?_
          exact i4 σ x6 x11 _ _ _ h hP hS (lv_sub hl [1, 2, 0] rfl)
        · have h := if_f c10 h
          refine lv_iload_n hx hb dX7_rightEntries_41 rfl (lv_at hl 2 rfl) ?_
          refine lv_bipush (v := 10) hx hb dX7_rightEntries_42 (by decide +kernel) ?_
          refine x_imul hx hb dX7_rightEntries_44 h (fun x12 h => ?_)
          refine lv_iload_n hx hb dX7_rightEntries_45 rfl (lv_at hl 3 rfl) ?_
          refine x_iadd hx hb dX7_rightEntries_46 h (fun x13 h => ?_)
          refine lv_istore (lv' := [(4, .int x13), (0, .ref (a 0)), (1, .int x6), (2, .int x7), (3, .int x8)]) hx hb dX7_rightEntries_47 hl (by decide) rfl (fun ls hl => ?_)
          refine lv_aload_n hx hb dX7_rightEntries_49 rfl (lv_at hl 1 rfl) ?_
          refine x_getr (C := RX7) (k := 0) hx hb hts u_X7_rightEntries_7 hown hK hP (g_V_0 cI cO a σ) rfl (by decide) ⟨rfl, rfl, rfl⟩ k_X7_rightEntries_f12 rfl dX7_rightEntries_50 ?_
          refine x_getr (C := RX3) (k := 0) hx hb hts u_X7_rightEntries_3 hown hK hP (g_V_1 cI cO a σ) rfl (by decide) ⟨rfl, rfl, rfl⟩ k_X7_rightEntries_f118 rfl dX7_rightEntries_53 ?_
          refine lv_iload hx hb dX7_rightEntries_56 (lv_at hl 0 rfl) ?_
          refine x_cVi (p_V cI cO a) (p_T cI (q_sub 2 a)) (q_put 2 7 σ) [] [.int x13] hx hb hml hl.1 hown hts hK hP hD hS hA rfl (c_X4_has l D cI tys ht (q_sub 2 a) (q_sub 2 σ) x13) gX7_rightEntries_X4_has rfl ⟨rfl, rfl⟩ i_X4_has ⟨Nat.le_of_ble_eq_true rfl, Nat.le_of_ble_eq_true rfl⟩ (fr_V_T_2 cI cO a σ) (g_T_0 cI (q_sub 2 a) (q_sub 2 σ)) rfl rfl (Nat.le_of_ble_eq_true rfl) ⟨Nat.zero_le _, Nat.zero_le _⟩ dX7_rightEntries_58 h (fun x15 H locs s14 hP hS h => ?_)
          refine lv_if_eq (tgt := 80) hx hb dX7_rightEntries_61 (by decide) (fun c16 => ?_) (fun c16 => ?_)
          · have h := if_t c16 h
            refine lv_bipush (v := 16) hx hb dX7_rightEntries_80 (by decide +kernel) ?_
            exact i82 s14 x6 x7 x8 16 _ _ _ h hP hS (lv_sub hl [1, 2, 3, 4] rfl)
          · have h := if_f c16 h
            refine lv_aload_n hx hb dX7_rightEntries_64 rfl (lv_at hl 1 rfl) ?_
            refine x_getr (C := RX7) (k := 0) hx hb hts u_X7_rightEntries_7 hown hK hP (g_V_0 cI cO a s14) rfl (by decide) ⟨rfl, rfl, rfl⟩ k_X7_rightEntries_f12 rfl dX7_rightEntries_65 ?_
            refine x_getr (C := RX3) (k := 0) hx hb hts u_X7_rightEntries_3 hown hK hP (g_V_1 cI cO a s14) rfl (by decide) ⟨rfl, rfl, rfl⟩ k_X7_rightEntries_f118 rfl dX7_rightEntries_68 ?_
            refine x_getr (C := RX4) (k := 0) hx hb hts u_X7_rightEntries_4 hown hK hP (g_V_2 cI cO a s14) rfl (by decide) ⟨rfl, rfl, rfl⟩ k_X7_rightEntries_f127 rfl dX7_rightEntries_71 ?_
            refine lv_iload hx hb dX7_rightEntries_74 (lv_at hl 0 rfl) ?_
            refine x_iald (t0 := 0) hx hb hK hP ht h (g_V_3 cI cO a s14) dX7_rightEntries_76 (fun x21 h => ?_)
            refine lv_goto (tgt := 82) hx hb dX7_rightEntries_77 (by decide) ?_
            exact i82 s14 x6 x7 x8 x21 _ _ _ h hP hS (lv_sub hl [1, 2, 3, 4] rfl)
      · intro σ x17 x18 x19 x20 H locs ls h hP hS hl
        have h : b_X7_rightEntries_82 (q_it (D_X7_rightEntries) k9) σ x17 x18 x19 x20 = some qq := h
        unfold b_X7_rightEntries_82 at h
        refine lv_istore (lv' := [(5, .int x20), (0, .ref (a 0)), (1, .int x17), (2, .int x18), (3, .int x19)]) hx hb dX7_rightEntries_82 hl (by decide) rfl (fun ls hl => ?_)
        refine lv_iload hx hb dX7_rightEntries_84 (lv_at hl 0 rfl) ?_
        refine lv_bipush (v := 16) hx hb dX7_rightEntries_86 (by decide +kernel) ?_
        refine lv_aload_n hx hb dX7_rightEntries_88 rfl (lv_at hl 1 rfl) ?_
        refine x_getr (C := RX7) (k := 5) hx hb hts u_X7_rightEntries_7 hown hK hP (g_V_0 cI cO a σ) rfl (by decide) ⟨rfl, rfl, rfl⟩ k_X7_rightEntries_f35 rfl dX7_rightEntries_89 ?_
        refine x_getr (C := RX0) (k := 0) hx hb hts u_X7_rightEntries_0 hown hK hP (g_V_87 cI cO a σ) rfl (by decide) ⟨rfl, rfl, rfl⟩ k_X7_rightEntries_f187 rfl dX7_rightEntries_92 ?_
        refine lv_iload_n hx hb dX7_rightEntries_95 rfl (lv_at hl 4 rfl) ?_
        refine x_iald (t0 := 0) hx hb hK hP ht h (g_V_88 cI cO a σ) dX7_rightEntries_96 (fun x22 h => ?_)
        refine x_mmin hx hb (hml.trans hl.1.symm) hown hts k_X7_rightEntries_m268 ⟨Nat.le_of_ble_eq_true rfl, Nat.le_of_ble_eq_true rfl, Nat.zero_le _, Nat.zero_le _⟩ dX7_rightEntries_97 h (fun x23 h => ?_)
        refine lv_icmp_ne (tgt := 106) hx hb dX7_rightEntries_100 (by decide) (fun c24 => ?_) (fun c24 => ?_)
        · have h := if_f c24 h
          refine x_iinc (k := 4) (w := 1) hx hb dX7_rightEntries_106 hl rfl (by decide +kernel) (by decide) (fun v9 => [(3, .int v9), (5, .int x20), (0, .ref (a 0)), (1, .int x17), (2, .int x18)]) (fun v9 => rfl) h (fun x25 ls hl h => ?_)
          have hl : lv_has ls 6 [(3, .int x25), (5, .int x20), (0, .ref (a 0)), (1, .int x17), (2, .int x18)] := hl
          refine lv_goto (tgt := 30) hx hb dX7_rightEntries_109 (by decide) ?_
          exact i30 σ x17 x18 x25 _ _ _ h hP hS (lv_sub hl [2, 3, 4, 0] rfl)
        · have h := if_t c24 h
          refine x_iinc (k := 2) (w := 1) hx hb dX7_rightEntries_103 hl rfl (by decide +kernel) (by decide) (fun v9 => [(1, .int v9), (5, .int x20), (0, .ref (a 0)), (2, .int x18), (3, .int x19)]) (fun v9 => rfl) h (fun x26 ls hl h => ?_)
          have hl : lv_has ls 6 [(1, .int x26), (5, .int x20), (0, .ref (a 0)), (2, .int x18), (3, .int x19)] := hl
          refine x_iinc (k := 4) (w := 1) hx hb dX7_rightEntries_106 hl rfl (by decide +kernel) (by decide) (fun v9 => [(3, .int v9), (1, .int x26), (5, .int x20), (0, .ref (a 0)), (2, .int x18)]) (fun v9 => rfl) h (fun x27 ls hl h => ?_)
          have hl : lv_has ls 6 [(3, .int x27), (1, .int x26), (5, .int x20), (0, .ref (a 0)), (2, .int x18)] := hl
          refine lv_goto (tgt := 30) hx hb dX7_rightEntries_109 (by decide) ?_
          exact i30 σ x26 x18 x27 _ _ _ h hP hS (lv_sub hl [3, 1, 4, 0] rfl)
  have i4 : ∀ (σ : qM) (x1 x2 : Int32) (H : Heap) (locs : List Loc) (ls : Array Slot), q_lim (D_X7_rightEntries) 0 σ [x1, x2] = some qq → va_P D vwCl (p_V cI cO a σ) H → va_S A s.heap H locs → lv_has ls 6 [(0, .ref (a 0)), (1, .int x1), (2, .int x2)] → W p l e ({ frames := 2, cells := 0, slots := 0, locals := 51 }) s m [.ref (a 0)].toArray below meth c H locs 0 0 (MQ below (va_Qi (fun r τ => (r, τ) = qq) (fun τ t => va_P D vwCl ((p_V cI cO a) τ) t.heap) A) [.ref (a 0)].toArray s 0 0 A) (F0 m 4 ls []) := by
    intro σ x1 x2 H locs ls h hP hS hl
    obtain ⟨k9, h⟩ := q_lim_n h
    exact (main k9).1 σ x1 x2 H locs ls h hP hS hl
  have i30 : ∀ (σ : qM) (x6 x7 x8 : Int32) (H : Heap) (locs : List Loc) (ls : Array Slot), q_lim (D_X7_rightEntries) 1 σ [x6, x7, x8] = some qq → va_P D vwCl (p_V cI cO a σ) H → va_S A s.heap H locs → lv_has ls 6 [(0, .ref (a 0)), (1, .int x6), (2, .int x7), (3, .int x8)] → W p l e ({ frames := 2, cells := 0, slots := 0, locals := 51 }) s m [.ref (a 0)].toArray below meth c H locs 0 0 (MQ below (va_Qi (fun r τ => (r, τ) = qq) (fun τ t => va_P D vwCl ((p_V cI cO a) τ) t.heap) A) [.ref (a 0)].toArray s 0 0 A) (F0 m 30 ls []) := by
    intro σ x6 x7 x8 H locs ls h hP hS hl
    obtain ⟨k9, h⟩ := q_lim_n h
    exact (main k9).2.1 σ x6 x7 x8 H locs ls h hP hS hl
  have i82 : ∀ (σ : qM) (x17 x18 x19 x20 : Int32) (H : Heap) (locs : List Loc) (ls : Array Slot), q_lim (D_X7_rightEntries) 2 σ [x17, x18, x19, x20] = some qq → va_P D vwCl (p_V cI cO a σ) H → va_S A s.heap H locs → lv_has ls 6 [(0, .ref (a 0)), (1, .int x17), (2, .int x18), (3, .int x19)] → W p l e ({ frames := 2, cells := 0, slots := 0, locals := 51 }) s m [.ref (a 0)].toArray below meth c H locs 0 0 (MQ below (va_Qi (fun r τ => (r, τ) = qq) (fun τ t => va_P D vwCl ((p_V cI cO a) τ) t.heap) A) [.ref (a 0)].toArray s 0 0 A) (F0 m 82 ls [.int x20]) := by
    intro σ x17 x18 x19 x20 H locs ls h hP hS hl
    obtain ⟨k9, h⟩ := q_lim_n h
    exact (main k9).2.2 σ x17 x18 x19 x20 H locs ls h hP hS hl
  have h : e_X7_rightEntries (q_lim (D_X7_rightEntries)) σ = some qq := h
  unfold e_X7_rightEntries at h
  refine lv_iconst (v := 0) hx hb dX7_rightEntries_0 (by decide +kernel) ?_
  refine lv_istore_n (lv' := [(1, .int 0), (0, .ref (a 0))]) hx hb dX7_rightEntries_1 rfl hl (by decide) rfl (fun ls hl => ?_)
  refine lv_iconst (v := 0) hx hb dX7_rightEntries_2 (by decide +kernel) ?_
  refine lv_istore_n (lv' := [(2, .int 0), (1, .int 0), (0, .ref (a 0))]) hx hb dX7_rightEntries_3 rfl hl (by decide) rfl (fun ls hl => ?_)
  exact i4 σ 0 0 _ _ _ h hP hS (lv_sub hl [2, 1, 0] rfl)
/-! ===== VectorRounds.worstCut()I: world V ===== -/
theorem i_X7_worstCut : yX7_worstCut.cls = RX7 ∧ yX7_worstCut.cls ≠ "java/lang/invoke/MethodHandle" ∧ yX7_worstCut.cls ≠ "java/lang/invoke/VarHandle" ∧ (parseMethodDescriptor yX7_worstCut.desc).map (fun d => d.parameters.length) = some 0 := by decide +kernel
theorem k_X7_worstCut_f12 : Cond.fieldLink RX7 12 RX7 "now" "LVectorRounds$Network;" ∈ wsX7_worstCut := by decide +kernel
theorem k_X7_worstCut_f16 : Cond.fieldLink RX7 16 RX7 "thought" "LVectorRounds$Network;" ∈ wsX7_worstCut := by decide +kernel
theorem k_X7_worstCut_f65 : Cond.fieldLink RX7 65 RX3 "links" "LVectorRounds$Links;" ∈ wsX7_worstCut := by decide +kernel
theorem k_X7_worstCut_f75 : Cond.fieldLink RX7 75 RX2 "size" "I" ∈ wsX7_worstCut := by decide +kernel
theorem k_X7_worstCut_f85 : Cond.fieldLink RX7 85 RX2 "up" "[I" ∈ wsX7_worstCut := by decide +kernel
theorem u_X7_worstCut_2 : ∀ w ∈ u_ws RX2 TX2 6, w ∈ wsX7_worstCut := by decide +kernel
theorem u_X7_worstCut_3 : ∀ w ∈ u_ws RX3 TX3 9, w ∈ wsX7_worstCut := by decide +kernel
theorem u_X7_worstCut_7 : ∀ w ∈ u_ws RX7 TX7 9, w ∈ wsX7_worstCut := by decide +kernel
set_option maxHeartbeats 4000000 in
set_option maxRecDepth 100000 in
theorem c_X7_worstCut (l : Launch) (D : va_G) (cI cO : ClassId) (tys : List (ClassId × FieldType)) (ht : tys[0]? = some (cI, .int)) (ht1 : tys[1]? = some (cO, .object "VectorRounds$Holder")) (a : Nat → Nat) (σ : qM) : q_Met l yX7_worstCut wsX7_worstCut ({ frames := 5, cells := 0, slots := 0, locals := 125 }) [.ref (a 0)] D tys (p_V cI cO a) σ (f_X7_worstCut σ) := by
  refine x_ofWi (cc := cX7_worstCut) (maxL := 5) (ret := (some .int)) (by decide +kernel) rfl (pf_V cI cO a) (Nat.le_of_ble_eq_true rfl) ?_
  intro p e s m below meth c A ls qq h hx hb hml hr hlocks hown hts hK hP hD hA hS hl
  have hown : s.vm.findClass RX7 = some m.cls := hown
  have hl : lv_has ls 5 [(0, .ref (a 0))] := hl
  have main : ∀ k9 : Nat, (∀ (σ : qM) (x1 x2 x3 : Int32) (H : Heap) (locs : List Loc) (ls : Array Slot), q_it (D_X7_worstCut) k9 0 σ [x1, x2, x3] = some qq → va_P D vwCl (p_V cI cO a σ) H → va_S A s.heap H locs → lv_has ls 5 [(0, .ref (a 0)), (1, .int x1), (2, .int x2), (3, .int x3)] → W p l e ({ frames := 5, cells := 0, slots := 0, locals := 125 }) s m [.ref (a 0)].toArray below meth c H locs 0 0 (MQ below (va_Qi (fun r τ => (r, τ) = qq) (fun τ t => va_P D vwCl ((p_V cI cO a) τ) t.heap) A) [.ref (a 0)].toArray s 0 0 A) (F0 m 7 ls [])) := by
    intro k9
    induction k9 with
    | zero => exact (fun _ _ _ _ _ _ _ h _ _ _ => (q_no (show (none : qR) = some qq from h)).elim)
    | succ k9 ih =>
      have i7 := ih
      refine ?_
      · intro σ x1 x2 x3 H locs ls h hP hS hl
        have h : b_X7_worstCut_7 (q_it (D_X7_worstCut) k9) σ x1 x2 x3 = some qq := h
        unfold b_X7_worstCut_7 at h
        refine lv_iload_n hx hb dX7_worstCut_7 rfl (lv_at hl 3 rfl) ?_
        refine lv_aload_n hx hb dX7_worstCut_8 rfl (lv_at hl 0 rfl) ?_
        refine x_getr (C := RX7) (k := 0) hx hb hts u_X7_worstCut_7 hown hK hP (g_V_0 cI cO a σ) rfl (by decide) ⟨rfl, rfl, rfl⟩ k_X7_worstCut_f12 rfl dX7_worstCut_9 ?_
        refine x_getr (C := RX3) (k := 2) hx hb hts u_X7_worstCut_3 hown hK hP (g_V_1 cI cO a σ) rfl (by decide) ⟨rfl, rfl, rfl⟩ k_X7_worstCut_f65 rfl dX7_worstCut_12 ?_
        refine x_geti (C := RX2) (k := 5) hx hb hts u_X7_worstCut_2 hown hK hP (g_V_16 cI cO a σ) rfl (by decide) ⟨rfl, rfl, rfl⟩ k_X7_worstCut_f75 rfl dX7_worstCut_15 h (fun x4 h => ?_)
        refine lv_icmp_ge (tgt := 82) hx hb dX7_worstCut_18 (by decide) (fun c5 => ?_) (fun c5 => ?_)
        · have h := if_t c5 h
          refine lv_iload_n hx hb dX7_worstCut_82 rfl (lv_at hl 1 rfl) ?_
          exact x_iret (p_V cI cO a) hx hb hr hlocks hP hS dX7_worstCut_83 h
        · have h := if_f c5 h
          refine lv_aload_n hx hb dX7_worstCut_21 rfl (lv_at hl 0 rfl) ?_
          refine x_getr (C := RX7) (k := 0) hx hb hts u_X7_worstCut_7 hown hK hP (g_V_0 cI cO a σ) rfl (by decide) ⟨rfl, rfl, rfl⟩ k_X7_worstCut_f12 rfl dX7_worstCut_22 ?_
          refine x_getr (C := RX3) (k := 2) hx hb hts u_X7_worstCut_3 hown hK hP (g_V_1 cI cO a σ) rfl (by decide) ⟨rfl, rfl, rfl⟩ k_X7_worstCut_f65 rfl dX7_worstCut_25 ?_
          refine x_getr (C := RX2) (k := 3) hx hb hts u_X7_worstCut_2 hown hK hP (g_V_16 cI cO a σ) rfl (by decide) ⟨rfl, rfl, rfl⟩ k_X7_worstCut_f85 rfl dX7_worstCut_28 ?_
          refine lv_iload_n hx hb dX7_worstCut_31 rfl (lv_at hl 3 rfl) ?_
          refine x_iald (t0 := 0) hx hb hK hP ht h (g_V_20 cI cO a σ) dX7_worstCut_32 (fun x6 h => ?_)
          refine lv_iconst (v := 1) hx hb dX7_worstCut_33 (by decide +kernel) ?_
          refine lv_icmp_ne (tgt := 76) hx hb dX7_worstCut_34 (by decide) (fun c7 => ?_) (fun c7 => ?_)
          · have h := if_f c7 h
            refine x_iinc (k := 3) (w := 1) hx hb dX7_worstCut_76 hl rfl (by decide +kernel) (by decide) (fun v9 => [(3, .int v9), (0, .ref (a 0)), (1, .int x1), (2, .int x2)]) (fun v9 => rfl) h (fun x8 ls hl h => ?_)
            have hl : lv_has ls 5 [(3, .int x8), (0, .ref (a 0)), (1, .int x1), (2, .int x2)] := hl
            refine lv_goto (tgt := 7) hx hb dX7_worstCut_79 (by decide) ?_
            exact i7 σ x1 x2 x8 _ _ _ h hP hS (lv_sub hl [1, 2, 3, 0] rfl)
          · have h := if_t c7 h
            refine lv_aload_n hx hb dX7_worstCut_37 rfl (lv_at hl 0 rfl) ?_
            refine x_getr (C := RX7) (k := 1) hx hb hts u_X7_worstCut_7 hown hK hP (g_V_0 cI cO a σ) rfl (by decide) ⟨rfl, rfl, rfl⟩ k_X7_worstCut_f16 rfl dX7_worstCut_38 ?_
            refine lv_aload_n hx hb dX7_worstCut_41 rfl (lv_at hl 0 rfl) ?_
            refine x_getr (C := RX7) (k := 0) hx hb hts u_X7_worstCut_7 hown hK hP (g_V_0 cI cO a σ) rfl (by decide) ⟨rfl, rfl, rfl⟩ k_X7_worstCut_f12 rfl dX7_worstCut_42 ?_
            refine x_cVv (p_V cI cO a) (p_NN cI (q_sub2 21 22 1 a)) (q_put2 21 22 21 1 σ) [] [.ref (a 1)] hx hb hml hl.1 hown hts hK hP hD hS hA rfl (c_X3_become l D cI tys ht (q_sub2 21 22 1 a) (q_sub2 21 22 1 σ)) gX7_worstCut_X3_become rfl ⟨rfl, rfl⟩ i_X3_become ⟨Nat.le_of_ble_eq_true rfl, Nat.le_of_ble_eq_true rfl⟩ (fr_V_NN_22_1 cI cO a σ) (g_NN_0 cI (q_sub2 21 22 1 a) (q_sub2 21 22 1 σ)) rfl rfl (Nat.le_of_ble_eq_true rfl) ⟨Nat.zero_le _, Nat.zero_le _⟩ dX7_worstCut_45 h (fun H locs s9 hP hS h => ?_)
            refine lv_aload_n hx hb dX7_worstCut_48 rfl (lv_at hl 0 rfl) ?_
            refine x_getr (C := RX7) (k := 1) hx hb hts u_X7_worstCut_7 hown hK hP (g_V_0 cI cO a s9) rfl (by decide) ⟨rfl, rfl, rfl⟩ k_X7_worstCut_f16 rfl dX7_worstCut_49 ?_
            refine lv_iload_n hx hb dX7_worstCut_52 rfl (lv_at hl 3 rfl) ?_
            refine x_cVv (p_V cI cO a) (p_N cI (q_sub 22 a)) (q_put 22 21 s9) [] [.int x3] hx hb hml hl.1 hown hts hK hP hD hS hA rfl (c_X3_switchLink l D cI tys ht (q_sub 22 a) (q_sub 22 s9) x3) gX7_worstCut_X3_switchLink rfl ⟨rfl, rfl⟩ i_X3_switchLink ⟨Nat.le_of_ble_eq_true rfl, Nat.le_of_ble_eq_true rfl⟩ (fr_V_N_22 cI cO a s9) (g_N_0 cI (q_sub 22 a) (q_sub 22 s9)) rfl rfl (Nat.le_of_ble_eq_true rfl) ⟨Nat.zero_le _, Nat.zero_le _⟩ dX7_worstCut_53 h (fun H locs s10 hP hS h => ?_)
            refine lv_aload_n hx hb dX7_worstCut_56 rfl (lv_at hl 0 rfl) ?_
            refine x_getr (C := RX7) (k := 1) hx hb hts u_X7_worstCut_7 hown hK hP (g_V_0 cI cO a s10) rfl (by decide) ⟨rfl, rfl, rfl⟩ k_X7_worstCut_f16 rfl dX7_worstCut_57 ?_
            refine x_cVi (p_V cI cO a) (p_N cI (q_sub 22 a)) (q_put 22 21 s10) [] [] hx hb hml hl.1 hown hts hK hP hD hS hA rfl (c_X3_roundsToSettle l D cI tys ht (q_sub 22 a) (q_sub 22 s10)) gX7_worstCut_X3_roundsToSettle rfl ⟨rfl, rfl⟩ i_X3_roundsToSettle ⟨Nat.le_of_ble_eq_true rfl, Nat.le_of_ble_eq_true rfl⟩ (fr_V_N_22 cI cO a s10) (g_N_0 cI (q_sub 22 a) (q_sub 22 s10)) rfl rfl (Nat.le_of_ble_eq_true rfl) ⟨Nat.zero_le _, Nat.zero_le _⟩ dX7_worstCut_60 h (fun x12 H locs s11 hP hS h => ?_)
            refine lv_istore (lv' := [(4, .int x12), (0, .ref (a 0)), (1, .int x1), (2, .int x2), (3, .int x3)]) hx hb dX7_worstCut_63 hl (by decide) rfl (fun ls hl => ?_)
            refine lv_iload hx hb dX7_worstCut_65 (lv_at hl 0 rfl) ?_
            refine lv_iload_n hx hb dX7_worstCut_67 rfl (lv_at hl 3 rfl) ?_
            refine lv_icmp_le (tgt := 76) hx hb dX7_worstCut_68 (by decide) (fun c13 => ?_) (fun c13 => ?_)
            · have h := if_t c13 h
              refine x_iinc (k := 4) (w := 1) hx hb dX7_worstCut_76 hl rfl (by decide +kernel) (by decide) (fun v9 => [(3, .int v9), (4, .int x12), (0, .ref (a 0)), (1, .int x1), (2, .int x2)]) (fun v9 => rfl) h (fun x14 ls hl h => ?_)
              have hl : lv_has ls 5 [(3, .int x14), (4, .int x12), (0, .ref (a 0)), (1, .int x1), (2, .int x2)] := hl
              refine lv_goto (tgt := 7) hx hb dX7_worstCut_79 (by decide) ?_
              exact i7 s11 x1 x2 x14 _ _ _ h hP hS (lv_sub hl [2, 3, 4, 0] rfl)
            · have h := if_f c13 h
              refine lv_iload hx hb dX7_worstCut_71 (lv_at hl 0 rfl) ?_
              refine lv_istore_n (lv' := [(2, .int x12), (4, .int x12), (0, .ref (a 0)), (1, .int x1), (3, .int x3)]) hx hb dX7_worstCut_73 rfl hl (by decide) rfl (fun ls hl => ?_)
              refine lv_iload_n hx hb dX7_worstCut_74 rfl (lv_at hl 4 rfl) ?_
              refine lv_istore_n (lv' := [(1, .int x3), (2, .int x12), (4, .int x12), (0, .ref (a 0)), (3, .int x3)]) hx hb dX7_worstCut_75 rfl hl (by decide) rfl (fun ls hl => ?_)
              refine x_iinc (k := 4) (w := 1) hx hb dX7_worstCut_76 hl rfl (by decide +kernel) (by decide) (fun v9 => [(3, .int v9), (1, .int x3), (2, .int x12), (4, .int x12), (0, .ref (a 0))]) (fun v9 => rfl) h (fun x15 ls hl h => ?_)
              have hl : lv_has ls 5 [(3, .int x15), (1, .int x3), (2, .int x12), (4, .int x12), (0, .ref (a 0))] := hl
              refine lv_goto (tgt := 7) hx hb dX7_worstCut_79 (by decide) ?_
              exact i7 s11 x3 x12 x15 _ _ _ h hP hS (lv_sub hl [4, 1, 2, 0] rfl)
  have i7 : ∀ (σ : qM) (x1 x2 x3 : Int32) (H : Heap) (locs : List Loc) (ls : Array Slot), q_lim (D_X7_worstCut) 0 σ [x1, x2, x3] = some qq → va_P D vwCl (p_V cI cO a σ) H → va_S A s.heap H locs → lv_has ls 5 [(0, .ref (a 0)), (1, .int x1), (2, .int x2), (3, .int x3)] → W p l e ({ frames := 5, cells := 0, slots := 0, locals := 125 }) s m [.ref (a 0)].toArray below meth c H locs 0 0 (MQ below (va_Qi (fun r τ => (r, τ) = qq) (fun τ t => va_P D vwCl ((p_V cI cO a) τ) t.heap) A) [.ref (a 0)].toArray s 0 0 A) (F0 m 7 ls []) := by
    intro σ x1 x2 x3 H locs ls h hP hS hl
    obtain ⟨k9, h⟩ := q_lim_n h
    exact (main k9) σ x1 x2 x3 H locs ls h hP hS hl
  have h : e_X7_worstCut (q_lim (D_X7_worstCut)) σ = some qq := h
  unfold e_X7_worstCut at h
  refine lv_bipush (v := (-2)) hx hb dX7_worstCut_0 (by decide +kernel) ?_
  refine lv_istore_n (lv' := [(1, .int (-2)), (0, .ref (a 0))]) hx hb dX7_worstCut_2 rfl hl (by decide) rfl (fun ls hl => ?_)
  refine lv_iconst (v := (-1)) hx hb dX7_worstCut_3 (by decide +kernel) ?_
  refine lv_istore_n (lv' := [(2, .int (-1)), (1, .int (-2)), (0, .ref (a 0))]) hx hb dX7_worstCut_4 rfl hl (by decide) rfl (fun ls hl => ?_)
  refine lv_iconst (v := 0) hx hb dX7_worstCut_5 (by decide +kernel) ?_
  refine lv_istore_n (lv' := [(3, .int 0), (2, .int (-1)), (1, .int (-2)), (0, .ref (a 0))]) hx hb dX7_worstCut_6 rfl hl (by decide) rfl (fun ls hl => ?_)
  exact i7 σ (-2) (-1) 0 _ _ _ h hP hS (lv_sub hl [3, 2, 1, 0] rfl)
/-! ===== VectorRounds.neededLinks()I: world V ===== -/
theorem i_X7_neededLinks : yX7_neededLinks.cls = RX7 ∧ yX7_neededLinks.cls ≠ "java/lang/invoke/MethodHandle" ∧ yX7_neededLinks.cls ≠ "java/lang/invoke/VarHandle" ∧ (parseMethodDescriptor yX7_neededLinks.desc).map (fun d => d.parameters.length) = some 0 := by decide +kernel
theorem k_X7_neededLinks_c190 : Cond.constant RX7 190 (1000000) ∈ wsX7_neededLinks := by decide +kernel
theorem k_X7_neededLinks_f109 : Cond.fieldLink RX7 109 RX2 "lesser" "[I" ∈ wsX7_neededLinks := by decide +kernel
theorem k_X7_neededLinks_f112 : Cond.fieldLink RX7 112 RX2 "greater" "[I" ∈ wsX7_neededLinks := by decide +kernel
theorem k_X7_neededLinks_f12 : Cond.fieldLink RX7 12 RX7 "now" "LVectorRounds$Network;" ∈ wsX7_neededLinks := by decide +kernel
theorem k_X7_neededLinks_f187 : Cond.fieldLink RX7 187 RX0 "to" "[I" ∈ wsX7_neededLinks := by decide +kernel
theorem k_X7_neededLinks_f35 : Cond.fieldLink RX7 35 RX7 "least" "LVectorRounds$Distances;" ∈ wsX7_neededLinks := by decide +kernel
theorem k_X7_neededLinks_f65 : Cond.fieldLink RX7 65 RX3 "links" "LVectorRounds$Links;" ∈ wsX7_neededLinks := by decide +kernel
theorem k_X7_neededLinks_f75 : Cond.fieldLink RX7 75 RX2 "size" "I" ∈ wsX7_neededLinks := by decide +kernel
theorem k_X7_neededLinks_f85 : Cond.fieldLink RX7 85 RX2 "up" "[I" ∈ wsX7_neededLinks := by decide +kernel
theorem u_X7_neededLinks_0 : ∀ w ∈ u_ws RX0 TX0 1, w ∈ wsX7_neededLinks := by decide +kernel
theorem u_X7_neededLinks_2 : ∀ w ∈ u_ws RX2 TX2 6, w ∈ wsX7_neededLinks := by decide +kernel
theorem u_X7_neededLinks_3 : ∀ w ∈ u_ws RX3 TX3 9, w ∈ wsX7_neededLinks := by decide +kernel
theorem u_X7_neededLinks_7 : ∀ w ∈ u_ws RX7 TX7 9, w ∈ wsX7_neededLinks := by decide +kernel
set_option maxHeartbeats 4000000 in
set_option maxRecDepth 100000 in
theorem c_X7_neededLinks (l : Launch) (D : va_G) (cI cO : ClassId) (tys : List (ClassId × FieldType)) (ht : tys[0]? = some (cI, .int)) (ht1 : tys[1]? = some (cO, .object "VectorRounds$Holder")) (a : Nat → Nat) (σ : qM) : q_Met l yX7_neededLinks wsX7_neededLinks ({ frames := 2, cells := 0, slots := 0, locals := 51 }) [.ref (a 0)] D tys (p_V cI cO a) σ (f_X7_neededLinks σ) := by
  refine x_ofWi (cc := cX7_neededLinks) (maxL := 3) (ret := (some .int)) (by decide +kernel) rfl (pf_V cI cO a) (Nat.le_of_ble_eq_true rfl) ?_
  intro p e s m below meth c A ls qq h hx hb hml hr hlocks hown hts hK hP hD hA hS hl
  have hown : s.vm.findClass RX7 = some m.cls := hown
  have hl : lv_has ls 3 [(0, .ref (a 0))] := hl
  have main : ∀ k9 : Nat, (∀ (σ : qM) (x1 x2 : Int32) (H : Heap) (locs : List Loc) (ls : Array Slot), q_it (D_X7_neededLinks) k9 0 σ [x1, x2] = some qq → va_P D vwCl (p_V cI cO a σ) H → va_S A s.heap H locs → lv_has ls 3 [(0, .ref (a 0)), (1, .int x1), (2, .int x2)] → W p l e ({ frames := 2, cells := 0, slots := 0, locals := 51 }) s m [.ref (a 0)].toArray below meth c H locs 0 0 (MQ below (va_Qi (fun r τ => (r, τ) = qq) (fun τ t => va_P D vwCl ((p_V cI cO a) τ) t.heap) A) [.ref (a 0)].toArray s 0 0 A) (F0 m 4 ls [])) := by
    intro k9
    induction k9 with
    | zero => exact (fun _ _ _ _ _ _ h _ _ _ => (q_no (show (none : qR) = some qq from h)).elim)
    | succ k9 ih =>
      have i4 := ih
      refine ?_
      · intro σ x1 x2 H locs ls h hP hS hl
        have h : b_X7_neededLinks_4 (q_it (D_X7_neededLinks) k9) σ x1 x2 = some qq := h
        unfold b_X7_neededLinks_4 at h
        refine lv_iload_n hx hb dX7_neededLinks_4 rfl (lv_at hl 2 rfl) ?_
        refine lv_aload_n hx hb dX7_neededLinks_5 rfl (lv_at hl 0 rfl) ?_
        refine x_getr (C := RX7) (k := 0) hx hb hts u_X7_neededLinks_7 hown hK hP (g_V_0 cI cO a σ) rfl (by decide) ⟨rfl, rfl, rfl⟩ k_X7_neededLinks_f12 rfl dX7_neededLinks_6 ?_
        refine x_getr (C := RX3) (k := 2) hx hb hts u_X7_neededLinks_3 hown hK hP (g_V_1 cI cO a σ) rfl (by decide) ⟨rfl, rfl, rfl⟩ k_X7_neededLinks_f65 rfl dX7_neededLinks_9 ?_
        refine x_geti (C := RX2) (k := 5) hx hb hts u_X7_neededLinks_2 hown hK hP (g_V_16 cI cO a σ) rfl (by decide) ⟨rfl, rfl, rfl⟩ k_X7_neededLinks_f75 rfl dX7_neededLinks_12 h (fun x3 h => ?_)
        refine lv_icmp_ge (tgt := 92) hx hb dX7_neededLinks_15 (by decide) (fun c4 => ?_) (fun c4 => ?_)
        · have h := if_t c4 h
          refine lv_iload_n hx hb dX7_neededLinks_92 rfl (lv_at hl 1 rfl) ?_
          exact x_iret (p_V cI cO a) hx hb hr hlocks hP hS dX7_neededLinks_93 h
        · have h := if_f c4 h
          refine lv_aload_n hx hb dX7_neededLinks_18 rfl (lv_at hl 0 rfl) ?_
          refine x_getr (C := RX7) (k := 0) hx hb hts u_X7_neededLinks_7 hown hK hP (g_V_0 cI cO a σ) rfl (by decide) ⟨rfl, rfl, rfl⟩ k_X7_neededLinks_f12 rfl dX7_neededLinks_19 ?_
          refine x_getr (C := RX3) (k := 2) hx hb hts u_X7_neededLinks_3 hown hK hP (g_V_1 cI cO a σ) rfl (by decide) ⟨rfl, rfl, rfl⟩ k_X7_neededLinks_f65 rfl dX7_neededLinks_22 ?_
          refine x_getr (C := RX2) (k := 3) hx hb hts u_X7_neededLinks_2 hown hK hP (g_V_16 cI cO a σ) rfl (by decide) ⟨rfl, rfl, rfl⟩ k_X7_neededLinks_f85 rfl dX7_neededLinks_25 ?_
          refine lv_iload_n hx hb dX7_neededLinks_28 rfl (lv_at hl 2 rfl) ?_
          refine x_iald (t0 := 0) hx hb hK hP ht h (g_V_20 cI cO a σ) dX7_neededLinks_29 (fun x5 h => ?_)
          refine lv_iconst (v := 1) hx hb dX7_neededLinks_30 (by decide +kernel) ?_
          refine lv_icmp_ne (tgt := 86) hx hb dX7_neededLinks_31 (by decide) (fun c6 => ?_) (fun c6 => ?_)
          · have h := if_f c6 h
            refine x_iinc (k := 2) (w := 1) hx hb dX7_neededLinks_86 hl rfl (by decide +kernel) (by decide) (fun v9 => [(2, .int v9), (0, .ref (a 0)), (1, .int x1)]) (fun v9 => rfl) h (fun x7 ls hl h => ?_)
            have hl : lv_has ls 3 [(2, .int x7), (0, .ref (a 0)), (1, .int x1)] := hl
            refine lv_goto (tgt := 4) hx hb dX7_neededLinks_89 (by decide) ?_
            exact i4 σ x1 x7 _ _ _ h hP hS (lv_sub hl [1, 2, 0] rfl)
          · have h := if_t c6 h
            refine lv_aload_n hx hb dX7_neededLinks_34 rfl (lv_at hl 0 rfl) ?_
            refine x_getr (C := RX7) (k := 5) hx hb hts u_X7_neededLinks_7 hown hK hP (g_V_0 cI cO a σ) rfl (by decide) ⟨rfl, rfl, rfl⟩ k_X7_neededLinks_f35 rfl dX7_neededLinks_35 ?_
            refine lv_aload_n hx hb dX7_neededLinks_38 rfl (lv_at hl 0 rfl) ?_
            refine x_getr (C := RX7) (k := 0) hx hb hts u_X7_neededLinks_7 hown hK hP (g_V_0 cI cO a σ) rfl (by decide) ⟨rfl, rfl, rfl⟩ k_X7_neededLinks_f12 rfl dX7_neededLinks_39 ?_
            refine lv_aload_n hx hb dX7_neededLinks_42 rfl (lv_at hl 0 rfl) ?_
            refine x_getr (C := RX7) (k := 0) hx hb hts u_X7_neededLinks_7 hown hK hP (g_V_0 cI cO a σ) rfl (by decide) ⟨rfl, rfl, rfl⟩ k_X7_neededLinks_f12 rfl dX7_neededLinks_43 ?_
            refine x_getr (C := RX3) (k := 2) hx hb hts u_X7_neededLinks_3 hown hK hP (g_V_1 cI cO a σ) rfl (by decide) ⟨rfl, rfl, rfl⟩ k_X7_neededLinks_f65 rfl dX7_neededLinks_46 ?_
            refine x_getr (C := RX2) (k := 0) hx hb hts u_X7_neededLinks_2 hown hK hP (g_V_16 cI cO a σ) rfl (by decide) ⟨rfl, rfl, rfl⟩ k_X7_neededLinks_f109 rfl dX7_neededLinks_49 ?_
            refine lv_iload_n hx hb dX7_neededLinks_52 rfl (lv_at hl 2 rfl) ?_
            refine x_iald (t0 := 0) hx hb hK hP ht h (g_V_17 cI cO a σ) dX7_neededLinks_53 (fun x8 h => ?_)
            refine lv_iload_n hx hb dX7_neededLinks_54 rfl (lv_at hl 2 rfl) ?_
            refine x_cVv (p_V cI cO a) (p_DN cI (q_sub2 2 87 1 a)) (q_put2 2 87 21 1 σ) [] [.ref (a 1), .int x8, .int x2] hx hb hml hl.1 hown hts hK hP hD hS hA rfl (c_X0_measure l D cI tys ht (q_sub2 2 87 1 a) (q_sub2 2 87 1 σ) x8 x2) gX7_neededLinks_X0_measure rfl ⟨rfl, rfl⟩ i_X0_measure ⟨Nat.le_of_ble_eq_true rfl, Nat.le_of_ble_eq_true rfl⟩ (fr_V_DN_87_1 cI cO a σ) (g_DN_0 cI (q_sub2 2 87 1 a) (q_sub2 2 87 1 σ)) rfl rfl (Nat.le_of_ble_eq_true rfl) ⟨Nat.zero_le _, Nat.zero_le _⟩ dX7_neededLinks_55 h (fun H locs s9 hP hS h => ?_)
            refine lv_aload_n hx hb dX7_neededLinks_58 rfl (lv_at hl 0 rfl) ?_
            refine x_getr (C := RX7) (k := 5) hx hb hts u_X7_neededLinks_7 hown hK hP (g_V_0 cI cO a s9) rfl (by decide) ⟨rfl, rfl, rfl⟩ k_X7_neededLinks_f35 rfl dX7_neededLinks_59 ?_
            refine x_getr (C := RX0) (k := 0) hx hb hts u_X7_neededLinks_0 hown hK hP (g_V_87 cI cO a s9) rfl (by decide) ⟨rfl, rfl, rfl⟩ k_X7_neededLinks_f187 rfl dX7_neededLinks_62 ?_
            refine lv_aload_n hx hb dX7_neededLinks_65 rfl (lv_at hl 0 rfl) ?_
            refine x_getr (C := RX7) (k := 0) hx hb hts u_X7_neededLinks_7 hown hK hP (g_V_0 cI cO a s9) rfl (by decide) ⟨rfl, rfl, rfl⟩ k_X7_neededLinks_f12 rfl dX7_neededLinks_66 ?_
            refine x_getr (C := RX3) (k := 2) hx hb hts u_X7_neededLinks_3 hown hK hP (g_V_1 cI cO a s9) rfl (by decide) ⟨rfl, rfl, rfl⟩ k_X7_neededLinks_f65 rfl dX7_neededLinks_69 ?_
            refine x_getr (C := RX2) (k := 1) hx hb hts u_X7_neededLinks_2 hown hK hP (g_V_16 cI cO a s9) rfl (by decide) ⟨rfl, rfl, rfl⟩ k_X7_neededLinks_f112 rfl dX7_neededLinks_72 ?_
            refine lv_iload_n hx hb dX7_neededLinks_75 rfl (lv_at hl 2 rfl) ?_
            refine x_iald (t0 := 0) hx hb hK hP ht h (g_V_18 cI cO a s9) dX7_neededLinks_76 (fun x10 h => ?_)
            refine x_iald (t0 := 0) hx hb hK hP ht h (g_V_88 cI cO a s9) dX7_neededLinks_77 (fun x11 h => ?_)
            refine lv_ldc (v := 1000000) hx hb hown (hts _ k_X7_neededLinks_c190) dX7_neededLinks_78 ?_
            refine lv_icmp_ne (tgt := 86) hx hb dX7_neededLinks_80 (by decide) (fun c12 => ?_) (fun c12 => ?_)
            · have h := if_f c12 h
              refine x_iinc (k := 2) (w := 1) hx hb dX7_neededLinks_86 hl rfl (by decide +kernel) (by decide) (fun v9 => [(2, .int v9), (0, .ref (a 0)), (1, .int x1)]) (fun v9 => rfl) h (fun x13 ls hl h => ?_)
              have hl : lv_has ls 3 [(2, .int x13), (0, .ref (a 0)), (1, .int x1)] := hl
              refine lv_goto (tgt := 4) hx hb dX7_neededLinks_89 (by decide) ?_
              exact i4 s9 x1 x13 _ _ _ h hP hS (lv_sub hl [1, 2, 0] rfl)
            · have h := if_t c12 h
              refine x_iinc (k := 1) (w := 1) hx hb dX7_neededLinks_83 hl rfl (by decide +kernel) (by decide) (fun v9 => [(1, .int v9), (0, .ref (a 0)), (2, .int x2)]) (fun v9 => rfl) h (fun x14 ls hl h => ?_)
              have hl : lv_has ls 3 [(1, .int x14), (0, .ref (a 0)), (2, .int x2)] := hl
              refine x_iinc (k := 2) (w := 1) hx hb dX7_neededLinks_86 hl rfl (by decide +kernel) (by decide) (fun v9 => [(2, .int v9), (1, .int x14), (0, .ref (a 0))]) (fun v9 => rfl) h (fun x15 ls hl h => ?_)
              have hl : lv_has ls 3 [(2, .int x15), (1, .int x14), (0, .ref (a 0))] := hl
              refine lv_goto (tgt := 4) hx hb dX7_neededLinks_89 (by decide) ?_
              exact i4 s9 x14 x15 _ _ _ h hP hS (lv_sub hl [2, 1, 0] rfl)
  have i4 : ∀ (σ : qM) (x1 x2 : Int32) (H : Heap) (locs : List Loc) (ls : Array Slot), q_lim (D_X7_neededLinks) 0 σ [x1, x2] = some qq → va_P D vwCl (p_V cI cO a σ) H → va_S A s.heap H locs → lv_has ls 3 [(0, .ref (a 0)), (1, .int x1), (2, .int x2)] → W p l e ({ frames := 2, cells := 0, slots := 0, locals := 51 }) s m [.ref (a 0)].toArray below meth c H locs 0 0 (MQ below (va_Qi (fun r τ => (r, τ) = qq) (fun τ t => va_P D vwCl ((p_V cI cO a) τ) t.heap) A) [.ref (a 0)].toArray s 0 0 A) (F0 m 4 ls []) := by
    intro σ x1 x2 H locs ls h hP hS hl
    obtain ⟨k9, h⟩ := q_lim_n h
    exact (main k9) σ x1 x2 H locs ls h hP hS hl
  have h : e_X7_neededLinks (q_lim (D_X7_neededLinks)) σ = some qq := h
  unfold e_X7_neededLinks at h
  refine lv_iconst (v := 0) hx hb dX7_neededLinks_0 (by decide +kernel) ?_
  refine lv_istore_n (lv' := [(1, .int 0), (0, .ref (a 0))]) hx hb dX7_neededLinks_1 rfl hl (by decide) rfl (fun ls hl => ?_)
  refine lv_iconst (v := 0) hx hb dX7_neededLinks_2 (by decide +kernel) ?_
  refine lv_istore_n (lv' := [(2, .int 0), (1, .int 0), (0, .ref (a 0))]) hx hb dX7_neededLinks_3 rfl hl (by decide) rfl (fun ls hl => ?_)
  exact i4 σ 0 0 _ _ _ h hP hS (lv_sub hl [2, 1, 0] rfl)
/-! ===== VectorRounds.told(I)I: world V ===== -/
theorem i_X7_told : yX7_told.cls = RX7 ∧ yX7_told.cls ≠ "java/lang/invoke/MethodHandle" ∧ yX7_told.cls ≠ "java/lang/invoke/VarHandle" ∧ (parseMethodDescriptor yX7_told.desc).map (fun d => d.parameters.length) = some 1 := by decide +kernel
theorem k_X7_told_f12 : Cond.fieldLink RX7 12 RX7 "now" "LVectorRounds$Network;" ∈ wsX7_told := by decide +kernel
theorem k_X7_told_f28 : Cond.fieldLink RX7 28 RX7 "path" "LVectorRounds$Way;" ∈ wsX7_told := by decide +kernel
theorem u_X7_told_7 : ∀ w ∈ u_ws RX7 TX7 9, w ∈ wsX7_told := by decide +kernel
set_option maxHeartbeats 4000000 in
set_option maxRecDepth 100000 in
theorem c_X7_told (l : Launch) (D : va_G) (cI cO : ClassId) (tys : List (ClassId × FieldType)) (ht : tys[0]? = some (cI, .int)) (ht1 : tys[1]? = some (cO, .object "VectorRounds$Holder")) (a : Nat → Nat) (σ : qM) (x1 : Int32) : q_Met l yX7_told wsX7_told ({ frames := 6, cells := 0, slots := 0, locals := 149 }) [.ref (a 0), .int x1] D tys (p_V cI cO a) σ (f_X7_told σ x1) := by
  refine x_ofWi (cc := cX7_told) (maxL := 2) (ret := (some .int)) (by decide +kernel) rfl (pf_V cI cO a) (Nat.le_of_ble_eq_true rfl) ?_
  intro p e s m below meth c A ls qq h hx hb hml hr hlocks hown hts hK hP hD hA hS hl
  have hown : s.vm.findClass RX7 = some m.cls := hown
  have hl : lv_has ls 2 [(0, .ref (a 0)), (1, .int x1)] := hl
  unfold f_X7_told at h
  refine lv_iload_n hx hb dX7_told_0 rfl (lv_at hl 1 rfl) ?_
  by_cases c2 : x1 = 0
  · have h := if_t c2 h
    refine x_tsw_in (v := 0) (off := 39) (tgt := 40) hx hb dX7_told_1 c2 (by decide +kernel) ?_
    refine lv_aload_n hx hb dX7_told_40 rfl (lv_at hl 0 rfl) ?_
    refine x_cVi (p_V cI cO a) (p_V cI cO a) (fun τ => τ) [] [] hx hb hml hl.1 hown hts hK hP hD hS hA rfl (c_X7_settledNow l D cI cO tys ht ht1 a σ) gX7_told_X7_settledNow rfl ⟨rfl, rfl⟩ i_X7_settledNow ⟨Nat.le_of_ble_eq_true rfl, Nat.le_of_ble_eq_true rfl⟩ q_frI (g_V_0 cI cO a σ) rfl rfl (Nat.le_of_ble_eq_true rfl) ⟨Nat.zero_le _, Nat.zero_le _⟩ dX7_told_41 h (fun x4 H locs s3 hP hS h => ?_)
    exact x_iret (p_V cI cO a) hx hb hr hlocks hP hS dX7_told_44 h
  have h := if_f c2 h
  by_cases c5 : x1 = 1
  · have h := if_t c5 h
    refine x_tsw_in (v := 1) (off := 44) (tgt := 45) hx hb dX7_told_1 c5 (by decide +kernel) ?_
    refine lv_aload_n hx hb dX7_told_45 rfl (lv_at hl 0 rfl) ?_
    refine x_cVi (p_V cI cO a) (p_V cI cO a) (fun τ => τ) [] [] hx hb hml hl.1 hown hts hK hP hD hS hA rfl (c_X7_loopedFirst l D cI cO tys ht ht1 a σ) gX7_told_X7_loopedFirst rfl ⟨rfl, rfl⟩ i_X7_loopedFirst ⟨Nat.le_of_ble_eq_true rfl, Nat.le_of_ble_eq_true rfl⟩ q_frI (g_V_0 cI cO a σ) rfl rfl (Nat.le_of_ble_eq_true rfl) ⟨Nat.zero_le _, Nat.zero_le _⟩ dX7_told_46 h (fun x7 H locs s6 hP hS h => ?_)
    exact x_iret (p_V cI cO a) hx hb hr hlocks hP hS dX7_told_49 h
  have h := if_f c5 h
  by_cases c8 : x1 = 2
  · have h := if_t c8 h
    refine x_tsw_in (v := 2) (off := 49) (tgt := 50) hx hb dX7_told_1 c8 (by decide +kernel) ?_
    refine lv_aload_n hx hb dX7_told_50 rfl (lv_at hl 0 rfl) ?_
    refine x_getr (C := RX7) (k := 4) hx hb hts u_X7_told_7 hown hK hP (g_V_0 cI cO a σ) rfl (by decide) ⟨rfl, rfl, rfl⟩ k_X7_told_f28 rfl dX7_told_51 ?_
    refine lv_aload_n hx hb dX7_told_54 rfl (lv_at hl 0 rfl) ?_
    refine x_getr (C := RX7) (k := 0) hx hb hts u_X7_told_7 hown hK hP (g_V_0 cI cO a σ) rfl (by decide) ⟨rfl, rfl, rfl⟩ k_X7_told_f12 rfl dX7_told_55 ?_
    refine x_cVi (p_V cI cO a) (p_YN cI (q_sub2 2 85 1 a)) (q_put2 2 85 21 1 σ) [] [.ref (a 1)] hx hb hml hl.1 hown hts hK hP hD hS hA rfl (c_X6_loopsIn l D cI tys ht (q_sub2 2 85 1 a) (q_sub2 2 85 1 σ)) gX7_told_X6_loopsIn rfl ⟨rfl, rfl⟩ i_X6_loopsIn ⟨Nat.le_of_ble_eq_true rfl, Nat.le_of_ble_eq_true rfl⟩ (fr_V_YN_85_1 cI cO a σ) (g_YN_0 cI (q_sub2 2 85 1 a) (q_sub2 2 85 1 σ)) rfl rfl (Nat.le_of_ble_eq_true rfl) ⟨Nat.zero_le _, Nat.zero_le _⟩ dX7_told_58 h (fun x10 H locs s9 hP hS h => ?_)
    exact x_iret (p_V cI cO a) hx hb hr hlocks hP hS dX7_told_61 h
  have h := if_f c8 h
  by_cases c11 : x1 = 3
  · have h := if_t c11 h
    refine x_tsw_in (v := 3) (off := 61) (tgt := 62) hx hb dX7_told_1 c11 (by decide +kernel) ?_
    refine lv_aload_n hx hb dX7_told_62 rfl (lv_at hl 0 rfl) ?_
    refine x_cVi (p_V cI cO a) (p_V cI cO a) (fun τ => τ) [] [] hx hb hml hl.1 hown hts hK hP hD hS hA rfl (c_X7_rightEntries l D cI cO tys ht ht1 a σ) gX7_told_X7_rightEntries rfl ⟨rfl, rfl⟩ i_X7_rightEntries ⟨Nat.le_of_ble_eq_true rfl, Nat.le_of_ble_eq_true rfl⟩ q_frI (g_V_0 cI cO a σ) rfl rfl (Nat.le_of_ble_eq_true rfl) ⟨Nat.zero_le _, Nat.zero_le _⟩ dX7_told_63 h (fun x13 H locs s12 hP hS h => ?_)
    exact x_iret (p_V cI cO a) hx hb hr hlocks hP hS dX7_told_66 h
  have h := if_f c11 h
  by_cases c14 : x1 = 4
  · have h := if_t c14 h
    refine x_tsw_in (v := 4) (off := 66) (tgt := 67) hx hb dX7_told_1 c14 (by decide +kernel) ?_
    refine lv_aload_n hx hb dX7_told_67 rfl (lv_at hl 0 rfl) ?_
    refine x_cVi (p_V cI cO a) (p_V cI cO a) (fun τ => τ) [] [] hx hb hml hl.1 hown hts hK hP hD hS hA rfl (c_X7_worstCut l D cI cO tys ht ht1 a σ) gX7_told_X7_worstCut rfl ⟨rfl, rfl⟩ i_X7_worstCut ⟨Nat.le_of_ble_eq_true rfl, Nat.le_of_ble_eq_true rfl⟩ q_frI (g_V_0 cI cO a σ) rfl rfl (Nat.le_of_ble_eq_true rfl) ⟨Nat.zero_le _, Nat.zero_le _⟩ dX7_told_68 h (fun x16 H locs s15 hP hS h => ?_)
    exact x_iret (p_V cI cO a) hx hb hr hlocks hP hS dX7_told_71 h
  have h := if_f c14 h
  by_cases c17 : x1 = 5
  · have h := if_t c17 h
    refine x_tsw_in (v := 5) (off := 71) (tgt := 72) hx hb dX7_told_1 c17 (by decide +kernel) ?_
    refine lv_aload_n hx hb dX7_told_72 rfl (lv_at hl 0 rfl) ?_
    refine x_cVi (p_V cI cO a) (p_V cI cO a) (fun τ => τ) [] [] hx hb hml hl.1 hown hts hK hP hD hS hA rfl (c_X7_neededLinks l D cI cO tys ht ht1 a σ) gX7_told_X7_neededLinks rfl ⟨rfl, rfl⟩ i_X7_neededLinks ⟨Nat.le_of_ble_eq_true rfl, Nat.le_of_ble_eq_true rfl⟩ q_frI (g_V_0 cI cO a σ) rfl rfl (Nat.le_of_ble_eq_true rfl) ⟨Nat.zero_le _, Nat.zero_le _⟩ dX7_told_73 h (fun x19 H locs s18 hP hS h => ?_)
    exact x_iret (p_V cI cO a) hx hb hr hlocks hP hS dX7_told_76 h
  have h := if_f c17 h
  refine x_tsw_out (tgt := 77) hx hb dX7_told_1 6 (by decide) (fun k9 hk9 => ?_) (by decide) ?_
  · rcases (show k9 = 0 ∨ k9 = 1 ∨ k9 = 2 ∨ k9 = 3 ∨ k9 = 4 ∨ k9 = 5 by omega) with rfl | rfl | rfl | rfl | rfl | rfl
    · exact fun h9 => c2 (h9.trans (by decide +kernel))
    · exact fun h9 => c5 (h9.trans (by decide +kernel))
    · exact fun h9 => c8 (h9.trans (by decide +kernel))
    · exact fun h9 => c11 (h9.trans (by decide +kernel))
    · exact fun h9 => c14 (h9.trans (by decide +kernel))
    · exact fun h9 => c17 (h9.trans (by decide +kernel))
  refine lv_iconst (v := (-1)) hx hb dX7_told_77 (by decide +kernel) ?_
  exact x_iret (p_V cI cO a) hx hb hr hlocks hP hS dX7_told_78 h
/-! ===== VectorRounds.then(IIII)I: world V ===== -/
theorem i_X7_then : yX7_then.cls = RX7 ∧ yX7_then.cls ≠ "java/lang/invoke/MethodHandle" ∧ yX7_then.cls ≠ "java/lang/invoke/VarHandle" ∧ (parseMethodDescriptor yX7_then.desc).map (fun d => d.parameters.length) = some 4 := by decide +kernel
theorem k_X7_then_f118 : Cond.fieldLink RX7 118 RX3 "tables" "LVectorRounds$Tables;" ∈ wsX7_then := by decide +kernel
theorem k_X7_then_f12 : Cond.fieldLink RX7 12 RX7 "now" "LVectorRounds$Network;" ∈ wsX7_then := by decide +kernel
theorem k_X7_then_f127 : Cond.fieldLink RX7 127 RX4 "metric" "[I" ∈ wsX7_then := by decide +kernel
theorem k_X7_then_f130 : Cond.fieldLink RX7 130 RX4 "via" "[I" ∈ wsX7_then := by decide +kernel
theorem k_X7_then_f16 : Cond.fieldLink RX7 16 RX7 "thought" "LVectorRounds$Network;" ∈ wsX7_then := by decide +kernel
theorem k_X7_then_f28 : Cond.fieldLink RX7 28 RX7 "path" "LVectorRounds$Way;" ∈ wsX7_then := by decide +kernel
theorem u_X7_then_3 : ∀ w ∈ u_ws RX3 TX3 9, w ∈ wsX7_then := by decide +kernel
theorem u_X7_then_4 : ∀ w ∈ u_ws RX4 TX4 6, w ∈ wsX7_then := by decide +kernel
theorem u_X7_then_7 : ∀ w ∈ u_ws RX7 TX7 9, w ∈ wsX7_then := by decide +kernel
set_option maxHeartbeats 4000000 in
set_option maxRecDepth 100000 in
theorem c_X7_then (l : Launch) (D : va_G) (cI cO : ClassId) (tys : List (ClassId × FieldType)) (ht : tys[0]? = some (cI, .int)) (ht1 : tys[1]? = some (cO, .object "VectorRounds$Holder")) (a : Nat → Nat) (σ : qM) (x1 : Int32) (x2 : Int32) (x3 : Int32) (x4 : Int32) : q_Met l yX7_then wsX7_then ({ frames := 4, cells := 0, slots := 0, locals := 104 }) [.ref (a 0), .int x1, .int x2, .int x3, .int x4] D tys (p_V cI cO a) σ (f_X7_then σ x1 x2 x3 x4) := by
  refine x_ofWi (cc := cX7_then) (maxL := 6) (ret := (some .int)) (by decide +kernel) rfl (pf_V cI cO a) (Nat.le_of_ble_eq_true rfl) ?_
  intro p e s m below meth c A ls qq h hx hb hml hr hlocks hown hts hK hP hD hA hS hl
  have hown : s.vm.findClass RX7 = some m.cls := hown
  have hl : lv_has ls 6 [(0, .ref (a 0)), (1, .int x1), (2, .int x2), (3, .int x3), (4, .int x4)] := hl
  have main : ∀ k9 : Nat, (∀ (σ : qM) (x16 x17 x18 x19 x20 : Int32) (H : Heap) (locs : List Loc) (ls : Array Slot), q_it (D_X7_then) k9 0 σ [x16, x17, x18, x19, x20] = some qq → va_P D vwCl (p_V cI cO a σ) H → va_S A s.heap H locs → lv_has ls 6 [(0, .ref (a 0)), (1, .int x16), (2, .int x17), (3, .int x18), (4, .int x19), (5, .int x20)] → W p l e ({ frames := 4, cells := 0, slots := 0, locals := 104 }) s m [.ref (a 0), .int x1, .int x2, .int x3, .int x4].toArray below meth c H locs 0 0 (MQ below (va_Qi (fun r τ => (r, τ) = qq) (fun τ t => va_P D vwCl ((p_V cI cO a) τ) t.heap) A) [.ref (a 0), .int x1, .int x2, .int x3, .int x4].toArray s 0 0 A) (F0 m 53 ls [])) := by
    intro k9
    induction k9 with
    | zero => exact (fun _ _ _ _ _ _ _ _ _ h _ _ _ => (q_no (show (none : qR) = some qq from h)).elim)
    | succ k9 ih =>
      have i53 := ih
      refine ?_
      · intro σ x16 x17 x18 x19 x20 H locs ls h hP hS hl
        have h : b_X7_then_53 (q_it (D_X7_then) k9) σ x16 x17 x18 x19 x20 = some qq := h
        unfold b_X7_then_53 at h
        refine lv_iload hx hb dX7_then_53 (lv_at hl 5 rfl) ?_
        refine lv_iload_n hx hb dX7_then_55 rfl (lv_at hl 3 rfl) ?_
        refine lv_icmp_ge (tgt := 73) hx hb dX7_then_56 (by decide) (fun c21 => ?_) (fun c21 => ?_)
        · have h := if_t c21 h
          refine lv_iload hx hb dX7_then_73 (lv_at hl 4 rfl) ?_
          refine lv_iconst (v := 2) hx hb dX7_then_75 (by decide +kernel) ?_
          refine lv_icmp_ne (tgt := 91) hx hb dX7_then_76 (by decide) (fun c22 => ?_) (fun c22 => ?_)
          · have h := if_f c22 h
            refine lv_iload_n hx hb dX7_then_91 rfl (lv_at hl 1 rfl) ?_
            refine lv_bipush (v := 10) hx hb dX7_then_92 (by decide +kernel) ?_
            refine x_imul hx hb dX7_then_94 h (fun x23 h => ?_)
            refine lv_iload_n hx hb dX7_then_95 rfl (lv_at hl 2 rfl) ?_
            refine x_iadd hx hb dX7_then_96 h (fun x24 h => ?_)
            refine lv_istore (lv' := [(5, .int x24), (0, .ref (a 0)), (1, .int x16), (2, .int x17), (3, .int x18), (4, .int x19)]) hx hb dX7_then_97 hl (by decide) rfl (fun ls hl => ?_)
            refine lv_aload_n hx hb dX7_then_99 rfl (lv_at hl 1 rfl) ?_
            refine x_getr (C := RX7) (k := 1) hx hb hts u_X7_then_7 hown hK hP (g_V_0 cI cO a σ) rfl (by decide) ⟨rfl, rfl, rfl⟩ k_X7_then_f16 rfl dX7_then_100 ?_
            refine x_getr (C := RX3) (k := 0) hx hb hts u_X7_then_3 hown hK hP (g_V_22 cI cO a σ) rfl (by decide) ⟨rfl, rfl, rfl⟩ k_X7_then_f118 rfl dX7_then_103 ?_
            refine lv_iload hx hb dX7_then_106 (lv_at hl 0 rfl) ?_
            refine x_cVi (p_V cI cO a) (p_T cI (q_sub 23 a)) (q_put 23 7 σ) [] [.int x24] hx hb hml hl.1 hown hts hK hP hD hS hA rfl (c_X4_has l D cI tys ht (q_sub 23 a) (q_sub 23 σ) x24) gX7_then_X4_has rfl ⟨rfl, rfl⟩ i_X4_has ⟨Nat.le_of_ble_eq_true rfl, Nat.le_of_ble_eq_true rfl⟩ (fr_V_T_23 cI cO a σ) (g_T_0 cI (q_sub 23 a) (q_sub 23 σ)) rfl rfl (Nat.le_of_ble_eq_true rfl) ⟨Nat.zero_le _, Nat.zero_le _⟩ dX7_then_108 h (fun x26 H locs s25 hP hS h => ?_)
            refine lv_if_ne (tgt := 117) hx hb dX7_then_111 (by decide) (fun c27 => ?_) (fun c27 => ?_)
            · have h := if_f c27 h
              refine lv_iload hx hb dX7_then_117 (lv_at hl 5 rfl) ?_
              refine lv_if_ne (tgt := 138) hx hb dX7_then_119 (by decide) (fun c28 => ?_) (fun c28 => ?_)
              · have h := if_f c28 h
                refine lv_aload_n hx hb dX7_then_138 rfl (lv_at hl 1 rfl) ?_
                refine x_getr (C := RX7) (k := 1) hx hb hts u_X7_then_7 hown hK hP (g_V_0 cI cO a s25) rfl (by decide) ⟨rfl, rfl, rfl⟩ k_X7_then_f16 rfl dX7_then_139 ?_
                refine x_getr (C := RX3) (k := 0) hx hb hts u_X7_then_3 hown hK hP (g_V_22 cI cO a s25) rfl (by decide) ⟨rfl, rfl, rfl⟩ k_X7_then_f118 rfl dX7_then_142 ?_
                refine x_getr (C := RX4) (k := 1) hx hb hts u_X7_then_4 hown hK hP (g_V_23 cI cO a s25) rfl (by decide) ⟨rfl, rfl, rfl⟩ k_X7_then_f130 rfl dX7_then_145 ?_
                refine lv_iload hx hb dX7_then_148 (lv_at hl 0 rfl) ?_
                refine x_iald (t0 := 0) hx hb hK hP ht h (g_V_25 cI cO a s25) dX7_then_150 (fun x29 h => ?_)
                exact x_iret (p_V cI cO a) hx hb hr hlocks hP hS dX7_then_151 h
              · have h := if_t c28 h
                refine lv_aload_n hx hb dX7_then_122 rfl (lv_at hl 1 rfl) ?_
                refine x_getr (C := RX7) (k := 1) hx hb hts u_X7_then_7 hown hK hP (g_V_0 cI cO a s25) rfl (by decide) ⟨rfl, rfl, rfl⟩ k_X7_then_f16 rfl dX7_then_123 ?_
                refine x_getr (C := RX3) (k := 0) hx hb hts u_X7_then_3 hown hK hP (g_V_22 cI cO a s25) rfl (by decide) ⟨rfl, rfl, rfl⟩ k_X7_then_f118 rfl dX7_then_126 ?_
                refine x_getr (C := RX4) (k := 0) hx hb hts u_X7_then_4 hown hK hP (g_V_23 cI cO a s25) rfl (by decide) ⟨rfl, rfl, rfl⟩ k_X7_then_f127 rfl dX7_then_129 ?_
                refine lv_iload hx hb dX7_then_132 (lv_at hl 0 rfl) ?_
                refine x_iald (t0 := 0) hx hb hK hP ht h (g_V_24 cI cO a s25) dX7_then_134 (fun x30 h => ?_)
                refine lv_goto (tgt := 151) hx hb dX7_then_135 (by decide) ?_
                exact x_iret (p_V cI cO a) hx hb hr hlocks hP hS dX7_then_151 h
            · have h := if_t c27 h
              refine lv_bipush (v := (-2)) hx hb dX7_then_114 (by decide +kernel) ?_
              exact x_iret (p_V cI cO a) hx hb hr hlocks hP hS dX7_then_116 h
          · have h := if_t c22 h
            refine lv_aload_n hx hb dX7_then_79 rfl (lv_at hl 0 rfl) ?_
            refine x_getr (C := RX7) (k := 4) hx hb hts u_X7_then_7 hown hK hP (g_V_0 cI cO a σ) rfl (by decide) ⟨rfl, rfl, rfl⟩ k_X7_then_f28 rfl dX7_then_80 ?_
            refine lv_aload_n hx hb dX7_then_83 rfl (lv_at hl 0 rfl) ?_
            refine x_getr (C := RX7) (k := 1) hx hb hts u_X7_then_7 hown hK hP (g_V_0 cI cO a σ) rfl (by decide) ⟨rfl, rfl, rfl⟩ k_X7_then_f16 rfl dX7_then_84 ?_
            refine x_cVi (p_V cI cO a) (p_YN cI (q_sub2 2 85 22 a)) (q_put2 2 85 21 22 σ) [] [.ref (a 22)] hx hb hml hl.1 hown hts hK hP hD hS hA rfl (c_X6_loopsIn l D cI tys ht (q_sub2 2 85 22 a) (q_sub2 2 85 22 σ)) gX7_then_X6_loopsIn rfl ⟨rfl, rfl⟩ i_X6_loopsIn ⟨Nat.le_of_ble_eq_true rfl, Nat.le_of_ble_eq_true rfl⟩ (fr_V_YN_85_22 cI cO a σ) (g_YN_0 cI (q_sub2 2 85 22 a) (q_sub2 2 85 22 σ)) rfl rfl (Nat.le_of_ble_eq_true rfl) ⟨Nat.zero_le _, Nat.zero_le _⟩ dX7_then_87 h (fun x32 H locs s31 hP hS h => ?_)
            exact x_iret (p_V cI cO a) hx hb hr hlocks hP hS dX7_then_90 h
        · have h := if_f c21 h
          refine lv_aload_n hx hb dX7_then_59 rfl (lv_at hl 0 rfl) ?_
          refine x_getr (C := RX7) (k := 1) hx hb hts u_X7_then_7 hown hK hP (g_V_0 cI cO a σ) rfl (by decide) ⟨rfl, rfl, rfl⟩ k_X7_then_f16 rfl dX7_then_60 ?_
          refine x_cVi (p_V cI cO a) (p_N cI (q_sub 22 a)) (q_put 22 21 σ) [] [] hx hb hml hl.1 hown hts hK hP hD hS hA rfl (c_X3_goRound l D cI tys ht (q_sub 22 a) (q_sub 22 σ)) gX7_then_X3_goRound rfl ⟨rfl, rfl⟩ i_X3_goRound ⟨Nat.le_of_ble_eq_true rfl, Nat.le_of_ble_eq_true rfl⟩ (fr_V_N_22 cI cO a σ) (g_N_0 cI (q_sub 22 a) (q_sub 22 σ)) rfl rfl (Nat.le_of_ble_eq_true rfl) ⟨Nat.zero_le _, Nat.zero_le _⟩ dX7_then_63 h (fun x34 H locs s33 hP hS h => ?_)
          refine lv_pop hx hb dX7_then_66 rfl ?_
          refine x_iinc (k := 5) (w := 1) hx hb dX7_then_67 hl rfl (by decide +kernel) (by decide) (fun v9 => [(5, .int v9), (0, .ref (a 0)), (1, .int x16), (2, .int x17), (3, .int x18), (4, .int x19)]) (fun v9 => rfl) h (fun x35 ls hl h => ?_)
          have hl : lv_has ls 6 [(5, .int x35), (0, .ref (a 0)), (1, .int x16), (2, .int x17), (3, .int x18), (4, .int x19)] := hl
          refine lv_goto (tgt := 53) hx hb dX7_then_70 (by decide) ?_
          exact i53 s33 x16 x17 x18 x19 x35 _ _ _ h hP hS (lv_sub hl [1, 2, 3, 4, 5, 0] rfl)
  have i53 : ∀ (σ : qM) (x16 x17 x18 x19 x20 : Int32) (H : Heap) (locs : List Loc) (ls : Array Slot), q_lim (D_X7_then) 0 σ [x16, x17, x18, x19, x20] = some qq → va_P D vwCl (p_V cI cO a σ) H → va_S A s.heap H locs → lv_has ls 6 [(0, .ref (a 0)), (1, .int x16), (2, .int x17), (3, .int x18), (4, .int x19), (5, .int x20)] → W p l e ({ frames := 4, cells := 0, slots := 0, locals := 104 }) s m [.ref (a 0), .int x1, .int x2, .int x3, .int x4].toArray below meth c H locs 0 0 (MQ below (va_Qi (fun r τ => (r, τ) = qq) (fun τ t => va_P D vwCl ((p_V cI cO a) τ) t.heap) A) [.ref (a 0), .int x1, .int x2, .int x3, .int x4].toArray s 0 0 A) (F0 m 53 ls []) := by
    intro σ x16 x17 x18 x19 x20 H locs ls h hP hS hl
    obtain ⟨k9, h⟩ := q_lim_n h
    exact (main k9) σ x16 x17 x18 x19 x20 H locs ls h hP hS hl
  have h : e_X7_then (q_lim (D_X7_then)) σ x1 x2 x3 x4 = some qq := h
  unfold e_X7_then at h
  refine lv_aload_n hx hb dX7_then_0 rfl (lv_at hl 0 rfl) ?_
  refine lv_iload_n hx hb dX7_then_1 rfl (lv_at hl 1 rfl) ?_
  refine x_cVi (p_V cI cO a) (p_V cI cO a) (fun τ => τ) [] [.int x1] hx hb hml hl.1 hown hts hK hP hD hS hA rfl (c_X7_noRouter l D cI cO tys ht ht1 a σ x1) gX7_then_X7_noRouter rfl ⟨rfl, rfl⟩ i_X7_noRouter ⟨Nat.le_of_ble_eq_true rfl, Nat.le_of_ble_eq_true rfl⟩ q_frI (g_V_0 cI cO a σ) rfl rfl (Nat.le_of_ble_eq_true rfl) ⟨Nat.zero_le _, Nat.zero_le _⟩ dX7_then_2 h (fun x6 H locs s5 hP hS h => ?_)
  refine lv_if_ne (tgt := 37) hx hb dX7_then_5 (by decide) (fun c7 => ?_) (fun c7 => ?_)
  · have h := if_f c7 h
    refine lv_iconst (v := (-1)) hx hb dX7_then_37 (by decide +kernel) ?_
    exact x_iret (p_V cI cO a) hx hb hr hlocks hP hS dX7_then_38 h
  · have h := if_t c7 h
    refine lv_aload_n hx hb dX7_then_8 rfl (lv_at hl 0 rfl) ?_
    refine lv_iload_n hx hb dX7_then_9 rfl (lv_at hl 2 rfl) ?_
    refine x_cVi (p_V cI cO a) (p_V cI cO a) (fun τ => τ) [] [.int x2] hx hb hml hl.1 hown hts hK hP hD hS hA rfl (c_X7_noRouter l D cI cO tys ht ht1 a s5 x2) gX7_then_X7_noRouter rfl ⟨rfl, rfl⟩ i_X7_noRouter ⟨Nat.le_of_ble_eq_true rfl, Nat.le_of_ble_eq_true rfl⟩ q_frI (g_V_0 cI cO a s5) rfl rfl (Nat.le_of_ble_eq_true rfl) ⟨Nat.zero_le _, Nat.zero_le _⟩ dX7_then_10 h (fun x9 H locs s8 hP hS h => ?_)
    refine lv_if_ne (tgt := 37) hx hb dX7_then_13 (by decide) (fun c10 => ?_) (fun c10 => ?_)
    · have h := if_f c10 h
      refine lv_iconst (v := (-1)) hx hb dX7_then_37 (by decide +kernel) ?_
      exact x_iret (p_V cI cO a) hx hb hr hlocks hP hS dX7_then_38 h
    · have h := if_t c10 h
      refine lv_iload_n hx hb dX7_then_16 rfl (lv_at hl 3 rfl) ?_
      refine lv_if_lt (tgt := 37) hx hb dX7_then_17 (by decide) (fun c11 => ?_) (fun c11 => ?_)
      · have h := if_t c11 h
        refine lv_iconst (v := (-1)) hx hb dX7_then_37 (by decide +kernel) ?_
        exact x_iret (p_V cI cO a) hx hb hr hlocks hP hS dX7_then_38 h
      · have h := if_f c11 h
        refine lv_iload_n hx hb dX7_then_20 rfl (lv_at hl 3 rfl) ?_
        refine lv_bipush (v := 80) hx hb dX7_then_21 (by decide +kernel) ?_
        refine lv_icmp_gt (tgt := 37) hx hb dX7_then_23 (by decide) (fun c12 => ?_) (fun c12 => ?_)
        · have h := if_t c12 h
          refine lv_iconst (v := (-1)) hx hb dX7_then_37 (by decide +kernel) ?_
          exact x_iret (p_V cI cO a) hx hb hr hlocks hP hS dX7_then_38 h
        · have h := if_f c12 h
          refine lv_iload hx hb dX7_then_26 (lv_at hl 4 rfl) ?_
          refine lv_if_lt (tgt := 37) hx hb dX7_then_28 (by decide) (fun c13 => ?_) (fun c13 => ?_)
          · have h := if_t c13 h
            refine lv_iconst (v := (-1)) hx hb dX7_then_37 (by decide +kernel) ?_
            exact x_iret (p_V cI cO a) hx hb hr hlocks hP hS dX7_then_38 h
          · have h := if_f c13 h
            refine lv_iload hx hb dX7_then_31 (lv_at hl 4 rfl) ?_
            refine lv_iconst (v := 2) hx hb dX7_then_33 (by decide +kernel) ?_
            refine lv_icmp_le (tgt := 39) hx hb dX7_then_34 (by decide) (fun c14 => ?_) (fun c14 => ?_)
            · have h := if_t c14 h
              refine lv_aload_n hx hb dX7_then_39 rfl (lv_at hl 0 rfl) ?_
              refine x_getr (C := RX7) (k := 1) hx hb hts u_X7_then_7 hown hK hP (g_V_0 cI cO a s8) rfl (by decide) ⟨rfl, rfl, rfl⟩ k_X7_then_f16 rfl dX7_then_40 ?_
              refine lv_aload_n hx hb dX7_then_43 rfl (lv_at hl 0 rfl) ?_
              refine x_getr (C := RX7) (k := 0) hx hb hts u_X7_then_7 hown hK hP (g_V_0 cI cO a s8) rfl (by decide) ⟨rfl, rfl, rfl⟩ k_X7_then_f12 rfl dX7_then_44 ?_
              refine x_cVv (p_V cI cO a) (p_NN cI (q_sub2 21 22 1 a)) (q_put2 21 22 21 1 s8) [] [.ref (a 1)] hx hb hml hl.1 hown hts hK hP hD hS hA rfl (c_X3_become l D cI tys ht (q_sub2 21 22 1 a) (q_sub2 21 22 1 s8)) gX7_then_X3_become rfl ⟨rfl, rfl⟩ i_X3_become ⟨Nat.le_of_ble_eq_true rfl, Nat.le_of_ble_eq_true rfl⟩ (fr_V_NN_22_1 cI cO a s8) (g_NN_0 cI (q_sub2 21 22 1 a) (q_sub2 21 22 1 s8)) rfl rfl (Nat.le_of_ble_eq_true rfl) ⟨Nat.zero_le _, Nat.zero_le _⟩ dX7_then_47 h (fun H locs s15 hP hS h => ?_)
              refine lv_iconst (v := 0) hx hb dX7_then_50 (by decide +kernel) ?_
              refine lv_istore (lv' := [(5, .int 0), (0, .ref (a 0)), (1, .int x1), (2, .int x2), (3, .int x3), (4, .int x4)]) hx hb dX7_then_51 hl (by decide) rfl (fun ls hl => ?_)
              exact i53 s15 x1 x2 x3 x4 0 _ _ _ h hP hS (lv_sub hl [1, 2, 3, 4, 5, 0] rfl)
            · have h := if_f c14 h
              refine lv_iconst (v := (-1)) hx hb dX7_then_37 (by decide +kernel) ?_
              exact x_iret (p_V cI cO a) hx hb hr hlocks hP hS dX7_then_38 h
/-! ===== VectorRounds.way(III)I: world V ===== -/
theorem i_X7_way : yX7_way.cls = RX7 ∧ yX7_way.cls ≠ "java/lang/invoke/MethodHandle" ∧ yX7_way.cls ≠ "java/lang/invoke/VarHandle" ∧ (parseMethodDescriptor yX7_way.desc).map (fun d => d.parameters.length) = some 3 := by decide +kernel
theorem k_X7_way_f118 : Cond.fieldLink RX7 118 RX3 "tables" "LVectorRounds$Tables;" ∈ wsX7_way := by decide +kernel
theorem k_X7_way_f12 : Cond.fieldLink RX7 12 RX7 "now" "LVectorRounds$Network;" ∈ wsX7_way := by decide +kernel
theorem k_X7_way_f174 : Cond.fieldLink RX7 174 RX6 "length" "I" ∈ wsX7_way := by decide +kernel
theorem k_X7_way_f177 : Cond.fieldLink RX7 177 RX6 "stops" "[I" ∈ wsX7_way := by decide +kernel
theorem k_X7_way_f28 : Cond.fieldLink RX7 28 RX7 "path" "LVectorRounds$Way;" ∈ wsX7_way := by decide +kernel
theorem u_X7_way_3 : ∀ w ∈ u_ws RX3 TX3 9, w ∈ wsX7_way := by decide +kernel
theorem u_X7_way_6 : ∀ w ∈ u_ws RX6 TX6 3, w ∈ wsX7_way := by decide +kernel
theorem u_X7_way_7 : ∀ w ∈ u_ws RX7 TX7 9, w ∈ wsX7_way := by decide +kernel
set_option maxHeartbeats 4000000 in
set_option maxRecDepth 100000 in
theorem c_X7_way (l : Launch) (D : va_G) (cI cO : ClassId) (tys : List (ClassId × FieldType)) (ht : tys[0]? = some (cI, .int)) (ht1 : tys[1]? = some (cO, .object "VectorRounds$Holder")) (a : Nat → Nat) (σ : qM) (x1 : Int32) (x2 : Int32) (x3 : Int32) : q_Met l yX7_way wsX7_way ({ frames := 2, cells := 0, slots := 0, locals := 46 }) [.ref (a 0), .int x1, .int x2, .int x3] D tys (p_V cI cO a) σ (f_X7_way σ x1 x2 x3) := by
  refine x_ofWi (cc := cX7_way) (maxL := 4) (ret := (some .int)) (by decide +kernel) rfl (pf_V cI cO a) (Nat.le_of_ble_eq_true rfl) ?_
  intro p e s m below meth c A ls qq h hx hb hml hr hlocks hown hts hK hP hD hA hS hl
  have hown : s.vm.findClass RX7 = some m.cls := hown
  have hl : lv_has ls 4 [(0, .ref (a 0)), (1, .int x1), (2, .int x2), (3, .int x3)] := hl
  unfold f_X7_way at h
  refine lv_aload_n hx hb dX7_way_0 rfl (lv_at hl 0 rfl) ?_
  refine lv_iload_n hx hb dX7_way_1 rfl (lv_at hl 1 rfl) ?_
  refine x_cVi (p_V cI cO a) (p_V cI cO a) (fun τ => τ) [] [.int x1] hx hb hml hl.1 hown hts hK hP hD hS hA rfl (c_X7_noRouter l D cI cO tys ht ht1 a σ x1) gX7_way_X7_noRouter rfl ⟨rfl, rfl⟩ i_X7_noRouter ⟨Nat.le_of_ble_eq_true rfl, Nat.le_of_ble_eq_true rfl⟩ q_frI (g_V_0 cI cO a σ) rfl rfl (Nat.le_of_ble_eq_true rfl) ⟨Nat.zero_le _, Nat.zero_le _⟩ dX7_way_2 h (fun x5 H locs s4 hP hS h => ?_)
  refine lv_if_ne (tgt := 21) hx hb dX7_way_5 (by decide) (fun c6 => ?_) (fun c6 => ?_)
  · have h := if_f c6 h
    refine lv_iconst (v := (-1)) hx hb dX7_way_21 (by decide +kernel) ?_
    exact x_iret (p_V cI cO a) hx hb hr hlocks hP hS dX7_way_22 h
  · have h := if_t c6 h
    refine lv_aload_n hx hb dX7_way_8 rfl (lv_at hl 0 rfl) ?_
    refine lv_iload_n hx hb dX7_way_9 rfl (lv_at hl 2 rfl) ?_
    refine x_cVi (p_V cI cO a) (p_V cI cO a) (fun τ => τ) [] [.int x2] hx hb hml hl.1 hown hts hK hP hD hS hA rfl (c_X7_noRouter l D cI cO tys ht ht1 a s4 x2) gX7_way_X7_noRouter rfl ⟨rfl, rfl⟩ i_X7_noRouter ⟨Nat.le_of_ble_eq_true rfl, Nat.le_of_ble_eq_true rfl⟩ q_frI (g_V_0 cI cO a s4) rfl rfl (Nat.le_of_ble_eq_true rfl) ⟨Nat.zero_le _, Nat.zero_le _⟩ dX7_way_10 h (fun x8 H locs s7 hP hS h => ?_)
    refine lv_if_ne (tgt := 21) hx hb dX7_way_13 (by decide) (fun c9 => ?_) (fun c9 => ?_)
    · have h := if_f c9 h
      refine lv_iconst (v := (-1)) hx hb dX7_way_21 (by decide +kernel) ?_
      exact x_iret (p_V cI cO a) hx hb hr hlocks hP hS dX7_way_22 h
    · have h := if_t c9 h
      refine lv_iload_n hx hb dX7_way_16 rfl (lv_at hl 3 rfl) ?_
      refine lv_iconst (v := (-1)) hx hb dX7_way_17 (by decide +kernel) ?_
      refine lv_icmp_ge (tgt := 23) hx hb dX7_way_18 (by decide) (fun c10 => ?_) (fun c10 => ?_)
      · have h := if_t c10 h
        refine lv_aload_n hx hb dX7_way_23 rfl (lv_at hl 0 rfl) ?_
        refine x_getr (C := RX7) (k := 4) hx hb hts u_X7_way_7 hown hK hP (g_V_0 cI cO a s7) rfl (by decide) ⟨rfl, rfl, rfl⟩ k_X7_way_f28 rfl dX7_way_24 ?_
        refine lv_aload_n hx hb dX7_way_27 rfl (lv_at hl 0 rfl) ?_
        refine x_getr (C := RX7) (k := 0) hx hb hts u_X7_way_7 hown hK hP (g_V_0 cI cO a s7) rfl (by decide) ⟨rfl, rfl, rfl⟩ k_X7_way_f12 rfl dX7_way_28 ?_
        refine x_getr (C := RX3) (k := 0) hx hb hts u_X7_way_3 hown hK hP (g_V_1 cI cO a s7) rfl (by decide) ⟨rfl, rfl, rfl⟩ k_X7_way_f118 rfl dX7_way_31 ?_
        refine lv_iload_n hx hb dX7_way_34 rfl (lv_at hl 1 rfl) ?_
        refine lv_iload_n hx hb dX7_way_35 rfl (lv_at hl 2 rfl) ?_
        refine x_cVv (p_V cI cO a) (p_YT cI (q_sub2 2 85 2 a)) (q_put2 2 85 7 2 s7) [] [.ref (a 2), .int x1, .int x2] hx hb hml hl.1 hown hts hK hP hD hS hA rfl (c_X6_walk l D cI tys ht (q_sub2 2 85 2 a) (q_sub2 2 85 2 s7) x1 x2) gX7_way_X6_walk rfl ⟨rfl, rfl⟩ i_X6_walk ⟨Nat.le_of_ble_eq_true rfl, Nat.le_of_ble_eq_true rfl⟩ (fr_V_YT_85_2 cI cO a s7) (g_YT_0 cI (q_sub2 2 85 2 a) (q_sub2 2 85 2 s7)) rfl rfl (Nat.le_of_ble_eq_true rfl) ⟨Nat.zero_le _, Nat.zero_le _⟩ dX7_way_36 h (fun H locs s11 hP hS h => ?_)
        refine lv_iload_n hx hb dX7_way_39 rfl (lv_at hl 3 rfl) ?_
        refine lv_iconst (v := (-1)) hx hb dX7_way_40 (by decide +kernel) ?_
        refine lv_icmp_ne (tgt := 52) hx hb dX7_way_41 (by decide) (fun c12 => ?_) (fun c12 => ?_)
        · have h := if_f c12 h
          refine lv_iload_n hx hb dX7_way_52 rfl (lv_at hl 3 rfl) ?_
          refine lv_aload_n hx hb dX7_way_53 rfl (lv_at hl 0 rfl) ?_
          refine x_getr (C := RX7) (k := 4) hx hb hts u_X7_way_7 hown hK hP (g_V_0 cI cO a s11) rfl (by decide) ⟨rfl, rfl, rfl⟩ k_X7_way_f28 rfl dX7_way_54 ?_
          refine x_geti (C := RX6) (k := 1) hx hb hts u_X7_way_6 hown hK hP (g_V_85 cI cO a s11) rfl (by decide) ⟨rfl, rfl, rfl⟩ k_X7_way_f174 rfl dX7_way_57 h (fun x13 h => ?_)
          refine lv_icmp_ge (tgt := 75) hx hb dX7_way_60 (by decide) (fun c14 => ?_) (fun c14 => ?_)
          · have h := if_t c14 h
            refine lv_bipush (v := (-2)) hx hb dX7_way_75 (by decide +kernel) ?_
            exact x_iret (p_V cI cO a) hx hb hr hlocks hP hS dX7_way_77 h
          · have h := if_f c14 h
            refine lv_aload_n hx hb dX7_way_63 rfl (lv_at hl 0 rfl) ?_
            refine x_getr (C := RX7) (k := 4) hx hb hts u_X7_way_7 hown hK hP (g_V_0 cI cO a s11) rfl (by decide) ⟨rfl, rfl, rfl⟩ k_X7_way_f28 rfl dX7_way_64 ?_
            refine x_getr (C := RX6) (k := 0) hx hb hts u_X7_way_6 hown hK hP (g_V_85 cI cO a s11) rfl (by decide) ⟨rfl, rfl, rfl⟩ k_X7_way_f177 rfl dX7_way_67 ?_
            refine lv_iload_n hx hb dX7_way_70 rfl (lv_at hl 3 rfl) ?_
            refine x_iald (t0 := 0) hx hb hK hP ht h (g_V_86 cI cO a s11) dX7_way_71 (fun x15 h => ?_)
            refine lv_goto (tgt := 77) hx hb dX7_way_72 (by decide) ?_
            exact x_iret (p_V cI cO a) hx hb hr hlocks hP hS dX7_way_77 h
        · have h := if_t c12 h
          refine lv_aload_n hx hb dX7_way_44 rfl (lv_at hl 0 rfl) ?_
          refine x_getr (C := RX7) (k := 4) hx hb hts u_X7_way_7 hown hK hP (g_V_0 cI cO a s11) rfl (by decide) ⟨rfl, rfl, rfl⟩ k_X7_way_f28 rfl dX7_way_45 ?_
          refine x_geti (C := RX6) (k := 1) hx hb hts u_X7_way_6 hown hK hP (g_V_85 cI cO a s11) rfl (by decide) ⟨rfl, rfl, rfl⟩ k_X7_way_f174 rfl dX7_way_48 h (fun x16 h => ?_)
          exact x_iret (p_V cI cO a) hx hb hr hlocks hP hS dX7_way_51 h
      · have h := if_f c10 h
        refine lv_iconst (v := (-1)) hx hb dX7_way_21 (by decide +kernel) ?_
        exact x_iret (p_V cI cO a) hx hb hr hlocks hP hS dX7_way_22 h
/-! ===== VectorRounds.ends(II)I: world V ===== -/
theorem i_X7_ends : yX7_ends.cls = RX7 ∧ yX7_ends.cls ≠ "java/lang/invoke/MethodHandle" ∧ yX7_ends.cls ≠ "java/lang/invoke/VarHandle" ∧ (parseMethodDescriptor yX7_ends.desc).map (fun d => d.parameters.length) = some 2 := by decide +kernel
theorem k_X7_ends_f118 : Cond.fieldLink RX7 118 RX3 "tables" "LVectorRounds$Tables;" ∈ wsX7_ends := by decide +kernel
theorem k_X7_ends_f12 : Cond.fieldLink RX7 12 RX7 "now" "LVectorRounds$Network;" ∈ wsX7_ends := by decide +kernel
theorem k_X7_ends_f180 : Cond.fieldLink RX7 180 RX6 "ending" "I" ∈ wsX7_ends := by decide +kernel
theorem k_X7_ends_f28 : Cond.fieldLink RX7 28 RX7 "path" "LVectorRounds$Way;" ∈ wsX7_ends := by decide +kernel
theorem u_X7_ends_3 : ∀ w ∈ u_ws RX3 TX3 9, w ∈ wsX7_ends := by decide +kernel
theorem u_X7_ends_6 : ∀ w ∈ u_ws RX6 TX6 3, w ∈ wsX7_ends := by decide +kernel
theorem u_X7_ends_7 : ∀ w ∈ u_ws RX7 TX7 9, w ∈ wsX7_ends := by decide +kernel
set_option maxHeartbeats 4000000 in
set_option maxRecDepth 100000 in
theorem c_X7_ends (l : Launch) (D : va_G) (cI cO : ClassId) (tys : List (ClassId × FieldType)) (ht : tys[0]? = some (cI, .int)) (ht1 : tys[1]? = some (cO, .object "VectorRounds$Holder")) (a : Nat → Nat) (σ : qM) (x1 : Int32) (x2 : Int32) : q_Met l yX7_ends wsX7_ends ({ frames := 2, cells := 0, slots := 0, locals := 46 }) [.ref (a 0), .int x1, .int x2] D tys (p_V cI cO a) σ (f_X7_ends σ x1 x2) := by
  refine x_ofWi (cc := cX7_ends) (maxL := 3) (ret := (some .int)) (by decide +kernel) rfl (pf_V cI cO a) (Nat.le_of_ble_eq_true rfl) ?_
  intro p e s m below meth c A ls qq h hx hb hml hr hlocks hown hts hK hP hD hA hS hl
  have hown : s.vm.findClass RX7 = some m.cls := hown
  have hl : lv_has ls 3 [(0, .ref (a 0)), (1, .int x1), (2, .int x2)] := hl
  unfold f_X7_ends at h
  refine lv_aload_n hx hb dX7_ends_0 rfl (lv_at hl 0 rfl) ?_
  refine lv_iload_n hx hb dX7_ends_1 rfl (lv_at hl 1 rfl) ?_
  refine x_cVi (p_V cI cO a) (p_V cI cO a) (fun τ => τ) [] [.int x1] hx hb hml hl.1 hown hts hK hP hD hS hA rfl (c_X7_noRouter l D cI cO tys ht ht1 a σ x1) gX7_ends_X7_noRouter rfl ⟨rfl, rfl⟩ i_X7_noRouter ⟨Nat.le_of_ble_eq_true rfl, Nat.le_of_ble_eq_true rfl⟩ q_frI (g_V_0 cI cO a σ) rfl rfl (Nat.le_of_ble_eq_true rfl) ⟨Nat.zero_le _, Nat.zero_le _⟩ dX7_ends_2 h (fun x4 H locs s3 hP hS h => ?_)
  refine lv_if_ne (tgt := 16) hx hb dX7_ends_5 (by decide) (fun c5 => ?_) (fun c5 => ?_)
  · have h := if_f c5 h
    refine lv_iconst (v := (-1)) hx hb dX7_ends_16 (by decide +kernel) ?_
    exact x_iret (p_V cI cO a) hx hb hr hlocks hP hS dX7_ends_17 h
  · have h := if_t c5 h
    refine lv_aload_n hx hb dX7_ends_8 rfl (lv_at hl 0 rfl) ?_
    refine lv_iload_n hx hb dX7_ends_9 rfl (lv_at hl 2 rfl) ?_
    refine x_cVi (p_V cI cO a) (p_V cI cO a) (fun τ => τ) [] [.int x2] hx hb hml hl.1 hown hts hK hP hD hS hA rfl (c_X7_noRouter l D cI cO tys ht ht1 a s3 x2) gX7_ends_X7_noRouter rfl ⟨rfl, rfl⟩ i_X7_noRouter ⟨Nat.le_of_ble_eq_true rfl, Nat.le_of_ble_eq_true rfl⟩ q_frI (g_V_0 cI cO a s3) rfl rfl (Nat.le_of_ble_eq_true rfl) ⟨Nat.zero_le _, Nat.zero_le _⟩ dX7_ends_10 h (fun x7 H locs s6 hP hS h => ?_)
    refine lv_if_eq (tgt := 18) hx hb dX7_ends_13 (by decide) (fun c8 => ?_) (fun c8 => ?_)
    · have h := if_t c8 h
      refine lv_aload_n hx hb dX7_ends_18 rfl (lv_at hl 0 rfl) ?_
      refine x_getr (C := RX7) (k := 4) hx hb hts u_X7_ends_7 hown hK hP (g_V_0 cI cO a s6) rfl (by decide) ⟨rfl, rfl, rfl⟩ k_X7_ends_f28 rfl dX7_ends_19 ?_
      refine lv_aload_n hx hb dX7_ends_22 rfl (lv_at hl 0 rfl) ?_
      refine x_getr (C := RX7) (k := 0) hx hb hts u_X7_ends_7 hown hK hP (g_V_0 cI cO a s6) rfl (by decide) ⟨rfl, rfl, rfl⟩ k_X7_ends_f12 rfl dX7_ends_23 ?_
      refine x_getr (C := RX3) (k := 0) hx hb hts u_X7_ends_3 hown hK hP (g_V_1 cI cO a s6) rfl (by decide) ⟨rfl, rfl, rfl⟩ k_X7_ends_f118 rfl dX7_ends_26 ?_
      refine lv_iload_n hx hb dX7_ends_29 rfl (lv_at hl 1 rfl) ?_
      refine lv_iload_n hx hb dX7_ends_30 rfl (lv_at hl 2 rfl) ?_
      refine x_cVv (p_V cI cO a) (p_YT cI (q_sub2 2 85 2 a)) (q_put2 2 85 7 2 s6) [] [.ref (a 2), .int x1, .int x2] hx hb hml hl.1 hown hts hK hP hD hS hA rfl (c_X6_walk l D cI tys ht (q_sub2 2 85 2 a) (q_sub2 2 85 2 s6) x1 x2) gX7_ends_X6_walk rfl ⟨rfl, rfl⟩ i_X6_walk ⟨Nat.le_of_ble_eq_true rfl, Nat.le_of_ble_eq_true rfl⟩ (fr_V_YT_85_2 cI cO a s6) (g_YT_0 cI (q_sub2 2 85 2 a) (q_sub2 2 85 2 s6)) rfl rfl (Nat.le_of_ble_eq_true rfl) ⟨Nat.zero_le _, Nat.zero_le _⟩ dX7_ends_31 h (fun H locs s9 hP hS h => ?_)
      refine lv_aload_n hx hb dX7_ends_34 rfl (lv_at hl 0 rfl) ?_
      refine x_getr (C := RX7) (k := 4) hx hb hts u_X7_ends_7 hown hK hP (g_V_0 cI cO a s9) rfl (by decide) ⟨rfl, rfl, rfl⟩ k_X7_ends_f28 rfl dX7_ends_35 ?_
      refine x_geti (C := RX6) (k := 2) hx hb hts u_X7_ends_6 hown hK hP (g_V_85 cI cO a s9) rfl (by decide) ⟨rfl, rfl, rfl⟩ k_X7_ends_f180 rfl dX7_ends_38 h (fun x10 h => ?_)
      exact x_iret (p_V cI cO a) hx hb hr hlocks hP hS dX7_ends_41 h
    · have h := if_f c8 h
      refine lv_iconst (v := (-1)) hx hb dX7_ends_16 (by decide +kernel) ?_
      exact x_iret (p_V cI cO a) hx hb hr hlocks hP hS dX7_ends_17 h
/-! ===== VectorRounds.shortest(II)I: world V ===== -/
theorem i_X7_shortest : yX7_shortest.cls = RX7 ∧ yX7_shortest.cls ≠ "java/lang/invoke/MethodHandle" ∧ yX7_shortest.cls ≠ "java/lang/invoke/VarHandle" ∧ (parseMethodDescriptor yX7_shortest.desc).map (fun d => d.parameters.length) = some 2 := by decide +kernel
theorem k_X7_shortest_c190 : Cond.constant RX7 190 (1000000) ∈ wsX7_shortest := by decide +kernel
theorem k_X7_shortest_f12 : Cond.fieldLink RX7 12 RX7 "now" "LVectorRounds$Network;" ∈ wsX7_shortest := by decide +kernel
theorem k_X7_shortest_f187 : Cond.fieldLink RX7 187 RX0 "to" "[I" ∈ wsX7_shortest := by decide +kernel
theorem k_X7_shortest_f35 : Cond.fieldLink RX7 35 RX7 "least" "LVectorRounds$Distances;" ∈ wsX7_shortest := by decide +kernel
theorem u_X7_shortest_0 : ∀ w ∈ u_ws RX0 TX0 1, w ∈ wsX7_shortest := by decide +kernel
theorem u_X7_shortest_7 : ∀ w ∈ u_ws RX7 TX7 9, w ∈ wsX7_shortest := by decide +kernel
set_option maxHeartbeats 4000000 in
set_option maxRecDepth 100000 in
theorem c_X7_shortest (l : Launch) (D : va_G) (cI cO : ClassId) (tys : List (ClassId × FieldType)) (ht : tys[0]? = some (cI, .int)) (ht1 : tys[1]? = some (cO, .object "VectorRounds$Holder")) (a : Nat → Nat) (σ : qM) (x1 : Int32) (x2 : Int32) : q_Met l yX7_shortest wsX7_shortest ({ frames := 2, cells := 0, slots := 0, locals := 51 }) [.ref (a 0), .int x1, .int x2] D tys (p_V cI cO a) σ (f_X7_shortest σ x1 x2) := by
  refine x_ofWi (cc := cX7_shortest) (maxL := 4) (ret := (some .int)) (by decide +kernel) rfl (pf_V cI cO a) (Nat.le_of_ble_eq_true rfl) ?_
  intro p e s m below meth c A ls qq h hx hb hml hr hlocks hown hts hK hP hD hA hS hl
  have hown : s.vm.findClass RX7 = some m.cls := hown
  have hl : lv_has ls 4 [(0, .ref (a 0)), (1, .int x1), (2, .int x2)] := hl
  unfold f_X7_shortest at h
  refine lv_aload_n hx hb dX7_shortest_0 rfl (lv_at hl 0 rfl) ?_
  refine lv_iload_n hx hb dX7_shortest_1 rfl (lv_at hl 1 rfl) ?_
  refine x_cVi (p_V cI cO a) (p_V cI cO a) (fun τ => τ) [] [.int x1] hx hb hml hl.1 hown hts hK hP hD hS hA rfl (c_X7_noRouter l D cI cO tys ht ht1 a σ x1) gX7_shortest_X7_noRouter rfl ⟨rfl, rfl⟩ i_X7_noRouter ⟨Nat.le_of_ble_eq_true rfl, Nat.le_of_ble_eq_true rfl⟩ q_frI (g_V_0 cI cO a σ) rfl rfl (Nat.le_of_ble_eq_true rfl) ⟨Nat.zero_le _, Nat.zero_le _⟩ dX7_shortest_2 h (fun x4 H locs s3 hP hS h => ?_)
  refine lv_if_ne (tgt := 16) hx hb dX7_shortest_5 (by decide) (fun c5 => ?_) (fun c5 => ?_)
  · have h := if_f c5 h
    refine lv_iconst (v := (-1)) hx hb dX7_shortest_16 (by decide +kernel) ?_
    exact x_iret (p_V cI cO a) hx hb hr hlocks hP hS dX7_shortest_17 h
  · have h := if_t c5 h
    refine lv_aload_n hx hb dX7_shortest_8 rfl (lv_at hl 0 rfl) ?_
    refine lv_iload_n hx hb dX7_shortest_9 rfl (lv_at hl 2 rfl) ?_
    refine x_cVi (p_V cI cO a) (p_V cI cO a) (fun τ => τ) [] [.int x2] hx hb hml hl.1 hown hts hK hP hD hS hA rfl (c_X7_noRouter l D cI cO tys ht ht1 a s3 x2) gX7_shortest_X7_noRouter rfl ⟨rfl, rfl⟩ i_X7_noRouter ⟨Nat.le_of_ble_eq_true rfl, Nat.le_of_ble_eq_true rfl⟩ q_frI (g_V_0 cI cO a s3) rfl rfl (Nat.le_of_ble_eq_true rfl) ⟨Nat.zero_le _, Nat.zero_le _⟩ dX7_shortest_10 h (fun x7 H locs s6 hP hS h => ?_)
    refine lv_if_eq (tgt := 18) hx hb dX7_shortest_13 (by decide) (fun c8 => ?_) (fun c8 => ?_)
    · have h := if_t c8 h
      refine lv_aload_n hx hb dX7_shortest_18 rfl (lv_at hl 0 rfl) ?_
      refine x_getr (C := RX7) (k := 5) hx hb hts u_X7_shortest_7 hown hK hP (g_V_0 cI cO a s6) rfl (by decide) ⟨rfl, rfl, rfl⟩ k_X7_shortest_f35 rfl dX7_shortest_19 ?_
      refine lv_aload_n hx hb dX7_shortest_22 rfl (lv_at hl 0 rfl) ?_
      refine x_getr (C := RX7) (k := 0) hx hb hts u_X7_shortest_7 hown hK hP (g_V_0 cI cO a s6) rfl (by decide) ⟨rfl, rfl, rfl⟩ k_X7_shortest_f12 rfl dX7_shortest_23 ?_
      refine lv_iload_n hx hb dX7_shortest_26 rfl (lv_at hl 1 rfl) ?_
      refine lv_iconst (v := (-1)) hx hb dX7_shortest_27 (by decide +kernel) ?_
      refine x_cVv (p_V cI cO a) (p_DN cI (q_sub2 2 87 1 a)) (q_put2 2 87 21 1 s6) [] [.ref (a 1), .int x1, .int (-1)] hx hb hml hl.1 hown hts hK hP hD hS hA rfl (c_X0_measure l D cI tys ht (q_sub2 2 87 1 a) (q_sub2 2 87 1 s6) x1 (-1)) gX7_shortest_X0_measure rfl ⟨rfl, rfl⟩ i_X0_measure ⟨Nat.le_of_ble_eq_true rfl, Nat.le_of_ble_eq_true rfl⟩ (fr_V_DN_87_1 cI cO a s6) (g_DN_0 cI (q_sub2 2 87 1 a) (q_sub2 2 87 1 s6)) rfl rfl (Nat.le_of_ble_eq_true rfl) ⟨Nat.zero_le _, Nat.zero_le _⟩ dX7_shortest_28 h (fun H locs s9 hP hS h => ?_)
      refine lv_aload_n hx hb dX7_shortest_31 rfl (lv_at hl 0 rfl) ?_
      refine x_getr (C := RX7) (k := 5) hx hb hts u_X7_shortest_7 hown hK hP (g_V_0 cI cO a s9) rfl (by decide) ⟨rfl, rfl, rfl⟩ k_X7_shortest_f35 rfl dX7_shortest_32 ?_
      refine x_getr (C := RX0) (k := 0) hx hb hts u_X7_shortest_0 hown hK hP (g_V_87 cI cO a s9) rfl (by decide) ⟨rfl, rfl, rfl⟩ k_X7_shortest_f187 rfl dX7_shortest_35 ?_
      refine lv_iload_n hx hb dX7_shortest_38 rfl (lv_at hl 2 rfl) ?_
      refine x_iald (t0 := 0) hx hb hK hP ht h (g_V_88 cI cO a s9) dX7_shortest_39 (fun x10 h => ?_)
      refine lv_istore_n (lv' := [(3, .int x10), (0, .ref (a 0)), (1, .int x1), (2, .int x2)]) hx hb dX7_shortest_40 rfl hl (by decide) rfl (fun ls hl => ?_)
      refine lv_iload_n hx hb dX7_shortest_41 rfl (lv_at hl 0 rfl) ?_
      refine lv_ldc (v := 1000000) hx hb hown (hts _ k_X7_shortest_c190) dX7_shortest_42 ?_
      refine lv_icmp_ne (tgt := 52) hx hb dX7_shortest_44 (by decide) (fun c11 => ?_) (fun c11 => ?_)
      · have h := if_f c11 h
        refine lv_iload_n hx hb dX7_shortest_52 rfl (lv_at hl 0 rfl) ?_
        exact x_iret (p_V cI cO a) hx hb hr hlocks hP hS dX7_shortest_53 h
      · have h := if_t c11 h
        refine lv_bipush (v := (-2)) hx hb dX7_shortest_47 (by decide +kernel) ?_
        refine lv_goto (tgt := 53) hx hb dX7_shortest_49 (by decide) ?_
        exact x_iret (p_V cI cO a) hx hb hr hlocks hP hS dX7_shortest_53 h
    · have h := if_f c8 h
      refine lv_iconst (v := (-1)) hx hb dX7_shortest_16 (by decide +kernel) ?_
      exact x_iret (p_V cI cO a) hx hb hr hlocks hP hS dX7_shortest_17 h
/-! ===== VectorRounds.counts(II)I: world V ===== -/
theorem i_X7_counts : yX7_counts.cls = RX7 ∧ yX7_counts.cls ≠ "java/lang/invoke/MethodHandle" ∧ yX7_counts.cls ≠ "java/lang/invoke/VarHandle" ∧ (parseMethodDescriptor yX7_counts.desc).map (fun d => d.parameters.length) = some 2 := by decide +kernel
theorem k_X7_counts_f118 : Cond.fieldLink RX7 118 RX3 "tables" "LVectorRounds$Tables;" ∈ wsX7_counts := by decide +kernel
theorem k_X7_counts_f12 : Cond.fieldLink RX7 12 RX7 "now" "LVectorRounds$Network;" ∈ wsX7_counts := by decide +kernel
theorem k_X7_counts_f16 : Cond.fieldLink RX7 16 RX7 "thought" "LVectorRounds$Network;" ∈ wsX7_counts := by decide +kernel
theorem u_X7_counts_3 : ∀ w ∈ u_ws RX3 TX3 9, w ∈ wsX7_counts := by decide +kernel
theorem u_X7_counts_7 : ∀ w ∈ u_ws RX7 TX7 9, w ∈ wsX7_counts := by decide +kernel
set_option maxHeartbeats 4000000 in
set_option maxRecDepth 100000 in
theorem c_X7_counts (l : Launch) (D : va_G) (cI cO : ClassId) (tys : List (ClassId × FieldType)) (ht : tys[0]? = some (cI, .int)) (ht1 : tys[1]? = some (cO, .object "VectorRounds$Holder")) (a : Nat → Nat) (σ : qM) (x1 : Int32) (x2 : Int32) : q_Met l yX7_counts wsX7_counts ({ frames := 4, cells := 0, slots := 0, locals := 104 }) [.ref (a 0), .int x1, .int x2] D tys (p_V cI cO a) σ (f_X7_counts σ x1 x2) := by
  refine x_ofWi (cc := cX7_counts) (maxL := 5) (ret := (some .int)) (by decide +kernel) rfl (pf_V cI cO a) (Nat.le_of_ble_eq_true rfl) ?_
  intro p e s m below meth c A ls qq h hx hb hml hr hlocks hown hts hK hP hD hA hS hl
  have hown : s.vm.findClass RX7 = some m.cls := hown
  have hl : lv_has ls 5 [(0, .ref (a 0)), (1, .int x1), (2, .int x2)] := hl
  have main : ∀ k9 : Nat, (∀ (σ : qM) (x12 x13 : Int32) (H : Heap) (locs : List Loc) (ls : Array Slot), q_it (D_X7_counts) k9 0 σ [x12, x13] = some qq → va_P D vwCl (p_V cI cO a σ) H → va_S A s.heap H locs → lv_has ls 5 [(0, .ref (a 0)), (3, .int x12), (4, .int x13)] → W p l e ({ frames := 4, cells := 0, slots := 0, locals := 104 }) s m [.ref (a 0), .int x1, .int x2].toArray below meth c H locs 0 0 (MQ below (va_Qi (fun r τ => (r, τ) = qq) (fun τ t => va_P D vwCl ((p_V cI cO a) τ) t.heap) A) [.ref (a 0), .int x1, .int x2].toArray s 0 0 A) (F0 m 39 ls [])) := by
    intro k9
    induction k9 with
    | zero => exact (fun _ _ _ _ _ _ h _ _ _ => (q_no (show (none : qR) = some qq from h)).elim)
    | succ k9 ih =>
      have i39 := ih
      refine ?_
      · intro σ x12 x13 H locs ls h hP hS hl
        have h : b_X7_counts_39 (q_it (D_X7_counts) k9) σ x12 x13 = some qq := h
        unfold b_X7_counts_39 at h
        refine lv_iload hx hb dX7_counts_39 (lv_at hl 2 rfl) ?_
        refine lv_bipush (v := 80) hx hb dX7_counts_41 (by decide +kernel) ?_
        refine lv_icmp_gt (tgt := 77) hx hb dX7_counts_43 (by decide) (fun c14 => ?_) (fun c14 => ?_)
        · have h := if_t c14 h
          refine lv_bipush (v := (-2)) hx hb dX7_counts_77 (by decide +kernel) ?_
          exact x_iret (p_V cI cO a) hx hb hr hlocks hP hS dX7_counts_79 h
        · have h := if_f c14 h
          refine lv_aload_n hx hb dX7_counts_46 rfl (lv_at hl 0 rfl) ?_
          refine x_getr (C := RX7) (k := 1) hx hb hts u_X7_counts_7 hown hK hP (g_V_0 cI cO a σ) rfl (by decide) ⟨rfl, rfl, rfl⟩ k_X7_counts_f16 rfl dX7_counts_47 ?_
          refine x_getr (C := RX3) (k := 0) hx hb hts u_X7_counts_3 hown hK hP (g_V_22 cI cO a σ) rfl (by decide) ⟨rfl, rfl, rfl⟩ k_X7_counts_f118 rfl dX7_counts_50 ?_
          refine lv_iload_n hx hb dX7_counts_53 rfl (lv_at hl 1 rfl) ?_
          refine x_cVi (p_V cI cO a) (p_T cI (q_sub 23 a)) (q_put 23 7 σ) [] [.int x12] hx hb hml hl.1 hown hts hK hP hD hS hA rfl (c_X4_reaches l D cI tys ht (q_sub 23 a) (q_sub 23 σ) x12) gX7_counts_X4_reaches rfl ⟨rfl, rfl⟩ i_X4_reaches ⟨Nat.le_of_ble_eq_true rfl, Nat.le_of_ble_eq_true rfl⟩ (fr_V_T_23 cI cO a σ) (g_T_0 cI (q_sub 23 a) (q_sub 23 σ)) rfl rfl (Nat.le_of_ble_eq_true rfl) ⟨Nat.zero_le _, Nat.zero_le _⟩ dX7_counts_54 h (fun x16 H locs s15 hP hS h => ?_)
          refine lv_if_ne (tgt := 63) hx hb dX7_counts_57 (by decide) (fun c17 => ?_) (fun c17 => ?_)
          · have h := if_f c17 h
            refine lv_aload_n hx hb dX7_counts_63 rfl (lv_at hl 0 rfl) ?_
            refine x_getr (C := RX7) (k := 1) hx hb hts u_X7_counts_7 hown hK hP (g_V_0 cI cO a s15) rfl (by decide) ⟨rfl, rfl, rfl⟩ k_X7_counts_f16 rfl dX7_counts_64 ?_
            refine x_cVi (p_V cI cO a) (p_N cI (q_sub 22 a)) (q_put 22 21 s15) [] [] hx hb hml hl.1 hown hts hK hP hD hS hA rfl (c_X3_goRound l D cI tys ht (q_sub 22 a) (q_sub 22 s15)) gX7_counts_X3_goRound rfl ⟨rfl, rfl⟩ i_X3_goRound ⟨Nat.le_of_ble_eq_true rfl, Nat.le_of_ble_eq_true rfl⟩ (fr_V_N_22 cI cO a s15) (g_N_0 cI (q_sub 22 a) (q_sub 22 s15)) rfl rfl (Nat.le_of_ble_eq_true rfl) ⟨Nat.zero_le _, Nat.zero_le _⟩ dX7_counts_67 h (fun x19 H locs s18 hP hS h => ?_)
            refine lv_pop hx hb dX7_counts_70 rfl ?_
            refine x_iinc (k := 2) (w := 1) hx hb dX7_counts_71 hl rfl (by decide +kernel) (by decide) (fun v9 => [(4, .int v9), (0, .ref (a 0)), (3, .int x12)]) (fun v9 => rfl) h (fun x20 ls hl h => ?_)
            have hl : lv_has ls 5 [(4, .int x20), (0, .ref (a 0)), (3, .int x12)] := hl
            refine lv_goto (tgt := 39) hx hb dX7_counts_74 (by decide) ?_
            exact i39 s18 x12 x20 _ _ _ h hP hS (lv_sub hl [1, 2, 0] rfl)
          · have h := if_t c17 h
            refine lv_iload hx hb dX7_counts_60 (lv_at hl 2 rfl) ?_
            exact x_iret (p_V cI cO a) hx hb hr hlocks hP hS dX7_counts_62 h
  have i39 : ∀ (σ : qM) (x12 x13 : Int32) (H : Heap) (locs : List Loc) (ls : Array Slot), q_lim (D_X7_counts) 0 σ [x12, x13] = some qq → va_P D vwCl (p_V cI cO a σ) H → va_S A s.heap H locs → lv_has ls 5 [(0, .ref (a 0)), (3, .int x12), (4, .int x13)] → W p l e ({ frames := 4, cells := 0, slots := 0, locals := 104 }) s m [.ref (a 0), .int x1, .int x2].toArray below meth c H locs 0 0 (MQ below (va_Qi (fun r τ => (r, τ) = qq) (fun τ t => va_P D vwCl ((p_V cI cO a) τ) t.heap) A) [.ref (a 0), .int x1, .int x2].toArray s 0 0 A) (F0 m 39 ls []) := by
    intro σ x12 x13 H locs ls h hP hS hl
    obtain ⟨k9, h⟩ := q_lim_n h
    exact (main k9) σ x12 x13 H locs ls h hP hS hl
  have h : e_X7_counts (q_lim (D_X7_counts)) σ x1 x2 = some qq := h
  unfold e_X7_counts at h
  refine lv_aload_n hx hb dX7_counts_0 rfl (lv_at hl 0 rfl) ?_
  refine lv_iload_n hx hb dX7_counts_1 rfl (lv_at hl 1 rfl) ?_
  refine x_cVi (p_V cI cO a) (p_V cI cO a) (fun τ => τ) [] [.int x1] hx hb hml hl.1 hown hts hK hP hD hS hA rfl (c_X7_noRouter l D cI cO tys ht ht1 a σ x1) gX7_counts_X7_noRouter rfl ⟨rfl, rfl⟩ i_X7_noRouter ⟨Nat.le_of_ble_eq_true rfl, Nat.le_of_ble_eq_true rfl⟩ q_frI (g_V_0 cI cO a σ) rfl rfl (Nat.le_of_ble_eq_true rfl) ⟨Nat.zero_le _, Nat.zero_le _⟩ dX7_counts_2 h (fun x4 H locs s3 hP hS h => ?_)
  refine lv_if_ne (tgt := 16) hx hb dX7_counts_5 (by decide) (fun c5 => ?_) (fun c5 => ?_)
  · have h := if_f c5 h
    refine lv_iconst (v := (-1)) hx hb dX7_counts_16 (by decide +kernel) ?_
    exact x_iret (p_V cI cO a) hx hb hr hlocks hP hS dX7_counts_17 h
  · have h := if_t c5 h
    refine lv_aload_n hx hb dX7_counts_8 rfl (lv_at hl 0 rfl) ?_
    refine lv_iload_n hx hb dX7_counts_9 rfl (lv_at hl 2 rfl) ?_
    refine x_cVi (p_V cI cO a) (p_V cI cO a) (fun τ => τ) [] [.int x2] hx hb hml hl.1 hown hts hK hP hD hS hA rfl (c_X7_noRouter l D cI cO tys ht ht1 a s3 x2) gX7_counts_X7_noRouter rfl ⟨rfl, rfl⟩ i_X7_noRouter ⟨Nat.le_of_ble_eq_true rfl, Nat.le_of_ble_eq_true rfl⟩ q_frI (g_V_0 cI cO a s3) rfl rfl (Nat.le_of_ble_eq_true rfl) ⟨Nat.zero_le _, Nat.zero_le _⟩ dX7_counts_10 h (fun x7 H locs s6 hP hS h => ?_)
    refine lv_if_eq (tgt := 18) hx hb dX7_counts_13 (by decide) (fun c8 => ?_) (fun c8 => ?_)
    · have h := if_t c8 h
      refine lv_iload_n hx hb dX7_counts_18 rfl (lv_at hl 1 rfl) ?_
      refine lv_bipush (v := 10) hx hb dX7_counts_19 (by decide +kernel) ?_
      refine x_imul hx hb dX7_counts_21 h (fun x9 h => ?_)
      refine lv_iload_n hx hb dX7_counts_22 rfl (lv_at hl 2 rfl) ?_
      refine x_iadd hx hb dX7_counts_23 h (fun x10 h => ?_)
      refine lv_istore_n (lv' := [(3, .int x10), (0, .ref (a 0)), (1, .int x1), (2, .int x2)]) hx hb dX7_counts_24 rfl hl (by decide) rfl (fun ls hl => ?_)
      refine lv_aload_n hx hb dX7_counts_25 rfl (lv_at hl 1 rfl) ?_
      refine x_getr (C := RX7) (k := 1) hx hb hts u_X7_counts_7 hown hK hP (g_V_0 cI cO a s6) rfl (by decide) ⟨rfl, rfl, rfl⟩ k_X7_counts_f16 rfl dX7_counts_26 ?_
      refine lv_aload_n hx hb dX7_counts_29 rfl (lv_at hl 1 rfl) ?_
      refine x_getr (C := RX7) (k := 0) hx hb hts u_X7_counts_7 hown hK hP (g_V_0 cI cO a s6) rfl (by decide) ⟨rfl, rfl, rfl⟩ k_X7_counts_f12 rfl dX7_counts_30 ?_
      refine x_cVv (p_V cI cO a) (p_NN cI (q_sub2 21 22 1 a)) (q_put2 21 22 21 1 s6) [] [.ref (a 1)] hx hb hml hl.1 hown hts hK hP hD hS hA rfl (c_X3_become l D cI tys ht (q_sub2 21 22 1 a) (q_sub2 21 22 1 s6)) gX7_counts_X3_become rfl ⟨rfl, rfl⟩ i_X3_become ⟨Nat.le_of_ble_eq_true rfl, Nat.le_of_ble_eq_true rfl⟩ (fr_V_NN_22_1 cI cO a s6) (g_NN_0 cI (q_sub2 21 22 1 a) (q_sub2 21 22 1 s6)) rfl rfl (Nat.le_of_ble_eq_true rfl) ⟨Nat.zero_le _, Nat.zero_le _⟩ dX7_counts_33 h (fun H locs s11 hP hS h => ?_)
      refine lv_iconst (v := 0) hx hb dX7_counts_36 (by decide +kernel) ?_
      refine lv_istore (lv' := [(4, .int 0), (3, .int x10), (0, .ref (a 0)), (1, .int x1), (2, .int x2)]) hx hb dX7_counts_37 hl (by decide) rfl (fun ls hl => ?_)
      exact i39 s11 x10 0 _ _ _ h hP hS (lv_sub hl [2, 1, 0] rfl)
    · have h := if_f c8 h
      refine lv_iconst (v := (-1)) hx hb dX7_counts_16 (by decide +kernel) ?_
      exact x_iret (p_V cI cO a) hx hb hr hlocks hP hS dX7_counts_17 h
/-! ===== VectorRounds.packet(IIII)I: world V ===== -/
theorem i_X7_packet : yX7_packet.cls = RX7 ∧ yX7_packet.cls ≠ "java/lang/invoke/MethodHandle" ∧ yX7_packet.cls ≠ "java/lang/invoke/VarHandle" ∧ (parseMethodDescriptor yX7_packet.desc).map (fun d => d.parameters.length) = some 4 := by decide +kernel
theorem k_X7_packet_f118 : Cond.fieldLink RX7 118 RX3 "tables" "LVectorRounds$Tables;" ∈ wsX7_packet := by decide +kernel
theorem k_X7_packet_f12 : Cond.fieldLink RX7 12 RX7 "now" "LVectorRounds$Network;" ∈ wsX7_packet := by decide +kernel
theorem k_X7_packet_f130 : Cond.fieldLink RX7 130 RX4 "via" "[I" ∈ wsX7_packet := by decide +kernel
theorem k_X7_packet_f16 : Cond.fieldLink RX7 16 RX7 "thought" "LVectorRounds$Network;" ∈ wsX7_packet := by decide +kernel
theorem u_X7_packet_3 : ∀ w ∈ u_ws RX3 TX3 9, w ∈ wsX7_packet := by decide +kernel
theorem u_X7_packet_4 : ∀ w ∈ u_ws RX4 TX4 6, w ∈ wsX7_packet := by decide +kernel
theorem u_X7_packet_7 : ∀ w ∈ u_ws RX7 TX7 9, w ∈ wsX7_packet := by decide +kernel
set_option maxHeartbeats 4000000 in
set_option maxRecDepth 100000 in
theorem c_X7_packet (l : Launch) (D : va_G) (cI cO : ClassId) (tys : List (ClassId × FieldType)) (ht : tys[0]? = some (cI, .int)) (ht1 : tys[1]? = some (cO, .object "VectorRounds$Holder")) (a : Nat → Nat) (σ : qM) (x1 : Int32) (x2 : Int32) (x3 : Int32) (x4 : Int32) : q_Met l yX7_packet wsX7_packet ({ frames := 4, cells := 0, slots := 0, locals := 104 }) [.ref (a 0), .int x1, .int x2, .int x3, .int x4] D tys (p_V cI cO a) σ (f_X7_packet σ x1 x2 x3 x4) := by
  refine x_ofWi (cc := cX7_packet) (maxL := 7) (ret := (some .int)) (by decide +kernel) rfl (pf_V cI cO a) (Nat.le_of_ble_eq_true rfl) ?_
  intro p e s m below meth c A ls qq h hx hb hml hr hlocks hown hts hK hP hD hA hS hl
  have hown : s.vm.findClass RX7 = some m.cls := hown
  have hl : lv_has ls 7 [(0, .ref (a 0)), (1, .int x1), (2, .int x2), (3, .int x3), (4, .int x4)] := hl
  have main : ∀ k9 : Nat, (∀ (σ : qM) (x16 x17 x18 x19 x20 : Int32) (H : Heap) (locs : List Loc) (ls : Array Slot), q_it (D_X7_packet) k9 0 σ [x16, x17, x18, x19, x20] = some qq → va_P D vwCl (p_V cI cO a σ) H → va_S A s.heap H locs → lv_has ls 7 [(0, .ref (a 0)), (2, .int x16), (3, .int x17), (4, .int x18), (5, .int x19), (6, .int x20)] → W p l e ({ frames := 4, cells := 0, slots := 0, locals := 104 }) s m [.ref (a 0), .int x1, .int x2, .int x3, .int x4].toArray below meth c H locs 0 0 (MQ below (va_Qi (fun r τ => (r, τ) = qq) (fun τ t => va_P D vwCl ((p_V cI cO a) τ) t.heap) A) [.ref (a 0), .int x1, .int x2, .int x3, .int x4].toArray s 0 0 A) (F0 m 57 ls [])) ∧ (∀ (σ : qM) (x22 x23 x24 : Int32) (H : Heap) (locs : List Loc) (ls : Array Slot), q_it (D_X7_packet) k9 1 σ [x22, x23, x24] = some qq → va_P D vwCl (p_V cI cO a σ) H → va_S A s.heap H locs → lv_has ls 7 [(4, .int x22), (5, .int x23), (6, .int x24)] → W p l e ({ frames := 4, cells := 0, slots := 0, locals := 104 }) s m [.ref (a 0), .int x1, .int x2, .int x3, .int x4].toArray below meth c H locs 0 0 (MQ below (va_Qi (fun r τ => (r, τ) = qq) (fun τ t => va_P D vwCl ((p_V cI cO a) τ) t.heap) A) [.ref (a 0), .int x1, .int x2, .int x3, .int x4].toArray s 0 0 A) (F0 m 123 ls [])) := by
    intro k9
    induction k9 with
    | zero => exact ⟨(fun _ _ _ _ _ _ _ _ _ h _ _ _ => (q_no (show (none : qR) = some qq from h)).elim), (fun _ _ _ _ _ _ _ h _ _ _ => (q_no (show (none : qR) = some qq from h)).elim)⟩
    | succ k9 ih =>
      obtain ⟨i57, i123⟩ := ih
      refine ⟨?_, ?_⟩
      · intro σ x16 x17 x18 x19 x20 H locs ls h hP hS hl
        have h : b_X7_packet_57 (q_it (D_X7_packet) k9) σ x16 x17 x18 x19 x20 = some qq := h
        unfold b_X7_packet_57 at h
        refine lv_iload hx hb dX7_packet_57 (lv_at hl 5 rfl) ?_
        refine lv_iload_n hx hb dX7_packet_59 rfl (lv_at hl 2 rfl) ?_
        refine lv_icmp_ge (tgt := 123) hx hb dX7_packet_60 (by decide) (fun c21 => ?_) (fun c21 => ?_)
        · have h := if_t c21 h
          exact i123 σ x18 x19 x20 _ _ _ h hP hS (lv_sub hl [3, 4, 5] rfl)
        · have h := if_f c21 h
          refine lv_iload hx hb dX7_packet_63 (lv_at hl 4 rfl) ?_
          refine lv_iload_n hx hb dX7_packet_65 rfl (lv_at hl 1 rfl) ?_
          refine lv_icmp_eq (tgt := 123) hx hb dX7_packet_66 (by decide) (fun c25 => ?_) (fun c25 => ?_)
          · have h := if_t c25 h
            exact i123 σ x18 x19 x20 _ _ _ h hP hS (lv_sub hl [3, 4, 5] rfl)
          · have h := if_f c25 h
            refine lv_aload_n hx hb dX7_packet_69 rfl (lv_at hl 0 rfl) ?_
            refine x_getr (C := RX7) (k := 1) hx hb hts u_X7_packet_7 hown hK hP (g_V_0 cI cO a σ) rfl (by decide) ⟨rfl, rfl, rfl⟩ k_X7_packet_f16 rfl dX7_packet_70 ?_
            refine x_getr (C := RX3) (k := 0) hx hb hts u_X7_packet_3 hown hK hP (g_V_22 cI cO a σ) rfl (by decide) ⟨rfl, rfl, rfl⟩ k_X7_packet_f118 rfl dX7_packet_73 ?_
            refine lv_iload hx hb dX7_packet_76 (lv_at hl 4 rfl) ?_
            refine lv_bipush (v := 10) hx hb dX7_packet_78 (by decide +kernel) ?_
            refine x_imul hx hb dX7_packet_80 h (fun x26 h => ?_)
            refine lv_iload_n hx hb dX7_packet_81 rfl (lv_at hl 1 rfl) ?_
            refine x_iadd hx hb dX7_packet_82 h (fun x27 h => ?_)
            refine x_cVi (p_V cI cO a) (p_T cI (q_sub 23 a)) (q_put 23 7 σ) [] [.int x27] hx hb hml hl.1 hown hts hK hP hD hS hA rfl (c_X4_reaches l D cI tys ht (q_sub 23 a) (q_sub 23 σ) x27) gX7_packet_X4_reaches rfl ⟨rfl, rfl⟩ i_X4_reaches ⟨Nat.le_of_ble_eq_true rfl, Nat.le_of_ble_eq_true rfl⟩ (fr_V_T_23 cI cO a σ) (g_T_0 cI (q_sub 23 a) (q_sub 23 σ)) rfl rfl (Nat.le_of_ble_eq_true rfl) ⟨Nat.zero_le _, Nat.zero_le _⟩ dX7_packet_83 h (fun x29 H locs s28 hP hS h => ?_)
            refine lv_if_eq (tgt := 123) hx hb dX7_packet_86 (by decide) (fun c30 => ?_) (fun c30 => ?_)
            · have h := if_t c30 h
              exact i123 s28 x18 x19 x20 _ _ _ h hP hS (lv_sub hl [3, 4, 5] rfl)
            · have h := if_f c30 h
              refine lv_aload_n hx hb dX7_packet_89 rfl (lv_at hl 0 rfl) ?_
              refine x_getr (C := RX7) (k := 1) hx hb hts u_X7_packet_7 hown hK hP (g_V_0 cI cO a s28) rfl (by decide) ⟨rfl, rfl, rfl⟩ k_X7_packet_f16 rfl dX7_packet_90 ?_
              refine x_getr (C := RX3) (k := 0) hx hb hts u_X7_packet_3 hown hK hP (g_V_22 cI cO a s28) rfl (by decide) ⟨rfl, rfl, rfl⟩ k_X7_packet_f118 rfl dX7_packet_93 ?_
              refine x_getr (C := RX4) (k := 1) hx hb hts u_X7_packet_4 hown hK hP (g_V_23 cI cO a s28) rfl (by decide) ⟨rfl, rfl, rfl⟩ k_X7_packet_f130 rfl dX7_packet_96 ?_
              refine lv_iload hx hb dX7_packet_99 (lv_at hl 4 rfl) ?_
              refine lv_bipush (v := 10) hx hb dX7_packet_101 (by decide +kernel) ?_
              refine x_imul hx hb dX7_packet_103 h (fun x31 h => ?_)
              refine lv_iload_n hx hb dX7_packet_104 rfl (lv_at hl 1 rfl) ?_
              refine x_iadd hx hb dX7_packet_105 h (fun x32 h => ?_)
              refine x_iald (t0 := 0) hx hb hK hP ht h (g_V_25 cI cO a s28) dX7_packet_106 (fun x33 h => ?_)
              refine lv_istore (lv' := [(5, .int x33), (0, .ref (a 0)), (2, .int x16), (3, .int x17), (4, .int x18), (6, .int x20)]) hx hb dX7_packet_107 hl (by decide) rfl (fun ls hl => ?_)
              refine x_iinc (k := 5) (w := 1) hx hb dX7_packet_109 hl rfl (by decide +kernel) (by decide) (fun v9 => [(6, .int v9), (5, .int x33), (0, .ref (a 0)), (2, .int x16), (3, .int x17), (4, .int x18)]) (fun v9 => rfl) h (fun x34 ls hl h => ?_)
              have hl : lv_has ls 7 [(6, .int x34), (5, .int x33), (0, .ref (a 0)), (2, .int x16), (3, .int x17), (4, .int x18)] := hl
              refine lv_aload_n hx hb dX7_packet_112 rfl (lv_at hl 2 rfl) ?_
              refine x_getr (C := RX7) (k := 1) hx hb hts u_X7_packet_7 hown hK hP (g_V_0 cI cO a s28) rfl (by decide) ⟨rfl, rfl, rfl⟩ k_X7_packet_f16 rfl dX7_packet_113 ?_
              refine x_cVi (p_V cI cO a) (p_N cI (q_sub 22 a)) (q_put 22 21 s28) [] [] hx hb hml hl.1 hown hts hK hP hD hS hA rfl (c_X3_goRound l D cI tys ht (q_sub 22 a) (q_sub 22 s28)) gX7_packet_X3_goRound rfl ⟨rfl, rfl⟩ i_X3_goRound ⟨Nat.le_of_ble_eq_true rfl, Nat.le_of_ble_eq_true rfl⟩ (fr_V_N_22 cI cO a s28) (g_N_0 cI (q_sub 22 a) (q_sub 22 s28)) rfl rfl (Nat.le_of_ble_eq_true rfl) ⟨Nat.zero_le _, Nat.zero_le _⟩ dX7_packet_116 h (fun x36 H locs s35 hP hS h => ?_)
              refine lv_pop hx hb dX7_packet_119 rfl ?_
              refine lv_goto (tgt := 57) hx hb dX7_packet_120 (by decide) ?_
              exact i57 s35 x16 x17 x18 x33 x34 _ _ _ h hP hS (lv_sub hl [2, 3, 4, 5, 1, 0] rfl)
      · intro σ x22 x23 x24 H locs ls h hP hS hl
        have h : b_X7_packet_123 (q_it (D_X7_packet) k9) σ x22 x23 x24 = some qq := h
        unfold b_X7_packet_123 at h
        refine lv_iload hx hb dX7_packet_123 (lv_at hl 0 rfl) ?_
        refine lv_if_ne (tgt := 133) hx hb dX7_packet_125 (by decide) (fun c37 => ?_) (fun c37 => ?_)
        · have h := if_f c37 h
          refine lv_iload hx hb dX7_packet_133 (lv_at hl 2 rfl) ?_
          exact x_iret (p_V cI cO a) hx hb hr hlocks hP hS dX7_packet_135 h
        · have h := if_t c37 h
          refine lv_iload hx hb dX7_packet_128 (lv_at hl 1 rfl) ?_
          refine lv_goto (tgt := 135) hx hb dX7_packet_130 (by decide) ?_
          exact x_iret (p_V cI cO a) hx hb hr hlocks hP hS dX7_packet_135 h
  have i57 : ∀ (σ : qM) (x16 x17 x18 x19 x20 : Int32) (H : Heap) (locs : List Loc) (ls : Array Slot), q_lim (D_X7_packet) 0 σ [x16, x17, x18, x19, x20] = some qq → va_P D vwCl (p_V cI cO a σ) H → va_S A s.heap H locs → lv_has ls 7 [(0, .ref (a 0)), (2, .int x16), (3, .int x17), (4, .int x18), (5, .int x19), (6, .int x20)] → W p l e ({ frames := 4, cells := 0, slots := 0, locals := 104 }) s m [.ref (a 0), .int x1, .int x2, .int x3, .int x4].toArray below meth c H locs 0 0 (MQ below (va_Qi (fun r τ => (r, τ) = qq) (fun τ t => va_P D vwCl ((p_V cI cO a) τ) t.heap) A) [.ref (a 0), .int x1, .int x2, .int x3, .int x4].toArray s 0 0 A) (F0 m 57 ls []) := by
    intro σ x16 x17 x18 x19 x20 H locs ls h hP hS hl
    obtain ⟨k9, h⟩ := q_lim_n h
    exact (main k9).1 σ x16 x17 x18 x19 x20 H locs ls h hP hS hl
  have i123 : ∀ (σ : qM) (x22 x23 x24 : Int32) (H : Heap) (locs : List Loc) (ls : Array Slot), q_lim (D_X7_packet) 1 σ [x22, x23, x24] = some qq → va_P D vwCl (p_V cI cO a σ) H → va_S A s.heap H locs → lv_has ls 7 [(4, .int x22), (5, .int x23), (6, .int x24)] → W p l e ({ frames := 4, cells := 0, slots := 0, locals := 104 }) s m [.ref (a 0), .int x1, .int x2, .int x3, .int x4].toArray below meth c H locs 0 0 (MQ below (va_Qi (fun r τ => (r, τ) = qq) (fun τ t => va_P D vwCl ((p_V cI cO a) τ) t.heap) A) [.ref (a 0), .int x1, .int x2, .int x3, .int x4].toArray s 0 0 A) (F0 m 123 ls []) := by
    intro σ x22 x23 x24 H locs ls h hP hS hl
    obtain ⟨k9, h⟩ := q_lim_n h
    exact (main k9).2 σ x22 x23 x24 H locs ls h hP hS hl
  have h : e_X7_packet (q_lim (D_X7_packet)) σ x1 x2 x3 x4 = some qq := h
  unfold e_X7_packet at h
  refine lv_aload_n hx hb dX7_packet_0 rfl (lv_at hl 0 rfl) ?_
  refine lv_iload_n hx hb dX7_packet_1 rfl (lv_at hl 1 rfl) ?_
  refine x_cVi (p_V cI cO a) (p_V cI cO a) (fun τ => τ) [] [.int x1] hx hb hml hl.1 hown hts hK hP hD hS hA rfl (c_X7_noRouter l D cI cO tys ht ht1 a σ x1) gX7_packet_X7_noRouter rfl ⟨rfl, rfl⟩ i_X7_noRouter ⟨Nat.le_of_ble_eq_true rfl, Nat.le_of_ble_eq_true rfl⟩ q_frI (g_V_0 cI cO a σ) rfl rfl (Nat.le_of_ble_eq_true rfl) ⟨Nat.zero_le _, Nat.zero_le _⟩ dX7_packet_2 h (fun x6 H locs s5 hP hS h => ?_)
  refine lv_if_ne (tgt := 38) hx hb dX7_packet_5 (by decide) (fun c7 => ?_) (fun c7 => ?_)
  · have h := if_f c7 h
    refine lv_iconst (v := (-1)) hx hb dX7_packet_38 (by decide +kernel) ?_
    exact x_iret (p_V cI cO a) hx hb hr hlocks hP hS dX7_packet_39 h
  · have h := if_t c7 h
    refine lv_aload_n hx hb dX7_packet_8 rfl (lv_at hl 0 rfl) ?_
    refine lv_iload_n hx hb dX7_packet_9 rfl (lv_at hl 2 rfl) ?_
    refine x_cVi (p_V cI cO a) (p_V cI cO a) (fun τ => τ) [] [.int x2] hx hb hml hl.1 hown hts hK hP hD hS hA rfl (c_X7_noRouter l D cI cO tys ht ht1 a s5 x2) gX7_packet_X7_noRouter rfl ⟨rfl, rfl⟩ i_X7_noRouter ⟨Nat.le_of_ble_eq_true rfl, Nat.le_of_ble_eq_true rfl⟩ q_frI (g_V_0 cI cO a s5) rfl rfl (Nat.le_of_ble_eq_true rfl) ⟨Nat.zero_le _, Nat.zero_le _⟩ dX7_packet_10 h (fun x9 H locs s8 hP hS h => ?_)
    refine lv_if_ne (tgt := 38) hx hb dX7_packet_13 (by decide) (fun c10 => ?_) (fun c10 => ?_)
    · have h := if_f c10 h
      refine lv_iconst (v := (-1)) hx hb dX7_packet_38 (by decide +kernel) ?_
      exact x_iret (p_V cI cO a) hx hb hr hlocks hP hS dX7_packet_39 h
    · have h := if_t c10 h
      refine lv_iload_n hx hb dX7_packet_16 rfl (lv_at hl 3 rfl) ?_
      refine lv_iconst (v := 1) hx hb dX7_packet_17 (by decide +kernel) ?_
      refine lv_icmp_lt (tgt := 38) hx hb dX7_packet_18 (by decide) (fun c11 => ?_) (fun c11 => ?_)
      · have h := if_t c11 h
        refine lv_iconst (v := (-1)) hx hb dX7_packet_38 (by decide +kernel) ?_
        exact x_iret (p_V cI cO a) hx hb hr hlocks hP hS dX7_packet_39 h
      · have h := if_f c11 h
        refine lv_iload_n hx hb dX7_packet_21 rfl (lv_at hl 3 rfl) ?_
        refine lv_bipush (v := 40) hx hb dX7_packet_22 (by decide +kernel) ?_
        refine lv_icmp_gt (tgt := 38) hx hb dX7_packet_24 (by decide) (fun c12 => ?_) (fun c12 => ?_)
        · have h := if_t c12 h
          refine lv_iconst (v := (-1)) hx hb dX7_packet_38 (by decide +kernel) ?_
          exact x_iret (p_V cI cO a) hx hb hr hlocks hP hS dX7_packet_39 h
        · have h := if_f c12 h
          refine lv_iload hx hb dX7_packet_27 (lv_at hl 4 rfl) ?_
          refine lv_if_lt (tgt := 38) hx hb dX7_packet_29 (by decide) (fun c13 => ?_) (fun c13 => ?_)
          · have h := if_t c13 h
            refine lv_iconst (v := (-1)) hx hb dX7_packet_38 (by decide +kernel) ?_
            exact x_iret (p_V cI cO a) hx hb hr hlocks hP hS dX7_packet_39 h
          · have h := if_f c13 h
            refine lv_iload hx hb dX7_packet_32 (lv_at hl 4 rfl) ?_
            refine lv_iconst (v := 1) hx hb dX7_packet_34 (by decide +kernel) ?_
            refine lv_icmp_le (tgt := 40) hx hb dX7_packet_35 (by decide) (fun c14 => ?_) (fun c14 => ?_)
            · have h := if_t c14 h
              refine lv_aload_n hx hb dX7_packet_40 rfl (lv_at hl 0 rfl) ?_
              refine x_getr (C := RX7) (k := 1) hx hb hts u_X7_packet_7 hown hK hP (g_V_0 cI cO a s8) rfl (by decide) ⟨rfl, rfl, rfl⟩ k_X7_packet_f16 rfl dX7_packet_41 ?_
              refine lv_aload_n hx hb dX7_packet_44 rfl (lv_at hl 0 rfl) ?_
              refine x_getr (C := RX7) (k := 0) hx hb hts u_X7_packet_7 hown hK hP (g_V_0 cI cO a s8) rfl (by decide) ⟨rfl, rfl, rfl⟩ k_X7_packet_f12 rfl dX7_packet_45 ?_
              refine x_cVv (p_V cI cO a) (p_NN cI (q_sub2 21 22 1 a)) (q_put2 21 22 21 1 s8) [] [.ref (a 1)] hx hb hml hl.1 hown hts hK hP hD hS hA rfl (c_X3_become l D cI tys ht (q_sub2 21 22 1 a) (q_sub2 21 22 1 s8)) gX7_packet_X3_become rfl ⟨rfl, rfl⟩ i_X3_become ⟨Nat.le_of_ble_eq_true rfl, Nat.le_of_ble_eq_true rfl⟩ (fr_V_NN_22_1 cI cO a s8) (g_NN_0 cI (q_sub2 21 22 1 a) (q_sub2 21 22 1 s8)) rfl rfl (Nat.le_of_ble_eq_true rfl) ⟨Nat.zero_le _, Nat.zero_le _⟩ dX7_packet_48 h (fun H locs s15 hP hS h => ?_)
              refine lv_iload_n hx hb dX7_packet_51 rfl (lv_at hl 1 rfl) ?_
              refine lv_istore (lv' := [(5, .int x1), (0, .ref (a 0)), (1, .int x1), (2, .int x2), (3, .int x3), (4, .int x4)]) hx hb dX7_packet_52 hl (by decide) rfl (fun ls hl => ?_)
              refine lv_iconst (v := 0) hx hb dX7_packet_54 (by decide +kernel) ?_
              refine lv_istore (lv' := [(6, .int 0), (5, .int x1), (0, .ref (a 0)), (1, .int x1), (2, .int x2), (3, .int x3), (4, .int x4)]) hx hb dX7_packet_55 hl (by decide) rfl (fun ls hl => ?_)
              exact i57 s15 x2 x3 x4 x1 0 _ _ _ h hP hS (lv_sub hl [2, 4, 5, 6, 1, 0] rfl)
            · have h := if_f c14 h
              refine lv_iconst (v := (-1)) hx hb dX7_packet_38 (by decide +kernel) ?_
              exact x_iret (p_V cI cO a) hx hb hr hlocks hP hS dX7_packet_39 h
/-! ===== VectorRounds.tried(I)I: world V ===== -/
theorem i_X7_tried : yX7_tried.cls = RX7 ∧ yX7_tried.cls ≠ "java/lang/invoke/MethodHandle" ∧ yX7_tried.cls ≠ "java/lang/invoke/VarHandle" ∧ (parseMethodDescriptor yX7_tried.desc).map (fun d => d.parameters.length) = some 1 := by decide +kernel
theorem k_X7_tried_f100 : Cond.fieldLink RX7 100 RX3 "horizon" "I" ∈ wsX7_tried := by decide +kernel
theorem k_X7_tried_f103 : Cond.fieldLink RX7 103 RX3 "sequenced" "I" ∈ wsX7_tried := by decide +kernel
theorem k_X7_tried_f12 : Cond.fieldLink RX7 12 RX7 "now" "LVectorRounds$Network;" ∈ wsX7_tried := by decide +kernel
theorem k_X7_tried_f16 : Cond.fieldLink RX7 16 RX7 "thought" "LVectorRounds$Network;" ∈ wsX7_tried := by decide +kernel
theorem u_X7_tried_3 : ∀ w ∈ u_ws RX3 TX3 9, w ∈ wsX7_tried := by decide +kernel
theorem u_X7_tried_7 : ∀ w ∈ u_ws RX7 TX7 9, w ∈ wsX7_tried := by decide +kernel
set_option maxHeartbeats 4000000 in
set_option maxRecDepth 100000 in
theorem c_X7_tried (l : Launch) (D : va_G) (cI cO : ClassId) (tys : List (ClassId × FieldType)) (ht : tys[0]? = some (cI, .int)) (ht1 : tys[1]? = some (cO, .object "VectorRounds$Holder")) (a : Nat → Nat) (σ : qM) (x1 : Int32) : q_Met l yX7_tried wsX7_tried ({ frames := 5, cells := 0, slots := 0, locals := 125 }) [.ref (a 0), .int x1] D tys (p_V cI cO a) σ (f_X7_tried σ x1) := by
  refine x_ofWi (cc := cX7_tried) (maxL := 8) (ret := (some .int)) (by decide +kernel) rfl (pf_V cI cO a) (Nat.le_of_ble_eq_true rfl) ?_
  intro p e s m below meth c A ls qq h hx hb hml hr hlocks hown hts hK hP hD hA hS hl
  have hown : s.vm.findClass RX7 = some m.cls := hown
  have hl : lv_has ls 8 [(0, .ref (a 0)), (1, .int x1)] := hl
  have main : ∀ k9 : Nat, (∀ (σ : qM) (x4 x5 x6 x7 x8 : Int32) (H : Heap) (locs : List Loc) (ls : Array Slot), q_it (D_X7_tried) k9 0 σ [x4, x5, x6, x7, x8] = some qq → va_P D vwCl (p_V cI cO a σ) H → va_S A s.heap H locs → lv_has ls 8 [(0, .ref (a 0)), (1, .int x4), (2, .int x5), (3, .int x6), (4, .int x7), (5, .int x8)] → W p l e ({ frames := 5, cells := 0, slots := 0, locals := 125 }) s m [.ref (a 0), .int x1].toArray below meth c H locs 0 0 (MQ below (va_Qi (fun r τ => (r, τ) = qq) (fun τ t => va_P D vwCl ((p_V cI cO a) τ) t.heap) A) [.ref (a 0), .int x1].toArray s 0 0 A) (F0 m 22 ls [])) ∧ (∀ (σ : qM) (x14 x15 x16 x17 x18 x19 : Int32) (H : Heap) (locs : List Loc) (ls : Array Slot), q_it (D_X7_tried) k9 1 σ [x14, x15, x16, x17, x18, x19] = some qq → va_P D vwCl (p_V cI cO a σ) H → va_S A s.heap H locs → lv_has ls 8 [(0, .ref (a 0)), (1, .int x14), (2, .int x15), (3, .int x16), (4, .int x17), (5, .int x18), (6, .int x19)] → W p l e ({ frames := 5, cells := 0, slots := 0, locals := 125 }) s m [.ref (a 0), .int x1].toArray below meth c H locs 0 0 (MQ below (va_Qi (fun r τ => (r, τ) = qq) (fun τ t => va_P D vwCl ((p_V cI cO a) τ) t.heap) A) [.ref (a 0), .int x1].toArray s 0 0 A) (F0 m 31 ls [])) := by
    intro k9
    induction k9 with
    | zero => exact ⟨(fun _ _ _ _ _ _ _ _ _ h _ _ _ => (q_no (show (none : qR) = some qq from h)).elim), (fun _ _ _ _ _ _ _ _ _ _ h _ _ _ => (q_no (show (none : qR) = some qq from h)).elim)⟩
    | succ k9 ih =>
      obtain ⟨i22, i31⟩ := ih
      refine ⟨?_, ?_⟩
      · intro σ x4 x5 x6 x7 x8 H locs ls h hP hS hl
        have h : b_X7_tried_22 (q_it (D_X7_tried) k9) σ x4 x5 x6 x7 x8 = some qq := h
        unfold b_X7_tried_22 at h
        refine lv_iload hx hb dX7_tried_22 (lv_at hl 5 rfl) ?_
        refine lv_iconst (v := 2) hx hb dX7_tried_24 (by decide +kernel) ?_
        refine lv_icmp_gt (tgt := 104) hx hb dX7_tried_25 (by decide) (fun c9 => ?_) (fun c9 => ?_)
        · have h := if_t c9 h
          refine lv_iload_n hx hb dX7_tried_104 rfl (lv_at hl 1 rfl) ?_
          refine lv_if_ne (tgt := 110) hx hb dX7_tried_105 (by decide) (fun c10 => ?_) (fun c10 => ?_)
          · have h := if_f c10 h
            refine lv_iload_n hx hb dX7_tried_110 rfl (lv_at hl 1 rfl) ?_
            refine lv_iconst (v := 1) hx hb dX7_tried_111 (by decide +kernel) ?_
            refine lv_icmp_ne (tgt := 119) hx hb dX7_tried_112 (by decide) (fun c11 => ?_) (fun c11 => ?_)
            · have h := if_f c11 h
              refine lv_iload hx hb dX7_tried_119 (lv_at hl 4 rfl) ?_
              refine x_cSi (p_V cI cO a) (fun _ => []) (fun _ => σ) [] [.int x7] hx hb hml hl.1 hown hts hK hP hD hS hA rfl (c_X7_orNot l D cI tys ht σ x7) gX7_tried_X7_orNot rfl ⟨rfl, rfl⟩ i_X7_orNot ⟨Nat.le_of_ble_eq_true rfl, Nat.le_of_ble_eq_true rfl⟩ (q_fr0 (fun _ => rfl)) rfl (Nat.le_of_ble_eq_true rfl) ⟨Nat.zero_le _, Nat.zero_le _⟩ dX7_tried_121 h (fun x13 H locs s12 hP hS h => ?_)
              exact x_iret (p_V cI cO a) hx hb hr hlocks hP hS dX7_tried_124 h
            · have h := if_t c11 h
              refine lv_iload_n hx hb dX7_tried_115 rfl (lv_at hl 3 rfl) ?_
              refine lv_goto (tgt := 124) hx hb dX7_tried_116 (by decide) ?_
              exact x_iret (p_V cI cO a) hx hb hr hlocks hP hS dX7_tried_124 h
          · have h := if_t c10 h
            refine lv_iload_n hx hb dX7_tried_108 rfl (lv_at hl 2 rfl) ?_
            exact x_iret (p_V cI cO a) hx hb hr hlocks hP hS dX7_tried_109 h
        · have h := if_f c9 h
          refine lv_iconst (v := 0) hx hb dX7_tried_28 (by decide +kernel) ?_
          refine lv_istore (lv' := [(6, .int 0), (0, .ref (a 0)), (1, .int x4), (2, .int x5), (3, .int x6), (4, .int x7), (5, .int x8)]) hx hb dX7_tried_29 hl (by decide) rfl (fun ls hl => ?_)
          exact i31 σ x4 x5 x6 x7 x8 0 _ _ _ h hP hS (lv_sub hl [1, 2, 3, 4, 5, 6, 0] rfl)
      · intro σ x14 x15 x16 x17 x18 x19 H locs ls h hP hS hl
        have h : b_X7_tried_31 (q_it (D_X7_tried) k9) σ x14 x15 x16 x17 x18 x19 = some qq := h
        unfold b_X7_tried_31 at h
        refine lv_iload hx hb dX7_tried_31 (lv_at hl 6 rfl) ?_
        refine lv_iconst (v := 1) hx hb dX7_tried_33 (by decide +kernel) ?_
        refine lv_icmp_gt (tgt := 98) hx hb dX7_tried_34 (by decide) (fun c20 => ?_) (fun c20 => ?_)
        · have h := if_t c20 h
          refine x_iinc (k := 5) (w := 1) hx hb dX7_tried_98 hl rfl (by decide +kernel) (by decide) (fun v9 => [(5, .int v9), (0, .ref (a 0)), (1, .int x14), (2, .int x15), (3, .int x16), (4, .int x17), (6, .int x19)]) (fun v9 => rfl) h (fun x21 ls hl h => ?_)
          have hl : lv_has ls 8 [(5, .int x21), (0, .ref (a 0)), (1, .int x14), (2, .int x15), (3, .int x16), (4, .int x17), (6, .int x19)] := hl
          refine lv_goto (tgt := 22) hx hb dX7_tried_101 (by decide) ?_
          exact i22 σ x14 x15 x16 x17 x21 _ _ _ h hP hS (lv_sub hl [1, 2, 3, 4, 5, 0] rfl)
        · have h := if_f c20 h
          refine lv_aload_n hx hb dX7_tried_37 rfl (lv_at hl 0 rfl) ?_
          refine x_getr (C := RX7) (k := 1) hx hb hts u_X7_tried_7 hown hK hP (g_V_0 cI cO a σ) rfl (by decide) ⟨rfl, rfl, rfl⟩ k_X7_tried_f16 rfl dX7_tried_38 ?_
          refine lv_aload_n hx hb dX7_tried_41 rfl (lv_at hl 0 rfl) ?_
          refine x_getr (C := RX7) (k := 0) hx hb hts u_X7_tried_7 hown hK hP (g_V_0 cI cO a σ) rfl (by decide) ⟨rfl, rfl, rfl⟩ k_X7_tried_f12 rfl dX7_tried_42 ?_
          refine x_cVv (p_V cI cO a) (p_NN cI (q_sub2 21 22 1 a)) (q_put2 21 22 21 1 σ) [] [.ref (a 1)] hx hb hml hl.1 hown hts hK hP hD hS hA rfl (c_X3_become l D cI tys ht (q_sub2 21 22 1 a) (q_sub2 21 22 1 σ)) gX7_tried_X3_become rfl ⟨rfl, rfl⟩ i_X3_become ⟨Nat.le_of_ble_eq_true rfl, Nat.le_of_ble_eq_true rfl⟩ (fr_V_NN_22_1 cI cO a σ) (g_NN_0 cI (q_sub2 21 22 1 a) (q_sub2 21 22 1 σ)) rfl rfl (Nat.le_of_ble_eq_true rfl) ⟨Nat.zero_le _, Nat.zero_le _⟩ dX7_tried_45 h (fun H locs s22 hP hS h => ?_)
          refine lv_aload_n hx hb dX7_tried_48 rfl (lv_at hl 0 rfl) ?_
          refine x_getr (C := RX7) (k := 1) hx hb hts u_X7_tried_7 hown hK hP (g_V_0 cI cO a s22) rfl (by decide) ⟨rfl, rfl, rfl⟩ k_X7_tried_f16 rfl dX7_tried_49 ?_
          refine lv_iload hx hb dX7_tried_52 (lv_at hl 5 rfl) ?_
          refine x_puti (p_V cI cO a) (C := RX3) (k := 4) hx hb hts u_X7_tried_3 tyX3 tyX3_ok nmX3 hown hK hP hD hS h (g_V_22 cI cO a s22) rfl (by decide) ⟨rfl, rfl, rfl⟩ k_X7_tried_f100 rfl rfl rfl rfl (Nat.le_of_ble_eq_true rfl) (s_V_22_4 cI cO a s22 x18) dX7_tried_54 (fun H locs s23 hP hS h => ?_)
          refine lv_aload_n hx hb dX7_tried_57 rfl (lv_at hl 0 rfl) ?_
          refine x_getr (C := RX7) (k := 1) hx hb hts u_X7_tried_7 hown hK hP (g_V_0 cI cO a s23) rfl (by decide) ⟨rfl, rfl, rfl⟩ k_X7_tried_f16 rfl dX7_tried_58 ?_
          refine lv_iload hx hb dX7_tried_61 (lv_at hl 6 rfl) ?_
          refine x_puti (p_V cI cO a) (C := RX3) (k := 5) hx hb hts u_X7_tried_3 tyX3 tyX3_ok nmX3 hown hK hP hD hS h (g_V_22 cI cO a s23) rfl (by decide) ⟨rfl, rfl, rfl⟩ k_X7_tried_f103 rfl rfl rfl rfl (Nat.le_of_ble_eq_true rfl) (s_V_22_5 cI cO a s23 x19) dX7_tried_63 (fun H locs s24 hP hS h => ?_)
          refine lv_aload_n hx hb dX7_tried_66 rfl (lv_at hl 0 rfl) ?_
          refine x_getr (C := RX7) (k := 1) hx hb hts u_X7_tried_7 hown hK hP (g_V_0 cI cO a s24) rfl (by decide) ⟨rfl, rfl, rfl⟩ k_X7_tried_f16 rfl dX7_tried_67 ?_
          refine x_cVi (p_V cI cO a) (p_N cI (q_sub 22 a)) (q_put 22 21 s24) [] [] hx hb hml hl.1 hown hts hK hP hD hS hA rfl (c_X3_roundsToSettle l D cI tys ht (q_sub 22 a) (q_sub 22 s24)) gX7_tried_X3_roundsToSettle rfl ⟨rfl, rfl⟩ i_X3_roundsToSettle ⟨Nat.le_of_ble_eq_true rfl, Nat.le_of_ble_eq_true rfl⟩ (fr_V_N_22 cI cO a s24) (g_N_0 cI (q_sub 22 a) (q_sub 22 s24)) rfl rfl (Nat.le_of_ble_eq_true rfl) ⟨Nat.zero_le _, Nat.zero_le _⟩ dX7_tried_70 h (fun x26 H locs s25 hP hS h => ?_)
          refine lv_istore (lv' := [(7, .int x26), (0, .ref (a 0)), (1, .int x14), (2, .int x15), (3, .int x16), (4, .int x17), (5, .int x18), (6, .int x19)]) hx hb dX7_tried_73 hl (by decide) rfl (fun ls hl => ?_)
          refine lv_iload hx hb dX7_tried_75 (lv_at hl 0 rfl) ?_
          refine lv_iload hx hb dX7_tried_77 (lv_at hl 5 rfl) ?_
          refine lv_icmp_ge (tgt := 92) hx hb dX7_tried_79 (by decide) (fun c27 => ?_) (fun c27 => ?_)
          · have h := if_t c27 h
            refine x_iinc (k := 7) (w := 1) hx hb dX7_tried_92 hl rfl (by decide +kernel) (by decide) (fun v9 => [(6, .int v9), (7, .int x26), (0, .ref (a 0)), (1, .int x14), (2, .int x15), (3, .int x16), (4, .int x17), (5, .int x18)]) (fun v9 => rfl) h (fun x28 ls hl h => ?_)
            have hl : lv_has ls 8 [(6, .int x28), (7, .int x26), (0, .ref (a 0)), (1, .int x14), (2, .int x15), (3, .int x16), (4, .int x17), (5, .int x18)] := hl
            refine lv_goto (tgt := 31) hx hb dX7_tried_95 (by decide) ?_
            exact i31 s25 x14 x15 x16 x17 x18 x28 _ _ _ h hP hS (lv_sub hl [2, 3, 4, 5, 6, 7, 0] rfl)
          · have h := if_f c27 h
            refine lv_iload hx hb dX7_tried_82 (lv_at hl 0 rfl) ?_
            refine lv_istore (lv' := [(4, .int x26), (7, .int x26), (0, .ref (a 0)), (1, .int x14), (2, .int x15), (3, .int x16), (5, .int x18), (6, .int x19)]) hx hb dX7_tried_84 hl (by decide) rfl (fun ls hl => ?_)
            refine lv_iload hx hb dX7_tried_86 (lv_at hl 6 rfl) ?_
            refine lv_istore_n (lv' := [(2, .int x18), (4, .int x26), (7, .int x26), (0, .ref (a 0)), (1, .int x14), (3, .int x16), (5, .int x18), (6, .int x19)]) hx hb dX7_tried_88 rfl hl (by decide) rfl (fun ls hl => ?_)
            refine lv_iload hx hb dX7_tried_89 (lv_at hl 7 rfl) ?_
            refine lv_istore_n (lv' := [(3, .int x19), (2, .int x18), (4, .int x26), (7, .int x26), (0, .ref (a 0)), (1, .int x14), (5, .int x18), (6, .int x19)]) hx hb dX7_tried_91 rfl hl (by decide) rfl (fun ls hl => ?_)
            refine x_iinc (k := 7) (w := 1) hx hb dX7_tried_92 hl rfl (by decide +kernel) (by decide) (fun v9 => [(6, .int v9), (3, .int x19), (2, .int x18), (4, .int x26), (7, .int x26), (0, .ref (a 0)), (1, .int x14), (5, .int x18)]) (fun v9 => rfl) h (fun x29 ls hl h => ?_)
            have hl : lv_has ls 8 [(6, .int x29), (3, .int x19), (2, .int x18), (4, .int x26), (7, .int x26), (0, .ref (a 0)), (1, .int x14), (5, .int x18)] := hl
            refine lv_goto (tgt := 31) hx hb dX7_tried_95 (by decide) ?_
            exact i31 s25 x14 x18 x19 x26 x18 x29 _ _ _ h hP hS (lv_sub hl [5, 6, 2, 1, 3, 7, 0] rfl)
  have i22 : ∀ (σ : qM) (x4 x5 x6 x7 x8 : Int32) (H : Heap) (locs : List Loc) (ls : Array Slot), q_lim (D_X7_tried) 0 σ [x4, x5, x6, x7, x8] = some qq → va_P D vwCl (p_V cI cO a σ) H → va_S A s.heap H locs → lv_has ls 8 [(0, .ref (a 0)), (1, .int x4), (2, .int x5), (3, .int x6), (4, .int x7), (5, .int x8)] → W p l e ({ frames := 5, cells := 0, slots := 0, locals := 125 }) s m [.ref (a 0), .int x1].toArray below meth c H locs 0 0 (MQ below (va_Qi (fun r τ => (r, τ) = qq) (fun τ t => va_P D vwCl ((p_V cI cO a) τ) t.heap) A) [.ref (a 0), .int x1].toArray s 0 0 A) (F0 m 22 ls []) := by
    intro σ x4 x5 x6 x7 x8 H locs ls h hP hS hl
    obtain ⟨k9, h⟩ := q_lim_n h
    exact (main k9).1 σ x4 x5 x6 x7 x8 H locs ls h hP hS hl
  have i31 : ∀ (σ : qM) (x14 x15 x16 x17 x18 x19 : Int32) (H : Heap) (locs : List Loc) (ls : Array Slot), q_lim (D_X7_tried) 1 σ [x14, x15, x16, x17, x18, x19] = some qq → va_P D vwCl (p_V cI cO a σ) H → va_S A s.heap H locs → lv_has ls 8 [(0, .ref (a 0)), (1, .int x14), (2, .int x15), (3, .int x16), (4, .int x17), (5, .int x18), (6, .int x19)] → W p l e ({ frames := 5, cells := 0, slots := 0, locals := 125 }) s m [.ref (a 0), .int x1].toArray below meth c H locs 0 0 (MQ below (va_Qi (fun r τ => (r, τ) = qq) (fun τ t => va_P D vwCl ((p_V cI cO a) τ) t.heap) A) [.ref (a 0), .int x1].toArray s 0 0 A) (F0 m 31 ls []) := by
    intro σ x14 x15 x16 x17 x18 x19 H locs ls h hP hS hl
    obtain ⟨k9, h⟩ := q_lim_n h
    exact (main k9).2 σ x14 x15 x16 x17 x18 x19 H locs ls h hP hS hl
  have h : e_X7_tried (q_lim (D_X7_tried)) σ x1 = some qq := h
  unfold e_X7_tried at h
  refine lv_iload_n hx hb dX7_tried_0 rfl (lv_at hl 1 rfl) ?_
  refine lv_if_lt (tgt := 9) hx hb dX7_tried_1 (by decide) (fun c2 => ?_) (fun c2 => ?_)
  · have h := if_t c2 h
    refine lv_iconst (v := (-1)) hx hb dX7_tried_9 (by decide +kernel) ?_
    exact x_iret (p_V cI cO a) hx hb hr hlocks hP hS dX7_tried_10 h
  · have h := if_f c2 h
    refine lv_iload_n hx hb dX7_tried_4 rfl (lv_at hl 1 rfl) ?_
    refine lv_iconst (v := 2) hx hb dX7_tried_5 (by decide +kernel) ?_
    refine lv_icmp_le (tgt := 11) hx hb dX7_tried_6 (by decide) (fun c3 => ?_) (fun c3 => ?_)
    · have h := if_t c3 h
      refine lv_iconst (v := 0) hx hb dX7_tried_11 (by decide +kernel) ?_
      refine lv_istore_n (lv' := [(2, .int 0), (0, .ref (a 0)), (1, .int x1)]) hx hb dX7_tried_12 rfl hl (by decide) rfl (fun ls hl => ?_)
      refine lv_iconst (v := 0) hx hb dX7_tried_13 (by decide +kernel) ?_
      refine lv_istore_n (lv' := [(3, .int 0), (2, .int 0), (0, .ref (a 0)), (1, .int x1)]) hx hb dX7_tried_14 rfl hl (by decide) rfl (fun ls hl => ?_)
      refine lv_bipush (v := 82) hx hb dX7_tried_15 (by decide +kernel) ?_
      refine lv_istore (lv' := [(4, .int 82), (3, .int 0), (2, .int 0), (0, .ref (a 0)), (1, .int x1)]) hx hb dX7_tried_17 hl (by decide) rfl (fun ls hl => ?_)
      refine lv_iconst (v := 0) hx hb dX7_tried_19 (by decide +kernel) ?_
      refine lv_istore (lv' := [(5, .int 0), (4, .int 82), (3, .int 0), (2, .int 0), (0, .ref (a 0)), (1, .int x1)]) hx hb dX7_tried_20 hl (by decide) rfl (fun ls hl => ?_)
      exact i22 σ x1 0 0 82 0 _ _ _ h hP hS (lv_sub hl [4, 5, 3, 2, 1, 0] rfl)
    · have h := if_f c3 h
      refine lv_iconst (v := (-1)) hx hb dX7_tried_9 (by decide +kernel) ?_
      exact x_iret (p_V cI cO a) hx hb hr hlocks hP hS dX7_tried_10 h
