/-! ===== VectorRounds.noRouter(I)Z: world V ===== -/
theorem i_X7_noRouter : yX7_noRouter.cls = RX7 ∧ yX7_noRouter.cls ≠ "java/lang/invoke/MethodHandle" ∧ yX7_noRouter.cls ≠ "java/lang/invoke/VarHandle" ∧ (parseMethodDescriptor yX7_noRouter.desc).map (fun d => d.parameters.length) = some 1 := by decide +kernel
theorem k_X7_noRouter_f12 : Cond.fieldLink RX7 12 RX7 "now" "LVectorRounds$Network;" ∈ wsX7_noRouter := by decide +kernel
theorem k_X7_noRouter_f53 : Cond.fieldLink RX7 53 RX3 "routers" "I" ∈ wsX7_noRouter := by decide +kernel
theorem u_X7_noRouter_3 : ∀ w ∈ u_ws RX3 TX3 9, w ∈ wsX7_noRouter := by decide +kernel
theorem u_X7_noRouter_7 : ∀ w ∈ u_ws RX7 TX7 9, w ∈ wsX7_noRouter := by decide +kernel
set_option maxHeartbeats 4000000 in
set_option maxRecDepth 100000 in
theorem c_X7_noRouter (l : Launch) (D : va_G) (cI cO : ClassId) (tys : List (ClassId × FieldType)) (ht : tys[0]? = some (cI, .int)) (ht1 : tys[1]? = some (cO, .object "VectorRounds$Holder")) (a : Nat → Nat) (σ : qM) (x1 : Int32) : q_Met l yX7_noRouter wsX7_noRouter ({ frames := 0, cells := 0, slots := 0, locals := 0 }) [.ref (a 0), .int x1] D tys (p_V cI cO a) σ (f_X7_noRouter σ x1) := by
  refine x_ofWi (cc := cX7_noRouter) (maxL := 2) (ret := (some .boolean)) (by decide +kernel) rfl (pf_V cI cO a) (Nat.le_of_ble_eq_true rfl) ?_
  intro p e s m below meth c A ls qq h hx hb hml hr hlocks hown hts hK hP hD hA hS hl
  have hown : s.vm.findClass RX7 = some m.cls := hown
  have hl : lv_has ls 2 [(0, .ref (a 0)), (1, .int x1)] := hl
  unfold f_X7_noRouter at h
  refine lv_iload_n hx hb dX7_noRouter_0 rfl (lv_at hl 1 rfl) ?_
  refine lv_if_lt (tgt := 15) hx hb dX7_noRouter_1 (by decide) (fun c2 => ?_) (fun c2 => ?_)
  · have h := if_t c2 h
    refine lv_iconst (v := 1) hx hb dX7_noRouter_15 (by decide +kernel) ?_
    refine lv_goto (tgt := 20) hx hb dX7_noRouter_16 (by decide) ?_
    exact x_zret (p_V cI cO a) hx hb hr hlocks hP hS dX7_noRouter_20 h
  · have h := if_f c2 h
    refine lv_iload_n hx hb dX7_noRouter_4 rfl (lv_at hl 1 rfl) ?_
    refine lv_aload_n hx hb dX7_noRouter_5 rfl (lv_at hl 0 rfl) ?_
    refine x_getr (C := RX7) (k := 0) hx hb hts u_X7_noRouter_7 hown hK hP (g_V_0 cI cO a σ) rfl (by decide) ⟨rfl, rfl, rfl⟩ k_X7_noRouter_f12 rfl dX7_noRouter_6 ?_
    refine x_geti (C := RX3) (k := 3) hx hb hts u_X7_noRouter_3 hown hK hP (g_V_1 cI cO a σ) rfl (by decide) ⟨rfl, rfl, rfl⟩ k_X7_noRouter_f53 rfl dX7_noRouter_9 h (fun x3 h => ?_)
    refine lv_icmp_lt (tgt := 19) hx hb dX7_noRouter_12 (by decide) (fun c4 => ?_) (fun c4 => ?_)
    · have h := if_t c4 h
      refine lv_iconst (v := 0) hx hb dX7_noRouter_19 (by decide +kernel) ?_
      exact x_zret (p_V cI cO a) hx hb hr hlocks hP hS dX7_noRouter_20 h
    · have h := if_f c4 h
      refine lv_iconst (v := 1) hx hb dX7_noRouter_15 (by decide +kernel) ?_
      refine lv_goto (tgt := 20) hx hb dX7_noRouter_16 (by decide) ?_
      exact x_zret (p_V cI cO a) hx hb hr hlocks hP hS dX7_noRouter_20 h
/-! ===== VectorRounds.noLink(I)Z: world V ===== -/
theorem i_X7_noLink : yX7_noLink.cls = RX7 ∧ yX7_noLink.cls ≠ "java/lang/invoke/MethodHandle" ∧ yX7_noLink.cls ≠ "java/lang/invoke/VarHandle" ∧ (parseMethodDescriptor yX7_noLink.desc).map (fun d => d.parameters.length) = some 1 := by decide +kernel
theorem k_X7_noLink_f12 : Cond.fieldLink RX7 12 RX7 "now" "LVectorRounds$Network;" ∈ wsX7_noLink := by decide +kernel
theorem k_X7_noLink_f65 : Cond.fieldLink RX7 65 RX3 "links" "LVectorRounds$Links;" ∈ wsX7_noLink := by decide +kernel
theorem k_X7_noLink_f75 : Cond.fieldLink RX7 75 RX2 "size" "I" ∈ wsX7_noLink := by decide +kernel
theorem u_X7_noLink_2 : ∀ w ∈ u_ws RX2 TX2 6, w ∈ wsX7_noLink := by decide +kernel
theorem u_X7_noLink_3 : ∀ w ∈ u_ws RX3 TX3 9, w ∈ wsX7_noLink := by decide +kernel
theorem u_X7_noLink_7 : ∀ w ∈ u_ws RX7 TX7 9, w ∈ wsX7_noLink := by decide +kernel
set_option maxHeartbeats 4000000 in
set_option maxRecDepth 100000 in
theorem c_X7_noLink (l : Launch) (D : va_G) (cI cO : ClassId) (tys : List (ClassId × FieldType)) (ht : tys[0]? = some (cI, .int)) (ht1 : tys[1]? = some (cO, .object "VectorRounds$Holder")) (a : Nat → Nat) (σ : qM) (x1 : Int32) : q_Met l yX7_noLink wsX7_noLink ({ frames := 0, cells := 0, slots := 0, locals := 0 }) [.ref (a 0), .int x1] D tys (p_V cI cO a) σ (f_X7_noLink σ x1) := by
  refine x_ofWi (cc := cX7_noLink) (maxL := 2) (ret := (some .boolean)) (by decide +kernel) rfl (pf_V cI cO a) (Nat.le_of_ble_eq_true rfl) ?_
  intro p e s m below meth c A ls qq h hx hb hml hr hlocks hown hts hK hP hD hA hS hl
  have hown : s.vm.findClass RX7 = some m.cls := hown
  have hl : lv_has ls 2 [(0, .ref (a 0)), (1, .int x1)] := hl
  unfold f_X7_noLink at h
  refine lv_iload_n hx hb dX7_noLink_0 rfl (lv_at hl 1 rfl) ?_
  refine lv_if_lt (tgt := 18) hx hb dX7_noLink_1 (by decide) (fun c2 => ?_) (fun c2 => ?_)
  · have h := if_t c2 h
    refine lv_iconst (v := 1) hx hb dX7_noLink_18 (by decide +kernel) ?_
    refine lv_goto (tgt := 23) hx hb dX7_noLink_19 (by decide) ?_
    exact x_zret (p_V cI cO a) hx hb hr hlocks hP hS dX7_noLink_23 h
  · have h := if_f c2 h
    refine lv_iload_n hx hb dX7_noLink_4 rfl (lv_at hl 1 rfl) ?_
    refine lv_aload_n hx hb dX7_noLink_5 rfl (lv_at hl 0 rfl) ?_
    refine x_getr (C := RX7) (k := 0) hx hb hts u_X7_noLink_7 hown hK hP (g_V_0 cI cO a σ) rfl (by decide) ⟨rfl, rfl, rfl⟩ k_X7_noLink_f12 rfl dX7_noLink_6 ?_
    refine x_getr (C := RX3) (k := 2) hx hb hts u_X7_noLink_3 hown hK hP (g_V_1 cI cO a σ) rfl (by decide) ⟨rfl, rfl, rfl⟩ k_X7_noLink_f65 rfl dX7_noLink_9 ?_
    refine x_geti (C := RX2) (k := 5) hx hb hts u_X7_noLink_2 hown hK hP (g_V_16 cI cO a σ) rfl (by decide) ⟨rfl, rfl, rfl⟩ k_X7_noLink_f75 rfl dX7_noLink_12 h (fun x3 h => ?_)
    refine lv_icmp_lt (tgt := 22) hx hb dX7_noLink_15 (by decide) (fun c4 => ?_) (fun c4 => ?_)
    · have h := if_t c4 h
      refine lv_iconst (v := 0) hx hb dX7_noLink_22 (by decide +kernel) ?_
      exact x_zret (p_V cI cO a) hx hb hr hlocks hP hS dX7_noLink_23 h
    · have h := if_f c4 h
      refine lv_iconst (v := 1) hx hb dX7_noLink_18 (by decide +kernel) ?_
      refine lv_goto (tgt := 23) hx hb dX7_noLink_19 (by decide) ?_
      exact x_zret (p_V cI cO a) hx hb hr hlocks hP hS dX7_noLink_23 h
/-! ===== VectorRounds.noHolder(I)Z: world E ===== -/
theorem i_X7_noHolder : yX7_noHolder.cls ≠ "java/lang/invoke/MethodHandle" ∧ yX7_noHolder.cls ≠ "java/lang/invoke/VarHandle" ∧ (parseMethodDescriptor yX7_noHolder.desc).map (fun d => d.parameters.length) = some 1 := by decide +kernel
set_option maxHeartbeats 4000000 in
set_option maxRecDepth 100000 in
theorem c_X7_noHolder (l : Launch) (D : va_G) (cI : ClassId) (tys : List (ClassId × FieldType)) (ht : tys[0]? = some (cI, .int)) (σ : qM) (x1 : Int32) : q_Met l yX7_noHolder wsX7_noHolder ({ frames := 0, cells := 0, slots := 0, locals := 0 }) [.int x1] D tys (fun _ => []) σ (f_X7_noHolder σ x1) := by
  refine x_ofWi (cc := cX7_noHolder) (maxL := 1) (ret := (some .boolean)) (by decide +kernel) rfl (fun _ _ => rfl) (Nat.le_of_ble_eq_true rfl) ?_
  intro p e s m below meth c A ls qq h hx hb hml hr hlocks hown hts hK hP hD hA hS hl
  have hown : s.vm.findClass RX7 = some m.cls := hown
  have hl : lv_has ls 1 [(0, .int x1)] := hl
  unfold f_X7_noHolder at h
  refine lv_iload_n hx hb dX7_noHolder_0 rfl (lv_at hl 0 rfl) ?_
  refine lv_if_lt (tgt := 10) hx hb dX7_noHolder_1 (by decide) (fun c2 => ?_) (fun c2 => ?_)
  · have h := if_t c2 h
    refine lv_iconst (v := 1) hx hb dX7_noHolder_10 (by decide +kernel) ?_
    refine lv_goto (tgt := 15) hx hb dX7_noHolder_11 (by decide) ?_
    exact x_zret (fun _ => []) hx hb hr hlocks hP hS dX7_noHolder_15 h
  · have h := if_f c2 h
    refine lv_iload_n hx hb dX7_noHolder_4 rfl (lv_at hl 0 rfl) ?_
    refine lv_bipush (v := 6) hx hb dX7_noHolder_5 (by decide +kernel) ?_
    refine lv_icmp_lt (tgt := 14) hx hb dX7_noHolder_7 (by decide) (fun c3 => ?_) (fun c3 => ?_)
    · have h := if_t c3 h
      refine lv_iconst (v := 0) hx hb dX7_noHolder_14 (by decide +kernel) ?_
      exact x_zret (fun _ => []) hx hb hr hlocks hP hS dX7_noHolder_15 h
    · have h := if_f c3 h
      refine lv_iconst (v := 1) hx hb dX7_noHolder_10 (by decide +kernel) ?_
      refine lv_goto (tgt := 15) hx hb dX7_noHolder_11 (by decide) ?_
      exact x_zret (fun _ => []) hx hb hr hlocks hP hS dX7_noHolder_15 h
/-! ===== VectorRounds.mostOfRule(I)I: world E ===== -/
theorem i_X7_mostOfRule : yX7_mostOfRule.cls ≠ "java/lang/invoke/MethodHandle" ∧ yX7_mostOfRule.cls ≠ "java/lang/invoke/VarHandle" ∧ (parseMethodDescriptor yX7_mostOfRule.desc).map (fun d => d.parameters.length) = some 1 := by decide +kernel
set_option maxHeartbeats 4000000 in
set_option maxRecDepth 100000 in
theorem c_X7_mostOfRule (l : Launch) (D : va_G) (cI : ClassId) (tys : List (ClassId × FieldType)) (ht : tys[0]? = some (cI, .int)) (σ : qM) (x1 : Int32) : q_Met l yX7_mostOfRule wsX7_mostOfRule ({ frames := 0, cells := 0, slots := 0, locals := 0 }) [.int x1] D tys (fun _ => []) σ (f_X7_mostOfRule σ x1) := by
  refine x_ofWi (cc := cX7_mostOfRule) (maxL := 1) (ret := (some .int)) (by decide +kernel) rfl (fun _ _ => rfl) (Nat.le_of_ble_eq_true rfl) ?_
  intro p e s m below meth c A ls qq h hx hb hml hr hlocks hown hts hK hP hD hA hS hl
  have hown : s.vm.findClass RX7 = some m.cls := hown
  have hl : lv_has ls 1 [(0, .int x1)] := hl
  unfold f_X7_mostOfRule at h
  refine lv_iload_n hx hb dX7_mostOfRule_0 rfl (lv_at hl 0 rfl) ?_
  refine lv_if_ne (tgt := 6) hx hb dX7_mostOfRule_1 (by decide) (fun c2 => ?_) (fun c2 => ?_)
  · have h := if_f c2 h
    refine lv_iload_n hx hb dX7_mostOfRule_6 rfl (lv_at hl 0 rfl) ?_
    refine lv_iconst (v := 1) hx hb dX7_mostOfRule_7 (by decide +kernel) ?_
    refine lv_icmp_ne (tgt := 15) hx hb dX7_mostOfRule_8 (by decide) (fun c3 => ?_) (fun c3 => ?_)
    · have h := if_f c3 h
      refine lv_bipush (v := 9) hx hb dX7_mostOfRule_15 (by decide +kernel) ?_
      exact x_iret (fun _ => []) hx hb hr hlocks hP hS dX7_mostOfRule_17 h
    · have h := if_t c3 h
      refine lv_iconst (v := 1) hx hb dX7_mostOfRule_11 (by decide +kernel) ?_
      refine lv_goto (tgt := 17) hx hb dX7_mostOfRule_12 (by decide) ?_
      exact x_iret (fun _ => []) hx hb hr hlocks hP hS dX7_mostOfRule_17 h
  · have h := if_t c2 h
    refine lv_iconst (v := 2) hx hb dX7_mostOfRule_4 (by decide +kernel) ?_
    exact x_iret (fun _ => []) hx hb hr hlocks hP hS dX7_mostOfRule_5 h
/-! ===== VectorRounds.orNot(I)I: world E ===== -/
theorem i_X7_orNot : yX7_orNot.cls ≠ "java/lang/invoke/MethodHandle" ∧ yX7_orNot.cls ≠ "java/lang/invoke/VarHandle" ∧ (parseMethodDescriptor yX7_orNot.desc).map (fun d => d.parameters.length) = some 1 := by decide +kernel
set_option maxHeartbeats 4000000 in
set_option maxRecDepth 100000 in
theorem c_X7_orNot (l : Launch) (D : va_G) (cI : ClassId) (tys : List (ClassId × FieldType)) (ht : tys[0]? = some (cI, .int)) (σ : qM) (x1 : Int32) : q_Met l yX7_orNot wsX7_orNot ({ frames := 0, cells := 0, slots := 0, locals := 0 }) [.int x1] D tys (fun _ => []) σ (f_X7_orNot σ x1) := by
  refine x_ofWi (cc := cX7_orNot) (maxL := 1) (ret := (some .int)) (by decide +kernel) rfl (fun _ _ => rfl) (Nat.le_of_ble_eq_true rfl) ?_
  intro p e s m below meth c A ls qq h hx hb hml hr hlocks hown hts hK hP hD hA hS hl
  have hown : s.vm.findClass RX7 = some m.cls := hown
  have hl : lv_has ls 1 [(0, .int x1)] := hl
  unfold f_X7_orNot at h
  refine lv_iload_n hx hb dX7_orNot_0 rfl (lv_at hl 0 rfl) ?_
  refine lv_bipush (v := 80) hx hb dX7_orNot_1 (by decide +kernel) ?_
  refine lv_icmp_le (tgt := 11) hx hb dX7_orNot_3 (by decide) (fun c2 => ?_) (fun c2 => ?_)
  · have h := if_t c2 h
    refine lv_iload_n hx hb dX7_orNot_11 rfl (lv_at hl 0 rfl) ?_
    exact x_iret (fun _ => []) hx hb hr hlocks hP hS dX7_orNot_12 h
  · have h := if_f c2 h
    refine lv_bipush (v := (-2)) hx hb dX7_orNot_6 (by decide +kernel) ?_
    refine lv_goto (tgt := 12) hx hb dX7_orNot_8 (by decide) ?_
    exact x_iret (fun _ => []) hx hb hr hlocks hP hS dX7_orNot_12 h
/-! ===== VectorRounds.router()I: world V ===== -/
theorem i_X7_router : yX7_router.cls = RX7 ∧ yX7_router.cls ≠ "java/lang/invoke/MethodHandle" ∧ yX7_router.cls ≠ "java/lang/invoke/VarHandle" ∧ (parseMethodDescriptor yX7_router.desc).map (fun d => d.parameters.length) = some 0 := by decide +kernel
theorem k_X7_router_f12 : Cond.fieldLink RX7 12 RX7 "now" "LVectorRounds$Network;" ∈ wsX7_router := by decide +kernel
theorem k_X7_router_f53 : Cond.fieldLink RX7 53 RX3 "routers" "I" ∈ wsX7_router := by decide +kernel
theorem u_X7_router_3 : ∀ w ∈ u_ws RX3 TX3 9, w ∈ wsX7_router := by decide +kernel
theorem u_X7_router_7 : ∀ w ∈ u_ws RX7 TX7 9, w ∈ wsX7_router := by decide +kernel
set_option maxHeartbeats 4000000 in
set_option maxRecDepth 100000 in
theorem c_X7_router (l : Launch) (D : va_G) (cI cO : ClassId) (tys : List (ClassId × FieldType)) (ht : tys[0]? = some (cI, .int)) (ht1 : tys[1]? = some (cO, .object "VectorRounds$Holder")) (a : Nat → Nat) (σ : qM) : q_Met l yX7_router wsX7_router ({ frames := 2, cells := 0, slots := 0, locals := 48 }) [.ref (a 0)] D tys (p_V cI cO a) σ (f_X7_router σ) := by
  refine x_ofWi (cc := cX7_router) (maxL := 1) (ret := (some .int)) (by decide +kernel) rfl (pf_V cI cO a) (Nat.le_of_ble_eq_true rfl) ?_
  intro p e s m below meth c A ls qq h hx hb hml hr hlocks hown hts hK hP hD hA hS hl
  have hown : s.vm.findClass RX7 = some m.cls := hown
  have hl : lv_has ls 1 [(0, .ref (a 0))] := hl
  unfold f_X7_router at h
  refine lv_aload_n hx hb dX7_router_0 rfl (lv_at hl 0 rfl) ?_
  refine x_getr (C := RX7) (k := 0) hx hb hts u_X7_router_7 hown hK hP (g_V_0 cI cO a σ) rfl (by decide) ⟨rfl, rfl, rfl⟩ k_X7_router_f12 rfl dX7_router_1 ?_
  refine x_geti (C := RX3) (k := 3) hx hb hts u_X7_router_3 hown hK hP (g_V_1 cI cO a σ) rfl (by decide) ⟨rfl, rfl, rfl⟩ k_X7_router_f53 rfl dX7_router_4 h (fun x1 h => ?_)
  refine lv_bipush (v := 10) hx hb dX7_router_7 (by decide +kernel) ?_
  refine lv_icmp_lt (tgt := 15) hx hb dX7_router_9 (by decide) (fun c2 => ?_) (fun c2 => ?_)
  · have h := if_t c2 h
    refine lv_aload_n hx hb dX7_router_15 rfl (lv_at hl 0 rfl) ?_
    refine x_getr (C := RX7) (k := 0) hx hb hts u_X7_router_7 hown hK hP (g_V_0 cI cO a σ) rfl (by decide) ⟨rfl, rfl, rfl⟩ k_X7_router_f12 rfl dX7_router_16 ?_
    refine x_cVi (p_V cI cO a) (p_N cI (q_sub 1 a)) (q_put 1 21 σ) [] [] hx hb hml hl.1 hown hts hK hP hD hS hA rfl (c_X3_addRouter l D cI tys ht (q_sub 1 a) (q_sub 1 σ)) gX7_router_X3_addRouter rfl ⟨rfl, rfl⟩ i_X3_addRouter ⟨Nat.le_of_ble_eq_true rfl, Nat.le_of_ble_eq_true rfl⟩ (fr_V_N_1 cI cO a σ) (g_N_0 cI (q_sub 1 a) (q_sub 1 σ)) rfl rfl (Nat.le_of_ble_eq_true rfl) ⟨Nat.zero_le _, Nat.zero_le _⟩ dX7_router_19 h (fun x4 H locs s3 hP hS h => ?_)
    exact x_iret (p_V cI cO a) hx hb hr hlocks hP hS dX7_router_22 h
  · have h := if_f c2 h
    refine lv_bipush (v := (-3)) hx hb dX7_router_12 (by decide +kernel) ?_
    exact x_iret (p_V cI cO a) hx hb hr hlocks hP hS dX7_router_14 h
/-! ===== VectorRounds.link(III)I: world V ===== -/
theorem i_X7_link : yX7_link.cls = RX7 ∧ yX7_link.cls ≠ "java/lang/invoke/MethodHandle" ∧ yX7_link.cls ≠ "java/lang/invoke/VarHandle" ∧ (parseMethodDescriptor yX7_link.desc).map (fun d => d.parameters.length) = some 3 := by decide +kernel
theorem k_X7_link_f12 : Cond.fieldLink RX7 12 RX7 "now" "LVectorRounds$Network;" ∈ wsX7_link := by decide +kernel
theorem k_X7_link_f65 : Cond.fieldLink RX7 65 RX3 "links" "LVectorRounds$Links;" ∈ wsX7_link := by decide +kernel
theorem k_X7_link_f75 : Cond.fieldLink RX7 75 RX2 "size" "I" ∈ wsX7_link := by decide +kernel
theorem u_X7_link_2 : ∀ w ∈ u_ws RX2 TX2 6, w ∈ wsX7_link := by decide +kernel
theorem u_X7_link_3 : ∀ w ∈ u_ws RX3 TX3 9, w ∈ wsX7_link := by decide +kernel
theorem u_X7_link_7 : ∀ w ∈ u_ws RX7 TX7 9, w ∈ wsX7_link := by decide +kernel
set_option maxHeartbeats 4000000 in
set_option maxRecDepth 100000 in
theorem c_X7_link (l : Launch) (D : va_G) (cI cO : ClassId) (tys : List (ClassId × FieldType)) (ht : tys[0]? = some (cI, .int)) (ht1 : tys[1]? = some (cO, .object "VectorRounds$Holder")) (a : Nat → Nat) (σ : qM) (x1 : Int32) (x2 : Int32) (x3 : Int32) : q_Met l yX7_link wsX7_link ({ frames := 2, cells := 0, slots := 0, locals := 64 }) [.ref (a 0), .int x1, .int x2, .int x3] D tys (p_V cI cO a) σ (f_X7_link σ x1 x2 x3) := by
  refine x_ofWi (cc := cX7_link) (maxL := 4) (ret := (some .int)) (by decide +kernel) rfl (pf_V cI cO a) (Nat.le_of_ble_eq_true rfl) ?_
  intro p e s m below meth c A ls qq h hx hb hml hr hlocks hown hts hK hP hD hA hS hl
  have hown : s.vm.findClass RX7 = some m.cls := hown
  have hl : lv_has ls 4 [(0, .ref (a 0)), (1, .int x1), (2, .int x2), (3, .int x3)] := hl
  unfold f_X7_link at h
  refine lv_aload_n hx hb dX7_link_0 rfl (lv_at hl 0 rfl) ?_
  refine lv_iload_n hx hb dX7_link_1 rfl (lv_at hl 1 rfl) ?_
  refine x_cVi (p_V cI cO a) (p_V cI cO a) (fun τ => τ) [] [.int x1] hx hb hml hl.1 hown hts hK hP hD hS hA rfl (c_X7_noRouter l D cI cO tys ht ht1 a σ x1) gX7_link_X7_noRouter rfl ⟨rfl, rfl⟩ i_X7_noRouter ⟨Nat.le_of_ble_eq_true rfl, Nat.le_of_ble_eq_true rfl⟩ q_frI (g_V_0 cI cO a σ) rfl rfl (Nat.le_of_ble_eq_true rfl) ⟨Nat.zero_le _, Nat.zero_le _⟩ dX7_link_2 h (fun x5 H locs s4 hP hS h => ?_)
  refine lv_if_ne (tgt := 32) hx hb dX7_link_5 (by decide) (fun c6 => ?_) (fun c6 => ?_)
  · have h := if_f c6 h
    refine lv_iconst (v := (-1)) hx hb dX7_link_32 (by decide +kernel) ?_
    exact x_iret (p_V cI cO a) hx hb hr hlocks hP hS dX7_link_33 h
  · have h := if_t c6 h
    refine lv_aload_n hx hb dX7_link_8 rfl (lv_at hl 0 rfl) ?_
    refine lv_iload_n hx hb dX7_link_9 rfl (lv_at hl 2 rfl) ?_
    refine x_cVi (p_V cI cO a) (p_V cI cO a) (fun τ => τ) [] [.int x2] hx hb hml hl.1 hown hts hK hP hD hS hA rfl (c_X7_noRouter l D cI cO tys ht ht1 a s4 x2) gX7_link_X7_noRouter rfl ⟨rfl, rfl⟩ i_X7_noRouter ⟨Nat.le_of_ble_eq_true rfl, Nat.le_of_ble_eq_true rfl⟩ q_frI (g_V_0 cI cO a s4) rfl rfl (Nat.le_of_ble_eq_true rfl) ⟨Nat.zero_le _, Nat.zero_le _⟩ dX7_link_10 h (fun x8 H locs s7 hP hS h => ?_)
    refine lv_if_ne (tgt := 32) hx hb dX7_link_13 (by decide) (fun c9 => ?_) (fun c9 => ?_)
    · have h := if_f c9 h
      refine lv_iconst (v := (-1)) hx hb dX7_link_32 (by decide +kernel) ?_
      exact x_iret (p_V cI cO a) hx hb hr hlocks hP hS dX7_link_33 h
    · have h := if_t c9 h
      refine lv_iload_n hx hb dX7_link_16 rfl (lv_at hl 1 rfl) ?_
      refine lv_iload_n hx hb dX7_link_17 rfl (lv_at hl 2 rfl) ?_
      refine lv_icmp_eq (tgt := 32) hx hb dX7_link_18 (by decide) (fun c10 => ?_) (fun c10 => ?_)
      · have h := if_t c10 h
        refine lv_iconst (v := (-1)) hx hb dX7_link_32 (by decide +kernel) ?_
        exact x_iret (p_V cI cO a) hx hb hr hlocks hP hS dX7_link_33 h
      · have h := if_f c10 h
        refine lv_iload_n hx hb dX7_link_21 rfl (lv_at hl 3 rfl) ?_
        refine lv_iconst (v := 1) hx hb dX7_link_22 (by decide +kernel) ?_
        refine lv_icmp_lt (tgt := 32) hx hb dX7_link_23 (by decide) (fun c11 => ?_) (fun c11 => ?_)
        · have h := if_t c11 h
          refine lv_iconst (v := (-1)) hx hb dX7_link_32 (by decide +kernel) ?_
          exact x_iret (p_V cI cO a) hx hb hr hlocks hP hS dX7_link_33 h
        · have h := if_f c11 h
          refine lv_iload_n hx hb dX7_link_26 rfl (lv_at hl 3 rfl) ?_
          refine lv_bipush (v := 15) hx hb dX7_link_27 (by decide +kernel) ?_
          refine lv_icmp_le (tgt := 34) hx hb dX7_link_29 (by decide) (fun c12 => ?_) (fun c12 => ?_)
          · have h := if_t c12 h
            refine lv_aload_n hx hb dX7_link_34 rfl (lv_at hl 0 rfl) ?_
            refine x_getr (C := RX7) (k := 0) hx hb hts u_X7_link_7 hown hK hP (g_V_0 cI cO a s7) rfl (by decide) ⟨rfl, rfl, rfl⟩ k_X7_link_f12 rfl dX7_link_35 ?_
            refine x_getr (C := RX3) (k := 2) hx hb hts u_X7_link_3 hown hK hP (g_V_1 cI cO a s7) rfl (by decide) ⟨rfl, rfl, rfl⟩ k_X7_link_f65 rfl dX7_link_38 ?_
            refine lv_iload_n hx hb dX7_link_41 rfl (lv_at hl 1 rfl) ?_
            refine lv_iload_n hx hb dX7_link_42 rfl (lv_at hl 2 rfl) ?_
            refine x_cVi (p_V cI cO a) (p_L cI (q_sub 16 a)) (q_put 16 6 s7) [] [.int x1, .int x2] hx hb hml hl.1 hown hts hK hP hD hS hA rfl (c_X2_joining l D cI tys ht (q_sub 16 a) (q_sub 16 s7) x1 x2) gX7_link_X2_joining rfl ⟨rfl, rfl⟩ i_X2_joining ⟨Nat.le_of_ble_eq_true rfl, Nat.le_of_ble_eq_true rfl⟩ (fr_V_L_16 cI cO a s7) (g_L_0 cI (q_sub 16 a) (q_sub 16 s7)) rfl rfl (Nat.le_of_ble_eq_true rfl) ⟨Nat.zero_le _, Nat.zero_le _⟩ dX7_link_43 h (fun x14 H locs s13 hP hS h => ?_)
            refine lv_if_lt (tgt := 52) hx hb dX7_link_46 (by decide) (fun c15 => ?_) (fun c15 => ?_)
            · have h := if_t c15 h
              refine lv_aload_n hx hb dX7_link_52 rfl (lv_at hl 0 rfl) ?_
              refine x_getr (C := RX7) (k := 0) hx hb hts u_X7_link_7 hown hK hP (g_V_0 cI cO a s13) rfl (by decide) ⟨rfl, rfl, rfl⟩ k_X7_link_f12 rfl dX7_link_53 ?_
              refine x_getr (C := RX3) (k := 2) hx hb hts u_X7_link_3 hown hK hP (g_V_1 cI cO a s13) rfl (by decide) ⟨rfl, rfl, rfl⟩ k_X7_link_f65 rfl dX7_link_56 ?_
              refine x_geti (C := RX2) (k := 5) hx hb hts u_X7_link_2 hown hK hP (g_V_16 cI cO a s13) rfl (by decide) ⟨rfl, rfl, rfl⟩ k_X7_link_f75 rfl dX7_link_59 h (fun x16 h => ?_)
              refine lv_bipush (v := 24) hx hb dX7_link_62 (by decide +kernel) ?_
              refine lv_icmp_lt (tgt := 70) hx hb dX7_link_64 (by decide) (fun c17 => ?_) (fun c17 => ?_)
              · have h := if_t c17 h
                refine lv_aload_n hx hb dX7_link_70 rfl (lv_at hl 0 rfl) ?_
                refine x_getr (C := RX7) (k := 0) hx hb hts u_X7_link_7 hown hK hP (g_V_0 cI cO a s13) rfl (by decide) ⟨rfl, rfl, rfl⟩ k_X7_link_f12 rfl dX7_link_71 ?_
                refine x_getr (C := RX3) (k := 2) hx hb hts u_X7_link_3 hown hK hP (g_V_1 cI cO a s13) rfl (by decide) ⟨rfl, rfl, rfl⟩ k_X7_link_f65 rfl dX7_link_74 ?_
                refine lv_iload_n hx hb dX7_link_77 rfl (lv_at hl 1 rfl) ?_
                refine lv_iload_n hx hb dX7_link_78 rfl (lv_at hl 2 rfl) ?_
                refine lv_iload_n hx hb dX7_link_79 rfl (lv_at hl 3 rfl) ?_
                refine x_cVi (p_V cI cO a) (p_L cI (q_sub 16 a)) (q_put 16 6 s13) [] [.int x1, .int x2, .int x3] hx hb hml hl.1 hown hts hK hP hD hS hA rfl (c_X2_add l D cI tys ht (q_sub 16 a) (q_sub 16 s13) x1 x2 x3) gX7_link_X2_add rfl ⟨rfl, rfl⟩ i_X2_add ⟨Nat.le_of_ble_eq_true rfl, Nat.le_of_ble_eq_true rfl⟩ (fr_V_L_16 cI cO a s13) (g_L_0 cI (q_sub 16 a) (q_sub 16 s13)) rfl rfl (Nat.le_of_ble_eq_true rfl) ⟨Nat.zero_le _, Nat.zero_le _⟩ dX7_link_80 h (fun x19 H locs s18 hP hS h => ?_)
                exact x_iret (p_V cI cO a) hx hb hr hlocks hP hS dX7_link_83 h
              · have h := if_f c17 h
                refine lv_bipush (v := (-3)) hx hb dX7_link_67 (by decide +kernel) ?_
                exact x_iret (p_V cI cO a) hx hb hr hlocks hP hS dX7_link_69 h
            · have h := if_f c15 h
              refine lv_bipush (v := (-5)) hx hb dX7_link_49 (by decide +kernel) ?_
              exact x_iret (p_V cI cO a) hx hb hr hlocks hP hS dX7_link_51 h
          · have h := if_f c12 h
            refine lv_iconst (v := (-1)) hx hb dX7_link_32 (by decide +kernel) ?_
            exact x_iret (p_V cI cO a) hx hb hr hlocks hP hS dX7_link_33 h
/-! ===== VectorRounds.turn(II)I: world V ===== -/
theorem i_X7_turn : yX7_turn.cls = RX7 ∧ yX7_turn.cls ≠ "java/lang/invoke/MethodHandle" ∧ yX7_turn.cls ≠ "java/lang/invoke/VarHandle" ∧ (parseMethodDescriptor yX7_turn.desc).map (fun d => d.parameters.length) = some 2 := by decide +kernel
theorem k_X7_turn_f12 : Cond.fieldLink RX7 12 RX7 "now" "LVectorRounds$Network;" ∈ wsX7_turn := by decide +kernel
theorem k_X7_turn_f65 : Cond.fieldLink RX7 65 RX3 "links" "LVectorRounds$Links;" ∈ wsX7_turn := by decide +kernel
theorem k_X7_turn_f85 : Cond.fieldLink RX7 85 RX2 "up" "[I" ∈ wsX7_turn := by decide +kernel
theorem u_X7_turn_2 : ∀ w ∈ u_ws RX2 TX2 6, w ∈ wsX7_turn := by decide +kernel
theorem u_X7_turn_3 : ∀ w ∈ u_ws RX3 TX3 9, w ∈ wsX7_turn := by decide +kernel
theorem u_X7_turn_7 : ∀ w ∈ u_ws RX7 TX7 9, w ∈ wsX7_turn := by decide +kernel
set_option maxHeartbeats 4000000 in
set_option maxRecDepth 100000 in
theorem c_X7_turn (l : Launch) (D : va_G) (cI cO : ClassId) (tys : List (ClassId × FieldType)) (ht : tys[0]? = some (cI, .int)) (ht1 : tys[1]? = some (cO, .object "VectorRounds$Holder")) (a : Nat → Nat) (σ : qM) (x1 : Int32) (x2 : Int32) : q_Met l yX7_turn wsX7_turn ({ frames := 3, cells := 0, slots := 0, locals := 68 }) [.ref (a 0), .int x1, .int x2] D tys (p_V cI cO a) σ (f_X7_turn σ x1 x2) := by
  refine x_ofWi (cc := cX7_turn) (maxL := 3) (ret := (some .int)) (by decide +kernel) rfl (pf_V cI cO a) (Nat.le_of_ble_eq_true rfl) ?_
  intro p e s m below meth c A ls qq h hx hb hml hr hlocks hown hts hK hP hD hA hS hl
  have hown : s.vm.findClass RX7 = some m.cls := hown
  have hl : lv_has ls 3 [(0, .ref (a 0)), (1, .int x1), (2, .int x2)] := hl
  unfold f_X7_turn at h
  refine lv_aload_n hx hb dX7_turn_0 rfl (lv_at hl 0 rfl) ?_
  refine lv_iload_n hx hb dX7_turn_1 rfl (lv_at hl 1 rfl) ?_
  refine x_cVi (p_V cI cO a) (p_V cI cO a) (fun τ => τ) [] [.int x1] hx hb hml hl.1 hown hts hK hP hD hS hA rfl (c_X7_noLink l D cI cO tys ht ht1 a σ x1) gX7_turn_X7_noLink rfl ⟨rfl, rfl⟩ i_X7_noLink ⟨Nat.le_of_ble_eq_true rfl, Nat.le_of_ble_eq_true rfl⟩ q_frI (g_V_0 cI cO a σ) rfl rfl (Nat.le_of_ble_eq_true rfl) ⟨Nat.zero_le _, Nat.zero_le _⟩ dX7_turn_2 h (fun x4 H locs s3 hP hS h => ?_)
  refine lv_if_ne (tgt := 17) hx hb dX7_turn_5 (by decide) (fun c5 => ?_) (fun c5 => ?_)
  · have h := if_f c5 h
    refine lv_iconst (v := (-1)) hx hb dX7_turn_17 (by decide +kernel) ?_
    exact x_iret (p_V cI cO a) hx hb hr hlocks hP hS dX7_turn_18 h
  · have h := if_t c5 h
    refine lv_iload_n hx hb dX7_turn_8 rfl (lv_at hl 2 rfl) ?_
    refine lv_if_lt (tgt := 17) hx hb dX7_turn_9 (by decide) (fun c6 => ?_) (fun c6 => ?_)
    · have h := if_t c6 h
      refine lv_iconst (v := (-1)) hx hb dX7_turn_17 (by decide +kernel) ?_
      exact x_iret (p_V cI cO a) hx hb hr hlocks hP hS dX7_turn_18 h
    · have h := if_f c6 h
      refine lv_iload_n hx hb dX7_turn_12 rfl (lv_at hl 2 rfl) ?_
      refine lv_iconst (v := 1) hx hb dX7_turn_13 (by decide +kernel) ?_
      refine lv_icmp_le (tgt := 19) hx hb dX7_turn_14 (by decide) (fun c7 => ?_) (fun c7 => ?_)
      · have h := if_t c7 h
        refine lv_aload_n hx hb dX7_turn_19 rfl (lv_at hl 0 rfl) ?_
        refine x_getr (C := RX7) (k := 0) hx hb hts u_X7_turn_7 hown hK hP (g_V_0 cI cO a s3) rfl (by decide) ⟨rfl, rfl, rfl⟩ k_X7_turn_f12 rfl dX7_turn_20 ?_
        refine x_getr (C := RX3) (k := 2) hx hb hts u_X7_turn_3 hown hK hP (g_V_1 cI cO a s3) rfl (by decide) ⟨rfl, rfl, rfl⟩ k_X7_turn_f65 rfl dX7_turn_23 ?_
        refine x_getr (C := RX2) (k := 3) hx hb hts u_X7_turn_2 hown hK hP (g_V_16 cI cO a s3) rfl (by decide) ⟨rfl, rfl, rfl⟩ k_X7_turn_f85 rfl dX7_turn_26 ?_
        refine lv_iload_n hx hb dX7_turn_29 rfl (lv_at hl 1 rfl) ?_
        refine x_iald (t0 := 0) hx hb hK hP ht h (g_V_20 cI cO a s3) dX7_turn_30 (fun x8 h => ?_)
        refine lv_iload_n hx hb dX7_turn_31 rfl (lv_at hl 2 rfl) ?_
        refine lv_icmp_ne (tgt := 38) hx hb dX7_turn_32 (by decide) (fun c9 => ?_) (fun c9 => ?_)
        · have h := if_f c9 h
          refine lv_aload_n hx hb dX7_turn_38 rfl (lv_at hl 0 rfl) ?_
          refine x_getr (C := RX7) (k := 0) hx hb hts u_X7_turn_7 hown hK hP (g_V_0 cI cO a s3) rfl (by decide) ⟨rfl, rfl, rfl⟩ k_X7_turn_f12 rfl dX7_turn_39 ?_
          refine lv_iload_n hx hb dX7_turn_42 rfl (lv_at hl 1 rfl) ?_
          refine x_cVv (p_V cI cO a) (p_N cI (q_sub 1 a)) (q_put 1 21 s3) [] [.int x1] hx hb hml hl.1 hown hts hK hP hD hS hA rfl (c_X3_switchLink l D cI tys ht (q_sub 1 a) (q_sub 1 s3) x1) gX7_turn_X3_switchLink rfl ⟨rfl, rfl⟩ i_X3_switchLink ⟨Nat.le_of_ble_eq_true rfl, Nat.le_of_ble_eq_true rfl⟩ (fr_V_N_1 cI cO a s3) (g_N_0 cI (q_sub 1 a) (q_sub 1 s3)) rfl rfl (Nat.le_of_ble_eq_true rfl) ⟨Nat.zero_le _, Nat.zero_le _⟩ dX7_turn_43 h (fun H locs s10 hP hS h => ?_)
          refine lv_iconst (v := 1) hx hb dX7_turn_46 (by decide +kernel) ?_
          exact x_iret (p_V cI cO a) hx hb hr hlocks hP hS dX7_turn_47 h
        · have h := if_t c9 h
          refine lv_bipush (v := (-5)) hx hb dX7_turn_35 (by decide +kernel) ?_
          exact x_iret (p_V cI cO a) hx hb hr hlocks hP hS dX7_turn_37 h
      · have h := if_f c7 h
        refine lv_iconst (v := (-1)) hx hb dX7_turn_17 (by decide +kernel) ?_
        exact x_iret (p_V cI cO a) hx hb hr hlocks hP hS dX7_turn_18 h
/-! ===== VectorRounds.cost(II)I: world V ===== -/
theorem i_X7_cost : yX7_cost.cls = RX7 ∧ yX7_cost.cls ≠ "java/lang/invoke/MethodHandle" ∧ yX7_cost.cls ≠ "java/lang/invoke/VarHandle" ∧ (parseMethodDescriptor yX7_cost.desc).map (fun d => d.parameters.length) = some 2 := by decide +kernel
theorem k_X7_cost_f12 : Cond.fieldLink RX7 12 RX7 "now" "LVectorRounds$Network;" ∈ wsX7_cost := by decide +kernel
theorem k_X7_cost_f65 : Cond.fieldLink RX7 65 RX3 "links" "LVectorRounds$Links;" ∈ wsX7_cost := by decide +kernel
theorem k_X7_cost_f93 : Cond.fieldLink RX7 93 RX2 "price" "[I" ∈ wsX7_cost := by decide +kernel
theorem u_X7_cost_2 : ∀ w ∈ u_ws RX2 TX2 6, w ∈ wsX7_cost := by decide +kernel
theorem u_X7_cost_3 : ∀ w ∈ u_ws RX3 TX3 9, w ∈ wsX7_cost := by decide +kernel
theorem u_X7_cost_7 : ∀ w ∈ u_ws RX7 TX7 9, w ∈ wsX7_cost := by decide +kernel
set_option maxHeartbeats 4000000 in
set_option maxRecDepth 100000 in
theorem c_X7_cost (l : Launch) (D : va_G) (cI cO : ClassId) (tys : List (ClassId × FieldType)) (ht : tys[0]? = some (cI, .int)) (ht1 : tys[1]? = some (cO, .object "VectorRounds$Holder")) (a : Nat → Nat) (σ : qM) (x1 : Int32) (x2 : Int32) : q_Met l yX7_cost wsX7_cost ({ frames := 1, cells := 0, slots := 0, locals := 21 }) [.ref (a 0), .int x1, .int x2] D tys (p_V cI cO a) σ (f_X7_cost σ x1 x2) := by
  refine x_ofWi (cc := cX7_cost) (maxL := 4) (ret := (some .int)) (by decide +kernel) rfl (pf_V cI cO a) (Nat.le_of_ble_eq_true rfl) ?_
  intro p e s m below meth c A ls qq h hx hb hml hr hlocks hown hts hK hP hD hA hS hl
  have hown : s.vm.findClass RX7 = some m.cls := hown
  have hl : lv_has ls 4 [(0, .ref (a 0)), (1, .int x1), (2, .int x2)] := hl
  unfold f_X7_cost at h
  refine lv_aload_n hx hb dX7_cost_0 rfl (lv_at hl 0 rfl) ?_
  refine lv_iload_n hx hb dX7_cost_1 rfl (lv_at hl 1 rfl) ?_
  refine x_cVi (p_V cI cO a) (p_V cI cO a) (fun τ => τ) [] [.int x1] hx hb hml hl.1 hown hts hK hP hD hS hA rfl (c_X7_noLink l D cI cO tys ht ht1 a σ x1) gX7_cost_X7_noLink rfl ⟨rfl, rfl⟩ i_X7_noLink ⟨Nat.le_of_ble_eq_true rfl, Nat.le_of_ble_eq_true rfl⟩ q_frI (g_V_0 cI cO a σ) rfl rfl (Nat.le_of_ble_eq_true rfl) ⟨Nat.zero_le _, Nat.zero_le _⟩ dX7_cost_2 h (fun x4 H locs s3 hP hS h => ?_)
  refine lv_if_ne (tgt := 19) hx hb dX7_cost_5 (by decide) (fun c5 => ?_) (fun c5 => ?_)
  · have h := if_f c5 h
    refine lv_iconst (v := (-1)) hx hb dX7_cost_19 (by decide +kernel) ?_
    exact x_iret (p_V cI cO a) hx hb hr hlocks hP hS dX7_cost_20 h
  · have h := if_t c5 h
    refine lv_iload_n hx hb dX7_cost_8 rfl (lv_at hl 2 rfl) ?_
    refine lv_iconst (v := 1) hx hb dX7_cost_9 (by decide +kernel) ?_
    refine lv_icmp_lt (tgt := 19) hx hb dX7_cost_10 (by decide) (fun c6 => ?_) (fun c6 => ?_)
    · have h := if_t c6 h
      refine lv_iconst (v := (-1)) hx hb dX7_cost_19 (by decide +kernel) ?_
      exact x_iret (p_V cI cO a) hx hb hr hlocks hP hS dX7_cost_20 h
    · have h := if_f c6 h
      refine lv_iload_n hx hb dX7_cost_13 rfl (lv_at hl 2 rfl) ?_
      refine lv_bipush (v := 15) hx hb dX7_cost_14 (by decide +kernel) ?_
      refine lv_icmp_le (tgt := 21) hx hb dX7_cost_16 (by decide) (fun c7 => ?_) (fun c7 => ?_)
      · have h := if_t c7 h
        refine lv_aload_n hx hb dX7_cost_21 rfl (lv_at hl 0 rfl) ?_
        refine x_getr (C := RX7) (k := 0) hx hb hts u_X7_cost_7 hown hK hP (g_V_0 cI cO a s3) rfl (by decide) ⟨rfl, rfl, rfl⟩ k_X7_cost_f12 rfl dX7_cost_22 ?_
        refine x_getr (C := RX3) (k := 2) hx hb hts u_X7_cost_3 hown hK hP (g_V_1 cI cO a s3) rfl (by decide) ⟨rfl, rfl, rfl⟩ k_X7_cost_f65 rfl dX7_cost_25 ?_
        refine x_getr (C := RX2) (k := 2) hx hb hts u_X7_cost_2 hown hK hP (g_V_16 cI cO a s3) rfl (by decide) ⟨rfl, rfl, rfl⟩ k_X7_cost_f93 rfl dX7_cost_28 ?_
        refine lv_iload_n hx hb dX7_cost_31 rfl (lv_at hl 1 rfl) ?_
        refine x_iald (t0 := 0) hx hb hK hP ht h (g_V_19 cI cO a s3) dX7_cost_32 (fun x8 h => ?_)
        refine lv_istore_n (lv' := [(3, .int x8), (0, .ref (a 0)), (1, .int x1), (2, .int x2)]) hx hb dX7_cost_33 rfl hl (by decide) rfl (fun ls hl => ?_)
        refine lv_aload_n hx hb dX7_cost_34 rfl (lv_at hl 1 rfl) ?_
        refine x_getr (C := RX7) (k := 0) hx hb hts u_X7_cost_7 hown hK hP (g_V_0 cI cO a s3) rfl (by decide) ⟨rfl, rfl, rfl⟩ k_X7_cost_f12 rfl dX7_cost_35 ?_
        refine x_getr (C := RX3) (k := 2) hx hb hts u_X7_cost_3 hown hK hP (g_V_1 cI cO a s3) rfl (by decide) ⟨rfl, rfl, rfl⟩ k_X7_cost_f65 rfl dX7_cost_38 ?_
        refine x_getr (C := RX2) (k := 2) hx hb hts u_X7_cost_2 hown hK hP (g_V_16 cI cO a s3) rfl (by decide) ⟨rfl, rfl, rfl⟩ k_X7_cost_f93 rfl dX7_cost_41 ?_
        refine lv_iload_n hx hb dX7_cost_44 rfl (lv_at hl 2 rfl) ?_
        refine lv_iload_n hx hb dX7_cost_45 rfl (lv_at hl 3 rfl) ?_
        refine x_iast (p_V cI cO a) (t0 := 0) hx hb hK hP hD hS ht h (g_V_19 cI cO a s3) (fun j9 v9 => (s_V_19 cI cO a s3 _)) dX7_cost_46 (fun H locs s9 hP hS h => ?_)
        refine lv_iload_n hx hb dX7_cost_47 rfl (lv_at hl 0 rfl) ?_
        exact x_iret (p_V cI cO a) hx hb hr hlocks hP hS dX7_cost_48 h
      · have h := if_f c7 h
        refine lv_iconst (v := (-1)) hx hb dX7_cost_19 (by decide +kernel) ?_
        exact x_iret (p_V cI cO a) hx hb hr hlocks hP hS dX7_cost_20 h
/-! ===== VectorRounds.rule(II)I: world V ===== -/
theorem i_X7_rule : yX7_rule.cls = RX7 ∧ yX7_rule.cls ≠ "java/lang/invoke/MethodHandle" ∧ yX7_rule.cls ≠ "java/lang/invoke/VarHandle" ∧ (parseMethodDescriptor yX7_rule.desc).map (fun d => d.parameters.length) = some 2 := by decide +kernel
theorem k_X7_rule_f100 : Cond.fieldLink RX7 100 RX3 "horizon" "I" ∈ wsX7_rule := by decide +kernel
theorem k_X7_rule_f103 : Cond.fieldLink RX7 103 RX3 "sequenced" "I" ∈ wsX7_rule := by decide +kernel
theorem k_X7_rule_f106 : Cond.fieldLink RX7 106 RX3 "holdDown" "I" ∈ wsX7_rule := by decide +kernel
theorem k_X7_rule_f12 : Cond.fieldLink RX7 12 RX7 "now" "LVectorRounds$Network;" ∈ wsX7_rule := by decide +kernel
theorem u_X7_rule_3 : ∀ w ∈ u_ws RX3 TX3 9, w ∈ wsX7_rule := by decide +kernel
theorem u_X7_rule_7 : ∀ w ∈ u_ws RX7 TX7 9, w ∈ wsX7_rule := by decide +kernel
set_option maxHeartbeats 4000000 in
set_option maxRecDepth 100000 in
theorem c_X7_rule (l : Launch) (D : va_G) (cI cO : ClassId) (tys : List (ClassId × FieldType)) (ht : tys[0]? = some (cI, .int)) (ht1 : tys[1]? = some (cO, .object "VectorRounds$Holder")) (a : Nat → Nat) (σ : qM) (x1 : Int32) (x2 : Int32) : q_Met l yX7_rule wsX7_rule ({ frames := 1, cells := 0, slots := 0, locals := 20 }) [.ref (a 0), .int x1, .int x2] D tys (p_V cI cO a) σ (f_X7_rule σ x1 x2) := by
  refine x_ofWi (cc := cX7_rule) (maxL := 4) (ret := (some .int)) (by decide +kernel) rfl (pf_V cI cO a) (Nat.le_of_ble_eq_true rfl) ?_
  intro p e s m below meth c A ls qq h hx hb hml hr hlocks hown hts hK hP hD hA hS hl
  have hown : s.vm.findClass RX7 = some m.cls := hown
  have hl : lv_has ls 4 [(0, .ref (a 0)), (1, .int x1), (2, .int x2)] := hl
  unfold f_X7_rule at h
  refine lv_iload_n hx hb dX7_rule_0 rfl (lv_at hl 1 rfl) ?_
  refine lv_if_lt (tgt := 21) hx hb dX7_rule_1 (by decide) (fun c3 => ?_) (fun c3 => ?_)
  · have h := if_t c3 h
    refine lv_iconst (v := (-1)) hx hb dX7_rule_21 (by decide +kernel) ?_
    exact x_iret (p_V cI cO a) hx hb hr hlocks hP hS dX7_rule_22 h
  · have h := if_f c3 h
    refine lv_iload_n hx hb dX7_rule_4 rfl (lv_at hl 1 rfl) ?_
    refine lv_iconst (v := 2) hx hb dX7_rule_5 (by decide +kernel) ?_
    refine lv_icmp_gt (tgt := 21) hx hb dX7_rule_6 (by decide) (fun c4 => ?_) (fun c4 => ?_)
    · have h := if_t c4 h
      refine lv_iconst (v := (-1)) hx hb dX7_rule_21 (by decide +kernel) ?_
      exact x_iret (p_V cI cO a) hx hb hr hlocks hP hS dX7_rule_22 h
    · have h := if_f c4 h
      refine lv_iload_n hx hb dX7_rule_9 rfl (lv_at hl 2 rfl) ?_
      refine lv_if_lt (tgt := 21) hx hb dX7_rule_10 (by decide) (fun c5 => ?_) (fun c5 => ?_)
      · have h := if_t c5 h
        refine lv_iconst (v := (-1)) hx hb dX7_rule_21 (by decide +kernel) ?_
        exact x_iret (p_V cI cO a) hx hb hr hlocks hP hS dX7_rule_22 h
      · have h := if_f c5 h
        refine lv_iload_n hx hb dX7_rule_13 rfl (lv_at hl 2 rfl) ?_
        refine lv_iload_n hx hb dX7_rule_14 rfl (lv_at hl 1 rfl) ?_
        refine x_cSi (p_V cI cO a) (fun _ => []) (fun _ => σ) [.int x2] [.int x1] hx hb hml hl.1 hown hts hK hP hD hS hA rfl (c_X7_mostOfRule l D cI tys ht σ x1) gX7_rule_X7_mostOfRule rfl ⟨rfl, rfl⟩ i_X7_mostOfRule ⟨Nat.le_of_ble_eq_true rfl, Nat.le_of_ble_eq_true rfl⟩ (q_fr0 (fun _ => rfl)) rfl (Nat.le_of_ble_eq_true rfl) ⟨Nat.zero_le _, Nat.zero_le _⟩ dX7_rule_15 h (fun x7 H locs s6 hP hS h => ?_)
        refine lv_icmp_le (tgt := 23) hx hb dX7_rule_18 (by decide) (fun c8 => ?_) (fun c8 => ?_)
        · have h := if_t c8 h
          refine lv_iload_n hx hb dX7_rule_23 rfl (lv_at hl 1 rfl) ?_
          refine lv_if_ne (tgt := 46) hx hb dX7_rule_24 (by decide) (fun c9 => ?_) (fun c9 => ?_)
          · have h := if_f c9 h
            refine lv_iload_n hx hb dX7_rule_46 rfl (lv_at hl 1 rfl) ?_
            refine lv_iconst (v := 1) hx hb dX7_rule_47 (by decide +kernel) ?_
            refine lv_icmp_ne (tgt := 70) hx hb dX7_rule_48 (by decide) (fun c10 => ?_) (fun c10 => ?_)
            · have h := if_f c10 h
              refine lv_aload_n hx hb dX7_rule_70 rfl (lv_at hl 0 rfl) ?_
              refine x_getr (C := RX7) (k := 0) hx hb hts u_X7_rule_7 hown hK hP (g_V_0 cI cO a s6) rfl (by decide) ⟨rfl, rfl, rfl⟩ k_X7_rule_f12 rfl dX7_rule_71 ?_
              refine x_geti (C := RX3) (k := 6) hx hb hts u_X7_rule_3 hown hK hP (g_V_1 cI cO a s6) rfl (by decide) ⟨rfl, rfl, rfl⟩ k_X7_rule_f106 rfl dX7_rule_74 h (fun x11 h => ?_)
              refine lv_istore_n (lv' := [(3, .int x11), (0, .ref (a 0)), (1, .int x1), (2, .int x2)]) hx hb dX7_rule_77 rfl hl (by decide) rfl (fun ls hl => ?_)
              refine lv_aload_n hx hb dX7_rule_78 rfl (lv_at hl 1 rfl) ?_
              refine x_getr (C := RX7) (k := 0) hx hb hts u_X7_rule_7 hown hK hP (g_V_0 cI cO a s6) rfl (by decide) ⟨rfl, rfl, rfl⟩ k_X7_rule_f12 rfl dX7_rule_79 ?_
              refine lv_iload_n hx hb dX7_rule_82 rfl (lv_at hl 3 rfl) ?_
              refine x_puti (p_V cI cO a) (C := RX3) (k := 6) hx hb hts u_X7_rule_3 tyX3 tyX3_ok nmX3 hown hK hP hD hS h (g_V_1 cI cO a s6) rfl (by decide) ⟨rfl, rfl, rfl⟩ k_X7_rule_f106 rfl rfl rfl rfl (Nat.le_of_ble_eq_true rfl) (s_V_1_6 cI cO a s6 x2) dX7_rule_83 (fun H locs s12 hP hS h => ?_)
              refine lv_iload_n hx hb dX7_rule_86 rfl (lv_at hl 0 rfl) ?_
              exact x_iret (p_V cI cO a) hx hb hr hlocks hP hS dX7_rule_87 h
            · have h := if_t c10 h
              refine lv_aload_n hx hb dX7_rule_51 rfl (lv_at hl 0 rfl) ?_
              refine x_getr (C := RX7) (k := 0) hx hb hts u_X7_rule_7 hown hK hP (g_V_0 cI cO a s6) rfl (by decide) ⟨rfl, rfl, rfl⟩ k_X7_rule_f12 rfl dX7_rule_52 ?_
              refine x_geti (C := RX3) (k := 5) hx hb hts u_X7_rule_3 hown hK hP (g_V_1 cI cO a s6) rfl (by decide) ⟨rfl, rfl, rfl⟩ k_X7_rule_f103 rfl dX7_rule_55 h (fun x13 h => ?_)
              refine lv_istore_n (lv' := [(3, .int x13), (0, .ref (a 0)), (1, .int x1), (2, .int x2)]) hx hb dX7_rule_58 rfl hl (by decide) rfl (fun ls hl => ?_)
              refine lv_aload_n hx hb dX7_rule_59 rfl (lv_at hl 1 rfl) ?_
              refine x_getr (C := RX7) (k := 0) hx hb hts u_X7_rule_7 hown hK hP (g_V_0 cI cO a s6) rfl (by decide) ⟨rfl, rfl, rfl⟩ k_X7_rule_f12 rfl dX7_rule_60 ?_
              refine lv_iload_n hx hb dX7_rule_63 rfl (lv_at hl 3 rfl) ?_
              refine x_puti (p_V cI cO a) (C := RX3) (k := 5) hx hb hts u_X7_rule_3 tyX3 tyX3_ok nmX3 hown hK hP hD hS h (g_V_1 cI cO a s6) rfl (by decide) ⟨rfl, rfl, rfl⟩ k_X7_rule_f103 rfl rfl rfl rfl (Nat.le_of_ble_eq_true rfl) (s_V_1_5 cI cO a s6 x2) dX7_rule_64 (fun H locs s14 hP hS h => ?_)
              refine lv_goto (tgt := 86) hx hb dX7_rule_67 (by decide) ?_
              refine lv_iload_n hx hb dX7_rule_86 rfl (lv_at hl 0 rfl) ?_
              exact x_iret (p_V cI cO a) hx hb hr hlocks hP hS dX7_rule_87 h
          · have h := if_t c9 h
            refine lv_aload_n hx hb dX7_rule_27 rfl (lv_at hl 0 rfl) ?_
            refine x_getr (C := RX7) (k := 0) hx hb hts u_X7_rule_7 hown hK hP (g_V_0 cI cO a s6) rfl (by decide) ⟨rfl, rfl, rfl⟩ k_X7_rule_f12 rfl dX7_rule_28 ?_
            refine x_geti (C := RX3) (k := 4) hx hb hts u_X7_rule_3 hown hK hP (g_V_1 cI cO a s6) rfl (by decide) ⟨rfl, rfl, rfl⟩ k_X7_rule_f100 rfl dX7_rule_31 h (fun x15 h => ?_)
            refine lv_istore_n (lv' := [(3, .int x15), (0, .ref (a 0)), (1, .int x1), (2, .int x2)]) hx hb dX7_rule_34 rfl hl (by decide) rfl (fun ls hl => ?_)
            refine lv_aload_n hx hb dX7_rule_35 rfl (lv_at hl 1 rfl) ?_
            refine x_getr (C := RX7) (k := 0) hx hb hts u_X7_rule_7 hown hK hP (g_V_0 cI cO a s6) rfl (by decide) ⟨rfl, rfl, rfl⟩ k_X7_rule_f12 rfl dX7_rule_36 ?_
            refine lv_iload_n hx hb dX7_rule_39 rfl (lv_at hl 3 rfl) ?_
            refine x_puti (p_V cI cO a) (C := RX3) (k := 4) hx hb hts u_X7_rule_3 tyX3 tyX3_ok nmX3 hown hK hP hD hS h (g_V_1 cI cO a s6) rfl (by decide) ⟨rfl, rfl, rfl⟩ k_X7_rule_f100 rfl rfl rfl rfl (Nat.le_of_ble_eq_true rfl) (s_V_1_4 cI cO a s6 x2) dX7_rule_40 (fun H locs s16 hP hS h => ?_)
            refine lv_goto (tgt := 86) hx hb dX7_rule_43 (by decide) ?_
            refine lv_iload_n hx hb dX7_rule_86 rfl (lv_at hl 0 rfl) ?_
            exact x_iret (p_V cI cO a) hx hb hr hlocks hP hS dX7_rule_87 h
        · have h := if_f c8 h
          refine lv_iconst (v := (-1)) hx hb dX7_rule_21 (by decide +kernel) ?_
          exact x_iret (p_V cI cO a) hx hb hr hlocks hP hS dX7_rule_22 h
/-! ===== VectorRounds.of(II)I: world V ===== -/
theorem i_X7_of : yX7_of.cls = RX7 ∧ yX7_of.cls ≠ "java/lang/invoke/MethodHandle" ∧ yX7_of.cls ≠ "java/lang/invoke/VarHandle" ∧ (parseMethodDescriptor yX7_of.desc).map (fun d => d.parameters.length) = some 2 := by decide +kernel
theorem k_X7_of_f109 : Cond.fieldLink RX7 109 RX2 "lesser" "[I" ∈ wsX7_of := by decide +kernel
theorem k_X7_of_f112 : Cond.fieldLink RX7 112 RX2 "greater" "[I" ∈ wsX7_of := by decide +kernel
theorem k_X7_of_f12 : Cond.fieldLink RX7 12 RX7 "now" "LVectorRounds$Network;" ∈ wsX7_of := by decide +kernel
theorem k_X7_of_f65 : Cond.fieldLink RX7 65 RX3 "links" "LVectorRounds$Links;" ∈ wsX7_of := by decide +kernel
theorem k_X7_of_f85 : Cond.fieldLink RX7 85 RX2 "up" "[I" ∈ wsX7_of := by decide +kernel
theorem k_X7_of_f93 : Cond.fieldLink RX7 93 RX2 "price" "[I" ∈ wsX7_of := by decide +kernel
theorem u_X7_of_2 : ∀ w ∈ u_ws RX2 TX2 6, w ∈ wsX7_of := by decide +kernel
theorem u_X7_of_3 : ∀ w ∈ u_ws RX3 TX3 9, w ∈ wsX7_of := by decide +kernel
theorem u_X7_of_7 : ∀ w ∈ u_ws RX7 TX7 9, w ∈ wsX7_of := by decide +kernel
set_option maxHeartbeats 4000000 in
set_option maxRecDepth 100000 in
theorem c_X7_of (l : Launch) (D : va_G) (cI cO : ClassId) (tys : List (ClassId × FieldType)) (ht : tys[0]? = some (cI, .int)) (ht1 : tys[1]? = some (cO, .object "VectorRounds$Holder")) (a : Nat → Nat) (σ : qM) (x1 : Int32) (x2 : Int32) : q_Met l yX7_of wsX7_of ({ frames := 1, cells := 0, slots := 0, locals := 21 }) [.ref (a 0), .int x1, .int x2] D tys (p_V cI cO a) σ (f_X7_of σ x1 x2) := by
  refine x_ofWi (cc := cX7_of) (maxL := 3) (ret := (some .int)) (by decide +kernel) rfl (pf_V cI cO a) (Nat.le_of_ble_eq_true rfl) ?_
  intro p e s m below meth c A ls qq h hx hb hml hr hlocks hown hts hK hP hD hA hS hl
  have hown : s.vm.findClass RX7 = some m.cls := hown
  have hl : lv_has ls 3 [(0, .ref (a 0)), (1, .int x1), (2, .int x2)] := hl
  unfold f_X7_of at h
  refine lv_aload_n hx hb dX7_of_0 rfl (lv_at hl 0 rfl) ?_
  refine lv_iload_n hx hb dX7_of_1 rfl (lv_at hl 1 rfl) ?_
  refine x_cVi (p_V cI cO a) (p_V cI cO a) (fun τ => τ) [] [.int x1] hx hb hml hl.1 hown hts hK hP hD hS hA rfl (c_X7_noLink l D cI cO tys ht ht1 a σ x1) gX7_of_X7_noLink rfl ⟨rfl, rfl⟩ i_X7_noLink ⟨Nat.le_of_ble_eq_true rfl, Nat.le_of_ble_eq_true rfl⟩ q_frI (g_V_0 cI cO a σ) rfl rfl (Nat.le_of_ble_eq_true rfl) ⟨Nat.zero_le _, Nat.zero_le _⟩ dX7_of_2 h (fun x4 H locs s3 hP hS h => ?_)
  refine lv_if_eq (tgt := 10) hx hb dX7_of_5 (by decide) (fun c5 => ?_) (fun c5 => ?_)
  · have h := if_t c5 h
    refine lv_iload_n hx hb dX7_of_10 rfl (lv_at hl 2 rfl) ?_
    by_cases c6 : x2 = 0
    · have h := if_t c6 h
      refine x_tsw_in (v := 0) (off := 29) (tgt := 40) hx hb dX7_of_11 c6 (by decide +kernel) ?_
      refine lv_aload_n hx hb dX7_of_40 rfl (lv_at hl 0 rfl) ?_
      refine x_getr (C := RX7) (k := 0) hx hb hts u_X7_of_7 hown hK hP (g_V_0 cI cO a s3) rfl (by decide) ⟨rfl, rfl, rfl⟩ k_X7_of_f12 rfl dX7_of_41 ?_
      refine x_getr (C := RX3) (k := 2) hx hb hts u_X7_of_3 hown hK hP (g_V_1 cI cO a s3) rfl (by decide) ⟨rfl, rfl, rfl⟩ k_X7_of_f65 rfl dX7_of_44 ?_
      refine x_getr (C := RX2) (k := 0) hx hb hts u_X7_of_2 hown hK hP (g_V_16 cI cO a s3) rfl (by decide) ⟨rfl, rfl, rfl⟩ k_X7_of_f109 rfl dX7_of_47 ?_
      refine lv_iload_n hx hb dX7_of_50 rfl (lv_at hl 1 rfl) ?_
      refine x_iald (t0 := 0) hx hb hK hP ht h (g_V_17 cI cO a s3) dX7_of_51 (fun x7 h => ?_)
      exact x_iret (p_V cI cO a) hx hb hr hlocks hP hS dX7_of_52 h
    have h := if_f c6 h
    by_cases c8 : x2 = 1
    · have h := if_t c8 h
      refine x_tsw_in (v := 1) (off := 42) (tgt := 53) hx hb dX7_of_11 c8 (by decide +kernel) ?_
      refine lv_aload_n hx hb dX7_of_53 rfl (lv_at hl 0 rfl) ?_
      refine x_getr (C := RX7) (k := 0) hx hb hts u_X7_of_7 hown hK hP (g_V_0 cI cO a s3) rfl (by decide) ⟨rfl, rfl, rfl⟩ k_X7_of_f12 rfl dX7_of_54 ?_
      refine x_getr (C := RX3) (k := 2) hx hb hts u_X7_of_3 hown hK hP (g_V_1 cI cO a s3) rfl (by decide) ⟨rfl, rfl, rfl⟩ k_X7_of_f65 rfl dX7_of_57 ?_
      refine x_getr (C := RX2) (k := 1) hx hb hts u_X7_of_2 hown hK hP (g_V_16 cI cO a s3) rfl (by decide) ⟨rfl, rfl, rfl⟩ k_X7_of_f112 rfl dX7_of_60 ?_
      refine lv_iload_n hx hb dX7_of_63 rfl (lv_at hl 1 rfl) ?_
      refine x_iald (t0 := 0) hx hb hK hP ht h (g_V_18 cI cO a s3) dX7_of_64 (fun x9 h => ?_)
      exact x_iret (p_V cI cO a) hx hb hr hlocks hP hS dX7_of_65 h
    have h := if_f c8 h
    by_cases c10 : x2 = 2
    · have h := if_t c10 h
      refine x_tsw_in (v := 2) (off := 55) (tgt := 66) hx hb dX7_of_11 c10 (by decide +kernel) ?_
      refine lv_aload_n hx hb dX7_of_66 rfl (lv_at hl 0 rfl) ?_
      refine x_getr (C := RX7) (k := 0) hx hb hts u_X7_of_7 hown hK hP (g_V_0 cI cO a s3) rfl (by decide) ⟨rfl, rfl, rfl⟩ k_X7_of_f12 rfl dX7_of_67 ?_
      refine x_getr (C := RX3) (k := 2) hx hb hts u_X7_of_3 hown hK hP (g_V_1 cI cO a s3) rfl (by decide) ⟨rfl, rfl, rfl⟩ k_X7_of_f65 rfl dX7_of_70 ?_
      refine x_getr (C := RX2) (k := 2) hx hb hts u_X7_of_2 hown hK hP (g_V_16 cI cO a s3) rfl (by decide) ⟨rfl, rfl, rfl⟩ k_X7_of_f93 rfl dX7_of_73 ?_
      refine lv_iload_n hx hb dX7_of_76 rfl (lv_at hl 1 rfl) ?_
      refine x_iald (t0 := 0) hx hb hK hP ht h (g_V_19 cI cO a s3) dX7_of_77 (fun x11 h => ?_)
      exact x_iret (p_V cI cO a) hx hb hr hlocks hP hS dX7_of_78 h
    have h := if_f c10 h
    by_cases c12 : x2 = 3
    · have h := if_t c12 h
      refine x_tsw_in (v := 3) (off := 68) (tgt := 79) hx hb dX7_of_11 c12 (by decide +kernel) ?_
      refine lv_aload_n hx hb dX7_of_79 rfl (lv_at hl 0 rfl) ?_
      refine x_getr (C := RX7) (k := 0) hx hb hts u_X7_of_7 hown hK hP (g_V_0 cI cO a s3) rfl (by decide) ⟨rfl, rfl, rfl⟩ k_X7_of_f12 rfl dX7_of_80 ?_
      refine x_getr (C := RX3) (k := 2) hx hb hts u_X7_of_3 hown hK hP (g_V_1 cI cO a s3) rfl (by decide) ⟨rfl, rfl, rfl⟩ k_X7_of_f65 rfl dX7_of_83 ?_
      refine x_getr (C := RX2) (k := 3) hx hb hts u_X7_of_2 hown hK hP (g_V_16 cI cO a s3) rfl (by decide) ⟨rfl, rfl, rfl⟩ k_X7_of_f85 rfl dX7_of_86 ?_
      refine lv_iload_n hx hb dX7_of_89 rfl (lv_at hl 1 rfl) ?_
      refine x_iald (t0 := 0) hx hb hK hP ht h (g_V_20 cI cO a s3) dX7_of_90 (fun x13 h => ?_)
      exact x_iret (p_V cI cO a) hx hb hr hlocks hP hS dX7_of_91 h
    have h := if_f c12 h
    refine x_tsw_out (tgt := 92) hx hb dX7_of_11 4 (by decide) (fun k9 hk9 => ?_) (by decide) ?_
    · rcases (show k9 = 0 ∨ k9 = 1 ∨ k9 = 2 ∨ k9 = 3 by omega) with rfl | rfl | rfl | rfl
      · exact fun h9 => c6 (h9.trans (by decide +kernel))
      · exact fun h9 => c8 (h9.trans (by decide +kernel))
      · exact fun h9 => c10 (h9.trans (by decide +kernel))
      · exact fun h9 => c12 (h9.trans (by decide +kernel))
    refine lv_iconst (v := (-1)) hx hb dX7_of_92 (by decide +kernel) ?_
    exact x_iret (p_V cI cO a) hx hb hr hlocks hP hS dX7_of_93 h
  · have h := if_f c5 h
    refine lv_iconst (v := (-1)) hx hb dX7_of_8 (by decide +kernel) ?_
    exact x_iret (p_V cI cO a) hx hb hr hlocks hP hS dX7_of_9 h
/-! ===== VectorRounds.between(II)I: world V ===== -/
theorem i_X7_between : yX7_between.cls = RX7 ∧ yX7_between.cls ≠ "java/lang/invoke/MethodHandle" ∧ yX7_between.cls ≠ "java/lang/invoke/VarHandle" ∧ (parseMethodDescriptor yX7_between.desc).map (fun d => d.parameters.length) = some 2 := by decide +kernel
theorem k_X7_between_f12 : Cond.fieldLink RX7 12 RX7 "now" "LVectorRounds$Network;" ∈ wsX7_between := by decide +kernel
theorem k_X7_between_f65 : Cond.fieldLink RX7 65 RX3 "links" "LVectorRounds$Links;" ∈ wsX7_between := by decide +kernel
theorem u_X7_between_3 : ∀ w ∈ u_ws RX3 TX3 9, w ∈ wsX7_between := by decide +kernel
theorem u_X7_between_7 : ∀ w ∈ u_ws RX7 TX7 9, w ∈ wsX7_between := by decide +kernel
set_option maxHeartbeats 4000000 in
set_option maxRecDepth 100000 in
theorem c_X7_between (l : Launch) (D : va_G) (cI cO : ClassId) (tys : List (ClassId × FieldType)) (ht : tys[0]? = some (cI, .int)) (ht1 : tys[1]? = some (cO, .object "VectorRounds$Holder")) (a : Nat → Nat) (σ : qM) (x1 : Int32) (x2 : Int32) : q_Met l yX7_between wsX7_between ({ frames := 1, cells := 0, slots := 0, locals := 22 }) [.ref (a 0), .int x1, .int x2] D tys (p_V cI cO a) σ (f_X7_between σ x1 x2) := by
  refine x_ofWi (cc := cX7_between) (maxL := 4) (ret := (some .int)) (by decide +kernel) rfl (pf_V cI cO a) (Nat.le_of_ble_eq_true rfl) ?_
  intro p e s m below meth c A ls qq h hx hb hml hr hlocks hown hts hK hP hD hA hS hl
  have hown : s.vm.findClass RX7 = some m.cls := hown
  have hl : lv_has ls 4 [(0, .ref (a 0)), (1, .int x1), (2, .int x2)] := hl
  unfold f_X7_between at h
  refine lv_aload_n hx hb dX7_between_0 rfl (lv_at hl 0 rfl) ?_
  refine lv_iload_n hx hb dX7_between_1 rfl (lv_at hl 1 rfl) ?_
  refine x_cVi (p_V cI cO a) (p_V cI cO a) (fun τ => τ) [] [.int x1] hx hb hml hl.1 hown hts hK hP hD hS hA rfl (c_X7_noRouter l D cI cO tys ht ht1 a σ x1) gX7_between_X7_noRouter rfl ⟨rfl, rfl⟩ i_X7_noRouter ⟨Nat.le_of_ble_eq_true rfl, Nat.le_of_ble_eq_true rfl⟩ q_frI (g_V_0 cI cO a σ) rfl rfl (Nat.le_of_ble_eq_true rfl) ⟨Nat.zero_le _, Nat.zero_le _⟩ dX7_between_2 h (fun x4 H locs s3 hP hS h => ?_)
  refine lv_if_ne (tgt := 16) hx hb dX7_between_5 (by decide) (fun c5 => ?_) (fun c5 => ?_)
  · have h := if_f c5 h
    refine lv_iconst (v := (-1)) hx hb dX7_between_16 (by decide +kernel) ?_
    exact x_iret (p_V cI cO a) hx hb hr hlocks hP hS dX7_between_17 h
  · have h := if_t c5 h
    refine lv_aload_n hx hb dX7_between_8 rfl (lv_at hl 0 rfl) ?_
    refine lv_iload_n hx hb dX7_between_9 rfl (lv_at hl 2 rfl) ?_
    refine x_cVi (p_V cI cO a) (p_V cI cO a) (fun τ => τ) [] [.int x2] hx hb hml hl.1 hown hts hK hP hD hS hA rfl (c_X7_noRouter l D cI cO tys ht ht1 a s3 x2) gX7_between_X7_noRouter rfl ⟨rfl, rfl⟩ i_X7_noRouter ⟨Nat.le_of_ble_eq_true rfl, Nat.le_of_ble_eq_true rfl⟩ q_frI (g_V_0 cI cO a s3) rfl rfl (Nat.le_of_ble_eq_true rfl) ⟨Nat.zero_le _, Nat.zero_le _⟩ dX7_between_10 h (fun x7 H locs s6 hP hS h => ?_)
    refine lv_if_eq (tgt := 18) hx hb dX7_between_13 (by decide) (fun c8 => ?_) (fun c8 => ?_)
    · have h := if_t c8 h
      refine lv_aload_n hx hb dX7_between_18 rfl (lv_at hl 0 rfl) ?_
      refine x_getr (C := RX7) (k := 0) hx hb hts u_X7_between_7 hown hK hP (g_V_0 cI cO a s6) rfl (by decide) ⟨rfl, rfl, rfl⟩ k_X7_between_f12 rfl dX7_between_19 ?_
      refine x_getr (C := RX3) (k := 2) hx hb hts u_X7_between_3 hown hK hP (g_V_1 cI cO a s6) rfl (by decide) ⟨rfl, rfl, rfl⟩ k_X7_between_f65 rfl dX7_between_22 ?_
      refine lv_iload_n hx hb dX7_between_25 rfl (lv_at hl 1 rfl) ?_
      refine lv_iload_n hx hb dX7_between_26 rfl (lv_at hl 2 rfl) ?_
      refine x_cVi (p_V cI cO a) (p_L cI (q_sub 16 a)) (q_put 16 6 s6) [] [.int x1, .int x2] hx hb hml hl.1 hown hts hK hP hD hS hA rfl (c_X2_joining l D cI tys ht (q_sub 16 a) (q_sub 16 s6) x1 x2) gX7_between_X2_joining rfl ⟨rfl, rfl⟩ i_X2_joining ⟨Nat.le_of_ble_eq_true rfl, Nat.le_of_ble_eq_true rfl⟩ (fr_V_L_16 cI cO a s6) (g_L_0 cI (q_sub 16 a) (q_sub 16 s6)) rfl rfl (Nat.le_of_ble_eq_true rfl) ⟨Nat.zero_le _, Nat.zero_le _⟩ dX7_between_27 h (fun x10 H locs s9 hP hS h => ?_)
      refine lv_istore_n (lv' := [(3, .int x10), (0, .ref (a 0)), (1, .int x1), (2, .int x2)]) hx hb dX7_between_30 rfl hl (by decide) rfl (fun ls hl => ?_)
      refine lv_iload_n hx hb dX7_between_31 rfl (lv_at hl 0 rfl) ?_
      refine lv_if_ge (tgt := 40) hx hb dX7_between_32 (by decide) (fun c11 => ?_) (fun c11 => ?_)
      · have h := if_t c11 h
        refine lv_iload_n hx hb dX7_between_40 rfl (lv_at hl 0 rfl) ?_
        exact x_iret (p_V cI cO a) hx hb hr hlocks hP hS dX7_between_41 h
      · have h := if_f c11 h
        refine lv_bipush (v := (-2)) hx hb dX7_between_35 (by decide +kernel) ?_
        refine lv_goto (tgt := 41) hx hb dX7_between_37 (by decide) ?_
        exact x_iret (p_V cI cO a) hx hb hr hlocks hP hS dX7_between_41 h
    · have h := if_f c8 h
      refine lv_iconst (v := (-1)) hx hb dX7_between_16 (by decide +kernel) ?_
      exact x_iret (p_V cI cO a) hx hb hr hlocks hP hS dX7_between_17 h
/-! ===== VectorRounds.rounds(I)I: world V ===== -/
theorem i_X7_rounds : yX7_rounds.cls = RX7 ∧ yX7_rounds.cls ≠ "java/lang/invoke/MethodHandle" ∧ yX7_rounds.cls ≠ "java/lang/invoke/VarHandle" ∧ (parseMethodDescriptor yX7_rounds.desc).map (fun d => d.parameters.length) = some 1 := by decide +kernel
theorem k_X7_rounds_f12 : Cond.fieldLink RX7 12 RX7 "now" "LVectorRounds$Network;" ∈ wsX7_rounds := by decide +kernel
theorem u_X7_rounds_7 : ∀ w ∈ u_ws RX7 TX7 9, w ∈ wsX7_rounds := by decide +kernel
set_option maxHeartbeats 4000000 in
set_option maxRecDepth 100000 in
theorem c_X7_rounds (l : Launch) (D : va_G) (cI cO : ClassId) (tys : List (ClassId × FieldType)) (ht : tys[0]? = some (cI, .int)) (ht1 : tys[1]? = some (cO, .object "VectorRounds$Holder")) (a : Nat → Nat) (σ : qM) (x1 : Int32) : q_Met l yX7_rounds wsX7_rounds ({ frames := 4, cells := 0, slots := 0, locals := 104 }) [.ref (a 0), .int x1] D tys (p_V cI cO a) σ (f_X7_rounds σ x1) := by
  refine x_ofWi (cc := cX7_rounds) (maxL := 4) (ret := (some .int)) (by decide +kernel) rfl (pf_V cI cO a) (Nat.le_of_ble_eq_true rfl) ?_
  intro p e s m below meth c A ls qq h hx hb hml hr hlocks hown hts hK hP hD hA hS hl
  have hown : s.vm.findClass RX7 = some m.cls := hown
  have hl : lv_has ls 4 [(0, .ref (a 0)), (1, .int x1)] := hl
  have main : ∀ k9 : Nat, (∀ (σ : qM) (x4 x5 x6 : Int32) (H : Heap) (locs : List Loc) (ls : Array Slot), q_it (D_X7_rounds) k9 0 σ [x4, x5, x6] = some qq → va_P D vwCl (p_V cI cO a σ) H → va_S A s.heap H locs → lv_has ls 4 [(0, .ref (a 0)), (1, .int x4), (2, .int x5), (3, .int x6)] → W p l e ({ frames := 4, cells := 0, slots := 0, locals := 104 }) s m [.ref (a 0), .int x1].toArray below meth c H locs 0 0 (MQ below (va_Qi (fun r τ => (r, τ) = qq) (fun τ t => va_P D vwCl ((p_V cI cO a) τ) t.heap) A) [.ref (a 0), .int x1].toArray s 0 0 A) (F0 m 17 ls [])) := by
    intro k9
    induction k9 with
    | zero => exact (fun _ _ _ _ _ _ _ h _ _ _ => (q_no (show (none : qR) = some qq from h)).elim)
    | succ k9 ih =>
      have i17 := ih
      refine ?_
      · intro σ x4 x5 x6 H locs ls h hP hS hl
        have h : b_X7_rounds_17 (q_it (D_X7_rounds) k9) σ x4 x5 x6 = some qq := h
        unfold b_X7_rounds_17 at h
        refine lv_iload_n hx hb dX7_rounds_17 rfl (lv_at hl 3 rfl) ?_
        refine lv_iload_n hx hb dX7_rounds_18 rfl (lv_at hl 1 rfl) ?_
        refine lv_icmp_ge (tgt := 38) hx hb dX7_rounds_19 (by decide) (fun c7 => ?_) (fun c7 => ?_)
        · have h := if_t c7 h
          refine lv_iload_n hx hb dX7_rounds_38 rfl (lv_at hl 2 rfl) ?_
          exact x_iret (p_V cI cO a) hx hb hr hlocks hP hS dX7_rounds_39 h
        · have h := if_f c7 h
          refine lv_iload_n hx hb dX7_rounds_22 rfl (lv_at hl 2 rfl) ?_
          refine lv_aload_n hx hb dX7_rounds_23 rfl (lv_at hl 0 rfl) ?_
          refine x_getr (C := RX7) (k := 0) hx hb hts u_X7_rounds_7 hown hK hP (g_V_0 cI cO a σ) rfl (by decide) ⟨rfl, rfl, rfl⟩ k_X7_rounds_f12 rfl dX7_rounds_24 ?_
          refine x_cVi (p_V cI cO a) (p_N cI (q_sub 1 a)) (q_put 1 21 σ) [.int x5] [] hx hb hml hl.1 hown hts hK hP hD hS hA rfl (c_X3_goRound l D cI tys ht (q_sub 1 a) (q_sub 1 σ)) gX7_rounds_X3_goRound rfl ⟨rfl, rfl⟩ i_X3_goRound ⟨Nat.le_of_ble_eq_true rfl, Nat.le_of_ble_eq_true rfl⟩ (fr_V_N_1 cI cO a σ) (g_N_0 cI (q_sub 1 a) (q_sub 1 σ)) rfl rfl (Nat.le_of_ble_eq_true rfl) ⟨Nat.zero_le _, Nat.zero_le _⟩ dX7_rounds_27 h (fun x9 H locs s8 hP hS h => ?_)
          refine x_iadd hx hb dX7_rounds_30 h (fun x10 h => ?_)
          refine lv_istore_n (lv' := [(2, .int x10), (0, .ref (a 0)), (1, .int x4), (3, .int x6)]) hx hb dX7_rounds_31 rfl hl (by decide) rfl (fun ls hl => ?_)
          refine x_iinc (k := 3) (w := 1) hx hb dX7_rounds_32 hl rfl (by decide +kernel) (by decide) (fun v9 => [(3, .int v9), (2, .int x10), (0, .ref (a 0)), (1, .int x4)]) (fun v9 => rfl) h (fun x11 ls hl h => ?_)
          have hl : lv_has ls 4 [(3, .int x11), (2, .int x10), (0, .ref (a 0)), (1, .int x4)] := hl
          refine lv_goto (tgt := 17) hx hb dX7_rounds_35 (by decide) ?_
          exact i17 s8 x4 x10 x11 _ _ _ h hP hS (lv_sub hl [2, 3, 1, 0] rfl)
  have i17 : ∀ (σ : qM) (x4 x5 x6 : Int32) (H : Heap) (locs : List Loc) (ls : Array Slot), q_lim (D_X7_rounds) 0 σ [x4, x5, x6] = some qq → va_P D vwCl (p_V cI cO a σ) H → va_S A s.heap H locs → lv_has ls 4 [(0, .ref (a 0)), (1, .int x4), (2, .int x5), (3, .int x6)] → W p l e ({ frames := 4, cells := 0, slots := 0, locals := 104 }) s m [.ref (a 0), .int x1].toArray below meth c H locs 0 0 (MQ below (va_Qi (fun r τ => (r, τ) = qq) (fun τ t => va_P D vwCl ((p_V cI cO a) τ) t.heap) A) [.ref (a 0), .int x1].toArray s 0 0 A) (F0 m 17 ls []) := by
    intro σ x4 x5 x6 H locs ls h hP hS hl
    obtain ⟨k9, h⟩ := q_lim_n h
    exact (main k9) σ x4 x5 x6 H locs ls h hP hS hl
  have h : e_X7_rounds (q_lim (D_X7_rounds)) σ x1 = some qq := h
  unfold e_X7_rounds at h
  refine lv_iload_n hx hb dX7_rounds_0 rfl (lv_at hl 1 rfl) ?_
  refine lv_iconst (v := 1) hx hb dX7_rounds_1 (by decide +kernel) ?_
  refine lv_icmp_lt (tgt := 11) hx hb dX7_rounds_2 (by decide) (fun c2 => ?_) (fun c2 => ?_)
  · have h := if_t c2 h
    refine lv_iconst (v := (-1)) hx hb dX7_rounds_11 (by decide +kernel) ?_
    exact x_iret (p_V cI cO a) hx hb hr hlocks hP hS dX7_rounds_12 h
  · have h := if_f c2 h
    refine lv_iload_n hx hb dX7_rounds_5 rfl (lv_at hl 1 rfl) ?_
    refine lv_bipush (v := 80) hx hb dX7_rounds_6 (by decide +kernel) ?_
    refine lv_icmp_le (tgt := 13) hx hb dX7_rounds_8 (by decide) (fun c3 => ?_) (fun c3 => ?_)
    · have h := if_t c3 h
      refine lv_iconst (v := 0) hx hb dX7_rounds_13 (by decide +kernel) ?_
      refine lv_istore_n (lv' := [(2, .int 0), (0, .ref (a 0)), (1, .int x1)]) hx hb dX7_rounds_14 rfl hl (by decide) rfl (fun ls hl => ?_)
      refine lv_iconst (v := 0) hx hb dX7_rounds_15 (by decide +kernel) ?_
      refine lv_istore_n (lv' := [(3, .int 0), (2, .int 0), (0, .ref (a 0)), (1, .int x1)]) hx hb dX7_rounds_16 rfl hl (by decide) rfl (fun ls hl => ?_)
      exact i17 σ x1 0 0 _ _ _ h hP hS (lv_sub hl [2, 3, 1, 0] rfl)
    · have h := if_f c3 h
      refine lv_iconst (v := (-1)) hx hb dX7_rounds_11 (by decide +kernel) ?_
      exact x_iret (p_V cI cO a) hx hb hr hlocks hP hS dX7_rounds_12 h
/-! ===== VectorRounds.entry(III)I: world V ===== -/
theorem i_X7_entry : yX7_entry.cls = RX7 ∧ yX7_entry.cls ≠ "java/lang/invoke/MethodHandle" ∧ yX7_entry.cls ≠ "java/lang/invoke/VarHandle" ∧ (parseMethodDescriptor yX7_entry.desc).map (fun d => d.parameters.length) = some 3 := by decide +kernel
theorem k_X7_entry_f118 : Cond.fieldLink RX7 118 RX3 "tables" "LVectorRounds$Tables;" ∈ wsX7_entry := by decide +kernel
theorem k_X7_entry_f12 : Cond.fieldLink RX7 12 RX7 "now" "LVectorRounds$Network;" ∈ wsX7_entry := by decide +kernel
theorem k_X7_entry_f127 : Cond.fieldLink RX7 127 RX4 "metric" "[I" ∈ wsX7_entry := by decide +kernel
theorem k_X7_entry_f130 : Cond.fieldLink RX7 130 RX4 "via" "[I" ∈ wsX7_entry := by decide +kernel
theorem k_X7_entry_f133 : Cond.fieldLink RX7 133 RX4 "sequence" "[I" ∈ wsX7_entry := by decide +kernel
theorem k_X7_entry_f136 : Cond.fieldLink RX7 136 RX4 "held" "[I" ∈ wsX7_entry := by decide +kernel
theorem u_X7_entry_3 : ∀ w ∈ u_ws RX3 TX3 9, w ∈ wsX7_entry := by decide +kernel
theorem u_X7_entry_4 : ∀ w ∈ u_ws RX4 TX4 6, w ∈ wsX7_entry := by decide +kernel
theorem u_X7_entry_7 : ∀ w ∈ u_ws RX7 TX7 9, w ∈ wsX7_entry := by decide +kernel
set_option maxHeartbeats 4000000 in
set_option maxRecDepth 100000 in
theorem c_X7_entry (l : Launch) (D : va_G) (cI cO : ClassId) (tys : List (ClassId × FieldType)) (ht : tys[0]? = some (cI, .int)) (ht1 : tys[1]? = some (cO, .object "VectorRounds$Holder")) (a : Nat → Nat) (σ : qM) (x1 : Int32) (x2 : Int32) (x3 : Int32) : q_Met l yX7_entry wsX7_entry ({ frames := 1, cells := 0, slots := 0, locals := 23 }) [.ref (a 0), .int x1, .int x2, .int x3] D tys (p_V cI cO a) σ (f_X7_entry σ x1 x2 x3) := by
  refine x_ofWi (cc := cX7_entry) (maxL := 6) (ret := (some .int)) (by decide +kernel) rfl (pf_V cI cO a) (Nat.le_of_ble_eq_true rfl) ?_
  intro p e s m below meth c A ls qq h hx hb hml hr hlocks hown hts hK hP hD hA hS hl
  have hown : s.vm.findClass RX7 = some m.cls := hown
  have hl : lv_has ls 6 [(0, .ref (a 0)), (1, .int x1), (2, .int x2), (3, .int x3)] := hl
  unfold f_X7_entry at h
  refine lv_aload_n hx hb dX7_entry_0 rfl (lv_at hl 0 rfl) ?_
  refine lv_iload_n hx hb dX7_entry_1 rfl (lv_at hl 1 rfl) ?_
  refine x_cVi (p_V cI cO a) (p_V cI cO a) (fun τ => τ) [] [.int x1] hx hb hml hl.1 hown hts hK hP hD hS hA rfl (c_X7_noRouter l D cI cO tys ht ht1 a σ x1) gX7_entry_X7_noRouter rfl ⟨rfl, rfl⟩ i_X7_noRouter ⟨Nat.le_of_ble_eq_true rfl, Nat.le_of_ble_eq_true rfl⟩ q_frI (g_V_0 cI cO a σ) rfl rfl (Nat.le_of_ble_eq_true rfl) ⟨Nat.zero_le _, Nat.zero_le _⟩ dX7_entry_2 h (fun x5 H locs s4 hP hS h => ?_)
  refine lv_if_ne (tgt := 25) hx hb dX7_entry_5 (by decide) (fun c6 => ?_) (fun c6 => ?_)
  · have h := if_f c6 h
    refine lv_iconst (v := (-1)) hx hb dX7_entry_25 (by decide +kernel) ?_
    exact x_iret (p_V cI cO a) hx hb hr hlocks hP hS dX7_entry_26 h
  · have h := if_t c6 h
    refine lv_aload_n hx hb dX7_entry_8 rfl (lv_at hl 0 rfl) ?_
    refine lv_iload_n hx hb dX7_entry_9 rfl (lv_at hl 2 rfl) ?_
    refine x_cVi (p_V cI cO a) (p_V cI cO a) (fun τ => τ) [] [.int x2] hx hb hml hl.1 hown hts hK hP hD hS hA rfl (c_X7_noRouter l D cI cO tys ht ht1 a s4 x2) gX7_entry_X7_noRouter rfl ⟨rfl, rfl⟩ i_X7_noRouter ⟨Nat.le_of_ble_eq_true rfl, Nat.le_of_ble_eq_true rfl⟩ q_frI (g_V_0 cI cO a s4) rfl rfl (Nat.le_of_ble_eq_true rfl) ⟨Nat.zero_le _, Nat.zero_le _⟩ dX7_entry_10 h (fun x8 H locs s7 hP hS h => ?_)
    refine lv_if_ne (tgt := 25) hx hb dX7_entry_13 (by decide) (fun c9 => ?_) (fun c9 => ?_)
    · have h := if_f c9 h
      refine lv_iconst (v := (-1)) hx hb dX7_entry_25 (by decide +kernel) ?_
      exact x_iret (p_V cI cO a) hx hb hr hlocks hP hS dX7_entry_26 h
    · have h := if_t c9 h
      refine lv_iload_n hx hb dX7_entry_16 rfl (lv_at hl 3 rfl) ?_
      refine lv_if_lt (tgt := 25) hx hb dX7_entry_17 (by decide) (fun c10 => ?_) (fun c10 => ?_)
      · have h := if_t c10 h
        refine lv_iconst (v := (-1)) hx hb dX7_entry_25 (by decide +kernel) ?_
        exact x_iret (p_V cI cO a) hx hb hr hlocks hP hS dX7_entry_26 h
      · have h := if_f c10 h
        refine lv_iload_n hx hb dX7_entry_20 rfl (lv_at hl 3 rfl) ?_
        refine lv_iconst (v := 4) hx hb dX7_entry_21 (by decide +kernel) ?_
        refine lv_icmp_le (tgt := 27) hx hb dX7_entry_22 (by decide) (fun c11 => ?_) (fun c11 => ?_)
        · have h := if_t c11 h
          refine lv_aload_n hx hb dX7_entry_27 rfl (lv_at hl 0 rfl) ?_
          refine x_getr (C := RX7) (k := 0) hx hb hts u_X7_entry_7 hown hK hP (g_V_0 cI cO a s7) rfl (by decide) ⟨rfl, rfl, rfl⟩ k_X7_entry_f12 rfl dX7_entry_28 ?_
          refine x_getr (C := RX3) (k := 0) hx hb hts u_X7_entry_3 hown hK hP (g_V_1 cI cO a s7) rfl (by decide) ⟨rfl, rfl, rfl⟩ k_X7_entry_f118 rfl dX7_entry_31 ?_
          refine lv_astore (lv' := [(4, .ref (a 2)), (0, .ref (a 0)), (1, .int x1), (2, .int x2), (3, .int x3)]) hx hb dX7_entry_34 hl (by decide) rfl (fun ls hl => ?_)
          refine lv_iload_n hx hb dX7_entry_36 rfl (lv_at hl 2 rfl) ?_
          refine lv_bipush (v := 10) hx hb dX7_entry_37 (by decide +kernel) ?_
          refine x_imul hx hb dX7_entry_39 h (fun x12 h => ?_)
          refine lv_iload_n hx hb dX7_entry_40 rfl (lv_at hl 3 rfl) ?_
          refine x_iadd hx hb dX7_entry_41 h (fun x13 h => ?_)
          refine lv_istore (lv' := [(5, .int x13), (4, .ref (a 2)), (0, .ref (a 0)), (1, .int x1), (2, .int x2), (3, .int x3)]) hx hb dX7_entry_42 hl (by decide) rfl (fun ls hl => ?_)
          refine lv_aload hx hb dX7_entry_44 (lv_at hl 1 rfl) ?_
          refine lv_iload hx hb dX7_entry_46 (lv_at hl 0 rfl) ?_
          refine x_cVi (p_V cI cO a) (p_T cI (q_sub 2 a)) (q_put 2 7 s7) [] [.int x13] hx hb hml hl.1 hown hts hK hP hD hS hA rfl (c_X4_has l D cI tys ht (q_sub 2 a) (q_sub 2 s7) x13) gX7_entry_X4_has rfl ⟨rfl, rfl⟩ i_X4_has ⟨Nat.le_of_ble_eq_true rfl, Nat.le_of_ble_eq_true rfl⟩ (fr_V_T_2 cI cO a s7) (g_T_0 cI (q_sub 2 a) (q_sub 2 s7)) rfl rfl (Nat.le_of_ble_eq_true rfl) ⟨Nat.zero_le _, Nat.zero_le _⟩ dX7_entry_48 h (fun x15 H locs s14 hP hS h => ?_)
          refine lv_if_ne (tgt := 57) hx hb dX7_entry_51 (by decide) (fun c16 => ?_) (fun c16 => ?_)
          · have h := if_f c16 h
            refine lv_iload_n hx hb dX7_entry_57 rfl (lv_at hl 5 rfl) ?_
            by_cases c17 : x3 = 0
            · have h := if_t c17 h
              refine x_tsw_in (v := 0) (off := 30) (tgt := 88) hx hb dX7_entry_58 c17 (by decide +kernel) ?_
              refine lv_aload hx hb dX7_entry_88 (lv_at hl 1 rfl) ?_
              refine x_getr (C := RX4) (k := 0) hx hb hts u_X7_entry_4 hown hK hP (g_V_2 cI cO a s14) rfl (by decide) ⟨rfl, rfl, rfl⟩ k_X7_entry_f127 rfl dX7_entry_90 ?_
              refine lv_iload hx hb dX7_entry_93 (lv_at hl 0 rfl) ?_
              refine x_iald (t0 := 0) hx hb hK hP ht h (g_V_3 cI cO a s14) dX7_entry_95 (fun x18 h => ?_)
              exact x_iret (p_V cI cO a) hx hb hr hlocks hP hS dX7_entry_96 h
            have h := if_f c17 h
            by_cases c19 : x3 = 1
            · have h := if_t c19 h
              refine x_tsw_in (v := 1) (off := 39) (tgt := 97) hx hb dX7_entry_58 c19 (by decide +kernel) ?_
              refine lv_aload hx hb dX7_entry_97 (lv_at hl 1 rfl) ?_
              refine x_getr (C := RX4) (k := 1) hx hb hts u_X7_entry_4 hown hK hP (g_V_2 cI cO a s14) rfl (by decide) ⟨rfl, rfl, rfl⟩ k_X7_entry_f130 rfl dX7_entry_99 ?_
              refine lv_iload hx hb dX7_entry_102 (lv_at hl 0 rfl) ?_
              refine x_iald (t0 := 0) hx hb hK hP ht h (g_V_4 cI cO a s14) dX7_entry_104 (fun x20 h => ?_)
              exact x_iret (p_V cI cO a) hx hb hr hlocks hP hS dX7_entry_105 h
            have h := if_f c19 h
            by_cases c21 : x3 = 2
            · have h := if_t c21 h
              refine x_tsw_in (v := 2) (off := 48) (tgt := 106) hx hb dX7_entry_58 c21 (by decide +kernel) ?_
              refine lv_aload hx hb dX7_entry_106 (lv_at hl 1 rfl) ?_
              refine x_getr (C := RX4) (k := 2) hx hb hts u_X7_entry_4 hown hK hP (g_V_2 cI cO a s14) rfl (by decide) ⟨rfl, rfl, rfl⟩ k_X7_entry_f133 rfl dX7_entry_108 ?_
              refine lv_iload hx hb dX7_entry_111 (lv_at hl 0 rfl) ?_
              refine x_iald (t0 := 0) hx hb hK hP ht h (g_V_5 cI cO a s14) dX7_entry_113 (fun x22 h => ?_)
              exact x_iret (p_V cI cO a) hx hb hr hlocks hP hS dX7_entry_114 h
            have h := if_f c21 h
            by_cases c23 : x3 = 3
            · have h := if_t c23 h
              refine x_tsw_in (v := 3) (off := 57) (tgt := 115) hx hb dX7_entry_58 c23 (by decide +kernel) ?_
              refine lv_aload hx hb dX7_entry_115 (lv_at hl 1 rfl) ?_
              refine x_getr (C := RX4) (k := 3) hx hb hts u_X7_entry_4 hown hK hP (g_V_2 cI cO a s14) rfl (by decide) ⟨rfl, rfl, rfl⟩ k_X7_entry_f136 rfl dX7_entry_117 ?_
              refine lv_iload hx hb dX7_entry_120 (lv_at hl 0 rfl) ?_
              refine x_iald (t0 := 0) hx hb hK hP ht h (g_V_6 cI cO a s14) dX7_entry_122 (fun x24 h => ?_)
              exact x_iret (p_V cI cO a) hx hb hr hlocks hP hS dX7_entry_123 h
            have h := if_f c23 h
            refine x_tsw_out (tgt := 124) hx hb dX7_entry_58 4 (by decide) (fun k9 hk9 => ?_) (by decide) ?_
            · rcases (show k9 = 0 ∨ k9 = 1 ∨ k9 = 2 ∨ k9 = 3 by omega) with rfl | rfl | rfl | rfl
              · exact fun h9 => c17 (h9.trans (by decide +kernel))
              · exact fun h9 => c19 (h9.trans (by decide +kernel))
              · exact fun h9 => c21 (h9.trans (by decide +kernel))
              · exact fun h9 => c23 (h9.trans (by decide +kernel))
            refine lv_aload hx hb dX7_entry_124 (lv_at hl 1 rfl) ?_
            refine lv_iload_n hx hb dX7_entry_126 rfl (lv_at hl 3 rfl) ?_
            refine lv_iload_n hx hb dX7_entry_127 rfl (lv_at hl 4 rfl) ?_
            refine x_cVi (p_V cI cO a) (p_T cI (q_sub 2 a)) (q_put 2 7 s14) [] [.int x1, .int x2] hx hb hml hl.1 hown hts hK hP hD hS hA rfl (c_X4_placeOf l D cI tys ht (q_sub 2 a) (q_sub 2 s14) x1 x2) gX7_entry_X4_placeOf rfl ⟨rfl, rfl⟩ i_X4_placeOf ⟨Nat.le_of_ble_eq_true rfl, Nat.le_of_ble_eq_true rfl⟩ (fr_V_T_2 cI cO a s14) (g_T_0 cI (q_sub 2 a) (q_sub 2 s14)) rfl rfl (Nat.le_of_ble_eq_true rfl) ⟨Nat.zero_le _, Nat.zero_le _⟩ dX7_entry_128 h (fun x26 H locs s25 hP hS h => ?_)
            exact x_iret (p_V cI cO a) hx hb hr hlocks hP hS dX7_entry_131 h
          · have h := if_t c16 h
            refine lv_bipush (v := (-2)) hx hb dX7_entry_54 (by decide +kernel) ?_
            exact x_iret (p_V cI cO a) hx hb hr hlocks hP hS dX7_entry_56 h
        · have h := if_f c11 h
          refine lv_iconst (v := (-1)) hx hb dX7_entry_25 (by decide +kernel) ?_
          exact x_iret (p_V cI cO a) hx hb hr hlocks hP hS dX7_entry_26 h
/-! ===== VectorRounds.known(II)I: world V ===== -/
theorem i_X7_known : yX7_known.cls = RX7 ∧ yX7_known.cls ≠ "java/lang/invoke/MethodHandle" ∧ yX7_known.cls ≠ "java/lang/invoke/VarHandle" ∧ (parseMethodDescriptor yX7_known.desc).map (fun d => d.parameters.length) = some 2 := by decide +kernel
theorem k_X7_known_f118 : Cond.fieldLink RX7 118 RX3 "tables" "LVectorRounds$Tables;" ∈ wsX7_known := by decide +kernel
theorem k_X7_known_f12 : Cond.fieldLink RX7 12 RX7 "now" "LVectorRounds$Network;" ∈ wsX7_known := by decide +kernel
theorem k_X7_known_f142 : Cond.fieldLink RX7 142 RX4 "size" "[I" ∈ wsX7_known := by decide +kernel
theorem k_X7_known_f144 : Cond.fieldLink RX7 144 RX4 "order" "[I" ∈ wsX7_known := by decide +kernel
theorem u_X7_known_3 : ∀ w ∈ u_ws RX3 TX3 9, w ∈ wsX7_known := by decide +kernel
theorem u_X7_known_4 : ∀ w ∈ u_ws RX4 TX4 6, w ∈ wsX7_known := by decide +kernel
theorem u_X7_known_7 : ∀ w ∈ u_ws RX7 TX7 9, w ∈ wsX7_known := by decide +kernel
set_option maxHeartbeats 4000000 in
set_option maxRecDepth 100000 in
theorem c_X7_known (l : Launch) (D : va_G) (cI cO : ClassId) (tys : List (ClassId × FieldType)) (ht : tys[0]? = some (cI, .int)) (ht1 : tys[1]? = some (cO, .object "VectorRounds$Holder")) (a : Nat → Nat) (σ : qM) (x1 : Int32) (x2 : Int32) : q_Met l yX7_known wsX7_known ({ frames := 1, cells := 0, slots := 0, locals := 21 }) [.ref (a 0), .int x1, .int x2] D tys (p_V cI cO a) σ (f_X7_known σ x1 x2) := by
  refine x_ofWi (cc := cX7_known) (maxL := 3) (ret := (some .int)) (by decide +kernel) rfl (pf_V cI cO a) (Nat.le_of_ble_eq_true rfl) ?_
  intro p e s m below meth c A ls qq h hx hb hml hr hlocks hown hts hK hP hD hA hS hl
  have hown : s.vm.findClass RX7 = some m.cls := hown
  have hl : lv_has ls 3 [(0, .ref (a 0)), (1, .int x1), (2, .int x2)] := hl
  unfold f_X7_known at h
  refine lv_aload_n hx hb dX7_known_0 rfl (lv_at hl 0 rfl) ?_
  refine lv_iload_n hx hb dX7_known_1 rfl (lv_at hl 1 rfl) ?_
  refine x_cVi (p_V cI cO a) (p_V cI cO a) (fun τ => τ) [] [.int x1] hx hb hml hl.1 hown hts hK hP hD hS hA rfl (c_X7_noRouter l D cI cO tys ht ht1 a σ x1) gX7_known_X7_noRouter rfl ⟨rfl, rfl⟩ i_X7_noRouter ⟨Nat.le_of_ble_eq_true rfl, Nat.le_of_ble_eq_true rfl⟩ q_frI (g_V_0 cI cO a σ) rfl rfl (Nat.le_of_ble_eq_true rfl) ⟨Nat.zero_le _, Nat.zero_le _⟩ dX7_known_2 h (fun x4 H locs s3 hP hS h => ?_)
  refine lv_if_ne (tgt := 12) hx hb dX7_known_5 (by decide) (fun c5 => ?_) (fun c5 => ?_)
  · have h := if_f c5 h
    refine lv_iconst (v := (-1)) hx hb dX7_known_12 (by decide +kernel) ?_
    exact x_iret (p_V cI cO a) hx hb hr hlocks hP hS dX7_known_13 h
  · have h := if_t c5 h
    refine lv_iload_n hx hb dX7_known_8 rfl (lv_at hl 2 rfl) ?_
    refine lv_if_ge (tgt := 14) hx hb dX7_known_9 (by decide) (fun c6 => ?_) (fun c6 => ?_)
    · have h := if_t c6 h
      refine lv_iload_n hx hb dX7_known_14 rfl (lv_at hl 2 rfl) ?_
      refine lv_aload_n hx hb dX7_known_15 rfl (lv_at hl 0 rfl) ?_
      refine x_getr (C := RX7) (k := 0) hx hb hts u_X7_known_7 hown hK hP (g_V_0 cI cO a s3) rfl (by decide) ⟨rfl, rfl, rfl⟩ k_X7_known_f12 rfl dX7_known_16 ?_
      refine x_getr (C := RX3) (k := 0) hx hb hts u_X7_known_3 hown hK hP (g_V_1 cI cO a s3) rfl (by decide) ⟨rfl, rfl, rfl⟩ k_X7_known_f118 rfl dX7_known_19 ?_
      refine x_getr (C := RX4) (k := 5) hx hb hts u_X7_known_4 hown hK hP (g_V_2 cI cO a s3) rfl (by decide) ⟨rfl, rfl, rfl⟩ k_X7_known_f142 rfl dX7_known_22 ?_
      refine lv_iload_n hx hb dX7_known_25 rfl (lv_at hl 1 rfl) ?_
      refine x_iald (t0 := 0) hx hb hK hP ht h (g_V_8 cI cO a s3) dX7_known_26 (fun x7 h => ?_)
      refine lv_icmp_lt (tgt := 33) hx hb dX7_known_27 (by decide) (fun c8 => ?_) (fun c8 => ?_)
      · have h := if_t c8 h
        refine lv_aload_n hx hb dX7_known_33 rfl (lv_at hl 0 rfl) ?_
        refine x_getr (C := RX7) (k := 0) hx hb hts u_X7_known_7 hown hK hP (g_V_0 cI cO a s3) rfl (by decide) ⟨rfl, rfl, rfl⟩ k_X7_known_f12 rfl dX7_known_34 ?_
        refine x_getr (C := RX3) (k := 0) hx hb hts u_X7_known_3 hown hK hP (g_V_1 cI cO a s3) rfl (by decide) ⟨rfl, rfl, rfl⟩ k_X7_known_f118 rfl dX7_known_37 ?_
        refine x_getr (C := RX4) (k := 4) hx hb hts u_X7_known_4 hown hK hP (g_V_2 cI cO a s3) rfl (by decide) ⟨rfl, rfl, rfl⟩ k_X7_known_f144 rfl dX7_known_40 ?_
        refine lv_iload_n hx hb dX7_known_43 rfl (lv_at hl 1 rfl) ?_
        refine lv_bipush (v := 10) hx hb dX7_known_44 (by decide +kernel) ?_
        refine x_imul hx hb dX7_known_46 h (fun x9 h => ?_)
        refine lv_iload_n hx hb dX7_known_47 rfl (lv_at hl 2 rfl) ?_
        refine x_iadd hx hb dX7_known_48 h (fun x10 h => ?_)
        refine x_iald (t0 := 0) hx hb hK hP ht h (g_V_7 cI cO a s3) dX7_known_49 (fun x11 h => ?_)
        exact x_iret (p_V cI cO a) hx hb hr hlocks hP hS dX7_known_50 h
      · have h := if_f c8 h
        refine lv_bipush (v := (-2)) hx hb dX7_known_30 (by decide +kernel) ?_
        exact x_iret (p_V cI cO a) hx hb hr hlocks hP hS dX7_known_32 h
    · have h := if_f c6 h
      refine lv_iconst (v := (-1)) hx hb dX7_known_12 (by decide +kernel) ?_
      exact x_iret (p_V cI cO a) hx hb hr hlocks hP hS dX7_known_13 h
