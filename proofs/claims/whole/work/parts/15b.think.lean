theorem i_X8_wake : yX8_wake.cls = RX8 ∧ yX8_wake.cls ≠ "java/lang/invoke/MethodHandle" ∧ yX8_wake.cls ≠ "java/lang/invoke/VarHandle" ∧ (parseMethodDescriptor yX8_wake.desc).map (fun d => d.parameters.length) = some 0 := by decide +kernel
theorem k_X8_wake_f7 : Cond.fieldLink RX8 7 RX8 "s" "[I" ∈ wsX8_wake := by decide +kernel
theorem k_X8_wake_f13 : Cond.fieldLink RX8 13 RX8 "thought" "[I" ∈ wsX8_wake := by decide +kernel
theorem u_X8_wake_8 : ∀ w ∈ u_ws RX8 TX8 26, w ∈ wsX8_wake := by decide +kernel
set_option maxHeartbeats 4000000 in
set_option maxRecDepth 100000 in
theorem c_X8_wake (l : Launch) (D : va_G) (cI : ClassId) (tys : List (ClassId × FieldType)) (ht : tys[0]? = some (cI, .int)) (a : Nat → Nat) (σ : qM) : q_Mew l yX8_wake wsX8_wake ({ frames := 0, cells := 0, slots := 0, locals := 0 }) [.ref (a 0)] D tys (p_M cI a) (p_M cI (q_sw a)) σ (f_X8_wake σ) := by
  refine x_ofWw (cc := cX8_wake) (maxL := 2) (ret := none) (by decide +kernel) rfl (pf_M cI a) (Nat.le_of_ble_eq_true rfl) ?_
  intro p e s m below meth c A ls qq h hx hb hml hr hlocks hown hts hK hP hD hA hS hl
  have hown : s.vm.findClass RX8 = some m.cls := hown
  have hl : lv_has ls 2 [(0, .ref (a 0))] := hl
  unfold f_X8_wake at h
  refine lv_aload_n hx hb dX8_wake_0 rfl (lv_at hl 0 rfl) ?_
  refine x_getr (C := RX8) (k := 1) hx hb hts u_X8_wake_8 hown hK hP (g_M_0 cI a σ) rfl (by decide) ⟨rfl, rfl, rfl⟩ k_X8_wake_f7 rfl dX8_wake_1 ?_
  refine lv_astore_n (lv' := [(1, .ref (a 1)), (0, .ref (a 0))]) hx hb dX8_wake_4 rfl hl (by decide) rfl (fun ls hl => ?_)
  refine lv_aload_n hx hb dX8_wake_5 rfl (lv_at hl 1 rfl) ?_
  refine lv_aload_n hx hb dX8_wake_6 rfl (lv_at hl 1 rfl) ?_
  refine x_getr (C := RX8) (k := 2) hx hb hts u_X8_wake_8 hown hK hP (g_M_0 cI a σ) rfl (by decide) ⟨rfl, rfl, rfl⟩ k_X8_wake_f13 rfl dX8_wake_7 ?_
  refine va_put (D := D) (ci := 8) (v := .ref (a 2)) (ty := .array .int) (C := RX8) (T := TX8) (N := 26) hx hb hts u_X8_wake_8 tyX8 tyX8_ok nmX8 hown hK hP (hD σ) hS 0 rfl rfl 1 (by decide) (ref := RX8) (hts _ k_X8_wake_f7) (fun _ h9 => h9) rfl (by decide +kernel) rfl rfl (Nat.le_of_ble_eq_true rfl) dX8_wake_10 (fun H locs hP hD2 hS => ?_)
  refine lv_aload_n hx hb dX8_wake_13 rfl (lv_at hl 1 rfl) ?_
  refine lv_aload_n hx hb dX8_wake_14 rfl (lv_at hl 0 rfl) ?_
  refine va_put (D := D) (ci := 8) (v := .ref (a 1)) (ty := .array .int) (C := RX8) (T := TX8) (N := 26) hx hb hts u_X8_wake_8 tyX8 tyX8_ok nmX8 hown hK hP hD2 hS 0 rfl rfl 2 (by decide) (ref := RX8) (hts _ k_X8_wake_f13) (fun _ h9 => h9) rfl (by decide +kernel) rfl rfl (Nat.le_of_ble_eq_true rfl) dX8_wake_15 (fun H locs hP hD2 hS => ?_)
  have hP9 := hP.sub (ws' := p_M cI (q_sw a) (q_sw σ)) [0, 2, 1, 3, 4, 5, 6, 7, 8, 9, 10, 11, 12, 13, 14, 15, 16, 17, 18, 19] rfl
  exact W.vret hx hb hr (fun t ht hW => ⟨⟨q_sw σ, rfl, Option.some.inj h, by dsimp only; rw [ht]; exact hP9⟩, hS.F ht⟩) hS.2.2 dX8_wake_18 hlocks
theorem i_X8_think : yX8_think.cls = RX8 ∧ yX8_think.cls ≠ "java/lang/invoke/MethodHandle" ∧ yX8_think.cls ≠ "java/lang/invoke/VarHandle" ∧ (parseMethodDescriptor yX8_think.desc).map (fun d => d.parameters.length) = some 0 := by decide +kernel
theorem k_X8_think_f7 : Cond.fieldLink RX8 7 RX8 "s" "[I" ∈ wsX8_think := by decide +kernel
theorem k_X8_think_f13 : Cond.fieldLink RX8 13 RX8 "thought" "[I" ∈ wsX8_think := by decide +kernel
theorem u_X8_think_8 : ∀ w ∈ u_ws RX8 TX8 26, w ∈ wsX8_think := by decide +kernel
set_option maxHeartbeats 4000000 in
set_option maxRecDepth 100000 in
theorem c_X8_think (l : Launch) (D : va_G) (cI : ClassId) (tys : List (ClassId × FieldType)) (ht : tys[0]? = some (cI, .int)) (a : Nat → Nat) (σ : qM) : q_Mew l yX8_think wsX8_think ({ frames := 2, cells := 0, slots := 0, locals := 100 }) [.ref (a 0)] D tys (p_M cI a) (p_M cI (q_sw a)) σ (f_X8_think σ) := by
  refine x_ofWw (cc := cX8_think) (maxL := 2) (ret := none) (by decide +kernel) rfl (pf_M cI a) (Nat.le_of_ble_eq_true rfl) ?_
  intro p e s m below meth c A ls qq h hx hb hml hr hlocks hown hts hK hP hD hA hS hl
  have hown : s.vm.findClass RX8 = some m.cls := hown
  have hl : lv_has ls 2 [(0, .ref (a 0))] := hl
  unfold f_X8_think at h
  refine lv_aload_n hx hb dX8_think_0 rfl (lv_at hl 0 rfl) ?_
  refine x_getr (C := RX8) (k := 1) hx hb hts u_X8_think_8 hown hK hP (g_M_0 cI a σ) rfl (by decide) ⟨rfl, rfl, rfl⟩ k_X8_think_f7 rfl dX8_think_1 ?_
  refine lv_aload_n hx hb dX8_think_4 rfl (lv_at hl 0 rfl) ?_
  refine x_getr (C := RX8) (k := 2) hx hb hts u_X8_think_8 hown hK hP (g_M_0 cI a σ) rfl (by decide) ⟨rfl, rfl, rfl⟩ k_X8_think_f13 rfl dX8_think_5 ?_
  refine x_cSv (p_M cI a) (p_RR cI (q_sub2 1 1 2 a)) (q_put2 1 1 1 2 σ) [] [.ref (a 1), .ref (a 2)] hx hb hml hl.1 hown hts hK hP hD hS hA rfl (c_X8_copy l D cI tys ht (q_sub2 1 1 2 a) (q_sub2 1 1 2 σ)) gX8_think_X8_copy rfl ⟨rfl, rfl⟩ i_X8_copy ⟨Nat.le_of_ble_eq_true rfl, Nat.le_of_ble_eq_true rfl⟩ (fr_M_RR_1_2 cI a σ) rfl (Nat.le_of_ble_eq_true rfl) ⟨Nat.zero_le _, Nat.zero_le _⟩ dX8_think_8 h (fun H locs s1 hP hS h => ?_)
  refine lv_aload_n hx hb dX8_think_11 rfl (lv_at hl 0 rfl) ?_
  refine x_getr (C := RX8) (k := 1) hx hb hts u_X8_think_8 hown hK hP (g_M_0 cI a s1) rfl (by decide) ⟨rfl, rfl, rfl⟩ k_X8_think_f7 rfl dX8_think_12 ?_
  refine lv_astore_n (lv' := [(1, .ref (a 1)), (0, .ref (a 0))]) hx hb dX8_think_15 rfl hl (by decide) rfl (fun ls hl => ?_)
  refine lv_aload_n hx hb dX8_think_16 rfl (lv_at hl 1 rfl) ?_
  refine lv_aload_n hx hb dX8_think_17 rfl (lv_at hl 1 rfl) ?_
  refine x_getr (C := RX8) (k := 2) hx hb hts u_X8_think_8 hown hK hP (g_M_0 cI a s1) rfl (by decide) ⟨rfl, rfl, rfl⟩ k_X8_think_f13 rfl dX8_think_18 ?_
  refine va_put (D := D) (ci := 8) (v := .ref (a 2)) (ty := .array .int) (C := RX8) (T := TX8) (N := 26) hx hb hts u_X8_think_8 tyX8 tyX8_ok nmX8 hown hK hP (hD s1) hS 0 rfl rfl 1 (by decide) (ref := RX8) (hts _ k_X8_think_f7) (fun _ h9 => h9) rfl (by decide +kernel) rfl rfl (Nat.le_of_ble_eq_true rfl) dX8_think_21 (fun H locs hP hD2 hS => ?_)
  refine lv_aload_n hx hb dX8_think_24 rfl (lv_at hl 1 rfl) ?_
  refine lv_aload_n hx hb dX8_think_25 rfl (lv_at hl 0 rfl) ?_
  refine va_put (D := D) (ci := 8) (v := .ref (a 1)) (ty := .array .int) (C := RX8) (T := TX8) (N := 26) hx hb hts u_X8_think_8 tyX8 tyX8_ok nmX8 hown hK hP hD2 hS 0 rfl rfl 2 (by decide) (ref := RX8) (hts _ k_X8_think_f13) (fun _ h9 => h9) rfl (by decide +kernel) rfl rfl (Nat.le_of_ble_eq_true rfl) dX8_think_26 (fun H locs hP hD2 hS => ?_)
  have hP9 := hP.sub (ws' := p_M cI (q_sw a) (q_sw s1)) [0, 2, 1, 3, 4, 5, 6, 7, 8, 9, 10, 11, 12, 13, 14, 15, 16, 17, 18, 19] rfl
  exact W.vret hx hb hr (fun t ht hW => ⟨⟨q_sw s1, rfl, Option.some.inj h, by dsimp only; rw [ht]; exact hP9⟩, hS.F ht⟩) hS.2.2 dX8_think_29 hlocks
