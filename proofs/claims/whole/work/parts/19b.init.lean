def ad_N (h0 : Nat) (u1 u2 u3 : Nat → Nat) : Nat → Nat := fun k => cond (Nat.beq k 0) h0 (cond (Nat.blt k 8) (u1 (k - 1)) (cond (Nat.blt k 15) (u2 (k - 8)) (u3 (k - 15))))
def m0_N : qM := fun k => cond (Nat.beq k 0) (fun _ => 0) (cond (Nat.blt k 8) (m0_T (k - 1)) (cond (Nat.blt k 15) (m0_T (k - 8)) (fun _ => 0)))
def nN (U : State) : Prop := va_Nw (.methodLinkNest RX3 23 yX2_init RX7) U
def nV (U : State) : Prop := va_AO RX1 U ∧ nN U ∧ va_Nw (.methodLinkNest RX7 11 yX3_init RX7) U ∧ va_Nw (.methodLinkNest RX7 27 yX6_init RX7) U ∧ va_Nw (.methodLinkNest RX7 34 yX0_init RX7) U ∧ va_Nw (.methodLinkNest RX7 41 yX5_init RX7) U ∧ va_Nw (.methodLinkNest RX7 52 yX1_init RX7) U
theorem nN_warm {s U : State} (hW : s.WarmedH U.vm) (h : nN s) : nN U := va_Nw.warmM hW h
theorem nV_warm {s U : State} (hW : s.WarmedH U.vm) (h : nV s) : nV U := ⟨h.1.moved hW.alike, nN_warm hW h.2.1, va_Nw.warmM hW h.2.2.1, va_Nw.warmM hW h.2.2.2.1, va_Nw.warmM hW h.2.2.2.2.1, va_Nw.warmM hW h.2.2.2.2.2.1, va_Nw.warmM hW h.2.2.2.2.2.2⟩
theorem nN_call {U : State} {g : JFrame} {mk : MethodId} {a : Array Value} (h : nN U) : nN (U.calling g mk a) := va_Nw.same rfl rfl h
theorem nV_call {U : State} {g : JFrame} {mk : MethodId} {a : Array Value} (h : nV U) : nV (U.calling g mk a) := ⟨va_AO.moved (u := U) (U := U.calling g mk a) (Vm.Alike.refl U.vm) h.1, nN_call h.2.1, va_Nw.same rfl rfl h.2.2.1, va_Nw.same rfl rfl h.2.2.2.1, va_Nw.same rfl rfl h.2.2.2.2.1, va_Nw.same rfl rfl h.2.2.2.2.2.1, va_Nw.same rfl rfl h.2.2.2.2.2.2⟩
theorem q_blindX {X : State → Prop} (hX : ∀ (U : State) (g : JFrame) (mk : MethodId) (a : Array Value), X U → X (U.calling g mk a)) {av : List Value} {D : va_G} {tys : List (ClassId × FieldType)} {w : va_W} {sz : Nat} : FrameBlind (va_Pc av (fun U => X U ∧ q_Pre D tys w sz U)) := fun a U g mk q => by
  obtain ⟨q0, qA, q1, qP, qK, qD⟩ := q
  exact ⟨q0, hX U g mk a qA, q1, qP, va_K.moved (u := U) (U := U.calling g mk a) (Vm.Alike.refl U.vm) qK, qD⟩
theorem q_blindN {av : List Value} {D : va_G} {tys : List (ClassId × FieldType)} {w : va_W} {sz : Nat} : FrameBlind (va_Pc av (fun U => nN U ∧ q_Pre D tys w sz U)) := q_blindX (fun _ _ _ _ h => nN_call h)
theorem q_blindV {av : List Value} {D : va_G} {tys : List (ClassId × FieldType)} {w : va_W} {sz : Nat} : FrameBlind (va_Pc av (fun U => nV U ∧ q_Pre D tys w sz U)) := q_blindX (fun _ _ _ _ h => nV_call h)
theorem q_preU0 {s : State} {H : Heap} {D : va_G} {tys : List (ClassId × FieldType)} {w : va_W} {A : Nat → Prop} (hK : va_K D vwCl tys s) (hP : va_P D vwCl w H) (hD : va_D A w) : ∀ U : State, U.heap = H → s.WarmedH U.vm → q_Pre D tys w H.size U := fun U hU hW => ⟨by rw [hU], by rw [hU]; exact hP, va_K.moved hW.alike hK, hD.weaken (fun _ _ _ _ => trivial)⟩
def q_InN (l : Launch) (y : MethodName) (ws : List Cond) (rm : Room) (D : va_G) (tys : List (ClassId × FieldType)) (ci : Nat) (fs0 : List Value) (pic : (Nat → Nat) → qM → va_W) (σ0 : qM) (mc ms : Nat) : Prop := ∀ (h0 sz : Nat), Met l y ws rm (va_Pc [.ref h0] (fun U => nN U ∧ q_Pre D tys [(h0, .inr (ci, fs0))] sz U)) (va_Qv (fun u : Nat → Nat => u 0 = h0) (fun u t => va_P D vwCl (pic u σ0) t.heap ∧ va_D (va_A [(h0, .inr (ci, fs0))] sz) (pic u σ0)) (va_A [(h0, .inr (ci, fs0))] sz)) mc ms (va_A [(h0, .inr (ci, fs0))] sz)
theorem x_ofInN {l : Launch} {y : MethodName} {ws ws' : List Cond} {rm : Room} {D : va_G} {tys : List (ClassId × FieldType)} {ci : Nat} {fs0 : List Value} {pic : (Nat → Nat) → qM → va_W} {σ0 : qM} {mc ms : Nat} {cc : ByteArray} {maxL : Nat} (hy : plainName y.cls = true) (hw : ws = Cond.code y cc maxL none :: ws') (hlen : ∀ h0 : Nat, (lg_sl [Value.ref h0]).length ≤ maxL)
    (body : ∀ (p : Program) (e : Env) (s : State) (m : MethodId) (below : List Frame) (meth : Method) (c : Code) (A : Nat → Prop) (ls : Array Slot) (h0 : Nat), p.tables.exec = Jvm.exec → c.code = cc → c.maxLocals = maxL → meth.sig.returnType = none → meth.locks = false → meth.name = y.name → s.vm.findClass y.cls = some m.cls → (∀ w ∈ ws, w.before [Value.ref h0].toArray s = true) → nN s → va_K D vwCl tys s → va_P D vwCl [(h0, .inr (ci, fs0))] s.heap → va_D A [(h0, .inr (ci, fs0))] → (∀ q : Nat, s.heap.size ≤ q → A q) → va_S A s.heap s.heap [] → lv_has ls maxL [(0, .ref h0)] →
      W p l e rm s m [Value.ref h0].toArray below meth c s.heap [] 0 0 (MQ below (va_Qv (fun u : Nat → Nat => u 0 = h0) (fun u t => va_P D vwCl (pic u σ0) t.heap ∧ va_D A (pic u σ0)) A) [Value.ref h0].toArray s mc ms A) (F0 m 0 ls [])) : q_InN l y ws rm D tys ci fs0 pic σ0 mc ms := by
  intro h0 sz
  refine Met.ofW (cc := cc) (maxL := maxL) (ret := none) hy hw ?_
  intro p e s m args below meth c s₁ B hml hv
  obtain ⟨rfl, hN, hsz, hP, hK, hD0⟩ := hv
  have hts := atoms_spec (ws := ws) B.pre
  have hown : s.vm.findClass y.cls = some m.cls := findClass_of_methodNamed B.named
  have hin : meth.name = y.name := (name_of_methodNamed B.named B.method).1
  subst hsz
  have hD := hD0.self (sz := s.heap.size)
  have hl := lv_entry [Value.ref h0] (n := maxL) (hlen h0)
  rw [lg_entry_eq]
  exact body p e s m below meth c _ _ h0 B.exec B.bytes hml B.returns B.notSynchronized hin hown hts hN hK hP hD (fun q h => Or.inr h) va_S.rf hl
theorem i_X3_init : yX3_init.cls ≠ "java/lang/invoke/MethodHandle" ∧ yX3_init.cls ≠ "java/lang/invoke/VarHandle" ∧ (parseMethodDescriptor yX3_init.desc).map (fun d => d.parameters.length) = some 0 := by decide +kernel
theorem k_X3_init_cl21 : Cond.classLink RX3 21 RX2 ∈ wsX3_init := by decide +kernel
theorem k_X3_init_cl9 : Cond.classLink RX3 9 RX4 ∈ wsX3_init := by decide +kernel
theorem k_X3_init_f12 : Cond.fieldLink RX3 12 RX3 "tables" "LVectorRounds$Tables;" ∈ wsX3_init := by decide +kernel
theorem k_X3_init_f18 : Cond.fieldLink RX3 18 RX3 "before" "LVectorRounds$Tables;" ∈ wsX3_init := by decide +kernel
theorem k_X3_init_f24 : Cond.fieldLink RX3 24 RX3 "links" "LVectorRounds$Links;" ∈ wsX3_init := by decide +kernel
theorem k_X3_init_im2 : Cond.instanceMethod yX2_init ∈ wsX3_init := by decide +kernel
theorem k_X3_init_im4 : Cond.instanceMethod yX4_init ∈ wsX3_init := by decide +kernel
theorem k_X3_init_in2 : Cond.instantiable RX2 6 ∈ wsX3_init := by decide +kernel
theorem k_X3_init_in4 : Cond.instantiable RX4 6 ∈ wsX3_init := by decide +kernel
theorem k_X3_init_it2 : Cond.initialized RX2 ∈ wsX3_init := by decide +kernel
theorem k_X3_init_it4 : Cond.initialized RX4 ∈ wsX3_init := by decide +kernel
theorem k_X3_init_ml11 : Cond.methodLink RX3 11 yX4_init ∈ wsX3_init := by decide +kernel
theorem k_X3_init_o1 : Cond.methodLink RX3 3 objectInit ∈ wsX3_init := by decide +kernel
theorem k_X3_init_o2 : Cond.instanceMethod objectInit ∈ wsX3_init := by decide +kernel
theorem k_X3_init_o3 : Cond.code objectInit ⟨#[0xb1]⟩ 1 none ∈ wsX3_init := by decide +kernel
theorem u_X3_init_2 : ∀ w ∈ u_ws RX2 TX2 6, w ∈ wsX3_init := by decide +kernel
theorem u_X3_init_3 : ∀ w ∈ u_ws RX3 TX3 9, w ∈ wsX3_init := by decide +kernel
theorem u_X3_init_4 : ∀ w ∈ u_ws RX4 TX4 6, w ∈ wsX3_init := by decide +kernel
set_option maxHeartbeats 8000000 in
set_option maxRecDepth 100000 in
theorem c_X3_init (l : Launch) (D : va_G) (cI : ClassId) (tys : List (ClassId × FieldType)) (ht : tys[0]? = some (cI, .int)) : q_InN l yX3_init wsX3_init ({ frames := 2, cells := 20, slots := 1234, locals := 43 }) D tys 3 [.null, .null, .null, .int 0, .int 0, .int 0, .int 0, .int 0, .int 0] (p_N cI) m0_N 20 1234 := by
  refine x_ofInN (cc := cX3_init) (maxL := 1) (by decide +kernel) rfl (fun _ => Nat.le_of_ble_eq_true rfl) ?_
  intro p e s m below meth c A ls h0 hx hb hml hr hlocks hin hown hts hN hK hP hD hA hS hl
  have hown : s.vm.findClass RX3 = some m.cls := hown
  have hin : meth.name = "<init>" := hin
  refine lv_aload_n hx hb dX3_init_0 rfl (lv_at hl 0 rfl) ?_
  refine W.objInit hx hb hown (hts _ k_X3_init_o1) (hts _ k_X3_init_o2) (hts _ k_X3_init_o3) rfl (by rw [hml]; exact hl.1) rfl dX3_init_1 (Nat.le_of_ble_eq_true rfl) (Nat.le_of_ble_eq_true rfl) ?_
  refine W.eq (g2 := F0 m 4 ls []) rfl ?_
  refine lv_aload_n hx hb dX3_init_4 rfl (lv_at hl 0 rfl) ?_
  refine va_new (ci := 4) (fs := [.null, .null, .null, .null, .null, .null]) (C := RX4) (T := TX4) (N := 6) hx hb hts u_X3_init_4 tyX4 tyX4_ok hown (hts _ k_X3_init_cl9) (hts _ k_X3_init_in4) (hts _ k_X3_init_it4) hK hP hD hS hA rfl (fun j hj => by rcases (show j = 0 ∨ j = 1 ∨ j = 2 ∨ j = 3 ∨ j = 4 ∨ j = 5 by omega) with rfl | rfl | rfl | rfl | rfl | rfl <;> rfl) (Nat.le_of_ble_eq_true rfl) (Nat.le_of_ble_eq_true rfl) dX3_init_5 (fun q5_4 H hP hD hS => ?_)
  refine W.widen (k := 1) (n := 6) (by omega) (by omega) ?_
  refine lv_dup hx hb dX3_init_8 rfl ?_
  have hPc := hP.sub (ws' := [(q5_4, .inr (4, [.null, .null, .null, .null, .null, .null]))]) [1] rfl
  have hDc := hD.sub (ws' := [(q5_4, .inr (4, [.null, .null, .null, .null, .null, .null]))]) [1] (by decide) rfl
  have hFc := va_free (wc := [(q5_4, .inr (4, [.null, .null, .null, .null, .null, .null]))]) hD hS hA [1] rfl
  refine va_callv (va_runI (As := []) (rest := [.ref q5_4, .ref h0]) ⟨hx, hb, hml, hown, hts⟩ (c_X4_init l D cI tys ht q5_4 H.size) (cwI 0 hts gX3_init_X4_init rfl rfl rfl (hts _ k_X3_init_it4) (hts _ k_X3_init_ml11) (hts _ k_X3_init_im4) rfl i_X4_init ⟨Nat.le_of_ble_eq_true rfl, Nat.le_of_ble_eq_true rfl⟩) ⟨q_blind, q_preU hK hPc hDc⟩ rfl rfl hl.1 rfl (lv_room (Nat.le_of_ble_eq_true rfl)) dX3_init_9 ⟨Nat.le_of_ble_eq_true rfl, Nat.le_of_ble_eq_true rfl⟩) hS (fun q _ h => hFc q h) hFc (fun u0 t H1 locs ht9 hvm hw hB hz1 hk1 hS => ?_)
  obtain ⟨hP1, hD1⟩ := hB
  rw [ht9] at hP1
  obtain ⟨hPn, hDn⟩ := va_join (wr := ((h0, .inr (3, [.null, .null, .null, .int 0, .int 0, .int 0, .int 0, .int 0, .int 0])) :: [])) (w1 := p_T cI u0 m0_T) hP hD [1] [0] rfl rfl (by decide +kernel) (by decide +kernel) hk1 hFc hP1 hD1
  have hw : u0 0 = q5_4 := hw
  subst hw
  generalize H1 = H at hPn hS ⊢
  have hP := hPn
  have hD := hDn
  refine W.widen (k := 7) (n := 516) (by omega) (by omega) ?_
  have hP : va_P D vwCl ((h0, .inr (3, [.null, .null, .null, .int 0, .int 0, .int 0, .int 0, .int 0, .int 0])) :: (p_T cI u0 m0_T)) H := hP
  have hD : va_D A ((h0, .inr (3, [.null, .null, .null, .int 0, .int 0, .int 0, .int 0, .int 0, .int 0])) :: (p_T cI u0 m0_T)) := hD
  refine va_putF (D := D) (ci := 3) (v := .ref (u0 0)) (ty := .object "VectorRounds$Tables") (C := RX3) (T := TX3) (N := 9) hx hb hts u_X3_init_3 tyX3 tyX3_ok nmX3 hown hK hP hD hS 0 rfl rfl 0 (by decide) (ref := RX3) (hts _ k_X3_init_f12) (fun _ h9 => h9) rfl hin rfl (by decide +kernel) rfl rfl (Nat.le_of_ble_eq_true rfl) dX3_init_12 (fun H locs hP hD hS => ?_)
  have hP : va_P D vwCl ((h0, .inr (3, [.ref (u0 0), .null, .null, .int 0, .int 0, .int 0, .int 0, .int 0, .int 0])) :: (p_T cI u0 m0_T)) H := hP
  have hD : va_D A ((h0, .inr (3, [.ref (u0 0), .null, .null, .int 0, .int 0, .int 0, .int 0, .int 0, .int 0])) :: (p_T cI u0 m0_T)) := hD
  refine lv_aload_n hx hb dX3_init_15 rfl (lv_at hl 0 rfl) ?_
  refine va_new (ci := 4) (fs := [.null, .null, .null, .null, .null, .null]) (C := RX4) (T := TX4) (N := 6) hx hb hts u_X3_init_4 tyX4 tyX4_ok hown (hts _ k_X3_init_cl9) (hts _ k_X3_init_in4) (hts _ k_X3_init_it4) hK hP hD hS hA rfl (fun j hj => by rcases (show j = 0 ∨ j = 1 ∨ j = 2 ∨ j = 3 ∨ j = 4 ∨ j = 5 by omega) with rfl | rfl | rfl | rfl | rfl | rfl <;> rfl) (Nat.le_of_ble_eq_true rfl) (Nat.le_of_ble_eq_true rfl) dX3_init_16 (fun q16_9 H hP hD hS => ?_)
  refine W.widen (k := 8) (n := 522) (by omega) (by omega) ?_
  refine lv_dup hx hb dX3_init_19 rfl ?_
  have hPc := hP.sub (ws' := [(q16_9, .inr (4, [.null, .null, .null, .null, .null, .null]))]) [8] rfl
  have hDc := hD.sub (ws' := [(q16_9, .inr (4, [.null, .null, .null, .null, .null, .null]))]) [8] (by decide) rfl
  have hFc := va_free (wc := [(q16_9, .inr (4, [.null, .null, .null, .null, .null, .null]))]) hD hS hA [8] rfl
  refine va_callv (va_runI (As := []) (rest := [.ref q16_9, .ref h0]) ⟨hx, hb, hml, hown, hts⟩ (c_X4_init l D cI tys ht q16_9 H.size) (cwI 0 hts gX3_init_X4_init rfl rfl rfl (hts _ k_X3_init_it4) (hts _ k_X3_init_ml11) (hts _ k_X3_init_im4) rfl i_X4_init ⟨Nat.le_of_ble_eq_true rfl, Nat.le_of_ble_eq_true rfl⟩) ⟨q_blind, q_preU hK hPc hDc⟩ rfl rfl hl.1 rfl (lv_room (Nat.le_of_ble_eq_true rfl)) dX3_init_20 ⟨Nat.le_of_ble_eq_true rfl, Nat.le_of_ble_eq_true rfl⟩) hS (fun q _ h => hFc q h) hFc (fun u1 t H1 locs ht9 hvm hw hB hz1 hk1 hS => ?_)
  obtain ⟨hP1, hD1⟩ := hB
  rw [ht9] at hP1
  obtain ⟨hPn, hDn⟩ := va_join (wr := ((h0, .inr (3, [.ref (u0 0), .null, .null, .int 0, .int 0, .int 0, .int 0, .int 0, .int 0])) :: (p_T cI u0 m0_T))) (w1 := p_T cI u1 m0_T) hP hD [8] [0, 1, 2, 3, 4, 5, 6, 7] rfl rfl (by decide +kernel) (by decide +kernel) hk1 hFc hP1 hD1
  have hw : u1 0 = q16_9 := hw
  subst hw
  generalize H1 = H at hPn hS ⊢
  have hP := hPn
  have hD := hDn
  refine W.widen (k := 14) (n := 1032) (by omega) (by omega) ?_
  have hP : va_P D vwCl ((h0, .inr (3, [.ref (u0 0), .null, .null, .int 0, .int 0, .int 0, .int 0, .int 0, .int 0])) :: (p_T cI u0 m0_T ++ (p_T cI u1 m0_T))) H := hP
  have hD : va_D A ((h0, .inr (3, [.ref (u0 0), .null, .null, .int 0, .int 0, .int 0, .int 0, .int 0, .int 0])) :: (p_T cI u0 m0_T ++ (p_T cI u1 m0_T))) := hD
  refine va_putF (D := D) (ci := 3) (v := .ref (u1 0)) (ty := .object "VectorRounds$Tables") (C := RX3) (T := TX3) (N := 9) hx hb hts u_X3_init_3 tyX3 tyX3_ok nmX3 hown hK hP hD hS 0 rfl rfl 1 (by decide) (ref := RX3) (hts _ k_X3_init_f18) (fun _ h9 => h9) rfl hin rfl (by decide +kernel) rfl rfl (Nat.le_of_ble_eq_true rfl) dX3_init_23 (fun H locs hP hD hS => ?_)
  have hP : va_P D vwCl ((h0, .inr (3, [.ref (u0 0), .ref (u1 0), .null, .int 0, .int 0, .int 0, .int 0, .int 0, .int 0])) :: (p_T cI u0 m0_T ++ (p_T cI u1 m0_T))) H := hP
  have hD : va_D A ((h0, .inr (3, [.ref (u0 0), .ref (u1 0), .null, .int 0, .int 0, .int 0, .int 0, .int 0, .int 0])) :: (p_T cI u0 m0_T ++ (p_T cI u1 m0_T))) := hD
  refine lv_aload_n hx hb dX3_init_26 rfl (lv_at hl 0 rfl) ?_
  refine va_new (ci := 2) (fs := [.null, .null, .null, .null, .null, .int 0]) (C := RX2) (T := TX2) (N := 6) hx hb hts u_X3_init_2 tyX2 tyX2_ok hown (hts _ k_X3_init_cl21) (hts _ k_X3_init_in2) (hts _ k_X3_init_it2) hK hP hD hS hA rfl (fun j hj => by rcases (show j = 0 ∨ j = 1 ∨ j = 2 ∨ j = 3 ∨ j = 4 ∨ j = 5 by omega) with rfl | rfl | rfl | rfl | rfl | rfl <;> rfl) (Nat.le_of_ble_eq_true rfl) (Nat.le_of_ble_eq_true rfl) dX3_init_27 (fun q27_14 H hP hD hS => ?_)
  refine W.widen (k := 15) (n := 1038) (by omega) (by omega) ?_
  refine lv_dup hx hb dX3_init_30 rfl ?_
  have hPc := hP.sub (ws' := [(q27_14, .inr (2, [.null, .null, .null, .null, .null, .int 0]))]) [15] rfl
  have hDc := hD.sub (ws' := [(q27_14, .inr (2, [.null, .null, .null, .null, .null, .int 0]))]) [15] (by decide) rfl
  have hFc := va_free (wc := [(q27_14, .inr (2, [.null, .null, .null, .null, .null, .int 0]))]) hD hS hA [15] rfl
  refine va_callv (va_runIN (As := []) (rest := [.ref q27_14, .ref h0]) ⟨hx, hb, hml, hown, hts⟩ (c_X2_init l D cI tys ht q27_14 H.size) ⟨va_cnB 0 hts gX3_init_X2_init_n23 rfl rfl rfl hN (hts _ k_X3_init_it2) i_X2_init ⟨Nat.le_of_ble_eq_true rfl, Nat.le_of_ble_eq_true rfl⟩, rfl, hts _ k_X3_init_im2⟩ ⟨q_blind, q_preU hK hPc hDc⟩ rfl rfl hl.1 rfl (lv_room (Nat.le_of_ble_eq_true rfl)) dX3_init_31 ⟨Nat.le_of_ble_eq_true rfl, Nat.le_of_ble_eq_true rfl⟩) hS (fun q _ h => hFc q h) hFc (fun u2 t H1 locs ht9 hvm hw hB hz1 hk1 hS => ?_)
  obtain ⟨hP1, hD1⟩ := hB
  rw [ht9] at hP1
  obtain ⟨hPn, hDn⟩ := va_join (wr := ((h0, .inr (3, [.ref (u0 0), .ref (u1 0), .null, .int 0, .int 0, .int 0, .int 0, .int 0, .int 0])) :: (p_T cI u0 m0_T ++ (p_T cI u1 m0_T)))) (w1 := p_L cI u2 (fun _ _ => 0)) hP hD [15] [0, 1, 2, 3, 4, 5, 6, 7, 8, 9, 10, 11, 12, 13, 14] rfl rfl (by decide +kernel) (by decide +kernel) hk1 hFc hP1 hD1
  have hw : u2 0 = q27_14 := hw
  subst hw
  generalize H1 = H at hPn hS ⊢
  have hP := hPn
  have hD := hDn
  refine W.widen (k := 20) (n := 1234) (by omega) (by omega) ?_
  have hP : va_P D vwCl ((h0, .inr (3, [.ref (u0 0), .ref (u1 0), .null, .int 0, .int 0, .int 0, .int 0, .int 0, .int 0])) :: (p_T cI u0 m0_T ++ (p_T cI u1 m0_T ++ (p_L cI u2 (fun _ _ => 0))))) H := hP
  have hD : va_D A ((h0, .inr (3, [.ref (u0 0), .ref (u1 0), .null, .int 0, .int 0, .int 0, .int 0, .int 0, .int 0])) :: (p_T cI u0 m0_T ++ (p_T cI u1 m0_T ++ (p_L cI u2 (fun _ _ => 0))))) := hD
  refine va_putF (D := D) (ci := 3) (v := .ref (u2 0)) (ty := .object "VectorRounds$Links") (C := RX3) (T := TX3) (N := 9) hx hb hts u_X3_init_3 tyX3 tyX3_ok nmX3 hown hK hP hD hS 0 rfl rfl 2 (by decide) (ref := RX3) (hts _ k_X3_init_f24) (fun _ h9 => h9) rfl hin rfl (by decide +kernel) rfl rfl (Nat.le_of_ble_eq_true rfl) dX3_init_34 (fun H locs hP hD hS => ?_)
  have hP : va_P D vwCl ((h0, .inr (3, [.ref (u0 0), .ref (u1 0), .ref (u2 0), .int 0, .int 0, .int 0, .int 0, .int 0, .int 0])) :: (p_T cI u0 m0_T ++ (p_T cI u1 m0_T ++ (p_L cI u2 (fun _ _ => 0))))) H := hP
  have hD : va_D A ((h0, .inr (3, [.ref (u0 0), .ref (u1 0), .ref (u2 0), .int 0, .int 0, .int 0, .int 0, .int 0, .int 0])) :: (p_T cI u0 m0_T ++ (p_T cI u1 m0_T ++ (p_L cI u2 (fun _ _ => 0))))) := hD
  have hP : va_P D vwCl (p_N cI (ad_N h0 u0 u1 u2) m0_N) H := hP
  have hD : va_D A (p_N cI (ad_N h0 u0 u1 u2) m0_N) := hD
  exact W.vret hx hb hr (fun t ht9 hW => ⟨⟨(ad_N h0 u0 u1 u2), rfl, rfl, by rw [ht9]; exact hP, hD⟩, hS.F ht9⟩) hS.2.2 dX3_init_37 hlocks
def ad_V (h0 : Nat) (u0 u1 u2 u3 u4 u5 u6 u7 u8 u9 u10 u11 u12 : Nat → Nat) (qh : Nat) : Nat → Nat := fun k => cond (Nat.beq k 0) h0 (cond (Nat.blt k 22) (u0 (k - 1)) (cond (Nat.blt k 43) (u1 (k - 22)) (cond (Nat.blt k 64) (u2 (k - 43)) (cond (Nat.blt k 85) (u3 (k - 64)) (cond (Nat.blt k 87) (u4 (k - 85)) (cond (Nat.blt k 89) (u5 (k - 87)) (cond (Nat.blt k 93) (u6 (k - 89)) (cond (Nat.beq k 93) qh (cond (Nat.blt k 96) (u7 (k - 94)) (cond (Nat.blt k 98) (u8 (k - 96)) (cond (Nat.blt k 100) (u9 (k - 98)) (cond (Nat.blt k 102) (u10 (k - 100)) (cond (Nat.blt k 104) (u11 (k - 102)) (u12 (k - 104)))))))))))))))
def m0_V : qM := fun k => cond (Nat.beq k 0) (fun _ => 0) (cond (Nat.blt k 22) (m0_N (k - 1)) (cond (Nat.blt k 43) (m0_N (k - 22)) (cond (Nat.blt k 64) (m0_N (k - 43)) (cond (Nat.blt k 85) (m0_N (k - 64)) (fun _ => 0)))))
theorem q_hold {D : va_G} {cl : List vw_C} {w w' : va_W} {H : Heap} {cO : ClassId} {qh n : Nat} {f f' : Nat → Option Nat} (hP : va_P D cl w H) (h0 : 0 < 6) (k : Nat) (hk : w[k]? = some (qh, .inl (cO, n, .inr (.inr (.inr (.inr f)))))) (hw : w.set k (qh, .inl (cO, n, .inr (.inr (.inr (.inr f'))))) = w') (hf : ∀ j, j < n → f j = f' j) : va_P D cl w' H := by
  subst hw
  intro i q hi
  by_cases h : i = k
  · subst h
    rw [List.getElem?_set_self (List.getElem?_eq_some_iff.mp hk).1] at hi
    cases hi
    have h1 : H[qh]? = some (vp_cell cO (n, .inr (.inr (.inr (.inr f))))) := hP i _ hk
    show H[qh]? = some (vp_cell cO (n, .inr (.inr (.inr (.inr f')))))
    rw [h1, vp_cell_q, vp_cell_q]
    unfold arrV
    congr 3
    funext j
    show va_rf (f j.val) = va_rf (f' j.val)
    rw [hf j.val j.isLt]
  · rw [List.getElem?_set_ne (Ne.symm h)] at hi
    exact hP i q hi
def q_InV (l : Launch) (y : MethodName) (ws : List Cond) (rm : Room) (D : va_G) (cI : ClassId) (fs0 : List Value) (mc ms : Nat) : Prop := ∀ (h0 sz : Nat), Met l y ws rm (va_Pc [.ref h0] (fun U => nV U ∧ q_Pre D [(cI, .int)] [(h0, .inr (7, fs0))] sz U)) (va_Qv (fun u : Nat → Nat => u 0 = h0) (fun u t => ∃ cO : ClassId, va_K D vwCl [(cI, .int), (cO, .object RX1)] t ∧ va_P D vwCl (p_V cI cO u m0_V) t.heap ∧ va_D (va_A [(h0, .inr (7, fs0))] sz) (p_V cI cO u m0_V)) (va_A [(h0, .inr (7, fs0))] sz)) mc ms (va_A [(h0, .inr (7, fs0))] sz)
theorem x_ofInV {l : Launch} {y : MethodName} {ws ws' : List Cond} {rm : Room} {D : va_G} {cI : ClassId} {fs0 : List Value} {mc ms : Nat} {cc : ByteArray} {maxL : Nat} (hy : plainName y.cls = true) (hw : ws = Cond.code y cc maxL none :: ws') (hlen : ∀ h0 : Nat, (lg_sl [Value.ref h0]).length ≤ maxL)
    (body : ∀ (p : Program) (e : Env) (s : State) (m : MethodId) (below : List Frame) (meth : Method) (c : Code) (A : Nat → Prop) (ls : Array Slot) (h0 : Nat), p.tables.exec = Jvm.exec → c.code = cc → c.maxLocals = maxL → meth.sig.returnType = none → meth.locks = false → meth.name = y.name → s.vm.findClass y.cls = some m.cls → (∀ w ∈ ws, w.before [Value.ref h0].toArray s = true) → nV s → va_K D vwCl [(cI, .int)] s → va_P D vwCl [(h0, .inr (7, fs0))] s.heap → va_D A [(h0, .inr (7, fs0))] → (∀ q : Nat, s.heap.size ≤ q → A q) → va_S A s.heap s.heap [] → lv_has ls maxL [(0, .ref h0)] →
      W p l e rm s m [Value.ref h0].toArray below meth c s.heap [] 0 0 (MQ below (va_Qv (fun u : Nat → Nat => u 0 = h0) (fun u t => ∃ cO : ClassId, va_K D vwCl [(cI, .int), (cO, .object RX1)] t ∧ va_P D vwCl (p_V cI cO u m0_V) t.heap ∧ va_D A (p_V cI cO u m0_V)) A) [Value.ref h0].toArray s mc ms A) (F0 m 0 ls [])) : q_InV l y ws rm D cI fs0 mc ms := by
  intro h0 sz
  refine Met.ofW (cc := cc) (maxL := maxL) (ret := none) hy hw ?_
  intro p e s m args below meth c s₁ B hml hv
  obtain ⟨rfl, hAO, hsz, hP, hK, hD0⟩ := hv
  have hts := atoms_spec (ws := ws) B.pre
  have hown : s.vm.findClass y.cls = some m.cls := findClass_of_methodNamed B.named
  have hin : meth.name = y.name := (name_of_methodNamed B.named B.method).1
  subst hsz
  have hD := hD0.self (sz := s.heap.size)
  have hl := lv_entry [Value.ref h0] (n := maxL) (hlen h0)
  rw [lg_entry_eq]
  exact body p e s m below meth c _ _ h0 B.exec B.bytes hml B.returns B.notSynchronized hin hown hts hAO hK hP hD (fun q h => Or.inr h) va_S.rf hl
theorem i_X7_init : yX7_init.cls ≠ "java/lang/invoke/MethodHandle" ∧ yX7_init.cls ≠ "java/lang/invoke/VarHandle" ∧ (parseMethodDescriptor yX7_init.desc).map (fun d => d.parameters.length) = some 0 := by decide +kernel
theorem k_X7_init_cl25 : Cond.classLink RX7 25 RX6 ∈ wsX7_init := by decide +kernel
theorem k_X7_init_cl32 : Cond.classLink RX7 32 RX0 ∈ wsX7_init := by decide +kernel
theorem k_X7_init_cl39 : Cond.classLink RX7 39 RX5 ∈ wsX7_init := by decide +kernel
theorem k_X7_init_cl46 : Cond.classLink RX7 46 RX1 ∈ wsX7_init := by decide +kernel
theorem k_X7_init_cl9 : Cond.classLink RX7 9 RX3 ∈ wsX7_init := by decide +kernel
theorem k_X7_init_f12 : Cond.fieldLink RX7 12 RX7 "now" "LVectorRounds$Network;" ∈ wsX7_init := by decide +kernel
theorem k_X7_init_f16 : Cond.fieldLink RX7 16 RX7 "thought" "LVectorRounds$Network;" ∈ wsX7_init := by decide +kernel
theorem k_X7_init_f19 : Cond.fieldLink RX7 19 RX7 "kept" "LVectorRounds$Network;" ∈ wsX7_init := by decide +kernel
theorem k_X7_init_f22 : Cond.fieldLink RX7 22 RX7 "ahead" "LVectorRounds$Network;" ∈ wsX7_init := by decide +kernel
theorem k_X7_init_f28 : Cond.fieldLink RX7 28 RX7 "path" "LVectorRounds$Way;" ∈ wsX7_init := by decide +kernel
theorem k_X7_init_f35 : Cond.fieldLink RX7 35 RX7 "least" "LVectorRounds$Distances;" ∈ wsX7_init := by decide +kernel
theorem k_X7_init_f42 : Cond.fieldLink RX7 42 RX7 "tape" "LVectorRounds$Tape;" ∈ wsX7_init := by decide +kernel
theorem k_X7_init_f48 : Cond.fieldLink RX7 48 RX7 "holders" "[LVectorRounds$Holder;" ∈ wsX7_init := by decide +kernel
theorem k_X7_init_im0 : Cond.instanceMethod yX0_init ∈ wsX7_init := by decide +kernel
theorem k_X7_init_im1 : Cond.instanceMethod yX1_init ∈ wsX7_init := by decide +kernel
theorem k_X7_init_im3 : Cond.instanceMethod yX3_init ∈ wsX7_init := by decide +kernel
theorem k_X7_init_im5 : Cond.instanceMethod yX5_init ∈ wsX7_init := by decide +kernel
theorem k_X7_init_im6 : Cond.instanceMethod yX6_init ∈ wsX7_init := by decide +kernel
theorem k_X7_init_in0 : Cond.instantiable RX0 1 ∈ wsX7_init := by decide +kernel
theorem k_X7_init_in1 : Cond.instantiable RX1 8 ∈ wsX7_init := by decide +kernel
theorem k_X7_init_in3 : Cond.instantiable RX3 9 ∈ wsX7_init := by decide +kernel
theorem k_X7_init_in5 : Cond.instantiable RX5 6 ∈ wsX7_init := by decide +kernel
theorem k_X7_init_in6 : Cond.instantiable RX6 3 ∈ wsX7_init := by decide +kernel
theorem k_X7_init_it0 : Cond.initialized RX0 ∈ wsX7_init := by decide +kernel
theorem k_X7_init_it1 : Cond.initialized RX1 ∈ wsX7_init := by decide +kernel
theorem k_X7_init_it3 : Cond.initialized RX3 ∈ wsX7_init := by decide +kernel
theorem k_X7_init_it5 : Cond.initialized RX5 ∈ wsX7_init := by decide +kernel
theorem k_X7_init_it6 : Cond.initialized RX6 ∈ wsX7_init := by decide +kernel
theorem k_X7_init_o1 : Cond.methodLink RX7 3 objectInit ∈ wsX7_init := by decide +kernel
theorem k_X7_init_o2 : Cond.instanceMethod objectInit ∈ wsX7_init := by decide +kernel
theorem k_X7_init_o3 : Cond.code objectInit ⟨#[0xb1]⟩ 1 none ∈ wsX7_init := by decide +kernel
theorem u_X7_init_0 : ∀ w ∈ u_ws RX0 TX0 1, w ∈ wsX7_init := by decide +kernel
theorem u_X7_init_1 : ∀ w ∈ u_ws RX1 TX1 8, w ∈ wsX7_init := by decide +kernel
theorem u_X7_init_3 : ∀ w ∈ u_ws RX3 TX3 9, w ∈ wsX7_init := by decide +kernel
theorem u_X7_init_5 : ∀ w ∈ u_ws RX5 TX5 6, w ∈ wsX7_init := by decide +kernel
theorem u_X7_init_6 : ∀ w ∈ u_ws RX6 TX6 3, w ∈ wsX7_init := by decide +kernel
theorem u_X7_init_7 : ∀ w ∈ u_ws RX7 TX7 9, w ∈ wsX7_init := by decide +kernel
set_option maxHeartbeats 8000000 in
set_option maxRecDepth 100000 in
theorem c_X7_init (l : Launch) (D : va_G) (cI : ClassId) : q_InV l yX7_init wsX7_init ({ frames := 3, cells := 105, slots := 6016, locals := 63 }) D cI [.null, .null, .null, .null, .null, .null, .null, .null, .int 0] 105 6016 := by
  refine x_ofInV (cc := cX7_init) (maxL := 2) (by decide +kernel) rfl (fun _ => Nat.le_of_ble_eq_true rfl) ?_
  intro p e s m below meth c A ls h0 hx hb hml hr hlocks hin hown hts hNV hK hP hD hA hS hl
  obtain ⟨hAO, hN, hN11, hN27, hN34, hN41, hN52⟩ := hNV
  have hown : s.vm.findClass RX7 = some m.cls := hown
  have hin : meth.name = "<init>" := hin
  refine lv_aload_n hx hb dX7_init_0 rfl (lv_at hl 0 rfl) ?_
  refine W.objInit hx hb hown (hts _ k_X7_init_o1) (hts _ k_X7_init_o2) (hts _ k_X7_init_o3) rfl (by rw [hml]; exact hl.1) rfl dX7_init_1 (Nat.le_of_ble_eq_true rfl) (Nat.le_of_ble_eq_true rfl) ?_
  refine W.eq (g2 := F0 m 4 ls []) rfl ?_
  refine lv_aload_n hx hb dX7_init_4 rfl (lv_at hl 0 rfl) ?_
  refine va_new (ci := 3) (fs := [.null, .null, .null, .int 0, .int 0, .int 0, .int 0, .int 0, .int 0]) (C := RX3) (T := TX3) (N := 9) hx hb hts u_X7_init_3 tyX3 tyX3_ok hown (hts _ k_X7_init_cl9) (hts _ k_X7_init_in3) (hts _ k_X7_init_it3) hK hP hD hS hA rfl (fun j hj => by rcases (show j = 0 ∨ j = 1 ∨ j = 2 ∨ j = 3 ∨ j = 4 ∨ j = 5 ∨ j = 6 ∨ j = 7 ∨ j = 8 by omega) with rfl | rfl | rfl | rfl | rfl | rfl | rfl | rfl | rfl <;> rfl) (Nat.le_of_ble_eq_true rfl) (Nat.le_of_ble_eq_true rfl) dX7_init_5 (fun q5_4 H hP hD hS => ?_)
  refine W.widen (k := 1) (n := 9) (by omega) (by omega) ?_
  refine lv_dup hx hb dX7_init_8 rfl ?_
  have hPc := hP.sub (ws' := [(q5_4, .inr (3, [.null, .null, .null, .int 0, .int 0, .int 0, .int 0, .int 0, .int 0]))]) [1] rfl
  have hDc := hD.sub (ws' := [(q5_4, .inr (3, [.null, .null, .null, .int 0, .int 0, .int 0, .int 0, .int 0, .int 0]))]) [1] (by decide) rfl
  have hFc := va_free (wc := [(q5_4, .inr (3, [.null, .null, .null, .int 0, .int 0, .int 0, .int 0, .int 0, .int 0]))]) hD hS hA [1] rfl
  refine va_callv (va_runIN (As := []) (rest := [.ref q5_4, .ref h0]) ⟨hx, hb, hml, hown, hts⟩ (c_X3_init l D cI [(cI, .int)] rfl q5_4 H.size) ⟨va_cnB 0 hts gX7_init_X3_init_n11 rfl rfl rfl hN11 (hts _ k_X7_init_it3) i_X3_init ⟨Nat.le_of_ble_eq_true rfl, Nat.le_of_ble_eq_true rfl⟩, rfl, hts _ k_X7_init_im3⟩ ⟨q_blindN, fun U hU hW => ⟨rfl, nN_warm hW hN, q_preU0 hK hPc hDc U hU hW⟩⟩ rfl rfl hl.1 rfl (lv_room (Nat.le_of_ble_eq_true rfl)) dX7_init_9 ⟨Nat.le_of_ble_eq_true rfl, Nat.le_of_ble_eq_true rfl⟩) hS (fun q _ h => hFc q h) hFc (fun u0 t H1 locs ht9 hvm hw hB hz1 hk1 hS => ?_)
  obtain ⟨hP1, hD1⟩ := hB
  rw [ht9] at hP1
  obtain ⟨hPn, hDn⟩ := va_join (wr := ((h0, .inr (7, [.null, .null, .null, .null, .null, .null, .null, .null, .int 0])) :: [])) (w1 := p_N cI u0 m0_N) hP hD [1] [0] rfl rfl (by decide +kernel) (by decide +kernel) hk1 hFc hP1 hD1
  have hw : u0 0 = q5_4 := hw
  subst hw
  generalize H1 = H at hPn hS ⊢
  have hP := hPn
  have hD := hDn
  refine W.widen (k := 21) (n := 1243) (by omega) (by omega) ?_
  have hP : va_P D vwCl ((h0, .inr (7, [.null, .null, .null, .null, .null, .null, .null, .null, .int 0])) :: (p_N cI u0 m0_N)) H := hP
  have hD : va_D A ((h0, .inr (7, [.null, .null, .null, .null, .null, .null, .null, .null, .int 0])) :: (p_N cI u0 m0_N)) := hD
  refine va_putF (D := D) (ci := 7) (v := .ref (u0 0)) (ty := .object "VectorRounds$Network") (C := RX7) (T := TX7) (N := 9) hx hb hts u_X7_init_7 tyX7 tyX7_ok nmX7 hown hK hP hD hS 0 rfl rfl 0 (by decide) (ref := RX7) (hts _ k_X7_init_f12) (fun _ h9 => h9) rfl hin rfl (by decide +kernel) rfl rfl (Nat.le_of_ble_eq_true rfl) dX7_init_12 (fun H locs hP hD hS => ?_)
  have hP : va_P D vwCl ((h0, .inr (7, [.ref (u0 0), .null, .null, .null, .null, .null, .null, .null, .int 0])) :: (p_N cI u0 m0_N)) H := hP
  have hD : va_D A ((h0, .inr (7, [.ref (u0 0), .null, .null, .null, .null, .null, .null, .null, .int 0])) :: (p_N cI u0 m0_N)) := hD
  refine lv_aload_n hx hb dX7_init_15 rfl (lv_at hl 0 rfl) ?_
  refine va_new (ci := 3) (fs := [.null, .null, .null, .int 0, .int 0, .int 0, .int 0, .int 0, .int 0]) (C := RX3) (T := TX3) (N := 9) hx hb hts u_X7_init_3 tyX3 tyX3_ok hown (hts _ k_X7_init_cl9) (hts _ k_X7_init_in3) (hts _ k_X7_init_it3) hK hP hD hS hA rfl (fun j hj => by rcases (show j = 0 ∨ j = 1 ∨ j = 2 ∨ j = 3 ∨ j = 4 ∨ j = 5 ∨ j = 6 ∨ j = 7 ∨ j = 8 by omega) with rfl | rfl | rfl | rfl | rfl | rfl | rfl | rfl | rfl <;> rfl) (Nat.le_of_ble_eq_true rfl) (Nat.le_of_ble_eq_true rfl) dX7_init_16 (fun q16_9 H hP hD hS => ?_)
  refine W.widen (k := 22) (n := 1252) (by omega) (by omega) ?_
  refine lv_dup hx hb dX7_init_19 rfl ?_
  have hPc := hP.sub (ws' := [(q16_9, .inr (3, [.null, .null, .null, .int 0, .int 0, .int 0, .int 0, .int 0, .int 0]))]) [22] rfl
  have hDc := hD.sub (ws' := [(q16_9, .inr (3, [.null, .null, .null, .int 0, .int 0, .int 0, .int 0, .int 0, .int 0]))]) [22] (by decide) rfl
  have hFc := va_free (wc := [(q16_9, .inr (3, [.null, .null, .null, .int 0, .int 0, .int 0, .int 0, .int 0, .int 0]))]) hD hS hA [22] rfl
  refine va_callv (va_runIN (As := []) (rest := [.ref q16_9, .ref h0]) ⟨hx, hb, hml, hown, hts⟩ (c_X3_init l D cI [(cI, .int)] rfl q16_9 H.size) ⟨va_cnB 0 hts gX7_init_X3_init_n11 rfl rfl rfl hN11 (hts _ k_X7_init_it3) i_X3_init ⟨Nat.le_of_ble_eq_true rfl, Nat.le_of_ble_eq_true rfl⟩, rfl, hts _ k_X7_init_im3⟩ ⟨q_blindN, fun U hU hW => ⟨rfl, nN_warm hW hN, q_preU0 hK hPc hDc U hU hW⟩⟩ rfl rfl hl.1 rfl (lv_room (Nat.le_of_ble_eq_true rfl)) dX7_init_20 ⟨Nat.le_of_ble_eq_true rfl, Nat.le_of_ble_eq_true rfl⟩) hS (fun q _ h => hFc q h) hFc (fun u1 t H1 locs ht9 hvm hw hB hz1 hk1 hS => ?_)
  obtain ⟨hP1, hD1⟩ := hB
  rw [ht9] at hP1
  obtain ⟨hPn, hDn⟩ := va_join (wr := ((h0, .inr (7, [.ref (u0 0), .null, .null, .null, .null, .null, .null, .null, .int 0])) :: (p_N cI u0 m0_N))) (w1 := p_N cI u1 m0_N) hP hD [22] [0, 1, 2, 3, 4, 5, 6, 7, 8, 9, 10, 11, 12, 13, 14, 15, 16, 17, 18, 19, 20, 21] rfl rfl (by decide +kernel) (by decide +kernel) hk1 hFc hP1 hD1
  have hw : u1 0 = q16_9 := hw
  subst hw
  generalize H1 = H at hPn hS ⊢
  have hP := hPn
  have hD := hDn
  refine W.widen (k := 42) (n := 2486) (by omega) (by omega) ?_
  have hP : va_P D vwCl ((h0, .inr (7, [.ref (u0 0), .null, .null, .null, .null, .null, .null, .null, .int 0])) :: (p_N cI u0 m0_N ++ (p_N cI u1 m0_N))) H := hP
  have hD : va_D A ((h0, .inr (7, [.ref (u0 0), .null, .null, .null, .null, .null, .null, .null, .int 0])) :: (p_N cI u0 m0_N ++ (p_N cI u1 m0_N))) := hD
  refine va_putF (D := D) (ci := 7) (v := .ref (u1 0)) (ty := .object "VectorRounds$Network") (C := RX7) (T := TX7) (N := 9) hx hb hts u_X7_init_7 tyX7 tyX7_ok nmX7 hown hK hP hD hS 0 rfl rfl 1 (by decide) (ref := RX7) (hts _ k_X7_init_f16) (fun _ h9 => h9) rfl hin rfl (by decide +kernel) rfl rfl (Nat.le_of_ble_eq_true rfl) dX7_init_23 (fun H locs hP hD hS => ?_)
  have hP : va_P D vwCl ((h0, .inr (7, [.ref (u0 0), .ref (u1 0), .null, .null, .null, .null, .null, .null, .int 0])) :: (p_N cI u0 m0_N ++ (p_N cI u1 m0_N))) H := hP
  have hD : va_D A ((h0, .inr (7, [.ref (u0 0), .ref (u1 0), .null, .null, .null, .null, .null, .null, .int 0])) :: (p_N cI u0 m0_N ++ (p_N cI u1 m0_N))) := hD
  refine lv_aload_n hx hb dX7_init_26 rfl (lv_at hl 0 rfl) ?_
  refine va_new (ci := 3) (fs := [.null, .null, .null, .int 0, .int 0, .int 0, .int 0, .int 0, .int 0]) (C := RX3) (T := TX3) (N := 9) hx hb hts u_X7_init_3 tyX3 tyX3_ok hown (hts _ k_X7_init_cl9) (hts _ k_X7_init_in3) (hts _ k_X7_init_it3) hK hP hD hS hA rfl (fun j hj => by rcases (show j = 0 ∨ j = 1 ∨ j = 2 ∨ j = 3 ∨ j = 4 ∨ j = 5 ∨ j = 6 ∨ j = 7 ∨ j = 8 by omega) with rfl | rfl | rfl | rfl | rfl | rfl | rfl | rfl | rfl <;> rfl) (Nat.le_of_ble_eq_true rfl) (Nat.le_of_ble_eq_true rfl) dX7_init_27 (fun q27_14 H hP hD hS => ?_)
  refine W.widen (k := 43) (n := 2495) (by omega) (by omega) ?_
  refine lv_dup hx hb dX7_init_30 rfl ?_
  have hPc := hP.sub (ws' := [(q27_14, .inr (3, [.null, .null, .null, .int 0, .int 0, .int 0, .int 0, .int 0, .int 0]))]) [43] rfl
  have hDc := hD.sub (ws' := [(q27_14, .inr (3, [.null, .null, .null, .int 0, .int 0, .int 0, .int 0, .int 0, .int 0]))]) [43] (by decide) rfl
  have hFc := va_free (wc := [(q27_14, .inr (3, [.null, .null, .null, .int 0, .int 0, .int 0, .int 0, .int 0, .int 0]))]) hD hS hA [43] rfl
  refine va_callv (va_runIN (As := []) (rest := [.ref q27_14, .ref h0]) ⟨hx, hb, hml, hown, hts⟩ (c_X3_init l D cI [(cI, .int)] rfl q27_14 H.size) ⟨va_cnB 0 hts gX7_init_X3_init_n11 rfl rfl rfl hN11 (hts _ k_X7_init_it3) i_X3_init ⟨Nat.le_of_ble_eq_true rfl, Nat.le_of_ble_eq_true rfl⟩, rfl, hts _ k_X7_init_im3⟩ ⟨q_blindN, fun U hU hW => ⟨rfl, nN_warm hW hN, q_preU0 hK hPc hDc U hU hW⟩⟩ rfl rfl hl.1 rfl (lv_room (Nat.le_of_ble_eq_true rfl)) dX7_init_31 ⟨Nat.le_of_ble_eq_true rfl, Nat.le_of_ble_eq_true rfl⟩) hS (fun q _ h => hFc q h) hFc (fun u2 t H1 locs ht9 hvm hw hB hz1 hk1 hS => ?_)
  obtain ⟨hP1, hD1⟩ := hB
  rw [ht9] at hP1
  obtain ⟨hPn, hDn⟩ := va_join (wr := ((h0, .inr (7, [.ref (u0 0), .ref (u1 0), .null, .null, .null, .null, .null, .null, .int 0])) :: (p_N cI u0 m0_N ++ (p_N cI u1 m0_N)))) (w1 := p_N cI u2 m0_N) hP hD [43] [0, 1, 2, 3, 4, 5, 6, 7, 8, 9, 10, 11, 12, 13, 14, 15, 16, 17, 18, 19, 20, 21, 22, 23, 24, 25, 26, 27, 28, 29, 30, 31, 32, 33, 34, 35, 36, 37, 38, 39, 40, 41, 42] rfl rfl (by decide +kernel) (by decide +kernel) hk1 hFc hP1 hD1
  have hw : u2 0 = q27_14 := hw
  subst hw
  generalize H1 = H at hPn hS ⊢
  have hP := hPn
  have hD := hDn
  refine W.widen (k := 63) (n := 3729) (by omega) (by omega) ?_
  have hP : va_P D vwCl ((h0, .inr (7, [.ref (u0 0), .ref (u1 0), .null, .null, .null, .null, .null, .null, .int 0])) :: (p_N cI u0 m0_N ++ (p_N cI u1 m0_N ++ (p_N cI u2 m0_N)))) H := hP
  have hD : va_D A ((h0, .inr (7, [.ref (u0 0), .ref (u1 0), .null, .null, .null, .null, .null, .null, .int 0])) :: (p_N cI u0 m0_N ++ (p_N cI u1 m0_N ++ (p_N cI u2 m0_N)))) := hD
  refine va_putF (D := D) (ci := 7) (v := .ref (u2 0)) (ty := .object "VectorRounds$Network") (C := RX7) (T := TX7) (N := 9) hx hb hts u_X7_init_7 tyX7 tyX7_ok nmX7 hown hK hP hD hS 0 rfl rfl 2 (by decide) (ref := RX7) (hts _ k_X7_init_f19) (fun _ h9 => h9) rfl hin rfl (by decide +kernel) rfl rfl (Nat.le_of_ble_eq_true rfl) dX7_init_34 (fun H locs hP hD hS => ?_)
  have hP : va_P D vwCl ((h0, .inr (7, [.ref (u0 0), .ref (u1 0), .ref (u2 0), .null, .null, .null, .null, .null, .int 0])) :: (p_N cI u0 m0_N ++ (p_N cI u1 m0_N ++ (p_N cI u2 m0_N)))) H := hP
  have hD : va_D A ((h0, .inr (7, [.ref (u0 0), .ref (u1 0), .ref (u2 0), .null, .null, .null, .null, .null, .int 0])) :: (p_N cI u0 m0_N ++ (p_N cI u1 m0_N ++ (p_N cI u2 m0_N)))) := hD
  refine lv_aload_n hx hb dX7_init_37 rfl (lv_at hl 0 rfl) ?_
  refine va_new (ci := 3) (fs := [.null, .null, .null, .int 0, .int 0, .int 0, .int 0, .int 0, .int 0]) (C := RX3) (T := TX3) (N := 9) hx hb hts u_X7_init_3 tyX3 tyX3_ok hown (hts _ k_X7_init_cl9) (hts _ k_X7_init_in3) (hts _ k_X7_init_it3) hK hP hD hS hA rfl (fun j hj => by rcases (show j = 0 ∨ j = 1 ∨ j = 2 ∨ j = 3 ∨ j = 4 ∨ j = 5 ∨ j = 6 ∨ j = 7 ∨ j = 8 by omega) with rfl | rfl | rfl | rfl | rfl | rfl | rfl | rfl | rfl <;> rfl) (Nat.le_of_ble_eq_true rfl) (Nat.le_of_ble_eq_true rfl) dX7_init_38 (fun q38_19 H hP hD hS => ?_)
  refine W.widen (k := 64) (n := 3738) (by omega) (by omega) ?_
  refine lv_dup hx hb dX7_init_41 rfl ?_
  have hPc := hP.sub (ws' := [(q38_19, .inr (3, [.null, .null, .null, .int 0, .int 0, .int 0, .int 0, .int 0, .int 0]))]) [64] rfl
  have hDc := hD.sub (ws' := [(q38_19, .inr (3, [.null, .null, .null, .int 0, .int 0, .int 0, .int 0, .int 0, .int 0]))]) [64] (by decide) rfl
  have hFc := va_free (wc := [(q38_19, .inr (3, [.null, .null, .null, .int 0, .int 0, .int 0, .int 0, .int 0, .int 0]))]) hD hS hA [64] rfl
  refine va_callv (va_runIN (As := []) (rest := [.ref q38_19, .ref h0]) ⟨hx, hb, hml, hown, hts⟩ (c_X3_init l D cI [(cI, .int)] rfl q38_19 H.size) ⟨va_cnB 0 hts gX7_init_X3_init_n11 rfl rfl rfl hN11 (hts _ k_X7_init_it3) i_X3_init ⟨Nat.le_of_ble_eq_true rfl, Nat.le_of_ble_eq_true rfl⟩, rfl, hts _ k_X7_init_im3⟩ ⟨q_blindN, fun U hU hW => ⟨rfl, nN_warm hW hN, q_preU0 hK hPc hDc U hU hW⟩⟩ rfl rfl hl.1 rfl (lv_room (Nat.le_of_ble_eq_true rfl)) dX7_init_42 ⟨Nat.le_of_ble_eq_true rfl, Nat.le_of_ble_eq_true rfl⟩) hS (fun q _ h => hFc q h) hFc (fun u3 t H1 locs ht9 hvm hw hB hz1 hk1 hS => ?_)
  obtain ⟨hP1, hD1⟩ := hB
  rw [ht9] at hP1
  obtain ⟨hPn, hDn⟩ := va_join (wr := ((h0, .inr (7, [.ref (u0 0), .ref (u1 0), .ref (u2 0), .null, .null, .null, .null, .null, .int 0])) :: (p_N cI u0 m0_N ++ (p_N cI u1 m0_N ++ (p_N cI u2 m0_N))))) (w1 := p_N cI u3 m0_N) hP hD [64] [0, 1, 2, 3, 4, 5, 6, 7, 8, 9, 10, 11, 12, 13, 14, 15, 16, 17, 18, 19, 20, 21, 22, 23, 24, 25, 26, 27, 28, 29, 30, 31, 32, 33, 34, 35, 36, 37, 38, 39, 40, 41, 42, 43, 44, 45, 46, 47, 48, 49, 50, 51, 52, 53, 54, 55, 56, 57, 58, 59, 60, 61, 62, 63] rfl rfl (by decide +kernel) (by decide +kernel) hk1 hFc hP1 hD1
  have hw : u3 0 = q38_19 := hw
  subst hw
  generalize H1 = H at hPn hS ⊢
  have hP := hPn
  have hD := hDn
  refine W.widen (k := 84) (n := 4972) (by omega) (by omega) ?_
  have hP : va_P D vwCl ((h0, .inr (7, [.ref (u0 0), .ref (u1 0), .ref (u2 0), .null, .null, .null, .null, .null, .int 0])) :: (p_N cI u0 m0_N ++ (p_N cI u1 m0_N ++ (p_N cI u2 m0_N ++ (p_N cI u3 m0_N))))) H := hP
  have hD : va_D A ((h0, .inr (7, [.ref (u0 0), .ref (u1 0), .ref (u2 0), .null, .null, .null, .null, .null, .int 0])) :: (p_N cI u0 m0_N ++ (p_N cI u1 m0_N ++ (p_N cI u2 m0_N ++ (p_N cI u3 m0_N))))) := hD
  refine va_putF (D := D) (ci := 7) (v := .ref (u3 0)) (ty := .object "VectorRounds$Network") (C := RX7) (T := TX7) (N := 9) hx hb hts u_X7_init_7 tyX7 tyX7_ok nmX7 hown hK hP hD hS 0 rfl rfl 3 (by decide) (ref := RX7) (hts _ k_X7_init_f22) (fun _ h9 => h9) rfl hin rfl (by decide +kernel) rfl rfl (Nat.le_of_ble_eq_true rfl) dX7_init_45 (fun H locs hP hD hS => ?_)
  have hP : va_P D vwCl ((h0, .inr (7, [.ref (u0 0), .ref (u1 0), .ref (u2 0), .ref (u3 0), .null, .null, .null, .null, .int 0])) :: (p_N cI u0 m0_N ++ (p_N cI u1 m0_N ++ (p_N cI u2 m0_N ++ (p_N cI u3 m0_N))))) H := hP
  have hD : va_D A ((h0, .inr (7, [.ref (u0 0), .ref (u1 0), .ref (u2 0), .ref (u3 0), .null, .null, .null, .null, .int 0])) :: (p_N cI u0 m0_N ++ (p_N cI u1 m0_N ++ (p_N cI u2 m0_N ++ (p_N cI u3 m0_N))))) := hD
  refine lv_aload_n hx hb dX7_init_48 rfl (lv_at hl 0 rfl) ?_
  refine va_new (ci := 6) (fs := [.null, .int 0, .int 0]) (C := RX6) (T := TX6) (N := 3) hx hb hts u_X7_init_6 tyX6 tyX6_ok hown (hts _ k_X7_init_cl25) (hts _ k_X7_init_in6) (hts _ k_X7_init_it6) hK hP hD hS hA rfl (fun j hj => by rcases (show j = 0 ∨ j = 1 ∨ j = 2 by omega) with rfl | rfl | rfl <;> rfl) (Nat.le_of_ble_eq_true rfl) (Nat.le_of_ble_eq_true rfl) dX7_init_49 (fun q49_24 H hP hD hS => ?_)
  refine W.widen (k := 85) (n := 4975) (by omega) (by omega) ?_
  refine lv_dup hx hb dX7_init_52 rfl ?_
  have hPc := hP.sub (ws' := [(q49_24, .inr (6, [.null, .int 0, .int 0]))]) [85] rfl
  have hDc := hD.sub (ws' := [(q49_24, .inr (6, [.null, .int 0, .int 0]))]) [85] (by decide) rfl
  have hFc := va_free (wc := [(q49_24, .inr (6, [.null, .int 0, .int 0]))]) hD hS hA [85] rfl
  refine va_callv (va_runIN (As := []) (rest := [.ref q49_24, .ref h0]) ⟨hx, hb, hml, hown, hts⟩ (c_X6_init l D cI [(cI, .int)] rfl q49_24 H.size) ⟨va_cnB 0 hts gX7_init_X6_init_n27 rfl rfl rfl hN27 (hts _ k_X7_init_it6) i_X6_init ⟨Nat.le_of_ble_eq_true rfl, Nat.le_of_ble_eq_true rfl⟩, rfl, hts _ k_X7_init_im6⟩ ⟨q_blind, q_preU hK hPc hDc⟩ rfl rfl hl.1 rfl (lv_room (Nat.le_of_ble_eq_true rfl)) dX7_init_53 ⟨Nat.le_of_ble_eq_true rfl, Nat.le_of_ble_eq_true rfl⟩) hS (fun q _ h => hFc q h) hFc (fun u4 t H1 locs ht9 hvm hw hB hz1 hk1 hS => ?_)
  obtain ⟨hP1, hD1⟩ := hB
  rw [ht9] at hP1
  obtain ⟨hPn, hDn⟩ := va_join (wr := ((h0, .inr (7, [.ref (u0 0), .ref (u1 0), .ref (u2 0), .ref (u3 0), .null, .null, .null, .null, .int 0])) :: (p_N cI u0 m0_N ++ (p_N cI u1 m0_N ++ (p_N cI u2 m0_N ++ (p_N cI u3 m0_N)))))) (w1 := p_Y cI u4 (fun _ _ => 0)) hP hD [85] [0, 1, 2, 3, 4, 5, 6, 7, 8, 9, 10, 11, 12, 13, 14, 15, 16, 17, 18, 19, 20, 21, 22, 23, 24, 25, 26, 27, 28, 29, 30, 31, 32, 33, 34, 35, 36, 37, 38, 39, 40, 41, 42, 43, 44, 45, 46, 47, 48, 49, 50, 51, 52, 53, 54, 55, 56, 57, 58, 59, 60, 61, 62, 63, 64, 65, 66, 67, 68, 69, 70, 71, 72, 73, 74, 75, 76, 77, 78, 79, 80, 81, 82, 83, 84] rfl rfl (by decide +kernel) (by decide +kernel) hk1 hFc hP1 hD1
  have hw : u4 0 = q49_24 := hw
  subst hw
  generalize H1 = H at hPn hS ⊢
  have hP := hPn
  have hD := hDn
  refine W.widen (k := 86) (n := 4985) (by omega) (by omega) ?_
  have hP : va_P D vwCl ((h0, .inr (7, [.ref (u0 0), .ref (u1 0), .ref (u2 0), .ref (u3 0), .null, .null, .null, .null, .int 0])) :: (p_N cI u0 m0_N ++ (p_N cI u1 m0_N ++ (p_N cI u2 m0_N ++ (p_N cI u3 m0_N ++ (p_Y cI u4 (fun _ _ => 0))))))) H := hP
  have hD : va_D A ((h0, .inr (7, [.ref (u0 0), .ref (u1 0), .ref (u2 0), .ref (u3 0), .null, .null, .null, .null, .int 0])) :: (p_N cI u0 m0_N ++ (p_N cI u1 m0_N ++ (p_N cI u2 m0_N ++ (p_N cI u3 m0_N ++ (p_Y cI u4 (fun _ _ => 0))))))) := hD
  refine va_putF (D := D) (ci := 7) (v := .ref (u4 0)) (ty := .object "VectorRounds$Way") (C := RX7) (T := TX7) (N := 9) hx hb hts u_X7_init_7 tyX7 tyX7_ok nmX7 hown hK hP hD hS 0 rfl rfl 4 (by decide) (ref := RX7) (hts _ k_X7_init_f28) (fun _ h9 => h9) rfl hin rfl (by decide +kernel) rfl rfl (Nat.le_of_ble_eq_true rfl) dX7_init_56 (fun H locs hP hD hS => ?_)
  have hP : va_P D vwCl ((h0, .inr (7, [.ref (u0 0), .ref (u1 0), .ref (u2 0), .ref (u3 0), .ref (u4 0), .null, .null, .null, .int 0])) :: (p_N cI u0 m0_N ++ (p_N cI u1 m0_N ++ (p_N cI u2 m0_N ++ (p_N cI u3 m0_N ++ (p_Y cI u4 (fun _ _ => 0))))))) H := hP
  have hD : va_D A ((h0, .inr (7, [.ref (u0 0), .ref (u1 0), .ref (u2 0), .ref (u3 0), .ref (u4 0), .null, .null, .null, .int 0])) :: (p_N cI u0 m0_N ++ (p_N cI u1 m0_N ++ (p_N cI u2 m0_N ++ (p_N cI u3 m0_N ++ (p_Y cI u4 (fun _ _ => 0))))))) := hD
  refine lv_aload_n hx hb dX7_init_59 rfl (lv_at hl 0 rfl) ?_
  refine va_new (ci := 0) (fs := [.null]) (C := RX0) (T := TX0) (N := 1) hx hb hts u_X7_init_0 tyX0 tyX0_ok hown (hts _ k_X7_init_cl32) (hts _ k_X7_init_in0) (hts _ k_X7_init_it0) hK hP hD hS hA rfl (fun j hj => by rcases (show j = 0 by omega) with rfl <;> rfl) (Nat.le_of_ble_eq_true rfl) (Nat.le_of_ble_eq_true rfl) dX7_init_60 (fun q60_29 H hP hD hS => ?_)
  refine W.widen (k := 87) (n := 4986) (by omega) (by omega) ?_
  refine lv_dup hx hb dX7_init_63 rfl ?_
  have hPc := hP.sub (ws' := [(q60_29, .inr (0, [.null]))]) [87] rfl
  have hDc := hD.sub (ws' := [(q60_29, .inr (0, [.null]))]) [87] (by decide) rfl
  have hFc := va_free (wc := [(q60_29, .inr (0, [.null]))]) hD hS hA [87] rfl
  refine va_callv (va_runIN (As := []) (rest := [.ref q60_29, .ref h0]) ⟨hx, hb, hml, hown, hts⟩ (c_X0_init l D cI [(cI, .int)] rfl q60_29 H.size) ⟨va_cnB 0 hts gX7_init_X0_init_n34 rfl rfl rfl hN34 (hts _ k_X7_init_it0) i_X0_init ⟨Nat.le_of_ble_eq_true rfl, Nat.le_of_ble_eq_true rfl⟩, rfl, hts _ k_X7_init_im0⟩ ⟨q_blind, q_preU hK hPc hDc⟩ rfl rfl hl.1 rfl (lv_room (Nat.le_of_ble_eq_true rfl)) dX7_init_64 ⟨Nat.le_of_ble_eq_true rfl, Nat.le_of_ble_eq_true rfl⟩) hS (fun q _ h => hFc q h) hFc (fun u5 t H1 locs ht9 hvm hw hB hz1 hk1 hS => ?_)
  obtain ⟨hP1, hD1⟩ := hB
  rw [ht9] at hP1
  obtain ⟨hPn, hDn⟩ := va_join (wr := ((h0, .inr (7, [.ref (u0 0), .ref (u1 0), .ref (u2 0), .ref (u3 0), .ref (u4 0), .null, .null, .null, .int 0])) :: (p_N cI u0 m0_N ++ (p_N cI u1 m0_N ++ (p_N cI u2 m0_N ++ (p_N cI u3 m0_N ++ (p_Y cI u4 (fun _ _ => 0)))))))) (w1 := p_D cI u5 (fun _ _ => 0)) hP hD [87] [0, 1, 2, 3, 4, 5, 6, 7, 8, 9, 10, 11, 12, 13, 14, 15, 16, 17, 18, 19, 20, 21, 22, 23, 24, 25, 26, 27, 28, 29, 30, 31, 32, 33, 34, 35, 36, 37, 38, 39, 40, 41, 42, 43, 44, 45, 46, 47, 48, 49, 50, 51, 52, 53, 54, 55, 56, 57, 58, 59, 60, 61, 62, 63, 64, 65, 66, 67, 68, 69, 70, 71, 72, 73, 74, 75, 76, 77, 78, 79, 80, 81, 82, 83, 84, 85, 86] rfl rfl (by decide +kernel) (by decide +kernel) hk1 hFc hP1 hD1
  have hw : u5 0 = q60_29 := hw
  subst hw
  generalize H1 = H at hPn hS ⊢
  have hP := hPn
  have hD := hDn
  refine W.widen (k := 88) (n := 4996) (by omega) (by omega) ?_
  have hP : va_P D vwCl ((h0, .inr (7, [.ref (u0 0), .ref (u1 0), .ref (u2 0), .ref (u3 0), .ref (u4 0), .null, .null, .null, .int 0])) :: (p_N cI u0 m0_N ++ (p_N cI u1 m0_N ++ (p_N cI u2 m0_N ++ (p_N cI u3 m0_N ++ (p_Y cI u4 (fun _ _ => 0) ++ (p_D cI u5 (fun _ _ => 0)))))))) H := hP
  have hD : va_D A ((h0, .inr (7, [.ref (u0 0), .ref (u1 0), .ref (u2 0), .ref (u3 0), .ref (u4 0), .null, .null, .null, .int 0])) :: (p_N cI u0 m0_N ++ (p_N cI u1 m0_N ++ (p_N cI u2 m0_N ++ (p_N cI u3 m0_N ++ (p_Y cI u4 (fun _ _ => 0) ++ (p_D cI u5 (fun _ _ => 0)))))))) := hD
  refine va_putF (D := D) (ci := 7) (v := .ref (u5 0)) (ty := .object "VectorRounds$Distances") (C := RX7) (T := TX7) (N := 9) hx hb hts u_X7_init_7 tyX7 tyX7_ok nmX7 hown hK hP hD hS 0 rfl rfl 5 (by decide) (ref := RX7) (hts _ k_X7_init_f35) (fun _ h9 => h9) rfl hin rfl (by decide +kernel) rfl rfl (Nat.le_of_ble_eq_true rfl) dX7_init_67 (fun H locs hP hD hS => ?_)
  have hP : va_P D vwCl ((h0, .inr (7, [.ref (u0 0), .ref (u1 0), .ref (u2 0), .ref (u3 0), .ref (u4 0), .ref (u5 0), .null, .null, .int 0])) :: (p_N cI u0 m0_N ++ (p_N cI u1 m0_N ++ (p_N cI u2 m0_N ++ (p_N cI u3 m0_N ++ (p_Y cI u4 (fun _ _ => 0) ++ (p_D cI u5 (fun _ _ => 0)))))))) H := hP
  have hD : va_D A ((h0, .inr (7, [.ref (u0 0), .ref (u1 0), .ref (u2 0), .ref (u3 0), .ref (u4 0), .ref (u5 0), .null, .null, .int 0])) :: (p_N cI u0 m0_N ++ (p_N cI u1 m0_N ++ (p_N cI u2 m0_N ++ (p_N cI u3 m0_N ++ (p_Y cI u4 (fun _ _ => 0) ++ (p_D cI u5 (fun _ _ => 0)))))))) := hD
  refine lv_aload_n hx hb dX7_init_70 rfl (lv_at hl 0 rfl) ?_
  refine va_new (ci := 5) (fs := [.null, .int 0, .null, .null, .int 0, .int 0]) (C := RX5) (T := TX5) (N := 6) hx hb hts u_X7_init_5 tyX5 tyX5_ok hown (hts _ k_X7_init_cl39) (hts _ k_X7_init_in5) (hts _ k_X7_init_it5) hK hP hD hS hA rfl (fun j hj => by rcases (show j = 0 ∨ j = 1 ∨ j = 2 ∨ j = 3 ∨ j = 4 ∨ j = 5 by omega) with rfl | rfl | rfl | rfl | rfl | rfl <;> rfl) (Nat.le_of_ble_eq_true rfl) (Nat.le_of_ble_eq_true rfl) dX7_init_71 (fun q71_34 H hP hD hS => ?_)
  refine W.widen (k := 89) (n := 5002) (by omega) (by omega) ?_
  refine lv_dup hx hb dX7_init_74 rfl ?_
  have hPc := hP.sub (ws' := [(q71_34, .inr (5, [.null, .int 0, .null, .null, .int 0, .int 0]))]) [89] rfl
  have hDc := hD.sub (ws' := [(q71_34, .inr (5, [.null, .int 0, .null, .null, .int 0, .int 0]))]) [89] (by decide) rfl
  have hFc := va_free (wc := [(q71_34, .inr (5, [.null, .int 0, .null, .null, .int 0, .int 0]))]) hD hS hA [89] rfl
  refine va_callv (va_runIN (As := []) (rest := [.ref q71_34, .ref h0]) ⟨hx, hb, hml, hown, hts⟩ (c_X5_init l D cI [(cI, .int)] rfl q71_34 H.size) ⟨va_cnB 0 hts gX7_init_X5_init_n41 rfl rfl rfl hN41 (hts _ k_X7_init_it5) i_X5_init ⟨Nat.le_of_ble_eq_true rfl, Nat.le_of_ble_eq_true rfl⟩, rfl, hts _ k_X7_init_im5⟩ ⟨q_blind, q_preU hK hPc hDc⟩ rfl rfl hl.1 rfl (lv_room (Nat.le_of_ble_eq_true rfl)) dX7_init_75 ⟨Nat.le_of_ble_eq_true rfl, Nat.le_of_ble_eq_true rfl⟩) hS (fun q _ h => hFc q h) hFc (fun u6 t H1 locs ht9 hvm hw hB hz1 hk1 hS => ?_)
  obtain ⟨hP1, hD1⟩ := hB
  rw [ht9] at hP1
  obtain ⟨hPn, hDn⟩ := va_join (wr := ((h0, .inr (7, [.ref (u0 0), .ref (u1 0), .ref (u2 0), .ref (u3 0), .ref (u4 0), .ref (u5 0), .null, .null, .int 0])) :: (p_N cI u0 m0_N ++ (p_N cI u1 m0_N ++ (p_N cI u2 m0_N ++ (p_N cI u3 m0_N ++ (p_Y cI u4 (fun _ _ => 0) ++ (p_D cI u5 (fun _ _ => 0))))))))) (w1 := p_P cI u6 (fun _ _ => 0)) hP hD [89] [0, 1, 2, 3, 4, 5, 6, 7, 8, 9, 10, 11, 12, 13, 14, 15, 16, 17, 18, 19, 20, 21, 22, 23, 24, 25, 26, 27, 28, 29, 30, 31, 32, 33, 34, 35, 36, 37, 38, 39, 40, 41, 42, 43, 44, 45, 46, 47, 48, 49, 50, 51, 52, 53, 54, 55, 56, 57, 58, 59, 60, 61, 62, 63, 64, 65, 66, 67, 68, 69, 70, 71, 72, 73, 74, 75, 76, 77, 78, 79, 80, 81, 82, 83, 84, 85, 86, 87, 88] rfl rfl (by decide +kernel) (by decide +kernel) hk1 hFc hP1 hD1
  have hw : u6 0 = q71_34 := hw
  subst hw
  generalize H1 = H at hPn hS ⊢
  have hP := hPn
  have hD := hDn
  refine W.widen (k := 92) (n := 5602) (by omega) (by omega) ?_
  have hP : va_P D vwCl ((h0, .inr (7, [.ref (u0 0), .ref (u1 0), .ref (u2 0), .ref (u3 0), .ref (u4 0), .ref (u5 0), .null, .null, .int 0])) :: (p_N cI u0 m0_N ++ (p_N cI u1 m0_N ++ (p_N cI u2 m0_N ++ (p_N cI u3 m0_N ++ (p_Y cI u4 (fun _ _ => 0) ++ (p_D cI u5 (fun _ _ => 0) ++ (p_P cI u6 (fun _ _ => 0))))))))) H := hP
  have hD : va_D A ((h0, .inr (7, [.ref (u0 0), .ref (u1 0), .ref (u2 0), .ref (u3 0), .ref (u4 0), .ref (u5 0), .null, .null, .int 0])) :: (p_N cI u0 m0_N ++ (p_N cI u1 m0_N ++ (p_N cI u2 m0_N ++ (p_N cI u3 m0_N ++ (p_Y cI u4 (fun _ _ => 0) ++ (p_D cI u5 (fun _ _ => 0) ++ (p_P cI u6 (fun _ _ => 0))))))))) := hD
  refine va_putF (D := D) (ci := 7) (v := .ref (u6 0)) (ty := .object "VectorRounds$Tape") (C := RX7) (T := TX7) (N := 9) hx hb hts u_X7_init_7 tyX7 tyX7_ok nmX7 hown hK hP hD hS 0 rfl rfl 6 (by decide) (ref := RX7) (hts _ k_X7_init_f42) (fun _ h9 => h9) rfl hin rfl (by decide +kernel) rfl rfl (Nat.le_of_ble_eq_true rfl) dX7_init_78 (fun H locs hP hD hS => ?_)
  have hP : va_P D vwCl ((h0, .inr (7, [.ref (u0 0), .ref (u1 0), .ref (u2 0), .ref (u3 0), .ref (u4 0), .ref (u5 0), .ref (u6 0), .null, .int 0])) :: (p_N cI u0 m0_N ++ (p_N cI u1 m0_N ++ (p_N cI u2 m0_N ++ (p_N cI u3 m0_N ++ (p_Y cI u4 (fun _ _ => 0) ++ (p_D cI u5 (fun _ _ => 0) ++ (p_P cI u6 (fun _ _ => 0))))))))) H := hP
  have hD : va_D A ((h0, .inr (7, [.ref (u0 0), .ref (u1 0), .ref (u2 0), .ref (u3 0), .ref (u4 0), .ref (u5 0), .ref (u6 0), .null, .int 0])) :: (p_N cI u0 m0_N ++ (p_N cI u1 m0_N ++ (p_N cI u2 m0_N ++ (p_N cI u3 m0_N ++ (p_Y cI u4 (fun _ _ => 0) ++ (p_D cI u5 (fun _ _ => 0) ++ (p_P cI u6 (fun _ _ => 0))))))))) := hD
  refine lv_aload_n hx hb dX7_init_81 rfl (lv_at hl 0 rfl) ?_
  refine lv_bipush (v := 6) hx hb dX7_init_82 (by decide +kernel) ?_
  refine va_newq (C := RX1) (N' := 6) hx hb hown (hts _ k_X7_init_cl46) hAO hK hP hD hS hA (by decide +kernel) (by decide +kernel) (Nat.le_of_ble_eq_true rfl) (Nat.le_of_ble_eq_true rfl) (Nat.le_of_ble_eq_true rfl) dX7_init_84 (fun q84 cO H hK hP hD hS => ?_)
  refine W.widen (k := 93) (n := 5608) (by omega) (by omega) ?_
  have hK : va_K D vwCl [(cI, .int), (cO, .object RX1)] s := hK
  have hP : va_P D vwCl ((h0, .inr (7, [.ref (u0 0), .ref (u1 0), .ref (u2 0), .ref (u3 0), .ref (u4 0), .ref (u5 0), .ref (u6 0), .null, .int 0])) :: (p_N cI u0 m0_N ++ (p_N cI u1 m0_N ++ (p_N cI u2 m0_N ++ (p_N cI u3 m0_N ++ (p_Y cI u4 (fun _ _ => 0) ++ (p_D cI u5 (fun _ _ => 0) ++ (p_P cI u6 (fun _ _ => 0) ++ ((q84, .inl (cO, 6, .inr (.inr (.inr (.inr (fun _ => none)))))) :: []))))))))) H := hP
  have hD : va_D A ((h0, .inr (7, [.ref (u0 0), .ref (u1 0), .ref (u2 0), .ref (u3 0), .ref (u4 0), .ref (u5 0), .ref (u6 0), .null, .int 0])) :: (p_N cI u0 m0_N ++ (p_N cI u1 m0_N ++ (p_N cI u2 m0_N ++ (p_N cI u3 m0_N ++ (p_Y cI u4 (fun _ _ => 0) ++ (p_D cI u5 (fun _ _ => 0) ++ (p_P cI u6 (fun _ _ => 0) ++ ((q84, .inl (cO, 6, .inr (.inr (.inr (.inr (fun _ => none)))))) :: []))))))))) := hD
  refine va_putF (D := D) (ci := 7) (v := .ref q84) (ty := .array (.object "VectorRounds$Holder")) (C := RX7) (T := TX7) (N := 9) hx hb hts u_X7_init_7 tyX7 tyX7_ok nmX7 hown hK hP hD hS 0 rfl rfl 7 (by decide) (ref := RX7) (hts _ k_X7_init_f48) (fun _ h9 => h9) rfl hin rfl (by decide +kernel) rfl rfl (Nat.le_of_ble_eq_true rfl) dX7_init_87 (fun H locs hP hD hS => ?_)
  have hP : va_P D vwCl ((h0, .inr (7, [.ref (u0 0), .ref (u1 0), .ref (u2 0), .ref (u3 0), .ref (u4 0), .ref (u5 0), .ref (u6 0), .ref q84, .int 0])) :: (p_N cI u0 m0_N ++ (p_N cI u1 m0_N ++ (p_N cI u2 m0_N ++ (p_N cI u3 m0_N ++ (p_Y cI u4 (fun _ _ => 0) ++ (p_D cI u5 (fun _ _ => 0) ++ (p_P cI u6 (fun _ _ => 0) ++ ((q84, .inl (cO, 6, .inr (.inr (.inr (.inr (fun _ => none)))))) :: []))))))))) H := hP
  have hD : va_D A ((h0, .inr (7, [.ref (u0 0), .ref (u1 0), .ref (u2 0), .ref (u3 0), .ref (u4 0), .ref (u5 0), .ref (u6 0), .ref q84, .int 0])) :: (p_N cI u0 m0_N ++ (p_N cI u1 m0_N ++ (p_N cI u2 m0_N ++ (p_N cI u3 m0_N ++ (p_Y cI u4 (fun _ _ => 0) ++ (p_D cI u5 (fun _ _ => 0) ++ (p_P cI u6 (fun _ _ => 0) ++ ((q84, .inl (cO, 6, .inr (.inr (.inr (.inr (fun _ => none)))))) :: []))))))))) := hD
  refine lv_iconst (v := 0) hx hb dX7_init_90 (by decide +kernel) ?_
  refine lv_istore_n (lv' := [(1, .int 0), (0, .ref h0)]) hx hb dX7_init_91 rfl hl (by decide) rfl (fun ls hl => ?_)
  refine lv_iload_n hx hb dX7_init_92 rfl (lv_at hl 0 rfl) ?_
  refine lv_bipush (v := 6) hx hb dX7_init_93 (by decide +kernel) ?_
  refine lv_icmp_ge (tgt := 117) hx hb dX7_init_95 (by decide) (fun c9 => absurd c9 (by decide +kernel)) (fun _ => ?_)
  refine lv_aload_n hx hb dX7_init_98 rfl (lv_at hl 1 rfl) ?_
  refine x_getr (C := RX7) (k := 7) hx hb hts u_X7_init_7 hown hK hP (q0 := 0) rfl rfl (by decide) ⟨rfl, rfl, rfl⟩ k_X7_init_f48 rfl dX7_init_99 ?_
  refine lv_iload_n hx hb dX7_init_102 rfl (lv_at hl 0 rfl) ?_
  refine va_new (ci := 1) (fs := [.int 0, .int 0, .int 0, .int 0, .int 0, .int 0, .null, .int 0]) (C := RX1) (T := TX1) (N := 8) hx hb hts u_X7_init_1 tyX1 tyX1_ok hown (hts _ k_X7_init_cl46) (hts _ k_X7_init_in1) (hts _ k_X7_init_it1) hK hP hD hS hA rfl (fun j hj => by rcases (show j = 0 ∨ j = 1 ∨ j = 2 ∨ j = 3 ∨ j = 4 ∨ j = 5 ∨ j = 6 ∨ j = 7 by omega) with rfl | rfl | rfl | rfl | rfl | rfl | rfl | rfl <;> rfl) (Nat.le_of_ble_eq_true rfl) (Nat.le_of_ble_eq_true rfl) dX7_init_103 (fun q103_50 H hP hD hS => ?_)
  refine W.widen (k := 94) (n := 5616) (by omega) (by omega) ?_
  refine lv_dup hx hb dX7_init_106 rfl ?_
  have hPc := hP.sub (ws' := [(q103_50, .inr (1, [.int 0, .int 0, .int 0, .int 0, .int 0, .int 0, .null, .int 0]))]) [94] rfl
  have hDc := hD.sub (ws' := [(q103_50, .inr (1, [.int 0, .int 0, .int 0, .int 0, .int 0, .int 0, .null, .int 0]))]) [94] (by decide) rfl
  have hFc := va_free (wc := [(q103_50, .inr (1, [.int 0, .int 0, .int 0, .int 0, .int 0, .int 0, .null, .int 0]))]) hD hS hA [94] rfl
  refine va_callv (va_runIN (As := []) (rest := [.ref q103_50, .int 0, .ref q84]) ⟨hx, hb, hml, hown, hts⟩ (c_X1_init l D cI [(cI, .int), (cO, .object RX1)] rfl q103_50 H.size) ⟨va_cnB 0 hts gX7_init_X1_init_n52 rfl rfl rfl hN52 (hts _ k_X7_init_it1) i_X1_init ⟨Nat.le_of_ble_eq_true rfl, Nat.le_of_ble_eq_true rfl⟩, rfl, hts _ k_X7_init_im1⟩ ⟨q_blind, q_preU hK hPc hDc⟩ rfl rfl hl.1 rfl (lv_room (Nat.le_of_ble_eq_true rfl)) dX7_init_107 ⟨Nat.le_of_ble_eq_true rfl, Nat.le_of_ble_eq_true rfl⟩) hS (fun q _ h => hFc q h) hFc (fun u7 t H1 locs ht9 hvm hw hB hz1 hk1 hS => ?_)
  obtain ⟨hP1, hD1⟩ := hB
  rw [ht9] at hP1
  obtain ⟨hPn, hDn⟩ := va_join (wr := ((h0, .inr (7, [.ref (u0 0), .ref (u1 0), .ref (u2 0), .ref (u3 0), .ref (u4 0), .ref (u5 0), .ref (u6 0), .ref q84, .int 0])) :: (p_N cI u0 m0_N ++ (p_N cI u1 m0_N ++ (p_N cI u2 m0_N ++ (p_N cI u3 m0_N ++ (p_Y cI u4 (fun _ _ => 0) ++ (p_D cI u5 (fun _ _ => 0) ++ (p_P cI u6 (fun _ _ => 0) ++ ((q84, .inl (cO, 6, .inr (.inr (.inr (.inr (fun _ => none)))))) :: [])))))))))) (w1 := p_H cI u7 (fun _ _ => 0)) hP hD [94] [0, 1, 2, 3, 4, 5, 6, 7, 8, 9, 10, 11, 12, 13, 14, 15, 16, 17, 18, 19, 20, 21, 22, 23, 24, 25, 26, 27, 28, 29, 30, 31, 32, 33, 34, 35, 36, 37, 38, 39, 40, 41, 42, 43, 44, 45, 46, 47, 48, 49, 50, 51, 52, 53, 54, 55, 56, 57, 58, 59, 60, 61, 62, 63, 64, 65, 66, 67, 68, 69, 70, 71, 72, 73, 74, 75, 76, 77, 78, 79, 80, 81, 82, 83, 84, 85, 86, 87, 88, 89, 90, 91, 92, 93] rfl rfl (by decide +kernel) (by decide +kernel) hk1 hFc hP1 hD1
  have hw : u7 0 = q103_50 := hw
  subst hw
  generalize H1 = H at hPn hS ⊢
  have hP := hPn
  have hD := hDn
  refine W.widen (k := 95) (n := 5676) (by omega) (by omega) ?_
  have hP : va_P D vwCl ((h0, .inr (7, [.ref (u0 0), .ref (u1 0), .ref (u2 0), .ref (u3 0), .ref (u4 0), .ref (u5 0), .ref (u6 0), .ref q84, .int 0])) :: (p_N cI u0 m0_N ++ (p_N cI u1 m0_N ++ (p_N cI u2 m0_N ++ (p_N cI u3 m0_N ++ (p_Y cI u4 (fun _ _ => 0) ++ (p_D cI u5 (fun _ _ => 0) ++ (p_P cI u6 (fun _ _ => 0) ++ ((q84, .inl (cO, 6, .inr (.inr (.inr (.inr (fun _ => none)))))) :: (p_H cI u7 (fun _ _ => 0))))))))))) H := hP
  have hD : va_D A ((h0, .inr (7, [.ref (u0 0), .ref (u1 0), .ref (u2 0), .ref (u3 0), .ref (u4 0), .ref (u5 0), .ref (u6 0), .ref q84, .int 0])) :: (p_N cI u0 m0_N ++ (p_N cI u1 m0_N ++ (p_N cI u2 m0_N ++ (p_N cI u3 m0_N ++ (p_Y cI u4 (fun _ _ => 0) ++ (p_D cI u5 (fun _ _ => 0) ++ (p_P cI u6 (fun _ _ => 0) ++ ((q84, .inl (cO, 6, .inr (.inr (.inr (.inr (fun _ => none)))))) :: (p_H cI u7 (fun _ _ => 0))))))))))) := hD
  refine va_astq hx hb hK hP hD hS 93 1 94 1 (r := (RX1, TX1, 8)) rfl rfl rfl rfl (vp_in_nI (n := 0) (by decide) (by decide)) dX7_init_110 (fun H locs hP hD hS => ?_)
  have hP : va_P D vwCl ((h0, .inr (7, [.ref (u0 0), .ref (u1 0), .ref (u2 0), .ref (u3 0), .ref (u4 0), .ref (u5 0), .ref (u6 0), .ref q84, .int 0])) :: (p_N cI u0 m0_N ++ (p_N cI u1 m0_N ++ (p_N cI u2 m0_N ++ (p_N cI u3 m0_N ++ (p_Y cI u4 (fun _ _ => 0) ++ (p_D cI u5 (fun _ _ => 0) ++ (p_P cI u6 (fun _ _ => 0) ++ ((q84, .inl (cO, 6, .inr (.inr (.inr (.inr (va_up (fun _ => none) 0 (some (u7 0)))))))) :: (p_H cI u7 (fun _ _ => 0))))))))))) H := hP
  have hD : va_D A ((h0, .inr (7, [.ref (u0 0), .ref (u1 0), .ref (u2 0), .ref (u3 0), .ref (u4 0), .ref (u5 0), .ref (u6 0), .ref q84, .int 0])) :: (p_N cI u0 m0_N ++ (p_N cI u1 m0_N ++ (p_N cI u2 m0_N ++ (p_N cI u3 m0_N ++ (p_Y cI u4 (fun _ _ => 0) ++ (p_D cI u5 (fun _ _ => 0) ++ (p_P cI u6 (fun _ _ => 0) ++ ((q84, .inl (cO, 6, .inr (.inr (.inr (.inr (va_up (fun _ => none) 0 (some (u7 0)))))))) :: (p_H cI u7 (fun _ _ => 0))))))))))) := hD
  refine lv_iinc (v := 1) (lv' := [(1, .int 1), (0, .ref h0)]) (k := 0) hx hb dX7_init_111 hl rfl (by decide +kernel) (by decide) rfl (fun ls hl => ?_)
  refine lv_goto (tgt := 92) hx hb dX7_init_114 (by decide) ?_
  refine lv_iload_n hx hb dX7_init_92 rfl (lv_at hl 0 rfl) ?_
  refine lv_bipush (v := 6) hx hb dX7_init_93 (by decide +kernel) ?_
  refine lv_icmp_ge (tgt := 117) hx hb dX7_init_95 (by decide) (fun c9 => absurd c9 (by decide +kernel)) (fun _ => ?_)
  refine lv_aload_n hx hb dX7_init_98 rfl (lv_at hl 1 rfl) ?_
  refine x_getr (C := RX7) (k := 7) hx hb hts u_X7_init_7 hown hK hP (q0 := 0) rfl rfl (by decide) ⟨rfl, rfl, rfl⟩ k_X7_init_f48 rfl dX7_init_99 ?_
  refine lv_iload_n hx hb dX7_init_102 rfl (lv_at hl 0 rfl) ?_
  refine va_new (ci := 1) (fs := [.int 0, .int 0, .int 0, .int 0, .int 0, .int 0, .null, .int 0]) (C := RX1) (T := TX1) (N := 8) hx hb hts u_X7_init_1 tyX1 tyX1_ok hown (hts _ k_X7_init_cl46) (hts _ k_X7_init_in1) (hts _ k_X7_init_it1) hK hP hD hS hA rfl (fun j hj => by rcases (show j = 0 ∨ j = 1 ∨ j = 2 ∨ j = 3 ∨ j = 4 ∨ j = 5 ∨ j = 6 ∨ j = 7 by omega) with rfl | rfl | rfl | rfl | rfl | rfl | rfl | rfl <;> rfl) (Nat.le_of_ble_eq_true rfl) (Nat.le_of_ble_eq_true rfl) dX7_init_103 (fun q103_62 H hP hD hS => ?_)
  refine W.widen (k := 96) (n := 5684) (by omega) (by omega) ?_
  refine lv_dup hx hb dX7_init_106 rfl ?_
  have hPc := hP.sub (ws' := [(q103_62, .inr (1, [.int 0, .int 0, .int 0, .int 0, .int 0, .int 0, .null, .int 0]))]) [96] rfl
  have hDc := hD.sub (ws' := [(q103_62, .inr (1, [.int 0, .int 0, .int 0, .int 0, .int 0, .int 0, .null, .int 0]))]) [96] (by decide) rfl
  have hFc := va_free (wc := [(q103_62, .inr (1, [.int 0, .int 0, .int 0, .int 0, .int 0, .int 0, .null, .int 0]))]) hD hS hA [96] rfl
  refine va_callv (va_runIN (As := []) (rest := [.ref q103_62, .int 1, .ref q84]) ⟨hx, hb, hml, hown, hts⟩ (c_X1_init l D cI [(cI, .int), (cO, .object RX1)] rfl q103_62 H.size) ⟨va_cnB 0 hts gX7_init_X1_init_n52 rfl rfl rfl hN52 (hts _ k_X7_init_it1) i_X1_init ⟨Nat.le_of_ble_eq_true rfl, Nat.le_of_ble_eq_true rfl⟩, rfl, hts _ k_X7_init_im1⟩ ⟨q_blind, q_preU hK hPc hDc⟩ rfl rfl hl.1 rfl (lv_room (Nat.le_of_ble_eq_true rfl)) dX7_init_107 ⟨Nat.le_of_ble_eq_true rfl, Nat.le_of_ble_eq_true rfl⟩) hS (fun q _ h => hFc q h) hFc (fun u8 t H1 locs ht9 hvm hw hB hz1 hk1 hS => ?_)
  obtain ⟨hP1, hD1⟩ := hB
  rw [ht9] at hP1
  obtain ⟨hPn, hDn⟩ := va_join (wr := ((h0, .inr (7, [.ref (u0 0), .ref (u1 0), .ref (u2 0), .ref (u3 0), .ref (u4 0), .ref (u5 0), .ref (u6 0), .ref q84, .int 0])) :: (p_N cI u0 m0_N ++ (p_N cI u1 m0_N ++ (p_N cI u2 m0_N ++ (p_N cI u3 m0_N ++ (p_Y cI u4 (fun _ _ => 0) ++ (p_D cI u5 (fun _ _ => 0) ++ (p_P cI u6 (fun _ _ => 0) ++ ((q84, .inl (cO, 6, .inr (.inr (.inr (.inr (va_up (fun _ => none) 0 (some (u7 0)))))))) :: (p_H cI u7 (fun _ _ => 0)))))))))))) (w1 := p_H cI u8 (fun _ _ => 0)) hP hD [96] [0, 1, 2, 3, 4, 5, 6, 7, 8, 9, 10, 11, 12, 13, 14, 15, 16, 17, 18, 19, 20, 21, 22, 23, 24, 25, 26, 27, 28, 29, 30, 31, 32, 33, 34, 35, 36, 37, 38, 39, 40, 41, 42, 43, 44, 45, 46, 47, 48, 49, 50, 51, 52, 53, 54, 55, 56, 57, 58, 59, 60, 61, 62, 63, 64, 65, 66, 67, 68, 69, 70, 71, 72, 73, 74, 75, 76, 77, 78, 79, 80, 81, 82, 83, 84, 85, 86, 87, 88, 89, 90, 91, 92, 93, 94, 95] rfl rfl (by decide +kernel) (by decide +kernel) hk1 hFc hP1 hD1
  have hw : u8 0 = q103_62 := hw
  subst hw
  generalize H1 = H at hPn hS ⊢
  have hP := hPn
  have hD := hDn
  refine W.widen (k := 97) (n := 5744) (by omega) (by omega) ?_
  have hP : va_P D vwCl ((h0, .inr (7, [.ref (u0 0), .ref (u1 0), .ref (u2 0), .ref (u3 0), .ref (u4 0), .ref (u5 0), .ref (u6 0), .ref q84, .int 0])) :: (p_N cI u0 m0_N ++ (p_N cI u1 m0_N ++ (p_N cI u2 m0_N ++ (p_N cI u3 m0_N ++ (p_Y cI u4 (fun _ _ => 0) ++ (p_D cI u5 (fun _ _ => 0) ++ (p_P cI u6 (fun _ _ => 0) ++ ((q84, .inl (cO, 6, .inr (.inr (.inr (.inr (va_up (fun _ => none) 0 (some (u7 0)))))))) :: (p_H cI u7 (fun _ _ => 0) ++ (p_H cI u8 (fun _ _ => 0)))))))))))) H := hP
  have hD : va_D A ((h0, .inr (7, [.ref (u0 0), .ref (u1 0), .ref (u2 0), .ref (u3 0), .ref (u4 0), .ref (u5 0), .ref (u6 0), .ref q84, .int 0])) :: (p_N cI u0 m0_N ++ (p_N cI u1 m0_N ++ (p_N cI u2 m0_N ++ (p_N cI u3 m0_N ++ (p_Y cI u4 (fun _ _ => 0) ++ (p_D cI u5 (fun _ _ => 0) ++ (p_P cI u6 (fun _ _ => 0) ++ ((q84, .inl (cO, 6, .inr (.inr (.inr (.inr (va_up (fun _ => none) 0 (some (u7 0)))))))) :: (p_H cI u7 (fun _ _ => 0) ++ (p_H cI u8 (fun _ _ => 0)))))))))))) := hD
  refine va_astq hx hb hK hP hD hS 93 1 96 1 (r := (RX1, TX1, 8)) rfl rfl rfl rfl (vp_in_nI (n := 1) (by decide) (by decide)) dX7_init_110 (fun H locs hP hD hS => ?_)
  have hP : va_P D vwCl ((h0, .inr (7, [.ref (u0 0), .ref (u1 0), .ref (u2 0), .ref (u3 0), .ref (u4 0), .ref (u5 0), .ref (u6 0), .ref q84, .int 0])) :: (p_N cI u0 m0_N ++ (p_N cI u1 m0_N ++ (p_N cI u2 m0_N ++ (p_N cI u3 m0_N ++ (p_Y cI u4 (fun _ _ => 0) ++ (p_D cI u5 (fun _ _ => 0) ++ (p_P cI u6 (fun _ _ => 0) ++ ((q84, .inl (cO, 6, .inr (.inr (.inr (.inr (va_up (va_up (fun _ => none) 0 (some (u7 0))) 1 (some (u8 0)))))))) :: (p_H cI u7 (fun _ _ => 0) ++ (p_H cI u8 (fun _ _ => 0)))))))))))) H := hP
  have hD : va_D A ((h0, .inr (7, [.ref (u0 0), .ref (u1 0), .ref (u2 0), .ref (u3 0), .ref (u4 0), .ref (u5 0), .ref (u6 0), .ref q84, .int 0])) :: (p_N cI u0 m0_N ++ (p_N cI u1 m0_N ++ (p_N cI u2 m0_N ++ (p_N cI u3 m0_N ++ (p_Y cI u4 (fun _ _ => 0) ++ (p_D cI u5 (fun _ _ => 0) ++ (p_P cI u6 (fun _ _ => 0) ++ ((q84, .inl (cO, 6, .inr (.inr (.inr (.inr (va_up (va_up (fun _ => none) 0 (some (u7 0))) 1 (some (u8 0)))))))) :: (p_H cI u7 (fun _ _ => 0) ++ (p_H cI u8 (fun _ _ => 0)))))))))))) := hD
  refine lv_iinc (v := 2) (lv' := [(1, .int 2), (0, .ref h0)]) (k := 0) hx hb dX7_init_111 hl rfl (by decide +kernel) (by decide) rfl (fun ls hl => ?_)
  refine lv_goto (tgt := 92) hx hb dX7_init_114 (by decide) ?_
  refine lv_iload_n hx hb dX7_init_92 rfl (lv_at hl 0 rfl) ?_
  refine lv_bipush (v := 6) hx hb dX7_init_93 (by decide +kernel) ?_
  refine lv_icmp_ge (tgt := 117) hx hb dX7_init_95 (by decide) (fun c9 => absurd c9 (by decide +kernel)) (fun _ => ?_)
  refine lv_aload_n hx hb dX7_init_98 rfl (lv_at hl 1 rfl) ?_
  refine x_getr (C := RX7) (k := 7) hx hb hts u_X7_init_7 hown hK hP (q0 := 0) rfl rfl (by decide) ⟨rfl, rfl, rfl⟩ k_X7_init_f48 rfl dX7_init_99 ?_
  refine lv_iload_n hx hb dX7_init_102 rfl (lv_at hl 0 rfl) ?_
  refine va_new (ci := 1) (fs := [.int 0, .int 0, .int 0, .int 0, .int 0, .int 0, .null, .int 0]) (C := RX1) (T := TX1) (N := 8) hx hb hts u_X7_init_1 tyX1 tyX1_ok hown (hts _ k_X7_init_cl46) (hts _ k_X7_init_in1) (hts _ k_X7_init_it1) hK hP hD hS hA rfl (fun j hj => by rcases (show j = 0 ∨ j = 1 ∨ j = 2 ∨ j = 3 ∨ j = 4 ∨ j = 5 ∨ j = 6 ∨ j = 7 by omega) with rfl | rfl | rfl | rfl | rfl | rfl | rfl | rfl <;> rfl) (Nat.le_of_ble_eq_true rfl) (Nat.le_of_ble_eq_true rfl) dX7_init_103 (fun q103_74 H hP hD hS => ?_)
  refine W.widen (k := 98) (n := 5752) (by omega) (by omega) ?_
  refine lv_dup hx hb dX7_init_106 rfl ?_
  have hPc := hP.sub (ws' := [(q103_74, .inr (1, [.int 0, .int 0, .int 0, .int 0, .int 0, .int 0, .null, .int 0]))]) [98] rfl
  have hDc := hD.sub (ws' := [(q103_74, .inr (1, [.int 0, .int 0, .int 0, .int 0, .int 0, .int 0, .null, .int 0]))]) [98] (by decide) rfl
  have hFc := va_free (wc := [(q103_74, .inr (1, [.int 0, .int 0, .int 0, .int 0, .int 0, .int 0, .null, .int 0]))]) hD hS hA [98] rfl
  refine va_callv (va_runIN (As := []) (rest := [.ref q103_74, .int 2, .ref q84]) ⟨hx, hb, hml, hown, hts⟩ (c_X1_init l D cI [(cI, .int), (cO, .object RX1)] rfl q103_74 H.size) ⟨va_cnB 0 hts gX7_init_X1_init_n52 rfl rfl rfl hN52 (hts _ k_X7_init_it1) i_X1_init ⟨Nat.le_of_ble_eq_true rfl, Nat.le_of_ble_eq_true rfl⟩, rfl, hts _ k_X7_init_im1⟩ ⟨q_blind, q_preU hK hPc hDc⟩ rfl rfl hl.1 rfl (lv_room (Nat.le_of_ble_eq_true rfl)) dX7_init_107 ⟨Nat.le_of_ble_eq_true rfl, Nat.le_of_ble_eq_true rfl⟩) hS (fun q _ h => hFc q h) hFc (fun u9 t H1 locs ht9 hvm hw hB hz1 hk1 hS => ?_)
  obtain ⟨hP1, hD1⟩ := hB
  rw [ht9] at hP1
  obtain ⟨hPn, hDn⟩ := va_join (wr := ((h0, .inr (7, [.ref (u0 0), .ref (u1 0), .ref (u2 0), .ref (u3 0), .ref (u4 0), .ref (u5 0), .ref (u6 0), .ref q84, .int 0])) :: (p_N cI u0 m0_N ++ (p_N cI u1 m0_N ++ (p_N cI u2 m0_N ++ (p_N cI u3 m0_N ++ (p_Y cI u4 (fun _ _ => 0) ++ (p_D cI u5 (fun _ _ => 0) ++ (p_P cI u6 (fun _ _ => 0) ++ ((q84, .inl (cO, 6, .inr (.inr (.inr (.inr (va_up (va_up (fun _ => none) 0 (some (u7 0))) 1 (some (u8 0)))))))) :: (p_H cI u7 (fun _ _ => 0) ++ (p_H cI u8 (fun _ _ => 0))))))))))))) (w1 := p_H cI u9 (fun _ _ => 0)) hP hD [98] [0, 1, 2, 3, 4, 5, 6, 7, 8, 9, 10, 11, 12, 13, 14, 15, 16, 17, 18, 19, 20, 21, 22, 23, 24, 25, 26, 27, 28, 29, 30, 31, 32, 33, 34, 35, 36, 37, 38, 39, 40, 41, 42, 43, 44, 45, 46, 47, 48, 49, 50, 51, 52, 53, 54, 55, 56, 57, 58, 59, 60, 61, 62, 63, 64, 65, 66, 67, 68, 69, 70, 71, 72, 73, 74, 75, 76, 77, 78, 79, 80, 81, 82, 83, 84, 85, 86, 87, 88, 89, 90, 91, 92, 93, 94, 95, 96, 97] rfl rfl (by decide +kernel) (by decide +kernel) hk1 hFc hP1 hD1
  have hw : u9 0 = q103_74 := hw
  subst hw
  generalize H1 = H at hPn hS ⊢
  have hP := hPn
  have hD := hDn
  refine W.widen (k := 99) (n := 5812) (by omega) (by omega) ?_
  have hP : va_P D vwCl ((h0, .inr (7, [.ref (u0 0), .ref (u1 0), .ref (u2 0), .ref (u3 0), .ref (u4 0), .ref (u5 0), .ref (u6 0), .ref q84, .int 0])) :: (p_N cI u0 m0_N ++ (p_N cI u1 m0_N ++ (p_N cI u2 m0_N ++ (p_N cI u3 m0_N ++ (p_Y cI u4 (fun _ _ => 0) ++ (p_D cI u5 (fun _ _ => 0) ++ (p_P cI u6 (fun _ _ => 0) ++ ((q84, .inl (cO, 6, .inr (.inr (.inr (.inr (va_up (va_up (fun _ => none) 0 (some (u7 0))) 1 (some (u8 0)))))))) :: (p_H cI u7 (fun _ _ => 0) ++ (p_H cI u8 (fun _ _ => 0) ++ (p_H cI u9 (fun _ _ => 0))))))))))))) H := hP
  have hD : va_D A ((h0, .inr (7, [.ref (u0 0), .ref (u1 0), .ref (u2 0), .ref (u3 0), .ref (u4 0), .ref (u5 0), .ref (u6 0), .ref q84, .int 0])) :: (p_N cI u0 m0_N ++ (p_N cI u1 m0_N ++ (p_N cI u2 m0_N ++ (p_N cI u3 m0_N ++ (p_Y cI u4 (fun _ _ => 0) ++ (p_D cI u5 (fun _ _ => 0) ++ (p_P cI u6 (fun _ _ => 0) ++ ((q84, .inl (cO, 6, .inr (.inr (.inr (.inr (va_up (va_up (fun _ => none) 0 (some (u7 0))) 1 (some (u8 0)))))))) :: (p_H cI u7 (fun _ _ => 0) ++ (p_H cI u8 (fun _ _ => 0) ++ (p_H cI u9 (fun _ _ => 0))))))))))))) := hD
  refine va_astq hx hb hK hP hD hS 93 1 98 1 (r := (RX1, TX1, 8)) rfl rfl rfl rfl (vp_in_nI (n := 2) (by decide) (by decide)) dX7_init_110 (fun H locs hP hD hS => ?_)
  have hP : va_P D vwCl ((h0, .inr (7, [.ref (u0 0), .ref (u1 0), .ref (u2 0), .ref (u3 0), .ref (u4 0), .ref (u5 0), .ref (u6 0), .ref q84, .int 0])) :: (p_N cI u0 m0_N ++ (p_N cI u1 m0_N ++ (p_N cI u2 m0_N ++ (p_N cI u3 m0_N ++ (p_Y cI u4 (fun _ _ => 0) ++ (p_D cI u5 (fun _ _ => 0) ++ (p_P cI u6 (fun _ _ => 0) ++ ((q84, .inl (cO, 6, .inr (.inr (.inr (.inr (va_up (va_up (va_up (fun _ => none) 0 (some (u7 0))) 1 (some (u8 0))) 2 (some (u9 0)))))))) :: (p_H cI u7 (fun _ _ => 0) ++ (p_H cI u8 (fun _ _ => 0) ++ (p_H cI u9 (fun _ _ => 0))))))))))))) H := hP
  have hD : va_D A ((h0, .inr (7, [.ref (u0 0), .ref (u1 0), .ref (u2 0), .ref (u3 0), .ref (u4 0), .ref (u5 0), .ref (u6 0), .ref q84, .int 0])) :: (p_N cI u0 m0_N ++ (p_N cI u1 m0_N ++ (p_N cI u2 m0_N ++ (p_N cI u3 m0_N ++ (p_Y cI u4 (fun _ _ => 0) ++ (p_D cI u5 (fun _ _ => 0) ++ (p_P cI u6 (fun _ _ => 0) ++ ((q84, .inl (cO, 6, .inr (.inr (.inr (.inr (va_up (va_up (va_up (fun _ => none) 0 (some (u7 0))) 1 (some (u8 0))) 2 (some (u9 0)))))))) :: (p_H cI u7 (fun _ _ => 0) ++ (p_H cI u8 (fun _ _ => 0) ++ (p_H cI u9 (fun _ _ => 0))))))))))))) := hD
  refine lv_iinc (v := 3) (lv' := [(1, .int 3), (0, .ref h0)]) (k := 0) hx hb dX7_init_111 hl rfl (by decide +kernel) (by decide) rfl (fun ls hl => ?_)
  refine lv_goto (tgt := 92) hx hb dX7_init_114 (by decide) ?_
  refine lv_iload_n hx hb dX7_init_92 rfl (lv_at hl 0 rfl) ?_
  refine lv_bipush (v := 6) hx hb dX7_init_93 (by decide +kernel) ?_
  refine lv_icmp_ge (tgt := 117) hx hb dX7_init_95 (by decide) (fun c9 => absurd c9 (by decide +kernel)) (fun _ => ?_)
  refine lv_aload_n hx hb dX7_init_98 rfl (lv_at hl 1 rfl) ?_
  refine x_getr (C := RX7) (k := 7) hx hb hts u_X7_init_7 hown hK hP (q0 := 0) rfl rfl (by decide) ⟨rfl, rfl, rfl⟩ k_X7_init_f48 rfl dX7_init_99 ?_
  refine lv_iload_n hx hb dX7_init_102 rfl (lv_at hl 0 rfl) ?_
  refine va_new (ci := 1) (fs := [.int 0, .int 0, .int 0, .int 0, .int 0, .int 0, .null, .int 0]) (C := RX1) (T := TX1) (N := 8) hx hb hts u_X7_init_1 tyX1 tyX1_ok hown (hts _ k_X7_init_cl46) (hts _ k_X7_init_in1) (hts _ k_X7_init_it1) hK hP hD hS hA rfl (fun j hj => by rcases (show j = 0 ∨ j = 1 ∨ j = 2 ∨ j = 3 ∨ j = 4 ∨ j = 5 ∨ j = 6 ∨ j = 7 by omega) with rfl | rfl | rfl | rfl | rfl | rfl | rfl | rfl <;> rfl) (Nat.le_of_ble_eq_true rfl) (Nat.le_of_ble_eq_true rfl) dX7_init_103 (fun q103_86 H hP hD hS => ?_)
  refine W.widen (k := 100) (n := 5820) (by omega) (by omega) ?_
  refine lv_dup hx hb dX7_init_106 rfl ?_
  have hPc := hP.sub (ws' := [(q103_86, .inr (1, [.int 0, .int 0, .int 0, .int 0, .int 0, .int 0, .null, .int 0]))]) [100] rfl
  have hDc := hD.sub (ws' := [(q103_86, .inr (1, [.int 0, .int 0, .int 0, .int 0, .int 0, .int 0, .null, .int 0]))]) [100] (by decide) rfl
  have hFc := va_free (wc := [(q103_86, .inr (1, [.int 0, .int 0, .int 0, .int 0, .int 0, .int 0, .null, .int 0]))]) hD hS hA [100] rfl
  refine va_callv (va_runIN (As := []) (rest := [.ref q103_86, .int 3, .ref q84]) ⟨hx, hb, hml, hown, hts⟩ (c_X1_init l D cI [(cI, .int), (cO, .object RX1)] rfl q103_86 H.size) ⟨va_cnB 0 hts gX7_init_X1_init_n52 rfl rfl rfl hN52 (hts _ k_X7_init_it1) i_X1_init ⟨Nat.le_of_ble_eq_true rfl, Nat.le_of_ble_eq_true rfl⟩, rfl, hts _ k_X7_init_im1⟩ ⟨q_blind, q_preU hK hPc hDc⟩ rfl rfl hl.1 rfl (lv_room (Nat.le_of_ble_eq_true rfl)) dX7_init_107 ⟨Nat.le_of_ble_eq_true rfl, Nat.le_of_ble_eq_true rfl⟩) hS (fun q _ h => hFc q h) hFc (fun u10 t H1 locs ht9 hvm hw hB hz1 hk1 hS => ?_)
  obtain ⟨hP1, hD1⟩ := hB
  rw [ht9] at hP1
  obtain ⟨hPn, hDn⟩ := va_join (wr := ((h0, .inr (7, [.ref (u0 0), .ref (u1 0), .ref (u2 0), .ref (u3 0), .ref (u4 0), .ref (u5 0), .ref (u6 0), .ref q84, .int 0])) :: (p_N cI u0 m0_N ++ (p_N cI u1 m0_N ++ (p_N cI u2 m0_N ++ (p_N cI u3 m0_N ++ (p_Y cI u4 (fun _ _ => 0) ++ (p_D cI u5 (fun _ _ => 0) ++ (p_P cI u6 (fun _ _ => 0) ++ ((q84, .inl (cO, 6, .inr (.inr (.inr (.inr (va_up (va_up (va_up (fun _ => none) 0 (some (u7 0))) 1 (some (u8 0))) 2 (some (u9 0)))))))) :: (p_H cI u7 (fun _ _ => 0) ++ (p_H cI u8 (fun _ _ => 0) ++ (p_H cI u9 (fun _ _ => 0)))))))))))))) (w1 := p_H cI u10 (fun _ _ => 0)) hP hD [100] [0, 1, 2, 3, 4, 5, 6, 7, 8, 9, 10, 11, 12, 13, 14, 15, 16, 17, 18, 19, 20, 21, 22, 23, 24, 25, 26, 27, 28, 29, 30, 31, 32, 33, 34, 35, 36, 37, 38, 39, 40, 41, 42, 43, 44, 45, 46, 47, 48, 49, 50, 51, 52, 53, 54, 55, 56, 57, 58, 59, 60, 61, 62, 63, 64, 65, 66, 67, 68, 69, 70, 71, 72, 73, 74, 75, 76, 77, 78, 79, 80, 81, 82, 83, 84, 85, 86, 87, 88, 89, 90, 91, 92, 93, 94, 95, 96, 97, 98, 99] rfl rfl (by decide +kernel) (by decide +kernel) hk1 hFc hP1 hD1
  have hw : u10 0 = q103_86 := hw
  subst hw
  generalize H1 = H at hPn hS ⊢
  have hP := hPn
  have hD := hDn
  refine W.widen (k := 101) (n := 5880) (by omega) (by omega) ?_
  have hP : va_P D vwCl ((h0, .inr (7, [.ref (u0 0), .ref (u1 0), .ref (u2 0), .ref (u3 0), .ref (u4 0), .ref (u5 0), .ref (u6 0), .ref q84, .int 0])) :: (p_N cI u0 m0_N ++ (p_N cI u1 m0_N ++ (p_N cI u2 m0_N ++ (p_N cI u3 m0_N ++ (p_Y cI u4 (fun _ _ => 0) ++ (p_D cI u5 (fun _ _ => 0) ++ (p_P cI u6 (fun _ _ => 0) ++ ((q84, .inl (cO, 6, .inr (.inr (.inr (.inr (va_up (va_up (va_up (fun _ => none) 0 (some (u7 0))) 1 (some (u8 0))) 2 (some (u9 0)))))))) :: (p_H cI u7 (fun _ _ => 0) ++ (p_H cI u8 (fun _ _ => 0) ++ (p_H cI u9 (fun _ _ => 0) ++ (p_H cI u10 (fun _ _ => 0)))))))))))))) H := hP
  have hD : va_D A ((h0, .inr (7, [.ref (u0 0), .ref (u1 0), .ref (u2 0), .ref (u3 0), .ref (u4 0), .ref (u5 0), .ref (u6 0), .ref q84, .int 0])) :: (p_N cI u0 m0_N ++ (p_N cI u1 m0_N ++ (p_N cI u2 m0_N ++ (p_N cI u3 m0_N ++ (p_Y cI u4 (fun _ _ => 0) ++ (p_D cI u5 (fun _ _ => 0) ++ (p_P cI u6 (fun _ _ => 0) ++ ((q84, .inl (cO, 6, .inr (.inr (.inr (.inr (va_up (va_up (va_up (fun _ => none) 0 (some (u7 0))) 1 (some (u8 0))) 2 (some (u9 0)))))))) :: (p_H cI u7 (fun _ _ => 0) ++ (p_H cI u8 (fun _ _ => 0) ++ (p_H cI u9 (fun _ _ => 0) ++ (p_H cI u10 (fun _ _ => 0)))))))))))))) := hD
  refine va_astq hx hb hK hP hD hS 93 1 100 1 (r := (RX1, TX1, 8)) rfl rfl rfl rfl (vp_in_nI (n := 3) (by decide) (by decide)) dX7_init_110 (fun H locs hP hD hS => ?_)
  have hP : va_P D vwCl ((h0, .inr (7, [.ref (u0 0), .ref (u1 0), .ref (u2 0), .ref (u3 0), .ref (u4 0), .ref (u5 0), .ref (u6 0), .ref q84, .int 0])) :: (p_N cI u0 m0_N ++ (p_N cI u1 m0_N ++ (p_N cI u2 m0_N ++ (p_N cI u3 m0_N ++ (p_Y cI u4 (fun _ _ => 0) ++ (p_D cI u5 (fun _ _ => 0) ++ (p_P cI u6 (fun _ _ => 0) ++ ((q84, .inl (cO, 6, .inr (.inr (.inr (.inr (va_up (va_up (va_up (va_up (fun _ => none) 0 (some (u7 0))) 1 (some (u8 0))) 2 (some (u9 0))) 3 (some (u10 0)))))))) :: (p_H cI u7 (fun _ _ => 0) ++ (p_H cI u8 (fun _ _ => 0) ++ (p_H cI u9 (fun _ _ => 0) ++ (p_H cI u10 (fun _ _ => 0)))))))))))))) H := hP
  have hD : va_D A ((h0, .inr (7, [.ref (u0 0), .ref (u1 0), .ref (u2 0), .ref (u3 0), .ref (u4 0), .ref (u5 0), .ref (u6 0), .ref q84, .int 0])) :: (p_N cI u0 m0_N ++ (p_N cI u1 m0_N ++ (p_N cI u2 m0_N ++ (p_N cI u3 m0_N ++ (p_Y cI u4 (fun _ _ => 0) ++ (p_D cI u5 (fun _ _ => 0) ++ (p_P cI u6 (fun _ _ => 0) ++ ((q84, .inl (cO, 6, .inr (.inr (.inr (.inr (va_up (va_up (va_up (va_up (fun _ => none) 0 (some (u7 0))) 1 (some (u8 0))) 2 (some (u9 0))) 3 (some (u10 0)))))))) :: (p_H cI u7 (fun _ _ => 0) ++ (p_H cI u8 (fun _ _ => 0) ++ (p_H cI u9 (fun _ _ => 0) ++ (p_H cI u10 (fun _ _ => 0)))))))))))))) := hD
  refine lv_iinc (v := 4) (lv' := [(1, .int 4), (0, .ref h0)]) (k := 0) hx hb dX7_init_111 hl rfl (by decide +kernel) (by decide) rfl (fun ls hl => ?_)
  refine lv_goto (tgt := 92) hx hb dX7_init_114 (by decide) ?_
  refine lv_iload_n hx hb dX7_init_92 rfl (lv_at hl 0 rfl) ?_
  refine lv_bipush (v := 6) hx hb dX7_init_93 (by decide +kernel) ?_
  refine lv_icmp_ge (tgt := 117) hx hb dX7_init_95 (by decide) (fun c9 => absurd c9 (by decide +kernel)) (fun _ => ?_)
  refine lv_aload_n hx hb dX7_init_98 rfl (lv_at hl 1 rfl) ?_
  refine x_getr (C := RX7) (k := 7) hx hb hts u_X7_init_7 hown hK hP (q0 := 0) rfl rfl (by decide) ⟨rfl, rfl, rfl⟩ k_X7_init_f48 rfl dX7_init_99 ?_
  refine lv_iload_n hx hb dX7_init_102 rfl (lv_at hl 0 rfl) ?_
  refine va_new (ci := 1) (fs := [.int 0, .int 0, .int 0, .int 0, .int 0, .int 0, .null, .int 0]) (C := RX1) (T := TX1) (N := 8) hx hb hts u_X7_init_1 tyX1 tyX1_ok hown (hts _ k_X7_init_cl46) (hts _ k_X7_init_in1) (hts _ k_X7_init_it1) hK hP hD hS hA rfl (fun j hj => by rcases (show j = 0 ∨ j = 1 ∨ j = 2 ∨ j = 3 ∨ j = 4 ∨ j = 5 ∨ j = 6 ∨ j = 7 by omega) with rfl | rfl | rfl | rfl | rfl | rfl | rfl | rfl <;> rfl) (Nat.le_of_ble_eq_true rfl) (Nat.le_of_ble_eq_true rfl) dX7_init_103 (fun q103_98 H hP hD hS => ?_)
  refine W.widen (k := 102) (n := 5888) (by omega) (by omega) ?_
  refine lv_dup hx hb dX7_init_106 rfl ?_
  have hPc := hP.sub (ws' := [(q103_98, .inr (1, [.int 0, .int 0, .int 0, .int 0, .int 0, .int 0, .null, .int 0]))]) [102] rfl
  have hDc := hD.sub (ws' := [(q103_98, .inr (1, [.int 0, .int 0, .int 0, .int 0, .int 0, .int 0, .null, .int 0]))]) [102] (by decide) rfl
  have hFc := va_free (wc := [(q103_98, .inr (1, [.int 0, .int 0, .int 0, .int 0, .int 0, .int 0, .null, .int 0]))]) hD hS hA [102] rfl
  refine va_callv (va_runIN (As := []) (rest := [.ref q103_98, .int 4, .ref q84]) ⟨hx, hb, hml, hown, hts⟩ (c_X1_init l D cI [(cI, .int), (cO, .object RX1)] rfl q103_98 H.size) ⟨va_cnB 0 hts gX7_init_X1_init_n52 rfl rfl rfl hN52 (hts _ k_X7_init_it1) i_X1_init ⟨Nat.le_of_ble_eq_true rfl, Nat.le_of_ble_eq_true rfl⟩, rfl, hts _ k_X7_init_im1⟩ ⟨q_blind, q_preU hK hPc hDc⟩ rfl rfl hl.1 rfl (lv_room (Nat.le_of_ble_eq_true rfl)) dX7_init_107 ⟨Nat.le_of_ble_eq_true rfl, Nat.le_of_ble_eq_true rfl⟩) hS (fun q _ h => hFc q h) hFc (fun u11 t H1 locs ht9 hvm hw hB hz1 hk1 hS => ?_)
  obtain ⟨hP1, hD1⟩ := hB
  rw [ht9] at hP1
  obtain ⟨hPn, hDn⟩ := va_join (wr := ((h0, .inr (7, [.ref (u0 0), .ref (u1 0), .ref (u2 0), .ref (u3 0), .ref (u4 0), .ref (u5 0), .ref (u6 0), .ref q84, .int 0])) :: (p_N cI u0 m0_N ++ (p_N cI u1 m0_N ++ (p_N cI u2 m0_N ++ (p_N cI u3 m0_N ++ (p_Y cI u4 (fun _ _ => 0) ++ (p_D cI u5 (fun _ _ => 0) ++ (p_P cI u6 (fun _ _ => 0) ++ ((q84, .inl (cO, 6, .inr (.inr (.inr (.inr (va_up (va_up (va_up (va_up (fun _ => none) 0 (some (u7 0))) 1 (some (u8 0))) 2 (some (u9 0))) 3 (some (u10 0)))))))) :: (p_H cI u7 (fun _ _ => 0) ++ (p_H cI u8 (fun _ _ => 0) ++ (p_H cI u9 (fun _ _ => 0) ++ (p_H cI u10 (fun _ _ => 0))))))))))))))) (w1 := p_H cI u11 (fun _ _ => 0)) hP hD [102] [0, 1, 2, 3, 4, 5, 6, 7, 8, 9, 10, 11, 12, 13, 14, 15, 16, 17, 18, 19, 20, 21, 22, 23, 24, 25, 26, 27, 28, 29, 30, 31, 32, 33, 34, 35, 36, 37, 38, 39, 40, 41, 42, 43, 44, 45, 46, 47, 48, 49, 50, 51, 52, 53, 54, 55, 56, 57, 58, 59, 60, 61, 62, 63, 64, 65, 66, 67, 68, 69, 70, 71, 72, 73, 74, 75, 76, 77, 78, 79, 80, 81, 82, 83, 84, 85, 86, 87, 88, 89, 90, 91, 92, 93, 94, 95, 96, 97, 98, 99, 100, 101] rfl rfl (by decide +kernel) (by decide +kernel) hk1 hFc hP1 hD1
  have hw : u11 0 = q103_98 := hw
  subst hw
  generalize H1 = H at hPn hS ⊢
  have hP := hPn
  have hD := hDn
  refine W.widen (k := 103) (n := 5948) (by omega) (by omega) ?_
  have hP : va_P D vwCl ((h0, .inr (7, [.ref (u0 0), .ref (u1 0), .ref (u2 0), .ref (u3 0), .ref (u4 0), .ref (u5 0), .ref (u6 0), .ref q84, .int 0])) :: (p_N cI u0 m0_N ++ (p_N cI u1 m0_N ++ (p_N cI u2 m0_N ++ (p_N cI u3 m0_N ++ (p_Y cI u4 (fun _ _ => 0) ++ (p_D cI u5 (fun _ _ => 0) ++ (p_P cI u6 (fun _ _ => 0) ++ ((q84, .inl (cO, 6, .inr (.inr (.inr (.inr (va_up (va_up (va_up (va_up (fun _ => none) 0 (some (u7 0))) 1 (some (u8 0))) 2 (some (u9 0))) 3 (some (u10 0)))))))) :: (p_H cI u7 (fun _ _ => 0) ++ (p_H cI u8 (fun _ _ => 0) ++ (p_H cI u9 (fun _ _ => 0) ++ (p_H cI u10 (fun _ _ => 0) ++ (p_H cI u11 (fun _ _ => 0))))))))))))))) H := hP
  have hD : va_D A ((h0, .inr (7, [.ref (u0 0), .ref (u1 0), .ref (u2 0), .ref (u3 0), .ref (u4 0), .ref (u5 0), .ref (u6 0), .ref q84, .int 0])) :: (p_N cI u0 m0_N ++ (p_N cI u1 m0_N ++ (p_N cI u2 m0_N ++ (p_N cI u3 m0_N ++ (p_Y cI u4 (fun _ _ => 0) ++ (p_D cI u5 (fun _ _ => 0) ++ (p_P cI u6 (fun _ _ => 0) ++ ((q84, .inl (cO, 6, .inr (.inr (.inr (.inr (va_up (va_up (va_up (va_up (fun _ => none) 0 (some (u7 0))) 1 (some (u8 0))) 2 (some (u9 0))) 3 (some (u10 0)))))))) :: (p_H cI u7 (fun _ _ => 0) ++ (p_H cI u8 (fun _ _ => 0) ++ (p_H cI u9 (fun _ _ => 0) ++ (p_H cI u10 (fun _ _ => 0) ++ (p_H cI u11 (fun _ _ => 0))))))))))))))) := hD
  refine va_astq hx hb hK hP hD hS 93 1 102 1 (r := (RX1, TX1, 8)) rfl rfl rfl rfl (vp_in_nI (n := 4) (by decide) (by decide)) dX7_init_110 (fun H locs hP hD hS => ?_)
  have hP : va_P D vwCl ((h0, .inr (7, [.ref (u0 0), .ref (u1 0), .ref (u2 0), .ref (u3 0), .ref (u4 0), .ref (u5 0), .ref (u6 0), .ref q84, .int 0])) :: (p_N cI u0 m0_N ++ (p_N cI u1 m0_N ++ (p_N cI u2 m0_N ++ (p_N cI u3 m0_N ++ (p_Y cI u4 (fun _ _ => 0) ++ (p_D cI u5 (fun _ _ => 0) ++ (p_P cI u6 (fun _ _ => 0) ++ ((q84, .inl (cO, 6, .inr (.inr (.inr (.inr (va_up (va_up (va_up (va_up (va_up (fun _ => none) 0 (some (u7 0))) 1 (some (u8 0))) 2 (some (u9 0))) 3 (some (u10 0))) 4 (some (u11 0)))))))) :: (p_H cI u7 (fun _ _ => 0) ++ (p_H cI u8 (fun _ _ => 0) ++ (p_H cI u9 (fun _ _ => 0) ++ (p_H cI u10 (fun _ _ => 0) ++ (p_H cI u11 (fun _ _ => 0))))))))))))))) H := hP
  have hD : va_D A ((h0, .inr (7, [.ref (u0 0), .ref (u1 0), .ref (u2 0), .ref (u3 0), .ref (u4 0), .ref (u5 0), .ref (u6 0), .ref q84, .int 0])) :: (p_N cI u0 m0_N ++ (p_N cI u1 m0_N ++ (p_N cI u2 m0_N ++ (p_N cI u3 m0_N ++ (p_Y cI u4 (fun _ _ => 0) ++ (p_D cI u5 (fun _ _ => 0) ++ (p_P cI u6 (fun _ _ => 0) ++ ((q84, .inl (cO, 6, .inr (.inr (.inr (.inr (va_up (va_up (va_up (va_up (va_up (fun _ => none) 0 (some (u7 0))) 1 (some (u8 0))) 2 (some (u9 0))) 3 (some (u10 0))) 4 (some (u11 0)))))))) :: (p_H cI u7 (fun _ _ => 0) ++ (p_H cI u8 (fun _ _ => 0) ++ (p_H cI u9 (fun _ _ => 0) ++ (p_H cI u10 (fun _ _ => 0) ++ (p_H cI u11 (fun _ _ => 0))))))))))))))) := hD
  refine lv_iinc (v := 5) (lv' := [(1, .int 5), (0, .ref h0)]) (k := 0) hx hb dX7_init_111 hl rfl (by decide +kernel) (by decide) rfl (fun ls hl => ?_)
  refine lv_goto (tgt := 92) hx hb dX7_init_114 (by decide) ?_
  refine lv_iload_n hx hb dX7_init_92 rfl (lv_at hl 0 rfl) ?_
  refine lv_bipush (v := 6) hx hb dX7_init_93 (by decide +kernel) ?_
  refine lv_icmp_ge (tgt := 117) hx hb dX7_init_95 (by decide) (fun c9 => absurd c9 (by decide +kernel)) (fun _ => ?_)
  refine lv_aload_n hx hb dX7_init_98 rfl (lv_at hl 1 rfl) ?_
  refine x_getr (C := RX7) (k := 7) hx hb hts u_X7_init_7 hown hK hP (q0 := 0) rfl rfl (by decide) ⟨rfl, rfl, rfl⟩ k_X7_init_f48 rfl dX7_init_99 ?_
  refine lv_iload_n hx hb dX7_init_102 rfl (lv_at hl 0 rfl) ?_
  refine va_new (ci := 1) (fs := [.int 0, .int 0, .int 0, .int 0, .int 0, .int 0, .null, .int 0]) (C := RX1) (T := TX1) (N := 8) hx hb hts u_X7_init_1 tyX1 tyX1_ok hown (hts _ k_X7_init_cl46) (hts _ k_X7_init_in1) (hts _ k_X7_init_it1) hK hP hD hS hA rfl (fun j hj => by rcases (show j = 0 ∨ j = 1 ∨ j = 2 ∨ j = 3 ∨ j = 4 ∨ j = 5 ∨ j = 6 ∨ j = 7 by omega) with rfl | rfl | rfl | rfl | rfl | rfl | rfl | rfl <;> rfl) (Nat.le_of_ble_eq_true rfl) (Nat.le_of_ble_eq_true rfl) dX7_init_103 (fun q103_110 H hP hD hS => ?_)
  refine W.widen (k := 104) (n := 5956) (by omega) (by omega) ?_
  refine lv_dup hx hb dX7_init_106 rfl ?_
  have hPc := hP.sub (ws' := [(q103_110, .inr (1, [.int 0, .int 0, .int 0, .int 0, .int 0, .int 0, .null, .int 0]))]) [104] rfl
  have hDc := hD.sub (ws' := [(q103_110, .inr (1, [.int 0, .int 0, .int 0, .int 0, .int 0, .int 0, .null, .int 0]))]) [104] (by decide) rfl
  have hFc := va_free (wc := [(q103_110, .inr (1, [.int 0, .int 0, .int 0, .int 0, .int 0, .int 0, .null, .int 0]))]) hD hS hA [104] rfl
  refine va_callv (va_runIN (As := []) (rest := [.ref q103_110, .int 5, .ref q84]) ⟨hx, hb, hml, hown, hts⟩ (c_X1_init l D cI [(cI, .int), (cO, .object RX1)] rfl q103_110 H.size) ⟨va_cnB 0 hts gX7_init_X1_init_n52 rfl rfl rfl hN52 (hts _ k_X7_init_it1) i_X1_init ⟨Nat.le_of_ble_eq_true rfl, Nat.le_of_ble_eq_true rfl⟩, rfl, hts _ k_X7_init_im1⟩ ⟨q_blind, q_preU hK hPc hDc⟩ rfl rfl hl.1 rfl (lv_room (Nat.le_of_ble_eq_true rfl)) dX7_init_107 ⟨Nat.le_of_ble_eq_true rfl, Nat.le_of_ble_eq_true rfl⟩) hS (fun q _ h => hFc q h) hFc (fun u12 t H1 locs ht9 hvm hw hB hz1 hk1 hS => ?_)
  obtain ⟨hP1, hD1⟩ := hB
  rw [ht9] at hP1
  obtain ⟨hPn, hDn⟩ := va_join (wr := ((h0, .inr (7, [.ref (u0 0), .ref (u1 0), .ref (u2 0), .ref (u3 0), .ref (u4 0), .ref (u5 0), .ref (u6 0), .ref q84, .int 0])) :: (p_N cI u0 m0_N ++ (p_N cI u1 m0_N ++ (p_N cI u2 m0_N ++ (p_N cI u3 m0_N ++ (p_Y cI u4 (fun _ _ => 0) ++ (p_D cI u5 (fun _ _ => 0) ++ (p_P cI u6 (fun _ _ => 0) ++ ((q84, .inl (cO, 6, .inr (.inr (.inr (.inr (va_up (va_up (va_up (va_up (va_up (fun _ => none) 0 (some (u7 0))) 1 (some (u8 0))) 2 (some (u9 0))) 3 (some (u10 0))) 4 (some (u11 0)))))))) :: (p_H cI u7 (fun _ _ => 0) ++ (p_H cI u8 (fun _ _ => 0) ++ (p_H cI u9 (fun _ _ => 0) ++ (p_H cI u10 (fun _ _ => 0) ++ (p_H cI u11 (fun _ _ => 0)))))))))))))))) (w1 := p_H cI u12 (fun _ _ => 0)) hP hD [104] [0, 1, 2, 3, 4, 5, 6, 7, 8, 9, 10, 11, 12, 13, 14, 15, 16, 17, 18, 19, 20, 21, 22, 23, 24, 25, 26, 27, 28, 29, 30, 31, 32, 33, 34, 35, 36, 37, 38, 39, 40, 41, 42, 43, 44, 45, 46, 47, 48, 49, 50, 51, 52, 53, 54, 55, 56, 57, 58, 59, 60, 61, 62, 63, 64, 65, 66, 67, 68, 69, 70, 71, 72, 73, 74, 75, 76, 77, 78, 79, 80, 81, 82, 83, 84, 85, 86, 87, 88, 89, 90, 91, 92, 93, 94, 95, 96, 97, 98, 99, 100, 101, 102, 103] rfl rfl (by decide +kernel) (by decide +kernel) hk1 hFc hP1 hD1
  have hw : u12 0 = q103_110 := hw
  subst hw
  generalize H1 = H at hPn hS ⊢
  have hP := hPn
  have hD := hDn
  refine W.widen (k := 105) (n := 6016) (by omega) (by omega) ?_
  have hP : va_P D vwCl ((h0, .inr (7, [.ref (u0 0), .ref (u1 0), .ref (u2 0), .ref (u3 0), .ref (u4 0), .ref (u5 0), .ref (u6 0), .ref q84, .int 0])) :: (p_N cI u0 m0_N ++ (p_N cI u1 m0_N ++ (p_N cI u2 m0_N ++ (p_N cI u3 m0_N ++ (p_Y cI u4 (fun _ _ => 0) ++ (p_D cI u5 (fun _ _ => 0) ++ (p_P cI u6 (fun _ _ => 0) ++ ((q84, .inl (cO, 6, .inr (.inr (.inr (.inr (va_up (va_up (va_up (va_up (va_up (fun _ => none) 0 (some (u7 0))) 1 (some (u8 0))) 2 (some (u9 0))) 3 (some (u10 0))) 4 (some (u11 0)))))))) :: (p_H cI u7 (fun _ _ => 0) ++ (p_H cI u8 (fun _ _ => 0) ++ (p_H cI u9 (fun _ _ => 0) ++ (p_H cI u10 (fun _ _ => 0) ++ (p_H cI u11 (fun _ _ => 0) ++ (p_H cI u12 (fun _ _ => 0)))))))))))))))) H := hP
  have hD : va_D A ((h0, .inr (7, [.ref (u0 0), .ref (u1 0), .ref (u2 0), .ref (u3 0), .ref (u4 0), .ref (u5 0), .ref (u6 0), .ref q84, .int 0])) :: (p_N cI u0 m0_N ++ (p_N cI u1 m0_N ++ (p_N cI u2 m0_N ++ (p_N cI u3 m0_N ++ (p_Y cI u4 (fun _ _ => 0) ++ (p_D cI u5 (fun _ _ => 0) ++ (p_P cI u6 (fun _ _ => 0) ++ ((q84, .inl (cO, 6, .inr (.inr (.inr (.inr (va_up (va_up (va_up (va_up (va_up (fun _ => none) 0 (some (u7 0))) 1 (some (u8 0))) 2 (some (u9 0))) 3 (some (u10 0))) 4 (some (u11 0)))))))) :: (p_H cI u7 (fun _ _ => 0) ++ (p_H cI u8 (fun _ _ => 0) ++ (p_H cI u9 (fun _ _ => 0) ++ (p_H cI u10 (fun _ _ => 0) ++ (p_H cI u11 (fun _ _ => 0) ++ (p_H cI u12 (fun _ _ => 0)))))))))))))))) := hD
  refine va_astq hx hb hK hP hD hS 93 1 104 1 (r := (RX1, TX1, 8)) rfl rfl rfl rfl (vp_in_nI (n := 5) (by decide) (by decide)) dX7_init_110 (fun H locs hP hD hS => ?_)
  have hP : va_P D vwCl ((h0, .inr (7, [.ref (u0 0), .ref (u1 0), .ref (u2 0), .ref (u3 0), .ref (u4 0), .ref (u5 0), .ref (u6 0), .ref q84, .int 0])) :: (p_N cI u0 m0_N ++ (p_N cI u1 m0_N ++ (p_N cI u2 m0_N ++ (p_N cI u3 m0_N ++ (p_Y cI u4 (fun _ _ => 0) ++ (p_D cI u5 (fun _ _ => 0) ++ (p_P cI u6 (fun _ _ => 0) ++ ((q84, .inl (cO, 6, .inr (.inr (.inr (.inr (va_up (va_up (va_up (va_up (va_up (va_up (fun _ => none) 0 (some (u7 0))) 1 (some (u8 0))) 2 (some (u9 0))) 3 (some (u10 0))) 4 (some (u11 0))) 5 (some (u12 0)))))))) :: (p_H cI u7 (fun _ _ => 0) ++ (p_H cI u8 (fun _ _ => 0) ++ (p_H cI u9 (fun _ _ => 0) ++ (p_H cI u10 (fun _ _ => 0) ++ (p_H cI u11 (fun _ _ => 0) ++ (p_H cI u12 (fun _ _ => 0)))))))))))))))) H := hP
  have hD : va_D A ((h0, .inr (7, [.ref (u0 0), .ref (u1 0), .ref (u2 0), .ref (u3 0), .ref (u4 0), .ref (u5 0), .ref (u6 0), .ref q84, .int 0])) :: (p_N cI u0 m0_N ++ (p_N cI u1 m0_N ++ (p_N cI u2 m0_N ++ (p_N cI u3 m0_N ++ (p_Y cI u4 (fun _ _ => 0) ++ (p_D cI u5 (fun _ _ => 0) ++ (p_P cI u6 (fun _ _ => 0) ++ ((q84, .inl (cO, 6, .inr (.inr (.inr (.inr (va_up (va_up (va_up (va_up (va_up (va_up (fun _ => none) 0 (some (u7 0))) 1 (some (u8 0))) 2 (some (u9 0))) 3 (some (u10 0))) 4 (some (u11 0))) 5 (some (u12 0)))))))) :: (p_H cI u7 (fun _ _ => 0) ++ (p_H cI u8 (fun _ _ => 0) ++ (p_H cI u9 (fun _ _ => 0) ++ (p_H cI u10 (fun _ _ => 0) ++ (p_H cI u11 (fun _ _ => 0) ++ (p_H cI u12 (fun _ _ => 0)))))))))))))))) := hD
  refine lv_iinc (v := 6) (lv' := [(1, .int 6), (0, .ref h0)]) (k := 0) hx hb dX7_init_111 hl rfl (by decide +kernel) (by decide) rfl (fun ls hl => ?_)
  refine lv_goto (tgt := 92) hx hb dX7_init_114 (by decide) ?_
  refine lv_iload_n hx hb dX7_init_92 rfl (lv_at hl 0 rfl) ?_
  refine lv_bipush (v := 6) hx hb dX7_init_93 (by decide +kernel) ?_
  refine lv_icmp_ge (tgt := 117) hx hb dX7_init_95 (by decide) (fun _ => ?_) (fun c9 => absurd (by decide +kernel) c9)
  have hP : va_P D vwCl (p_V cI cO (ad_V h0 u0 u1 u2 u3 u4 u5 u6 u7 u8 u9 u10 u11 u12 q84) m0_V) H := q_hold hP (by decide) 93 rfl rfl (fun j hj => by rcases (show j = 0 ∨ j = 1 ∨ j = 2 ∨ j = 3 ∨ j = 4 ∨ j = 5 by omega) with rfl | rfl | rfl | rfl | rfl | rfl <;> rfl)
  have hD : va_D A (p_V cI cO (ad_V h0 u0 u1 u2 u3 u4 u5 u6 u7 u8 u9 u10 u11 u12 q84) m0_V) := q_D_fst (w := ((h0, .inr (7, [.ref (u0 0), .ref (u1 0), .ref (u2 0), .ref (u3 0), .ref (u4 0), .ref (u5 0), .ref (u6 0), .ref q84, .int 0])) :: (p_N cI u0 m0_N ++ (p_N cI u1 m0_N ++ (p_N cI u2 m0_N ++ (p_N cI u3 m0_N ++ (p_Y cI u4 (fun _ _ => 0) ++ (p_D cI u5 (fun _ _ => 0) ++ (p_P cI u6 (fun _ _ => 0) ++ ((q84, .inl (cO, 6, .inr (.inr (.inr (.inr (va_up (va_up (va_up (va_up (va_up (va_up (fun _ => none) 0 (some (u7 0))) 1 (some (u8 0))) 2 (some (u9 0))) 3 (some (u10 0))) 4 (some (u11 0))) 5 (some (u12 0)))))))) :: (p_H cI u7 (fun _ _ => 0) ++ (p_H cI u8 (fun _ _ => 0) ++ (p_H cI u9 (fun _ _ => 0) ++ (p_H cI u10 (fun _ _ => 0) ++ (p_H cI u11 (fun _ _ => 0) ++ (p_H cI u12 (fun _ _ => 0))))))))))))))))) rfl hD
  exact W.vret hx hb hr (fun t ht9 hW => ⟨⟨(ad_V h0 u0 u1 u2 u3 u4 u5 u6 u7 u8 u9 u10 u11 u12 q84), rfl, rfl, cO, hK.moved hW.alike, by rw [ht9]; exact hP, hD⟩, hS.F ht9⟩) hS.2.2 dX7_init_117 hlocks
