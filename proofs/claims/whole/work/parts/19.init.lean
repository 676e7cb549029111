/-! constructors: a new object with its fields as they are at first becomes a whole world at addresses that come with it -/
theorem q_lim_eq {D : qB → qB} {i j : Nat} {σ τ : qM} {xs ys : List Int32} (h : ∀ go : qB, D go i σ xs = go j τ ys) : q_lim D i σ xs = q_lim D j τ ys := by
  cases h2 : q_lim D j τ ys with
  | some R => exact q_lim_go h h2
  | none =>
    cases h1 : q_lim D i σ xs with
    | none => rfl
    | some R =>
      obtain ⟨N, hN⟩ := q_lim_of h1
      have h3 : q_lim D j τ ys = some R := q_lim_to ⟨N, fun n hn => by
        have h4 := hN (n + 1) (by omega)
        rw [show q_it D (n + 1) i σ xs = D (q_it D n) i σ xs from rfl, h] at h4
        exact h4⟩
      rw [h2] at h3
      cases h3
theorem q_inB_n {i n : Nat} (h : i < n) (hn : n < 2 ^ 31) : q_inB (nI i) n = true := decide_eq_true (by rw [nI_toInt (by omega)]; omega)
theorem q_rd_n {α : Type} {σ : qM} {r n i : Nat} {K : Int32 → Option α} (h : i < n) (hn : n < 2 ^ 31) : q_rd σ r n (nI i) K = K (σ r i) := by
  unfold q_rd
  rw [q_inB_n h hn, nI_clamp (by omega)]
  rfl
theorem q_wt_n {α : Type} {σ : qM} {r n i : Nat} {v : Int32} {K : qM → Option α} (h : i < n) (hn : n < 2 ^ 31) : q_wt σ r n (nI i) v K = K (q_wr σ r i v) := by
  unfold q_wt
  rw [q_inB_n h hn, nI_clamp (by omega)]
  rfl
theorem q_beq_ne {k r : Nat} (h : k ≠ r) : Nat.beq k r = false := by
  cases e : Nat.beq k r with
  | false => rfl
  | true => exact absurd (Nat.eq_of_beq_eq_true e) h
theorem q_wa_at (σ : qM) (r : Nat) (g : Nat → Int32) (k : Nat) : q_wa σ r g k = if k = r then g else σ k := by
  unfold q_wa
  by_cases h : k = r
  · rw [if_pos h, h, Nat.beq_refl]; rfl
  · rw [if_neg h, q_beq_ne h]; rfl
theorem fill_go {n : Nat} (hn : n < 2 ^ 31) (x : Int32) : ∀ (k i : Nat) (σ : qM), i + k = n → q_lim (D_J7_fill_53178 n) 0 σ [x, nI i, nI n] = some (0, q_wa σ 0 (fun j => if i ≤ j ∧ j < n then x else σ 0 j)) := by
  intro k
  induction k with
  | zero =>
    intro i σ hi
    have e : i = n := by omega
    subst e
    refine q_lim_ret (fun go => ?_)
    show b_J7_fill_53178_5 i go σ x (nI i) (nI i) = _
    unfold b_J7_fill_53178_5
    rw [if_pos (nI_le (Nat.le_refl i) hn)]
    congr 2
    funext r
    rw [q_wa_at]
    by_cases h : r = 0
    · rw [if_pos h, h]
      funext j
      rw [if_neg (by omega)]
    · rw [if_neg h]
  | succ k ih =>
    intro i σ hi
    rw [q_lim_eq (j := 0) (τ := q_wr σ 0 i x) (ys := [x, nI (i + 1), nI n]) (fun go => ?_), ih (i + 1) _ (by omega)]
    · congr 2
      funext r
      rw [q_wa_at, q_wa_at]
      by_cases h : r = 0
      · rw [if_pos h, if_pos h]
        funext j
        show (if i + 1 ≤ j ∧ j < n then x else upd (σ 0) i x j) = _
        unfold upd
        by_cases h1 : i + 1 ≤ j ∧ j < n
        · rw [if_pos h1, if_pos (by omega)]
        · rw [if_neg h1]
          by_cases h2 : j = i
          · rw [if_pos h2, if_pos (by omega)]
          · rw [if_neg h2, if_neg (by omega)]
      · rw [if_neg h, if_neg h]
        show cond (Nat.beq r 0) _ (σ r) = σ r
        rw [q_beq_ne h]; rfl
    · show b_J7_fill_53178_5 n go σ x (nI i) (nI n) = _
      unfold b_J7_fill_53178_5
      rw [if_neg (nI_ge (by omega) hn), q_wt_n (by omega) hn]
      show go 0 (q_wr σ 0 i x) [x, nI i + 1, nI n] = _
      rw [nI_1]
theorem fillS {n : Nat} (hn : n < 2 ^ 31) (σ : qM) (x : Int32) : f_J7_fill_53178 n σ x = some (0, q_wa σ 0 (fun j => if 0 ≤ j ∧ j < n then x else σ 0 j)) := fill_go hn x n 0 σ (by omega)
def q_ad (l : List Nat) : Nat → Nat := fun k => l.getD k 0
def q_Ini (l : Launch) (y : MethodName) (ws : List Cond) (rm : Room) (D : va_G) (tys : List (ClassId × FieldType)) (ci : Nat) (fs0 : List Value) (pic : (Nat → Nat) → qM → va_W) (σ0 : qM) (mc ms : Nat) : Prop := ∀ (h0 sz : Nat), Met l y ws rm (va_Pc [.ref h0] (q_Pre D tys [(h0, .inr (ci, fs0))] sz)) (va_Qv (fun u : Nat → Nat => u 0 = h0) (fun u t => va_P D vwCl (pic u σ0) t.heap ∧ va_D (va_A [(h0, .inr (ci, fs0))] sz) (pic u σ0)) (va_A [(h0, .inr (ci, fs0))] sz)) mc ms (va_A [(h0, .inr (ci, fs0))] sz)
theorem q_cls {D : va_G} {cl : List vw_C} {tys : List (ClassId × FieldType)} {s : State} {cI cA : ClassId} (h1 : va_K D cl (tys ++ [(cA, .int)]) s) (h : va_K D cl tys s) (ht : tys[0]? = some (cI, .int)) : cA = cI := by
  have a : va_RA s cA .int := (h1.2 tys.length (cA, .int) (by simp)).2
  have b : va_RA s cI .int := (h.2 0 _ ht).2
  exact Option.some.inj (Eq.trans (Eq.symm a) b)
theorem x_ofIn {l : Launch} {y : MethodName} {ws ws' : List Cond} {rm : Room} {D : va_G} {tys : List (ClassId × FieldType)} {ci : Nat} {fs0 : List Value} {pic : (Nat → Nat) → qM → va_W} {σ0 : qM} {mc ms : Nat} {cc : ByteArray} {maxL : Nat} (hy : plainName y.cls = true) (hw : ws = Cond.code y cc maxL none :: ws') (hlen : ∀ h0 : Nat, (lg_sl [Value.ref h0]).length ≤ maxL)
    (body : ∀ (p : Program) (e : Env) (s : State) (m : MethodId) (below : List Frame) (meth : Method) (c : Code) (A : Nat → Prop) (ls : Array Slot) (h0 : Nat), p.tables.exec = Jvm.exec → c.code = cc → c.maxLocals = maxL → meth.sig.returnType = none → meth.locks = false → meth.name = y.name → s.vm.findClass y.cls = some m.cls → (∀ w ∈ ws, w.before [Value.ref h0].toArray s = true) → va_K D vwCl tys s → va_P D vwCl [(h0, .inr (ci, fs0))] s.heap → va_D A [(h0, .inr (ci, fs0))] → (∀ q : Nat, s.heap.size ≤ q → A q) → va_S A s.heap s.heap [] → lv_has ls maxL [(0, .ref h0)] →
      W p l e rm s m [Value.ref h0].toArray below meth c s.heap [] 0 0 (MQ below (va_Qv (fun u : Nat → Nat => u 0 = h0) (fun u t => va_P D vwCl (pic u σ0) t.heap ∧ va_D A (pic u σ0)) A) [Value.ref h0].toArray s mc ms A) (F0 m 0 ls [])) : q_Ini l y ws rm D tys ci fs0 pic σ0 mc ms := by
  intro h0 sz
  refine Met.ofW (cc := cc) (maxL := maxL) (ret := none) hy hw ?_
  intro p e s m args below meth c s₁ B hml hv
  obtain ⟨rfl, hsz, hP, hK, hD0⟩ := hv
  have hts := atoms_spec (ws := ws) B.pre
  have hown : s.vm.findClass y.cls = some m.cls := findClass_of_methodNamed B.named
  have hin : meth.name = y.name := (name_of_methodNamed B.named B.method).1
  subst hsz
  have hD := hD0.self (sz := s.heap.size)
  have hl := lv_entry [Value.ref h0] (n := maxL) (hlen h0)
  rw [lg_entry_eq]
  exact body p e s m below meth c _ _ h0 B.exec B.bytes hml B.returns B.notSynchronized hin hown hts hK hP hD (fun q h => Or.inr h) va_S.rf hl
def z_M : qM := fun _ _ => 0
def m0_T : qM := q_put 1 1 z_M (q_wa (q_sub 1 z_M) 0 (fun j => if 0 ≤ j ∧ j < 100 then -1 else q_sub 1 z_M 0 j))
theorem fr_T_A_1 (cI : ClassId) (a : Nat → Nat) (σ : qM) : q_Fr (p_T cI a σ) (p_A cI 100 (q_sub 1 a) (q_sub 1 σ)) (p_A cI 100 (q_sub 1 a)) (fun τ => p_T cI a (q_put 1 1 σ τ)) := q_fr1 ((p_T cI a σ).take 1) (p_A cI 100 (q_sub 1 a) (q_sub 1 σ)) ((p_T cI a σ).drop 2) (p_A cI 100 (q_sub 1 a))
theorem i_X4_init : yX4_init.cls ≠ "java/lang/invoke/MethodHandle" ∧ yX4_init.cls ≠ "java/lang/invoke/VarHandle" ∧ (parseMethodDescriptor yX4_init.desc).map (fun d => d.parameters.length) = some 0 := by decide +kernel
theorem k_X4_init_ac : Cond.arrayClass .int ∈ wsX4_init := by decide +kernel
theorem k_X4_init_f15 : Cond.fieldLink RX4 15 RX4 "via" "[I" ∈ wsX4_init := by decide +kernel
theorem k_X4_init_f18 : Cond.fieldLink RX4 18 RX4 "sequence" "[I" ∈ wsX4_init := by decide +kernel
theorem k_X4_init_f21 : Cond.fieldLink RX4 21 RX4 "held" "[I" ∈ wsX4_init := by decide +kernel
theorem k_X4_init_f24 : Cond.fieldLink RX4 24 RX4 "order" "[I" ∈ wsX4_init := by decide +kernel
theorem k_X4_init_f27 : Cond.fieldLink RX4 27 RX4 "size" "[I" ∈ wsX4_init := by decide +kernel
theorem k_X4_init_f9 : Cond.fieldLink RX4 9 RX4 "metric" "[I" ∈ wsX4_init := by decide +kernel
theorem k_X4_init_o1 : Cond.methodLink RX4 3 objectInit ∈ wsX4_init := by decide +kernel
theorem k_X4_init_o2 : Cond.instanceMethod objectInit ∈ wsX4_init := by decide +kernel
theorem k_X4_init_o3 : Cond.code objectInit ⟨#[0xb1]⟩ 1 none ∈ wsX4_init := by decide +kernel
theorem u_X4_init : ∀ w ∈ u_ws RX4 TX4 6, w ∈ wsX4_init := by decide +kernel
set_option maxHeartbeats 4000000 in
set_option maxRecDepth 100000 in
theorem c_X4_init (l : Launch) (D : va_G) (cI : ClassId) (tys : List (ClassId × FieldType)) (ht : tys[0]? = some (cI, .int)) : q_Ini l yX4_init wsX4_init ({ frames := 1, cells := 6, slots := 510, locals := 23 }) D tys 4 [.null, .null, .null, .null, .null, .null] (p_T cI) m0_T 6 510 := by
  refine x_ofIn (cc := cX4_init) (maxL := 1) (by decide +kernel) rfl (fun _ => Nat.le_of_ble_eq_true rfl) ?_
  intro p e s m below meth c A ls h0 hx hb hml hr hlocks hin hown hts hK hP hD hA hS hl
  have hown : s.vm.findClass RX4 = some m.cls := hown
  have hin : meth.name = "<init>" := hin
  refine lv_aload_n hx hb dX4_init_0 rfl (lv_at hl 0 rfl) ?_
  refine W.objInit hx hb hown (hts _ k_X4_init_o1) (hts _ k_X4_init_o2) (hts _ k_X4_init_o3) rfl (by rw [hml]; exact hl.1) rfl dX4_init_1 (Nat.le_of_ble_eq_true rfl) (Nat.le_of_ble_eq_true rfl) ?_
  refine W.eq (g2 := F0 m 4 ls []) rfl ?_
  refine lv_aload_n hx hb dX4_init_4 rfl (lv_at hl 0 rfl) ?_
  refine lv_bipush (v := 100) hx hb dX4_init_5 (by decide +kernel) ?_
  refine va_newa (atype := .int) (a0 := (100, .inl (fun _ => 0))) (N' := 100) hx hb (hts _ k_X4_init_ac) rfl hK hP hD hS hA (fun _ => rfl) (by decide +kernel) (by decide +kernel) (Nat.le_of_ble_eq_true rfl) (Nat.le_of_ble_eq_true rfl) (Nat.le_of_ble_eq_true rfl) dX4_init_7 (fun q7 cA H hK1 hP hD hS => ?_)
  have e9 : cA = cI := q_cls hK1 hK ht
  rw [e9] at hP hD
  have hP : va_P D vwCl [(h0, .inr (4, [.null, .null, .null, .null, .null, .null])), (q7, .inl (cI, 100, .inl (fun _ => 0)))] H := hP
  have hD : va_D A [(h0, .inr (4, [.null, .null, .null, .null, .null, .null])), (q7, .inl (cI, 100, .inl (fun _ => 0)))] := hD
  refine W.widen (k := 1) (n := 100) (by omega) (by omega) ?_
  refine va_putF (D := D) (ci := 4) (v := .ref q7) (ty := .array .int) (C := RX4) (T := TX4) (N := 6) hx hb hts u_X4_init tyX4 tyX4_ok nmX4 hown hK hP hD hS 0 rfl rfl 0 (by decide) (ref := RX4) (hts _ k_X4_init_f9) (fun _ h9 => h9) rfl hin rfl (by decide +kernel) rfl rfl (Nat.le_of_ble_eq_true rfl) dX4_init_9 (fun H locs hP hD hS => ?_)
  have hP : va_P D vwCl [(h0, .inr (4, [.ref q7, .null, .null, .null, .null, .null])), (q7, .inl (cI, 100, .inl (fun _ => 0)))] H := hP
  have hD : va_D A [(h0, .inr (4, [.ref q7, .null, .null, .null, .null, .null])), (q7, .inl (cI, 100, .inl (fun _ => 0)))] := hD
  refine lv_aload_n hx hb dX4_init_12 rfl (lv_at hl 0 rfl) ?_
  refine lv_bipush (v := 100) hx hb dX4_init_13 (by decide +kernel) ?_
  refine va_newa (atype := .int) (a0 := (100, .inl (fun _ => 0))) (N' := 100) hx hb (hts _ k_X4_init_ac) rfl hK hP hD hS hA (fun _ => rfl) (by decide +kernel) (by decide +kernel) (Nat.le_of_ble_eq_true rfl) (Nat.le_of_ble_eq_true rfl) (Nat.le_of_ble_eq_true rfl) dX4_init_15 (fun q15 cA H hK1 hP hD hS => ?_)
  have e9 : cA = cI := q_cls hK1 hK ht
  rw [e9] at hP hD
  have hP : va_P D vwCl [(h0, .inr (4, [.ref q7, .null, .null, .null, .null, .null])), (q7, .inl (cI, 100, .inl (fun _ => 0))), (q15, .inl (cI, 100, .inl (fun _ => 0)))] H := hP
  have hD : va_D A [(h0, .inr (4, [.ref q7, .null, .null, .null, .null, .null])), (q7, .inl (cI, 100, .inl (fun _ => 0))), (q15, .inl (cI, 100, .inl (fun _ => 0)))] := hD
  refine W.widen (k := 2) (n := 200) (by omega) (by omega) ?_
  refine va_putF (D := D) (ci := 4) (v := .ref q15) (ty := .array .int) (C := RX4) (T := TX4) (N := 6) hx hb hts u_X4_init tyX4 tyX4_ok nmX4 hown hK hP hD hS 0 rfl rfl 1 (by decide) (ref := RX4) (hts _ k_X4_init_f15) (fun _ h9 => h9) rfl hin rfl (by decide +kernel) rfl rfl (Nat.le_of_ble_eq_true rfl) dX4_init_17 (fun H locs hP hD hS => ?_)
  have hP : va_P D vwCl [(h0, .inr (4, [.ref q7, .ref q15, .null, .null, .null, .null])), (q7, .inl (cI, 100, .inl (fun _ => 0))), (q15, .inl (cI, 100, .inl (fun _ => 0)))] H := hP
  have hD : va_D A [(h0, .inr (4, [.ref q7, .ref q15, .null, .null, .null, .null])), (q7, .inl (cI, 100, .inl (fun _ => 0))), (q15, .inl (cI, 100, .inl (fun _ => 0)))] := hD
  refine lv_aload_n hx hb dX4_init_20 rfl (lv_at hl 0 rfl) ?_
  refine lv_bipush (v := 100) hx hb dX4_init_21 (by decide +kernel) ?_
  refine va_newa (atype := .int) (a0 := (100, .inl (fun _ => 0))) (N' := 100) hx hb (hts _ k_X4_init_ac) rfl hK hP hD hS hA (fun _ => rfl) (by decide +kernel) (by decide +kernel) (Nat.le_of_ble_eq_true rfl) (Nat.le_of_ble_eq_true rfl) (Nat.le_of_ble_eq_true rfl) dX4_init_23 (fun q23 cA H hK1 hP hD hS => ?_)
  have e9 : cA = cI := q_cls hK1 hK ht
  rw [e9] at hP hD
  have hP : va_P D vwCl [(h0, .inr (4, [.ref q7, .ref q15, .null, .null, .null, .null])), (q7, .inl (cI, 100, .inl (fun _ => 0))), (q15, .inl (cI, 100, .inl (fun _ => 0))), (q23, .inl (cI, 100, .inl (fun _ => 0)))] H := hP
  have hD : va_D A [(h0, .inr (4, [.ref q7, .ref q15, .null, .null, .null, .null])), (q7, .inl (cI, 100, .inl (fun _ => 0))), (q15, .inl (cI, 100, .inl (fun _ => 0))), (q23, .inl (cI, 100, .inl (fun _ => 0)))] := hD
  refine W.widen (k := 3) (n := 300) (by omega) (by omega) ?_
  refine va_putF (D := D) (ci := 4) (v := .ref q23) (ty := .array .int) (C := RX4) (T := TX4) (N := 6) hx hb hts u_X4_init tyX4 tyX4_ok nmX4 hown hK hP hD hS 0 rfl rfl 2 (by decide) (ref := RX4) (hts _ k_X4_init_f18) (fun _ h9 => h9) rfl hin rfl (by decide +kernel) rfl rfl (Nat.le_of_ble_eq_true rfl) dX4_init_25 (fun H locs hP hD hS => ?_)
  have hP : va_P D vwCl [(h0, .inr (4, [.ref q7, .ref q15, .ref q23, .null, .null, .null])), (q7, .inl (cI, 100, .inl (fun _ => 0))), (q15, .inl (cI, 100, .inl (fun _ => 0))), (q23, .inl (cI, 100, .inl (fun _ => 0)))] H := hP
  have hD : va_D A [(h0, .inr (4, [.ref q7, .ref q15, .ref q23, .null, .null, .null])), (q7, .inl (cI, 100, .inl (fun _ => 0))), (q15, .inl (cI, 100, .inl (fun _ => 0))), (q23, .inl (cI, 100, .inl (fun _ => 0)))] := hD
  refine lv_aload_n hx hb dX4_init_28 rfl (lv_at hl 0 rfl) ?_
  refine lv_bipush (v := 100) hx hb dX4_init_29 (by decide +kernel) ?_
  refine va_newa (atype := .int) (a0 := (100, .inl (fun _ => 0))) (N' := 100) hx hb (hts _ k_X4_init_ac) rfl hK hP hD hS hA (fun _ => rfl) (by decide +kernel) (by decide +kernel) (Nat.le_of_ble_eq_true rfl) (Nat.le_of_ble_eq_true rfl) (Nat.le_of_ble_eq_true rfl) dX4_init_31 (fun q31 cA H hK1 hP hD hS => ?_)
  have e9 : cA = cI := q_cls hK1 hK ht
  rw [e9] at hP hD
  have hP : va_P D vwCl [(h0, .inr (4, [.ref q7, .ref q15, .ref q23, .null, .null, .null])), (q7, .inl (cI, 100, .inl (fun _ => 0))), (q15, .inl (cI, 100, .inl (fun _ => 0))), (q23, .inl (cI, 100, .inl (fun _ => 0))), (q31, .inl (cI, 100, .inl (fun _ => 0)))] H := hP
  have hD : va_D A [(h0, .inr (4, [.ref q7, .ref q15, .ref q23, .null, .null, .null])), (q7, .inl (cI, 100, .inl (fun _ => 0))), (q15, .inl (cI, 100, .inl (fun _ => 0))), (q23, .inl (cI, 100, .inl (fun _ => 0))), (q31, .inl (cI, 100, .inl (fun _ => 0)))] := hD
  refine W.widen (k := 4) (n := 400) (by omega) (by omega) ?_
  refine va_putF (D := D) (ci := 4) (v := .ref q31) (ty := .array .int) (C := RX4) (T := TX4) (N := 6) hx hb hts u_X4_init tyX4 tyX4_ok nmX4 hown hK hP hD hS 0 rfl rfl 3 (by decide) (ref := RX4) (hts _ k_X4_init_f21) (fun _ h9 => h9) rfl hin rfl (by decide +kernel) rfl rfl (Nat.le_of_ble_eq_true rfl) dX4_init_33 (fun H locs hP hD hS => ?_)
  have hP : va_P D vwCl [(h0, .inr (4, [.ref q7, .ref q15, .ref q23, .ref q31, .null, .null])), (q7, .inl (cI, 100, .inl (fun _ => 0))), (q15, .inl (cI, 100, .inl (fun _ => 0))), (q23, .inl (cI, 100, .inl (fun _ => 0))), (q31, .inl (cI, 100, .inl (fun _ => 0)))] H := hP
  have hD : va_D A [(h0, .inr (4, [.ref q7, .ref q15, .ref q23, .ref q31, .null, .null])), (q7, .inl (cI, 100, .inl (fun _ => 0))), (q15, .inl (cI, 100, .inl (fun _ => 0))), (q23, .inl (cI, 100, .inl (fun _ => 0))), (q31, .inl (cI, 100, .inl (fun _ => 0)))] := hD
  refine lv_aload_n hx hb dX4_init_36 rfl (lv_at hl 0 rfl) ?_
  refine lv_bipush (v := 100) hx hb dX4_init_37 (by decide +kernel) ?_
  refine va_newa (atype := .int) (a0 := (100, .inl (fun _ => 0))) (N' := 100) hx hb (hts _ k_X4_init_ac) rfl hK hP hD hS hA (fun _ => rfl) (by decide +kernel) (by decide +kernel) (Nat.le_of_ble_eq_true rfl) (Nat.le_of_ble_eq_true rfl) (Nat.le_of_ble_eq_true rfl) dX4_init_39 (fun q39 cA H hK1 hP hD hS => ?_)
  have e9 : cA = cI := q_cls hK1 hK ht
  rw [e9] at hP hD
  have hP : va_P D vwCl [(h0, .inr (4, [.ref q7, .ref q15, .ref q23, .ref q31, .null, .null])), (q7, .inl (cI, 100, .inl (fun _ => 0))), (q15, .inl (cI, 100, .inl (fun _ => 0))), (q23, .inl (cI, 100, .inl (fun _ => 0))), (q31, .inl (cI, 100, .inl (fun _ => 0))), (q39, .inl (cI, 100, .inl (fun _ => 0)))] H := hP
  have hD : va_D A [(h0, .inr (4, [.ref q7, .ref q15, .ref q23, .ref q31, .null, .null])), (q7, .inl (cI, 100, .inl (fun _ => 0))), (q15, .inl (cI, 100, .inl (fun _ => 0))), (q23, .inl (cI, 100, .inl (fun _ => 0))), (q31, .inl (cI, 100, .inl (fun _ => 0))), (q39, .inl (cI, 100, .inl (fun _ => 0)))] := hD
  refine W.widen (k := 5) (n := 500) (by omega) (by omega) ?_
  refine va_putF (D := D) (ci := 4) (v := .ref q39) (ty := .array .int) (C := RX4) (T := TX4) (N := 6) hx hb hts u_X4_init tyX4 tyX4_ok nmX4 hown hK hP hD hS 0 rfl rfl 4 (by decide) (ref := RX4) (hts _ k_X4_init_f24) (fun _ h9 => h9) rfl hin rfl (by decide +kernel) rfl rfl (Nat.le_of_ble_eq_true rfl) dX4_init_41 (fun H locs hP hD hS => ?_)
  have hP : va_P D vwCl [(h0, .inr (4, [.ref q7, .ref q15, .ref q23, .ref q31, .ref q39, .null])), (q7, .inl (cI, 100, .inl (fun _ => 0))), (q15, .inl (cI, 100, .inl (fun _ => 0))), (q23, .inl (cI, 100, .inl (fun _ => 0))), (q31, .inl (cI, 100, .inl (fun _ => 0))), (q39, .inl (cI, 100, .inl (fun _ => 0)))] H := hP
  have hD : va_D A [(h0, .inr (4, [.ref q7, .ref q15, .ref q23, .ref q31, .ref q39, .null])), (q7, .inl (cI, 100, .inl (fun _ => 0))), (q15, .inl (cI, 100, .inl (fun _ => 0))), (q23, .inl (cI, 100, .inl (fun _ => 0))), (q31, .inl (cI, 100, .inl (fun _ => 0))), (q39, .inl (cI, 100, .inl (fun _ => 0)))] := hD
  refine lv_aload_n hx hb dX4_init_44 rfl (lv_at hl 0 rfl) ?_
  refine lv_bipush (v := 10) hx hb dX4_init_45 (by decide +kernel) ?_
  refine va_newa (atype := .int) (a0 := (10, .inl (fun _ => 0))) (N' := 10) hx hb (hts _ k_X4_init_ac) rfl hK hP hD hS hA (fun _ => rfl) (by decide +kernel) (by decide +kernel) (Nat.le_of_ble_eq_true rfl) (Nat.le_of_ble_eq_true rfl) (Nat.le_of_ble_eq_true rfl) dX4_init_47 (fun q47 cA H hK1 hP hD hS => ?_)
  have e9 : cA = cI := q_cls hK1 hK ht
  rw [e9] at hP hD
  have hP : va_P D vwCl [(h0, .inr (4, [.ref q7, .ref q15, .ref q23, .ref q31, .ref q39, .null])), (q7, .inl (cI, 100, .inl (fun _ => 0))), (q15, .inl (cI, 100, .inl (fun _ => 0))), (q23, .inl (cI, 100, .inl (fun _ => 0))), (q31, .inl (cI, 100, .inl (fun _ => 0))), (q39, .inl (cI, 100, .inl (fun _ => 0))), (q47, .inl (cI, 10, .inl (fun _ => 0)))] H := hP
  have hD : va_D A [(h0, .inr (4, [.ref q7, .ref q15, .ref q23, .ref q31, .ref q39, .null])), (q7, .inl (cI, 100, .inl (fun _ => 0))), (q15, .inl (cI, 100, .inl (fun _ => 0))), (q23, .inl (cI, 100, .inl (fun _ => 0))), (q31, .inl (cI, 100, .inl (fun _ => 0))), (q39, .inl (cI, 100, .inl (fun _ => 0))), (q47, .inl (cI, 10, .inl (fun _ => 0)))] := hD
  refine W.widen (k := 6) (n := 510) (by omega) (by omega) ?_
  refine va_putF (D := D) (ci := 4) (v := .ref q47) (ty := .array .int) (C := RX4) (T := TX4) (N := 6) hx hb hts u_X4_init tyX4 tyX4_ok nmX4 hown hK hP hD hS 0 rfl rfl 5 (by decide) (ref := RX4) (hts _ k_X4_init_f27) (fun _ h9 => h9) rfl hin rfl (by decide +kernel) rfl rfl (Nat.le_of_ble_eq_true rfl) dX4_init_49 (fun H locs hP hD hS => ?_)
  have hP : va_P D vwCl [(h0, .inr (4, [.ref q7, .ref q15, .ref q23, .ref q31, .ref q39, .ref q47])), (q7, .inl (cI, 100, .inl (fun _ => 0))), (q15, .inl (cI, 100, .inl (fun _ => 0))), (q23, .inl (cI, 100, .inl (fun _ => 0))), (q31, .inl (cI, 100, .inl (fun _ => 0))), (q39, .inl (cI, 100, .inl (fun _ => 0))), (q47, .inl (cI, 10, .inl (fun _ => 0)))] H := hP
  have hD : va_D A [(h0, .inr (4, [.ref q7, .ref q15, .ref q23, .ref q31, .ref q39, .ref q47])), (q7, .inl (cI, 100, .inl (fun _ => 0))), (q15, .inl (cI, 100, .inl (fun _ => 0))), (q23, .inl (cI, 100, .inl (fun _ => 0))), (q31, .inl (cI, 100, .inl (fun _ => 0))), (q39, .inl (cI, 100, .inl (fun _ => 0))), (q47, .inl (cI, 10, .inl (fun _ => 0)))] := hD
  refine lv_aload_n hx hb dX4_init_52 rfl (lv_at hl 0 rfl) ?_
  have hP : va_P D vwCl (p_T cI (q_ad [h0, q7, q15, q23, q31, q39, q47]) z_M) H := hP
  have hD : ∀ σ1, va_D A (p_T cI (q_ad [h0, q7, q15, q23, q31, q39, q47]) σ1) := fun σ1 => q_D_fst (w := p_T cI (q_ad [h0, q7, q15, q23, q31, q39, q47]) (fun _ _ => 0)) (pf_T cI (q_ad [h0, q7, q15, q23, q31, q39, q47]) _ _) hD
  refine x_getr (C := RX4) (k := 0) hx hb hts u_X4_init hown hK hP (g_T_0 cI (q_ad [h0, q7, q15, q23, q31, q39, q47]) z_M) rfl (by decide) ⟨rfl, rfl, rfl⟩ k_X4_init_f9 rfl dX4_init_53 ?_
  refine lv_iconst (v := (-1)) hx hb dX4_init_56 (by decide +kernel) ?_
  refine x_cSv (p_T cI (q_ad [h0, q7, q15, q23, q31, q39, q47])) (p_A cI 100 (q_sub 1 (q_ad [h0, q7, q15, q23, q31, q39, q47]))) (q_put 1 1 z_M) [] [.ref ((q_ad [h0, q7, q15, q23, q31, q39, q47]) 1), .int (-1)] (K := fun _ s1 => some (0, s1)) (r0 := (0, m0_T)) hx hb hml hl.1 hown hts hK hP hD hS hA rfl (c_J7_fill_53178 l D cI tys ht 100 (q_sub 1 (q_ad [h0, q7, q15, q23, q31, q39, q47])) (q_sub 1 z_M) (-1)) gX4_init_J7_fill_53178 rfl ⟨rfl, rfl⟩ i_J7_fill_53178 ⟨Nat.le_of_ble_eq_true rfl, Nat.le_of_ble_eq_true rfl⟩ (fr_T_A_1 cI (q_ad [h0, q7, q15, q23, q31, q39, q47]) z_M) rfl (Nat.le_of_ble_eq_true rfl) ⟨Nat.le_of_ble_eq_true rfl, Nat.le_of_ble_eq_true rfl⟩ dX4_init_57 (by rw [fillS (by decide)]; rfl) (fun H locs s1 hP hS h => ?_)
  have h1 : s1 = m0_T := (Prod.mk.inj (Option.some.inj h)).2
  subst h1
  exact W.vret hx hb hr (fun t ht9 hW => ⟨⟨(q_ad [h0, q7, q15, q23, q31, q39, q47]), rfl, rfl, by rw [ht9]; exact hP, hD _⟩, hS.F ht9⟩) hS.2.2 dX4_init_60 hlocks
theorem i_X2_init : yX2_init.cls ≠ "java/lang/invoke/MethodHandle" ∧ yX2_init.cls ≠ "java/lang/invoke/VarHandle" ∧ (parseMethodDescriptor yX2_init.desc).map (fun d => d.parameters.length) = some 0 := by decide +kernel
theorem k_X2_init_ac : Cond.arrayClass .int ∈ wsX2_init := by decide +kernel
theorem k_X2_init_f15 : Cond.fieldLink RX2 15 RX2 "greater" "[I" ∈ wsX2_init := by decide +kernel
theorem k_X2_init_f18 : Cond.fieldLink RX2 18 RX2 "price" "[I" ∈ wsX2_init := by decide +kernel
theorem k_X2_init_f21 : Cond.fieldLink RX2 21 RX2 "up" "[I" ∈ wsX2_init := by decide +kernel
theorem k_X2_init_f24 : Cond.fieldLink RX2 24 RX2 "joint" "[I" ∈ wsX2_init := by decide +kernel
theorem k_X2_init_f9 : Cond.fieldLink RX2 9 RX2 "lesser" "[I" ∈ wsX2_init := by decide +kernel
theorem k_X2_init_o1 : Cond.methodLink RX2 3 objectInit ∈ wsX2_init := by decide +kernel
theorem k_X2_init_o2 : Cond.instanceMethod objectInit ∈ wsX2_init := by decide +kernel
theorem k_X2_init_o3 : Cond.code objectInit ⟨#[0xb1]⟩ 1 none ∈ wsX2_init := by decide +kernel
theorem u_X2_init : ∀ w ∈ u_ws RX2 TX2 6, w ∈ wsX2_init := by decide +kernel
set_option maxHeartbeats 4000000 in
set_option maxRecDepth 100000 in
theorem c_X2_init (l : Launch) (D : va_G) (cI : ClassId) (tys : List (ClassId × FieldType)) (ht : tys[0]? = some (cI, .int)) : q_Ini l yX2_init wsX2_init ({ frames := 1, cells := 5, slots := 196, locals := 12 }) D tys 2 [.null, .null, .null, .null, .null, .int 0] (p_L cI) (fun _ _ => 0) 5 196 := by
  refine x_ofIn (cc := cX2_init) (maxL := 1) (by decide +kernel) rfl (fun _ => Nat.le_of_ble_eq_true rfl) ?_
  intro p e s m below meth c A ls h0 hx hb hml hr hlocks hin hown hts hK hP hD hA hS hl
  have hown : s.vm.findClass RX2 = some m.cls := hown
  have hin : meth.name = "<init>" := hin
  refine lv_aload_n hx hb dX2_init_0 rfl (lv_at hl 0 rfl) ?_
  refine W.objInit hx hb hown (hts _ k_X2_init_o1) (hts _ k_X2_init_o2) (hts _ k_X2_init_o3) rfl (by rw [hml]; exact hl.1) rfl dX2_init_1 (Nat.le_of_ble_eq_true rfl) (Nat.le_of_ble_eq_true rfl) ?_
  refine W.eq (g2 := F0 m 4 ls []) rfl ?_
  refine lv_aload_n hx hb dX2_init_4 rfl (lv_at hl 0 rfl) ?_
  refine lv_bipush (v := 24) hx hb dX2_init_5 (by decide +kernel) ?_
  refine va_newa (atype := .int) (a0 := (24, .inl (fun _ => 0))) (N' := 24) hx hb (hts _ k_X2_init_ac) rfl hK hP hD hS hA (fun _ => rfl) (by decide +kernel) (by decide +kernel) (Nat.le_of_ble_eq_true rfl) (Nat.le_of_ble_eq_true rfl) (Nat.le_of_ble_eq_true rfl) dX2_init_7 (fun q7 cA H hK1 hP hD hS => ?_)
  have e9 : cA = cI := q_cls hK1 hK ht
  rw [e9] at hP hD
  have hP : va_P D vwCl [(h0, .inr (2, [.null, .null, .null, .null, .null, .int 0])), (q7, .inl (cI, 24, .inl (fun _ => 0)))] H := hP
  have hD : va_D A [(h0, .inr (2, [.null, .null, .null, .null, .null, .int 0])), (q7, .inl (cI, 24, .inl (fun _ => 0)))] := hD
  refine W.widen (k := 1) (n := 24) (by omega) (by omega) ?_
  refine va_putF (D := D) (ci := 2) (v := .ref q7) (ty := .array .int) (C := RX2) (T := TX2) (N := 6) hx hb hts u_X2_init tyX2 tyX2_ok nmX2 hown hK hP hD hS 0 rfl rfl 0 (by decide) (ref := RX2) (hts _ k_X2_init_f9) (fun _ h9 => h9) rfl hin rfl (by decide +kernel) rfl rfl (Nat.le_of_ble_eq_true rfl) dX2_init_9 (fun H locs hP hD hS => ?_)
  have hP : va_P D vwCl [(h0, .inr (2, [.ref q7, .null, .null, .null, .null, .int 0])), (q7, .inl (cI, 24, .inl (fun _ => 0)))] H := hP
  have hD : va_D A [(h0, .inr (2, [.ref q7, .null, .null, .null, .null, .int 0])), (q7, .inl (cI, 24, .inl (fun _ => 0)))] := hD
  refine lv_aload_n hx hb dX2_init_12 rfl (lv_at hl 0 rfl) ?_
  refine lv_bipush (v := 24) hx hb dX2_init_13 (by decide +kernel) ?_
  refine va_newa (atype := .int) (a0 := (24, .inl (fun _ => 0))) (N' := 24) hx hb (hts _ k_X2_init_ac) rfl hK hP hD hS hA (fun _ => rfl) (by decide +kernel) (by decide +kernel) (Nat.le_of_ble_eq_true rfl) (Nat.le_of_ble_eq_true rfl) (Nat.le_of_ble_eq_true rfl) dX2_init_15 (fun q15 cA H hK1 hP hD hS => ?_)
  have e9 : cA = cI := q_cls hK1 hK ht
  rw [e9] at hP hD
  have hP : va_P D vwCl [(h0, .inr (2, [.ref q7, .null, .null, .null, .null, .int 0])), (q7, .inl (cI, 24, .inl (fun _ => 0))), (q15, .inl (cI, 24, .inl (fun _ => 0)))] H := hP
  have hD : va_D A [(h0, .inr (2, [.ref q7, .null, .null, .null, .null, .int 0])), (q7, .inl (cI, 24, .inl (fun _ => 0))), (q15, .inl (cI, 24, .inl (fun _ => 0)))] := hD
  refine W.widen (k := 2) (n := 48) (by omega) (by omega) ?_
  refine va_putF (D := D) (ci := 2) (v := .ref q15) (ty := .array .int) (C := RX2) (T := TX2) (N := 6) hx hb hts u_X2_init tyX2 tyX2_ok nmX2 hown hK hP hD hS 0 rfl rfl 1 (by decide) (ref := RX2) (hts _ k_X2_init_f15) (fun _ h9 => h9) rfl hin rfl (by decide +kernel) rfl rfl (Nat.le_of_ble_eq_true rfl) dX2_init_17 (fun H locs hP hD hS => ?_)
  have hP : va_P D vwCl [(h0, .inr (2, [.ref q7, .ref q15, .null, .null, .null, .int 0])), (q7, .inl (cI, 24, .inl (fun _ => 0))), (q15, .inl (cI, 24, .inl (fun _ => 0)))] H := hP
  have hD : va_D A [(h0, .inr (2, [.ref q7, .ref q15, .null, .null, .null, .int 0])), (q7, .inl (cI, 24, .inl (fun _ => 0))), (q15, .inl (cI, 24, .inl (fun _ => 0)))] := hD
  refine lv_aload_n hx hb dX2_init_20 rfl (lv_at hl 0 rfl) ?_
  refine lv_bipush (v := 24) hx hb dX2_init_21 (by decide +kernel) ?_
  refine va_newa (atype := .int) (a0 := (24, .inl (fun _ => 0))) (N' := 24) hx hb (hts _ k_X2_init_ac) rfl hK hP hD hS hA (fun _ => rfl) (by decide +kernel) (by decide +kernel) (Nat.le_of_ble_eq_true rfl) (Nat.le_of_ble_eq_true rfl) (Nat.le_of_ble_eq_true rfl) dX2_init_23 (fun q23 cA H hK1 hP hD hS => ?_)
  have e9 : cA = cI := q_cls hK1 hK ht
  rw [e9] at hP hD
  have hP : va_P D vwCl [(h0, .inr (2, [.ref q7, .ref q15, .null, .null, .null, .int 0])), (q7, .inl (cI, 24, .inl (fun _ => 0))), (q15, .inl (cI, 24, .inl (fun _ => 0))), (q23, .inl (cI, 24, .inl (fun _ => 0)))] H := hP
  have hD : va_D A [(h0, .inr (2, [.ref q7, .ref q15, .null, .null, .null, .int 0])), (q7, .inl (cI, 24, .inl (fun _ => 0))), (q15, .inl (cI, 24, .inl (fun _ => 0))), (q23, .inl (cI, 24, .inl (fun _ => 0)))] := hD
  refine W.widen (k := 3) (n := 72) (by omega) (by omega) ?_
  refine va_putF (D := D) (ci := 2) (v := .ref q23) (ty := .array .int) (C := RX2) (T := TX2) (N := 6) hx hb hts u_X2_init tyX2 tyX2_ok nmX2 hown hK hP hD hS 0 rfl rfl 2 (by decide) (ref := RX2) (hts _ k_X2_init_f18) (fun _ h9 => h9) rfl hin rfl (by decide +kernel) rfl rfl (Nat.le_of_ble_eq_true rfl) dX2_init_25 (fun H locs hP hD hS => ?_)
  have hP : va_P D vwCl [(h0, .inr (2, [.ref q7, .ref q15, .ref q23, .null, .null, .int 0])), (q7, .inl (cI, 24, .inl (fun _ => 0))), (q15, .inl (cI, 24, .inl (fun _ => 0))), (q23, .inl (cI, 24, .inl (fun _ => 0)))] H := hP
  have hD : va_D A [(h0, .inr (2, [.ref q7, .ref q15, .ref q23, .null, .null, .int 0])), (q7, .inl (cI, 24, .inl (fun _ => 0))), (q15, .inl (cI, 24, .inl (fun _ => 0))), (q23, .inl (cI, 24, .inl (fun _ => 0)))] := hD
  refine lv_aload_n hx hb dX2_init_28 rfl (lv_at hl 0 rfl) ?_
  refine lv_bipush (v := 24) hx hb dX2_init_29 (by decide +kernel) ?_
  refine va_newa (atype := .int) (a0 := (24, .inl (fun _ => 0))) (N' := 24) hx hb (hts _ k_X2_init_ac) rfl hK hP hD hS hA (fun _ => rfl) (by decide +kernel) (by decide +kernel) (Nat.le_of_ble_eq_true rfl) (Nat.le_of_ble_eq_true rfl) (Nat.le_of_ble_eq_true rfl) dX2_init_31 (fun q31 cA H hK1 hP hD hS => ?_)
  have e9 : cA = cI := q_cls hK1 hK ht
  rw [e9] at hP hD
  have hP : va_P D vwCl [(h0, .inr (2, [.ref q7, .ref q15, .ref q23, .null, .null, .int 0])), (q7, .inl (cI, 24, .inl (fun _ => 0))), (q15, .inl (cI, 24, .inl (fun _ => 0))), (q23, .inl (cI, 24, .inl (fun _ => 0))), (q31, .inl (cI, 24, .inl (fun _ => 0)))] H := hP
  have hD : va_D A [(h0, .inr (2, [.ref q7, .ref q15, .ref q23, .null, .null, .int 0])), (q7, .inl (cI, 24, .inl (fun _ => 0))), (q15, .inl (cI, 24, .inl (fun _ => 0))), (q23, .inl (cI, 24, .inl (fun _ => 0))), (q31, .inl (cI, 24, .inl (fun _ => 0)))] := hD
  refine W.widen (k := 4) (n := 96) (by omega) (by omega) ?_
  refine va_putF (D := D) (ci := 2) (v := .ref q31) (ty := .array .int) (C := RX2) (T := TX2) (N := 6) hx hb hts u_X2_init tyX2 tyX2_ok nmX2 hown hK hP hD hS 0 rfl rfl 3 (by decide) (ref := RX2) (hts _ k_X2_init_f21) (fun _ h9 => h9) rfl hin rfl (by decide +kernel) rfl rfl (Nat.le_of_ble_eq_true rfl) dX2_init_33 (fun H locs hP hD hS => ?_)
  have hP : va_P D vwCl [(h0, .inr (2, [.ref q7, .ref q15, .ref q23, .ref q31, .null, .int 0])), (q7, .inl (cI, 24, .inl (fun _ => 0))), (q15, .inl (cI, 24, .inl (fun _ => 0))), (q23, .inl (cI, 24, .inl (fun _ => 0))), (q31, .inl (cI, 24, .inl (fun _ => 0)))] H := hP
  have hD : va_D A [(h0, .inr (2, [.ref q7, .ref q15, .ref q23, .ref q31, .null, .int 0])), (q7, .inl (cI, 24, .inl (fun _ => 0))), (q15, .inl (cI, 24, .inl (fun _ => 0))), (q23, .inl (cI, 24, .inl (fun _ => 0))), (q31, .inl (cI, 24, .inl (fun _ => 0)))] := hD
  refine lv_aload_n hx hb dX2_init_36 rfl (lv_at hl 0 rfl) ?_
  refine lv_bipush (v := 100) hx hb dX2_init_37 (by decide +kernel) ?_
  refine va_newa (atype := .int) (a0 := (100, .inl (fun _ => 0))) (N' := 100) hx hb (hts _ k_X2_init_ac) rfl hK hP hD hS hA (fun _ => rfl) (by decide +kernel) (by decide +kernel) (Nat.le_of_ble_eq_true rfl) (Nat.le_of_ble_eq_true rfl) (Nat.le_of_ble_eq_true rfl) dX2_init_39 (fun q39 cA H hK1 hP hD hS => ?_)
  have e9 : cA = cI := q_cls hK1 hK ht
  rw [e9] at hP hD
  have hP : va_P D vwCl [(h0, .inr (2, [.ref q7, .ref q15, .ref q23, .ref q31, .null, .int 0])), (q7, .inl (cI, 24, .inl (fun _ => 0))), (q15, .inl (cI, 24, .inl (fun _ => 0))), (q23, .inl (cI, 24, .inl (fun _ => 0))), (q31, .inl (cI, 24, .inl (fun _ => 0))), (q39, .inl (cI, 100, .inl (fun _ => 0)))] H := hP
  have hD : va_D A [(h0, .inr (2, [.ref q7, .ref q15, .ref q23, .ref q31, .null, .int 0])), (q7, .inl (cI, 24, .inl (fun _ => 0))), (q15, .inl (cI, 24, .inl (fun _ => 0))), (q23, .inl (cI, 24, .inl (fun _ => 0))), (q31, .inl (cI, 24, .inl (fun _ => 0))), (q39, .inl (cI, 100, .inl (fun _ => 0)))] := hD
  refine W.widen (k := 5) (n := 196) (by omega) (by omega) ?_
  refine va_putF (D := D) (ci := 2) (v := .ref q39) (ty := .array .int) (C := RX2) (T := TX2) (N := 6) hx hb hts u_X2_init tyX2 tyX2_ok nmX2 hown hK hP hD hS 0 rfl rfl 4 (by decide) (ref := RX2) (hts _ k_X2_init_f24) (fun _ h9 => h9) rfl hin rfl (by decide +kernel) rfl rfl (Nat.le_of_ble_eq_true rfl) dX2_init_41 (fun H locs hP hD hS => ?_)
  have hP : va_P D vwCl [(h0, .inr (2, [.ref q7, .ref q15, .ref q23, .ref q31, .ref q39, .int 0])), (q7, .inl (cI, 24, .inl (fun _ => 0))), (q15, .inl (cI, 24, .inl (fun _ => 0))), (q23, .inl (cI, 24, .inl (fun _ => 0))), (q31, .inl (cI, 24, .inl (fun _ => 0))), (q39, .inl (cI, 100, .inl (fun _ => 0)))] H := hP
  have hD : va_D A [(h0, .inr (2, [.ref q7, .ref q15, .ref q23, .ref q31, .ref q39, .int 0])), (q7, .inl (cI, 24, .inl (fun _ => 0))), (q15, .inl (cI, 24, .inl (fun _ => 0))), (q23, .inl (cI, 24, .inl (fun _ => 0))), (q31, .inl (cI, 24, .inl (fun _ => 0))), (q39, .inl (cI, 100, .inl (fun _ => 0)))] := hD
  have hP : va_P D vwCl (p_L cI (q_ad [h0, q7, q15, q23, q31, q39]) (fun _ _ => 0)) H := hP
  have hD : va_D A (p_L cI (q_ad [h0, q7, q15, q23, q31, q39]) (fun _ _ => 0)) := hD
  exact W.vret hx hb hr (fun t ht9 hW => ⟨⟨(q_ad [h0, q7, q15, q23, q31, q39]), rfl, rfl, by rw [ht9]; exact hP, hD⟩, hS.F ht9⟩) hS.2.2 dX2_init_44 hlocks
theorem i_X6_init : yX6_init.cls ≠ "java/lang/invoke/MethodHandle" ∧ yX6_init.cls ≠ "java/lang/invoke/VarHandle" ∧ (parseMethodDescriptor yX6_init.desc).map (fun d => d.parameters.length) = some 0 := by decide +kernel
theorem k_X6_init_ac : Cond.arrayClass .int ∈ wsX6_init := by decide +kernel
theorem k_X6_init_f9 : Cond.fieldLink RX6 9 RX6 "stops" "[I" ∈ wsX6_init := by decide +kernel
theorem k_X6_init_o1 : Cond.methodLink RX6 3 objectInit ∈ wsX6_init := by decide +kernel
theorem k_X6_init_o2 : Cond.instanceMethod objectInit ∈ wsX6_init := by decide +kernel
theorem k_X6_init_o3 : Cond.code objectInit ⟨#[0xb1]⟩ 1 none ∈ wsX6_init := by decide +kernel
theorem u_X6_init : ∀ w ∈ u_ws RX6 TX6 3, w ∈ wsX6_init := by decide +kernel
set_option maxHeartbeats 4000000 in
set_option maxRecDepth 100000 in
theorem c_X6_init (l : Launch) (D : va_G) (cI : ClassId) (tys : List (ClassId × FieldType)) (ht : tys[0]? = some (cI, .int)) : q_Ini l yX6_init wsX6_init ({ frames := 1, cells := 1, slots := 10, locals := 12 }) D tys 6 [.null, .int 0, .int 0] (p_Y cI) (fun _ _ => 0) 1 10 := by
  refine x_ofIn (cc := cX6_init) (maxL := 1) (by decide +kernel) rfl (fun _ => Nat.le_of_ble_eq_true rfl) ?_
  intro p e s m below meth c A ls h0 hx hb hml hr hlocks hin hown hts hK hP hD hA hS hl
  have hown : s.vm.findClass RX6 = some m.cls := hown
  have hin : meth.name = "<init>" := hin
  refine lv_aload_n hx hb dX6_init_0 rfl (lv_at hl 0 rfl) ?_
  refine W.objInit hx hb hown (hts _ k_X6_init_o1) (hts _ k_X6_init_o2) (hts _ k_X6_init_o3) rfl (by rw [hml]; exact hl.1) rfl dX6_init_1 (Nat.le_of_ble_eq_true rfl) (Nat.le_of_ble_eq_true rfl) ?_
  refine W.eq (g2 := F0 m 4 ls []) rfl ?_
  refine lv_aload_n hx hb dX6_init_4 rfl (lv_at hl 0 rfl) ?_
  refine lv_bipush (v := 10) hx hb dX6_init_5 (by decide +kernel) ?_
  refine va_newa (atype := .int) (a0 := (10, .inl (fun _ => 0))) (N' := 10) hx hb (hts _ k_X6_init_ac) rfl hK hP hD hS hA (fun _ => rfl) (by decide +kernel) (by decide +kernel) (Nat.le_of_ble_eq_true rfl) (Nat.le_of_ble_eq_true rfl) (Nat.le_of_ble_eq_true rfl) dX6_init_7 (fun q7 cA H hK1 hP hD hS => ?_)
  have e9 : cA = cI := q_cls hK1 hK ht
  rw [e9] at hP hD
  have hP : va_P D vwCl [(h0, .inr (6, [.null, .int 0, .int 0])), (q7, .inl (cI, 10, .inl (fun _ => 0)))] H := hP
  have hD : va_D A [(h0, .inr (6, [.null, .int 0, .int 0])), (q7, .inl (cI, 10, .inl (fun _ => 0)))] := hD
  refine W.widen (k := 1) (n := 10) (by omega) (by omega) ?_
  refine va_putF (D := D) (ci := 6) (v := .ref q7) (ty := .array .int) (C := RX6) (T := TX6) (N := 3) hx hb hts u_X6_init tyX6 tyX6_ok nmX6 hown hK hP hD hS 0 rfl rfl 0 (by decide) (ref := RX6) (hts _ k_X6_init_f9) (fun _ h9 => h9) rfl hin rfl (by decide +kernel) rfl rfl (Nat.le_of_ble_eq_true rfl) dX6_init_9 (fun H locs hP hD hS => ?_)
  have hP : va_P D vwCl [(h0, .inr (6, [.ref q7, .int 0, .int 0])), (q7, .inl (cI, 10, .inl (fun _ => 0)))] H := hP
  have hD : va_D A [(h0, .inr (6, [.ref q7, .int 0, .int 0])), (q7, .inl (cI, 10, .inl (fun _ => 0)))] := hD
  have hP : va_P D vwCl (p_Y cI (q_ad [h0, q7]) (fun _ _ => 0)) H := hP
  have hD : va_D A (p_Y cI (q_ad [h0, q7]) (fun _ _ => 0)) := hD
  exact W.vret hx hb hr (fun t ht9 hW => ⟨⟨(q_ad [h0, q7]), rfl, rfl, by rw [ht9]; exact hP, hD⟩, hS.F ht9⟩) hS.2.2 dX6_init_12 hlocks
theorem i_X0_init : yX0_init.cls ≠ "java/lang/invoke/MethodHandle" ∧ yX0_init.cls ≠ "java/lang/invoke/VarHandle" ∧ (parseMethodDescriptor yX0_init.desc).map (fun d => d.parameters.length) = some 0 := by decide +kernel
theorem k_X0_init_ac : Cond.arrayClass .int ∈ wsX0_init := by decide +kernel
theorem k_X0_init_f9 : Cond.fieldLink RX0 9 RX0 "to" "[I" ∈ wsX0_init := by decide +kernel
theorem k_X0_init_o1 : Cond.methodLink RX0 3 objectInit ∈ wsX0_init := by decide +kernel
theorem k_X0_init_o2 : Cond.instanceMethod objectInit ∈ wsX0_init := by decide +kernel
theorem k_X0_init_o3 : Cond.code objectInit ⟨#[0xb1]⟩ 1 none ∈ wsX0_init := by decide +kernel
theorem u_X0_init : ∀ w ∈ u_ws RX0 TX0 1, w ∈ wsX0_init := by decide +kernel
set_option maxHeartbeats 4000000 in
set_option maxRecDepth 100000 in
theorem c_X0_init (l : Launch) (D : va_G) (cI : ClassId) (tys : List (ClassId × FieldType)) (ht : tys[0]? = some (cI, .int)) : q_Ini l yX0_init wsX0_init ({ frames := 1, cells := 1, slots := 10, locals := 12 }) D tys 0 [.null] (p_D cI) (fun _ _ => 0) 1 10 := by
  refine x_ofIn (cc := cX0_init) (maxL := 1) (by decide +kernel) rfl (fun _ => Nat.le_of_ble_eq_true rfl) ?_
  intro p e s m below meth c A ls h0 hx hb hml hr hlocks hin hown hts hK hP hD hA hS hl
  have hown : s.vm.findClass RX0 = some m.cls := hown
  have hin : meth.name = "<init>" := hin
  refine lv_aload_n hx hb dX0_init_0 rfl (lv_at hl 0 rfl) ?_
  refine W.objInit hx hb hown (hts _ k_X0_init_o1) (hts _ k_X0_init_o2) (hts _ k_X0_init_o3) rfl (by rw [hml]; exact hl.1) rfl dX0_init_1 (Nat.le_of_ble_eq_true rfl) (Nat.le_of_ble_eq_true rfl) ?_
  refine W.eq (g2 := F0 m 4 ls []) rfl ?_
  refine lv_aload_n hx hb dX0_init_4 rfl (lv_at hl 0 rfl) ?_
  refine lv_bipush (v := 10) hx hb dX0_init_5 (by decide +kernel) ?_
  refine va_newa (atype := .int) (a0 := (10, .inl (fun _ => 0))) (N' := 10) hx hb (hts _ k_X0_init_ac) rfl hK hP hD hS hA (fun _ => rfl) (by decide +kernel) (by decide +kernel) (Nat.le_of_ble_eq_true rfl) (Nat.le_of_ble_eq_true rfl) (Nat.le_of_ble_eq_true rfl) dX0_init_7 (fun q7 cA H hK1 hP hD hS => ?_)
  have e9 : cA = cI := q_cls hK1 hK ht
  rw [e9] at hP hD
  have hP : va_P D vwCl [(h0, .inr (0, [.null])), (q7, .inl (cI, 10, .inl (fun _ => 0)))] H := hP
  have hD : va_D A [(h0, .inr (0, [.null])), (q7, .inl (cI, 10, .inl (fun _ => 0)))] := hD
  refine W.widen (k := 1) (n := 10) (by omega) (by omega) ?_
  refine va_putF (D := D) (ci := 0) (v := .ref q7) (ty := .array .int) (C := RX0) (T := TX0) (N := 1) hx hb hts u_X0_init tyX0 tyX0_ok nmX0 hown hK hP hD hS 0 rfl rfl 0 (by decide) (ref := RX0) (hts _ k_X0_init_f9) (fun _ h9 => h9) rfl hin rfl (by decide +kernel) rfl rfl (Nat.le_of_ble_eq_true rfl) dX0_init_9 (fun H locs hP hD hS => ?_)
  have hP : va_P D vwCl [(h0, .inr (0, [.ref q7])), (q7, .inl (cI, 10, .inl (fun _ => 0)))] H := hP
  have hD : va_D A [(h0, .inr (0, [.ref q7])), (q7, .inl (cI, 10, .inl (fun _ => 0)))] := hD
  have hP : va_P D vwCl (p_D cI (q_ad [h0, q7]) (fun _ _ => 0)) H := hP
  have hD : va_D A (p_D cI (q_ad [h0, q7]) (fun _ _ => 0)) := hD
  exact W.vret hx hb hr (fun t ht9 hW => ⟨⟨(q_ad [h0, q7]), rfl, rfl, by rw [ht9]; exact hP, hD⟩, hS.F ht9⟩) hS.2.2 dX0_init_12 hlocks
theorem i_X5_init : yX5_init.cls ≠ "java/lang/invoke/MethodHandle" ∧ yX5_init.cls ≠ "java/lang/invoke/VarHandle" ∧ (parseMethodDescriptor yX5_init.desc).map (fun d => d.parameters.length) = some 0 := by decide +kernel
theorem k_X5_init_ac : Cond.arrayClass .int ∈ wsX5_init := by decide +kernel
theorem k_X5_init_f15 : Cond.fieldLink RX5 15 RX5 "letters" "[I" ∈ wsX5_init := by decide +kernel
theorem k_X5_init_f18 : Cond.fieldLink RX5 18 RX5 "numbers" "[I" ∈ wsX5_init := by decide +kernel
theorem k_X5_init_f9 : Cond.fieldLink RX5 9 RX5 "bytes" "[I" ∈ wsX5_init := by decide +kernel
theorem k_X5_init_o1 : Cond.methodLink RX5 3 objectInit ∈ wsX5_init := by decide +kernel
theorem k_X5_init_o2 : Cond.instanceMethod objectInit ∈ wsX5_init := by decide +kernel
theorem k_X5_init_o3 : Cond.code objectInit ⟨#[0xb1]⟩ 1 none ∈ wsX5_init := by decide +kernel
theorem u_X5_init : ∀ w ∈ u_ws RX5 TX5 6, w ∈ wsX5_init := by decide +kernel
set_option maxHeartbeats 4000000 in
set_option maxRecDepth 100000 in
theorem c_X5_init (l : Launch) (D : va_G) (cI : ClassId) (tys : List (ClassId × FieldType)) (ht : tys[0]? = some (cI, .int)) : q_Ini l yX5_init wsX5_init ({ frames := 1, cells := 3, slots := 600, locals := 12 }) D tys 5 [.null, .int 0, .null, .null, .int 0, .int 0] (p_P cI) (fun _ _ => 0) 3 600 := by
  refine x_ofIn (cc := cX5_init) (maxL := 1) (by decide +kernel) rfl (fun _ => Nat.le_of_ble_eq_true rfl) ?_
  intro p e s m below meth c A ls h0 hx hb hml hr hlocks hin hown hts hK hP hD hA hS hl
  have hown : s.vm.findClass RX5 = some m.cls := hown
  have hin : meth.name = "<init>" := hin
  refine lv_aload_n hx hb dX5_init_0 rfl (lv_at hl 0 rfl) ?_
  refine W.objInit hx hb hown (hts _ k_X5_init_o1) (hts _ k_X5_init_o2) (hts _ k_X5_init_o3) rfl (by rw [hml]; exact hl.1) rfl dX5_init_1 (Nat.le_of_ble_eq_true rfl) (Nat.le_of_ble_eq_true rfl) ?_
  refine W.eq (g2 := F0 m 4 ls []) rfl ?_
  refine lv_aload_n hx hb dX5_init_4 rfl (lv_at hl 0 rfl) ?_
  refine lv_bipush (v := 120) hx hb dX5_init_5 (by decide +kernel) ?_
  refine va_newa (atype := .int) (a0 := (120, .inl (fun _ => 0))) (N' := 120) hx hb (hts _ k_X5_init_ac) rfl hK hP hD hS hA (fun _ => rfl) (by decide +kernel) (by decide +kernel) (Nat.le_of_ble_eq_true rfl) (Nat.le_of_ble_eq_true rfl) (Nat.le_of_ble_eq_true rfl) dX5_init_7 (fun q7 cA H hK1 hP hD hS => ?_)
  have e9 : cA = cI := q_cls hK1 hK ht
  rw [e9] at hP hD
  have hP : va_P D vwCl [(h0, .inr (5, [.null, .int 0, .null, .null, .int 0, .int 0])), (q7, .inl (cI, 120, .inl (fun _ => 0)))] H := hP
  have hD : va_D A [(h0, .inr (5, [.null, .int 0, .null, .null, .int 0, .int 0])), (q7, .inl (cI, 120, .inl (fun _ => 0)))] := hD
  refine W.widen (k := 1) (n := 120) (by omega) (by omega) ?_
  refine va_putF (D := D) (ci := 5) (v := .ref q7) (ty := .array .int) (C := RX5) (T := TX5) (N := 6) hx hb hts u_X5_init tyX5 tyX5_ok nmX5 hown hK hP hD hS 0 rfl rfl 0 (by decide) (ref := RX5) (hts _ k_X5_init_f9) (fun _ h9 => h9) rfl hin rfl (by decide +kernel) rfl rfl (Nat.le_of_ble_eq_true rfl) dX5_init_9 (fun H locs hP hD hS => ?_)
  have hP : va_P D vwCl [(h0, .inr (5, [.ref q7, .int 0, .null, .null, .int 0, .int 0])), (q7, .inl (cI, 120, .inl (fun _ => 0)))] H := hP
  have hD : va_D A [(h0, .inr (5, [.ref q7, .int 0, .null, .null, .int 0, .int 0])), (q7, .inl (cI, 120, .inl (fun _ => 0)))] := hD
  refine lv_aload_n hx hb dX5_init_12 rfl (lv_at hl 0 rfl) ?_
  refine lv_bipush (v := 120) hx hb dX5_init_13 (by decide +kernel) ?_
  refine va_newa (atype := .int) (a0 := (120, .inl (fun _ => 0))) (N' := 120) hx hb (hts _ k_X5_init_ac) rfl hK hP hD hS hA (fun _ => rfl) (by decide +kernel) (by decide +kernel) (Nat.le_of_ble_eq_true rfl) (Nat.le_of_ble_eq_true rfl) (Nat.le_of_ble_eq_true rfl) dX5_init_15 (fun q15 cA H hK1 hP hD hS => ?_)
  have e9 : cA = cI := q_cls hK1 hK ht
  rw [e9] at hP hD
  have hP : va_P D vwCl [(h0, .inr (5, [.ref q7, .int 0, .null, .null, .int 0, .int 0])), (q7, .inl (cI, 120, .inl (fun _ => 0))), (q15, .inl (cI, 120, .inl (fun _ => 0)))] H := hP
  have hD : va_D A [(h0, .inr (5, [.ref q7, .int 0, .null, .null, .int 0, .int 0])), (q7, .inl (cI, 120, .inl (fun _ => 0))), (q15, .inl (cI, 120, .inl (fun _ => 0)))] := hD
  refine W.widen (k := 2) (n := 240) (by omega) (by omega) ?_
  refine va_putF (D := D) (ci := 5) (v := .ref q15) (ty := .array .int) (C := RX5) (T := TX5) (N := 6) hx hb hts u_X5_init tyX5 tyX5_ok nmX5 hown hK hP hD hS 0 rfl rfl 2 (by decide) (ref := RX5) (hts _ k_X5_init_f15) (fun _ h9 => h9) rfl hin rfl (by decide +kernel) rfl rfl (Nat.le_of_ble_eq_true rfl) dX5_init_17 (fun H locs hP hD hS => ?_)
  have hP : va_P D vwCl [(h0, .inr (5, [.ref q7, .int 0, .ref q15, .null, .int 0, .int 0])), (q7, .inl (cI, 120, .inl (fun _ => 0))), (q15, .inl (cI, 120, .inl (fun _ => 0)))] H := hP
  have hD : va_D A [(h0, .inr (5, [.ref q7, .int 0, .ref q15, .null, .int 0, .int 0])), (q7, .inl (cI, 120, .inl (fun _ => 0))), (q15, .inl (cI, 120, .inl (fun _ => 0)))] := hD
  refine lv_aload_n hx hb dX5_init_20 rfl (lv_at hl 0 rfl) ?_
  refine lv_sipush (v := 360) hx hb dX5_init_21 (by decide +kernel) ?_
  refine va_newa (atype := .int) (a0 := (360, .inl (fun _ => 0))) (N' := 360) hx hb (hts _ k_X5_init_ac) rfl hK hP hD hS hA (fun _ => rfl) (by decide +kernel) (by decide +kernel) (Nat.le_of_ble_eq_true rfl) (Nat.le_of_ble_eq_true rfl) (Nat.le_of_ble_eq_true rfl) dX5_init_24 (fun q24 cA H hK1 hP hD hS => ?_)
  have e9 : cA = cI := q_cls hK1 hK ht
  rw [e9] at hP hD
  have hP : va_P D vwCl [(h0, .inr (5, [.ref q7, .int 0, .ref q15, .null, .int 0, .int 0])), (q7, .inl (cI, 120, .inl (fun _ => 0))), (q15, .inl (cI, 120, .inl (fun _ => 0))), (q24, .inl (cI, 360, .inl (fun _ => 0)))] H := hP
  have hD : va_D A [(h0, .inr (5, [.ref q7, .int 0, .ref q15, .null, .int 0, .int 0])), (q7, .inl (cI, 120, .inl (fun _ => 0))), (q15, .inl (cI, 120, .inl (fun _ => 0))), (q24, .inl (cI, 360, .inl (fun _ => 0)))] := hD
  refine W.widen (k := 3) (n := 600) (by omega) (by omega) ?_
  refine va_putF (D := D) (ci := 5) (v := .ref q24) (ty := .array .int) (C := RX5) (T := TX5) (N := 6) hx hb hts u_X5_init tyX5 tyX5_ok nmX5 hown hK hP hD hS 0 rfl rfl 3 (by decide) (ref := RX5) (hts _ k_X5_init_f18) (fun _ h9 => h9) rfl hin rfl (by decide +kernel) rfl rfl (Nat.le_of_ble_eq_true rfl) dX5_init_26 (fun H locs hP hD hS => ?_)
  have hP : va_P D vwCl [(h0, .inr (5, [.ref q7, .int 0, .ref q15, .ref q24, .int 0, .int 0])), (q7, .inl (cI, 120, .inl (fun _ => 0))), (q15, .inl (cI, 120, .inl (fun _ => 0))), (q24, .inl (cI, 360, .inl (fun _ => 0)))] H := hP
  have hD : va_D A [(h0, .inr (5, [.ref q7, .int 0, .ref q15, .ref q24, .int 0, .int 0])), (q7, .inl (cI, 120, .inl (fun _ => 0))), (q15, .inl (cI, 120, .inl (fun _ => 0))), (q24, .inl (cI, 360, .inl (fun _ => 0)))] := hD
  have hP : va_P D vwCl (p_P cI (q_ad [h0, q7, q15, q24]) (fun _ _ => 0)) H := hP
  have hD : va_D A (p_P cI (q_ad [h0, q7, q15, q24]) (fun _ _ => 0)) := hD
  exact W.vret hx hb hr (fun t ht9 hW => ⟨⟨(q_ad [h0, q7, q15, q24]), rfl, rfl, by rw [ht9]; exact hP, hD⟩, hS.F ht9⟩) hS.2.2 dX5_init_29 hlocks
theorem i_X1_init : yX1_init.cls ≠ "java/lang/invoke/MethodHandle" ∧ yX1_init.cls ≠ "java/lang/invoke/VarHandle" ∧ (parseMethodDescriptor yX1_init.desc).map (fun d => d.parameters.length) = some 0 := by decide +kernel
theorem k_X1_init_ac : Cond.arrayClass .int ∈ wsX1_init := by decide +kernel
theorem k_X1_init_f9 : Cond.fieldLink RX1 9 RX1 "items" "[I" ∈ wsX1_init := by decide +kernel
theorem k_X1_init_o1 : Cond.methodLink RX1 3 objectInit ∈ wsX1_init := by decide +kernel
theorem k_X1_init_o2 : Cond.instanceMethod objectInit ∈ wsX1_init := by decide +kernel
theorem k_X1_init_o3 : Cond.code objectInit ⟨#[0xb1]⟩ 1 none ∈ wsX1_init := by decide +kernel
theorem u_X1_init : ∀ w ∈ u_ws RX1 TX1 8, w ∈ wsX1_init := by decide +kernel
set_option maxHeartbeats 4000000 in
set_option maxRecDepth 100000 in
theorem c_X1_init (l : Launch) (D : va_G) (cI : ClassId) (tys : List (ClassId × FieldType)) (ht : tys[0]? = some (cI, .int)) : q_Ini l yX1_init wsX1_init ({ frames := 1, cells := 1, slots := 60, locals := 12 }) D tys 1 [.int 0, .int 0, .int 0, .int 0, .int 0, .int 0, .null, .int 0] (p_H cI) (fun _ _ => 0) 1 60 := by
  refine x_ofIn (cc := cX1_init) (maxL := 1) (by decide +kernel) rfl (fun _ => Nat.le_of_ble_eq_true rfl) ?_
  intro p e s m below meth c A ls h0 hx hb hml hr hlocks hin hown hts hK hP hD hA hS hl
  have hown : s.vm.findClass RX1 = some m.cls := hown
  have hin : meth.name = "<init>" := hin
  refine lv_aload_n hx hb dX1_init_0 rfl (lv_at hl 0 rfl) ?_
  refine W.objInit hx hb hown (hts _ k_X1_init_o1) (hts _ k_X1_init_o2) (hts _ k_X1_init_o3) rfl (by rw [hml]; exact hl.1) rfl dX1_init_1 (Nat.le_of_ble_eq_true rfl) (Nat.le_of_ble_eq_true rfl) ?_
  refine W.eq (g2 := F0 m 4 ls []) rfl ?_
  refine lv_aload_n hx hb dX1_init_4 rfl (lv_at hl 0 rfl) ?_
  refine lv_bipush (v := 60) hx hb dX1_init_5 (by decide +kernel) ?_
  refine va_newa (atype := .int) (a0 := (60, .inl (fun _ => 0))) (N' := 60) hx hb (hts _ k_X1_init_ac) rfl hK hP hD hS hA (fun _ => rfl) (by decide +kernel) (by decide +kernel) (Nat.le_of_ble_eq_true rfl) (Nat.le_of_ble_eq_true rfl) (Nat.le_of_ble_eq_true rfl) dX1_init_7 (fun q7 cA H hK1 hP hD hS => ?_)
  have e9 : cA = cI := q_cls hK1 hK ht
  rw [e9] at hP hD
  have hP : va_P D vwCl [(h0, .inr (1, [.int 0, .int 0, .int 0, .int 0, .int 0, .int 0, .null, .int 0])), (q7, .inl (cI, 60, .inl (fun _ => 0)))] H := hP
  have hD : va_D A [(h0, .inr (1, [.int 0, .int 0, .int 0, .int 0, .int 0, .int 0, .null, .int 0])), (q7, .inl (cI, 60, .inl (fun _ => 0)))] := hD
  refine W.widen (k := 1) (n := 60) (by omega) (by omega) ?_
  refine va_putF (D := D) (ci := 1) (v := .ref q7) (ty := .array .int) (C := RX1) (T := TX1) (N := 8) hx hb hts u_X1_init tyX1 tyX1_ok nmX1 hown hK hP hD hS 0 rfl rfl 6 (by decide) (ref := RX1) (hts _ k_X1_init_f9) (fun _ h9 => h9) rfl hin rfl (by decide +kernel) rfl rfl (Nat.le_of_ble_eq_true rfl) dX1_init_9 (fun H locs hP hD hS => ?_)
  have hP : va_P D vwCl [(h0, .inr (1, [.int 0, .int 0, .int 0, .int 0, .int 0, .int 0, .ref q7, .int 0])), (q7, .inl (cI, 60, .inl (fun _ => 0)))] H := hP
  have hD : va_D A [(h0, .inr (1, [.int 0, .int 0, .int 0, .int 0, .int 0, .int 0, .ref q7, .int 0])), (q7, .inl (cI, 60, .inl (fun _ => 0)))] := hD
  have hP : va_P D vwCl (p_H cI (q_ad [h0, q7]) (fun _ _ => 0)) H := hP
  have hD : va_D A (p_H cI (q_ad [h0, q7]) (fun _ _ => 0)) := hD
  exact W.vret hx hb hr (fun t ht9 hW => ⟨⟨(q_ad [h0, q7]), rfl, rfl, by rw [ht9]; exact hP, hD⟩, hS.F ht9⟩) hS.2.2 dX1_init_12 hlocks
def m0_M : qM := q_wa (fun _ _ => 0) 18 (upd (upd (upd (upd (upd (upd (fun _ => 0) 0 (-2)) 1 (-2)) 2 (-2)) 3 (-2)) 4 (-2)) 5 (-2))
theorem i_X8_init : yX8_init.cls ≠ "java/lang/invoke/MethodHandle" ∧ yX8_init.cls ≠ "java/lang/invoke/VarHandle" ∧ (parseMethodDescriptor yX8_init.desc).map (fun d => d.parameters.length) = some 0 := by decide +kernel
theorem k_X8_init_ac : Cond.arrayClass .int ∈ wsX8_init := by decide +kernel
theorem k_X8_init_f13 : Cond.fieldLink RX8 13 RX8 "thought" "[I" ∈ wsX8_init := by decide +kernel
theorem k_X8_init_f16 : Cond.fieldLink RX8 16 RX8 "aside" "[I" ∈ wsX8_init := by decide +kernel
theorem k_X8_init_f19 : Cond.fieldLink RX8 19 RX8 "toWhom" "[I" ∈ wsX8_init := by decide +kernel
theorem k_X8_init_f22 : Cond.fieldLink RX8 22 RX8 "byWhom" "[I" ∈ wsX8_init := by decide +kernel
theorem k_X8_init_f25 : Cond.fieldLink RX8 25 RX8 "byCost" "[I" ∈ wsX8_init := by decide +kernel
theorem k_X8_init_f28 : Cond.fieldLink RX8 28 RX8 "ofWhom" "[I" ∈ wsX8_init := by decide +kernel
theorem k_X8_init_f31 : Cond.fieldLink RX8 31 RX8 "metrics" "[I" ∈ wsX8_init := by decide +kernel
theorem k_X8_init_f34 : Cond.fieldLink RX8 34 RX8 "sequences" "[I" ∈ wsX8_init := by decide +kernel
theorem k_X8_init_f37 : Cond.fieldLink RX8 37 RX8 "wasKnown" "[I" ∈ wsX8_init := by decide +kernel
theorem k_X8_init_f40 : Cond.fieldLink RX8 40 RX8 "was" "[I" ∈ wsX8_init := by decide +kernel
theorem k_X8_init_f43 : Cond.fieldLink RX8 43 RX8 "way" "[I" ∈ wsX8_init := by decide +kernel
theorem k_X8_init_f46 : Cond.fieldLink RX8 46 RX8 "far" "[I" ∈ wsX8_init := by decide +kernel
theorem k_X8_init_f49 : Cond.fieldLink RX8 49 RX8 "tape" "[I" ∈ wsX8_init := by decide +kernel
theorem k_X8_init_f52 : Cond.fieldLink RX8 52 RX8 "lineKind" "[I" ∈ wsX8_init := by decide +kernel
theorem k_X8_init_f55 : Cond.fieldLink RX8 55 RX8 "lineNumber" "[I" ∈ wsX8_init := by decide +kernel
theorem k_X8_init_f58 : Cond.fieldLink RX8 58 RX8 "kept" "[I" ∈ wsX8_init := by decide +kernel
theorem k_X8_init_f61 : Cond.fieldLink RX8 61 RX8 "holds" "[I" ∈ wsX8_init := by decide +kernel
theorem k_X8_init_f64 : Cond.fieldLink RX8 64 RX8 "element" "[I" ∈ wsX8_init := by decide +kernel
theorem k_X8_init_f7 : Cond.fieldLink RX8 7 RX8 "s" "[I" ∈ wsX8_init := by decide +kernel
theorem k_X8_init_o1 : Cond.methodLink RX8 1 objectInit ∈ wsX8_init := by decide +kernel
theorem k_X8_init_o2 : Cond.instanceMethod objectInit ∈ wsX8_init := by decide +kernel
theorem k_X8_init_o3 : Cond.code objectInit ⟨#[0xb1]⟩ 1 none ∈ wsX8_init := by decide +kernel
theorem u_X8_init : ∀ w ∈ u_ws RX8 TX8 26, w ∈ wsX8_init := by decide +kernel
set_option maxHeartbeats 4000000 in
set_option maxRecDepth 100000 in
theorem c_X8_init (l : Launch) (D : va_G) (cI : ClassId) (tys : List (ClassId × FieldType)) (ht : tys[0]? = some (cI, .int)) : q_Ini l yX8_init wsX8_init ({ frames := 1, cells := 19, slots := 9700, locals := 12 }) D tys 8 [.int 0, .null, .null, .null, .null, .null, .null, .null, .null, .null, .int 0, .null, .null, .null, .int 0, .null, .null, .int 0, .int 0, .int 0, .null, .null, .int 0, .null, .null, .null] (p_M cI) m0_M 19 9700 := by
  refine x_ofIn (cc := cX8_init) (maxL := 1) (by decide +kernel) rfl (fun _ => Nat.le_of_ble_eq_true rfl) ?_
  intro p e s m below meth c A ls h0 hx hb hml hr hlocks hin hown hts hK hP hD hA hS hl
  have hown : s.vm.findClass RX8 = some m.cls := hown
  have hin : meth.name = "<init>" := hin
  refine lv_aload_n hx hb dX8_init_0 rfl (lv_at hl 0 rfl) ?_
  refine W.objInit hx hb hown (hts _ k_X8_init_o1) (hts _ k_X8_init_o2) (hts _ k_X8_init_o3) rfl (by rw [hml]; exact hl.1) rfl dX8_init_1 (Nat.le_of_ble_eq_true rfl) (Nat.le_of_ble_eq_true rfl) ?_
  refine W.eq (g2 := F0 m 4 ls []) rfl ?_
  refine lv_aload_n hx hb dX8_init_4 rfl (lv_at hl 0 rfl) ?_
  refine lv_sipush (v := 650) hx hb dX8_init_5 (by decide +kernel) ?_
  refine va_newa (atype := .int) (a0 := (650, .inl (fun _ => 0))) (N' := 650) hx hb (hts _ k_X8_init_ac) rfl hK hP hD hS hA (fun _ => rfl) (by decide +kernel) (by decide +kernel) (Nat.le_of_ble_eq_true rfl) (Nat.le_of_ble_eq_true rfl) (Nat.le_of_ble_eq_true rfl) dX8_init_8 (fun q8 cA H hK1 hP hD hS => ?_)
  have e9 : cA = cI := q_cls hK1 hK ht
  rw [e9] at hP hD
  have hP : va_P D vwCl [(h0, .inr (8, [.int 0, .null, .null, .null, .null, .null, .null, .null, .null, .null, .int 0, .null, .null, .null, .int 0, .null, .null, .int 0, .int 0, .int 0, .null, .null, .int 0, .null, .null, .null])), (q8, .inl (cI, 650, .inl (fun _ => 0)))] H := hP
  have hD : va_D A [(h0, .inr (8, [.int 0, .null, .null, .null, .null, .null, .null, .null, .null, .null, .int 0, .null, .null, .null, .int 0, .null, .null, .int 0, .int 0, .int 0, .null, .null, .int 0, .null, .null, .null])), (q8, .inl (cI, 650, .inl (fun _ => 0)))] := hD
  refine W.widen (k := 1) (n := 650) (by omega) (by omega) ?_
  refine va_put (D := D) (ci := 8) (v := .ref q8) (ty := .array .int) (C := RX8) (T := TX8) (N := 26) hx hb hts u_X8_init tyX8 tyX8_ok nmX8 hown hK hP hD hS 0 rfl rfl 1 (by decide) (ref := RX8) (hts _ k_X8_init_f7) (fun _ h9 => h9) rfl (by decide +kernel) rfl rfl (Nat.le_of_ble_eq_true rfl) dX8_init_10 (fun H locs hP hD hS => ?_)
  have hP : va_P D vwCl [(h0, .inr (8, [.int 0, .ref q8, .null, .null, .null, .null, .null, .null, .null, .null, .int 0, .null, .null, .null, .int 0, .null, .null, .int 0, .int 0, .int 0, .null, .null, .int 0, .null, .null, .null])), (q8, .inl (cI, 650, .inl (fun _ => 0)))] H := hP
  have hD : va_D A [(h0, .inr (8, [.int 0, .ref q8, .null, .null, .null, .null, .null, .null, .null, .null, .int 0, .null, .null, .null, .int 0, .null, .null, .int 0, .int 0, .int 0, .null, .null, .int 0, .null, .null, .null])), (q8, .inl (cI, 650, .inl (fun _ => 0)))] := hD
  refine lv_aload_n hx hb dX8_init_13 rfl (lv_at hl 0 rfl) ?_
  refine lv_sipush (v := 650) hx hb dX8_init_14 (by decide +kernel) ?_
  refine va_newa (atype := .int) (a0 := (650, .inl (fun _ => 0))) (N' := 650) hx hb (hts _ k_X8_init_ac) rfl hK hP hD hS hA (fun _ => rfl) (by decide +kernel) (by decide +kernel) (Nat.le_of_ble_eq_true rfl) (Nat.le_of_ble_eq_true rfl) (Nat.le_of_ble_eq_true rfl) dX8_init_17 (fun q17 cA H hK1 hP hD hS => ?_)
  have e9 : cA = cI := q_cls hK1 hK ht
  rw [e9] at hP hD
  have hP : va_P D vwCl [(h0, .inr (8, [.int 0, .ref q8, .null, .null, .null, .null, .null, .null, .null, .null, .int 0, .null, .null, .null, .int 0, .null, .null, .int 0, .int 0, .int 0, .null, .null, .int 0, .null, .null, .null])), (q8, .inl (cI, 650, .inl (fun _ => 0))), (q17, .inl (cI, 650, .inl (fun _ => 0)))] H := hP
  have hD : va_D A [(h0, .inr (8, [.int 0, .ref q8, .null, .null, .null, .null, .null, .null, .null, .null, .int 0, .null, .null, .null, .int 0, .null, .null, .int 0, .int 0, .int 0, .null, .null, .int 0, .null, .null, .null])), (q8, .inl (cI, 650, .inl (fun _ => 0))), (q17, .inl (cI, 650, .inl (fun _ => 0)))] := hD
  refine W.widen (k := 2) (n := 1300) (by omega) (by omega) ?_
  refine va_put (D := D) (ci := 8) (v := .ref q17) (ty := .array .int) (C := RX8) (T := TX8) (N := 26) hx hb hts u_X8_init tyX8 tyX8_ok nmX8 hown hK hP hD hS 0 rfl rfl 2 (by decide) (ref := RX8) (hts _ k_X8_init_f13) (fun _ h9 => h9) rfl (by decide +kernel) rfl rfl (Nat.le_of_ble_eq_true rfl) dX8_init_19 (fun H locs hP hD hS => ?_)
  have hP : va_P D vwCl [(h0, .inr (8, [.int 0, .ref q8, .ref q17, .null, .null, .null, .null, .null, .null, .null, .int 0, .null, .null, .null, .int 0, .null, .null, .int 0, .int 0, .int 0, .null, .null, .int 0, .null, .null, .null])), (q8, .inl (cI, 650, .inl (fun _ => 0))), (q17, .inl (cI, 650, .inl (fun _ => 0)))] H := hP
  have hD : va_D A [(h0, .inr (8, [.int 0, .ref q8, .ref q17, .null, .null, .null, .null, .null, .null, .null, .int 0, .null, .null, .null, .int 0, .null, .null, .int 0, .int 0, .int 0, .null, .null, .int 0, .null, .null, .null])), (q8, .inl (cI, 650, .inl (fun _ => 0))), (q17, .inl (cI, 650, .inl (fun _ => 0)))] := hD
  refine lv_aload_n hx hb dX8_init_22 rfl (lv_at hl 0 rfl) ?_
  refine lv_sipush (v := 650) hx hb dX8_init_23 (by decide +kernel) ?_
  refine va_newa (atype := .int) (a0 := (650, .inl (fun _ => 0))) (N' := 650) hx hb (hts _ k_X8_init_ac) rfl hK hP hD hS hA (fun _ => rfl) (by decide +kernel) (by decide +kernel) (Nat.le_of_ble_eq_true rfl) (Nat.le_of_ble_eq_true rfl) (Nat.le_of_ble_eq_true rfl) dX8_init_26 (fun q26 cA H hK1 hP hD hS => ?_)
  have e9 : cA = cI := q_cls hK1 hK ht
  rw [e9] at hP hD
  have hP : va_P D vwCl [(h0, .inr (8, [.int 0, .ref q8, .ref q17, .null, .null, .null, .null, .null, .null, .null, .int 0, .null, .null, .null, .int 0, .null, .null, .int 0, .int 0, .int 0, .null, .null, .int 0, .null, .null, .null])), (q8, .inl (cI, 650, .inl (fun _ => 0))), (q17, .inl (cI, 650, .inl (fun _ => 0))), (q26, .inl (cI, 650, .inl (fun _ => 0)))] H := hP
  have hD : va_D A [(h0, .inr (8, [.int 0, .ref q8, .ref q17, .null, .null, .null, .null, .null, .null, .null, .int 0, .null, .null, .null, .int 0, .null, .null, .int 0, .int 0, .int 0, .null, .null, .int 0, .null, .null, .null])), (q8, .inl (cI, 650, .inl (fun _ => 0))), (q17, .inl (cI, 650, .inl (fun _ => 0))), (q26, .inl (cI, 650, .inl (fun _ => 0)))] := hD
  refine W.widen (k := 3) (n := 1950) (by omega) (by omega) ?_
  refine va_putF (D := D) (ci := 8) (v := .ref q26) (ty := .array .int) (C := RX8) (T := TX8) (N := 26) hx hb hts u_X8_init tyX8 tyX8_ok nmX8 hown hK hP hD hS 0 rfl rfl 3 (by decide) (ref := RX8) (hts _ k_X8_init_f16) (fun _ h9 => h9) rfl hin rfl (by decide +kernel) rfl rfl (Nat.le_of_ble_eq_true rfl) dX8_init_28 (fun H locs hP hD hS => ?_)
  have hP : va_P D vwCl [(h0, .inr (8, [.int 0, .ref q8, .ref q17, .ref q26, .null, .null, .null, .null, .null, .null, .int 0, .null, .null, .null, .int 0, .null, .null, .int 0, .int 0, .int 0, .null, .null, .int 0, .null, .null, .null])), (q8, .inl (cI, 650, .inl (fun _ => 0))), (q17, .inl (cI, 650, .inl (fun _ => 0))), (q26, .inl (cI, 650, .inl (fun _ => 0)))] H := hP
  have hD : va_D A [(h0, .inr (8, [.int 0, .ref q8, .ref q17, .ref q26, .null, .null, .null, .null, .null, .null, .int 0, .null, .null, .null, .int 0, .null, .null, .int 0, .int 0, .int 0, .null, .null, .int 0, .null, .null, .null])), (q8, .inl (cI, 650, .inl (fun _ => 0))), (q17, .inl (cI, 650, .inl (fun _ => 0))), (q26, .inl (cI, 650, .inl (fun _ => 0)))] := hD
  refine lv_aload_n hx hb dX8_init_31 rfl (lv_at hl 0 rfl) ?_
  refine lv_sipush (v := 1000) hx hb dX8_init_32 (by decide +kernel) ?_
  refine va_newa (atype := .int) (a0 := (1000, .inl (fun _ => 0))) (N' := 1000) hx hb (hts _ k_X8_init_ac) rfl hK hP hD hS hA (fun _ => rfl) (by decide +kernel) (by decide +kernel) (Nat.le_of_ble_eq_true rfl) (Nat.le_of_ble_eq_true rfl) (Nat.le_of_ble_eq_true rfl) dX8_init_35 (fun q35 cA H hK1 hP hD hS => ?_)
  have e9 : cA = cI := q_cls hK1 hK ht
  rw [e9] at hP hD
  have hP : va_P D vwCl [(h0, .inr (8, [.int 0, .ref q8, .ref q17, .ref q26, .null, .null, .null, .null, .null, .null, .int 0, .null, .null, .null, .int 0, .null, .null, .int 0, .int 0, .int 0, .null, .null, .int 0, .null, .null, .null])), (q8, .inl (cI, 650, .inl (fun _ => 0))), (q17, .inl (cI, 650, .inl (fun _ => 0))), (q26, .inl (cI, 650, .inl (fun _ => 0))), (q35, .inl (cI, 1000, .inl (fun _ => 0)))] H := hP
  have hD : va_D A [(h0, .inr (8, [.int 0, .ref q8, .ref q17, .ref q26, .null, .null, .null, .null, .null, .null, .int 0, .null, .null, .null, .int 0, .null, .null, .int 0, .int 0, .int 0, .null, .null, .int 0, .null, .null, .null])), (q8, .inl (cI, 650, .inl (fun _ => 0))), (q17, .inl (cI, 650, .inl (fun _ => 0))), (q26, .inl (cI, 650, .inl (fun _ => 0))), (q35, .inl (cI, 1000, .inl (fun _ => 0)))] := hD
  refine W.widen (k := 4) (n := 2950) (by omega) (by omega) ?_
  refine va_putF (D := D) (ci := 8) (v := .ref q35) (ty := .array .int) (C := RX8) (T := TX8) (N := 26) hx hb hts u_X8_init tyX8 tyX8_ok nmX8 hown hK hP hD hS 0 rfl rfl 4 (by decide) (ref := RX8) (hts _ k_X8_init_f19) (fun _ h9 => h9) rfl hin rfl (by decide +kernel) rfl rfl (Nat.le_of_ble_eq_true rfl) dX8_init_37 (fun H locs hP hD hS => ?_)
  have hP : va_P D vwCl [(h0, .inr (8, [.int 0, .ref q8, .ref q17, .ref q26, .ref q35, .null, .null, .null, .null, .null, .int 0, .null, .null, .null, .int 0, .null, .null, .int 0, .int 0, .int 0, .null, .null, .int 0, .null, .null, .null])), (q8, .inl (cI, 650, .inl (fun _ => 0))), (q17, .inl (cI, 650, .inl (fun _ => 0))), (q26, .inl (cI, 650, .inl (fun _ => 0))), (q35, .inl (cI, 1000, .inl (fun _ => 0)))] H := hP
  have hD : va_D A [(h0, .inr (8, [.int 0, .ref q8, .ref q17, .ref q26, .ref q35, .null, .null, .null, .null, .null, .int 0, .null, .null, .null, .int 0, .null, .null, .int 0, .int 0, .int 0, .null, .null, .int 0, .null, .null, .null])), (q8, .inl (cI, 650, .inl (fun _ => 0))), (q17, .inl (cI, 650, .inl (fun _ => 0))), (q26, .inl (cI, 650, .inl (fun _ => 0))), (q35, .inl (cI, 1000, .inl (fun _ => 0)))] := hD
  refine lv_aload_n hx hb dX8_init_40 rfl (lv_at hl 0 rfl) ?_
  refine lv_sipush (v := 1000) hx hb dX8_init_41 (by decide +kernel) ?_
  refine va_newa (atype := .int) (a0 := (1000, .inl (fun _ => 0))) (N' := 1000) hx hb (hts _ k_X8_init_ac) rfl hK hP hD hS hA (fun _ => rfl) (by decide +kernel) (by decide +kernel) (Nat.le_of_ble_eq_true rfl) (Nat.le_of_ble_eq_true rfl) (Nat.le_of_ble_eq_true rfl) dX8_init_44 (fun q44 cA H hK1 hP hD hS => ?_)
  have e9 : cA = cI := q_cls hK1 hK ht
  rw [e9] at hP hD
  have hP : va_P D vwCl [(h0, .inr (8, [.int 0, .ref q8, .ref q17, .ref q26, .ref q35, .null, .null, .null, .null, .null, .int 0, .null, .null, .null, .int 0, .null, .null, .int 0, .int 0, .int 0, .null, .null, .int 0, .null, .null, .null])), (q8, .inl (cI, 650, .inl (fun _ => 0))), (q17, .inl (cI, 650, .inl (fun _ => 0))), (q26, .inl (cI, 650, .inl (fun _ => 0))), (q35, .inl (cI, 1000, .inl (fun _ => 0))), (q44, .inl (cI, 1000, .inl (fun _ => 0)))] H := hP
  have hD : va_D A [(h0, .inr (8, [.int 0, .ref q8, .ref q17, .ref q26, .ref q35, .null, .null, .null, .null, .null, .int 0, .null, .null, .null, .int 0, .null, .null, .int 0, .int 0, .int 0, .null, .null, .int 0, .null, .null, .null])), (q8, .inl (cI, 650, .inl (fun _ => 0))), (q17, .inl (cI, 650, .inl (fun _ => 0))), (q26, .inl (cI, 650, .inl (fun _ => 0))), (q35, .inl (cI, 1000, .inl (fun _ => 0))), (q44, .inl (cI, 1000, .inl (fun _ => 0)))] := hD
  refine W.widen (k := 5) (n := 3950) (by omega) (by omega) ?_
  refine va_putF (D := D) (ci := 8) (v := .ref q44) (ty := .array .int) (C := RX8) (T := TX8) (N := 26) hx hb hts u_X8_init tyX8 tyX8_ok nmX8 hown hK hP hD hS 0 rfl rfl 5 (by decide) (ref := RX8) (hts _ k_X8_init_f22) (fun _ h9 => h9) rfl hin rfl (by decide +kernel) rfl rfl (Nat.le_of_ble_eq_true rfl) dX8_init_46 (fun H locs hP hD hS => ?_)
  have hP : va_P D vwCl [(h0, .inr (8, [.int 0, .ref q8, .ref q17, .ref q26, .ref q35, .ref q44, .null, .null, .null, .null, .int 0, .null, .null, .null, .int 0, .null, .null, .int 0, .int 0, .int 0, .null, .null, .int 0, .null, .null, .null])), (q8, .inl (cI, 650, .inl (fun _ => 0))), (q17, .inl (cI, 650, .inl (fun _ => 0))), (q26, .inl (cI, 650, .inl (fun _ => 0))), (q35, .inl (cI, 1000, .inl (fun _ => 0))), (q44, .inl (cI, 1000, .inl (fun _ => 0)))] H := hP
  have hD : va_D A [(h0, .inr (8, [.int 0, .ref q8, .ref q17, .ref q26, .ref q35, .ref q44, .null, .null, .null, .null, .int 0, .null, .null, .null, .int 0, .null, .null, .int 0, .int 0, .int 0, .null, .null, .int 0, .null, .null, .null])), (q8, .inl (cI, 650, .inl (fun _ => 0))), (q17, .inl (cI, 650, .inl (fun _ => 0))), (q26, .inl (cI, 650, .inl (fun _ => 0))), (q35, .inl (cI, 1000, .inl (fun _ => 0))), (q44, .inl (cI, 1000, .inl (fun _ => 0)))] := hD
  refine lv_aload_n hx hb dX8_init_49 rfl (lv_at hl 0 rfl) ?_
  refine lv_sipush (v := 1000) hx hb dX8_init_50 (by decide +kernel) ?_
  refine va_newa (atype := .int) (a0 := (1000, .inl (fun _ => 0))) (N' := 1000) hx hb (hts _ k_X8_init_ac) rfl hK hP hD hS hA (fun _ => rfl) (by decide +kernel) (by decide +kernel) (Nat.le_of_ble_eq_true rfl) (Nat.le_of_ble_eq_true rfl) (Nat.le_of_ble_eq_true rfl) dX8_init_53 (fun q53 cA H hK1 hP hD hS => ?_)
  have e9 : cA = cI := q_cls hK1 hK ht
  rw [e9] at hP hD
  have hP : va_P D vwCl [(h0, .inr (8, [.int 0, .ref q8, .ref q17, .ref q26, .ref q35, .ref q44, .null, .null, .null, .null, .int 0, .null, .null, .null, .int 0, .null, .null, .int 0, .int 0, .int 0, .null, .null, .int 0, .null, .null, .null])), (q8, .inl (cI, 650, .inl (fun _ => 0))), (q17, .inl (cI, 650, .inl (fun _ => 0))), (q26, .inl (cI, 650, .inl (fun _ => 0))), (q35, .inl (cI, 1000, .inl (fun _ => 0))), (q44, .inl (cI, 1000, .inl (fun _ => 0))), (q53, .inl (cI, 1000, .inl (fun _ => 0)))] H := hP
  have hD : va_D A [(h0, .inr (8, [.int 0, .ref q8, .ref q17, .ref q26, .ref q35, .ref q44, .null, .null, .null, .null, .int 0, .null, .null, .null, .int 0, .null, .null, .int 0, .int 0, .int 0, .null, .null, .int 0, .null, .null, .null])), (q8, .inl (cI, 650, .inl (fun _ => 0))), (q17, .inl (cI, 650, .inl (fun _ => 0))), (q26, .inl (cI, 650, .inl (fun _ => 0))), (q35, .inl (cI, 1000, .inl (fun _ => 0))), (q44, .inl (cI, 1000, .inl (fun _ => 0))), (q53, .inl (cI, 1000, .inl (fun _ => 0)))] := hD
  refine W.widen (k := 6) (n := 4950) (by omega) (by omega) ?_
  refine va_putF (D := D) (ci := 8) (v := .ref q53) (ty := .array .int) (C := RX8) (T := TX8) (N := 26) hx hb hts u_X8_init tyX8 tyX8_ok nmX8 hown hK hP hD hS 0 rfl rfl 6 (by decide) (ref := RX8) (hts _ k_X8_init_f25) (fun _ h9 => h9) rfl hin rfl (by decide +kernel) rfl rfl (Nat.le_of_ble_eq_true rfl) dX8_init_55 (fun H locs hP hD hS => ?_)
  have hP : va_P D vwCl [(h0, .inr (8, [.int 0, .ref q8, .ref q17, .ref q26, .ref q35, .ref q44, .ref q53, .null, .null, .null, .int 0, .null, .null, .null, .int 0, .null, .null, .int 0, .int 0, .int 0, .null, .null, .int 0, .null, .null, .null])), (q8, .inl (cI, 650, .inl (fun _ => 0))), (q17, .inl (cI, 650, .inl (fun _ => 0))), (q26, .inl (cI, 650, .inl (fun _ => 0))), (q35, .inl (cI, 1000, .inl (fun _ => 0))), (q44, .inl (cI, 1000, .inl (fun _ => 0))), (q53, .inl (cI, 1000, .inl (fun _ => 0)))] H := hP
  have hD : va_D A [(h0, .inr (8, [.int 0, .ref q8, .ref q17, .ref q26, .ref q35, .ref q44, .ref q53, .null, .null, .null, .int 0, .null, .null, .null, .int 0, .null, .null, .int 0, .int 0, .int 0, .null, .null, .int 0, .null, .null, .null])), (q8, .inl (cI, 650, .inl (fun _ => 0))), (q17, .inl (cI, 650, .inl (fun _ => 0))), (q26, .inl (cI, 650, .inl (fun _ => 0))), (q35, .inl (cI, 1000, .inl (fun _ => 0))), (q44, .inl (cI, 1000, .inl (fun _ => 0))), (q53, .inl (cI, 1000, .inl (fun _ => 0)))] := hD
  refine lv_aload_n hx hb dX8_init_58 rfl (lv_at hl 0 rfl) ?_
  refine lv_sipush (v := 1000) hx hb dX8_init_59 (by decide +kernel) ?_
  refine va_newa (atype := .int) (a0 := (1000, .inl (fun _ => 0))) (N' := 1000) hx hb (hts _ k_X8_init_ac) rfl hK hP hD hS hA (fun _ => rfl) (by decide +kernel) (by decide +kernel) (Nat.le_of_ble_eq_true rfl) (Nat.le_of_ble_eq_true rfl) (Nat.le_of_ble_eq_true rfl) dX8_init_62 (fun q62 cA H hK1 hP hD hS => ?_)
  have e9 : cA = cI := q_cls hK1 hK ht
  rw [e9] at hP hD
  have hP : va_P D vwCl [(h0, .inr (8, [.int 0, .ref q8, .ref q17, .ref q26, .ref q35, .ref q44, .ref q53, .null, .null, .null, .int 0, .null, .null, .null, .int 0, .null, .null, .int 0, .int 0, .int 0, .null, .null, .int 0, .null, .null, .null])), (q8, .inl (cI, 650, .inl (fun _ => 0))), (q17, .inl (cI, 650, .inl (fun _ => 0))), (q26, .inl (cI, 650, .inl (fun _ => 0))), (q35, .inl (cI, 1000, .inl (fun _ => 0))), (q44, .inl (cI, 1000, .inl (fun _ => 0))), (q53, .inl (cI, 1000, .inl (fun _ => 0))), (q62, .inl (cI, 1000, .inl (fun _ => 0)))] H := hP
  have hD : va_D A [(h0, .inr (8, [.int 0, .ref q8, .ref q17, .ref q26, .ref q35, .ref q44, .ref q53, .null, .null, .null, .int 0, .null, .null, .null, .int 0, .null, .null, .int 0, .int 0, .int 0, .null, .null, .int 0, .null, .null, .null])), (q8, .inl (cI, 650, .inl (fun _ => 0))), (q17, .inl (cI, 650, .inl (fun _ => 0))), (q26, .inl (cI, 650, .inl (fun _ => 0))), (q35, .inl (cI, 1000, .inl (fun _ => 0))), (q44, .inl (cI, 1000, .inl (fun _ => 0))), (q53, .inl (cI, 1000, .inl (fun _ => 0))), (q62, .inl (cI, 1000, .inl (fun _ => 0)))] := hD
  refine W.widen (k := 7) (n := 5950) (by omega) (by omega) ?_
  refine va_putF (D := D) (ci := 8) (v := .ref q62) (ty := .array .int) (C := RX8) (T := TX8) (N := 26) hx hb hts u_X8_init tyX8 tyX8_ok nmX8 hown hK hP hD hS 0 rfl rfl 7 (by decide) (ref := RX8) (hts _ k_X8_init_f28) (fun _ h9 => h9) rfl hin rfl (by decide +kernel) rfl rfl (Nat.le_of_ble_eq_true rfl) dX8_init_64 (fun H locs hP hD hS => ?_)
  have hP : va_P D vwCl [(h0, .inr (8, [.int 0, .ref q8, .ref q17, .ref q26, .ref q35, .ref q44, .ref q53, .ref q62, .null, .null, .int 0, .null, .null, .null, .int 0, .null, .null, .int 0, .int 0, .int 0, .null, .null, .int 0, .null, .null, .null])), (q8, .inl (cI, 650, .inl (fun _ => 0))), (q17, .inl (cI, 650, .inl (fun _ => 0))), (q26, .inl (cI, 650, .inl (fun _ => 0))), (q35, .inl (cI, 1000, .inl (fun _ => 0))), (q44, .inl (cI, 1000, .inl (fun _ => 0))), (q53, .inl (cI, 1000, .inl (fun _ => 0))), (q62, .inl (cI, 1000, .inl (fun _ => 0)))] H := hP
  have hD : va_D A [(h0, .inr (8, [.int 0, .ref q8, .ref q17, .ref q26, .ref q35, .ref q44, .ref q53, .ref q62, .null, .null, .int 0, .null, .null, .null, .int 0, .null, .null, .int 0, .int 0, .int 0, .null, .null, .int 0, .null, .null, .null])), (q8, .inl (cI, 650, .inl (fun _ => 0))), (q17, .inl (cI, 650, .inl (fun _ => 0))), (q26, .inl (cI, 650, .inl (fun _ => 0))), (q35, .inl (cI, 1000, .inl (fun _ => 0))), (q44, .inl (cI, 1000, .inl (fun _ => 0))), (q53, .inl (cI, 1000, .inl (fun _ => 0))), (q62, .inl (cI, 1000, .inl (fun _ => 0)))] := hD
  refine lv_aload_n hx hb dX8_init_67 rfl (lv_at hl 0 rfl) ?_
  refine lv_sipush (v := 1000) hx hb dX8_init_68 (by decide +kernel) ?_
  refine va_newa (atype := .int) (a0 := (1000, .inl (fun _ => 0))) (N' := 1000) hx hb (hts _ k_X8_init_ac) rfl hK hP hD hS hA (fun _ => rfl) (by decide +kernel) (by decide +kernel) (Nat.le_of_ble_eq_true rfl) (Nat.le_of_ble_eq_true rfl) (Nat.le_of_ble_eq_true rfl) dX8_init_71 (fun q71 cA H hK1 hP hD hS => ?_)
  have e9 : cA = cI := q_cls hK1 hK ht
  rw [e9] at hP hD
  have hP : va_P D vwCl [(h0, .inr (8, [.int 0, .ref q8, .ref q17, .ref q26, .ref q35, .ref q44, .ref q53, .ref q62, .null, .null, .int 0, .null, .null, .null, .int 0, .null, .null, .int 0, .int 0, .int 0, .null, .null, .int 0, .null, .null, .null])), (q8, .inl (cI, 650, .inl (fun _ => 0))), (q17, .inl (cI, 650, .inl (fun _ => 0))), (q26, .inl (cI, 650, .inl (fun _ => 0))), (q35, .inl (cI, 1000, .inl (fun _ => 0))), (q44, .inl (cI, 1000, .inl (fun _ => 0))), (q53, .inl (cI, 1000, .inl (fun _ => 0))), (q62, .inl (cI, 1000, .inl (fun _ => 0))), (q71, .inl (cI, 1000, .inl (fun _ => 0)))] H := hP
  have hD : va_D A [(h0, .inr (8, [.int 0, .ref q8, .ref q17, .ref q26, .ref q35, .ref q44, .ref q53, .ref q62, .null, .null, .int 0, .null, .null, .null, .int 0, .null, .null, .int 0, .int 0, .int 0, .null, .null, .int 0, .null, .null, .null])), (q8, .inl (cI, 650, .inl (fun _ => 0))), (q17, .inl (cI, 650, .inl (fun _ => 0))), (q26, .inl (cI, 650, .inl (fun _ => 0))), (q35, .inl (cI, 1000, .inl (fun _ => 0))), (q44, .inl (cI, 1000, .inl (fun _ => 0))), (q53, .inl (cI, 1000, .inl (fun _ => 0))), (q62, .inl (cI, 1000, .inl (fun _ => 0))), (q71, .inl (cI, 1000, .inl (fun _ => 0)))] := hD
  refine W.widen (k := 8) (n := 6950) (by omega) (by omega) ?_
  refine va_putF (D := D) (ci := 8) (v := .ref q71) (ty := .array .int) (C := RX8) (T := TX8) (N := 26) hx hb hts u_X8_init tyX8 tyX8_ok nmX8 hown hK hP hD hS 0 rfl rfl 8 (by decide) (ref := RX8) (hts _ k_X8_init_f31) (fun _ h9 => h9) rfl hin rfl (by decide +kernel) rfl rfl (Nat.le_of_ble_eq_true rfl) dX8_init_73 (fun H locs hP hD hS => ?_)
  have hP : va_P D vwCl [(h0, .inr (8, [.int 0, .ref q8, .ref q17, .ref q26, .ref q35, .ref q44, .ref q53, .ref q62, .ref q71, .null, .int 0, .null, .null, .null, .int 0, .null, .null, .int 0, .int 0, .int 0, .null, .null, .int 0, .null, .null, .null])), (q8, .inl (cI, 650, .inl (fun _ => 0))), (q17, .inl (cI, 650, .inl (fun _ => 0))), (q26, .inl (cI, 650, .inl (fun _ => 0))), (q35, .inl (cI, 1000, .inl (fun _ => 0))), (q44, .inl (cI, 1000, .inl (fun _ => 0))), (q53, .inl (cI, 1000, .inl (fun _ => 0))), (q62, .inl (cI, 1000, .inl (fun _ => 0))), (q71, .inl (cI, 1000, .inl (fun _ => 0)))] H := hP
  have hD : va_D A [(h0, .inr (8, [.int 0, .ref q8, .ref q17, .ref q26, .ref q35, .ref q44, .ref q53, .ref q62, .ref q71, .null, .int 0, .null, .null, .null, .int 0, .null, .null, .int 0, .int 0, .int 0, .null, .null, .int 0, .null, .null, .null])), (q8, .inl (cI, 650, .inl (fun _ => 0))), (q17, .inl (cI, 650, .inl (fun _ => 0))), (q26, .inl (cI, 650, .inl (fun _ => 0))), (q35, .inl (cI, 1000, .inl (fun _ => 0))), (q44, .inl (cI, 1000, .inl (fun _ => 0))), (q53, .inl (cI, 1000, .inl (fun _ => 0))), (q62, .inl (cI, 1000, .inl (fun _ => 0))), (q71, .inl (cI, 1000, .inl (fun _ => 0)))] := hD
  refine lv_aload_n hx hb dX8_init_76 rfl (lv_at hl 0 rfl) ?_
  refine lv_sipush (v := 1000) hx hb dX8_init_77 (by decide +kernel) ?_
  refine va_newa (atype := .int) (a0 := (1000, .inl (fun _ => 0))) (N' := 1000) hx hb (hts _ k_X8_init_ac) rfl hK hP hD hS hA (fun _ => rfl) (by decide +kernel) (by decide +kernel) (Nat.le_of_ble_eq_true rfl) (Nat.le_of_ble_eq_true rfl) (Nat.le_of_ble_eq_true rfl) dX8_init_80 (fun q80 cA H hK1 hP hD hS => ?_)
  have e9 : cA = cI := q_cls hK1 hK ht
  rw [e9] at hP hD
  have hP : va_P D vwCl [(h0, .inr (8, [.int 0, .ref q8, .ref q17, .ref q26, .ref q35, .ref q44, .ref q53, .ref q62, .ref q71, .null, .int 0, .null, .null, .null, .int 0, .null, .null, .int 0, .int 0, .int 0, .null, .null, .int 0, .null, .null, .null])), (q8, .inl (cI, 650, .inl (fun _ => 0))), (q17, .inl (cI, 650, .inl (fun _ => 0))), (q26, .inl (cI, 650, .inl (fun _ => 0))), (q35, .inl (cI, 1000, .inl (fun _ => 0))), (q44, .inl (cI, 1000, .inl (fun _ => 0))), (q53, .inl (cI, 1000, .inl (fun _ => 0))), (q62, .inl (cI, 1000, .inl (fun _ => 0))), (q71, .inl (cI, 1000, .inl (fun _ => 0))), (q80, .inl (cI, 1000, .inl (fun _ => 0)))] H := hP
  have hD : va_D A [(h0, .inr (8, [.int 0, .ref q8, .ref q17, .ref q26, .ref q35, .ref q44, .ref q53, .ref q62, .ref q71, .null, .int 0, .null, .null, .null, .int 0, .null, .null, .int 0, .int 0, .int 0, .null, .null, .int 0, .null, .null, .null])), (q8, .inl (cI, 650, .inl (fun _ => 0))), (q17, .inl (cI, 650, .inl (fun _ => 0))), (q26, .inl (cI, 650, .inl (fun _ => 0))), (q35, .inl (cI, 1000, .inl (fun _ => 0))), (q44, .inl (cI, 1000, .inl (fun _ => 0))), (q53, .inl (cI, 1000, .inl (fun _ => 0))), (q62, .inl (cI, 1000, .inl (fun _ => 0))), (q71, .inl (cI, 1000, .inl (fun _ => 0))), (q80, .inl (cI, 1000, .inl (fun _ => 0)))] := hD
  refine W.widen (k := 9) (n := 7950) (by omega) (by omega) ?_
  refine va_putF (D := D) (ci := 8) (v := .ref q80) (ty := .array .int) (C := RX8) (T := TX8) (N := 26) hx hb hts u_X8_init tyX8 tyX8_ok nmX8 hown hK hP hD hS 0 rfl rfl 9 (by decide) (ref := RX8) (hts _ k_X8_init_f34) (fun _ h9 => h9) rfl hin rfl (by decide +kernel) rfl rfl (Nat.le_of_ble_eq_true rfl) dX8_init_82 (fun H locs hP hD hS => ?_)
  have hP : va_P D vwCl [(h0, .inr (8, [.int 0, .ref q8, .ref q17, .ref q26, .ref q35, .ref q44, .ref q53, .ref q62, .ref q71, .ref q80, .int 0, .null, .null, .null, .int 0, .null, .null, .int 0, .int 0, .int 0, .null, .null, .int 0, .null, .null, .null])), (q8, .inl (cI, 650, .inl (fun _ => 0))), (q17, .inl (cI, 650, .inl (fun _ => 0))), (q26, .inl (cI, 650, .inl (fun _ => 0))), (q35, .inl (cI, 1000, .inl (fun _ => 0))), (q44, .inl (cI, 1000, .inl (fun _ => 0))), (q53, .inl (cI, 1000, .inl (fun _ => 0))), (q62, .inl (cI, 1000, .inl (fun _ => 0))), (q71, .inl (cI, 1000, .inl (fun _ => 0))), (q80, .inl (cI, 1000, .inl (fun _ => 0)))] H := hP
  have hD : va_D A [(h0, .inr (8, [.int 0, .ref q8, .ref q17, .ref q26, .ref q35, .ref q44, .ref q53, .ref q62, .ref q71, .ref q80, .int 0, .null, .null, .null, .int 0, .null, .null, .int 0, .int 0, .int 0, .null, .null, .int 0, .null, .null, .null])), (q8, .inl (cI, 650, .inl (fun _ => 0))), (q17, .inl (cI, 650, .inl (fun _ => 0))), (q26, .inl (cI, 650, .inl (fun _ => 0))), (q35, .inl (cI, 1000, .inl (fun _ => 0))), (q44, .inl (cI, 1000, .inl (fun _ => 0))), (q53, .inl (cI, 1000, .inl (fun _ => 0))), (q62, .inl (cI, 1000, .inl (fun _ => 0))), (q71, .inl (cI, 1000, .inl (fun _ => 0))), (q80, .inl (cI, 1000, .inl (fun _ => 0)))] := hD
  refine lv_aload_n hx hb dX8_init_85 rfl (lv_at hl 0 rfl) ?_
  refine lv_bipush (v := 10) hx hb dX8_init_86 (by decide +kernel) ?_
  refine va_newa (atype := .int) (a0 := (10, .inl (fun _ => 0))) (N' := 10) hx hb (hts _ k_X8_init_ac) rfl hK hP hD hS hA (fun _ => rfl) (by decide +kernel) (by decide +kernel) (Nat.le_of_ble_eq_true rfl) (Nat.le_of_ble_eq_true rfl) (Nat.le_of_ble_eq_true rfl) dX8_init_88 (fun q88 cA H hK1 hP hD hS => ?_)
  have e9 : cA = cI := q_cls hK1 hK ht
  rw [e9] at hP hD
  have hP : va_P D vwCl [(h0, .inr (8, [.int 0, .ref q8, .ref q17, .ref q26, .ref q35, .ref q44, .ref q53, .ref q62, .ref q71, .ref q80, .int 0, .null, .null, .null, .int 0, .null, .null, .int 0, .int 0, .int 0, .null, .null, .int 0, .null, .null, .null])), (q8, .inl (cI, 650, .inl (fun _ => 0))), (q17, .inl (cI, 650, .inl (fun _ => 0))), (q26, .inl (cI, 650, .inl (fun _ => 0))), (q35, .inl (cI, 1000, .inl (fun _ => 0))), (q44, .inl (cI, 1000, .inl (fun _ => 0))), (q53, .inl (cI, 1000, .inl (fun _ => 0))), (q62, .inl (cI, 1000, .inl (fun _ => 0))), (q71, .inl (cI, 1000, .inl (fun _ => 0))), (q80, .inl (cI, 1000, .inl (fun _ => 0))), (q88, .inl (cI, 10, .inl (fun _ => 0)))] H := hP
  have hD : va_D A [(h0, .inr (8, [.int 0, .ref q8, .ref q17, .ref q26, .ref q35, .ref q44, .ref q53, .ref q62, .ref q71, .ref q80, .int 0, .null, .null, .null, .int 0, .null, .null, .int 0, .int 0, .int 0, .null, .null, .int 0, .null, .null, .null])), (q8, .inl (cI, 650, .inl (fun _ => 0))), (q17, .inl (cI, 650, .inl (fun _ => 0))), (q26, .inl (cI, 650, .inl (fun _ => 0))), (q35, .inl (cI, 1000, .inl (fun _ => 0))), (q44, .inl (cI, 1000, .inl (fun _ => 0))), (q53, .inl (cI, 1000, .inl (fun _ => 0))), (q62, .inl (cI, 1000, .inl (fun _ => 0))), (q71, .inl (cI, 1000, .inl (fun _ => 0))), (q80, .inl (cI, 1000, .inl (fun _ => 0))), (q88, .inl (cI, 10, .inl (fun _ => 0)))] := hD
  refine W.widen (k := 10) (n := 7960) (by omega) (by omega) ?_
  refine va_putF (D := D) (ci := 8) (v := .ref q88) (ty := .array .int) (C := RX8) (T := TX8) (N := 26) hx hb hts u_X8_init tyX8 tyX8_ok nmX8 hown hK hP hD hS 0 rfl rfl 11 (by decide) (ref := RX8) (hts _ k_X8_init_f37) (fun _ h9 => h9) rfl hin rfl (by decide +kernel) rfl rfl (Nat.le_of_ble_eq_true rfl) dX8_init_90 (fun H locs hP hD hS => ?_)
  have hP : va_P D vwCl [(h0, .inr (8, [.int 0, .ref q8, .ref q17, .ref q26, .ref q35, .ref q44, .ref q53, .ref q62, .ref q71, .ref q80, .int 0, .ref q88, .null, .null, .int 0, .null, .null, .int 0, .int 0, .int 0, .null, .null, .int 0, .null, .null, .null])), (q8, .inl (cI, 650, .inl (fun _ => 0))), (q17, .inl (cI, 650, .inl (fun _ => 0))), (q26, .inl (cI, 650, .inl (fun _ => 0))), (q35, .inl (cI, 1000, .inl (fun _ => 0))), (q44, .inl (cI, 1000, .inl (fun _ => 0))), (q53, .inl (cI, 1000, .inl (fun _ => 0))), (q62, .inl (cI, 1000, .inl (fun _ => 0))), (q71, .inl (cI, 1000, .inl (fun _ => 0))), (q80, .inl (cI, 1000, .inl (fun _ => 0))), (q88, .inl (cI, 10, .inl (fun _ => 0)))] H := hP
  have hD : va_D A [(h0, .inr (8, [.int 0, .ref q8, .ref q17, .ref q26, .ref q35, .ref q44, .ref q53, .ref q62, .ref q71, .ref q80, .int 0, .ref q88, .null, .null, .int 0, .null, .null, .int 0, .int 0, .int 0, .null, .null, .int 0, .null, .null, .null])), (q8, .inl (cI, 650, .inl (fun _ => 0))), (q17, .inl (cI, 650, .inl (fun _ => 0))), (q26, .inl (cI, 650, .inl (fun _ => 0))), (q35, .inl (cI, 1000, .inl (fun _ => 0))), (q44, .inl (cI, 1000, .inl (fun _ => 0))), (q53, .inl (cI, 1000, .inl (fun _ => 0))), (q62, .inl (cI, 1000, .inl (fun _ => 0))), (q71, .inl (cI, 1000, .inl (fun _ => 0))), (q80, .inl (cI, 1000, .inl (fun _ => 0))), (q88, .inl (cI, 10, .inl (fun _ => 0)))] := hD
  refine lv_aload_n hx hb dX8_init_93 rfl (lv_at hl 0 rfl) ?_
  refine lv_bipush (v := 100) hx hb dX8_init_94 (by decide +kernel) ?_
  refine va_newa (atype := .int) (a0 := (100, .inl (fun _ => 0))) (N' := 100) hx hb (hts _ k_X8_init_ac) rfl hK hP hD hS hA (fun _ => rfl) (by decide +kernel) (by decide +kernel) (Nat.le_of_ble_eq_true rfl) (Nat.le_of_ble_eq_true rfl) (Nat.le_of_ble_eq_true rfl) dX8_init_96 (fun q96 cA H hK1 hP hD hS => ?_)
  have e9 : cA = cI := q_cls hK1 hK ht
  rw [e9] at hP hD
  have hP : va_P D vwCl [(h0, .inr (8, [.int 0, .ref q8, .ref q17, .ref q26, .ref q35, .ref q44, .ref q53, .ref q62, .ref q71, .ref q80, .int 0, .ref q88, .null, .null, .int 0, .null, .null, .int 0, .int 0, .int 0, .null, .null, .int 0, .null, .null, .null])), (q8, .inl (cI, 650, .inl (fun _ => 0))), (q17, .inl (cI, 650, .inl (fun _ => 0))), (q26, .inl (cI, 650, .inl (fun _ => 0))), (q35, .inl (cI, 1000, .inl (fun _ => 0))), (q44, .inl (cI, 1000, .inl (fun _ => 0))), (q53, .inl (cI, 1000, .inl (fun _ => 0))), (q62, .inl (cI, 1000, .inl (fun _ => 0))), (q71, .inl (cI, 1000, .inl (fun _ => 0))), (q80, .inl (cI, 1000, .inl (fun _ => 0))), (q88, .inl (cI, 10, .inl (fun _ => 0))), (q96, .inl (cI, 100, .inl (fun _ => 0)))] H := hP
  have hD : va_D A [(h0, .inr (8, [.int 0, .ref q8, .ref q17, .ref q26, .ref q35, .ref q44, .ref q53, .ref q62, .ref q71, .ref q80, .int 0, .ref q88, .null, .null, .int 0, .null, .null, .int 0, .int 0, .int 0, .null, .null, .int 0, .null, .null, .null])), (q8, .inl (cI, 650, .inl (fun _ => 0))), (q17, .inl (cI, 650, .inl (fun _ => 0))), (q26, .inl (cI, 650, .inl (fun _ => 0))), (q35, .inl (cI, 1000, .inl (fun _ => 0))), (q44, .inl (cI, 1000, .inl (fun _ => 0))), (q53, .inl (cI, 1000, .inl (fun _ => 0))), (q62, .inl (cI, 1000, .inl (fun _ => 0))), (q71, .inl (cI, 1000, .inl (fun _ => 0))), (q80, .inl (cI, 1000, .inl (fun _ => 0))), (q88, .inl (cI, 10, .inl (fun _ => 0))), (q96, .inl (cI, 100, .inl (fun _ => 0)))] := hD
  refine W.widen (k := 11) (n := 8060) (by omega) (by omega) ?_
  refine va_putF (D := D) (ci := 8) (v := .ref q96) (ty := .array .int) (C := RX8) (T := TX8) (N := 26) hx hb hts u_X8_init tyX8 tyX8_ok nmX8 hown hK hP hD hS 0 rfl rfl 12 (by decide) (ref := RX8) (hts _ k_X8_init_f40) (fun _ h9 => h9) rfl hin rfl (by decide +kernel) rfl rfl (Nat.le_of_ble_eq_true rfl) dX8_init_98 (fun H locs hP hD hS => ?_)
  have hP : va_P D vwCl [(h0, .inr (8, [.int 0, .ref q8, .ref q17, .ref q26, .ref q35, .ref q44, .ref q53, .ref q62, .ref q71, .ref q80, .int 0, .ref q88, .ref q96, .null, .int 0, .null, .null, .int 0, .int 0, .int 0, .null, .null, .int 0, .null, .null, .null])), (q8, .inl (cI, 650, .inl (fun _ => 0))), (q17, .inl (cI, 650, .inl (fun _ => 0))), (q26, .inl (cI, 650, .inl (fun _ => 0))), (q35, .inl (cI, 1000, .inl (fun _ => 0))), (q44, .inl (cI, 1000, .inl (fun _ => 0))), (q53, .inl (cI, 1000, .inl (fun _ => 0))), (q62, .inl (cI, 1000, .inl (fun _ => 0))), (q71, .inl (cI, 1000, .inl (fun _ => 0))), (q80, .inl (cI, 1000, .inl (fun _ => 0))), (q88, .inl (cI, 10, .inl (fun _ => 0))), (q96, .inl (cI, 100, .inl (fun _ => 0)))] H := hP
  have hD : va_D A [(h0, .inr (8, [.int 0, .ref q8, .ref q17, .ref q26, .ref q35, .ref q44, .ref q53, .ref q62, .ref q71, .ref q80, .int 0, .ref q88, .ref q96, .null, .int 0, .null, .null, .int 0, .int 0, .int 0, .null, .null, .int 0, .null, .null, .null])), (q8, .inl (cI, 650, .inl (fun _ => 0))), (q17, .inl (cI, 650, .inl (fun _ => 0))), (q26, .inl (cI, 650, .inl (fun _ => 0))), (q35, .inl (cI, 1000, .inl (fun _ => 0))), (q44, .inl (cI, 1000, .inl (fun _ => 0))), (q53, .inl (cI, 1000, .inl (fun _ => 0))), (q62, .inl (cI, 1000, .inl (fun _ => 0))), (q71, .inl (cI, 1000, .inl (fun _ => 0))), (q80, .inl (cI, 1000, .inl (fun _ => 0))), (q88, .inl (cI, 10, .inl (fun _ => 0))), (q96, .inl (cI, 100, .inl (fun _ => 0)))] := hD
  refine lv_aload_n hx hb dX8_init_101 rfl (lv_at hl 0 rfl) ?_
  refine lv_bipush (v := 10) hx hb dX8_init_102 (by decide +kernel) ?_
  refine va_newa (atype := .int) (a0 := (10, .inl (fun _ => 0))) (N' := 10) hx hb (hts _ k_X8_init_ac) rfl hK hP hD hS hA (fun _ => rfl) (by decide +kernel) (by decide +kernel) (Nat.le_of_ble_eq_true rfl) (Nat.le_of_ble_eq_true rfl) (Nat.le_of_ble_eq_true rfl) dX8_init_104 (fun q104 cA H hK1 hP hD hS => ?_)
  have e9 : cA = cI := q_cls hK1 hK ht
  rw [e9] at hP hD
  have hP : va_P D vwCl [(h0, .inr (8, [.int 0, .ref q8, .ref q17, .ref q26, .ref q35, .ref q44, .ref q53, .ref q62, .ref q71, .ref q80, .int 0, .ref q88, .ref q96, .null, .int 0, .null, .null, .int 0, .int 0, .int 0, .null, .null, .int 0, .null, .null, .null])), (q8, .inl (cI, 650, .inl (fun _ => 0))), (q17, .inl (cI, 650, .inl (fun _ => 0))), (q26, .inl (cI, 650, .inl (fun _ => 0))), (q35, .inl (cI, 1000, .inl (fun _ => 0))), (q44, .inl (cI, 1000, .inl (fun _ => 0))), (q53, .inl (cI, 1000, .inl (fun _ => 0))), (q62, .inl (cI, 1000, .inl (fun _ => 0))), (q71, .inl (cI, 1000, .inl (fun _ => 0))), (q80, .inl (cI, 1000, .inl (fun _ => 0))), (q88, .inl (cI, 10, .inl (fun _ => 0))), (q96, .inl (cI, 100, .inl (fun _ => 0))), (q104, .inl (cI, 10, .inl (fun _ => 0)))] H := hP
  have hD : va_D A [(h0, .inr (8, [.int 0, .ref q8, .ref q17, .ref q26, .ref q35, .ref q44, .ref q53, .ref q62, .ref q71, .ref q80, .int 0, .ref q88, .ref q96, .null, .int 0, .null, .null, .int 0, .int 0, .int 0, .null, .null, .int 0, .null, .null, .null])), (q8, .inl (cI, 650, .inl (fun _ => 0))), (q17, .inl (cI, 650, .inl (fun _ => 0))), (q26, .inl (cI, 650, .inl (fun _ => 0))), (q35, .inl (cI, 1000, .inl (fun _ => 0))), (q44, .inl (cI, 1000, .inl (fun _ => 0))), (q53, .inl (cI, 1000, .inl (fun _ => 0))), (q62, .inl (cI, 1000, .inl (fun _ => 0))), (q71, .inl (cI, 1000, .inl (fun _ => 0))), (q80, .inl (cI, 1000, .inl (fun _ => 0))), (q88, .inl (cI, 10, .inl (fun _ => 0))), (q96, .inl (cI, 100, .inl (fun _ => 0))), (q104, .inl (cI, 10, .inl (fun _ => 0)))] := hD
  refine W.widen (k := 12) (n := 8070) (by omega) (by omega) ?_
  refine va_putF (D := D) (ci := 8) (v := .ref q104) (ty := .array .int) (C := RX8) (T := TX8) (N := 26) hx hb hts u_X8_init tyX8 tyX8_ok nmX8 hown hK hP hD hS 0 rfl rfl 13 (by decide) (ref := RX8) (hts _ k_X8_init_f43) (fun _ h9 => h9) rfl hin rfl (by decide +kernel) rfl rfl (Nat.le_of_ble_eq_true rfl) dX8_init_106 (fun H locs hP hD hS => ?_)
  have hP : va_P D vwCl [(h0, .inr (8, [.int 0, .ref q8, .ref q17, .ref q26, .ref q35, .ref q44, .ref q53, .ref q62, .ref q71, .ref q80, .int 0, .ref q88, .ref q96, .ref q104, .int 0, .null, .null, .int 0, .int 0, .int 0, .null, .null, .int 0, .null, .null, .null])), (q8, .inl (cI, 650, .inl (fun _ => 0))), (q17, .inl (cI, 650, .inl (fun _ => 0))), (q26, .inl (cI, 650, .inl (fun _ => 0))), (q35, .inl (cI, 1000, .inl (fun _ => 0))), (q44, .inl (cI, 1000, .inl (fun _ => 0))), (q53, .inl (cI, 1000, .inl (fun _ => 0))), (q62, .inl (cI, 1000, .inl (fun _ => 0))), (q71, .inl (cI, 1000, .inl (fun _ => 0))), (q80, .inl (cI, 1000, .inl (fun _ => 0))), (q88, .inl (cI, 10, .inl (fun _ => 0))), (q96, .inl (cI, 100, .inl (fun _ => 0))), (q104, .inl (cI, 10, .inl (fun _ => 0)))] H := hP
  have hD : va_D A [(h0, .inr (8, [.int 0, .ref q8, .ref q17, .ref q26, .ref q35, .ref q44, .ref q53, .ref q62, .ref q71, .ref q80, .int 0, .ref q88, .ref q96, .ref q104, .int 0, .null, .null, .int 0, .int 0, .int 0, .null, .null, .int 0, .null, .null, .null])), (q8, .inl (cI, 650, .inl (fun _ => 0))), (q17, .inl (cI, 650, .inl (fun _ => 0))), (q26, .inl (cI, 650, .inl (fun _ => 0))), (q35, .inl (cI, 1000, .inl (fun _ => 0))), (q44, .inl (cI, 1000, .inl (fun _ => 0))), (q53, .inl (cI, 1000, .inl (fun _ => 0))), (q62, .inl (cI, 1000, .inl (fun _ => 0))), (q71, .inl (cI, 1000, .inl (fun _ => 0))), (q80, .inl (cI, 1000, .inl (fun _ => 0))), (q88, .inl (cI, 10, .inl (fun _ => 0))), (q96, .inl (cI, 100, .inl (fun _ => 0))), (q104, .inl (cI, 10, .inl (fun _ => 0)))] := hD
  refine lv_aload_n hx hb dX8_init_109 rfl (lv_at hl 0 rfl) ?_
  refine lv_bipush (v := 10) hx hb dX8_init_110 (by decide +kernel) ?_
  refine va_newa (atype := .int) (a0 := (10, .inl (fun _ => 0))) (N' := 10) hx hb (hts _ k_X8_init_ac) rfl hK hP hD hS hA (fun _ => rfl) (by decide +kernel) (by decide +kernel) (Nat.le_of_ble_eq_true rfl) (Nat.le_of_ble_eq_true rfl) (Nat.le_of_ble_eq_true rfl) dX8_init_112 (fun q112 cA H hK1 hP hD hS => ?_)
  have e9 : cA = cI := q_cls hK1 hK ht
  rw [e9] at hP hD
  have hP : va_P D vwCl [(h0, .inr (8, [.int 0, .ref q8, .ref q17, .ref q26, .ref q35, .ref q44, .ref q53, .ref q62, .ref q71, .ref q80, .int 0, .ref q88, .ref q96, .ref q104, .int 0, .null, .null, .int 0, .int 0, .int 0, .null, .null, .int 0, .null, .null, .null])), (q8, .inl (cI, 650, .inl (fun _ => 0))), (q17, .inl (cI, 650, .inl (fun _ => 0))), (q26, .inl (cI, 650, .inl (fun _ => 0))), (q35, .inl (cI, 1000, .inl (fun _ => 0))), (q44, .inl (cI, 1000, .inl (fun _ => 0))), (q53, .inl (cI, 1000, .inl (fun _ => 0))), (q62, .inl (cI, 1000, .inl (fun _ => 0))), (q71, .inl (cI, 1000, .inl (fun _ => 0))), (q80, .inl (cI, 1000, .inl (fun _ => 0))), (q88, .inl (cI, 10, .inl (fun _ => 0))), (q96, .inl (cI, 100, .inl (fun _ => 0))), (q104, .inl (cI, 10, .inl (fun _ => 0))), (q112, .inl (cI, 10, .inl (fun _ => 0)))] H := hP
  have hD : va_D A [(h0, .inr (8, [.int 0, .ref q8, .ref q17, .ref q26, .ref q35, .ref q44, .ref q53, .ref q62, .ref q71, .ref q80, .int 0, .ref q88, .ref q96, .ref q104, .int 0, .null, .null, .int 0, .int 0, .int 0, .null, .null, .int 0, .null, .null, .null])), (q8, .inl (cI, 650, .inl (fun _ => 0))), (q17, .inl (cI, 650, .inl (fun _ => 0))), (q26, .inl (cI, 650, .inl (fun _ => 0))), (q35, .inl (cI, 1000, .inl (fun _ => 0))), (q44, .inl (cI, 1000, .inl (fun _ => 0))), (q53, .inl (cI, 1000, .inl (fun _ => 0))), (q62, .inl (cI, 1000, .inl (fun _ => 0))), (q71, .inl (cI, 1000, .inl (fun _ => 0))), (q80, .inl (cI, 1000, .inl (fun _ => 0))), (q88, .inl (cI, 10, .inl (fun _ => 0))), (q96, .inl (cI, 100, .inl (fun _ => 0))), (q104, .inl (cI, 10, .inl (fun _ => 0))), (q112, .inl (cI, 10, .inl (fun _ => 0)))] := hD
  refine W.widen (k := 13) (n := 8080) (by omega) (by omega) ?_
  refine va_putF (D := D) (ci := 8) (v := .ref q112) (ty := .array .int) (C := RX8) (T := TX8) (N := 26) hx hb hts u_X8_init tyX8 tyX8_ok nmX8 hown hK hP hD hS 0 rfl rfl 15 (by decide) (ref := RX8) (hts _ k_X8_init_f46) (fun _ h9 => h9) rfl hin rfl (by decide +kernel) rfl rfl (Nat.le_of_ble_eq_true rfl) dX8_init_114 (fun H locs hP hD hS => ?_)
  have hP : va_P D vwCl [(h0, .inr (8, [.int 0, .ref q8, .ref q17, .ref q26, .ref q35, .ref q44, .ref q53, .ref q62, .ref q71, .ref q80, .int 0, .ref q88, .ref q96, .ref q104, .int 0, .ref q112, .null, .int 0, .int 0, .int 0, .null, .null, .int 0, .null, .null, .null])), (q8, .inl (cI, 650, .inl (fun _ => 0))), (q17, .inl (cI, 650, .inl (fun _ => 0))), (q26, .inl (cI, 650, .inl (fun _ => 0))), (q35, .inl (cI, 1000, .inl (fun _ => 0))), (q44, .inl (cI, 1000, .inl (fun _ => 0))), (q53, .inl (cI, 1000, .inl (fun _ => 0))), (q62, .inl (cI, 1000, .inl (fun _ => 0))), (q71, .inl (cI, 1000, .inl (fun _ => 0))), (q80, .inl (cI, 1000, .inl (fun _ => 0))), (q88, .inl (cI, 10, .inl (fun _ => 0))), (q96, .inl (cI, 100, .inl (fun _ => 0))), (q104, .inl (cI, 10, .inl (fun _ => 0))), (q112, .inl (cI, 10, .inl (fun _ => 0)))] H := hP
  have hD : va_D A [(h0, .inr (8, [.int 0, .ref q8, .ref q17, .ref q26, .ref q35, .ref q44, .ref q53, .ref q62, .ref q71, .ref q80, .int 0, .ref q88, .ref q96, .ref q104, .int 0, .ref q112, .null, .int 0, .int 0, .int 0, .null, .null, .int 0, .null, .null, .null])), (q8, .inl (cI, 650, .inl (fun _ => 0))), (q17, .inl (cI, 650, .inl (fun _ => 0))), (q26, .inl (cI, 650, .inl (fun _ => 0))), (q35, .inl (cI, 1000, .inl (fun _ => 0))), (q44, .inl (cI, 1000, .inl (fun _ => 0))), (q53, .inl (cI, 1000, .inl (fun _ => 0))), (q62, .inl (cI, 1000, .inl (fun _ => 0))), (q71, .inl (cI, 1000, .inl (fun _ => 0))), (q80, .inl (cI, 1000, .inl (fun _ => 0))), (q88, .inl (cI, 10, .inl (fun _ => 0))), (q96, .inl (cI, 100, .inl (fun _ => 0))), (q104, .inl (cI, 10, .inl (fun _ => 0))), (q112, .inl (cI, 10, .inl (fun _ => 0)))] := hD
  refine lv_aload_n hx hb dX8_init_117 rfl (lv_at hl 0 rfl) ?_
  refine lv_bipush (v := 120) hx hb dX8_init_118 (by decide +kernel) ?_
  refine va_newa (atype := .int) (a0 := (120, .inl (fun _ => 0))) (N' := 120) hx hb (hts _ k_X8_init_ac) rfl hK hP hD hS hA (fun _ => rfl) (by decide +kernel) (by decide +kernel) (Nat.le_of_ble_eq_true rfl) (Nat.le_of_ble_eq_true rfl) (Nat.le_of_ble_eq_true rfl) dX8_init_120 (fun q120 cA H hK1 hP hD hS => ?_)
  have e9 : cA = cI := q_cls hK1 hK ht
  rw [e9] at hP hD
  have hP : va_P D vwCl [(h0, .inr (8, [.int 0, .ref q8, .ref q17, .ref q26, .ref q35, .ref q44, .ref q53, .ref q62, .ref q71, .ref q80, .int 0, .ref q88, .ref q96, .ref q104, .int 0, .ref q112, .null, .int 0, .int 0, .int 0, .null, .null, .int 0, .null, .null, .null])), (q8, .inl (cI, 650, .inl (fun _ => 0))), (q17, .inl (cI, 650, .inl (fun _ => 0))), (q26, .inl (cI, 650, .inl (fun _ => 0))), (q35, .inl (cI, 1000, .inl (fun _ => 0))), (q44, .inl (cI, 1000, .inl (fun _ => 0))), (q53, .inl (cI, 1000, .inl (fun _ => 0))), (q62, .inl (cI, 1000, .inl (fun _ => 0))), (q71, .inl (cI, 1000, .inl (fun _ => 0))), (q80, .inl (cI, 1000, .inl (fun _ => 0))), (q88, .inl (cI, 10, .inl (fun _ => 0))), (q96, .inl (cI, 100, .inl (fun _ => 0))), (q104, .inl (cI, 10, .inl (fun _ => 0))), (q112, .inl (cI, 10, .inl (fun _ => 0))), (q120, .inl (cI, 120, .inl (fun _ => 0)))] H := hP
  have hD : va_D A [(h0, .inr (8, [.int 0, .ref q8, .ref q17, .ref q26, .ref q35, .ref q44, .ref q53, .ref q62, .ref q71, .ref q80, .int 0, .ref q88, .ref q96, .ref q104, .int 0, .ref q112, .null, .int 0, .int 0, .int 0, .null, .null, .int 0, .null, .null, .null])), (q8, .inl (cI, 650, .inl (fun _ => 0))), (q17, .inl (cI, 650, .inl (fun _ => 0))), (q26, .inl (cI, 650, .inl (fun _ => 0))), (q35, .inl (cI, 1000, .inl (fun _ => 0))), (q44, .inl (cI, 1000, .inl (fun _ => 0))), (q53, .inl (cI, 1000, .inl (fun _ => 0))), (q62, .inl (cI, 1000, .inl (fun _ => 0))), (q71, .inl (cI, 1000, .inl (fun _ => 0))), (q80, .inl (cI, 1000, .inl (fun _ => 0))), (q88, .inl (cI, 10, .inl (fun _ => 0))), (q96, .inl (cI, 100, .inl (fun _ => 0))), (q104, .inl (cI, 10, .inl (fun _ => 0))), (q112, .inl (cI, 10, .inl (fun _ => 0))), (q120, .inl (cI, 120, .inl (fun _ => 0)))] := hD
  refine W.widen (k := 14) (n := 8200) (by omega) (by omega) ?_
  refine va_putF (D := D) (ci := 8) (v := .ref q120) (ty := .array .int) (C := RX8) (T := TX8) (N := 26) hx hb hts u_X8_init tyX8 tyX8_ok nmX8 hown hK hP hD hS 0 rfl rfl 16 (by decide) (ref := RX8) (hts _ k_X8_init_f49) (fun _ h9 => h9) rfl hin rfl (by decide +kernel) rfl rfl (Nat.le_of_ble_eq_true rfl) dX8_init_122 (fun H locs hP hD hS => ?_)
  have hP : va_P D vwCl [(h0, .inr (8, [.int 0, .ref q8, .ref q17, .ref q26, .ref q35, .ref q44, .ref q53, .ref q62, .ref q71, .ref q80, .int 0, .ref q88, .ref q96, .ref q104, .int 0, .ref q112, .ref q120, .int 0, .int 0, .int 0, .null, .null, .int 0, .null, .null, .null])), (q8, .inl (cI, 650, .inl (fun _ => 0))), (q17, .inl (cI, 650, .inl (fun _ => 0))), (q26, .inl (cI, 650, .inl (fun _ => 0))), (q35, .inl (cI, 1000, .inl (fun _ => 0))), (q44, .inl (cI, 1000, .inl (fun _ => 0))), (q53, .inl (cI, 1000, .inl (fun _ => 0))), (q62, .inl (cI, 1000, .inl (fun _ => 0))), (q71, .inl (cI, 1000, .inl (fun _ => 0))), (q80, .inl (cI, 1000, .inl (fun _ => 0))), (q88, .inl (cI, 10, .inl (fun _ => 0))), (q96, .inl (cI, 100, .inl (fun _ => 0))), (q104, .inl (cI, 10, .inl (fun _ => 0))), (q112, .inl (cI, 10, .inl (fun _ => 0))), (q120, .inl (cI, 120, .inl (fun _ => 0)))] H := hP
  have hD : va_D A [(h0, .inr (8, [.int 0, .ref q8, .ref q17, .ref q26, .ref q35, .ref q44, .ref q53, .ref q62, .ref q71, .ref q80, .int 0, .ref q88, .ref q96, .ref q104, .int 0, .ref q112, .ref q120, .int 0, .int 0, .int 0, .null, .null, .int 0, .null, .null, .null])), (q8, .inl (cI, 650, .inl (fun _ => 0))), (q17, .inl (cI, 650, .inl (fun _ => 0))), (q26, .inl (cI, 650, .inl (fun _ => 0))), (q35, .inl (cI, 1000, .inl (fun _ => 0))), (q44, .inl (cI, 1000, .inl (fun _ => 0))), (q53, .inl (cI, 1000, .inl (fun _ => 0))), (q62, .inl (cI, 1000, .inl (fun _ => 0))), (q71, .inl (cI, 1000, .inl (fun _ => 0))), (q80, .inl (cI, 1000, .inl (fun _ => 0))), (q88, .inl (cI, 10, .inl (fun _ => 0))), (q96, .inl (cI, 100, .inl (fun _ => 0))), (q104, .inl (cI, 10, .inl (fun _ => 0))), (q112, .inl (cI, 10, .inl (fun _ => 0))), (q120, .inl (cI, 120, .inl (fun _ => 0)))] := hD
  refine lv_aload_n hx hb dX8_init_125 rfl (lv_at hl 0 rfl) ?_
  refine lv_bipush (v := 121) hx hb dX8_init_126 (by decide +kernel) ?_
  refine va_newa (atype := .int) (a0 := (121, .inl (fun _ => 0))) (N' := 121) hx hb (hts _ k_X8_init_ac) rfl hK hP hD hS hA (fun _ => rfl) (by decide +kernel) (by decide +kernel) (Nat.le_of_ble_eq_true rfl) (Nat.le_of_ble_eq_true rfl) (Nat.le_of_ble_eq_true rfl) dX8_init_128 (fun q128 cA H hK1 hP hD hS => ?_)
  have e9 : cA = cI := q_cls hK1 hK ht
  rw [e9] at hP hD
  have hP : va_P D vwCl [(h0, .inr (8, [.int 0, .ref q8, .ref q17, .ref q26, .ref q35, .ref q44, .ref q53, .ref q62, .ref q71, .ref q80, .int 0, .ref q88, .ref q96, .ref q104, .int 0, .ref q112, .ref q120, .int 0, .int 0, .int 0, .null, .null, .int 0, .null, .null, .null])), (q8, .inl (cI, 650, .inl (fun _ => 0))), (q17, .inl (cI, 650, .inl (fun _ => 0))), (q26, .inl (cI, 650, .inl (fun _ => 0))), (q35, .inl (cI, 1000, .inl (fun _ => 0))), (q44, .inl (cI, 1000, .inl (fun _ => 0))), (q53, .inl (cI, 1000, .inl (fun _ => 0))), (q62, .inl (cI, 1000, .inl (fun _ => 0))), (q71, .inl (cI, 1000, .inl (fun _ => 0))), (q80, .inl (cI, 1000, .inl (fun _ => 0))), (q88, .inl (cI, 10, .inl (fun _ => 0))), (q96, .inl (cI, 100, .inl (fun _ => 0))), (q104, .inl (cI, 10, .inl (fun _ => 0))), (q112, .inl (cI, 10, .inl (fun _ => 0))), (q120, .inl (cI, 120, .inl (fun _ => 0))), (q128, .inl (cI, 121, .inl (fun _ => 0)))] H := hP
  have hD : va_D A [(h0, .inr (8, [.int 0, .ref q8, .ref q17, .ref q26, .ref q35, .ref q44, .ref q53, .ref q62, .ref q71, .ref q80, .int 0, .ref q88, .ref q96, .ref q104, .int 0, .ref q112, .ref q120, .int 0, .int 0, .int 0, .null, .null, .int 0, .null, .null, .null])), (q8, .inl (cI, 650, .inl (fun _ => 0))), (q17, .inl (cI, 650, .inl (fun _ => 0))), (q26, .inl (cI, 650, .inl (fun _ => 0))), (q35, .inl (cI, 1000, .inl (fun _ => 0))), (q44, .inl (cI, 1000, .inl (fun _ => 0))), (q53, .inl (cI, 1000, .inl (fun _ => 0))), (q62, .inl (cI, 1000, .inl (fun _ => 0))), (q71, .inl (cI, 1000, .inl (fun _ => 0))), (q80, .inl (cI, 1000, .inl (fun _ => 0))), (q88, .inl (cI, 10, .inl (fun _ => 0))), (q96, .inl (cI, 100, .inl (fun _ => 0))), (q104, .inl (cI, 10, .inl (fun _ => 0))), (q112, .inl (cI, 10, .inl (fun _ => 0))), (q120, .inl (cI, 120, .inl (fun _ => 0))), (q128, .inl (cI, 121, .inl (fun _ => 0)))] := hD
  refine W.widen (k := 15) (n := 8321) (by omega) (by omega) ?_
  refine va_putF (D := D) (ci := 8) (v := .ref q128) (ty := .array .int) (C := RX8) (T := TX8) (N := 26) hx hb hts u_X8_init tyX8 tyX8_ok nmX8 hown hK hP hD hS 0 rfl rfl 20 (by decide) (ref := RX8) (hts _ k_X8_init_f52) (fun _ h9 => h9) rfl hin rfl (by decide +kernel) rfl rfl (Nat.le_of_ble_eq_true rfl) dX8_init_130 (fun H locs hP hD hS => ?_)
  have hP : va_P D vwCl [(h0, .inr (8, [.int 0, .ref q8, .ref q17, .ref q26, .ref q35, .ref q44, .ref q53, .ref q62, .ref q71, .ref q80, .int 0, .ref q88, .ref q96, .ref q104, .int 0, .ref q112, .ref q120, .int 0, .int 0, .int 0, .ref q128, .null, .int 0, .null, .null, .null])), (q8, .inl (cI, 650, .inl (fun _ => 0))), (q17, .inl (cI, 650, .inl (fun _ => 0))), (q26, .inl (cI, 650, .inl (fun _ => 0))), (q35, .inl (cI, 1000, .inl (fun _ => 0))), (q44, .inl (cI, 1000, .inl (fun _ => 0))), (q53, .inl (cI, 1000, .inl (fun _ => 0))), (q62, .inl (cI, 1000, .inl (fun _ => 0))), (q71, .inl (cI, 1000, .inl (fun _ => 0))), (q80, .inl (cI, 1000, .inl (fun _ => 0))), (q88, .inl (cI, 10, .inl (fun _ => 0))), (q96, .inl (cI, 100, .inl (fun _ => 0))), (q104, .inl (cI, 10, .inl (fun _ => 0))), (q112, .inl (cI, 10, .inl (fun _ => 0))), (q120, .inl (cI, 120, .inl (fun _ => 0))), (q128, .inl (cI, 121, .inl (fun _ => 0)))] H := hP
  have hD : va_D A [(h0, .inr (8, [.int 0, .ref q8, .ref q17, .ref q26, .ref q35, .ref q44, .ref q53, .ref q62, .ref q71, .ref q80, .int 0, .ref q88, .ref q96, .ref q104, .int 0, .ref q112, .ref q120, .int 0, .int 0, .int 0, .ref q128, .null, .int 0, .null, .null, .null])), (q8, .inl (cI, 650, .inl (fun _ => 0))), (q17, .inl (cI, 650, .inl (fun _ => 0))), (q26, .inl (cI, 650, .inl (fun _ => 0))), (q35, .inl (cI, 1000, .inl (fun _ => 0))), (q44, .inl (cI, 1000, .inl (fun _ => 0))), (q53, .inl (cI, 1000, .inl (fun _ => 0))), (q62, .inl (cI, 1000, .inl (fun _ => 0))), (q71, .inl (cI, 1000, .inl (fun _ => 0))), (q80, .inl (cI, 1000, .inl (fun _ => 0))), (q88, .inl (cI, 10, .inl (fun _ => 0))), (q96, .inl (cI, 100, .inl (fun _ => 0))), (q104, .inl (cI, 10, .inl (fun _ => 0))), (q112, .inl (cI, 10, .inl (fun _ => 0))), (q120, .inl (cI, 120, .inl (fun _ => 0))), (q128, .inl (cI, 121, .inl (fun _ => 0)))] := hD
  refine lv_aload_n hx hb dX8_init_133 rfl (lv_at hl 0 rfl) ?_
  refine lv_sipush (v := 363) hx hb dX8_init_134 (by decide +kernel) ?_
  refine va_newa (atype := .int) (a0 := (363, .inl (fun _ => 0))) (N' := 363) hx hb (hts _ k_X8_init_ac) rfl hK hP hD hS hA (fun _ => rfl) (by decide +kernel) (by decide +kernel) (Nat.le_of_ble_eq_true rfl) (Nat.le_of_ble_eq_true rfl) (Nat.le_of_ble_eq_true rfl) dX8_init_137 (fun q137 cA H hK1 hP hD hS => ?_)
  have e9 : cA = cI := q_cls hK1 hK ht
  rw [e9] at hP hD
  have hP : va_P D vwCl [(h0, .inr (8, [.int 0, .ref q8, .ref q17, .ref q26, .ref q35, .ref q44, .ref q53, .ref q62, .ref q71, .ref q80, .int 0, .ref q88, .ref q96, .ref q104, .int 0, .ref q112, .ref q120, .int 0, .int 0, .int 0, .ref q128, .null, .int 0, .null, .null, .null])), (q8, .inl (cI, 650, .inl (fun _ => 0))), (q17, .inl (cI, 650, .inl (fun _ => 0))), (q26, .inl (cI, 650, .inl (fun _ => 0))), (q35, .inl (cI, 1000, .inl (fun _ => 0))), (q44, .inl (cI, 1000, .inl (fun _ => 0))), (q53, .inl (cI, 1000, .inl (fun _ => 0))), (q62, .inl (cI, 1000, .inl (fun _ => 0))), (q71, .inl (cI, 1000, .inl (fun _ => 0))), (q80, .inl (cI, 1000, .inl (fun _ => 0))), (q88, .inl (cI, 10, .inl (fun _ => 0))), (q96, .inl (cI, 100, .inl (fun _ => 0))), (q104, .inl (cI, 10, .inl (fun _ => 0))), (q112, .inl (cI, 10, .inl (fun _ => 0))), (q120, .inl (cI, 120, .inl (fun _ => 0))), (q128, .inl (cI, 121, .inl (fun _ => 0))), (q137, .inl (cI, 363, .inl (fun _ => 0)))] H := hP
  have hD : va_D A [(h0, .inr (8, [.int 0, .ref q8, .ref q17, .ref q26, .ref q35, .ref q44, .ref q53, .ref q62, .ref q71, .ref q80, .int 0, .ref q88, .ref q96, .ref q104, .int 0, .ref q112, .ref q120, .int 0, .int 0, .int 0, .ref q128, .null, .int 0, .null, .null, .null])), (q8, .inl (cI, 650, .inl (fun _ => 0))), (q17, .inl (cI, 650, .inl (fun _ => 0))), (q26, .inl (cI, 650, .inl (fun _ => 0))), (q35, .inl (cI, 1000, .inl (fun _ => 0))), (q44, .inl (cI, 1000, .inl (fun _ => 0))), (q53, .inl (cI, 1000, .inl (fun _ => 0))), (q62, .inl (cI, 1000, .inl (fun _ => 0))), (q71, .inl (cI, 1000, .inl (fun _ => 0))), (q80, .inl (cI, 1000, .inl (fun _ => 0))), (q88, .inl (cI, 10, .inl (fun _ => 0))), (q96, .inl (cI, 100, .inl (fun _ => 0))), (q104, .inl (cI, 10, .inl (fun _ => 0))), (q112, .inl (cI, 10, .inl (fun _ => 0))), (q120, .inl (cI, 120, .inl (fun _ => 0))), (q128, .inl (cI, 121, .inl (fun _ => 0))), (q137, .inl (cI, 363, .inl (fun _ => 0)))] := hD
  refine W.widen (k := 16) (n := 8684) (by omega) (by omega) ?_
  refine va_putF (D := D) (ci := 8) (v := .ref q137) (ty := .array .int) (C := RX8) (T := TX8) (N := 26) hx hb hts u_X8_init tyX8 tyX8_ok nmX8 hown hK hP hD hS 0 rfl rfl 21 (by decide) (ref := RX8) (hts _ k_X8_init_f55) (fun _ h9 => h9) rfl hin rfl (by decide +kernel) rfl rfl (Nat.le_of_ble_eq_true rfl) dX8_init_139 (fun H locs hP hD hS => ?_)
  have hP : va_P D vwCl [(h0, .inr (8, [.int 0, .ref q8, .ref q17, .ref q26, .ref q35, .ref q44, .ref q53, .ref q62, .ref q71, .ref q80, .int 0, .ref q88, .ref q96, .ref q104, .int 0, .ref q112, .ref q120, .int 0, .int 0, .int 0, .ref q128, .ref q137, .int 0, .null, .null, .null])), (q8, .inl (cI, 650, .inl (fun _ => 0))), (q17, .inl (cI, 650, .inl (fun _ => 0))), (q26, .inl (cI, 650, .inl (fun _ => 0))), (q35, .inl (cI, 1000, .inl (fun _ => 0))), (q44, .inl (cI, 1000, .inl (fun _ => 0))), (q53, .inl (cI, 1000, .inl (fun _ => 0))), (q62, .inl (cI, 1000, .inl (fun _ => 0))), (q71, .inl (cI, 1000, .inl (fun _ => 0))), (q80, .inl (cI, 1000, .inl (fun _ => 0))), (q88, .inl (cI, 10, .inl (fun _ => 0))), (q96, .inl (cI, 100, .inl (fun _ => 0))), (q104, .inl (cI, 10, .inl (fun _ => 0))), (q112, .inl (cI, 10, .inl (fun _ => 0))), (q120, .inl (cI, 120, .inl (fun _ => 0))), (q128, .inl (cI, 121, .inl (fun _ => 0))), (q137, .inl (cI, 363, .inl (fun _ => 0)))] H := hP
  have hD : va_D A [(h0, .inr (8, [.int 0, .ref q8, .ref q17, .ref q26, .ref q35, .ref q44, .ref q53, .ref q62, .ref q71, .ref q80, .int 0, .ref q88, .ref q96, .ref q104, .int 0, .ref q112, .ref q120, .int 0, .int 0, .int 0, .ref q128, .ref q137, .int 0, .null, .null, .null])), (q8, .inl (cI, 650, .inl (fun _ => 0))), (q17, .inl (cI, 650, .inl (fun _ => 0))), (q26, .inl (cI, 650, .inl (fun _ => 0))), (q35, .inl (cI, 1000, .inl (fun _ => 0))), (q44, .inl (cI, 1000, .inl (fun _ => 0))), (q53, .inl (cI, 1000, .inl (fun _ => 0))), (q62, .inl (cI, 1000, .inl (fun _ => 0))), (q71, .inl (cI, 1000, .inl (fun _ => 0))), (q80, .inl (cI, 1000, .inl (fun _ => 0))), (q88, .inl (cI, 10, .inl (fun _ => 0))), (q96, .inl (cI, 100, .inl (fun _ => 0))), (q104, .inl (cI, 10, .inl (fun _ => 0))), (q112, .inl (cI, 10, .inl (fun _ => 0))), (q120, .inl (cI, 120, .inl (fun _ => 0))), (q128, .inl (cI, 121, .inl (fun _ => 0))), (q137, .inl (cI, 363, .inl (fun _ => 0)))] := hD
  refine lv_aload_n hx hb dX8_init_142 rfl (lv_at hl 0 rfl) ?_
  refine lv_sipush (v := 650) hx hb dX8_init_143 (by decide +kernel) ?_
  refine va_newa (atype := .int) (a0 := (650, .inl (fun _ => 0))) (N' := 650) hx hb (hts _ k_X8_init_ac) rfl hK hP hD hS hA (fun _ => rfl) (by decide +kernel) (by decide +kernel) (Nat.le_of_ble_eq_true rfl) (Nat.le_of_ble_eq_true rfl) (Nat.le_of_ble_eq_true rfl) dX8_init_146 (fun q146 cA H hK1 hP hD hS => ?_)
  have e9 : cA = cI := q_cls hK1 hK ht
  rw [e9] at hP hD
  have hP : va_P D vwCl [(h0, .inr (8, [.int 0, .ref q8, .ref q17, .ref q26, .ref q35, .ref q44, .ref q53, .ref q62, .ref q71, .ref q80, .int 0, .ref q88, .ref q96, .ref q104, .int 0, .ref q112, .ref q120, .int 0, .int 0, .int 0, .ref q128, .ref q137, .int 0, .null, .null, .null])), (q8, .inl (cI, 650, .inl (fun _ => 0))), (q17, .inl (cI, 650, .inl (fun _ => 0))), (q26, .inl (cI, 650, .inl (fun _ => 0))), (q35, .inl (cI, 1000, .inl (fun _ => 0))), (q44, .inl (cI, 1000, .inl (fun _ => 0))), (q53, .inl (cI, 1000, .inl (fun _ => 0))), (q62, .inl (cI, 1000, .inl (fun _ => 0))), (q71, .inl (cI, 1000, .inl (fun _ => 0))), (q80, .inl (cI, 1000, .inl (fun _ => 0))), (q88, .inl (cI, 10, .inl (fun _ => 0))), (q96, .inl (cI, 100, .inl (fun _ => 0))), (q104, .inl (cI, 10, .inl (fun _ => 0))), (q112, .inl (cI, 10, .inl (fun _ => 0))), (q120, .inl (cI, 120, .inl (fun _ => 0))), (q128, .inl (cI, 121, .inl (fun _ => 0))), (q137, .inl (cI, 363, .inl (fun _ => 0))), (q146, .inl (cI, 650, .inl (fun _ => 0)))] H := hP
  have hD : va_D A [(h0, .inr (8, [.int 0, .ref q8, .ref q17, .ref q26, .ref q35, .ref q44, .ref q53, .ref q62, .ref q71, .ref q80, .int 0, .ref q88, .ref q96, .ref q104, .int 0, .ref q112, .ref q120, .int 0, .int 0, .int 0, .ref q128, .ref q137, .int 0, .null, .null, .null])), (q8, .inl (cI, 650, .inl (fun _ => 0))), (q17, .inl (cI, 650, .inl (fun _ => 0))), (q26, .inl (cI, 650, .inl (fun _ => 0))), (q35, .inl (cI, 1000, .inl (fun _ => 0))), (q44, .inl (cI, 1000, .inl (fun _ => 0))), (q53, .inl (cI, 1000, .inl (fun _ => 0))), (q62, .inl (cI, 1000, .inl (fun _ => 0))), (q71, .inl (cI, 1000, .inl (fun _ => 0))), (q80, .inl (cI, 1000, .inl (fun _ => 0))), (q88, .inl (cI, 10, .inl (fun _ => 0))), (q96, .inl (cI, 100, .inl (fun _ => 0))), (q104, .inl (cI, 10, .inl (fun _ => 0))), (q112, .inl (cI, 10, .inl (fun _ => 0))), (q120, .inl (cI, 120, .inl (fun _ => 0))), (q128, .inl (cI, 121, .inl (fun _ => 0))), (q137, .inl (cI, 363, .inl (fun _ => 0))), (q146, .inl (cI, 650, .inl (fun _ => 0)))] := hD
  refine W.widen (k := 17) (n := 9334) (by omega) (by omega) ?_
  refine va_putF (D := D) (ci := 8) (v := .ref q146) (ty := .array .int) (C := RX8) (T := TX8) (N := 26) hx hb hts u_X8_init tyX8 tyX8_ok nmX8 hown hK hP hD hS 0 rfl rfl 23 (by decide) (ref := RX8) (hts _ k_X8_init_f58) (fun _ h9 => h9) rfl hin rfl (by decide +kernel) rfl rfl (Nat.le_of_ble_eq_true rfl) dX8_init_148 (fun H locs hP hD hS => ?_)
  have hP : va_P D vwCl [(h0, .inr (8, [.int 0, .ref q8, .ref q17, .ref q26, .ref q35, .ref q44, .ref q53, .ref q62, .ref q71, .ref q80, .int 0, .ref q88, .ref q96, .ref q104, .int 0, .ref q112, .ref q120, .int 0, .int 0, .int 0, .ref q128, .ref q137, .int 0, .ref q146, .null, .null])), (q8, .inl (cI, 650, .inl (fun _ => 0))), (q17, .inl (cI, 650, .inl (fun _ => 0))), (q26, .inl (cI, 650, .inl (fun _ => 0))), (q35, .inl (cI, 1000, .inl (fun _ => 0))), (q44, .inl (cI, 1000, .inl (fun _ => 0))), (q53, .inl (cI, 1000, .inl (fun _ => 0))), (q62, .inl (cI, 1000, .inl (fun _ => 0))), (q71, .inl (cI, 1000, .inl (fun _ => 0))), (q80, .inl (cI, 1000, .inl (fun _ => 0))), (q88, .inl (cI, 10, .inl (fun _ => 0))), (q96, .inl (cI, 100, .inl (fun _ => 0))), (q104, .inl (cI, 10, .inl (fun _ => 0))), (q112, .inl (cI, 10, .inl (fun _ => 0))), (q120, .inl (cI, 120, .inl (fun _ => 0))), (q128, .inl (cI, 121, .inl (fun _ => 0))), (q137, .inl (cI, 363, .inl (fun _ => 0))), (q146, .inl (cI, 650, .inl (fun _ => 0)))] H := hP
  have hD : va_D A [(h0, .inr (8, [.int 0, .ref q8, .ref q17, .ref q26, .ref q35, .ref q44, .ref q53, .ref q62, .ref q71, .ref q80, .int 0, .ref q88, .ref q96, .ref q104, .int 0, .ref q112, .ref q120, .int 0, .int 0, .int 0, .ref q128, .ref q137, .int 0, .ref q146, .null, .null])), (q8, .inl (cI, 650, .inl (fun _ => 0))), (q17, .inl (cI, 650, .inl (fun _ => 0))), (q26, .inl (cI, 650, .inl (fun _ => 0))), (q35, .inl (cI, 1000, .inl (fun _ => 0))), (q44, .inl (cI, 1000, .inl (fun _ => 0))), (q53, .inl (cI, 1000, .inl (fun _ => 0))), (q62, .inl (cI, 1000, .inl (fun _ => 0))), (q71, .inl (cI, 1000, .inl (fun _ => 0))), (q80, .inl (cI, 1000, .inl (fun _ => 0))), (q88, .inl (cI, 10, .inl (fun _ => 0))), (q96, .inl (cI, 100, .inl (fun _ => 0))), (q104, .inl (cI, 10, .inl (fun _ => 0))), (q112, .inl (cI, 10, .inl (fun _ => 0))), (q120, .inl (cI, 120, .inl (fun _ => 0))), (q128, .inl (cI, 121, .inl (fun _ => 0))), (q137, .inl (cI, 363, .inl (fun _ => 0))), (q146, .inl (cI, 650, .inl (fun _ => 0)))] := hD
  refine lv_aload_n hx hb dX8_init_151 rfl (lv_at hl 0 rfl) ?_
  refine lv_bipush (v := 6) hx hb dX8_init_152 (by decide +kernel) ?_
  refine va_newa (atype := .int) (a0 := (6, .inl (fun _ => 0))) (N' := 6) hx hb (hts _ k_X8_init_ac) rfl hK hP hD hS hA (fun _ => rfl) (by decide +kernel) (by decide +kernel) (Nat.le_of_ble_eq_true rfl) (Nat.le_of_ble_eq_true rfl) (Nat.le_of_ble_eq_true rfl) dX8_init_154 (fun q154 cA H hK1 hP hD hS => ?_)
  have e9 : cA = cI := q_cls hK1 hK ht
  rw [e9] at hP hD
  have hP : va_P D vwCl [(h0, .inr (8, [.int 0, .ref q8, .ref q17, .ref q26, .ref q35, .ref q44, .ref q53, .ref q62, .ref q71, .ref q80, .int 0, .ref q88, .ref q96, .ref q104, .int 0, .ref q112, .ref q120, .int 0, .int 0, .int 0, .ref q128, .ref q137, .int 0, .ref q146, .null, .null])), (q8, .inl (cI, 650, .inl (fun _ => 0))), (q17, .inl (cI, 650, .inl (fun _ => 0))), (q26, .inl (cI, 650, .inl (fun _ => 0))), (q35, .inl (cI, 1000, .inl (fun _ => 0))), (q44, .inl (cI, 1000, .inl (fun _ => 0))), (q53, .inl (cI, 1000, .inl (fun _ => 0))), (q62, .inl (cI, 1000, .inl (fun _ => 0))), (q71, .inl (cI, 1000, .inl (fun _ => 0))), (q80, .inl (cI, 1000, .inl (fun _ => 0))), (q88, .inl (cI, 10, .inl (fun _ => 0))), (q96, .inl (cI, 100, .inl (fun _ => 0))), (q104, .inl (cI, 10, .inl (fun _ => 0))), (q112, .inl (cI, 10, .inl (fun _ => 0))), (q120, .inl (cI, 120, .inl (fun _ => 0))), (q128, .inl (cI, 121, .inl (fun _ => 0))), (q137, .inl (cI, 363, .inl (fun _ => 0))), (q146, .inl (cI, 650, .inl (fun _ => 0))), (q154, .inl (cI, 6, .inl (fun _ => 0)))] H := hP
  have hD : va_D A [(h0, .inr (8, [.int 0, .ref q8, .ref q17, .ref q26, .ref q35, .ref q44, .ref q53, .ref q62, .ref q71, .ref q80, .int 0, .ref q88, .ref q96, .ref q104, .int 0, .ref q112, .ref q120, .int 0, .int 0, .int 0, .ref q128, .ref q137, .int 0, .ref q146, .null, .null])), (q8, .inl (cI, 650, .inl (fun _ => 0))), (q17, .inl (cI, 650, .inl (fun _ => 0))), (q26, .inl (cI, 650, .inl (fun _ => 0))), (q35, .inl (cI, 1000, .inl (fun _ => 0))), (q44, .inl (cI, 1000, .inl (fun _ => 0))), (q53, .inl (cI, 1000, .inl (fun _ => 0))), (q62, .inl (cI, 1000, .inl (fun _ => 0))), (q71, .inl (cI, 1000, .inl (fun _ => 0))), (q80, .inl (cI, 1000, .inl (fun _ => 0))), (q88, .inl (cI, 10, .inl (fun _ => 0))), (q96, .inl (cI, 100, .inl (fun _ => 0))), (q104, .inl (cI, 10, .inl (fun _ => 0))), (q112, .inl (cI, 10, .inl (fun _ => 0))), (q120, .inl (cI, 120, .inl (fun _ => 0))), (q128, .inl (cI, 121, .inl (fun _ => 0))), (q137, .inl (cI, 363, .inl (fun _ => 0))), (q146, .inl (cI, 650, .inl (fun _ => 0))), (q154, .inl (cI, 6, .inl (fun _ => 0)))] := hD
  refine W.widen (k := 18) (n := 9340) (by omega) (by omega) ?_
  refine lv_dup hx hb dX8_init_156 rfl ?_
  refine lv_iconst (v := 0) hx hb dX8_init_157 (by decide +kernel) ?_
  refine lv_bipush (v := (-2)) hx hb dX8_init_158 (by decide +kernel) ?_
  refine va_iast hx hb hK hP hD hS 18 0 rfl ht (vp_in_nI (n := 0) (by decide) (by decide)) dX8_init_160 (fun H locs hP hD hS => ?_)
  have hP : va_P D vwCl [(h0, .inr (8, [.int 0, .ref q8, .ref q17, .ref q26, .ref q35, .ref q44, .ref q53, .ref q62, .ref q71, .ref q80, .int 0, .ref q88, .ref q96, .ref q104, .int 0, .ref q112, .ref q120, .int 0, .int 0, .int 0, .ref q128, .ref q137, .int 0, .ref q146, .null, .null])), (q8, .inl (cI, 650, .inl (fun _ => 0))), (q17, .inl (cI, 650, .inl (fun _ => 0))), (q26, .inl (cI, 650, .inl (fun _ => 0))), (q35, .inl (cI, 1000, .inl (fun _ => 0))), (q44, .inl (cI, 1000, .inl (fun _ => 0))), (q53, .inl (cI, 1000, .inl (fun _ => 0))), (q62, .inl (cI, 1000, .inl (fun _ => 0))), (q71, .inl (cI, 1000, .inl (fun _ => 0))), (q80, .inl (cI, 1000, .inl (fun _ => 0))), (q88, .inl (cI, 10, .inl (fun _ => 0))), (q96, .inl (cI, 100, .inl (fun _ => 0))), (q104, .inl (cI, 10, .inl (fun _ => 0))), (q112, .inl (cI, 10, .inl (fun _ => 0))), (q120, .inl (cI, 120, .inl (fun _ => 0))), (q128, .inl (cI, 121, .inl (fun _ => 0))), (q137, .inl (cI, 363, .inl (fun _ => 0))), (q146, .inl (cI, 650, .inl (fun _ => 0))), (q154, .inl (cI, 6, .inl (upd (fun _ => 0) 0 (-2))))] H := hP
  have hD : va_D A [(h0, .inr (8, [.int 0, .ref q8, .ref q17, .ref q26, .ref q35, .ref q44, .ref q53, .ref q62, .ref q71, .ref q80, .int 0, .ref q88, .ref q96, .ref q104, .int 0, .ref q112, .ref q120, .int 0, .int 0, .int 0, .ref q128, .ref q137, .int 0, .ref q146, .null, .null])), (q8, .inl (cI, 650, .inl (fun _ => 0))), (q17, .inl (cI, 650, .inl (fun _ => 0))), (q26, .inl (cI, 650, .inl (fun _ => 0))), (q35, .inl (cI, 1000, .inl (fun _ => 0))), (q44, .inl (cI, 1000, .inl (fun _ => 0))), (q53, .inl (cI, 1000, .inl (fun _ => 0))), (q62, .inl (cI, 1000, .inl (fun _ => 0))), (q71, .inl (cI, 1000, .inl (fun _ => 0))), (q80, .inl (cI, 1000, .inl (fun _ => 0))), (q88, .inl (cI, 10, .inl (fun _ => 0))), (q96, .inl (cI, 100, .inl (fun _ => 0))), (q104, .inl (cI, 10, .inl (fun _ => 0))), (q112, .inl (cI, 10, .inl (fun _ => 0))), (q120, .inl (cI, 120, .inl (fun _ => 0))), (q128, .inl (cI, 121, .inl (fun _ => 0))), (q137, .inl (cI, 363, .inl (fun _ => 0))), (q146, .inl (cI, 650, .inl (fun _ => 0))), (q154, .inl (cI, 6, .inl (upd (fun _ => 0) 0 (-2))))] := hD
  refine lv_dup hx hb dX8_init_161 rfl ?_
  refine lv_iconst (v := 1) hx hb dX8_init_162 (by decide +kernel) ?_
  refine lv_bipush (v := (-2)) hx hb dX8_init_163 (by decide +kernel) ?_
  refine va_iast hx hb hK hP hD hS 18 0 rfl ht (vp_in_nI (n := 1) (by decide) (by decide)) dX8_init_165 (fun H locs hP hD hS => ?_)
  have hP : va_P D vwCl [(h0, .inr (8, [.int 0, .ref q8, .ref q17, .ref q26, .ref q35, .ref q44, .ref q53, .ref q62, .ref q71, .ref q80, .int 0, .ref q88, .ref q96, .ref q104, .int 0, .ref q112, .ref q120, .int 0, .int 0, .int 0, .ref q128, .ref q137, .int 0, .ref q146, .null, .null])), (q8, .inl (cI, 650, .inl (fun _ => 0))), (q17, .inl (cI, 650, .inl (fun _ => 0))), (q26, .inl (cI, 650, .inl (fun _ => 0))), (q35, .inl (cI, 1000, .inl (fun _ => 0))), (q44, .inl (cI, 1000, .inl (fun _ => 0))), (q53, .inl (cI, 1000, .inl (fun _ => 0))), (q62, .inl (cI, 1000, .inl (fun _ => 0))), (q71, .inl (cI, 1000, .inl (fun _ => 0))), (q80, .inl (cI, 1000, .inl (fun _ => 0))), (q88, .inl (cI, 10, .inl (fun _ => 0))), (q96, .inl (cI, 100, .inl (fun _ => 0))), (q104, .inl (cI, 10, .inl (fun _ => 0))), (q112, .inl (cI, 10, .inl (fun _ => 0))), (q120, .inl (cI, 120, .inl (fun _ => 0))), (q128, .inl (cI, 121, .inl (fun _ => 0))), (q137, .inl (cI, 363, .inl (fun _ => 0))), (q146, .inl (cI, 650, .inl (fun _ => 0))), (q154, .inl (cI, 6, .inl (upd (upd (fun _ => 0) 0 (-2)) 1 (-2))))] H := hP
  have hD : va_D A [(h0, .inr (8, [.int 0, .ref q8, .ref q17, .ref q26, .ref q35, .ref q44, .ref q53, .ref q62, .ref q71, .ref q80, .int 0, .ref q88, .ref q96, .ref q104, .int 0, .ref q112, .ref q120, .int 0, .int 0, .int 0, .ref q128, .ref q137, .int 0, .ref q146, .null, .null])), (q8, .inl (cI, 650, .inl (fun _ => 0))), (q17, .inl (cI, 650, .inl (fun _ => 0))), (q26, .inl (cI, 650, .inl (fun _ => 0))), (q35, .inl (cI, 1000, .inl (fun _ => 0))), (q44, .inl (cI, 1000, .inl (fun _ => 0))), (q53, .inl (cI, 1000, .inl (fun _ => 0))), (q62, .inl (cI, 1000, .inl (fun _ => 0))), (q71, .inl (cI, 1000, .inl (fun _ => 0))), (q80, .inl (cI, 1000, .inl (fun _ => 0))), (q88, .inl (cI, 10, .inl (fun _ => 0))), (q96, .inl (cI, 100, .inl (fun _ => 0))), (q104, .inl (cI, 10, .inl (fun _ => 0))), (q112, .inl (cI, 10, .inl (fun _ => 0))), (q120, .inl (cI, 120, .inl (fun _ => 0))), (q128, .inl (cI, 121, .inl (fun _ => 0))), (q137, .inl (cI, 363, .inl (fun _ => 0))), (q146, .inl (cI, 650, .inl (fun _ => 0))), (q154, .inl (cI, 6, .inl (upd (upd (fun _ => 0) 0 (-2)) 1 (-2))))] := hD
  refine lv_dup hx hb dX8_init_166 rfl ?_
  refine lv_iconst (v := 2) hx hb dX8_init_167 (by decide +kernel) ?_
  refine lv_bipush (v := (-2)) hx hb dX8_init_168 (by decide +kernel) ?_
  refine va_iast hx hb hK hP hD hS 18 0 rfl ht (vp_in_nI (n := 2) (by decide) (by decide)) dX8_init_170 (fun H locs hP hD hS => ?_)
  have hP : va_P D vwCl [(h0, .inr (8, [.int 0, .ref q8, .ref q17, .ref q26, .ref q35, .ref q44, .ref q53, .ref q62, .ref q71, .ref q80, .int 0, .ref q88, .ref q96, .ref q104, .int 0, .ref q112, .ref q120, .int 0, .int 0, .int 0, .ref q128, .ref q137, .int 0, .ref q146, .null, .null])), (q8, .inl (cI, 650, .inl (fun _ => 0))), (q17, .inl (cI, 650, .inl (fun _ => 0))), (q26, .inl (cI, 650, .inl (fun _ => 0))), (q35, .inl (cI, 1000, .inl (fun _ => 0))), (q44, .inl (cI, 1000, .inl (fun _ => 0))), (q53, .inl (cI, 1000, .inl (fun _ => 0))), (q62, .inl (cI, 1000, .inl (fun _ => 0))), (q71, .inl (cI, 1000, .inl (fun _ => 0))), (q80, .inl (cI, 1000, .inl (fun _ => 0))), (q88, .inl (cI, 10, .inl (fun _ => 0))), (q96, .inl (cI, 100, .inl (fun _ => 0))), (q104, .inl (cI, 10, .inl (fun _ => 0))), (q112, .inl (cI, 10, .inl (fun _ => 0))), (q120, .inl (cI, 120, .inl (fun _ => 0))), (q128, .inl (cI, 121, .inl (fun _ => 0))), (q137, .inl (cI, 363, .inl (fun _ => 0))), (q146, .inl (cI, 650, .inl (fun _ => 0))), (q154, .inl (cI, 6, .inl (upd (upd (upd (fun _ => 0) 0 (-2)) 1 (-2)) 2 (-2))))] H := hP
  have hD : va_D A [(h0, .inr (8, [.int 0, .ref q8, .ref q17, .ref q26, .ref q35, .ref q44, .ref q53, .ref q62, .ref q71, .ref q80, .int 0, .ref q88, .ref q96, .ref q104, .int 0, .ref q112, .ref q120, .int 0, .int 0, .int 0, .ref q128, .ref q137, .int 0, .ref q146, .null, .null])), (q8, .inl (cI, 650, .inl (fun _ => 0))), (q17, .inl (cI, 650, .inl (fun _ => 0))), (q26, .inl (cI, 650, .inl (fun _ => 0))), (q35, .inl (cI, 1000, .inl (fun _ => 0))), (q44, .inl (cI, 1000, .inl (fun _ => 0))), (q53, .inl (cI, 1000, .inl (fun _ => 0))), (q62, .inl (cI, 1000, .inl (fun _ => 0))), (q71, .inl (cI, 1000, .inl (fun _ => 0))), (q80, .inl (cI, 1000, .inl (fun _ => 0))), (q88, .inl (cI, 10, .inl (fun _ => 0))), (q96, .inl (cI, 100, .inl (fun _ => 0))), (q104, .inl (cI, 10, .inl (fun _ => 0))), (q112, .inl (cI, 10, .inl (fun _ => 0))), (q120, .inl (cI, 120, .inl (fun _ => 0))), (q128, .inl (cI, 121, .inl (fun _ => 0))), (q137, .inl (cI, 363, .inl (fun _ => 0))), (q146, .inl (cI, 650, .inl (fun _ => 0))), (q154, .inl (cI, 6, .inl (upd (upd (upd (fun _ => 0) 0 (-2)) 1 (-2)) 2 (-2))))] := hD
  refine lv_dup hx hb dX8_init_171 rfl ?_
  refine lv_iconst (v := 3) hx hb dX8_init_172 (by decide +kernel) ?_
  refine lv_bipush (v := (-2)) hx hb dX8_init_173 (by decide +kernel) ?_
  refine va_iast hx hb hK hP hD hS 18 0 rfl ht (vp_in_nI (n := 3) (by decide) (by decide)) dX8_init_175 (fun H locs hP hD hS => ?_)
  have hP : va_P D vwCl [(h0, .inr (8, [.int 0, .ref q8, .ref q17, .ref q26, .ref q35, .ref q44, .ref q53, .ref q62, .ref q71, .ref q80, .int 0, .ref q88, .ref q96, .ref q104, .int 0, .ref q112, .ref q120, .int 0, .int 0, .int 0, .ref q128, .ref q137, .int 0, .ref q146, .null, .null])), (q8, .inl (cI, 650, .inl (fun _ => 0))), (q17, .inl (cI, 650, .inl (fun _ => 0))), (q26, .inl (cI, 650, .inl (fun _ => 0))), (q35, .inl (cI, 1000, .inl (fun _ => 0))), (q44, .inl (cI, 1000, .inl (fun _ => 0))), (q53, .inl (cI, 1000, .inl (fun _ => 0))), (q62, .inl (cI, 1000, .inl (fun _ => 0))), (q71, .inl (cI, 1000, .inl (fun _ => 0))), (q80, .inl (cI, 1000, .inl (fun _ => 0))), (q88, .inl (cI, 10, .inl (fun _ => 0))), (q96, .inl (cI, 100, .inl (fun _ => 0))), (q104, .inl (cI, 10, .inl (fun _ => 0))), (q112, .inl (cI, 10, .inl (fun _ => 0))), (q120, .inl (cI, 120, .inl (fun _ => 0))), (q128, .inl (cI, 121, .inl (fun _ => 0))), (q137, .inl (cI, 363, .inl (fun _ => 0))), (q146, .inl (cI, 650, .inl (fun _ => 0))), (q154, .inl (cI, 6, .inl (upd (upd (upd (upd (fun _ => 0) 0 (-2)) 1 (-2)) 2 (-2)) 3 (-2))))] H := hP
  have hD : va_D A [(h0, .inr (8, [.int 0, .ref q8, .ref q17, .ref q26, .ref q35, .ref q44, .ref q53, .ref q62, .ref q71, .ref q80, .int 0, .ref q88, .ref q96, .ref q104, .int 0, .ref q112, .ref q120, .int 0, .int 0, .int 0, .ref q128, .ref q137, .int 0, .ref q146, .null, .null])), (q8, .inl (cI, 650, .inl (fun _ => 0))), (q17, .inl (cI, 650, .inl (fun _ => 0))), (q26, .inl (cI, 650, .inl (fun _ => 0))), (q35, .inl (cI, 1000, .inl (fun _ => 0))), (q44, .inl (cI, 1000, .inl (fun _ => 0))), (q53, .inl (cI, 1000, .inl (fun _ => 0))), (q62, .inl (cI, 1000, .inl (fun _ => 0))), (q71, .inl (cI, 1000, .inl (fun _ => 0))), (q80, .inl (cI, 1000, .inl (fun _ => 0))), (q88, .inl (cI, 10, .inl (fun _ => 0))), (q96, .inl (cI, 100, .inl (fun _ => 0))), (q104, .inl (cI, 10, .inl (fun _ => 0))), (q112, .inl (cI, 10, .inl (fun _ => 0))), (q120, .inl (cI, 120, .inl (fun _ => 0))), (q128, .inl (cI, 121, .inl (fun _ => 0))), (q137, .inl (cI, 363, .inl (fun _ => 0))), (q146, .inl (cI, 650, .inl (fun _ => 0))), (q154, .inl (cI, 6, .inl (upd (upd (upd (upd (fun _ => 0) 0 (-2)) 1 (-2)) 2 (-2)) 3 (-2))))] := hD
  refine lv_dup hx hb dX8_init_176 rfl ?_
  refine lv_iconst (v := 4) hx hb dX8_init_177 (by decide +kernel) ?_
  refine lv_bipush (v := (-2)) hx hb dX8_init_178 (by decide +kernel) ?_
  refine va_iast hx hb hK hP hD hS 18 0 rfl ht (vp_in_nI (n := 4) (by decide) (by decide)) dX8_init_180 (fun H locs hP hD hS => ?_)
  have hP : va_P D vwCl [(h0, .inr (8, [.int 0, .ref q8, .ref q17, .ref q26, .ref q35, .ref q44, .ref q53, .ref q62, .ref q71, .ref q80, .int 0, .ref q88, .ref q96, .ref q104, .int 0, .ref q112, .ref q120, .int 0, .int 0, .int 0, .ref q128, .ref q137, .int 0, .ref q146, .null, .null])), (q8, .inl (cI, 650, .inl (fun _ => 0))), (q17, .inl (cI, 650, .inl (fun _ => 0))), (q26, .inl (cI, 650, .inl (fun _ => 0))), (q35, .inl (cI, 1000, .inl (fun _ => 0))), (q44, .inl (cI, 1000, .inl (fun _ => 0))), (q53, .inl (cI, 1000, .inl (fun _ => 0))), (q62, .inl (cI, 1000, .inl (fun _ => 0))), (q71, .inl (cI, 1000, .inl (fun _ => 0))), (q80, .inl (cI, 1000, .inl (fun _ => 0))), (q88, .inl (cI, 10, .inl (fun _ => 0))), (q96, .inl (cI, 100, .inl (fun _ => 0))), (q104, .inl (cI, 10, .inl (fun _ => 0))), (q112, .inl (cI, 10, .inl (fun _ => 0))), (q120, .inl (cI, 120, .inl (fun _ => 0))), (q128, .inl (cI, 121, .inl (fun _ => 0))), (q137, .inl (cI, 363, .inl (fun _ => 0))), (q146, .inl (cI, 650, .inl (fun _ => 0))), (q154, .inl (cI, 6, .inl (upd (upd (upd (upd (upd (fun _ => 0) 0 (-2)) 1 (-2)) 2 (-2)) 3 (-2)) 4 (-2))))] H := hP
  have hD : va_D A [(h0, .inr (8, [.int 0, .ref q8, .ref q17, .ref q26, .ref q35, .ref q44, .ref q53, .ref q62, .ref q71, .ref q80, .int 0, .ref q88, .ref q96, .ref q104, .int 0, .ref q112, .ref q120, .int 0, .int 0, .int 0, .ref q128, .ref q137, .int 0, .ref q146, .null, .null])), (q8, .inl (cI, 650, .inl (fun _ => 0))), (q17, .inl (cI, 650, .inl (fun _ => 0))), (q26, .inl (cI, 650, .inl (fun _ => 0))), (q35, .inl (cI, 1000, .inl (fun _ => 0))), (q44, .inl (cI, 1000, .inl (fun _ => 0))), (q53, .inl (cI, 1000, .inl (fun _ => 0))), (q62, .inl (cI, 1000, .inl (fun _ => 0))), (q71, .inl (cI, 1000, .inl (fun _ => 0))), (q80, .inl (cI, 1000, .inl (fun _ => 0))), (q88, .inl (cI, 10, .inl (fun _ => 0))), (q96, .inl (cI, 100, .inl (fun _ => 0))), (q104, .inl (cI, 10, .inl (fun _ => 0))), (q112, .inl (cI, 10, .inl (fun _ => 0))), (q120, .inl (cI, 120, .inl (fun _ => 0))), (q128, .inl (cI, 121, .inl (fun _ => 0))), (q137, .inl (cI, 363, .inl (fun _ => 0))), (q146, .inl (cI, 650, .inl (fun _ => 0))), (q154, .inl (cI, 6, .inl (upd (upd (upd (upd (upd (fun _ => 0) 0 (-2)) 1 (-2)) 2 (-2)) 3 (-2)) 4 (-2))))] := hD
  refine lv_dup hx hb dX8_init_181 rfl ?_
  refine lv_iconst (v := 5) hx hb dX8_init_182 (by decide +kernel) ?_
  refine lv_bipush (v := (-2)) hx hb dX8_init_183 (by decide +kernel) ?_
  refine va_iast hx hb hK hP hD hS 18 0 rfl ht (vp_in_nI (n := 5) (by decide) (by decide)) dX8_init_185 (fun H locs hP hD hS => ?_)
  have hP : va_P D vwCl [(h0, .inr (8, [.int 0, .ref q8, .ref q17, .ref q26, .ref q35, .ref q44, .ref q53, .ref q62, .ref q71, .ref q80, .int 0, .ref q88, .ref q96, .ref q104, .int 0, .ref q112, .ref q120, .int 0, .int 0, .int 0, .ref q128, .ref q137, .int 0, .ref q146, .null, .null])), (q8, .inl (cI, 650, .inl (fun _ => 0))), (q17, .inl (cI, 650, .inl (fun _ => 0))), (q26, .inl (cI, 650, .inl (fun _ => 0))), (q35, .inl (cI, 1000, .inl (fun _ => 0))), (q44, .inl (cI, 1000, .inl (fun _ => 0))), (q53, .inl (cI, 1000, .inl (fun _ => 0))), (q62, .inl (cI, 1000, .inl (fun _ => 0))), (q71, .inl (cI, 1000, .inl (fun _ => 0))), (q80, .inl (cI, 1000, .inl (fun _ => 0))), (q88, .inl (cI, 10, .inl (fun _ => 0))), (q96, .inl (cI, 100, .inl (fun _ => 0))), (q104, .inl (cI, 10, .inl (fun _ => 0))), (q112, .inl (cI, 10, .inl (fun _ => 0))), (q120, .inl (cI, 120, .inl (fun _ => 0))), (q128, .inl (cI, 121, .inl (fun _ => 0))), (q137, .inl (cI, 363, .inl (fun _ => 0))), (q146, .inl (cI, 650, .inl (fun _ => 0))), (q154, .inl (cI, 6, .inl (upd (upd (upd (upd (upd (upd (fun _ => 0) 0 (-2)) 1 (-2)) 2 (-2)) 3 (-2)) 4 (-2)) 5 (-2))))] H := hP
  have hD : va_D A [(h0, .inr (8, [.int 0, .ref q8, .ref q17, .ref q26, .ref q35, .ref q44, .ref q53, .ref q62, .ref q71, .ref q80, .int 0, .ref q88, .ref q96, .ref q104, .int 0, .ref q112, .ref q120, .int 0, .int 0, .int 0, .ref q128, .ref q137, .int 0, .ref q146, .null, .null])), (q8, .inl (cI, 650, .inl (fun _ => 0))), (q17, .inl (cI, 650, .inl (fun _ => 0))), (q26, .inl (cI, 650, .inl (fun _ => 0))), (q35, .inl (cI, 1000, .inl (fun _ => 0))), (q44, .inl (cI, 1000, .inl (fun _ => 0))), (q53, .inl (cI, 1000, .inl (fun _ => 0))), (q62, .inl (cI, 1000, .inl (fun _ => 0))), (q71, .inl (cI, 1000, .inl (fun _ => 0))), (q80, .inl (cI, 1000, .inl (fun _ => 0))), (q88, .inl (cI, 10, .inl (fun _ => 0))), (q96, .inl (cI, 100, .inl (fun _ => 0))), (q104, .inl (cI, 10, .inl (fun _ => 0))), (q112, .inl (cI, 10, .inl (fun _ => 0))), (q120, .inl (cI, 120, .inl (fun _ => 0))), (q128, .inl (cI, 121, .inl (fun _ => 0))), (q137, .inl (cI, 363, .inl (fun _ => 0))), (q146, .inl (cI, 650, .inl (fun _ => 0))), (q154, .inl (cI, 6, .inl (upd (upd (upd (upd (upd (upd (fun _ => 0) 0 (-2)) 1 (-2)) 2 (-2)) 3 (-2)) 4 (-2)) 5 (-2))))] := hD
  refine va_putF (D := D) (ci := 8) (v := .ref q154) (ty := .array .int) (C := RX8) (T := TX8) (N := 26) hx hb hts u_X8_init tyX8 tyX8_ok nmX8 hown hK hP hD hS 0 rfl rfl 24 (by decide) (ref := RX8) (hts _ k_X8_init_f61) (fun _ h9 => h9) rfl hin rfl (by decide +kernel) rfl rfl (Nat.le_of_ble_eq_true rfl) dX8_init_186 (fun H locs hP hD hS => ?_)
  have hP : va_P D vwCl [(h0, .inr (8, [.int 0, .ref q8, .ref q17, .ref q26, .ref q35, .ref q44, .ref q53, .ref q62, .ref q71, .ref q80, .int 0, .ref q88, .ref q96, .ref q104, .int 0, .ref q112, .ref q120, .int 0, .int 0, .int 0, .ref q128, .ref q137, .int 0, .ref q146, .ref q154, .null])), (q8, .inl (cI, 650, .inl (fun _ => 0))), (q17, .inl (cI, 650, .inl (fun _ => 0))), (q26, .inl (cI, 650, .inl (fun _ => 0))), (q35, .inl (cI, 1000, .inl (fun _ => 0))), (q44, .inl (cI, 1000, .inl (fun _ => 0))), (q53, .inl (cI, 1000, .inl (fun _ => 0))), (q62, .inl (cI, 1000, .inl (fun _ => 0))), (q71, .inl (cI, 1000, .inl (fun _ => 0))), (q80, .inl (cI, 1000, .inl (fun _ => 0))), (q88, .inl (cI, 10, .inl (fun _ => 0))), (q96, .inl (cI, 100, .inl (fun _ => 0))), (q104, .inl (cI, 10, .inl (fun _ => 0))), (q112, .inl (cI, 10, .inl (fun _ => 0))), (q120, .inl (cI, 120, .inl (fun _ => 0))), (q128, .inl (cI, 121, .inl (fun _ => 0))), (q137, .inl (cI, 363, .inl (fun _ => 0))), (q146, .inl (cI, 650, .inl (fun _ => 0))), (q154, .inl (cI, 6, .inl (upd (upd (upd (upd (upd (upd (fun _ => 0) 0 (-2)) 1 (-2)) 2 (-2)) 3 (-2)) 4 (-2)) 5 (-2))))] H := hP
  have hD : va_D A [(h0, .inr (8, [.int 0, .ref q8, .ref q17, .ref q26, .ref q35, .ref q44, .ref q53, .ref q62, .ref q71, .ref q80, .int 0, .ref q88, .ref q96, .ref q104, .int 0, .ref q112, .ref q120, .int 0, .int 0, .int 0, .ref q128, .ref q137, .int 0, .ref q146, .ref q154, .null])), (q8, .inl (cI, 650, .inl (fun _ => 0))), (q17, .inl (cI, 650, .inl (fun _ => 0))), (q26, .inl (cI, 650, .inl (fun _ => 0))), (q35, .inl (cI, 1000, .inl (fun _ => 0))), (q44, .inl (cI, 1000, .inl (fun _ => 0))), (q53, .inl (cI, 1000, .inl (fun _ => 0))), (q62, .inl (cI, 1000, .inl (fun _ => 0))), (q71, .inl (cI, 1000, .inl (fun _ => 0))), (q80, .inl (cI, 1000, .inl (fun _ => 0))), (q88, .inl (cI, 10, .inl (fun _ => 0))), (q96, .inl (cI, 100, .inl (fun _ => 0))), (q104, .inl (cI, 10, .inl (fun _ => 0))), (q112, .inl (cI, 10, .inl (fun _ => 0))), (q120, .inl (cI, 120, .inl (fun _ => 0))), (q128, .inl (cI, 121, .inl (fun _ => 0))), (q137, .inl (cI, 363, .inl (fun _ => 0))), (q146, .inl (cI, 650, .inl (fun _ => 0))), (q154, .inl (cI, 6, .inl (upd (upd (upd (upd (upd (upd (fun _ => 0) 0 (-2)) 1 (-2)) 2 (-2)) 3 (-2)) 4 (-2)) 5 (-2))))] := hD
  refine lv_aload_n hx hb dX8_init_189 rfl (lv_at hl 0 rfl) ?_
  refine lv_sipush (v := 360) hx hb dX8_init_190 (by decide +kernel) ?_
  refine va_newa (atype := .int) (a0 := (360, .inl (fun _ => 0))) (N' := 360) hx hb (hts _ k_X8_init_ac) rfl hK hP hD hS hA (fun _ => rfl) (by decide +kernel) (by decide +kernel) (Nat.le_of_ble_eq_true rfl) (Nat.le_of_ble_eq_true rfl) (Nat.le_of_ble_eq_true rfl) dX8_init_193 (fun q193 cA H hK1 hP hD hS => ?_)
  have e9 : cA = cI := q_cls hK1 hK ht
  rw [e9] at hP hD
  have hP : va_P D vwCl [(h0, .inr (8, [.int 0, .ref q8, .ref q17, .ref q26, .ref q35, .ref q44, .ref q53, .ref q62, .ref q71, .ref q80, .int 0, .ref q88, .ref q96, .ref q104, .int 0, .ref q112, .ref q120, .int 0, .int 0, .int 0, .ref q128, .ref q137, .int 0, .ref q146, .ref q154, .null])), (q8, .inl (cI, 650, .inl (fun _ => 0))), (q17, .inl (cI, 650, .inl (fun _ => 0))), (q26, .inl (cI, 650, .inl (fun _ => 0))), (q35, .inl (cI, 1000, .inl (fun _ => 0))), (q44, .inl (cI, 1000, .inl (fun _ => 0))), (q53, .inl (cI, 1000, .inl (fun _ => 0))), (q62, .inl (cI, 1000, .inl (fun _ => 0))), (q71, .inl (cI, 1000, .inl (fun _ => 0))), (q80, .inl (cI, 1000, .inl (fun _ => 0))), (q88, .inl (cI, 10, .inl (fun _ => 0))), (q96, .inl (cI, 100, .inl (fun _ => 0))), (q104, .inl (cI, 10, .inl (fun _ => 0))), (q112, .inl (cI, 10, .inl (fun _ => 0))), (q120, .inl (cI, 120, .inl (fun _ => 0))), (q128, .inl (cI, 121, .inl (fun _ => 0))), (q137, .inl (cI, 363, .inl (fun _ => 0))), (q146, .inl (cI, 650, .inl (fun _ => 0))), (q154, .inl (cI, 6, .inl (upd (upd (upd (upd (upd (upd (fun _ => 0) 0 (-2)) 1 (-2)) 2 (-2)) 3 (-2)) 4 (-2)) 5 (-2)))), (q193, .inl (cI, 360, .inl (fun _ => 0)))] H := hP
  have hD : va_D A [(h0, .inr (8, [.int 0, .ref q8, .ref q17, .ref q26, .ref q35, .ref q44, .ref q53, .ref q62, .ref q71, .ref q80, .int 0, .ref q88, .ref q96, .ref q104, .int 0, .ref q112, .ref q120, .int 0, .int 0, .int 0, .ref q128, .ref q137, .int 0, .ref q146, .ref q154, .null])), (q8, .inl (cI, 650, .inl (fun _ => 0))), (q17, .inl (cI, 650, .inl (fun _ => 0))), (q26, .inl (cI, 650, .inl (fun _ => 0))), (q35, .inl (cI, 1000, .inl (fun _ => 0))), (q44, .inl (cI, 1000, .inl (fun _ => 0))), (q53, .inl (cI, 1000, .inl (fun _ => 0))), (q62, .inl (cI, 1000, .inl (fun _ => 0))), (q71, .inl (cI, 1000, .inl (fun _ => 0))), (q80, .inl (cI, 1000, .inl (fun _ => 0))), (q88, .inl (cI, 10, .inl (fun _ => 0))), (q96, .inl (cI, 100, .inl (fun _ => 0))), (q104, .inl (cI, 10, .inl (fun _ => 0))), (q112, .inl (cI, 10, .inl (fun _ => 0))), (q120, .inl (cI, 120, .inl (fun _ => 0))), (q128, .inl (cI, 121, .inl (fun _ => 0))), (q137, .inl (cI, 363, .inl (fun _ => 0))), (q146, .inl (cI, 650, .inl (fun _ => 0))), (q154, .inl (cI, 6, .inl (upd (upd (upd (upd (upd (upd (fun _ => 0) 0 (-2)) 1 (-2)) 2 (-2)) 3 (-2)) 4 (-2)) 5 (-2)))), (q193, .inl (cI, 360, .inl (fun _ => 0)))] := hD
  refine W.widen (k := 19) (n := 9700) (by omega) (by omega) ?_
  refine va_putF (D := D) (ci := 8) (v := .ref q193) (ty := .array .int) (C := RX8) (T := TX8) (N := 26) hx hb hts u_X8_init tyX8 tyX8_ok nmX8 hown hK hP hD hS 0 rfl rfl 25 (by decide) (ref := RX8) (hts _ k_X8_init_f64) (fun _ h9 => h9) rfl hin rfl (by decide +kernel) rfl rfl (Nat.le_of_ble_eq_true rfl) dX8_init_195 (fun H locs hP hD hS => ?_)
  have hP : va_P D vwCl [(h0, .inr (8, [.int 0, .ref q8, .ref q17, .ref q26, .ref q35, .ref q44, .ref q53, .ref q62, .ref q71, .ref q80, .int 0, .ref q88, .ref q96, .ref q104, .int 0, .ref q112, .ref q120, .int 0, .int 0, .int 0, .ref q128, .ref q137, .int 0, .ref q146, .ref q154, .ref q193])), (q8, .inl (cI, 650, .inl (fun _ => 0))), (q17, .inl (cI, 650, .inl (fun _ => 0))), (q26, .inl (cI, 650, .inl (fun _ => 0))), (q35, .inl (cI, 1000, .inl (fun _ => 0))), (q44, .inl (cI, 1000, .inl (fun _ => 0))), (q53, .inl (cI, 1000, .inl (fun _ => 0))), (q62, .inl (cI, 1000, .inl (fun _ => 0))), (q71, .inl (cI, 1000, .inl (fun _ => 0))), (q80, .inl (cI, 1000, .inl (fun _ => 0))), (q88, .inl (cI, 10, .inl (fun _ => 0))), (q96, .inl (cI, 100, .inl (fun _ => 0))), (q104, .inl (cI, 10, .inl (fun _ => 0))), (q112, .inl (cI, 10, .inl (fun _ => 0))), (q120, .inl (cI, 120, .inl (fun _ => 0))), (q128, .inl (cI, 121, .inl (fun _ => 0))), (q137, .inl (cI, 363, .inl (fun _ => 0))), (q146, .inl (cI, 650, .inl (fun _ => 0))), (q154, .inl (cI, 6, .inl (upd (upd (upd (upd (upd (upd (fun _ => 0) 0 (-2)) 1 (-2)) 2 (-2)) 3 (-2)) 4 (-2)) 5 (-2)))), (q193, .inl (cI, 360, .inl (fun _ => 0)))] H := hP
  have hD : va_D A [(h0, .inr (8, [.int 0, .ref q8, .ref q17, .ref q26, .ref q35, .ref q44, .ref q53, .ref q62, .ref q71, .ref q80, .int 0, .ref q88, .ref q96, .ref q104, .int 0, .ref q112, .ref q120, .int 0, .int 0, .int 0, .ref q128, .ref q137, .int 0, .ref q146, .ref q154, .ref q193])), (q8, .inl (cI, 650, .inl (fun _ => 0))), (q17, .inl (cI, 650, .inl (fun _ => 0))), (q26, .inl (cI, 650, .inl (fun _ => 0))), (q35, .inl (cI, 1000, .inl (fun _ => 0))), (q44, .inl (cI, 1000, .inl (fun _ => 0))), (q53, .inl (cI, 1000, .inl (fun _ => 0))), (q62, .inl (cI, 1000, .inl (fun _ => 0))), (q71, .inl (cI, 1000, .inl (fun _ => 0))), (q80, .inl (cI, 1000, .inl (fun _ => 0))), (q88, .inl (cI, 10, .inl (fun _ => 0))), (q96, .inl (cI, 100, .inl (fun _ => 0))), (q104, .inl (cI, 10, .inl (fun _ => 0))), (q112, .inl (cI, 10, .inl (fun _ => 0))), (q120, .inl (cI, 120, .inl (fun _ => 0))), (q128, .inl (cI, 121, .inl (fun _ => 0))), (q137, .inl (cI, 363, .inl (fun _ => 0))), (q146, .inl (cI, 650, .inl (fun _ => 0))), (q154, .inl (cI, 6, .inl (upd (upd (upd (upd (upd (upd (fun _ => 0) 0 (-2)) 1 (-2)) 2 (-2)) 3 (-2)) 4 (-2)) 5 (-2)))), (q193, .inl (cI, 360, .inl (fun _ => 0)))] := hD
  have hP : va_P D vwCl (p_M cI (q_ad [h0, q8, q17, q26, q35, q44, q53, q62, q71, q80, q88, q96, q104, q112, q120, q128, q137, q146, q154, q193]) m0_M) H := hP
  have hD : va_D A (p_M cI (q_ad [h0, q8, q17, q26, q35, q44, q53, q62, q71, q80, q88, q96, q104, q112, q120, q128, q137, q146, q154, q193]) m0_M) := hD
  exact W.vret hx hb hr (fun t ht9 hW => ⟨⟨(q_ad [h0, q8, q17, q26, q35, q44, q53, q62, q71, q80, q88, q96, q104, q112, q120, q128, q137, q146, q154, q193]), rfl, rfl, by rw [ht9]; exact hP, hD⟩, hS.F ht9⟩) hS.2.2 dX8_init_198 hlocks
