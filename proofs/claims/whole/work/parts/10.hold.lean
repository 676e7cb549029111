theorem gh_0 (cI cO : ClassId) (a : Nat → Nat) (σ : qM) {j : Nat} (hj : j < 6) : (p_V cI cO a σ)[94 + 2 * j]? = some (a (94 + 2 * j), .inr (1, [.int (σ (94 + 2 * j) 0), .int (σ (94 + 2 * j) 1), .int (σ (94 + 2 * j) 2), .int (σ (94 + 2 * j) 3), .int (σ (94 + 2 * j) 4), .int (σ (94 + 2 * j) 5), .ref (a (95 + 2 * j)), .int (σ (94 + 2 * j) 7)])) := match j, hj with
  | 0, _ => rfl
  | 1, _ => rfl
  | 2, _ => rfl
  | 3, _ => rfl
  | 4, _ => rfl
  | 5, _ => rfl
  | j + 6, h => absurd h (by omega)
theorem gh_1 (cI cO : ClassId) (a : Nat → Nat) (σ : qM) {j : Nat} (hj : j < 6) : (p_V cI cO a σ)[95 + 2 * j]? = some (a (95 + 2 * j), .inl (cI, 60, .inl (σ (95 + 2 * j)))) := match j, hj with
  | 0, _ => rfl
  | 1, _ => rfl
  | 2, _ => rfl
  | 3, _ => rfl
  | 4, _ => rfl
  | 5, _ => rfl
  | j + 6, h => absurd h (by omega)
theorem sh_1 (cI cO : ClassId) (a : Nat → Nat) (σ : qM) {j : Nat} (hj : j < 6) (g : Nat → Int32) : (p_V cI cO a σ).set (95 + 2 * j) (a (95 + 2 * j), .inl (cI, 60, .inl g)) = p_V cI cO a (q_wa σ (95 + 2 * j) g) := match j, hj with
  | 0, _ => rfl
  | 1, _ => rfl
  | 2, _ => rfl
  | 3, _ => rfl
  | 4, _ => rfl
  | 5, _ => rfl
  | j + 6, h => absurd h (by omega)
theorem sh_0_0 (cI cO : ClassId) (a : Nat → Nat) (σ : qM) {j : Nat} (hj : j < 6) (v : Int32) : (p_V cI cO a σ).set (94 + 2 * j) (a (94 + 2 * j), .inr (1, [.int (σ (94 + 2 * j) 0), .int (σ (94 + 2 * j) 1), .int (σ (94 + 2 * j) 2), .int (σ (94 + 2 * j) 3), .int (σ (94 + 2 * j) 4), .int (σ (94 + 2 * j) 5), .ref (a (95 + 2 * j)), .int (σ (94 + 2 * j) 7)].set 0 (.int v))) = p_V cI cO a (q_wr σ (94 + 2 * j) 0 v) := match j, hj with
  | 0, _ => rfl
  | 1, _ => rfl
  | 2, _ => rfl
  | 3, _ => rfl
  | 4, _ => rfl
  | 5, _ => rfl
  | j + 6, h => absurd h (by omega)
theorem sh_0_1 (cI cO : ClassId) (a : Nat → Nat) (σ : qM) {j : Nat} (hj : j < 6) (v : Int32) : (p_V cI cO a σ).set (94 + 2 * j) (a (94 + 2 * j), .inr (1, [.int (σ (94 + 2 * j) 0), .int (σ (94 + 2 * j) 1), .int (σ (94 + 2 * j) 2), .int (σ (94 + 2 * j) 3), .int (σ (94 + 2 * j) 4), .int (σ (94 + 2 * j) 5), .ref (a (95 + 2 * j)), .int (σ (94 + 2 * j) 7)].set 1 (.int v))) = p_V cI cO a (q_wr σ (94 + 2 * j) 1 v) := match j, hj with
  | 0, _ => rfl
  | 1, _ => rfl
  | 2, _ => rfl
  | 3, _ => rfl
  | 4, _ => rfl
  | 5, _ => rfl
  | j + 6, h => absurd h (by omega)
theorem sh_0_2 (cI cO : ClassId) (a : Nat → Nat) (σ : qM) {j : Nat} (hj : j < 6) (v : Int32) : (p_V cI cO a σ).set (94 + 2 * j) (a (94 + 2 * j), .inr (1, [.int (σ (94 + 2 * j) 0), .int (σ (94 + 2 * j) 1), .int (σ (94 + 2 * j) 2), .int (σ (94 + 2 * j) 3), .int (σ (94 + 2 * j) 4), .int (σ (94 + 2 * j) 5), .ref (a (95 + 2 * j)), .int (σ (94 + 2 * j) 7)].set 2 (.int v))) = p_V cI cO a (q_wr σ (94 + 2 * j) 2 v) := match j, hj with
  | 0, _ => rfl
  | 1, _ => rfl
  | 2, _ => rfl
  | 3, _ => rfl
  | 4, _ => rfl
  | 5, _ => rfl
  | j + 6, h => absurd h (by omega)
theorem sh_0_3 (cI cO : ClassId) (a : Nat → Nat) (σ : qM) {j : Nat} (hj : j < 6) (v : Int32) : (p_V cI cO a σ).set (94 + 2 * j) (a (94 + 2 * j), .inr (1, [.int (σ (94 + 2 * j) 0), .int (σ (94 + 2 * j) 1), .int (σ (94 + 2 * j) 2), .int (σ (94 + 2 * j) 3), .int (σ (94 + 2 * j) 4), .int (σ (94 + 2 * j) 5), .ref (a (95 + 2 * j)), .int (σ (94 + 2 * j) 7)].set 3 (.int v))) = p_V cI cO a (q_wr σ (94 + 2 * j) 3 v) := match j, hj with
  | 0, _ => rfl
  | 1, _ => rfl
  | 2, _ => rfl
  | 3, _ => rfl
  | 4, _ => rfl
  | 5, _ => rfl
  | j + 6, h => absurd h (by omega)
theorem sh_0_4 (cI cO : ClassId) (a : Nat → Nat) (σ : qM) {j : Nat} (hj : j < 6) (v : Int32) : (p_V cI cO a σ).set (94 + 2 * j) (a (94 + 2 * j), .inr (1, [.int (σ (94 + 2 * j) 0), .int (σ (94 + 2 * j) 1), .int (σ (94 + 2 * j) 2), .int (σ (94 + 2 * j) 3), .int (σ (94 + 2 * j) 4), .int (σ (94 + 2 * j) 5), .ref (a (95 + 2 * j)), .int (σ (94 + 2 * j) 7)].set 4 (.int v))) = p_V cI cO a (q_wr σ (94 + 2 * j) 4 v) := match j, hj with
  | 0, _ => rfl
  | 1, _ => rfl
  | 2, _ => rfl
  | 3, _ => rfl
  | 4, _ => rfl
  | 5, _ => rfl
  | j + 6, h => absurd h (by omega)
theorem sh_0_5 (cI cO : ClassId) (a : Nat → Nat) (σ : qM) {j : Nat} (hj : j < 6) (v : Int32) : (p_V cI cO a σ).set (94 + 2 * j) (a (94 + 2 * j), .inr (1, [.int (σ (94 + 2 * j) 0), .int (σ (94 + 2 * j) 1), .int (σ (94 + 2 * j) 2), .int (σ (94 + 2 * j) 3), .int (σ (94 + 2 * j) 4), .int (σ (94 + 2 * j) 5), .ref (a (95 + 2 * j)), .int (σ (94 + 2 * j) 7)].set 5 (.int v))) = p_V cI cO a (q_wr σ (94 + 2 * j) 5 v) := match j, hj with
  | 0, _ => rfl
  | 1, _ => rfl
  | 2, _ => rfl
  | 3, _ => rfl
  | 4, _ => rfl
  | 5, _ => rfl
  | j + 6, h => absurd h (by omega)
theorem sh_0_7 (cI cO : ClassId) (a : Nat → Nat) (σ : qM) {j : Nat} (hj : j < 6) (v : Int32) : (p_V cI cO a σ).set (94 + 2 * j) (a (94 + 2 * j), .inr (1, [.int (σ (94 + 2 * j) 0), .int (σ (94 + 2 * j) 1), .int (σ (94 + 2 * j) 2), .int (σ (94 + 2 * j) 3), .int (σ (94 + 2 * j) 4), .int (σ (94 + 2 * j) 5), .ref (a (95 + 2 * j)), .int (σ (94 + 2 * j) 7)].set 7 (.int v))) = p_V cI cO a (q_wr σ (94 + 2 * j) 7 v) := match j, hj with
  | 0, _ => rfl
  | 1, _ => rfl
  | 2, _ => rfl
  | 3, _ => rfl
  | 4, _ => rfl
  | 5, _ => rfl
  | j + 6, h => absurd h (by omega)
theorem fr_V_H (cI cO : ClassId) (a : Nat → Nat) (σ : qM) {j : Nat} (hj : j < 6) : q_Fr (p_V cI cO a σ) (p_H cI (q_sub (94 + 2 * j) a) (q_sub (94 + 2 * j) σ)) (p_H cI (q_sub (94 + 2 * j) a)) (fun τ => p_V cI cO a (q_put (94 + 2 * j) 2 σ τ)) := match j, hj with
  | 0, _ => q_fr1 ((p_V cI cO a σ).take 94) (p_H cI (q_sub 94 a) (q_sub 94 σ)) ((p_V cI cO a σ).drop 96) (p_H cI (q_sub 94 a))
  | 1, _ => q_fr1 ((p_V cI cO a σ).take 96) (p_H cI (q_sub 96 a) (q_sub 96 σ)) ((p_V cI cO a σ).drop 98) (p_H cI (q_sub 96 a))
  | 2, _ => q_fr1 ((p_V cI cO a σ).take 98) (p_H cI (q_sub 98 a) (q_sub 98 σ)) ((p_V cI cO a σ).drop 100) (p_H cI (q_sub 98 a))
  | 3, _ => q_fr1 ((p_V cI cO a σ).take 100) (p_H cI (q_sub 100 a) (q_sub 100 σ)) ((p_V cI cO a σ).drop 102) (p_H cI (q_sub 100 a))
  | 4, _ => q_fr1 ((p_V cI cO a σ).take 102) (p_H cI (q_sub 102 a) (q_sub 102 σ)) ((p_V cI cO a σ).drop 104) (p_H cI (q_sub 102 a))
  | 5, _ => q_fr1 ((p_V cI cO a σ).take 104) (p_H cI (q_sub 104 a) (q_sub 104 σ)) ((p_V cI cO a σ).drop 106) (p_H cI (q_sub 104 a))
  | j + 6, h => absurd h (by omega)
theorem fr_V_HT (cI cO : ClassId) (a : Nat → Nat) (σ : qM) {j : Nat} (hj : j < 6) : q_Fr (p_V cI cO a σ) (p_HT cI (q_sub2 2 (94 + 2 * j) 2 a) (q_sub2 2 (94 + 2 * j) 2 σ)) (p_HT cI (q_sub2 2 (94 + 2 * j) 2 a)) (fun τ => p_V cI cO a (q_put2 2 (94 + 2 * j) 7 2 σ τ)) := match j, hj with
  | 0, _ => q_frC (q_fr2 ((p_V cI cO a σ).take 2) (p_T cI (q_sub 2 a) (q_sub 2 σ)) (((p_V cI cO a σ).drop 9).take 85) (p_H cI (q_sub 94 a) (q_sub 94 σ)) ((p_V cI cO a σ).drop 96) (fun τ => p_T cI (q_sub 2 a) (q_sub 2 τ)) (fun τ => p_H cI (q_sub 94 a) τ))
  | 1, _ => q_frC (q_fr2 ((p_V cI cO a σ).take 2) (p_T cI (q_sub 2 a) (q_sub 2 σ)) (((p_V cI cO a σ).drop 9).take 87) (p_H cI (q_sub 96 a) (q_sub 96 σ)) ((p_V cI cO a σ).drop 98) (fun τ => p_T cI (q_sub 2 a) (q_sub 2 τ)) (fun τ => p_H cI (q_sub 96 a) τ))
  | 2, _ => q_frC (q_fr2 ((p_V cI cO a σ).take 2) (p_T cI (q_sub 2 a) (q_sub 2 σ)) (((p_V cI cO a σ).drop 9).take 89) (p_H cI (q_sub 98 a) (q_sub 98 σ)) ((p_V cI cO a σ).drop 100) (fun τ => p_T cI (q_sub 2 a) (q_sub 2 τ)) (fun τ => p_H cI (q_sub 98 a) τ))
  | 3, _ => q_frC (q_fr2 ((p_V cI cO a σ).take 2) (p_T cI (q_sub 2 a) (q_sub 2 σ)) (((p_V cI cO a σ).drop 9).take 91) (p_H cI (q_sub 100 a) (q_sub 100 σ)) ((p_V cI cO a σ).drop 102) (fun τ => p_T cI (q_sub 2 a) (q_sub 2 τ)) (fun τ => p_H cI (q_sub 100 a) τ))
  | 4, _ => q_frC (q_fr2 ((p_V cI cO a σ).take 2) (p_T cI (q_sub 2 a) (q_sub 2 σ)) (((p_V cI cO a σ).drop 9).take 93) (p_H cI (q_sub 102 a) (q_sub 102 σ)) ((p_V cI cO a σ).drop 104) (fun τ => p_T cI (q_sub 2 a) (q_sub 2 τ)) (fun τ => p_H cI (q_sub 102 a) τ))
  | 5, _ => q_frC (q_fr2 ((p_V cI cO a σ).take 2) (p_T cI (q_sub 2 a) (q_sub 2 σ)) (((p_V cI cO a σ).drop 9).take 95) (p_H cI (q_sub 104 a) (q_sub 104 σ)) ((p_V cI cO a σ).drop 106) (fun τ => p_T cI (q_sub 2 a) (q_sub 2 τ)) (fun τ => p_H cI (q_sub 104 a) τ))
  | j + 6, h => absurd h (by omega)
theorem q_D_sw {A : Nat → Prop} {cI : ClassId} {a : Nat → Nat} {σ σ1 : qM} (h : va_D A (p_M cI a σ)) : va_D A (p_M cI (q_sw a) σ1) := q_D_fst (w := [0, 2, 1, 3, 4, 5, 6, 7, 8, 9, 10, 11, 12, 13, 14, 15, 16, 17, 18, 19].filterMap (fun i => (p_M cI a σ)[i]?)) rfl (h.sub (ws' := [0, 2, 1, 3, 4, 5, 6, 7, 8, 9, 10, 11, 12, 13, 14, 15, 16, 17, 18, 19].filterMap (fun i => (p_M cI a σ)[i]?)) [0, 2, 1, 3, 4, 5, 6, 7, 8, 9, 10, 11, 12, 13, 14, 15, 16, 17, 18, 19] (by decide) rfl)
def q_Mew (l : Launch) (y : MethodName) (ws : List Cond) (rm : Room) (av : List Value) (D : va_G) (tys : List (ClassId × FieldType)) (pic pic2 : qM → va_W) (σ : qM) (o : qR) : Prop := ∀ (sz : Nat) (q : Int32 × qM), o = some q → Met l y ws rm (va_Pc av (q_Pre D tys (pic σ) sz)) (va_Qv (fun τ => ((0 : Int32), τ) = q) (fun τ t => va_P D vwCl (pic2 τ) t.heap) (va_A (pic σ) sz)) 0 0 (va_A (pic σ) sz)
section QSW
variable {p : Program} {l : Launch} {e : Env} {R : Room} {s : State} {m : MethodId} {args : Array Value} {below : List Frame} {meth : Method} {c : Code} {H : Heap} {locs : List Loc} {cells slots : Nat} {Q : State → Prop}
variable {cc : ByteArray} {pc : Nat} {ls : Array Slot} {st0 rest As : List Value} {D : va_G} {A : Nat → Prop} {tys : List (ClassId × FieldType)} {H0 : Heap} {α : Type} {r0 : α}
variable {own C : String} {index maxL nL n : Nat} {y : MethodName} {bytes : ByteArray} {ret : Option FieldType} {ws ws' Ts : List Cond} {rm : Room} {pic picC : qM → va_W} {σ σC : qM} {b q0 ci : Nat} {fs : List Value} {T : u_T} {N : Nat} {o : qR} {put : qM → qM} {K : Int32 → qM → Option α}
theorem x_cVw (pic pic2 : qM → va_W) (rest As : List Value) (hx : p.tables.exec = Jvm.exec) (hb : c.code = cc) (hml : c.maxLocals = nL) (hls : ls.size = nL) (hown : s.vm.findClass own = some m.cls) (hts : ∀ w ∈ Ts, w.before args s = true) (hK : va_K D vwCl tys s) (hP : va_P D vwCl (pic σ) H) (hD : ∀ σ, va_D A (pic σ)) (hS : va_S A H0 H locs) (hA : ∀ q, H0.size ≤ q → A q)
    (hst : st0 = As.reverse ++ .ref b :: rest) (hM : q_Mew l y ws rm (.ref b :: As) D tys pic pic2 σ o) (hG : GoodIn Ts (wsV own index C y ws)) (hw : ws = Cond.code y bytes maxL ret :: ws') (hrm : rm.cells = 0 ∧ rm.slots = 0) (hd : y.cls = C ∧ y.cls ≠ "java/lang/invoke/MethodHandle" ∧ y.cls ≠ "java/lang/invoke/VarHandle" ∧ (parseMethodDescriptor y.desc).map (fun d => d.parameters.length) = some n) (hR : rm.frames + 1 ≤ R.frames ∧ 8 + (maxL + 11) + rm.locals ≤ R.locals)
    (he : (pic σ)[q0]? = some (b, .inr (ci, fs))) (hc : vwCl[ci]? = some (C, T, N)) (hn : As.length = n) (hcat : (rest.map fun v => v.category).sum ≤ 8) (hf : cells ≤ R.cells ∧ slots ≤ R.slots) (hdg : decode cc pc = .ok (.invokevirtual index, 3)) (h : q_cl o (fun τ => τ) K = some r0)
    (kk : ∀ (H1 : Heap) (locs1 : List Loc) (σ1 : qM), va_P D vwCl (pic2 σ1) H1 → va_S A H0 H1 locs1 → K 0 σ1 = some r0 → W p l e R s m args below meth c H1 locs1 cells slots Q (F0 m (pc + 3) ls rest)) : W p l e R s m args below meth c H locs cells slots Q (F0 m pc ls st0) := by
  obtain ⟨qq, ho, hk0⟩ := q_cl_of h
  have hFc := q_free (w := pic σ) (fun q h => h) (hD σ) hS hA
  have hKm : ∀ U : State, U.heap = H → s.WarmedH U.vm → va_Pc (.ref b :: As) (q_Pre D tys (pic σ) H.size) (Value.ref b :: As).toArray U := q_preU hK hP (hD σ)
  refine va_callv (va_runV (As := As) (rest := rest) ⟨hx, hb, hml, hown, hts⟩ (hM H.size qq ho) (cwV n hts hG hw hrm.1 hrm.2 hd hR) ⟨q_blind, va_recv hK hP hc he, hKm⟩ rfl hn hls hst (lv_room hcat) hdg hf) hS (fun q _ h => hFc q h) hFc (fun u t H1 locs1 ht hvm hw1 hB hz1 hk1 hS1 => ?_)
  rw [ht] at hB
  refine kk H1 locs1 u hB hS1 ?_
  rw [← hw1] at hk0
  exact hk0
end QSW
theorem x_ofWw {l : Launch} {y : MethodName} {ws ws' : List Cond} {rm : Room} {av : List Value} {D : va_G} {tys : List (ClassId × FieldType)} {pic pic2 : qM → va_W} {σ : qM} {o : qR} {cc : ByteArray} {maxL : Nat} {ret : Option FieldType} (hy : plainName y.cls = true) (hw : ws = Cond.code y cc maxL ret :: ws') (hfst : ∀ σ1 σ2 : qM, (pic σ1).map (fun q => q.1) = (pic σ2).map (fun q => q.1)) (hlen : (lg_sl av).length ≤ maxL)
    (body : ∀ (p : Program) (e : Env) (s : State) (m : MethodId) (below : List Frame) (meth : Method) (c : Code) (A : Nat → Prop) (ls : Array Slot) (qq : Int32 × qM), o = some qq → p.tables.exec = Jvm.exec → c.code = cc → c.maxLocals = maxL → meth.sig.returnType = ret → meth.locks = false → s.vm.findClass y.cls = some m.cls → (∀ w ∈ ws, w.before av.toArray s = true) → va_K D vwCl tys s → va_P D vwCl (pic σ) s.heap → (∀ σ1, va_D A (pic σ1)) → (∀ q : Nat, s.heap.size ≤ q → A q) → va_S A s.heap s.heap [] → lv_has ls maxL (lv_args 0 av) →
      W p l e rm s m av.toArray below meth c s.heap [] 0 0 (MQ below (va_Qv (fun τ => ((0 : Int32), τ) = qq) (fun τ t => va_P D vwCl (pic2 τ) t.heap) A) av.toArray s 0 0 A) (F0 m 0 ls [])) : q_Mew l y ws rm av D tys pic pic2 σ o := by
  intro sz qq ho
  refine Met.ofW (cc := cc) (maxL := maxL) (ret := ret) hy hw ?_
  intro p e s m args below meth c s₁ B hml hv
  obtain ⟨rfl, hsz, hP, hK, hD0⟩ := hv
  have hts := atoms_spec (ws := ws) B.pre
  have hown : s.vm.findClass y.cls = some m.cls := findClass_of_methodNamed B.named
  subst hsz
  have hD := hD0.self (sz := s.heap.size)
  have hl := lv_entry av (n := maxL) hlen
  rw [lg_entry_eq]
  exact body p e s m below meth c (va_A (pic σ) s.heap.size) _ qq ho B.exec B.bytes hml B.returns B.notSynchronized hown hts hK hP (fun σ1 => q_D_fst (hfst σ σ1) hD) (fun q h => Or.inr h) va_S.rf hl
