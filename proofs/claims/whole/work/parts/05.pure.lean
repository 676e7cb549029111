/-! the pure methods, by program out of the decode rows -/
/-! ===== java/util/Arrays.fill([II)V: world A ===== -/
noncomputable def b_J7_fill_53178_5 (n : Nat) (go : qB) (σ : qM) (x3 x4 x5 : Int32) : qR :=
  if x5 ≤ x4 then (
  some (0, σ))
  else (
  q_wt σ 0 n x4 x3 fun s7 =>
  q_nm (x4 + 1) fun x8 =>
  go 0 s7 [x3, x8, x5])
noncomputable def D_J7_fill_53178 (n : Nat) (go : qB) : qB := fun i σ xs => if i = 0 then (match xs with | [x3, x4, x5] => b_J7_fill_53178_5 n go σ x3 x4 x5 | _ => none) else none
noncomputable def e_J7_fill_53178 (n : Nat) (go : qB) (σ : qM) (x1 : Int32) : qR :=
  q_nm (Int32.ofNat n) fun x2 =>
  go 0 σ [x1, 0, x2]
noncomputable def f_J7_fill_53178 (n : Nat) (σ : qM) (x1 : Int32) : qR := e_J7_fill_53178 n (q_lim (D_J7_fill_53178 n)) σ x1
/-! ===== VectorRounds$Tables.has(I)Z: world T ===== -/
noncomputable def f_X4_has (σ : qM) (x1 : Int32) : qR :=
  q_rd σ 1 100 x1 fun x2 =>
  if x2 = (-1) then (
  q_bo 0 (some (0, σ)))
  else (
  q_bo 1 (some (1, σ)))
/-! ===== VectorRounds$Tables.reaches(I)Z: world T ===== -/
noncomputable def f_X4_reaches (σ : qM) (x1 : Int32) : qR :=
  q_rd σ 1 100 x1 fun x2 =>
  if x2 = (-1) then (
  q_bo 0 (some (0, σ)))
  else (
  q_rd σ 1 100 x1 fun x4 =>
  if (16 : Int32) ≤ x4 then (
  q_bo 0 (some (0, σ)))
  else (
  q_bo 1 (some (1, σ))))
/-! ===== VectorRounds$Tables.enter(IIIII)V: world T ===== -/
noncomputable def f_X4_enter (σ : qM) (x1 : Int32) (x2 : Int32) (x3 : Int32) (x4 : Int32) (x5 : Int32) : qR :=
  q_rd σ 6 10 x1 fun x6 =>
  if x6 < 10 then (
  q_nm ((x1 * 10)) fun x8 =>
  q_nm ((x8 + x2)) fun x9 =>
  q_wt σ 1 100 x9 x3 fun s10 =>
  q_wt s10 2 100 x9 x4 fun s11 =>
  q_wt s11 3 100 x9 x5 fun s12 =>
  q_wt s12 4 100 x9 0 fun s13 =>
  q_nm ((x1 * 10)) fun x14 =>
  q_nm ((x14 + x6)) fun x15 =>
  q_wt s13 5 100 x15 x2 fun s16 =>
  q_nm ((x6 + 1)) fun x17 =>
  q_wt s16 6 10 x1 x17 fun s18 =>
  some (0, s18))
  else (
  some (0, σ))
/-! ===== VectorRounds$Tables.placeOf(II)I: world T ===== -/
noncomputable def b_X4_placeOf_2 (go : qB) (σ : qM) (x3 x4 x5 : Int32) : qR :=
  q_rd σ 6 10 x3 fun x6 =>
  if x6 ≤ x5 then (
  some ((-2), σ))
  else (
  q_nm ((x3 * 10)) fun x8 =>
  q_nm ((x8 + x5)) fun x9 =>
  q_rd σ 5 100 x9 fun x10 =>
  if x10 = x4 then (
  some (x5, σ))
  else (
  q_nm (x5 + 1) fun x12 =>
  go 0 σ [x3, x4, x12]))
noncomputable def D_X4_placeOf (go : qB) : qB := fun i σ xs => if i = 0 then (match xs with | [x3, x4, x5] => b_X4_placeOf_2 go σ x3 x4 x5 | _ => none) else none
noncomputable def e_X4_placeOf (go : qB) (σ : qM) (x1 : Int32) (x2 : Int32) : qR :=
  go 0 σ [x1, x2, 0]
noncomputable def f_X4_placeOf (σ : qM) (x1 : Int32) (x2 : Int32) : qR := e_X4_placeOf (q_lim (D_X4_placeOf)) σ x1 x2
/-! ===== VectorRounds$Tables.howMany(Z)I: world T ===== -/
noncomputable def b_X4_howMany_4 (go : qB) (σ : qM) (x2 x3 x4 : Int32) : qR :=
  if (100 : Int32) ≤ x4 then (
  some (x3, σ))
  else (
  if x2 = 0 then (
  q_cl (f_X4_has σ x4) (fun τ => τ) fun x8 s7 =>
  if x8 = 0 then (
  q_nm (x4 + 1) fun x10 =>
  go 0 s7 [x2, x3, x10])
  else (
  q_nm (x3 + 1) fun x11 =>
  q_nm (x4 + 1) fun x12 =>
  go 0 s7 [x2, x11, x12]))
  else (
  q_rd σ 1 100 x4 fun x13 =>
  if x13 = 16 then (
  q_nm (x3 + 1) fun x16 =>
  q_nm (x4 + 1) fun x17 =>
  go 0 σ [x2, x16, x17])
  else (
  q_nm (x4 + 1) fun x15 =>
  go 0 σ [x2, x3, x15])))
noncomputable def D_X4_howMany (go : qB) : qB := fun i σ xs => if i = 0 then (match xs with | [x2, x3, x4] => b_X4_howMany_4 go σ x2 x3 x4 | _ => none) else none
noncomputable def e_X4_howMany (go : qB) (σ : qM) (x1 : Int32) : qR :=
  go 0 σ [x1, 0, 0]
noncomputable def f_X4_howMany (σ : qM) (x1 : Int32) : qR := e_X4_howMany (q_lim (D_X4_howMany)) σ x1
/-! ===== VectorRounds$Tables.howManyDiffer(LVectorRounds$Tables;)I: world TT ===== -/
noncomputable def b_X4_howManyDiffer_4 (go : qB) (σ : qM) (x1 x2 : Int32) : qR :=
  if (100 : Int32) ≤ x2 then (
  some (x1, σ))
  else (
  q_rd σ 1 100 x2 fun x4 =>
  q_rd σ 8 100 x2 fun x5 =>
  if x4 = x5 then (
  q_rd σ 2 100 x2 fun x9 =>
  q_rd σ 9 100 x2 fun x10 =>
  if x9 = x10 then (
  q_nm (x2 + 1) fun x12 =>
  go 0 σ [x1, x12])
  else (
  q_nm (x1 + 1) fun x13 =>
  q_nm (x2 + 1) fun x14 =>
  go 0 σ [x13, x14]))
  else (
  q_nm (x1 + 1) fun x7 =>
  q_nm (x2 + 1) fun x8 =>
  go 0 σ [x7, x8]))
noncomputable def D_X4_howManyDiffer (go : qB) : qB := fun i σ xs => if i = 0 then (match xs with | [x1, x2] => b_X4_howManyDiffer_4 go σ x1 x2 | _ => none) else none
noncomputable def e_X4_howManyDiffer (go : qB) (σ : qM) : qR :=
  go 0 σ [0, 0]
noncomputable def f_X4_howManyDiffer (σ : qM) : qR := e_X4_howManyDiffer (q_lim (D_X4_howManyDiffer)) σ
/-! ===== VectorRounds$Tables.become(LVectorRounds$Tables;)V: world TT ===== -/
noncomputable def f_X4_become (σ : qM) : qR :=
  q_nm (q_wa σ 1 (va_cpy (σ 8) (σ 1) 0 0 100)) fun s1 =>
  q_nm (q_wa s1 2 (va_cpy (s1 9) (s1 2) 0 0 100)) fun s2 =>
  q_nm (q_wa s2 3 (va_cpy (s2 10) (s2 3) 0 0 100)) fun s3 =>
  q_nm (q_wa s3 4 (va_cpy (s3 11) (s3 4) 0 0 100)) fun s4 =>
  q_nm (q_wa s4 5 (va_cpy (s4 12) (s4 5) 0 0 100)) fun s5 =>
  q_nm (q_wa s5 6 (va_cpy (s5 13) (s5 6) 0 0 10)) fun s6 =>
  some (0, s6)
/-! ===== VectorRounds$Links.joining(II)I: world L ===== -/
noncomputable def f_X2_joining (σ : qM) (x1 : Int32) (x2 : Int32) : qR :=
  q_nm ((x1 * 10)) fun x3 =>
  q_nm ((x3 + x2)) fun x4 =>
  q_rd σ 5 100 x4 fun x5 =>
  q_nm ((x5 - 1)) fun x6 =>
  some (x6, σ)
/-! ===== VectorRounds$Links.add(III)I: world L ===== -/
noncomputable def f_X2_add (σ : qM) (x1 : Int32) (x2 : Int32) (x3 : Int32) : qR :=
  q_nm (σ 0 5) fun x4 =>
  q_nm (if x2 < x1 then x2 else x1) fun x5 =>
  q_wt σ 1 24 x4 x5 fun s6 =>
  q_nm (if x1 < x2 then x2 else x1) fun x7 =>
  q_wt s6 2 24 x4 x7 fun s8 =>
  q_wt s8 3 24 x4 x3 fun s9 =>
  q_wt s9 4 24 x4 1 fun s10 =>
  q_nm (s10 0 5) fun x11 =>
  q_nm ((x11 + 1)) fun x12 =>
  q_nm (q_wr s10 0 5 x12) fun s13 =>
  q_nm ((x1 * 10)) fun x14 =>
  q_nm ((x14 + x2)) fun x15 =>
  q_nm (s13 0 5) fun x16 =>
  q_wt s13 5 100 x15 x16 fun s17 =>
  q_nm ((x2 * 10)) fun x18 =>
  q_nm ((x18 + x1)) fun x19 =>
  q_nm (s17 0 5) fun x20 =>
  q_wt s17 5 100 x19 x20 fun s21 =>
  some (x4, s21)
/-! ===== VectorRounds$Links.howManyUp()I: world L ===== -/
noncomputable def b_X2_howManyUp_4 (go : qB) (σ : qM) (x1 x2 : Int32) : qR :=
  q_nm (σ 0 5) fun x3 =>
  if x3 ≤ x2 then (
  some (x1, σ))
  else (
  q_rd σ 4 24 x2 fun x5 =>
  q_nm ((x1 + x5)) fun x6 =>
  q_nm (x2 + 1) fun x7 =>
  go 0 σ [x6, x7])
noncomputable def D_X2_howManyUp (go : qB) : qB := fun i σ xs => if i = 0 then (match xs with | [x1, x2] => b_X2_howManyUp_4 go σ x1 x2 | _ => none) else none
noncomputable def e_X2_howManyUp (go : qB) (σ : qM) : qR :=
  go 0 σ [0, 0]
noncomputable def f_X2_howManyUp (σ : qM) : qR := e_X2_howManyUp (q_lim (D_X2_howManyUp)) σ
/-! ===== VectorRounds$Links.become(LVectorRounds$Links;)V: world LL ===== -/
noncomputable def f_X2_become (σ : qM) : qR :=
  q_nm (q_wa σ 1 (va_cpy (σ 7) (σ 1) 0 0 24)) fun s1 =>
  q_nm (q_wa s1 2 (va_cpy (s1 8) (s1 2) 0 0 24)) fun s2 =>
  q_nm (q_wa s2 3 (va_cpy (s2 9) (s2 3) 0 0 24)) fun s3 =>
  q_nm (q_wa s3 4 (va_cpy (s3 10) (s3 4) 0 0 24)) fun s4 =>
  q_nm (q_wa s4 5 (va_cpy (s4 11) (s4 5) 0 0 100)) fun s5 =>
  q_nm (s5 6 5) fun x6 =>
  q_nm (q_wr s5 0 5 x6) fun s7 =>
  some (0, s7)
/-! ===== VectorRounds$Network.take(III)V: world N ===== -/
noncomputable def b_X3_take_38 (σ : qM) (x5 x6 x7 : Int32) : qR :=
  q_wt σ 2 100 x5 x6 fun s14 =>
  q_wt s14 3 100 x5 x7 fun s15 =>
  some (0, s15)
noncomputable def f_X3_take (σ : qM) (x1 : Int32) (x2 : Int32) (x3 : Int32) : qR :=
  if x2 = 16 then (
  q_rd σ 2 100 x1 fun x8 =>
  if (16 : Int32) ≤ x8 then (
  b_X3_take_38 σ x1 x2 x3)
  else (
  q_nm (σ 0 7) fun x10 =>
  q_nm (σ 0 6) fun x11 =>
  q_nm ((x10 + x11)) fun x12 =>
  q_wt σ 5 100 x1 x12 fun s13 =>
  b_X3_take_38 s13 x1 x2 x3))
  else (
  b_X3_take_38 σ x1 x2 x3)
/-! ===== VectorRounds$Network.loseVia(II)V: world N ===== -/
noncomputable def b_X3_loseVia_2 (go : qB) (σ : qM) (x3 x4 x5 : Int32) : qR :=
  q_nm (σ 0 3) fun x6 =>
  if x6 ≤ x5 then (
  some (0, σ))
  else (
  q_nm ((x3 * 10)) fun x8 =>
  q_nm ((x8 + x5)) fun x9 =>
  q_cl (f_X4_reaches (q_sub 1 σ) x9) (q_put 1 7 σ) fun x11 s10 =>
  if x11 = 0 then (
  q_nm (x5 + 1) fun x13 =>
  go 0 s10 [x3, x4, x13])
  else (
  q_rd s10 3 100 x9 fun x14 =>
  if x14 = x4 then (
  q_cl (f_X3_take s10 x9 16 x4) (fun τ => τ) fun _ s17 =>
  q_rd s17 4 100 x9 fun x18 =>
  q_nm (s17 0 5) fun x19 =>
  q_nm ((x18 + x19)) fun x20 =>
  q_wt s17 4 100 x9 x20 fun s21 =>
  q_nm (x5 + 1) fun x22 =>
  go 0 s21 [x3, x4, x22])
  else (
  q_nm (x5 + 1) fun x16 =>
  go 0 s10 [x3, x4, x16])))
noncomputable def D_X3_loseVia (go : qB) : qB := fun i σ xs => if i = 0 then (match xs with | [x3, x4, x5] => b_X3_loseVia_2 go σ x3 x4 x5 | _ => none) else none
noncomputable def e_X3_loseVia (go : qB) (σ : qM) (x1 : Int32) (x2 : Int32) : qR :=
  go 0 σ [x1, x2, 0]
noncomputable def f_X3_loseVia (σ : qM) (x1 : Int32) (x2 : Int32) : qR := e_X3_loseVia (q_lim (D_X3_loseVia)) σ x1 x2
/-! ===== VectorRounds$Network.switchLink(I)V: world N ===== -/
noncomputable def f_X3_switchLink (σ : qM) (x1 : Int32) : qR :=
  q_rd σ 19 24 x1 fun x2 =>
  q_nm (((1 : Int32) - x2)) fun x3 =>
  q_wt σ 19 24 x1 x3 fun s4 =>
  q_rd s4 19 24 x1 fun x5 =>
  if x5 = 0 then (
  q_rd s4 16 24 x1 fun x7 =>
  q_rd s4 17 24 x1 fun x8 =>
  q_cl (f_X3_loseVia s4 x7 x8) (fun τ => τ) fun _ s9 =>
  q_rd s9 17 24 x1 fun x10 =>
  q_rd s9 16 24 x1 fun x11 =>
  q_cl (f_X3_loseVia s9 x10 x11) (fun τ => τ) fun _ s12 =>
  some (0, s12))
  else (
  some (0, s4))
/-! ===== VectorRounds$Network.addRouter()I: world N ===== -/
noncomputable def f_X3_addRouter (σ : qM) : qR :=
  q_nm (σ 0 3) fun x1 =>
  q_cl (f_X4_enter (q_sub 1 σ) x1 x1 0 x1 0) (q_put 1 7 σ) fun _ s2 =>
  q_nm (s2 0 3) fun x3 =>
  q_nm ((x3 + 1)) fun x4 =>
  q_nm (q_wr s2 0 3 x4) fun s5 =>
  some (x1, s5)
/-! ===== VectorRounds$Network.receive(IIIII)V: world N ===== -/
noncomputable def b_X3_receive_155 (σ : qM) (x36 x37 x38 x39 : Int32) : qR :=
  q_cl (f_X3_take σ x39 x37 x36) (fun τ => τ) fun _ s47 =>
  q_wt s47 4 100 x39 x38 fun s48 =>
  some (0, s48)
noncomputable def b_X3_receive_79 (σ : qM) (x20 x21 x22 x23 x24 : Int32) : qR :=
  q_nm (σ 0 5) fun x27 =>
  if x27 = 0 then (
  if x24 = 0 then (
  q_rd σ 3 100 x23 fun x44 =>
  if x44 = x20 then (
  q_cl (f_X3_take σ x23 x21 x20) (fun τ => τ) fun _ s46 =>
  some (0, s46))
  else (
  some (0, σ)))
  else (
  q_cl (f_X3_take σ x23 x21 x20) (fun τ => τ) fun _ s43 =>
  some (0, s43)))
  else (
  q_rd σ 4 100 x23 fun x29 =>
  if x22 ≤ x29 then (
  q_rd σ 4 100 x23 fun x31 =>
  if x22 = x31 then (
  if x24 = 0 then (
  some (0, σ))
  else (
  q_cl (f_X3_take σ x23 x21 x20) (fun τ => τ) fun _ s34 =>
  some (0, s34)))
  else (
  some (0, σ)))
  else (
  if x21 < 16 then (
  b_X3_receive_155 σ x20 x21 x22 x23)
  else (
  q_rd σ 3 100 x23 fun x40 =>
  if x40 = x20 then (
  b_X3_receive_155 σ x20 x21 x22 x23)
  else (
  some (0, σ)))))
noncomputable def b_X3_receive_78 (σ : qM) (x13 x14 x15 x16 : Int32) : qR :=
  b_X3_receive_79 σ x13 x14 x15 x16 0
noncomputable def f_X3_receive (σ : qM) (x1 : Int32) (x2 : Int32) (x3 : Int32) (x4 : Int32) (x5 : Int32) : qR :=
  q_nm ((x1 * 10)) fun x6 =>
  q_nm ((x6 + x3)) fun x7 =>
  q_cl (f_X4_has (q_sub 1 σ) x7) (q_put 1 7 σ) fun x9 s8 =>
  if x9 = 0 then (
  if (16 : Int32) ≤ x4 then (
  some (0, s8))
  else (
  q_cl (f_X4_enter (q_sub 1 s8) x1 x3 x4 x2 x5) (q_put 1 7 s8) fun _ s26 =>
  some (0, s26)))
  else (
  q_rd s8 2 100 x7 fun x11 =>
  if x11 ≤ x4 then (
  b_X3_receive_78 s8 x2 x4 x5 x7)
  else (
  q_rd s8 5 100 x7 fun x17 =>
  q_nm (s8 0 7) fun x18 =>
  if x18 ≤ x17 then (
  b_X3_receive_78 s8 x2 x4 x5 x7)
  else (
  b_X3_receive_79 s8 x2 x4 x5 x7 1)))
/-! ===== VectorRounds$Network.tell(III)V: world N ===== -/
noncomputable def b_X3_tell_3 (go : qB) (σ : qM) (x4 x5 x6 x7 : Int32) : qR :=
  q_rd σ 14 10 x4 fun x8 =>
  if x8 ≤ x7 then (
  some (0, σ))
  else (
  q_nm ((x4 * 10)) fun x10 =>
  q_nm ((x10 + x7)) fun x11 =>
  q_rd σ 13 100 x11 fun x12 =>
  q_nm ((x4 * 10)) fun x13 =>
  q_nm ((x13 + x12)) fun x14 =>
  q_rd σ 9 100 x14 fun x15 =>
  q_nm (σ 0 4) fun x16 =>
  if x16 = 0 then (
  go 1 σ [x4, x5, x6, x7, x12, x14, x15])
  else (
  q_rd σ 10 100 x14 fun x25 =>
  if x25 = x5 then (
  q_nm (σ 0 4) fun x27 =>
  if x27 = 1 then (
  q_nm (x7 + 1) fun x29 =>
  go 0 σ [x4, x5, x6, x29])
  else (
  go 1 σ [x4, x5, x6, x7, x12, x14, 16]))
  else (
  go 1 σ [x4, x5, x6, x7, x12, x14, x15])))
noncomputable def b_X3_tell_91 (go : qB) (σ : qM) (x18 x19 x20 x21 x22 x23 x24 : Int32) : qR :=
  q_nm (σ 0 8) fun x30 =>
  q_nm ((x30 + 1)) fun x31 =>
  q_nm (q_wr σ 0 8 x31) fun s32 =>
  if x22 = x19 then (
  q_nm (x21 + 1) fun x34 =>
  go 0 s32 [x18, x19, x20, x34])
  else (
  q_nm ((x24 + x20)) fun x35 =>
  q_nm (if x35 < 16 then x35 else 16) fun x36 =>
  q_rd s32 11 100 x23 fun x37 =>
  q_cl (f_X3_receive s32 x19 x18 x22 x36 x37) (fun τ => τ) fun _ s38 =>
  q_nm (x21 + 1) fun x39 =>
  go 0 s38 [x18, x19, x20, x39])
noncomputable def D_X3_tell (go : qB) : qB := fun i σ xs => if i = 0 then (match xs with | [x4, x5, x6, x7] => b_X3_tell_3 go σ x4 x5 x6 x7 | _ => none) else if i = 1 then (match xs with | [x18, x19, x20, x21, x22, x23, x24] => b_X3_tell_91 go σ x18 x19 x20 x21 x22 x23 x24 | _ => none) else none
noncomputable def e_X3_tell (go : qB) (σ : qM) (x1 : Int32) (x2 : Int32) (x3 : Int32) : qR :=
  go 0 σ [x1, x2, x3, 0]
noncomputable def f_X3_tell (σ : qM) (x1 : Int32) (x2 : Int32) (x3 : Int32) : qR := e_X3_tell (q_lim (D_X3_tell)) σ x1 x2 x3
/-! ===== VectorRounds$Network.goRound()I: world N ===== -/
noncomputable def b_X3_goRound_12 (go : qB) (σ : qM) (x4 : Int32) : qR :=
  q_nm (σ 0 3) fun x5 =>
  if x5 ≤ x4 then (
  q_cl (f_X4_become (q_sub2 7 8 1 σ)) (q_put2 7 8 7 1 σ) fun _ s7 =>
  go 1 s7 [0])
  else (
  q_nm ((x4 * 10)) fun x9 =>
  q_nm ((x9 + x4)) fun x10 =>
  q_rd σ 4 100 x10 fun x11 =>
  q_nm (σ 0 5) fun x12 =>
  q_nm (((2 : Int32) * x12)) fun x13 =>
  q_nm ((x11 + x13)) fun x14 =>
  q_wt σ 4 100 x10 x14 fun s15 =>
  q_nm (x4 + 1) fun x16 =>
  go 0 s15 [x16])
noncomputable def b_X3_goRound_62 (go : qB) (σ : qM) (x8 : Int32) : qR :=
  q_nm (σ 0 3) fun x17 =>
  if x17 ≤ x8 then (
  q_cl (f_X4_howManyDiffer (q_sub2 7 1 8 σ)) (q_put2 7 1 7 8 σ) fun x20 s19 =>
  some (x20, s19))
  else (
  go 2 σ [x8, 0])
noncomputable def b_X3_goRound_72 (go : qB) (σ : qM) (x21 x22 : Int32) : qR :=
  q_nm (σ 0 3) fun x23 =>
  if x23 ≤ x22 then (
  q_nm (x21 + 1) fun x25 =>
  go 1 σ [x25])
  else (
  q_cl (f_X2_joining (q_sub 15 σ) x21 x22) (q_put 15 6 σ) fun x27 s26 =>
  if x27 < 0 then (
  q_nm (x22 + 1) fun x29 =>
  go 2 s26 [x21, x29])
  else (
  q_rd s26 19 24 x27 fun x30 =>
  if x30 = 1 then (
  q_rd s26 18 24 x27 fun x33 =>
  q_cl (f_X3_tell s26 x21 x22 x33) (fun τ => τ) fun _ s34 =>
  q_nm (x22 + 1) fun x35 =>
  go 2 s34 [x21, x35])
  else (
  q_nm (x22 + 1) fun x32 =>
  go 2 s26 [x21, x32])))
noncomputable def D_X3_goRound (go : qB) : qB := fun i σ xs => if i = 0 then (match xs with | [x4] => b_X3_goRound_12 go σ x4 | _ => none) else if i = 1 then (match xs with | [x8] => b_X3_goRound_62 go σ x8 | _ => none) else if i = 2 then (match xs with | [x21, x22] => b_X3_goRound_72 go σ x21 x22 | _ => none) else none
noncomputable def e_X3_goRound (go : qB) (σ : qM) : qR :=
  q_nm (σ 0 7) fun x1 =>
  q_nm ((x1 + 1)) fun x2 =>
  q_nm (q_wr σ 0 7 x2) fun s3 =>
  go 0 s3 [0]
noncomputable def f_X3_goRound (σ : qM) : qR := e_X3_goRound (q_lim (D_X3_goRound)) σ
/-! ===== VectorRounds$Network.roundsToSettle()I: world N ===== -/
noncomputable def b_X3_roundsToSettle_2 (go : qB) (σ : qM) (x1 : Int32) : qR :=
  if (80 : Int32) < x1 then (
  some (81, σ))
  else (
  q_cl (f_X3_goRound σ) (fun τ => τ) fun x4 s3 =>
  if x4 = 0 then (
  some (x1, s3))
  else (
  q_nm (x1 + 1) fun x6 =>
  go 0 s3 [x6]))
noncomputable def D_X3_roundsToSettle (go : qB) : qB := fun i σ xs => if i = 0 then (match xs with | [x1] => b_X3_roundsToSettle_2 go σ x1 | _ => none) else none
noncomputable def e_X3_roundsToSettle (go : qB) (σ : qM) : qR :=
  go 0 σ [0]
noncomputable def f_X3_roundsToSettle (σ : qM) : qR := e_X3_roundsToSettle (q_lim (D_X3_roundsToSettle)) σ
/-! ===== VectorRounds$Network.become(LVectorRounds$Network;)V: world NN ===== -/
noncomputable def f_X3_become (σ : qM) : qR :=
  q_cl (f_X4_become (q_sub2 7 1 22 σ)) (q_put2 7 1 7 22 σ) fun _ s1 =>
  q_cl (f_X2_become (q_sub2 6 15 36 s1)) (q_put2 6 15 6 36 s1) fun _ s2 =>
  q_nm (s2 21 3) fun x3 =>
  q_nm (q_wr s2 0 3 x3) fun s4 =>
  q_nm (s4 21 4) fun x5 =>
  q_nm (q_wr s4 0 4 x5) fun s6 =>
  q_nm (s6 21 5) fun x7 =>
  q_nm (q_wr s6 0 5 x7) fun s8 =>
  q_nm (s8 21 6) fun x9 =>
  q_nm (q_wr s8 0 6 x9) fun s10 =>
  q_nm (s10 21 7) fun x11 =>
  q_nm (q_wr s10 0 7 x11) fun s12 =>
  q_nm (s12 21 8) fun x13 =>
  q_nm (q_wr s12 0 8 x13) fun s14 =>
  some (0, s14)
/-! ===== VectorRounds$Way.walk(LVectorRounds$Tables;II)V: world YT ===== -/
noncomputable def b_X6_walk_16 (go : qB) (σ : qM) (x5 x6 x7 : Int32) : qR :=
  q_nm (σ 0 1) fun x8 =>
  if (10 : Int32) ≤ x8 then (
  some (0, σ))
  else (
  q_nm ((x6 >>> (x7 &&& 31))) fun x10 =>
  q_nm ((x10 &&& 1)) fun x11 =>
  if x11 = 0 then (
  q_nm (σ 0 1) fun x13 =>
  q_wt σ 1 10 x13 x7 fun s14 =>
  q_nm (s14 0 1) fun x15 =>
  q_nm ((x15 + 1)) fun x16 =>
  q_nm (q_wr s14 0 1 x16) fun s17 =>
  q_nm (((1 : Int32) <<< (x7 &&& 31))) fun x18 =>
  q_nm ((x6 ||| x18)) fun x19 =>
  if x7 = x5 then (
  q_nm (q_wr s17 0 2 1) fun s30 =>
  some (0, s30))
  else (
  q_nm ((x7 * 10)) fun x21 =>
  q_nm ((x21 + x5)) fun x22 =>
  q_cl (f_X4_reaches (q_sub 2 s17) x22) (q_put 2 7 s17) fun x24 s23 =>
  if x24 = 0 then (
  q_nm (q_wr s23 0 2 0) fun s29 =>
  some (0, s29))
  else (
  q_nm ((x7 * 10)) fun x26 =>
  q_nm ((x26 + x5)) fun x27 =>
  q_rd s23 4 100 x27 fun x28 =>
  go 0 s23 [x5, x19, x28])))
  else (
  some (0, σ)))
noncomputable def D_X6_walk (go : qB) : qB := fun i σ xs => if i = 0 then (match xs with | [x5, x6, x7] => b_X6_walk_16 go σ x5 x6 x7 | _ => none) else none
noncomputable def e_X6_walk (go : qB) (σ : qM) (x1 : Int32) (x2 : Int32) : qR :=
  q_nm (q_wr σ 0 1 0) fun s3 =>
  q_nm (q_wr s3 0 2 2) fun s4 =>
  go 0 s4 [x2, 0, x1]
noncomputable def f_X6_walk (σ : qM) (x1 : Int32) (x2 : Int32) : qR := e_X6_walk (q_lim (D_X6_walk)) σ x1 x2
/-! ===== VectorRounds$Way.loopsIn(LVectorRounds$Network;)I: world YN ===== -/
noncomputable def b_X6_loopsIn_4 (go : qB) (σ : qM) (x1 x2 : Int32) : qR :=
  q_nm (σ 2 3) fun x3 =>
  if x3 ≤ x2 then (
  some (x1, σ))
  else (
  go 1 σ [x1, x2, 0])
noncomputable def b_X6_loopsIn_15 (go : qB) (σ : qM) (x5 x6 x7 : Int32) : qR :=
  q_nm (σ 2 3) fun x8 =>
  if x8 ≤ x7 then (
  q_nm (x6 + 1) fun x10 =>
  go 0 σ [x5, x10])
  else (
  q_cl (f_X6_walk (q_sub2 2 0 3 σ) x6 x7) (q_put2 2 0 7 3 σ) fun _ s11 =>
  q_nm (s11 0 2) fun x12 =>
  if x12 = 2 then (
  q_nm (x5 + 1) fun x15 =>
  q_nm (x7 + 1) fun x16 =>
  go 1 s11 [x15, x6, x16])
  else (
  q_nm (x7 + 1) fun x14 =>
  go 1 s11 [x5, x6, x14]))
noncomputable def D_X6_loopsIn (go : qB) : qB := fun i σ xs => if i = 0 then (match xs with | [x1, x2] => b_X6_loopsIn_4 go σ x1 x2 | _ => none) else if i = 1 then (match xs with | [x5, x6, x7] => b_X6_loopsIn_15 go σ x5 x6 x7 | _ => none) else none
noncomputable def e_X6_loopsIn (go : qB) (σ : qM) : qR :=
  go 0 σ [0, 0]
noncomputable def f_X6_loopsIn (σ : qM) : qR := e_X6_loopsIn (q_lim (D_X6_loopsIn)) σ
/-! ===== VectorRounds$Distances.relax(LVectorRounds$Links;I)Z: world DL ===== -/
noncomputable def f_X0_relax (σ : qM) (x1 : Int32) : qR :=
  q_rd σ 3 24 x1 fun x2 =>
  q_rd σ 4 24 x1 fun x3 =>
  q_rd σ 5 24 x1 fun x4 =>
  q_rd σ 1 10 x2 fun x5 =>
  q_nm ((x5 + x4)) fun x6 =>
  q_rd σ 1 10 x3 fun x7 =>
  if x7 ≤ x6 then (
  q_rd σ 1 10 x3 fun x9 =>
  q_nm ((x9 + x4)) fun x10 =>
  q_rd σ 1 10 x2 fun x11 =>
  if x11 ≤ x10 then (
  q_bo 0 (some (0, σ)))
  else (
  q_rd σ 1 10 x3 fun x13 =>
  q_nm ((x13 + x4)) fun x14 =>
  q_wt σ 1 10 x2 x14 fun s15 =>
  q_bo 1 (some (1, s15))))
  else (
  q_rd σ 1 10 x2 fun x16 =>
  q_nm ((x16 + x4)) fun x17 =>
  q_wt σ 1 10 x3 x17 fun s18 =>
  q_bo 1 (some (1, s18)))
/-! ===== VectorRounds$Distances.measure(LVectorRounds$Network;II)V: world DN ===== -/
noncomputable def b_X0_measure_22 (go : qB) (σ : qM) (x5 x6 x7 : Int32) : qR :=
  if (10 : Int32) ≤ x7 then (
  some (0, σ))
  else (
  if x6 = 0 then (
  some (0, σ))
  else (
  go 1 σ [x5, 0, x7, 0]))
noncomputable def b_X0_measure_40 (go : qB) (σ : qM) (x10 x11 x12 x13 : Int32) : qR :=
  q_nm (σ 17 5) fun x14 =>
  if x14 ≤ x13 then (
  q_nm (x12 + 1) fun x16 =>
  go 0 σ [x10, x11, x16])
  else (
  if x13 = x10 then (
  q_nm (x13 + 1) fun x18 =>
  go 1 σ [x10, x11, x12, x18])
  else (
  q_rd σ 21 24 x13 fun x19 =>
  if x19 = 1 then (
  q_cl (f_X0_relax (q_sub2 2 0 17 σ) x13) (q_put2 2 0 6 17 σ) fun x23 s22 =>
  if x23 = 0 then (
  q_nm (x13 + 1) fun x25 =>
  go 1 s22 [x10, x11, x12, x25])
  else (
  q_nm (x13 + 1) fun x26 =>
  go 1 s22 [x10, 1, x12, x26]))
  else (
  q_nm (x13 + 1) fun x21 =>
  go 1 σ [x10, x11, x12, x21])))
noncomputable def D_X0_measure (go : qB) : qB := fun i σ xs => if i = 0 then (match xs with | [x5, x6, x7] => b_X0_measure_22 go σ x5 x6 x7 | _ => none) else if i = 1 then (match xs with | [x10, x11, x12, x13] => b_X0_measure_40 go σ x10 x11 x12 x13 | _ => none) else none
noncomputable def e_X0_measure (go : qB) (σ : qM) (x1 : Int32) (x2 : Int32) : qR :=
  q_cl (f_J7_fill_53178 10 (q_sub 1 σ) 1000000) (q_put 1 1 σ) fun _ s3 =>
  q_wt s3 1 10 x1 0 fun s4 =>
  go 0 s4 [x2, 1, 0]
noncomputable def f_X0_measure (σ : qM) (x1 : Int32) (x2 : Int32) : qR := e_X0_measure (q_lim (D_X0_measure)) σ x1 x2
/-! ===== VectorRounds$Holder.keepEntry(LVectorRounds$Tables;II)V: world HT ===== -/
noncomputable def b_X1_keepEntry_24 (σ : qM) (x7 x8 : Int32) : qR :=
  q_bo x8 (q_nm (q_wr σ 0 1 x8) fun s9 =>
  q_rd s9 3 100 x7 fun x11 =>
  q_nm (q_wr s9 0 2 x11) fun s12 =>
  q_rd s12 4 100 x7 fun x13 =>
  q_nm (q_wr s12 0 3 x13) fun s14 =>
  q_rd s14 5 100 x7 fun x15 =>
  q_nm (q_wr s14 0 4 x15) fun s16 =>
  q_rd s16 6 100 x7 fun x17 =>
  q_nm (q_wr s16 0 5 x17) fun s18 =>
  some (0, s18))
noncomputable def f_X1_keepEntry (σ : qM) (x1 : Int32) (x2 : Int32) : qR :=
  q_nm ((x1 * 10)) fun x3 =>
  q_nm ((x3 + x2)) fun x4 =>
  q_nm (q_wr σ 0 0 1) fun s5 =>
  if x1 = x2 then (
  b_X1_keepEntry_24 s5 x4 1)
  else (
  b_X1_keepEntry_24 s5 x4 0)
/-! ===== VectorRounds$Holder.keepRow(I)V: world H ===== -/
noncomputable def f_X1_keepRow (σ : qM) (x1 : Int32) : qR :=
  q_nm (q_wr σ 0 0 2) fun s2 =>
  q_nm (q_wr s2 0 7 x1) fun s3 =>
  q_cl (f_J7_fill_53178 60 (q_sub 1 s3) 0) (q_put 1 1 s3) fun _ s4 =>
  some (0, s4)
/-! ===== VectorRounds$Tape.add(I)I: world P ===== -/
noncomputable def f_X5_add (σ : qM) (x1 : Int32) : qR :=
  q_nm (σ 0 1) fun x2 =>
  q_wt σ 1 120 x2 x1 fun s3 =>
  q_nm (s3 0 1) fun x4 =>
  q_nm ((x4 + 1)) fun x5 =>
  q_nm (q_wr s3 0 1 x5) fun s6 =>
  q_nm (s6 0 1) fun x7 =>
  some (x7, s6)
/-! ===== VectorRounds$Tape.isDigit()Z: world P ===== -/
noncomputable def f_X5_isDigit (σ : qM) : qR :=
  q_nm (σ 0 5) fun x1 =>
  q_nm (σ 0 1) fun x2 =>
  if x2 ≤ x1 then (
  q_bo 0 (some (0, σ)))
  else (
  q_nm (σ 0 5) fun x4 =>
  q_rd σ 1 120 x4 fun x5 =>
  if x5 < 48 then (
  q_bo 0 (some (0, σ)))
  else (
  q_nm (σ 0 5) fun x7 =>
  q_rd σ 1 120 x7 fun x8 =>
  if (57 : Int32) < x8 then (
  q_bo 0 (some (0, σ)))
  else (
  q_bo 1 (some (1, σ)))))
/-! ===== VectorRounds$Tape.howManyNumbers(I)I: world E ===== -/
noncomputable def f_X5_howManyNumbers (σ : qM) (x1 : Int32) : qR :=
  if x1 = 99 then (
  some (1, σ))
  else if x1 = 100 then (
  some (1, σ))
  else if x1 = 101 then (
  some ((-1), σ))
  else if x1 = 102 then (
  some ((-1), σ))
  else if x1 = 103 then (
  some ((-1), σ))
  else if x1 = 104 then (
  some (1, σ))
  else if x1 = 105 then (
  some ((-1), σ))
  else if x1 = 106 then (
  some ((-1), σ))
  else if x1 = 107 then (
  some ((-1), σ))
  else if x1 = 108 then (
  some (3, σ))
  else if x1 = 109 then (
  some ((-1), σ))
  else if x1 = 110 then (
  some (0, σ))
  else if x1 = 111 then (
  some ((-1), σ))
  else if x1 = 112 then (
  some ((-1), σ))
  else if x1 = 113 then (
  some (1, σ))
  else if x1 = 114 then (
  some (1, σ))
  else if x1 = 115 then (
  some ((-1), σ))
  else if x1 = 116 then (
  some ((-1), σ))
  else if x1 = 117 then (
  some (1, σ))
  else if x1 = 118 then (
  some ((-1), σ))
  else if x1 = 119 then (
  some (2, σ))
  else (
  some ((-1), σ))
/-! ===== VectorRounds$Tape.readNumber(I)Z: world P ===== -/
noncomputable def f_X5_readNumber (σ : qM) (x1 : Int32) : qR :=
  q_nm (σ 0 5) fun x2 =>
  q_nm (σ 0 1) fun x3 =>
  if x3 ≤ x2 then (
  q_bo 0 (some (0, σ)))
  else (
  q_nm (σ 0 5) fun x5 =>
  q_rd σ 1 120 x5 fun x6 =>
  if x6 = 32 then (
  q_nm (σ 0 5) fun x8 =>
  q_nm ((x8 + 1)) fun x9 =>
  q_nm (q_wr σ 0 5 x9) fun s10 =>
  q_cl (f_X5_isDigit s10) (fun τ => τ) fun x12 s11 =>
  if x12 = 0 then (
  q_bo 0 (some (0, s11)))
  else (
  q_nm (s11 0 5) fun x14 =>
  q_rd s11 1 120 x14 fun x15 =>
  q_nm ((x15 - 48)) fun x16 =>
  q_wt s11 3 360 x1 x16 fun s17 =>
  q_nm (s17 0 5) fun x18 =>
  q_nm ((x18 + 1)) fun x19 =>
  q_nm (q_wr s17 0 5 x19) fun s20 =>
  q_cl (f_X5_isDigit s20) (fun τ => τ) fun x22 s21 =>
  if x22 = 0 then (
  q_bo 1 (some (1, s21)))
  else (
  q_rd s21 3 360 x1 fun x24 =>
  q_nm ((x24 * 10)) fun x25 =>
  q_nm (s21 0 5) fun x26 =>
  q_rd s21 1 120 x26 fun x27 =>
  q_nm ((x25 + x27)) fun x28 =>
  q_nm ((x28 - 48)) fun x29 =>
  q_wt s21 3 360 x1 x29 fun s30 =>
  q_nm (s30 0 5) fun x31 =>
  q_nm ((x31 + 1)) fun x32 =>
  q_nm (q_wr s30 0 5 x32) fun s33 =>
  q_bo 1 (some (1, s33)))))
  else (
  q_bo 0 (some (0, σ))))
/-! ===== VectorRounds$Tape.readLine()Z: world P ===== -/
noncomputable def b_X5_readLine_62 (go : qB) (σ : qM) (x16 x17 : Int32) : qR :=
  if x16 ≤ x17 then (
  q_bo 1 (some (1, σ)))
  else (
  q_nm (σ 0 4) fun x19 =>
  q_nm (((3 : Int32) * x19)) fun x20 =>
  q_nm ((x20 + x17)) fun x21 =>
  q_cl (f_X5_readNumber σ x21) (fun τ => τ) fun x23 s22 =>
  if x23 = 0 then (
  q_bo 0 (some (0, s22)))
  else (
  q_nm (x17 + 1) fun x25 =>
  go 0 s22 [x16, x25]))
noncomputable def D_X5_readLine (go : qB) : qB := fun i σ xs => if i = 0 then (match xs with | [x16, x17] => b_X5_readLine_62 go σ x16 x17 | _ => none) else none
noncomputable def e_X5_readLine (go : qB) (σ : qM) : qR :=
  q_nm (σ 0 5) fun x1 =>
  q_nm (σ 0 1) fun x2 =>
  if x1 < x2 then (
  q_nm (σ 0 5) fun x4 =>
  q_rd σ 1 120 x4 fun x5 =>
  q_cl (f_X5_howManyNumbers σ x5) (fun _ => σ) fun x7 s6 =>
  if (0 : Int32) ≤ x7 then (
  q_nm (s6 0 4) fun x9 =>
  q_nm (s6 0 5) fun x10 =>
  q_rd s6 1 120 x10 fun x11 =>
  q_wt s6 2 120 x9 x11 fun s12 =>
  q_nm (s12 0 5) fun x13 =>
  q_nm ((x13 + 1)) fun x14 =>
  q_nm (q_wr s12 0 5 x14) fun s15 =>
  go 0 s15 [x7, 0])
  else (
  q_bo 0 (some (0, s6))))
  else (
  q_bo 0 (some (0, σ)))
noncomputable def f_X5_readLine (σ : qM) : qR := e_X5_readLine (q_lim (D_X5_readLine)) σ
/-! ===== VectorRounds$Tape.readLines()I: world P ===== -/
noncomputable def b_X5_readLines_12 (go : qB) (σ : qM) (x3 : Int32) : qR :=
  if (120 : Int32) ≤ x3 then (
  q_nm (σ 0 5) fun x5 =>
  some (x5, σ))
  else (
  q_cl (f_X5_readLine σ) (fun τ => τ) fun x7 s6 =>
  if x7 = 0 then (
  q_nm (s6 0 5) fun x23 =>
  some (x23, s6))
  else (
  q_nm (s6 0 4) fun x9 =>
  q_nm ((x9 + 1)) fun x10 =>
  q_nm (q_wr s6 0 4 x10) fun s11 =>
  q_nm (s11 0 5) fun x12 =>
  q_nm (s11 0 1) fun x13 =>
  if x12 = x13 then (
  some ((-1), s11))
  else (
  q_nm (s11 0 5) fun x15 =>
  q_rd s11 1 120 x15 fun x16 =>
  if x16 = 59 then (
  q_nm (s11 0 5) fun x18 =>
  q_nm ((x18 + 1)) fun x19 =>
  q_nm (q_wr s11 0 5 x19) fun s20 =>
  q_nm (x3 + 1) fun x21 =>
  go 0 s20 [x21])
  else (
  q_nm (s11 0 5) fun x22 =>
  some (x22, s11)))))
noncomputable def D_X5_readLines (go : qB) : qB := fun i σ xs => if i = 0 then (match xs with | [x3] => b_X5_readLines_12 go σ x3 | _ => none) else none
noncomputable def e_X5_readLines (go : qB) (σ : qM) : qR :=
  q_nm (q_wr σ 0 4 0) fun s1 =>
  q_nm (q_wr s1 0 5 0) fun s2 =>
  go 0 s2 [0]
noncomputable def f_X5_readLines (σ : qM) : qR := e_X5_readLines (q_lim (D_X5_readLines)) σ
/-! ===== VectorRounds.noRouter(I)Z: world V ===== -/
noncomputable def f_X7_noRouter (σ : qM) (x1 : Int32) : qR :=
  if x1 < 0 then (
  q_bo 1 (some (1, σ)))
  else (
  q_nm (σ 1 3) fun x3 =>
  if x1 < x3 then (
  q_bo 0 (some (0, σ)))
  else (
  q_bo 1 (some (1, σ))))
/-! ===== VectorRounds.noLink(I)Z: world V ===== -/
noncomputable def f_X7_noLink (σ : qM) (x1 : Int32) : qR :=
  if x1 < 0 then (
  q_bo 1 (some (1, σ)))
  else (
  q_nm (σ 16 5) fun x3 =>
  if x1 < x3 then (
  q_bo 0 (some (0, σ)))
  else (
  q_bo 1 (some (1, σ))))
/-! ===== VectorRounds.noHolder(I)Z: world E ===== -/
noncomputable def f_X7_noHolder (σ : qM) (x1 : Int32) : qR :=
  if x1 < 0 then (
  q_bo 1 (some (1, σ)))
  else (
  if x1 < 6 then (
  q_bo 0 (some (0, σ)))
  else (
  q_bo 1 (some (1, σ))))
/-! ===== VectorRounds.mostOfRule(I)I: world E ===== -/
noncomputable def f_X7_mostOfRule (σ : qM) (x1 : Int32) : qR :=
  if x1 = 0 then (
  some (2, σ))
  else (
  if x1 = 1 then (
  some (1, σ))
  else (
  some (9, σ)))
/-! ===== VectorRounds.orNot(I)I: world E ===== -/
noncomputable def f_X7_orNot (σ : qM) (x1 : Int32) : qR :=
  if x1 ≤ 80 then (
  some (x1, σ))
  else (
  some ((-2), σ))
/-! ===== VectorRounds.router()I: world V ===== -/
noncomputable def f_X7_router (σ : qM) : qR :=
  q_nm (σ 1 3) fun x1 =>
  if x1 < 10 then (
  q_cl (f_X3_addRouter (q_sub 1 σ)) (q_put 1 21 σ) fun x4 s3 =>
  some (x4, s3))
  else (
  some ((-3), σ))
/-! ===== VectorRounds.link(III)I: world V ===== -/
noncomputable def f_X7_link (σ : qM) (x1 : Int32) (x2 : Int32) (x3 : Int32) : qR :=
  q_cl (f_X7_noRouter σ x1) (fun τ => τ) fun x5 s4 =>
  if x5 = 0 then (
  q_cl (f_X7_noRouter s4 x2) (fun τ => τ) fun x8 s7 =>
  if x8 = 0 then (
  if x1 = x2 then (
  some ((-1), s7))
  else (
  if x3 < 1 then (
  some ((-1), s7))
  else (
  if x3 ≤ 15 then (
  q_cl (f_X2_joining (q_sub 16 s7) x1 x2) (q_put 16 6 s7) fun x14 s13 =>
  if x14 < 0 then (
  q_nm (s13 16 5) fun x16 =>
  if x16 < 24 then (
  q_cl (f_X2_add (q_sub 16 s13) x1 x2 x3) (q_put 16 6 s13) fun x19 s18 =>
  some (x19, s18))
  else (
  some ((-3), s13)))
  else (
  some ((-5), s13)))
  else (
  some ((-1), s7)))))
  else (
  some ((-1), s7)))
  else (
  some ((-1), s4))
/-! ===== VectorRounds.turn(II)I: world V ===== -/
noncomputable def f_X7_turn (σ : qM) (x1 : Int32) (x2 : Int32) : qR :=
  q_cl (f_X7_noLink σ x1) (fun τ => τ) fun x4 s3 =>
  if x4 = 0 then (
  if x2 < 0 then (
  some ((-1), s3))
  else (
  if x2 ≤ 1 then (
  q_rd s3 20 24 x1 fun x8 =>
  if x8 = x2 then (
  some ((-5), s3))
  else (
  q_cl (f_X3_switchLink (q_sub 1 s3) x1) (q_put 1 21 s3) fun _ s10 =>
  some (1, s10)))
  else (
  some ((-1), s3))))
  else (
  some ((-1), s3))
/-! ===== VectorRounds.cost(II)I: world V ===== -/
noncomputable def f_X7_cost (σ : qM) (x1 : Int32) (x2 : Int32) : qR :=
  q_cl (f_X7_noLink σ x1) (fun τ => τ) fun x4 s3 =>
  if x4 = 0 then (
  if x2 < 1 then (
  some ((-1), s3))
  else (
  if x2 ≤ 15 then (
  q_rd s3 19 24 x1 fun x8 =>
  q_wt s3 19 24 x1 x2 fun s9 =>
  some (x8, s9))
  else (
  some ((-1), s3))))
  else (
  some ((-1), s3))
/-! ===== VectorRounds.rule(II)I: world V ===== -/
noncomputable def f_X7_rule (σ : qM) (x1 : Int32) (x2 : Int32) : qR :=
  if x1 < 0 then (
  some ((-1), σ))
  else (
  if (2 : Int32) < x1 then (
  some ((-1), σ))
  else (
  if x2 < 0 then (
  some ((-1), σ))
  else (
  q_cl (f_X7_mostOfRule σ x1) (fun _ => σ) fun x7 s6 =>
  if x2 ≤ x7 then (
  if x1 = 0 then (
  q_nm (s6 1 4) fun x15 =>
  q_nm (q_wr s6 1 4 x2) fun s16 =>
  some (x15, s16))
  else (
  if x1 = 1 then (
  q_nm (s6 1 5) fun x13 =>
  q_nm (q_wr s6 1 5 x2) fun s14 =>
  some (x13, s14))
  else (
  q_nm (s6 1 6) fun x11 =>
  q_nm (q_wr s6 1 6 x2) fun s12 =>
  some (x11, s12))))
  else (
  some ((-1), s6)))))
/-! ===== VectorRounds.of(II)I: world V ===== -/
noncomputable def f_X7_of (σ : qM) (x1 : Int32) (x2 : Int32) : qR :=
  q_cl (f_X7_noLink σ x1) (fun τ => τ) fun x4 s3 =>
  if x4 = 0 then (
  if x2 = 0 then (
  q_rd s3 17 24 x1 fun x7 =>
  some (x7, s3))
  else if x2 = 1 then (
  q_rd s3 18 24 x1 fun x9 =>
  some (x9, s3))
  else if x2 = 2 then (
  q_rd s3 19 24 x1 fun x11 =>
  some (x11, s3))
  else if x2 = 3 then (
  q_rd s3 20 24 x1 fun x13 =>
  some (x13, s3))
  else (
  some ((-1), s3)))
  else (
  some ((-1), s3))
/-! ===== VectorRounds.between(II)I: world V ===== -/
noncomputable def f_X7_between (σ : qM) (x1 : Int32) (x2 : Int32) : qR :=
  q_cl (f_X7_noRouter σ x1) (fun τ => τ) fun x4 s3 =>
  if x4 = 0 then (
  q_cl (f_X7_noRouter s3 x2) (fun τ => τ) fun x7 s6 =>
  if x7 = 0 then (
  q_cl (f_X2_joining (q_sub 16 s6) x1 x2) (q_put 16 6 s6) fun x10 s9 =>
  if (0 : Int32) ≤ x10 then (
  some (x10, s9))
  else (
  some ((-2), s9)))
  else (
  some ((-1), s6)))
  else (
  some ((-1), s3))
/-! ===== VectorRounds.rounds(I)I: world V ===== -/
noncomputable def b_X7_rounds_17 (go : qB) (σ : qM) (x4 x5 x6 : Int32) : qR :=
  if x4 ≤ x6 then (
  some (x5, σ))
  else (
  q_cl (f_X3_goRound (q_sub 1 σ)) (q_put 1 21 σ) fun x9 s8 =>
  q_nm ((x5 + x9)) fun x10 =>
  q_nm (x6 + 1) fun x11 =>
  go 0 s8 [x4, x10, x11])
noncomputable def D_X7_rounds (go : qB) : qB := fun i σ xs => if i = 0 then (match xs with | [x4, x5, x6] => b_X7_rounds_17 go σ x4 x5 x6 | _ => none) else none
noncomputable def e_X7_rounds (go : qB) (σ : qM) (x1 : Int32) : qR :=
  if x1 < 1 then (
  some ((-1), σ))
  else (
  if x1 ≤ 80 then (
  go 0 σ [x1, 0, 0])
  else (
  some ((-1), σ)))
noncomputable def f_X7_rounds (σ : qM) (x1 : Int32) : qR := e_X7_rounds (q_lim (D_X7_rounds)) σ x1
/-! ===== VectorRounds.entry(III)I: world V ===== -/
noncomputable def f_X7_entry (σ : qM) (x1 : Int32) (x2 : Int32) (x3 : Int32) : qR :=
  q_cl (f_X7_noRouter σ x1) (fun τ => τ) fun x5 s4 =>
  if x5 = 0 then (
  q_cl (f_X7_noRouter s4 x2) (fun τ => τ) fun x8 s7 =>
  if x8 = 0 then (
  if x3 < 0 then (
  some ((-1), s7))
  else (
  if x3 ≤ 4 then (
  q_nm ((x1 * 10)) fun x12 =>
  q_nm ((x12 + x2)) fun x13 =>
  q_cl (f_X4_has (q_sub 2 s7) x13) (q_put 2 7 s7) fun x15 s14 =>
  if x15 = 0 then (
  some ((-2), s14))
  else (
  if x3 = 0 then (
  q_rd s14 3 100 x13 fun x18 =>
  some (x18, s14))
  else if x3 = 1 then (
  q_rd s14 4 100 x13 fun x20 =>
  some (x20, s14))
  else if x3 = 2 then (
  q_rd s14 5 100 x13 fun x22 =>
  some (x22, s14))
  else if x3 = 3 then (
  q_rd s14 6 100 x13 fun x24 =>
  some (x24, s14))
  else (
  q_cl (f_X4_placeOf (q_sub 2 s14) x1 x2) (q_put 2 7 s14) fun x26 s25 =>
  some (x26, s25))))
  else (
  some ((-1), s7))))
  else (
  some ((-1), s7)))
  else (
  some ((-1), s4))
/-! ===== VectorRounds.known(II)I: world V ===== -/
noncomputable def f_X7_known (σ : qM) (x1 : Int32) (x2 : Int32) : qR :=
  q_cl (f_X7_noRouter σ x1) (fun τ => τ) fun x4 s3 =>
  if x4 = 0 then (
  if (0 : Int32) ≤ x2 then (
  q_rd s3 8 10 x1 fun x7 =>
  if x2 < x7 then (
  q_nm ((x1 * 10)) fun x9 =>
  q_nm ((x9 + x2)) fun x10 =>
  q_rd s3 7 100 x10 fun x11 =>
  some (x11, s3))
  else (
  some ((-2), s3)))
  else (
  some ((-1), s3)))
  else (
  some ((-1), s3))
/-! ===== VectorRounds.settledNow()I: world V ===== -/
noncomputable def f_X7_settledNow (σ : qM) : qR :=
  q_cl (f_X3_become (q_sub2 21 22 1 σ)) (q_put2 21 22 21 1 σ) fun _ s1 =>
  q_cl (f_X3_roundsToSettle (q_sub 22 s1)) (q_put 22 21 s1) fun x3 s2 =>
  q_cl (f_X7_orNot s2 x3) (fun _ => s2) fun x5 s4 =>
  some (x5, s4)
/-! ===== VectorRounds.loopedFirst()I: world V ===== -/
noncomputable def b_X7_loopedFirst_13 (go : qB) (σ : qM) (x2 : Int32) : qR :=
  if (80 : Int32) < x2 then (
  some ((-2), σ))
  else (
  q_cl (f_X6_loopsIn (q_sub2 2 85 22 σ)) (q_put2 2 85 21 22 σ) fun x5 s4 =>
  if x5 ≤ 0 then (
  q_cl (f_X3_goRound (q_sub 22 s4)) (q_put 22 21 s4) fun x8 s7 =>
  q_nm (x2 + 1) fun x9 =>
  go 0 s7 [x9])
  else (
  some (x2, s4)))
noncomputable def D_X7_loopedFirst (go : qB) : qB := fun i σ xs => if i = 0 then (match xs with | [x2] => b_X7_loopedFirst_13 go σ x2 | _ => none) else none
noncomputable def e_X7_loopedFirst (go : qB) (σ : qM) : qR :=
  q_cl (f_X3_become (q_sub2 21 22 1 σ)) (q_put2 21 22 21 1 σ) fun _ s1 =>
  go 0 s1 [0]
noncomputable def f_X7_loopedFirst (σ : qM) : qR := e_X7_loopedFirst (q_lim (D_X7_loopedFirst)) σ
/-! ===== VectorRounds.rightEntries()I: world V ===== -/
noncomputable def b_X7_rightEntries_4 (go : qB) (σ : qM) (x1 x2 : Int32) : qR :=
  q_nm (σ 1 3) fun x3 =>
  if x3 ≤ x2 then (
  some (x1, σ))
  else (
  q_cl (f_X0_measure (q_sub2 2 87 1 σ) x2 (-1)) (q_put2 2 87 21 1 σ) fun _ s5 =>
  go 1 s5 [x1, x2, 0])
noncomputable def b_X7_rightEntries_30 (go : qB) (σ : qM) (x6 x7 x8 : Int32) : qR :=
  q_nm (σ 1 3) fun x9 =>
  if x9 ≤ x8 then (
  q_nm (x7 + 1) fun x11 =>
  go 0 σ [x6, x11])
  else (
  q_nm ((x7 * 10)) fun x12 =>
  q_nm ((x12 + x8)) fun x13 =>
  q_cl (f_X4_has (q_sub 2 σ) x13) (q_put 2 7 σ) fun x15 s14 =>
  if x15 = 0 then (
  go 2 s14 [x6, x7, x8, 16])
  else (
  q_rd s14 3 100 x13 fun x21 =>
  go 2 s14 [x6, x7, x8, x21]))
noncomputable def b_X7_rightEntries_82 (go : qB) (σ : qM) (x17 x18 x19 x20 : Int32) : qR :=
  q_rd σ 88 10 x19 fun x22 =>
  q_nm (if x22 < 16 then x22 else 16) fun x23 =>
  if x20 = x23 then (
  q_nm (x17 + 1) fun x26 =>
  q_nm (x19 + 1) fun x27 =>
  go 1 σ [x26, x18, x27])
  else (
  q_nm (x19 + 1) fun x25 =>
  go 1 σ [x17, x18, x25])
noncomputable def D_X7_rightEntries (go : qB) : qB := fun i σ xs => if i = 0 then (match xs with | [x1, x2] => b_X7_rightEntries_4 go σ x1 x2 | _ => none) else if i = 1 then (match xs with | [x6, x7, x8] => b_X7_rightEntries_30 go σ x6 x7 x8 | _ => none) else if i = 2 then (match xs with | [x17, x18, x19, x20] => b_X7_rightEntries_82 go σ x17 x18 x19 x20 | _ => none) else none
noncomputable def e_X7_rightEntries (go : qB) (σ : qM) : qR :=
  go 0 σ [0, 0]
noncomputable def f_X7_rightEntries (σ : qM) : qR := e_X7_rightEntries (q_lim (D_X7_rightEntries)) σ
/-! ===== VectorRounds.worstCut()I: world V ===== -/
noncomputable def b_X7_worstCut_7 (go : qB) (σ : qM) (x1 x2 x3 : Int32) : qR :=
  q_nm (σ 16 5) fun x4 =>
  if x4 ≤ x3 then (
  some (x1, σ))
  else (
  q_rd σ 20 24 x3 fun x6 =>
  if x6 = 1 then (
  q_cl (f_X3_become (q_sub2 21 22 1 σ)) (q_put2 21 22 21 1 σ) fun _ s9 =>
  q_cl (f_X3_switchLink (q_sub 22 s9) x3) (q_put 22 21 s9) fun _ s10 =>
  q_cl (f_X3_roundsToSettle (q_sub 22 s10)) (q_put 22 21 s10) fun x12 s11 =>
  if x12 ≤ x2 then (
  q_nm (x3 + 1) fun x14 =>
  go 0 s11 [x1, x2, x14])
  else (
  q_nm (x3 + 1) fun x15 =>
  go 0 s11 [x3, x12, x15]))
  else (
  q_nm (x3 + 1) fun x8 =>
  go 0 σ [x1, x2, x8]))
noncomputable def D_X7_worstCut (go : qB) : qB := fun i σ xs => if i = 0 then (match xs with | [x1, x2, x3] => b_X7_worstCut_7 go σ x1 x2 x3 | _ => none) else none
noncomputable def e_X7_worstCut (go : qB) (σ : qM) : qR :=
  go 0 σ [(-2), (-1), 0]
noncomputable def f_X7_worstCut (σ : qM) : qR := e_X7_worstCut (q_lim (D_X7_worstCut)) σ
/-! ===== VectorRounds.neededLinks()I: world V ===== -/
noncomputable def b_X7_neededLinks_4 (go : qB) (σ : qM) (x1 x2 : Int32) : qR :=
  q_nm (σ 16 5) fun x3 =>
  if x3 ≤ x2 then (
  some (x1, σ))
  else (
  q_rd σ 20 24 x2 fun x5 =>
  if x5 = 1 then (
  q_rd σ 17 24 x2 fun x8 =>
  q_cl (f_X0_measure (q_sub2 2 87 1 σ) x8 x2) (q_put2 2 87 21 1 σ) fun _ s9 =>
  q_rd s9 18 24 x2 fun x10 =>
  q_rd s9 88 10 x10 fun x11 =>
  if x11 = 1000000 then (
  q_nm (x1 + 1) fun x14 =>
  q_nm (x2 + 1) fun x15 =>
  go 0 s9 [x14, x15])
  else (
  q_nm (x2 + 1) fun x13 =>
  go 0 s9 [x1, x13]))
  else (
  q_nm (x2 + 1) fun x7 =>
  go 0 σ [x1, x7]))
noncomputable def D_X7_neededLinks (go : qB) : qB := fun i σ xs => if i = 0 then (match xs with | [x1, x2] => b_X7_neededLinks_4 go σ x1 x2 | _ => none) else none
noncomputable def e_X7_neededLinks (go : qB) (σ : qM) : qR :=
  go 0 σ [0, 0]
noncomputable def f_X7_neededLinks (σ : qM) : qR := e_X7_neededLinks (q_lim (D_X7_neededLinks)) σ
/-! ===== VectorRounds.told(I)I: world V ===== -/
noncomputable def f_X7_told (σ : qM) (x1 : Int32) : qR :=
  if x1 = 0 then (
  q_cl (f_X7_settledNow σ) (fun τ => τ) fun x4 s3 =>
  some (x4, s3))
  else if x1 = 1 then (
  q_cl (f_X7_loopedFirst σ) (fun τ => τ) fun x7 s6 =>
  some (x7, s6))
  else if x1 = 2 then (
  q_cl (f_X6_loopsIn (q_sub2 2 85 1 σ)) (q_put2 2 85 21 1 σ) fun x10 s9 =>
  some (x10, s9))
  else if x1 = 3 then (
  q_cl (f_X7_rightEntries σ) (fun τ => τ) fun x13 s12 =>
  some (x13, s12))
  else if x1 = 4 then (
  q_cl (f_X7_worstCut σ) (fun τ => τ) fun x16 s15 =>
  some (x16, s15))
  else if x1 = 5 then (
  q_cl (f_X7_neededLinks σ) (fun τ => τ) fun x19 s18 =>
  some (x19, s18))
  else (
  some ((-1), σ))
/-! ===== VectorRounds.then(IIII)I: world V ===== -/
noncomputable def b_X7_then_53 (go : qB) (σ : qM) (x16 x17 x18 x19 x20 : Int32) : qR :=
  if x18 ≤ x20 then (
  if x19 = 2 then (
  q_cl (f_X6_loopsIn (q_sub2 2 85 22 σ)) (q_put2 2 85 21 22 σ) fun x32 s31 =>
  some (x32, s31))
  else (
  q_nm ((x16 * 10)) fun x23 =>
  q_nm ((x23 + x17)) fun x24 =>
  q_cl (f_X4_has (q_sub 23 σ) x24) (q_put 23 7 σ) fun x26 s25 =>
  if x26 = 0 then (
  some ((-2), s25))
  else (
  if x19 = 0 then (
  q_rd s25 24 100 x24 fun x30 =>
  some (x30, s25))
  else (
  q_rd s25 25 100 x24 fun x29 =>
  some (x29, s25)))))
  else (
  q_cl (f_X3_goRound (q_sub 22 σ)) (q_put 22 21 σ) fun x34 s33 =>
  q_nm (x20 + 1) fun x35 =>
  go 0 s33 [x16, x17, x18, x19, x35])
noncomputable def D_X7_then (go : qB) : qB := fun i σ xs => if i = 0 then (match xs with | [x16, x17, x18, x19, x20] => b_X7_then_53 go σ x16 x17 x18 x19 x20 | _ => none) else none
noncomputable def e_X7_then (go : qB) (σ : qM) (x1 : Int32) (x2 : Int32) (x3 : Int32) (x4 : Int32) : qR :=
  q_cl (f_X7_noRouter σ x1) (fun τ => τ) fun x6 s5 =>
  if x6 = 0 then (
  q_cl (f_X7_noRouter s5 x2) (fun τ => τ) fun x9 s8 =>
  if x9 = 0 then (
  if x3 < 0 then (
  some ((-1), s8))
  else (
  if (80 : Int32) < x3 then (
  some ((-1), s8))
  else (
  if x4 < 0 then (
  some ((-1), s8))
  else (
  if x4 ≤ 2 then (
  q_cl (f_X3_become (q_sub2 21 22 1 s8)) (q_put2 21 22 21 1 s8) fun _ s15 =>
  go 0 s15 [x1, x2, x3, x4, 0])
  else (
  some ((-1), s8))))))
  else (
  some ((-1), s8)))
  else (
  some ((-1), s5))
noncomputable def f_X7_then (σ : qM) (x1 : Int32) (x2 : Int32) (x3 : Int32) (x4 : Int32) : qR := e_X7_then (q_lim (D_X7_then)) σ x1 x2 x3 x4
/-! ===== VectorRounds.way(III)I: world V ===== -/
noncomputable def f_X7_way (σ : qM) (x1 : Int32) (x2 : Int32) (x3 : Int32) : qR :=
  q_cl (f_X7_noRouter σ x1) (fun τ => τ) fun x5 s4 =>
  if x5 = 0 then (
  q_cl (f_X7_noRouter s4 x2) (fun τ => τ) fun x8 s7 =>
  if x8 = 0 then (
  if (-1 : Int32) ≤ x3 then (
  q_cl (f_X6_walk (q_sub2 2 85 2 s7) x1 x2) (q_put2 2 85 7 2 s7) fun _ s11 =>
  if x3 = (-1) then (
  q_nm (s11 85 1) fun x16 =>
  some (x16, s11))
  else (
  q_nm (s11 85 1) fun x13 =>
  if x13 ≤ x3 then (
  some ((-2), s11))
  else (
  q_rd s11 86 10 x3 fun x15 =>
  some (x15, s11))))
  else (
  some ((-1), s7)))
  else (
  some ((-1), s7)))
  else (
  some ((-1), s4))
/-! ===== VectorRounds.ends(II)I: world V ===== -/
noncomputable def f_X7_ends (σ : qM) (x1 : Int32) (x2 : Int32) : qR :=
  q_cl (f_X7_noRouter σ x1) (fun τ => τ) fun x4 s3 =>
  if x4 = 0 then (
  q_cl (f_X7_noRouter s3 x2) (fun τ => τ) fun x7 s6 =>
  if x7 = 0 then (
  q_cl (f_X6_walk (q_sub2 2 85 2 s6) x1 x2) (q_put2 2 85 7 2 s6) fun _ s9 =>
  q_nm (s9 85 2) fun x10 =>
  some (x10, s9))
  else (
  some ((-1), s6)))
  else (
  some ((-1), s3))
/-! ===== VectorRounds.shortest(II)I: world V ===== -/
noncomputable def f_X7_shortest (σ : qM) (x1 : Int32) (x2 : Int32) : qR :=
  q_cl (f_X7_noRouter σ x1) (fun τ => τ) fun x4 s3 =>
  if x4 = 0 then (
  q_cl (f_X7_noRouter s3 x2) (fun τ => τ) fun x7 s6 =>
  if x7 = 0 then (
  q_cl (f_X0_measure (q_sub2 2 87 1 s6) x1 (-1)) (q_put2 2 87 21 1 s6) fun _ s9 =>
  q_rd s9 88 10 x2 fun x10 =>
  if x10 = 1000000 then (
  some ((-2), s9))
  else (
  some (x10, s9)))
  else (
  some ((-1), s6)))
  else (
  some ((-1), s3))
/-! ===== VectorRounds.counts(II)I: world V ===== -/
noncomputable def b_X7_counts_39 (go : qB) (σ : qM) (x12 x13 : Int32) : qR :=
  if (80 : Int32) < x13 then (
  some ((-2), σ))
  else (
  q_cl (f_X4_reaches (q_sub 23 σ) x12) (q_put 23 7 σ) fun x16 s15 =>
  if x16 = 0 then (
  some (x13, s15))
  else (
  q_cl (f_X3_goRound (q_sub 22 s15)) (q_put 22 21 s15) fun x19 s18 =>
  q_nm (x13 + 1) fun x20 =>
  go 0 s18 [x12, x20]))
noncomputable def D_X7_counts (go : qB) : qB := fun i σ xs => if i = 0 then (match xs with | [x12, x13] => b_X7_counts_39 go σ x12 x13 | _ => none) else none
noncomputable def e_X7_counts (go : qB) (σ : qM) (x1 : Int32) (x2 : Int32) : qR :=
  q_cl (f_X7_noRouter σ x1) (fun τ => τ) fun x4 s3 =>
  if x4 = 0 then (
  q_cl (f_X7_noRouter s3 x2) (fun τ => τ) fun x7 s6 =>
  if x7 = 0 then (
  q_nm ((x1 * 10)) fun x9 =>
  q_nm ((x9 + x2)) fun x10 =>
  q_cl (f_X3_become (q_sub2 21 22 1 s6)) (q_put2 21 22 21 1 s6) fun _ s11 =>
  go 0 s11 [x10, 0])
  else (
  some ((-1), s6)))
  else (
  some ((-1), s3))
noncomputable def f_X7_counts (σ : qM) (x1 : Int32) (x2 : Int32) : qR := e_X7_counts (q_lim (D_X7_counts)) σ x1 x2
/-! ===== VectorRounds.packet(IIII)I: world V ===== -/
noncomputable def b_X7_packet_57 (go : qB) (σ : qM) (x16 x17 x18 x19 x20 : Int32) : qR :=
  if x17 ≤ x20 then (
  go 1 σ [x18, x19, x20])
  else (
  if x19 = x16 then (
  go 1 σ [x18, x19, x20])
  else (
  q_nm ((x19 * 10)) fun x26 =>
  q_nm ((x26 + x16)) fun x27 =>
  q_cl (f_X4_reaches (q_sub 23 σ) x27) (q_put 23 7 σ) fun x29 s28 =>
  if x29 = 0 then (
  go 1 s28 [x18, x19, x20])
  else (
  q_nm ((x19 * 10)) fun x31 =>
  q_nm ((x31 + x16)) fun x32 =>
  q_rd s28 25 100 x32 fun x33 =>
  q_nm (x20 + 1) fun x34 =>
  q_cl (f_X3_goRound (q_sub 22 s28)) (q_put 22 21 s28) fun x36 s35 =>
  go 0 s35 [x16, x17, x18, x33, x34])))
noncomputable def b_X7_packet_123 (go : qB) (σ : qM) (x22 x23 x24 : Int32) : qR :=
  if x22 = 0 then (
  some (x23, σ))
  else (
  some (x24, σ))
noncomputable def D_X7_packet (go : qB) : qB := fun i σ xs => if i = 0 then (match xs with | [x16, x17, x18, x19, x20] => b_X7_packet_57 go σ x16 x17 x18 x19 x20 | _ => none) else if i = 1 then (match xs with | [x22, x23, x24] => b_X7_packet_123 go σ x22 x23 x24 | _ => none) else none
noncomputable def e_X7_packet (go : qB) (σ : qM) (x1 : Int32) (x2 : Int32) (x3 : Int32) (x4 : Int32) : qR :=
  q_cl (f_X7_noRouter σ x1) (fun τ => τ) fun x6 s5 =>
  if x6 = 0 then (
  q_cl (f_X7_noRouter s5 x2) (fun τ => τ) fun x9 s8 =>
  if x9 = 0 then (
  if x3 < 1 then (
  some ((-1), s8))
  else (
  if (40 : Int32) < x3 then (
  some ((-1), s8))
  else (
  if x4 < 0 then (
  some ((-1), s8))
  else (
  if x4 ≤ 1 then (
  q_cl (f_X3_become (q_sub2 21 22 1 s8)) (q_put2 21 22 21 1 s8) fun _ s15 =>
  go 0 s15 [x2, x3, x4, x1, 0])
  else (
  some ((-1), s8))))))
  else (
  some ((-1), s8)))
  else (
  some ((-1), s5))
noncomputable def f_X7_packet (σ : qM) (x1 : Int32) (x2 : Int32) (x3 : Int32) (x4 : Int32) : qR := e_X7_packet (q_lim (D_X7_packet)) σ x1 x2 x3 x4
/-! ===== VectorRounds.tried(I)I: world V ===== -/
noncomputable def b_X7_tried_22 (go : qB) (σ : qM) (x4 x5 x6 x7 x8 : Int32) : qR :=
  if (2 : Int32) < x8 then (
  if x4 = 0 then (
  some (x5, σ))
  else (
  if x4 = 1 then (
  some (x6, σ))
  else (
  q_cl (f_X7_orNot σ x7) (fun _ => σ) fun x13 s12 =>
  some (x13, s12))))
  else (
  go 1 σ [x4, x5, x6, x7, x8, 0])
noncomputable def b_X7_tried_31 (go : qB) (σ : qM) (x14 x15 x16 x17 x18 x19 : Int32) : qR :=
  if (1 : Int32) < x19 then (
  q_nm (x18 + 1) fun x21 =>
  go 0 σ [x14, x15, x16, x17, x21])
  else (
  q_cl (f_X3_become (q_sub2 21 22 1 σ)) (q_put2 21 22 21 1 σ) fun _ s22 =>
  q_nm (q_wr s22 22 4 x18) fun s23 =>
  q_nm (q_wr s23 22 5 x19) fun s24 =>
  q_cl (f_X3_roundsToSettle (q_sub 22 s24)) (q_put 22 21 s24) fun x26 s25 =>
  if x17 ≤ x26 then (
  q_nm (x19 + 1) fun x28 =>
  go 1 s25 [x14, x15, x16, x17, x18, x28])
  else (
  q_nm (x19 + 1) fun x29 =>
  go 1 s25 [x14, x18, x19, x26, x18, x29]))
noncomputable def D_X7_tried (go : qB) : qB := fun i σ xs => if i = 0 then (match xs with | [x4, x5, x6, x7, x8] => b_X7_tried_22 go σ x4 x5 x6 x7 x8 | _ => none) else if i = 1 then (match xs with | [x14, x15, x16, x17, x18, x19] => b_X7_tried_31 go σ x14 x15 x16 x17 x18 x19 | _ => none) else none
noncomputable def e_X7_tried (go : qB) (σ : qM) (x1 : Int32) : qR :=
  if x1 < 0 then (
  some ((-1), σ))
  else (
  if x1 ≤ 2 then (
  go 0 σ [x1, 0, 0, 82, 0])
  else (
  some ((-1), σ)))
noncomputable def f_X7_tried (σ : qM) (x1 : Int32) : qR := e_X7_tried (q_lim (D_X7_tried)) σ x1
/-! ===== VectorRounds.isOtherwise(IIII)Z: world V ===== -/
noncomputable def f_X7_isOtherwise (σ : qM) (x1 : Int32) (x2 : Int32) (x3 : Int32) (x4 : Int32) : qR :=
  q_nm ((x1 * 10)) fun x5 =>
  q_nm ((x5 + x2)) fun x6 =>
  q_cl (f_X4_has (q_sub 2 σ) x6) (q_put 2 7 σ) fun x8 s7 =>
  if x8 = 0 then (
  if x3 = 16 then (
  if x4 = x1 then (
  q_bo 0 (some (0, s7)))
  else (
  q_bo 1 (some (1, s7))))
  else (
  q_bo 1 (some (1, s7))))
  else (
  q_rd s7 3 100 x6 fun x10 =>
  if x3 = x10 then (
  q_rd s7 4 100 x6 fun x12 =>
  if x4 = x12 then (
  q_bo 0 (some (0, s7)))
  else (
  q_bo 1 (some (1, s7))))
  else (
  q_bo 1 (some (1, s7))))
/-! ===== VectorRounds.judge(II)I: world V ===== -/
noncomputable def b_X7_judge_80 (go : qB) (σ : qM) (x20 x21 x22 x23 : Int32) : qR :=
  if x22 ≤ x23 then (
  q_nm (σ 1 3) fun x25 =>
  if x25 ≤ x22 then (
  some ((-2), σ))
  else (
  some (x22, σ)))
  else (
  q_nm (((2 : Int32) * x23)) fun x27 =>
  q_rd σ (95 + 2 * x21.toNatClampNeg) 60 x27 fun x28 =>
  q_nm (((2 : Int32) * x23)) fun x29 =>
  q_nm ((x29 + 1)) fun x30 =>
  q_rd σ (95 + 2 * x21.toNatClampNeg) 60 x30 fun x31 =>
  q_cl (f_X7_isOtherwise σ x20 x23 x28 x31) (fun τ => τ) fun x33 s32 =>
  if x33 = 0 then (
  q_nm (x23 + 1) fun x35 =>
  go 0 s32 [x20, x21, x22, x35])
  else (
  some (x23, s32)))
noncomputable def D_X7_judge (go : qB) : qB := fun i σ xs => if i = 0 then (match xs with | [x20, x21, x22, x23] => b_X7_judge_80 go σ x20 x21 x22 x23 | _ => none) else none
noncomputable def e_X7_judge (go : qB) (σ : qM) (x1 : Int32) (x2 : Int32) : qR :=
  q_cl (f_X7_noHolder σ x1) (fun _ => σ) fun x4 s3 =>
  if x4 = 0 then (
  q_cl (f_X7_noRouter s3 x2) (fun τ => τ) fun x7 s6 =>
  if x7 = 0 then (
  q_gd (q_inB x1 6) (
  q_nm (s6 (94 + 2 * x1.toNatClampNeg) 0) fun x9 =>
  if x9 = 0 then (
  some ((-11), s6))
  else (
  q_nm (s6 (94 + 2 * x1.toNatClampNeg) 0) fun x11 =>
  if x11 = 2 then (
  q_nm (s6 (94 + 2 * x1.toNatClampNeg) 7) fun x13 =>
  q_dv 2 (q_nm (x13 / 2) fun x14 =>
  q_nm (s6 (94 + 2 * x1.toNatClampNeg) 7) fun x15 =>
  q_dv 2 (q_nm (x15 - x15 / 2 * 2) fun x16 =>
  if x16 = 0 then (
  q_nm (s6 1 3) fun x18 =>
  if x14 ≤ x18 then (
  go 0 s6 [x2, x1, x14, 0])
  else (
  some ((-13), s6)))
  else (
  some ((-13), s6)))))
  else (
  some ((-12), s6)))))
  else (
  some ((-1), s6)))
  else (
  some ((-1), s3))
noncomputable def f_X7_judge (σ : qM) (x1 : Int32) (x2 : Int32) : qR := e_X7_judge (q_lim (D_X7_judge)) σ x1 x2
/-! ===== VectorRounds.drawLink(I)V: world V ===== -/
noncomputable def f_X7_drawLink (σ : qM) (x1 : Int32) : qR :=
  q_nm (σ 1 3) fun x2 =>
  q_nm (if (1 : Int32) < x2 then x2 else 1) fun x3 =>
  q_dv x3 (q_nm (x1 - x1 / x3 * x3) fun x4 =>
  q_dv 10 (q_nm (x1 / 10) fun x5 =>
  q_dv x3 (q_nm (x5 - x5 / x3 * x3) fun x6 =>
  if x4 = x6 then (
  some (0, σ))
  else (
  q_cl (f_X2_joining (q_sub 16 σ) x4 x6) (q_put 16 6 σ) fun x9 s8 =>
  if x9 < 0 then (
  q_nm (s8 16 5) fun x11 =>
  if (24 : Int32) ≤ x11 then (
  some (0, s8))
  else (
  q_dv 100 (q_nm (x1 / 100) fun x13 =>
  q_dv 15 (q_nm (x13 - x13 / 15 * 15) fun x14 =>
  q_nm (((1 : Int32) + x14)) fun x15 =>
  q_cl (f_X2_add (q_sub 16 s8) x4 x6 x15) (q_put 16 6 s8) fun x17 s16 =>
  some (0, s16)))))
  else (
  q_cl (f_X3_switchLink (q_sub 1 s8) x9) (q_put 1 21 s8) fun _ s18 =>
  some (0, s18))))))
/-! ===== VectorRounds.drawn(II)I: world V ===== -/
noncomputable def b_X7_drawn_32 (go : qB) (σ : qM) (x7 x8 x9 : Int32) : qR :=
  if x7 ≤ x9 then (
  q_nm (σ 16 5) fun x11 =>
  some (x11, σ))
  else (
  q_nm ((x8 * 1103515245)) fun x12 =>
  q_nm ((x12 + 12345)) fun x13 =>
  q_nm (((x13.toUInt32 >>> ((16 : Int32).toUInt32 &&& Int32.toUInt32 31)).toInt32)) fun x14 =>
  q_nm ((x14 &&& 32767)) fun x15 =>
  q_cl (f_X7_drawLink σ x15) (fun τ => τ) fun _ s16 =>
  q_nm (x9 + 1) fun x17 =>
  go 0 s16 [x7, x13, x17])
noncomputable def D_X7_drawn (go : qB) : qB := fun i σ xs => if i = 0 then (match xs with | [x7, x8, x9] => b_X7_drawn_32 go σ x7 x8 x9 | _ => none) else none
noncomputable def e_X7_drawn (go : qB) (σ : qM) (x1 : Int32) (x2 : Int32) : qR :=
  if x2 < 1 then (
  some ((-1), σ))
  else (
  if x2 ≤ 12 then (
  q_nm (σ 1 3) fun x5 =>
  if (2 : Int32) ≤ x5 then (
  go 0 σ [x2, x1, 0])
  else (
  some ((-5), σ)))
  else (
  some ((-1), σ)))
noncomputable def f_X7_drawn (σ : qM) (x1 : Int32) (x2 : Int32) : qR := e_X7_drawn (q_lim (D_X7_drawn)) σ x1 x2
/-! ===== VectorRounds.feed(I)I: world V ===== -/
noncomputable def f_X7_feed (σ : qM) (x1 : Int32) : qR :=
  if x1 < 0 then (
  some ((-1), σ))
  else (
  if x1 ≤ 255 then (
  q_nm (σ 89 1) fun x4 =>
  if x4 < 120 then (
  q_cl (f_X5_add (q_sub 89 σ) x1) (q_put 89 4 σ) fun x7 s6 =>
  some (x7, s6))
  else (
  some ((-3), σ)))
  else (
  some ((-1), σ)))
/-! ===== VectorRounds.doLine(I)I: world V ===== -/
noncomputable def f_X7_doLine (σ : qM) (x1 : Int32) : qR :=
  q_nm (((3 : Int32) * x1)) fun x2 =>
  q_rd σ 92 360 x2 fun x3 =>
  q_nm (((3 : Int32) * x1)) fun x4 =>
  q_nm ((x4 + 1)) fun x5 =>
  q_rd σ 92 360 x5 fun x6 =>
  q_rd σ 91 120 x1 fun x7 =>
  if x7 = 99 then (
  q_cl (f_X7_turn σ x3 0) (fun τ => τ) fun x10 s9 =>
  some (x10, s9))
  else if x7 = 100 then (
  q_cl (f_X7_rule σ 2 x3) (fun τ => τ) fun x13 s12 =>
  some (x13, s12))
  else if x7 = 101 then (
  some ((-1), σ))
  else if x7 = 102 then (
  some ((-1), σ))
  else if x7 = 103 then (
  some ((-1), σ))
  else if x7 = 104 then (
  q_cl (f_X7_rule σ 0 x3) (fun τ => τ) fun x19 s18 =>
  some (x19, s18))
  else if x7 = 105 then (
  some ((-1), σ))
  else if x7 = 106 then (
  some ((-1), σ))
  else if x7 = 107 then (
  some ((-1), σ))
  else if x7 = 108 then (
  q_nm (((3 : Int32) * x1)) fun x24 =>
  q_nm ((x24 + 2)) fun x25 =>
  q_rd σ 92 360 x25 fun x26 =>
  q_cl (f_X7_link σ x3 x6 x26) (fun τ => τ) fun x28 s27 =>
  some (x28, s27))
  else if x7 = 109 then (
  some ((-1), σ))
  else if x7 = 110 then (
  q_cl (f_X7_router σ) (fun τ => τ) fun x32 s31 =>
  some (x32, s31))
  else if x7 = 111 then (
  some ((-1), σ))
  else if x7 = 112 then (
  some ((-1), σ))
  else if x7 = 113 then (
  q_cl (f_X7_rule σ 1 x3) (fun τ => τ) fun x37 s36 =>
  some (x37, s36))
  else if x7 = 114 then (
  q_cl (f_X7_rounds σ x3) (fun τ => τ) fun x40 s39 =>
  some (x40, s39))
  else if x7 = 115 then (
  some ((-1), σ))
  else if x7 = 116 then (
  some ((-1), σ))
  else if x7 = 117 then (
  q_cl (f_X7_turn σ x3 1) (fun τ => τ) fun x45 s44 =>
  some (x45, s44))
  else if x7 = 118 then (
  some ((-1), σ))
  else if x7 = 119 then (
  q_cl (f_X7_cost σ x3 x6) (fun τ => τ) fun x49 s48 =>
  some (x49, s48))
  else (
  some ((-1), σ))
/-! ===== VectorRounds.script()I: world V ===== -/
noncomputable def b_X7_script_39 (go : qB) (σ : qM) (x6 : Int32) : qR :=
  q_nm (σ 89 4) fun x8 =>
  if x8 ≤ x6 then (
  q_nm (σ 89 4) fun x10 =>
  some (x10, σ))
  else (
  q_cl (f_X7_doLine σ x6) (fun τ => τ) fun x12 s11 =>
  if (0 : Int32) ≤ x12 then (
  q_nm (x6 + 1) fun x14 =>
  go 0 s11 [x14])
  else (
  q_cl (f_X3_become (q_sub2 21 1 64 s11)) (q_put2 21 1 21 64 s11) fun _ s15 =>
  q_nm (((-2000 : Int32) - x6)) fun x16 =>
  some (x16, s15)))
noncomputable def D_X7_script (go : qB) : qB := fun i σ xs => if i = 0 then (match xs with | [x6] => b_X7_script_39 go σ x6 | _ => none) else none
noncomputable def e_X7_script (go : qB) (σ : qM) : qR :=
  q_cl (f_X5_readLines (q_sub 89 σ)) (q_put 89 4 σ) fun x2 s1 =>
  q_nm (q_wr s1 89 1 0) fun s3 =>
  if x2 < 0 then (
  q_cl (f_X3_become (q_sub2 21 64 1 s3)) (q_put2 21 64 21 1 s3) fun _ s5 =>
  go 0 s5 [0])
  else (
  q_nm (((-1000 : Int32) - x2)) fun x7 =>
  some (x7, s3))
noncomputable def f_X7_script (σ : qM) : qR := e_X7_script (q_lim (D_X7_script)) σ
/-! ===== VectorRounds.image()I: world V ===== -/
noncomputable def f_X7_image (σ : qM) : qR :=
  q_cl (f_X3_become (q_sub2 21 43 1 σ)) (q_put2 21 43 21 1 σ) fun _ s1 =>
  q_bo 1 (q_nm (q_wr s1 0 8 1) fun s2 =>
  q_nm (s2 1 7) fun x4 =>
  some (x4, s2))
/-! ===== VectorRounds.back()I: world V ===== -/
noncomputable def f_X7_back (σ : qM) : qR :=
  q_nm (σ 0 8) fun x1 =>
  if x1 = 0 then (
  some ((-5), σ))
  else (
  q_cl (f_X3_become (q_sub2 21 1 43 σ)) (q_put2 21 1 21 43 σ) fun _ s3 =>
  q_nm (s3 1 7) fun x4 =>
  some (x4, s3))
/-! ===== VectorRounds.hold(III)I: world V ===== -/
noncomputable def f_X7_hold (σ : qM) (x1 : Int32) (x2 : Int32) (x3 : Int32) : qR :=
  q_cl (f_X7_noHolder σ x1) (fun _ => σ) fun x5 s4 =>
  if x5 = 0 then (
  q_cl (f_X7_noRouter s4 x2) (fun τ => τ) fun x8 s7 =>
  if x8 = 0 then (
  q_cl (f_X7_noRouter s7 x3) (fun τ => τ) fun x11 s10 =>
  if x11 = 0 then (
  q_nm ((x2 * 10)) fun x13 =>
  q_nm ((x13 + x3)) fun x14 =>
  q_cl (f_X4_has (q_sub 2 s10) x14) (q_put 2 7 s10) fun x16 s15 =>
  if x16 = 0 then (
  some ((-2), s15))
  else (
  q_gd (q_inB x1 6) (
  q_cl (f_X1_keepEntry (q_sub2 2 (94 + 2 * x1.toNatClampNeg) 2 s15) x2 x3) (q_put2 2 (94 + 2 * x1.toNatClampNeg) 7 2 s15) fun _ s18 =>
  some (1, s18))))
  else (
  some ((-1), s10)))
  else (
  some ((-1), s7)))
  else (
  some ((-1), s4))
/-! ===== VectorRounds.row(II)I: world V ===== -/
noncomputable def f_X7_row (σ : qM) (x1 : Int32) (x2 : Int32) : qR :=
  q_cl (f_X7_noHolder σ x1) (fun _ => σ) fun x4 s3 =>
  if x4 = 0 then (
  if x2 ≤ 60 then (
  if (-1 : Int32) ≤ x2 then (
  if x2 = (-1) then (
  q_gd (q_inB x1 6) (
  q_nm (q_wr s3 (94 + 2 * x1.toNatClampNeg) 0 0) fun s10 =>
  some (1, s10)))
  else (
  q_gd (q_inB x1 6) (
  q_cl (f_X1_keepRow (q_sub (94 + 2 * x1.toNatClampNeg) s3) x2) (q_put (94 + 2 * x1.toNatClampNeg) 2 s3) fun _ s9 =>
  some (1, s9))))
  else (
  some ((-14), s3)))
  else (
  some ((-1), s3)))
  else (
  some ((-1), s3))
/-! ===== VectorRounds.put(III)I: world V ===== -/
noncomputable def f_X7_put (σ : qM) (x1 : Int32) (x2 : Int32) (x3 : Int32) : qR :=
  q_cl (f_X7_noHolder σ x1) (fun _ => σ) fun x5 s4 =>
  if x5 = 0 then (
  q_gd (q_inB x1 6) (
  q_nm (s4 (94 + 2 * x1.toNatClampNeg) 0) fun x7 =>
  if x7 = 2 then (
  if x2 < 0 then (
  some (-2000000000, s4))
  else (
  q_nm (s4 (94 + 2 * x1.toNatClampNeg) 7) fun x10 =>
  if x2 < x10 then (
  q_rd s4 (95 + 2 * x1.toNatClampNeg) 60 x2 fun x12 =>
  q_wt s4 (95 + 2 * x1.toNatClampNeg) 60 x2 x3 fun s13 =>
  some (x12, s13))
  else (
  some (-2000000000, s4))))
  else (
  some (-2000000000, s4))))
  else (
  some (-2000000000, s4))
/-! ===== VectorRounds.tells(II)I: world V ===== -/
noncomputable def f_X7_tells (σ : qM) (x1 : Int32) (x2 : Int32) : qR :=
  q_cl (f_X7_noHolder σ x1) (fun _ => σ) fun x4 s3 =>
  if x4 = 0 then (
  if x2 < 0 then (
  some ((-1), s3))
  else (
  if x2 ≤ 3 then (
  q_gd (q_inB x1 6) (
  q_nm (s3 (94 + 2 * x1.toNatClampNeg) 0) fun x8 =>
  if x8 = 0 then (
  some ((-11), s3))
  else (
  q_nm (s3 (94 + 2 * x1.toNatClampNeg) 0) fun x10 =>
  if x10 = 1 then (
  if x2 = 0 then (
  q_nm (s3 (94 + 2 * x1.toNatClampNeg) 2) fun x13 =>
  some (x13, s3))
  else if x2 = 1 then (
  q_nm (s3 (94 + 2 * x1.toNatClampNeg) 1) fun x15 =>
  if x15 = 0 then (
  some ((-12), s3))
  else (
  q_nm (s3 (94 + 2 * x1.toNatClampNeg) 4) fun x17 =>
  some (x17, s3)))
  else if x2 = 2 then (
  q_nm (s3 (94 + 2 * x1.toNatClampNeg) 2) fun x19 =>
  if (16 : Int32) ≤ x19 then (
  some ((-12), s3))
  else (
  q_nm (s3 (94 + 2 * x1.toNatClampNeg) 1) fun x21 =>
  if x21 = 0 then (
  q_nm (s3 (94 + 2 * x1.toNatClampNeg) 3) fun x23 =>
  some (x23, s3))
  else (
  some ((-12), s3))))
  else (
  q_nm (s3 (94 + 2 * x1.toNatClampNeg) 2) fun x24 =>
  if x24 = 16 then (
  q_nm (s3 (94 + 2 * x1.toNatClampNeg) 5) fun x26 =>
  some (x26, s3))
  else (
  some ((-12), s3))))
  else (
  some ((-12), s3)))))
  else (
  some ((-1), s3))))
  else (
  some ((-1), s3))
/-! ===== VectorRounds.fullHolders()I: world V ===== -/
noncomputable def b_X7_fullHolders_4 (go : qB) (σ : qM) (x1 x2 : Int32) : qR :=
  if (6 : Int32) ≤ x2 then (
  some (x1, σ))
  else (
  q_gd (q_inB x2 6) (
  q_nm (σ (94 + 2 * x2.toNatClampNeg) 0) fun x4 =>
  if x4 = 0 then (
  q_nm (x2 + 1) fun x6 =>
  go 0 σ [x1, x6])
  else (
  q_nm (x1 + 1) fun x7 =>
  q_nm (x2 + 1) fun x8 =>
  go 0 σ [x7, x8])))
noncomputable def D_X7_fullHolders (go : qB) : qB := fun i σ xs => if i = 0 then (match xs with | [x1, x2] => b_X7_fullHolders_4 go σ x1 x2 | _ => none) else none
noncomputable def e_X7_fullHolders (go : qB) (σ : qM) : qR :=
  go 0 σ [0, 0]
noncomputable def f_X7_fullHolders (σ : qM) : qR := e_X7_fullHolders (q_lim (D_X7_fullHolders)) σ
/-! ===== VectorRounds.count(I)I: world V ===== -/
noncomputable def f_X7_count (σ : qM) (x1 : Int32) : qR :=
  if x1 = 0 then (
  q_nm (σ 1 3) fun x3 =>
  some (x3, σ))
  else if x1 = 1 then (
  q_nm (σ 16 5) fun x5 =>
  some (x5, σ))
  else if x1 = 2 then (
  q_cl (f_X2_howManyUp (q_sub 16 σ)) (q_put 16 6 σ) fun x8 s7 =>
  some (x8, s7))
  else if x1 = 3 then (
  q_cl (f_X4_howMany (q_sub 2 σ) 0) (q_put 2 7 σ) fun x11 s10 =>
  some (x11, s10))
  else if x1 = 4 then (
  q_nm (σ 1 7) fun x13 =>
  some (x13, σ))
  else if x1 = 5 then (
  q_nm (σ 1 8) fun x15 =>
  some (x15, σ))
  else if x1 = 6 then (
  q_cl (f_X4_howMany (q_sub 2 σ) 1) (q_put 2 7 σ) fun x18 s17 =>
  some (x18, s17))
  else if x1 = 7 then (
  q_nm (σ 89 1) fun x20 =>
  some (x20, σ))
  else if x1 = 8 then (
  q_cl (f_X7_fullHolders σ) (fun τ => τ) fun x23 s22 =>
  some (x23, s22))
  else (
  some ((-1), σ))
/-! ===== VectorRoundsModel.in(III)Z: world E ===== -/
noncomputable def f_X8_in (σ : qM) (x1 : Int32) (x2 : Int32) (x3 : Int32) : qR :=
  if x1 < x2 then (
  q_bo 0 (some (0, σ)))
  else (
  if x3 < x1 then (
  q_bo 0 (some (0, σ)))
  else (
  q_bo 1 (some (1, σ))))
/-! ===== VectorRoundsModel.isRouter(I)Z: world M ===== -/
noncomputable def f_X8_isRouter (σ : qM) (x1 : Int32) : qR :=
  q_rd σ 1 650 0 fun x2 =>
  q_nm ((x2 - 1)) fun x3 =>
  q_cl (f_X8_in σ x1 0 x3) (fun _ => σ) fun x5 s4 =>
  q_bo x5 (some (x5, s4))
/-! ===== VectorRoundsModel.isLink(I)Z: world M ===== -/
noncomputable def f_X8_isLink (σ : qM) (x1 : Int32) : qR :=
  q_rd σ 1 650 1 fun x2 =>
  q_nm ((x2 - 1)) fun x3 =>
  q_cl (f_X8_in σ x1 0 x3) (fun _ => σ) fun x5 s4 =>
  q_bo x5 (some (x5, s4))
/-! ===== VectorRoundsModel.copy([I[I)V: world RR ===== -/
noncomputable def b_X8_copy_2 (go : qB) (σ : qM) (x1 : Int32) : qR :=
  q_nm (Int32.ofNat 650) fun x2 =>
  if x2 ≤ x1 then (
  some (0, σ))
  else (
  q_rd σ 0 650 x1 fun x4 =>
  q_wt σ 1 650 x1 x4 fun s5 =>
  q_nm (x1 + 1) fun x6 =>
  go 0 s5 [x6])
noncomputable def D_X8_copy (go : qB) : qB := fun i σ xs => if i = 0 then (match xs with | [x1] => b_X8_copy_2 go σ x1 | _ => none) else none
noncomputable def e_X8_copy (go : qB) (σ : qM) : qR :=
  go 0 σ [0]
noncomputable def f_X8_copy (σ : qM) : qR := e_X8_copy (q_lim (D_X8_copy)) σ
/-! ===== VectorRoundsModel.entryOf(II)I: world M ===== -/
noncomputable def b_X8_entryOf_2 (go : qB) (σ : qM) (x3 x4 x5 : Int32) : qR :=
  q_nm (((130 : Int32) + x3)) fun x6 =>
  q_rd σ 1 650 x6 fun x7 =>
  if x7 ≤ x5 then (
  some ((-1), σ))
  else (
  q_nm (((10 : Int32) * x3)) fun x9 =>
  q_nm (((150 : Int32) + x9)) fun x10 =>
  q_nm ((x10 + x5)) fun x11 =>
  q_rd σ 1 650 x11 fun x12 =>
  if x12 = x4 then (
  q_nm (((10 : Int32) * x3)) fun x15 =>
  q_nm ((x15 + x5)) fun x16 =>
  some (x16, σ))
  else (
  q_nm (x5 + 1) fun x14 =>
  go 0 σ [x3, x4, x14]))
noncomputable def D_X8_entryOf (go : qB) : qB := fun i σ xs => if i = 0 then (match xs with | [x3, x4, x5] => b_X8_entryOf_2 go σ x3 x4 x5 | _ => none) else none
noncomputable def e_X8_entryOf (go : qB) (σ : qM) (x1 : Int32) (x2 : Int32) : qR :=
  go 0 σ [x1, x2, 0]
noncomputable def f_X8_entryOf (σ : qM) (x1 : Int32) (x2 : Int32) : qR := e_X8_entryOf (q_lim (D_X8_entryOf)) σ x1 x2
/-! ===== VectorRoundsModel.know(IIIII)V: world M ===== -/
noncomputable def f_X8_know (σ : qM) (x1 : Int32) (x2 : Int32) (x3 : Int32) (x4 : Int32) (x5 : Int32) : qR :=
  q_nm (((10 : Int32) * x1)) fun x6 =>
  q_nm (((130 : Int32) + x1)) fun x7 =>
  q_rd σ 1 650 x7 fun x8 =>
  q_nm ((x6 + x8)) fun x9 =>
  q_nm (((150 : Int32) + x9)) fun x10 =>
  q_wt σ 1 650 x10 x2 fun s11 =>
  q_nm (((250 : Int32) + x9)) fun x12 =>
  q_wt s11 1 650 x12 x3 fun s13 =>
  q_nm (((350 : Int32) + x9)) fun x14 =>
  q_wt s13 1 650 x14 x4 fun s15 =>
  q_nm (((450 : Int32) + x9)) fun x16 =>
  q_wt s15 1 650 x16 x5 fun s17 =>
  q_nm (((550 : Int32) + x9)) fun x18 =>
  q_wt s17 1 650 x18 0 fun s19 =>
  q_nm (((130 : Int32) + x1)) fun x20 =>
  q_rd s19 1 650 x20 fun x21 =>
  q_nm ((x21 + 1)) fun x22 =>
  q_wt s19 1 650 x20 x22 fun s23 =>
  some (0, s23)
/-! ===== VectorRoundsModel.router()I: world M ===== -/
noncomputable def f_X8_router (σ : qM) : qR :=
  q_rd σ 1 650 0 fun x1 =>
  if x1 = 10 then (
  some ((-3), σ))
  else (
  q_rd σ 1 650 0 fun x3 =>
  q_rd σ 1 650 0 fun x4 =>
  q_nm ((x4 + 1)) fun x5 =>
  q_wt σ 1 650 0 x5 fun s6 =>
  q_cl (f_X8_know s6 x3 x3 0 x3 0) (fun τ => τ) fun _ s7 =>
  some (x3, s7))
/-! ===== VectorRoundsModel.linkOf(II)I: world M ===== -/
noncomputable def b_X8_linkOf_2 (go : qB) (σ : qM) (x3 x4 x5 : Int32) : qR :=
  q_rd σ 1 650 1 fun x6 =>
  if x6 ≤ x5 then (
  some ((-1), σ))
  else (
  q_nm (((10 : Int32) + x5)) fun x8 =>
  q_rd σ 1 650 x8 fun x9 =>
  q_nm (if x4 < x3 then x4 else x3) fun x10 =>
  if x9 = x10 then (
  q_nm (((40 : Int32) + x5)) fun x13 =>
  q_rd σ 1 650 x13 fun x14 =>
  q_nm (if x3 < x4 then x4 else x3) fun x15 =>
  if x14 = x15 then (
  some (x5, σ))
  else (
  q_nm (x5 + 1) fun x17 =>
  go 0 σ [x3, x4, x17]))
  else (
  q_nm (x5 + 1) fun x12 =>
  go 0 σ [x3, x4, x12]))
noncomputable def D_X8_linkOf (go : qB) : qB := fun i σ xs => if i = 0 then (match xs with | [x3, x4, x5] => b_X8_linkOf_2 go σ x3 x4 x5 | _ => none) else none
noncomputable def e_X8_linkOf (go : qB) (σ : qM) (x1 : Int32) (x2 : Int32) : qR :=
  go 0 σ [x1, x2, 0]
noncomputable def f_X8_linkOf (σ : qM) (x1 : Int32) (x2 : Int32) : qR := e_X8_linkOf (q_lim (D_X8_linkOf)) σ x1 x2
/-! ===== VectorRoundsModel.addLink(III)V: world M ===== -/
noncomputable def f_X8_addLink (σ : qM) (x1 : Int32) (x2 : Int32) (x3 : Int32) : qR :=
  q_rd σ 1 650 1 fun x4 =>
  q_nm (((10 : Int32) + x4)) fun x5 =>
  q_nm (if x2 < x1 then x2 else x1) fun x6 =>
  q_wt σ 1 650 x5 x6 fun s7 =>
  q_nm (((40 : Int32) + x4)) fun x8 =>
  q_nm (if x1 < x2 then x2 else x1) fun x9 =>
  q_wt s7 1 650 x8 x9 fun s10 =>
  q_nm (((70 : Int32) + x4)) fun x11 =>
  q_wt s10 1 650 x11 x3 fun s12 =>
  q_nm (((100 : Int32) + x4)) fun x13 =>
  q_wt s12 1 650 x13 1 fun s14 =>
  q_rd s14 1 650 1 fun x15 =>
  q_nm ((x15 + 1)) fun x16 =>
  q_wt s14 1 650 1 x16 fun s17 =>
  some (0, s17)
/-! ===== VectorRoundsModel.link(III)I: world M ===== -/
noncomputable def f_X8_link (σ : qM) (x1 : Int32) (x2 : Int32) (x3 : Int32) : qR :=
  q_cl (f_X8_isRouter σ x1) (fun τ => τ) fun x5 s4 =>
  if x5 = 0 then (
  some ((-1), s4))
  else (
  q_cl (f_X8_isRouter s4 x2) (fun τ => τ) fun x8 s7 =>
  if x8 = 0 then (
  some ((-1), s7))
  else (
  if x1 = x2 then (
  some ((-1), s7))
  else (
  q_cl (f_X8_in s7 x3 1 15) (fun _ => s7) fun x12 s11 =>
  if x12 = 0 then (
  some ((-1), s11))
  else (
  q_cl (f_X8_linkOf s11 x1 x2) (fun τ => τ) fun x15 s14 =>
  if x15 < 0 then (
  q_rd s14 1 650 1 fun x17 =>
  if x17 = 24 then (
  some ((-3), s14))
  else (
  q_cl (f_X8_addLink s14 x1 x2 x3) (fun τ => τ) fun _ s19 =>
  q_rd s19 1 650 1 fun x20 =>
  q_nm ((x20 - 1)) fun x21 =>
  some (x21, s19)))
  else (
  some ((-5), s14))))))
/-! ===== VectorRoundsModel.lose(II)V: world M ===== -/
noncomputable def b_X8_lose_5 (go : qB) (σ : qM) (x4 x5 x6 : Int32) : qR :=
  q_nm (((10 : Int32) * x4)) fun x7 =>
  q_nm (((130 : Int32) + x4)) fun x8 =>
  q_rd σ 1 650 x8 fun x9 =>
  q_nm ((x7 + x9)) fun x10 =>
  if x10 ≤ x6 then (
  some (0, σ))
  else (
  q_nm (((350 : Int32) + x6)) fun x12 =>
  q_rd σ 1 650 x12 fun x13 =>
  if x13 = x5 then (
  q_nm (((250 : Int32) + x6)) fun x16 =>
  q_rd σ 1 650 x16 fun x17 =>
  if x17 < 16 then (
  q_nm (((250 : Int32) + x6)) fun x19 =>
  q_wt σ 1 650 x19 16 fun s20 =>
  q_nm (((550 : Int32) + x6)) fun x21 =>
  q_rd s20 1 650 5 fun x22 =>
  q_rd s20 1 650 4 fun x23 =>
  q_nm ((x22 + x23)) fun x24 =>
  q_wt s20 1 650 x21 x24 fun s25 =>
  q_nm (((450 : Int32) + x6)) fun x26 =>
  q_rd s25 1 650 x26 fun x27 =>
  q_rd s25 1 650 3 fun x28 =>
  q_nm ((x27 + x28)) fun x29 =>
  q_wt s25 1 650 x26 x29 fun s30 =>
  q_nm (x6 + 1) fun x31 =>
  go 0 s30 [x4, x5, x31])
  else (
  q_nm (x6 + 1) fun x32 =>
  go 0 σ [x4, x5, x32]))
  else (
  q_nm (x6 + 1) fun x15 =>
  go 0 σ [x4, x5, x15]))
noncomputable def D_X8_lose (go : qB) : qB := fun i σ xs => if i = 0 then (match xs with | [x4, x5, x6] => b_X8_lose_5 go σ x4 x5 x6 | _ => none) else none
noncomputable def e_X8_lose (go : qB) (σ : qM) (x1 : Int32) (x2 : Int32) : qR :=
  q_nm (((10 : Int32) * x1)) fun x3 =>
  go 0 σ [x1, x2, x3]
noncomputable def f_X8_lose (σ : qM) (x1 : Int32) (x2 : Int32) : qR := e_X8_lose (q_lim (D_X8_lose)) σ x1 x2
/-! ===== VectorRoundsModel.cut(I)V: world M ===== -/
noncomputable def f_X8_cut (σ : qM) (x1 : Int32) : qR :=
  q_nm (((100 : Int32) + x1)) fun x2 =>
  q_wt σ 1 650 x2 0 fun s3 =>
  q_nm (((10 : Int32) + x1)) fun x4 =>
  q_rd s3 1 650 x4 fun x5 =>
  q_nm (((40 : Int32) + x1)) fun x6 =>
  q_rd s3 1 650 x6 fun x7 =>
  q_cl (f_X8_lose s3 x5 x7) (fun τ => τ) fun _ s8 =>
  q_nm (((40 : Int32) + x1)) fun x9 =>
  q_rd s8 1 650 x9 fun x10 =>
  q_nm (((10 : Int32) + x1)) fun x11 =>
  q_rd s8 1 650 x11 fun x12 =>
  q_cl (f_X8_lose s8 x10 x12) (fun τ => τ) fun _ s13 =>
  some (0, s13)
/-! ===== VectorRoundsModel.turn(II)I: world M ===== -/
noncomputable def f_X8_turn (σ : qM) (x1 : Int32) (x2 : Int32) : qR :=
  q_cl (f_X8_isLink σ x1) (fun τ => τ) fun x4 s3 =>
  if x4 = 0 then (
  some ((-1), s3))
  else (
  q_cl (f_X8_in s3 x2 0 1) (fun _ => s3) fun x7 s6 =>
  if x7 = 0 then (
  some ((-1), s6))
  else (
  q_nm (((100 : Int32) + x1)) fun x9 =>
  q_rd s6 1 650 x9 fun x10 =>
  if x10 = x2 then (
  some ((-5), s6))
  else (
  if x2 = 1 then (
  q_nm (((100 : Int32) + x1)) fun x14 =>
  q_wt s6 1 650 x14 1 fun s15 =>
  some (1, s15))
  else (
  q_cl (f_X8_cut s6 x1) (fun τ => τ) fun _ s13 =>
  some (1, s13)))))
/-! ===== VectorRoundsModel.cost(II)I: world M ===== -/
noncomputable def f_X8_cost (σ : qM) (x1 : Int32) (x2 : Int32) : qR :=
  q_cl (f_X8_isLink σ x1) (fun τ => τ) fun x4 s3 =>
  if x4 = 0 then (
  some ((-1), s3))
  else (
  q_cl (f_X8_in s3 x2 1 15) (fun _ => s3) fun x7 s6 =>
  if x7 = 0 then (
  some ((-1), s6))
  else (
  q_nm (((70 : Int32) + x1)) fun x9 =>
  q_rd s6 1 650 x9 fun x10 =>
  q_nm (((70 : Int32) + x1)) fun x11 =>
  q_wt s6 1 650 x11 x2 fun s12 =>
  some (x10, s12)))
/-! ===== VectorRoundsModel.rule(II)I: world M ===== -/
noncomputable def b_X8_rule_30 (σ : qM) (x8 x9 x10 x11 x12 : Int32) : qR :=
  q_cl (f_X8_in σ x10 x11 x12) (fun _ => σ) fun x14 s13 =>
  if x14 = 0 then (
  some ((-1), s13))
  else (
  q_nm (((2 : Int32) + x8)) fun x16 =>
  q_rd s13 1 650 x16 fun x17 =>
  q_nm (((2 : Int32) + x8)) fun x18 =>
  q_wt s13 1 650 x18 x9 fun s19 =>
  some (x17, s19))
noncomputable def f_X8_rule (σ : qM) (x1 : Int32) (x2 : Int32) : qR :=
  q_cl (f_X8_in σ x1 0 2) (fun _ => σ) fun x4 s3 =>
  if x4 = 0 then (
  some ((-1), s3))
  else (
  if x1 = 0 then (
  b_X8_rule_30 s3 x1 x2 x2 0 2)
  else (
  if x1 = 1 then (
  b_X8_rule_30 s3 x1 x2 x2 0 1)
  else (
  b_X8_rule_30 s3 x1 x2 x2 0 9)))
/-! ===== VectorRoundsModel.of(II)I: world M ===== -/
noncomputable def f_X8_of (σ : qM) (x1 : Int32) (x2 : Int32) : qR :=
  q_cl (f_X8_isLink σ x1) (fun τ => τ) fun x4 s3 =>
  if x4 = 0 then (
  some ((-1), s3))
  else (
  if x2 = 0 then (
  q_nm (((10 : Int32) + x1)) fun x7 =>
  q_rd s3 1 650 x7 fun x8 =>
  some (x8, s3))
  else if x2 = 1 then (
  q_nm (((40 : Int32) + x1)) fun x10 =>
  q_rd s3 1 650 x10 fun x11 =>
  some (x11, s3))
  else if x2 = 2 then (
  q_nm (((70 : Int32) + x1)) fun x13 =>
  q_rd s3 1 650 x13 fun x14 =>
  some (x14, s3))
  else if x2 = 3 then (
  q_nm (((100 : Int32) + x1)) fun x16 =>
  q_rd s3 1 650 x16 fun x17 =>
  some (x17, s3))
  else (
  some ((-1), s3)))
/-! ===== VectorRoundsModel.between(II)I: world M ===== -/
noncomputable def f_X8_between (σ : qM) (x1 : Int32) (x2 : Int32) : qR :=
  q_cl (f_X8_isRouter σ x1) (fun τ => τ) fun x4 s3 =>
  if x4 = 0 then (
  some ((-1), s3))
  else (
  q_cl (f_X8_isRouter s3 x2) (fun τ => τ) fun x7 s6 =>
  if x7 = 0 then (
  some ((-1), s6))
  else (
  q_cl (f_X8_linkOf s6 x1 x2) (fun τ => τ) fun x10 s9 =>
  if (0 : Int32) ≤ x10 then (
  some (x10, s9))
  else (
  some ((-2), s9))))
/-! ===== VectorRoundsModel.tell(III)V: world M ===== -/
noncomputable def b_X8_tell_6 (go : qB) (σ : qM) (x5 x6 x7 x8 : Int32) : qR :=
  q_nm (((10 : Int32) * x5)) fun x9 =>
  q_nm (((130 : Int32) + x5)) fun x10 =>
  q_rd σ 1 650 x10 fun x11 =>
  q_nm ((x9 + x11)) fun x12 =>
  if x12 ≤ x8 then (
  some (0, σ))
  else (
  q_nm (((350 : Int32) + x8)) fun x14 =>
  q_rd σ 1 650 x14 fun x15 =>
  if x15 = x6 then (
  go 1 σ [x5, x6, x7, x8, 1])
  else (
  go 1 σ [x5, x6, x7, x8, 0]))
noncomputable def b_X8_tell_46 (go : qB) (σ : qM) (x17 x18 x19 x20 x21 : Int32) : qR :=
  if x21 = 0 then (
  go 2 σ [x17, x18, x19, x20, x21])
  else (
  q_rd σ 1 650 2 fun x28 =>
  if x28 = 1 then (
  q_nm (x20 + 1) fun x30 =>
  go 0 σ [x17, x18, x19, x30])
  else (
  go 2 σ [x17, x18, x19, x20, x21]))
noncomputable def b_X8_tell_66 (go : qB) (σ : qM) (x23 x24 x25 x26 x27 : Int32) : qR :=
  q_nm (σ 0 10) fun x31 =>
  q_wt σ 4 1000 x31 x24 fun s32 =>
  q_nm (s32 0 10) fun x33 =>
  q_wt s32 5 1000 x33 x23 fun s34 =>
  q_nm (s34 0 10) fun x35 =>
  q_wt s34 6 1000 x35 x25 fun s36 =>
  q_nm (s36 0 10) fun x37 =>
  q_nm (((150 : Int32) + x26)) fun x38 =>
  q_rd s36 1 650 x38 fun x39 =>
  q_wt s36 7 1000 x37 x39 fun s40 =>
  q_nm (s40 0 10) fun x41 =>
  if x27 = 0 then (
  go 3 s40 [x23, x24, x25, x26, x41])
  else (
  q_rd s40 1 650 2 fun x48 =>
  if x48 = 2 then (
  go 4 s40 [x23, x24, x25, x26, x41, 16])
  else (
  go 3 s40 [x23, x24, x25, x26, x41]))
noncomputable def b_X8_tell_144 (go : qB) (σ : qM) (x43 x44 x45 x46 x47 : Int32) : qR :=
  q_nm (((250 : Int32) + x46)) fun x56 =>
  q_rd σ 1 650 x56 fun x57 =>
  go 4 σ [x43, x44, x45, x46, x47, x57]
noncomputable def b_X8_tell_155 (go : qB) (σ : qM) (x50 x51 x52 x53 x54 x55 : Int32) : qR :=
  q_wt σ 8 1000 x54 x55 fun s58 =>
  q_nm (s58 0 10) fun x59 =>
  q_nm (((450 : Int32) + x53)) fun x60 =>
  q_rd s58 1 650 x60 fun x61 =>
  q_wt s58 9 1000 x59 x61 fun s62 =>
  q_nm (s62 0 10) fun x63 =>
  q_nm ((x63 + 1)) fun x64 =>
  q_nm (q_wr s62 0 10 x64) fun s65 =>
  q_nm (x53 + 1) fun x66 =>
  go 0 s65 [x50, x51, x52, x66]
noncomputable def D_X8_tell (go : qB) : qB := fun i σ xs => if i = 0 then (match xs with | [x5, x6, x7, x8] => b_X8_tell_6 go σ x5 x6 x7 x8 | _ => none) else if i = 1 then (match xs with | [x17, x18, x19, x20, x21] => b_X8_tell_46 go σ x17 x18 x19 x20 x21 | _ => none) else if i = 2 then (match xs with | [x23, x24, x25, x26, x27] => b_X8_tell_66 go σ x23 x24 x25 x26 x27 | _ => none) else if i = 3 then (match xs with | [x43, x44, x45, x46, x47] => b_X8_tell_144 go σ x43 x44 x45 x46 x47 | _ => none) else if i = 4 then (match xs with | [x50, x51, x52, x53, x54, x55] => b_X8_tell_155 go σ x50 x51 x52 x53 x54 x55 | _ => none) else none
noncomputable def e_X8_tell (go : qB) (σ : qM) (x1 : Int32) (x2 : Int32) (x3 : Int32) : qR :=
  q_nm (((10 : Int32) * x1)) fun x4 =>
  go 0 σ [x1, x2, x3, x4]
noncomputable def f_X8_tell (σ : qM) (x1 : Int32) (x2 : Int32) (x3 : Int32) : qR := e_X8_tell (q_lim (D_X8_tell)) σ x1 x2 x3
/-! ===== VectorRoundsModel.become(III)V: world M ===== -/
noncomputable def b_X8_become_44 (σ : qM) (x7 x8 x9 : Int32) : qR :=
  q_nm (((250 : Int32) + x7)) fun x16 =>
  q_wt σ 1 650 x16 x8 fun s17 =>
  q_nm (((350 : Int32) + x7)) fun x18 =>
  q_wt s17 1 650 x18 x9 fun s19 =>
  some (0, s19)
noncomputable def f_X8_become (σ : qM) (x1 : Int32) (x2 : Int32) (x3 : Int32) : qR :=
  q_nm (((250 : Int32) + x1)) fun x4 =>
  q_rd σ 1 650 x4 fun x5 =>
  if (16 : Int32) ≤ x5 then (
  b_X8_become_44 σ x1 x2 x3)
  else (
  if x2 = 16 then (
  q_nm (((550 : Int32) + x1)) fun x11 =>
  q_rd σ 1 650 5 fun x12 =>
  q_rd σ 1 650 4 fun x13 =>
  q_nm ((x12 + x13)) fun x14 =>
  q_wt σ 1 650 x11 x14 fun s15 =>
  b_X8_become_44 s15 x1 x2 x3)
  else (
  b_X8_become_44 σ x1 x2 x3))
/-! ===== VectorRoundsModel.receive(I)V: world M ===== -/
noncomputable def b_X8_receive_216 (σ : qM) (x47 x48 x49 x50 : Int32) : qR :=
  q_cl (f_X8_become σ x50 x49 x48) (fun τ => τ) fun _ s60 =>
  q_nm (((450 : Int32) + x50)) fun x61 =>
  q_rd s60 9 1000 x47 fun x62 =>
  q_wt s60 1 650 x61 x62 fun s63 =>
  some (0, s63)
noncomputable def b_X8_receive_132 (σ : qM) (x25 x26 x27 x28 x29 : Int32) : qR :=
  q_rd σ 1 650 3 fun x34 =>
  if x34 = 0 then (
  q_nm (((350 : Int32) + x28)) fun x54 =>
  q_rd σ 1 650 x54 fun x55 =>
  if x55 = x26 then (
  q_cl (f_X8_become σ x28 x27 x26) (fun τ => τ) fun _ s57 =>
  some (0, s57))
  else (
  if x29 = 0 then (
  some (0, σ))
  else (
  q_cl (f_X8_become σ x28 x27 x26) (fun τ => τ) fun _ s59 =>
  some (0, s59))))
  else (
  q_rd σ 9 1000 x25 fun x36 =>
  q_nm (((450 : Int32) + x28)) fun x37 =>
  q_rd σ 1 650 x37 fun x38 =>
  if x36 ≤ x38 then (
  q_rd σ 9 1000 x25 fun x40 =>
  q_nm (((450 : Int32) + x28)) fun x41 =>
  q_rd σ 1 650 x41 fun x42 =>
  if x40 = x42 then (
  if x29 = 0 then (
  some (0, σ))
  else (
  q_cl (f_X8_become σ x28 x27 x26) (fun τ => τ) fun _ s45 =>
  some (0, s45)))
  else (
  some (0, σ)))
  else (
  if x27 = 16 then (
  q_nm (((350 : Int32) + x28)) fun x51 =>
  q_rd σ 1 650 x51 fun x52 =>
  if x52 = x26 then (
  b_X8_receive_216 σ x25 x26 x27 x28)
  else (
  some (0, σ)))
  else (
  b_X8_receive_216 σ x25 x26 x27 x28)))
noncomputable def b_X8_receive_131 (σ : qM) (x17 x18 x19 x20 : Int32) : qR :=
  b_X8_receive_132 σ x17 x18 x19 x20 0
noncomputable def f_X8_receive (σ : qM) (x1 : Int32) : qR :=
  q_rd σ 4 1000 x1 fun x2 =>
  q_rd σ 5 1000 x1 fun x3 =>
  q_rd σ 7 1000 x1 fun x4 =>
  if x4 = x2 then (
  some (0, σ))
  else (
  q_rd σ 8 1000 x1 fun x6 =>
  q_rd σ 6 1000 x1 fun x7 =>
  q_nm ((x6 + x7)) fun x8 =>
  q_nm (if x8 < 16 then x8 else 16) fun x9 =>
  q_rd σ 7 1000 x1 fun x10 =>
  q_cl (f_X8_entryOf σ x2 x10) (fun τ => τ) fun x12 s11 =>
  if (0 : Int32) ≤ x12 then (
  q_nm (((250 : Int32) + x12)) fun x14 =>
  q_rd s11 1 650 x14 fun x15 =>
  if x15 ≤ x9 then (
  b_X8_receive_131 s11 x1 x3 x9 x12)
  else (
  q_nm (((550 : Int32) + x12)) fun x21 =>
  q_rd s11 1 650 x21 fun x22 =>
  q_rd s11 1 650 5 fun x23 =>
  if x23 ≤ x22 then (
  b_X8_receive_131 s11 x1 x3 x9 x12)
  else (
  b_X8_receive_132 s11 x1 x3 x9 x12 1)))
  else (
  if (16 : Int32) ≤ x9 then (
  some (0, s11))
  else (
  q_rd s11 7 1000 x1 fun x31 =>
  q_rd s11 9 1000 x1 fun x32 =>
  q_cl (f_X8_know s11 x2 x31 x9 x3 x32) (fun τ => τ) fun _ s33 =>
  some (0, s33))))
/-! ===== VectorRoundsModel.goRound()I: world M ===== -/
noncomputable def b_X8_goRound_2 (go : qB) (σ : qM) (x1 : Int32) : qR :=
  q_rd σ 1 650 0 fun x2 =>
  if x2 ≤ x1 then (
  go 1 σ [0])
  else (
  q_nm (((130 : Int32) + x1)) fun x5 =>
  q_rd σ 1 650 x5 fun x6 =>
  q_wt σ 10 10 x1 x6 fun s7 =>
  q_nm (x1 + 1) fun x8 =>
  go 0 s7 [x8])
noncomputable def b_X8_goRound_36 (go : qB) (σ : qM) (x4 : Int32) : qR :=
  if (100 : Int32) ≤ x4 then (
  q_rd σ 1 650 5 fun x10 =>
  q_nm ((x10 + 1)) fun x11 =>
  q_wt σ 1 650 5 x11 fun s12 =>
  q_rd s12 1 650 3 fun x13 =>
  if x13 = 1 then (
  go 3 s12 [0])
  else (
  q_nm (q_wr s12 0 10 0) fun s15 =>
  go 2 s15 [0]))
  else (
  q_nm (((250 : Int32) + x4)) fun x18 =>
  q_rd σ 1 650 x18 fun x19 =>
  q_nm (((100 : Int32) * x19)) fun x20 =>
  q_nm (((350 : Int32) + x4)) fun x21 =>
  q_rd σ 1 650 x21 fun x22 =>
  q_nm ((x20 + x22)) fun x23 =>
  q_wt σ 11 100 x4 x23 fun s24 =>
  q_nm (x4 + 1) fun x25 =>
  go 1 s24 [x25])
noncomputable def b_X8_goRound_140 (go : qB) (σ : qM) (x16 : Int32) : qR :=
  q_rd σ 1 650 0 fun x26 =>
  if x26 ≤ x16 then (
  q_rd σ 1 650 6 fun x28 =>
  q_nm (σ 0 10) fun x29 =>
  q_nm ((x28 + x29)) fun x30 =>
  q_wt σ 1 650 6 x30 fun s31 =>
  go 4 s31 [0])
  else (
  go 5 σ [x16, 0])
noncomputable def b_X8_goRound_100 (go : qB) (σ : qM) (x17 : Int32) : qR :=
  q_rd σ 1 650 0 fun x35 =>
  if x35 ≤ x17 then (
  q_nm (q_wr σ 0 10 0) fun s37 =>
  go 2 s37 [0])
  else (
  q_nm (((10 : Int32) * x17)) fun x38 =>
  q_nm (((450 : Int32) + x38)) fun x39 =>
  q_rd σ 1 650 x39 fun x40 =>
  q_nm ((x40 + 2)) fun x41 =>
  q_wt σ 1 650 x39 x41 fun s42 =>
  q_nm (x17 + 1) fun x43 =>
  go 3 s42 [x43])
noncomputable def b_X8_goRound_238 (go : qB) (σ : qM) (x32 : Int32) : qR :=
  q_nm (σ 0 10) fun x44 =>
  if x44 ≤ x32 then (
  go 6 σ [0, 0])
  else (
  q_cl (f_X8_receive σ x32) (fun τ => τ) fun _ s48 =>
  q_nm (x32 + 1) fun x49 =>
  go 4 s48 [x49])
noncomputable def b_X8_goRound_152 (go : qB) (σ : qM) (x33 x34 : Int32) : qR :=
  q_rd σ 1 650 0 fun x50 =>
  if x50 ≤ x34 then (
  q_nm (x33 + 1) fun x52 =>
  go 2 σ [x52])
  else (
  if x34 = x33 then (
  go 7 σ [x33, x34, (-1)])
  else (
  q_cl (f_X8_linkOf σ x33 x34) (fun τ => τ) fun x55 s54 =>
  go 7 s54 [x33, x34, x55]))
noncomputable def b_X8_goRound_261 (go : qB) (σ : qM) (x46 x47 : Int32) : qR :=
  q_rd σ 1 650 0 fun x59 =>
  if x59 ≤ x47 then (
  some (x46, σ))
  else (
  go 8 σ [x46, x47, 0])
noncomputable def b_X8_goRound_177 (go : qB) (σ : qM) (x56 x57 x58 : Int32) : qR :=
  if x58 < 0 then (
  q_nm (x57 + 1) fun x65 =>
  go 5 σ [x56, x65])
  else (
  q_nm (((100 : Int32) + x58)) fun x66 =>
  q_rd σ 1 650 x66 fun x67 =>
  if x67 = 1 then (
  q_nm (((70 : Int32) + x58)) fun x70 =>
  q_rd σ 1 650 x70 fun x71 =>
  q_cl (f_X8_tell σ x56 x57 x71) (fun τ => τ) fun _ s72 =>
  q_nm (x57 + 1) fun x73 =>
  go 5 s72 [x56, x73])
  else (
  q_nm (x57 + 1) fun x69 =>
  go 5 σ [x56, x69]))
noncomputable def b_X8_goRound_273 (go : qB) (σ : qM) (x61 x62 x63 : Int32) : qR :=
  q_nm (((130 : Int32) + x62)) fun x74 =>
  q_rd σ 1 650 x74 fun x75 =>
  if x75 ≤ x63 then (
  q_nm (x62 + 1) fun x77 =>
  go 6 σ [x61, x77])
  else (
  q_nm (((10 : Int32) * x62)) fun x78 =>
  q_nm ((x78 + x63)) fun x79 =>
  q_rd σ 10 10 x62 fun x80 =>
  if x80 ≤ x63 then (
  q_nm (x61 + 1) fun x82 =>
  q_nm (x63 + 1) fun x83 =>
  go 8 σ [x82, x62, x83])
  else (
  q_nm (((250 : Int32) + x79)) fun x84 =>
  q_rd σ 1 650 x84 fun x85 =>
  q_nm (((100 : Int32) * x85)) fun x86 =>
  q_nm (((350 : Int32) + x79)) fun x87 =>
  q_rd σ 1 650 x87 fun x88 =>
  q_nm ((x86 + x88)) fun x89 =>
  q_rd σ 11 100 x79 fun x90 =>
  if x89 = x90 then (
  q_nm (x63 + 1) fun x92 =>
  go 8 σ [x61, x62, x92])
  else (
  q_nm (x61 + 1) fun x93 =>
  q_nm (x63 + 1) fun x94 =>
  go 8 σ [x93, x62, x94])))
noncomputable def D_X8_goRound (go : qB) : qB := fun i σ xs => if i = 0 then (match xs with | [x1] => b_X8_goRound_2 go σ x1 | _ => none) else if i = 1 then (match xs with | [x4] => b_X8_goRound_36 go σ x4 | _ => none) else if i = 2 then (match xs with | [x16] => b_X8_goRound_140 go σ x16 | _ => none) else if i = 3 then (match xs with | [x17] => b_X8_goRound_100 go σ x17 | _ => none) else if i = 4 then (match xs with | [x32] => b_X8_goRound_238 go σ x32 | _ => none) else if i = 5 then (match xs with | [x33, x34] => b_X8_goRound_152 go σ x33 x34 | _ => none) else if i = 6 then (match xs with | [x46, x47] => b_X8_goRound_261 go σ x46 x47 | _ => none) else if i = 7 then (match xs with | [x56, x57, x58] => b_X8_goRound_177 go σ x56 x57 x58 | _ => none) else if i = 8 then (match xs with | [x61, x62, x63] => b_X8_goRound_273 go σ x61 x62 x63 | _ => none) else none
noncomputable def e_X8_goRound (go : qB) (σ : qM) : qR :=
  go 0 σ [0]
noncomputable def f_X8_goRound (σ : qM) : qR := e_X8_goRound (q_lim (D_X8_goRound)) σ
/-! ===== VectorRoundsModel.rounds(I)I: world M ===== -/
noncomputable def b_X8_rounds_16 (go : qB) (σ : qM) (x5 x6 x7 : Int32) : qR :=
  if x5 ≤ x7 then (
  some (x6, σ))
  else (
  q_cl (f_X8_goRound σ) (fun τ => τ) fun x10 s9 =>
  q_nm ((x6 + x10)) fun x11 =>
  q_nm (x7 + 1) fun x12 =>
  go 0 s9 [x5, x11, x12])
noncomputable def D_X8_rounds (go : qB) : qB := fun i σ xs => if i = 0 then (match xs with | [x5, x6, x7] => b_X8_rounds_16 go σ x5 x6 x7 | _ => none) else none
noncomputable def e_X8_rounds (go : qB) (σ : qM) (x1 : Int32) : qR :=
  q_cl (f_X8_in σ x1 1 80) (fun _ => σ) fun x3 s2 =>
  if x3 = 0 then (
  some ((-1), s2))
  else (
  go 0 s2 [x1, 0, 0])
noncomputable def f_X8_rounds (σ : qM) (x1 : Int32) : qR := e_X8_rounds (q_lim (D_X8_rounds)) σ x1
/-! ===== VectorRoundsModel.entry(III)I: world M ===== -/
noncomputable def f_X8_entry (σ : qM) (x1 : Int32) (x2 : Int32) (x3 : Int32) : qR :=
  q_cl (f_X8_isRouter σ x1) (fun τ => τ) fun x5 s4 =>
  if x5 = 0 then (
  some ((-1), s4))
  else (
  q_cl (f_X8_isRouter s4 x2) (fun τ => τ) fun x8 s7 =>
  if x8 = 0 then (
  some ((-1), s7))
  else (
  q_cl (f_X8_in s7 x3 0 4) (fun _ => s7) fun x11 s10 =>
  if x11 = 0 then (
  some ((-1), s10))
  else (
  q_cl (f_X8_entryOf s10 x1 x2) (fun τ => τ) fun x14 s13 =>
  if (0 : Int32) ≤ x14 then (
  if x3 = 0 then (
  q_nm (((250 : Int32) + x14)) fun x17 =>
  q_rd s13 1 650 x17 fun x18 =>
  some (x18, s13))
  else if x3 = 1 then (
  q_nm (((350 : Int32) + x14)) fun x20 =>
  q_rd s13 1 650 x20 fun x21 =>
  some (x21, s13))
  else if x3 = 2 then (
  q_nm (((450 : Int32) + x14)) fun x23 =>
  q_rd s13 1 650 x23 fun x24 =>
  some (x24, s13))
  else if x3 = 3 then (
  q_nm (((550 : Int32) + x14)) fun x26 =>
  q_rd s13 1 650 x26 fun x27 =>
  some (x27, s13))
  else (
  q_nm (((10 : Int32) * x1)) fun x28 =>
  q_nm ((x14 - x28)) fun x29 =>
  some (x29, s13)))
  else (
  some ((-2), s13)))))
/-! ===== VectorRoundsModel.known(II)I: world M ===== -/
noncomputable def f_X8_known (σ : qM) (x1 : Int32) (x2 : Int32) : qR :=
  q_cl (f_X8_isRouter σ x1) (fun τ => τ) fun x4 s3 =>
  if x4 = 0 then (
  some ((-1), s3))
  else (
  if (0 : Int32) ≤ x2 then (
  q_nm (((130 : Int32) + x1)) fun x7 =>
  q_rd s3 1 650 x7 fun x8 =>
  if x8 ≤ x2 then (
  some ((-2), s3))
  else (
  q_nm (((10 : Int32) * x1)) fun x10 =>
  q_nm (((150 : Int32) + x10)) fun x11 =>
  q_nm ((x11 + x2)) fun x12 =>
  q_rd s3 1 650 x12 fun x13 =>
  some (x13, s3)))
  else (
  some ((-1), s3)))
noncomputable def f_X8_wake (σ : qM) : qR := some (0, q_sw σ)
noncomputable def f_X8_think (σ : qM) : qR := q_cl (f_X8_copy (q_sub2 1 1 2 σ)) (q_put2 1 1 1 2 σ) fun _ s => some (0, q_sw s)
/-! ===== VectorRoundsModel.nextOf(II)I: world M ===== -/
noncomputable def f_X8_nextOf (σ : qM) (x1 : Int32) (x2 : Int32) : qR :=
  q_cl (f_X8_entryOf σ x1 x2) (fun τ => τ) fun x4 s3 =>
  if x4 < 0 then (
  some ((-1), s3))
  else (
  q_nm (((250 : Int32) + x4)) fun x6 =>
  q_rd s3 1 650 x6 fun x7 =>
  if x7 < 16 then (
  q_nm (((350 : Int32) + x4)) fun x9 =>
  q_rd s3 1 650 x9 fun x10 =>
  some (x10, s3))
  else (
  some ((-1), s3)))
/-! ===== VectorRoundsModel.isOnWay(I)Z: world M ===== -/
noncomputable def b_X8_isOnWay_2 (go : qB) (σ : qM) (x2 x3 : Int32) : qR :=
  q_nm (σ 0 14) fun x4 =>
  if x4 ≤ x3 then (
  q_bo 0 (some (0, σ)))
  else (
  q_rd σ 12 10 x3 fun x6 =>
  if x6 = x2 then (
  q_bo 1 (some (1, σ)))
  else (
  q_nm (x3 + 1) fun x8 =>
  go 0 σ [x2, x8]))
noncomputable def D_X8_isOnWay (go : qB) : qB := fun i σ xs => if i = 0 then (match xs with | [x2, x3] => b_X8_isOnWay_2 go σ x2 x3 | _ => none) else none
noncomputable def e_X8_isOnWay (go : qB) (σ : qM) (x1 : Int32) : qR :=
  go 0 σ [x1, 0]
noncomputable def f_X8_isOnWay (σ : qM) (x1 : Int32) : qR := e_X8_isOnWay (q_lim (D_X8_isOnWay)) σ x1
/-! ===== VectorRoundsModel.goWay(II)I: world M ===== -/
noncomputable def b_X8_goWay_12 (go : qB) (σ : qM) (x5 : Int32) : qR :=
  q_nm (σ 0 14) fun x6 =>
  q_nm ((x6 - 1)) fun x7 =>
  q_rd σ 12 10 x7 fun x8 =>
  if x8 = x5 then (
  some (1, σ))
  else (
  q_nm (σ 0 14) fun x10 =>
  q_nm ((x10 - 1)) fun x11 =>
  q_rd σ 12 10 x11 fun x12 =>
  q_cl (f_X8_nextOf σ x12 x5) (fun τ => τ) fun x14 s13 =>
  if (0 : Int32) ≤ x14 then (
  q_cl (f_X8_isOnWay s13 x14) (fun τ => τ) fun x17 s16 =>
  if x17 = 0 then (
  q_nm (s16 0 14) fun x19 =>
  q_wt s16 12 10 x19 x14 fun s20 =>
  q_nm (s20 0 14) fun x21 =>
  q_nm ((x21 + 1)) fun x22 =>
  q_nm (q_wr s20 0 14 x22) fun s23 =>
  go 0 s23 [x5])
  else (
  some (2, s16)))
  else (
  some (0, s13)))
noncomputable def D_X8_goWay (go : qB) : qB := fun i σ xs => if i = 0 then (match xs with | [x5] => b_X8_goWay_12 go σ x5 | _ => none) else none
noncomputable def e_X8_goWay (go : qB) (σ : qM) (x1 : Int32) (x2 : Int32) : qR :=
  q_wt σ 12 10 0 x1 fun s3 =>
  q_nm (q_wr s3 0 14 1) fun s4 =>
  go 0 s4 [x2]
noncomputable def f_X8_goWay (σ : qM) (x1 : Int32) (x2 : Int32) : qR := e_X8_goWay (q_lim (D_X8_goWay)) σ x1 x2
/-! ===== VectorRoundsModel.loops()I: world M ===== -/
noncomputable def b_X8_loops_4 (go : qB) (σ : qM) (x1 x2 : Int32) : qR :=
  q_rd σ 1 650 0 fun x3 =>
  if x3 ≤ x2 then (
  some (x1, σ))
  else (
  go 1 σ [x1, x2, 0])
noncomputable def b_X8_loops_16 (go : qB) (σ : qM) (x5 x6 x7 : Int32) : qR :=
  q_rd σ 1 650 0 fun x8 =>
  if x8 ≤ x7 then (
  q_nm (x6 + 1) fun x10 =>
  go 0 σ [x5, x10])
  else (
  q_cl (f_X8_goWay σ x6 x7) (fun τ => τ) fun x12 s11 =>
  if x12 = 2 then (
  q_nm (x5 + 1) fun x15 =>
  q_nm (x7 + 1) fun x16 =>
  go 1 s11 [x15, x6, x16])
  else (
  q_nm (x7 + 1) fun x14 =>
  go 1 s11 [x5, x6, x14]))
noncomputable def D_X8_loops (go : qB) : qB := fun i σ xs => if i = 0 then (match xs with | [x1, x2] => b_X8_loops_4 go σ x1 x2 | _ => none) else if i = 1 then (match xs with | [x5, x6, x7] => b_X8_loops_16 go σ x5 x6 x7 | _ => none) else none
noncomputable def e_X8_loops (go : qB) (σ : qM) : qR :=
  go 0 σ [0, 0]
noncomputable def f_X8_loops (σ : qM) : qR := e_X8_loops (q_lim (D_X8_loops)) σ
/-! ===== VectorRoundsModel.way(III)I: world M ===== -/
noncomputable def f_X8_way (σ : qM) (x1 : Int32) (x2 : Int32) (x3 : Int32) : qR :=
  q_cl (f_X8_isRouter σ x1) (fun τ => τ) fun x5 s4 =>
  if x5 = 0 then (
  some ((-1), s4))
  else (
  q_cl (f_X8_isRouter s4 x2) (fun τ => τ) fun x8 s7 =>
  if x8 = 0 then (
  some ((-1), s7))
  else (
  if (-1 : Int32) ≤ x3 then (
  q_cl (f_X8_goWay s7 x1 x2) (fun τ => τ) fun x12 s11 =>
  if (0 : Int32) ≤ x3 then (
  q_nm (s11 0 14) fun x14 =>
  if x14 ≤ x3 then (
  some ((-2), s11))
  else (
  q_rd s11 12 10 x3 fun x16 =>
  some (x16, s11)))
  else (
  q_nm (s11 0 14) fun x17 =>
  some (x17, s11)))
  else (
  some ((-1), s7))))
/-! ===== VectorRoundsModel.ends(II)I: world M ===== -/
noncomputable def f_X8_ends (σ : qM) (x1 : Int32) (x2 : Int32) : qR :=
  q_cl (f_X8_isRouter σ x1) (fun τ => τ) fun x4 s3 =>
  if x4 = 0 then (
  some ((-1), s3))
  else (
  q_cl (f_X8_isRouter s3 x2) (fun τ => τ) fun x7 s6 =>
  if x7 = 0 then (
  some ((-1), s6))
  else (
  q_cl (f_X8_goWay s6 x1 x2) (fun τ => τ) fun x10 s9 =>
  some (x10, s9)))
/-! ===== VectorRoundsModel.shortestBut(III)I: world M ===== -/
noncomputable def b_X8_shortestBut_3 (go : qB) (σ : qM) (x4 x5 x6 x7 : Int32) : qR :=
  if (10 : Int32) ≤ x7 then (
  go 1 σ [x5, x6, 0])
  else (
  if x7 = x4 then (
  q_wt σ 13 10 x7 0 fun s15 =>
  q_nm (x7 + 1) fun x16 =>
  go 0 s15 [x4, x5, x6, x16])
  else (
  q_wt σ 13 10 x7 1000 fun s13 =>
  q_nm (x7 + 1) fun x14 =>
  go 0 s13 [x4, x5, x6, x14]))
noncomputable def b_X8_shortestBut_39 (go : qB) (σ : qM) (x9 x10 x11 : Int32) : qR :=
  if (10 : Int32) ≤ x11 then (
  q_rd σ 13 10 x9 fun x18 =>
  if x18 < 1000 then (
  q_rd σ 13 10 x9 fun x20 =>
  some (x20, σ))
  else (
  some ((-2), σ)))
  else (
  go 2 σ [x9, x10, x11, 0])
noncomputable def b_X8_shortestBut_49 (go : qB) (σ : qM) (x21 x22 x23 x24 : Int32) : qR :=
  q_rd σ 1 650 1 fun x25 =>
  if x25 ≤ x24 then (
  q_nm (x23 + 1) fun x27 =>
  go 1 σ [x21, x22, x27])
  else (
  q_nm (((100 : Int32) + x24)) fun x28 =>
  q_rd σ 1 650 x28 fun x29 =>
  if x29 = 0 then (
  q_nm (x24 + 1) fun x31 =>
  go 2 σ [x21, x22, x23, x31])
  else (
  if x24 = x22 then (
  q_nm (x24 + 1) fun x52 =>
  go 2 σ [x21, x22, x23, x52])
  else (
  q_nm (((10 : Int32) + x24)) fun x33 =>
  q_rd σ 1 650 x33 fun x34 =>
  q_nm (((40 : Int32) + x24)) fun x35 =>
  q_rd σ 1 650 x35 fun x36 =>
  q_rd σ 13 10 x34 fun x37 =>
  q_rd σ 13 10 x36 fun x38 =>
  q_nm (((70 : Int32) + x24)) fun x39 =>
  q_rd σ 1 650 x39 fun x40 =>
  q_nm ((x38 + x40)) fun x41 =>
  q_nm (if x41 < x37 then x41 else x37) fun x42 =>
  q_wt σ 13 10 x34 x42 fun s43 =>
  q_rd s43 13 10 x36 fun x44 =>
  q_rd s43 13 10 x34 fun x45 =>
  q_nm (((70 : Int32) + x24)) fun x46 =>
  q_rd s43 1 650 x46 fun x47 =>
  q_nm ((x45 + x47)) fun x48 =>
  q_nm (if x48 < x44 then x48 else x44) fun x49 =>
  q_wt s43 13 10 x36 x49 fun s50 =>
  q_nm (x24 + 1) fun x51 =>
  go 2 s50 [x21, x22, x23, x51])))
noncomputable def D_X8_shortestBut (go : qB) : qB := fun i σ xs => if i = 0 then (match xs with | [x4, x5, x6, x7] => b_X8_shortestBut_3 go σ x4 x5 x6 x7 | _ => none) else if i = 1 then (match xs with | [x9, x10, x11] => b_X8_shortestBut_39 go σ x9 x10 x11 | _ => none) else if i = 2 then (match xs with | [x21, x22, x23, x24] => b_X8_shortestBut_49 go σ x21 x22 x23 x24 | _ => none) else none
noncomputable def e_X8_shortestBut (go : qB) (σ : qM) (x1 : Int32) (x2 : Int32) (x3 : Int32) : qR :=
  go 0 σ [x1, x2, x3, 0]
noncomputable def f_X8_shortestBut (σ : qM) (x1 : Int32) (x2 : Int32) (x3 : Int32) : qR := e_X8_shortestBut (q_lim (D_X8_shortestBut)) σ x1 x2 x3
/-! ===== VectorRoundsModel.shortest(II)I: world M ===== -/
noncomputable def f_X8_shortest (σ : qM) (x1 : Int32) (x2 : Int32) : qR :=
  q_cl (f_X8_isRouter σ x1) (fun τ => τ) fun x4 s3 =>
  if x4 = 0 then (
  some ((-1), s3))
  else (
  q_cl (f_X8_isRouter s3 x2) (fun τ => τ) fun x7 s6 =>
  if x7 = 0 then (
  some ((-1), s6))
  else (
  q_cl (f_X8_shortestBut s6 x1 x2 (-1)) (fun τ => τ) fun x10 s9 =>
  some (x10, s9)))
/-! ===== VectorRoundsModel.right()I: world M ===== -/
noncomputable def b_X8_right_4 (go : qB) (σ : qM) (x1 x2 : Int32) : qR :=
  q_rd σ 1 650 0 fun x3 =>
  if x3 ≤ x2 then (
  some (x1, σ))
  else (
  go 1 σ [x1, x2, 0])
noncomputable def b_X8_right_16 (go : qB) (σ : qM) (x5 x6 x7 : Int32) : qR :=
  q_rd σ 1 650 0 fun x8 =>
  if x8 ≤ x7 then (
  q_nm (x6 + 1) fun x10 =>
  go 0 σ [x5, x10])
  else (
  q_cl (f_X8_shortestBut σ x6 x7 (-1)) (fun τ => τ) fun x12 s11 =>
  q_cl (f_X8_entryOf s11 x6 x7) (fun τ => τ) fun x14 s13 =>
  if (0 : Int32) ≤ x14 then (
  q_nm (((250 : Int32) + x14)) fun x16 =>
  q_rd s13 1 650 x16 fun x17 =>
  go 2 s13 [x5, x6, x7, x12, x17])
  else (
  go 2 s13 [x5, x6, x7, x12, 16]))
noncomputable def b_X8_right_64 (go : qB) (σ : qM) (x18 x19 x20 x21 x22 : Int32) : qR :=
  if x21 = (-2) then (
  go 3 σ [x18, x19, x20, x22, 16])
  else (
  q_nm (if x21 < 16 then x21 else 16) fun x24 =>
  go 3 σ [x18, x19, x20, x22, x24])
noncomputable def b_X8_right_83 (go : qB) (σ : qM) (x25 x26 x27 x28 x29 : Int32) : qR :=
  if x28 = x29 then (
  q_nm (x25 + 1) fun x32 =>
  q_nm (x27 + 1) fun x33 =>
  go 1 σ [x32, x26, x33])
  else (
  q_nm (x27 + 1) fun x31 =>
  go 1 σ [x25, x26, x31])
noncomputable def D_X8_right (go : qB) : qB := fun i σ xs => if i = 0 then (match xs with | [x1, x2] => b_X8_right_4 go σ x1 x2 | _ => none) else if i = 1 then (match xs with | [x5, x6, x7] => b_X8_right_16 go σ x5 x6 x7 | _ => none) else if i = 2 then (match xs with | [x18, x19, x20, x21, x22] => b_X8_right_64 go σ x18 x19 x20 x21 x22 | _ => none) else if i = 3 then (match xs with | [x25, x26, x27, x28, x29] => b_X8_right_83 go σ x25 x26 x27 x28 x29 | _ => none) else none
noncomputable def e_X8_right (go : qB) (σ : qM) : qR :=
  go 0 σ [0, 0]
noncomputable def f_X8_right (σ : qM) : qR := e_X8_right (q_lim (D_X8_right)) σ
/-! ===== VectorRoundsModel.needed()I: world M ===== -/
noncomputable def b_X8_needed_4 (go : qB) (σ : qM) (x1 x2 : Int32) : qR :=
  q_rd σ 1 650 1 fun x3 =>
  if x3 ≤ x2 then (
  some (x1, σ))
  else (
  q_nm (((100 : Int32) + x2)) fun x5 =>
  q_rd σ 1 650 x5 fun x6 =>
  if x6 = 1 then (
  q_nm (((10 : Int32) + x2)) fun x9 =>
  q_rd σ 1 650 x9 fun x10 =>
  q_nm (((40 : Int32) + x2)) fun x11 =>
  q_rd σ 1 650 x11 fun x12 =>
  q_cl (f_X8_shortestBut σ x10 x12 x2) (fun τ => τ) fun x14 s13 =>
  if x14 = (-2) then (
  q_nm (x1 + 1) fun x17 =>
  q_nm (x2 + 1) fun x18 =>
  go 0 s13 [x17, x18])
  else (
  q_nm (x2 + 1) fun x16 =>
  go 0 s13 [x1, x16]))
  else (
  q_nm (x2 + 1) fun x8 =>
  go 0 σ [x1, x8]))
noncomputable def D_X8_needed (go : qB) : qB := fun i σ xs => if i = 0 then (match xs with | [x1, x2] => b_X8_needed_4 go σ x1 x2 | _ => none) else none
noncomputable def e_X8_needed (go : qB) (σ : qM) : qR :=
  go 0 σ [0, 0]
noncomputable def f_X8_needed (σ : qM) : qR := e_X8_needed (q_lim (D_X8_needed)) σ
/-! ===== VectorRoundsModel.settled()I: world M ===== -/
noncomputable def b_X8_settled_2 (go : qB) (σ : qM) (x1 : Int32) : qR :=
  if (80 : Int32) < x1 then (
  some ((-2), σ))
  else (
  q_cl (f_X8_goRound σ) (fun τ => τ) fun x4 s3 =>
  if x4 = 0 then (
  some (x1, s3))
  else (
  q_nm (x1 + 1) fun x6 =>
  go 0 s3 [x6]))
noncomputable def D_X8_settled (go : qB) : qB := fun i σ xs => if i = 0 then (match xs with | [x1] => b_X8_settled_2 go σ x1 | _ => none) else none
noncomputable def e_X8_settled (go : qB) (σ : qM) : qR :=
  go 0 σ [0]
noncomputable def f_X8_settled (σ : qM) : qR := e_X8_settled (q_lim (D_X8_settled)) σ
/-! ===== VectorRoundsModel.settledNow()I: world M ===== -/
noncomputable def f_X8_settledNow (σ : qM) : qR :=
  q_cl (f_X8_think σ) (fun τ => τ) fun _ s1 =>
  q_cl (f_X8_settled s1) (fun τ => τ) fun x3 s2 =>
  q_cl (f_X8_wake s2) (fun τ => τ) fun _ s4 =>
  some (x3, s4)
/-! ===== VectorRoundsModel.looped()I: world M ===== -/
noncomputable def b_X8_looped_9 (go : qB) (σ : qM) (x2 x3 : Int32) : qR :=
  if (80 : Int32) < x3 then (
  q_cl (f_X8_wake σ) (fun τ => τ) fun _ s5 =>
  some (x2, s5))
  else (
  if x2 = (-2) then (
  q_cl (f_X8_loops σ) (fun τ => τ) fun x9 s8 =>
  if x9 ≤ 0 then (
  q_cl (f_X8_goRound s8) (fun τ => τ) fun x12 s11 =>
  q_nm (x3 + 1) fun x13 =>
  go 0 s11 [x2, x13])
  else (
  q_cl (f_X8_goRound s8) (fun τ => τ) fun x15 s14 =>
  q_nm (x3 + 1) fun x16 =>
  go 0 s14 [x3, x16]))
  else (
  q_cl (f_X8_wake σ) (fun τ => τ) fun _ s7 =>
  some (x2, s7)))
noncomputable def D_X8_looped (go : qB) : qB := fun i σ xs => if i = 0 then (match xs with | [x2, x3] => b_X8_looped_9 go σ x2 x3 | _ => none) else none
noncomputable def e_X8_looped (go : qB) (σ : qM) : qR :=
  q_cl (f_X8_think σ) (fun τ => τ) fun _ s1 =>
  go 0 s1 [(-2), 0]
noncomputable def f_X8_looped (σ : qM) : qR := e_X8_looped (q_lim (D_X8_looped)) σ
/-! ===== VectorRoundsModel.worstCut()I: world M ===== -/
noncomputable def b_X8_worstCut_7 (go : qB) (σ : qM) (x1 x2 x3 : Int32) : qR :=
  q_rd σ 1 650 1 fun x4 =>
  if x4 ≤ x3 then (
  some (x1, σ))
  else (
  q_nm (((100 : Int32) + x3)) fun x6 =>
  q_rd σ 1 650 x6 fun x7 =>
  if x7 = 0 then (
  q_nm (x3 + 1) fun x19 =>
  go 0 σ [x1, x2, x19])
  else (
  q_cl (f_X8_think σ) (fun τ => τ) fun _ s9 =>
  q_cl (f_X8_cut s9 x3) (fun τ => τ) fun _ s10 =>
  q_cl (f_X8_settled s10) (fun τ => τ) fun x12 s11 =>
  q_cl (f_X8_wake s11) (fun τ => τ) fun _ s13 =>
  if x12 = (-2) then (
  go 1 s13 [x1, x2, x3, 1000])
  else (
  go 1 s13 [x1, x2, x3, x12])))
noncomputable def b_X8_worstCut_66 (go : qB) (σ : qM) (x15 x16 x17 x18 : Int32) : qR :=
  if x15 < 0 then (
  q_nm (x17 + 1) fun x21 =>
  go 0 σ [x17, x18, x21])
  else (
  if x16 < x18 then (
  q_nm (x17 + 1) fun x23 =>
  go 0 σ [x17, x18, x23])
  else (
  q_nm (x17 + 1) fun x24 =>
  go 0 σ [x15, x16, x24]))
noncomputable def D_X8_worstCut (go : qB) : qB := fun i σ xs => if i = 0 then (match xs with | [x1, x2, x3] => b_X8_worstCut_7 go σ x1 x2 x3 | _ => none) else if i = 1 then (match xs with | [x15, x16, x17, x18] => b_X8_worstCut_66 go σ x15 x16 x17 x18 | _ => none) else none
noncomputable def e_X8_worstCut (go : qB) (σ : qM) : qR :=
  go 0 σ [(-2), 0, 0]
noncomputable def f_X8_worstCut (σ : qM) : qR := e_X8_worstCut (q_lim (D_X8_worstCut)) σ
/-! ===== VectorRoundsModel.told(I)I: world M ===== -/
noncomputable def f_X8_told (σ : qM) (x1 : Int32) : qR :=
  if x1 = 0 then (
  q_cl (f_X8_settledNow σ) (fun τ => τ) fun x4 s3 =>
  some (x4, s3))
  else if x1 = 1 then (
  q_cl (f_X8_looped σ) (fun τ => τ) fun x7 s6 =>
  some (x7, s6))
  else if x1 = 2 then (
  q_cl (f_X8_loops σ) (fun τ => τ) fun x10 s9 =>
  some (x10, s9))
  else if x1 = 3 then (
  q_cl (f_X8_right σ) (fun τ => τ) fun x13 s12 =>
  some (x13, s12))
  else if x1 = 4 then (
  q_cl (f_X8_worstCut σ) (fun τ => τ) fun x16 s15 =>
  some (x16, s15))
  else if x1 = 5 then (
  q_cl (f_X8_needed σ) (fun τ => τ) fun x19 s18 =>
  some (x19, s18))
  else (
  some ((-1), σ))
/-! ===== VectorRoundsModel.then(IIII)I: world M ===== -/
noncomputable def b_X8_then_45 (go : qB) (σ : qM) (x18 x19 x20 x21 x22 : Int32) : qR :=
  if x20 ≤ x22 then (
  q_cl (f_X8_entryOf σ x18 x19) (fun τ => τ) fun x25 s24 =>
  if x21 = 2 then (
  q_cl (f_X8_loops s24) (fun τ => τ) fun x37 s36 =>
  q_cl (f_X8_wake s36) (fun τ => τ) fun _ s38 =>
  some (x37, s38))
  else (
  if (0 : Int32) ≤ x25 then (
  if x21 = 0 then (
  q_nm (((250 : Int32) + x25)) fun x32 =>
  q_rd s24 1 650 x32 fun x33 =>
  q_cl (f_X8_wake s24) (fun τ => τ) fun _ s34 =>
  some (x33, s34))
  else (
  q_nm (((350 : Int32) + x25)) fun x29 =>
  q_rd s24 1 650 x29 fun x30 =>
  q_cl (f_X8_wake s24) (fun τ => τ) fun _ s31 =>
  some (x30, s31)))
  else (
  q_cl (f_X8_wake s24) (fun τ => τ) fun _ s35 =>
  some ((-2), s35))))
  else (
  q_cl (f_X8_goRound σ) (fun τ => τ) fun x40 s39 =>
  q_nm (x22 + 1) fun x41 =>
  go 0 s39 [x18, x19, x20, x21, x41])
noncomputable def D_X8_then (go : qB) : qB := fun i σ xs => if i = 0 then (match xs with | [x18, x19, x20, x21, x22] => b_X8_then_45 go σ x18 x19 x20 x21 x22 | _ => none) else none
noncomputable def e_X8_then (go : qB) (σ : qM) (x1 : Int32) (x2 : Int32) (x3 : Int32) (x4 : Int32) : qR :=
  q_cl (f_X8_isRouter σ x1) (fun τ => τ) fun x6 s5 =>
  if x6 = 0 then (
  some ((-1), s5))
  else (
  q_cl (f_X8_isRouter s5 x2) (fun τ => τ) fun x9 s8 =>
  if x9 = 0 then (
  some ((-1), s8))
  else (
  q_cl (f_X8_in s8 x3 0 80) (fun _ => s8) fun x12 s11 =>
  if x12 = 0 then (
  some ((-1), s11))
  else (
  q_cl (f_X8_in s11 x4 0 2) (fun _ => s11) fun x15 s14 =>
  if x15 = 0 then (
  some ((-1), s14))
  else (
  q_cl (f_X8_think s14) (fun τ => τ) fun _ s17 =>
  go 0 s17 [x1, x2, x3, x4, 0]))))
noncomputable def f_X8_then (σ : qM) (x1 : Int32) (x2 : Int32) (x3 : Int32) (x4 : Int32) : qR := e_X8_then (q_lim (D_X8_then)) σ x1 x2 x3 x4
/-! ===== VectorRoundsModel.counts(II)I: world M ===== -/
noncomputable def b_X8_counts_28 (go : qB) (σ : qM) (x10 x11 x12 x13 : Int32) : qR :=
  if (80 : Int32) < x13 then (
  q_cl (f_X8_wake σ) (fun τ => τ) fun _ s15 =>
  some (x12, s15))
  else (
  if x12 = (-2) then (
  q_cl (f_X8_entryOf σ x10 x11) (fun τ => τ) fun x19 s18 =>
  if x19 < 0 then (
  q_cl (f_X8_goRound s18) (fun τ => τ) fun x22 s21 =>
  q_nm (x13 + 1) fun x23 =>
  go 0 s21 [x10, x11, x13, x23])
  else (
  q_nm (((250 : Int32) + x19)) fun x24 =>
  q_rd s18 1 650 x24 fun x25 =>
  if x25 = 16 then (
  q_cl (f_X8_goRound s18) (fun τ => τ) fun x31 s30 =>
  q_nm (x13 + 1) fun x32 =>
  go 0 s30 [x10, x11, x13, x32])
  else (
  q_cl (f_X8_goRound s18) (fun τ => τ) fun x28 s27 =>
  q_nm (x13 + 1) fun x29 =>
  go 0 s27 [x10, x11, x12, x29])))
  else (
  q_cl (f_X8_wake σ) (fun τ => τ) fun _ s17 =>
  some (x12, s17)))
noncomputable def D_X8_counts (go : qB) : qB := fun i σ xs => if i = 0 then (match xs with | [x10, x11, x12, x13] => b_X8_counts_28 go σ x10 x11 x12 x13 | _ => none) else none
noncomputable def e_X8_counts (go : qB) (σ : qM) (x1 : Int32) (x2 : Int32) : qR :=
  q_cl (f_X8_isRouter σ x1) (fun τ => τ) fun x4 s3 =>
  if x4 = 0 then (
  some ((-1), s3))
  else (
  q_cl (f_X8_isRouter s3 x2) (fun τ => τ) fun x7 s6 =>
  if x7 = 0 then (
  some ((-1), s6))
  else (
  q_cl (f_X8_think s6) (fun τ => τ) fun _ s9 =>
  go 0 s9 [x1, x2, (-2), 0]))
noncomputable def f_X8_counts (σ : qM) (x1 : Int32) (x2 : Int32) : qR := e_X8_counts (q_lim (D_X8_counts)) σ x1 x2
/-! ===== VectorRoundsModel.packet(IIII)I: world M ===== -/
noncomputable def b_X8_packet_48 (go : qB) (σ : qM) (x18 x19 x20 x21 x22 : Int32) : qR :=
  if x19 ≤ x22 then (
  go 1 σ [x20, x21, x22])
  else (
  if x21 = x18 then (
  go 1 σ [x20, x21, x22])
  else (
  q_cl (f_X8_nextOf σ x21 x18) (fun τ => τ) fun x29 s28 =>
  if x29 < 0 then (
  go 1 s28 [x20, x21, x22])
  else (
  q_cl (f_X8_nextOf s28 x21 x18) (fun τ => τ) fun x32 s31 =>
  q_nm (x22 + 1) fun x33 =>
  q_cl (f_X8_goRound s31) (fun τ => τ) fun x35 s34 =>
  go 0 s34 [x18, x19, x20, x32, x33])))
noncomputable def b_X8_packet_90 (go : qB) (σ : qM) (x24 x25 x26 : Int32) : qR :=
  q_cl (f_X8_wake σ) (fun τ => τ) fun _ s36 =>
  if x24 = 0 then (
  some (x25, s36))
  else (
  some (x26, s36))
noncomputable def D_X8_packet (go : qB) : qB := fun i σ xs => if i = 0 then (match xs with | [x18, x19, x20, x21, x22] => b_X8_packet_48 go σ x18 x19 x20 x21 x22 | _ => none) else if i = 1 then (match xs with | [x24, x25, x26] => b_X8_packet_90 go σ x24 x25 x26 | _ => none) else none
noncomputable def e_X8_packet (go : qB) (σ : qM) (x1 : Int32) (x2 : Int32) (x3 : Int32) (x4 : Int32) : qR :=
  q_cl (f_X8_isRouter σ x1) (fun τ => τ) fun x6 s5 =>
  if x6 = 0 then (
  some ((-1), s5))
  else (
  q_cl (f_X8_isRouter s5 x2) (fun τ => τ) fun x9 s8 =>
  if x9 = 0 then (
  some ((-1), s8))
  else (
  q_cl (f_X8_in s8 x3 1 40) (fun _ => s8) fun x12 s11 =>
  if x12 = 0 then (
  some ((-1), s11))
  else (
  q_cl (f_X8_in s11 x4 0 1) (fun _ => s11) fun x15 s14 =>
  if x15 = 0 then (
  some ((-1), s14))
  else (
  q_cl (f_X8_think s14) (fun τ => τ) fun _ s17 =>
  go 0 s17 [x2, x3, x4, x1, 0]))))
noncomputable def f_X8_packet (σ : qM) (x1 : Int32) (x2 : Int32) (x3 : Int32) (x4 : Int32) : qR := e_X8_packet (q_lim (D_X8_packet)) σ x1 x2 x3 x4
/-! ===== VectorRoundsModel.tried(I)I: world M ===== -/
noncomputable def b_X8_tried_20 (go : qB) (σ : qM) (x5 x6 x7 x8 : Int32) : qR :=
  if (6 : Int32) ≤ x8 then (
  if x5 = 0 then (
  q_dv 2 (q_nm (x6 / 2) fun x14 =>
  some (x14, σ)))
  else (
  if x5 = 1 then (
  q_dv 2 (q_nm (x6 - x6 / 2 * 2) fun x13 =>
  some (x13, σ)))
  else (
  if x7 = 1000 then (
  some ((-2), σ))
  else (
  some (x7, σ)))))
  else (
  q_cl (f_X8_think σ) (fun τ => τ) fun _ s15 =>
  q_dv 2 (q_nm (x8 / 2) fun x16 =>
  q_wt s15 1 650 2 x16 fun s17 =>
  q_dv 2 (q_nm (x8 - x8 / 2 * 2) fun x18 =>
  q_wt s17 1 650 3 x18 fun s19 =>
  q_cl (f_X8_settled s19) (fun τ => τ) fun x21 s20 =>
  q_cl (f_X8_wake s20) (fun τ => τ) fun _ s22 =>
  if x21 = (-2) then (
  go 1 s22 [x5, x6, x7, x8, 1000])
  else (
  go 1 s22 [x5, x6, x7, x8, x21]))))
noncomputable def b_X8_tried_76 (go : qB) (σ : qM) (x24 x25 x26 x27 x28 : Int32) : qR :=
  if x28 < x26 then (
  q_nm (x27 + 1) fun x30 =>
  go 0 σ [x24, x27, x28, x30])
  else (
  q_nm (x27 + 1) fun x31 =>
  go 0 σ [x24, x25, x26, x31])
noncomputable def D_X8_tried (go : qB) : qB := fun i σ xs => if i = 0 then (match xs with | [x5, x6, x7, x8] => b_X8_tried_20 go σ x5 x6 x7 x8 | _ => none) else if i = 1 then (match xs with | [x24, x25, x26, x27, x28] => b_X8_tried_76 go σ x24 x25 x26 x27 x28 | _ => none) else none
noncomputable def e_X8_tried (go : qB) (σ : qM) (x1 : Int32) : qR :=
  q_cl (f_X8_in σ x1 0 2) (fun _ => σ) fun x3 s2 =>
  if x3 = 0 then (
  some ((-1), s2))
  else (
  go 0 s2 [x1, 0, 2000, 0])
noncomputable def f_X8_tried (σ : qM) (x1 : Int32) : qR := e_X8_tried (q_lim (D_X8_tried)) σ x1
/-! ===== VectorRoundsModel.drawn(II)I: world M ===== -/
noncomputable def b_X8_drawn_30 (go : qB) (σ : qM) (x8 x9 x10 : Int32) : qR :=
  if x8 ≤ x10 then (
  q_rd σ 1 650 1 fun x12 =>
  some (x12, σ))
  else (
  q_nm ((x9 * 1103515245)) fun x13 =>
  q_nm ((x13 + 12345)) fun x14 =>
  q_nm (((x14.toUInt32 >>> ((16 : Int32).toUInt32 &&& Int32.toUInt32 31)).toInt32)) fun x15 =>
  q_nm ((x15 &&& 32767)) fun x16 =>
  q_rd σ 1 650 0 fun x17 =>
  q_dv x17 (q_nm (x16 - x16 / x17 * x17) fun x18 =>
  q_dv 10 (q_nm (x16 / 10) fun x19 =>
  q_rd σ 1 650 0 fun x20 =>
  q_dv x20 (q_nm (x19 - x19 / x20 * x20) fun x21 =>
  if x18 = x21 then (
  q_nm (x10 + 1) fun x36 =>
  go 0 σ [x8, x14, x36])
  else (
  q_cl (f_X8_linkOf σ x18 x21) (fun τ => τ) fun x24 s23 =>
  if (0 : Int32) ≤ x24 then (
  go 1 s23 [x8, x14, x10, x24])
  else (
  q_rd s23 1 650 1 fun x30 =>
  if (24 : Int32) ≤ x30 then (
  go 1 s23 [x8, x14, x10, x24])
  else (
  q_dv 100 (q_nm (x16 / 100) fun x32 =>
  q_dv 15 (q_nm (x32 - x32 / 15 * 15) fun x33 =>
  q_nm (((1 : Int32) + x33)) fun x34 =>
  q_cl (f_X8_addLink s23 x18 x21 x34) (fun τ => τ) fun _ s35 =>
  go 1 s35 [x8, x14, x10, x24])))))))))
noncomputable def b_X8_drawn_134 (go : qB) (σ : qM) (x26 x27 x28 x29 : Int32) : qR :=
  if (0 : Int32) ≤ x29 then (
  q_nm (((100 : Int32) + x29)) fun x38 =>
  q_rd σ 1 650 x38 fun x39 =>
  if x39 = 1 then (
  q_cl (f_X8_cut σ x29) (fun τ => τ) fun _ s44 =>
  q_nm (x28 + 1) fun x45 =>
  go 0 s44 [x26, x27, x45])
  else (
  q_nm (((100 : Int32) + x29)) fun x41 =>
  q_wt σ 1 650 x41 1 fun s42 =>
  q_nm (x28 + 1) fun x43 =>
  go 0 s42 [x26, x27, x43]))
  else (
  q_nm (x28 + 1) fun x46 =>
  go 0 σ [x26, x27, x46])
noncomputable def D_X8_drawn (go : qB) : qB := fun i σ xs => if i = 0 then (match xs with | [x8, x9, x10] => b_X8_drawn_30 go σ x8 x9 x10 | _ => none) else if i = 1 then (match xs with | [x26, x27, x28, x29] => b_X8_drawn_134 go σ x26 x27 x28 x29 | _ => none) else none
noncomputable def e_X8_drawn (go : qB) (σ : qM) (x1 : Int32) (x2 : Int32) : qR :=
  q_cl (f_X8_in σ x2 1 12) (fun _ => σ) fun x4 s3 =>
  if x4 = 0 then (
  some ((-1), s3))
  else (
  q_rd s3 1 650 0 fun x6 =>
  if (2 : Int32) ≤ x6 then (
  go 0 s3 [x2, x1, 0])
  else (
  some ((-5), s3)))
noncomputable def f_X8_drawn (σ : qM) (x1 : Int32) (x2 : Int32) : qR := e_X8_drawn (q_lim (D_X8_drawn)) σ x1 x2
/-! ===== VectorRoundsModel.feed(I)I: world M ===== -/
noncomputable def f_X8_feed (σ : qM) (x1 : Int32) : qR :=
  q_cl (f_X8_in σ x1 0 255) (fun _ => σ) fun x3 s2 =>
  if x3 = 0 then (
  some ((-1), s2))
  else (
  q_nm (s2 0 17) fun x5 =>
  if x5 = 120 then (
  some ((-3), s2))
  else (
  q_nm (s2 0 17) fun x7 =>
  q_wt s2 14 120 x7 x1 fun s8 =>
  q_nm (s8 0 17) fun x9 =>
  q_nm ((x9 + 1)) fun x10 =>
  q_nm (q_wr s8 0 17 x10) fun s11 =>
  q_nm (s11 0 17) fun x12 =>
  some (x12, s11)))
/-! ===== VectorRoundsModel.here()I: world M ===== -/
noncomputable def f_X8_here (σ : qM) : qR :=
  q_nm (σ 0 18) fun x1 =>
  q_nm (σ 0 17) fun x2 =>
  if x2 ≤ x1 then (
  some ((-1), σ))
  else (
  q_nm (σ 0 18) fun x4 =>
  q_rd σ 14 120 x4 fun x5 =>
  some (x5, σ))
/-! ===== VectorRoundsModel.numbersOf(I)I: world E ===== -/
noncomputable def f_X8_numbersOf (σ : qM) (x1 : Int32) : qR :=
  if x1 = 110 then (
  some (0, σ))
  else (
  if x1 = 108 then (
  some (3, σ))
  else (
  if x1 = 119 then (
  some (2, σ))
  else (
  some (1, σ))))
/-! ===== VectorRoundsModel.readNumber(II)V: world M ===== -/
noncomputable def b_X8_readNumber_36 (go : qB) (σ : qM) (x10 x11 x12 x13 : Int32) : qR :=
  q_nm (σ 0 18) fun x16 =>
  q_nm ((x12 + 2)) fun x17 =>
  if x17 ≤ x16 then (
  go 1 σ [x10, x11, x12, x13])
  else (
  q_cl (f_X8_here σ) (fun τ => τ) fun x24 s23 =>
  q_cl (f_X8_in s23 x24 48 57) (fun _ => s23) fun x26 s25 =>
  if x26 = 0 then (
  go 1 s25 [x10, x11, x12, x13])
  else (
  q_nm (((10 : Int32) * x13)) fun x28 =>
  q_cl (f_X8_here s25) (fun τ => τ) fun x30 s29 =>
  q_nm ((x28 + x30)) fun x31 =>
  q_nm ((x31 - 48)) fun x32 =>
  q_nm (s29 0 18) fun x33 =>
  q_nm ((x33 + 1)) fun x34 =>
  q_nm (q_wr s29 0 18 x34) fun s35 =>
  go 0 s35 [x10, x11, x12, x32]))
noncomputable def b_X8_readNumber_88 (go : qB) (σ : qM) (x19 x20 x21 x22 : Int32) : qR :=
  q_nm (σ 0 18) fun x36 =>
  if x36 = x21 then (
  q_nm (σ 0 18) fun x41 =>
  q_nm (q_wr σ 0 19 x41) fun s42 =>
  go 2 s42 [x19, x20, x22])
  else (
  go 2 σ [x19, x20, x22])
noncomputable def b_X8_readNumber_104 (go : qB) (σ : qM) (x38 x39 x40 : Int32) : qR :=
  q_nm (((3 : Int32) * x38)) fun x43 =>
  q_nm ((x43 + x39)) fun x44 =>
  q_wt σ 16 363 x44 x40 fun s45 =>
  some (0, s45)
noncomputable def D_X8_readNumber (go : qB) : qB := fun i σ xs => if i = 0 then (match xs with | [x10, x11, x12, x13] => b_X8_readNumber_36 go σ x10 x11 x12 x13 | _ => none) else if i = 1 then (match xs with | [x19, x20, x21, x22] => b_X8_readNumber_88 go σ x19 x20 x21 x22 | _ => none) else if i = 2 then (match xs with | [x38, x39, x40] => b_X8_readNumber_104 go σ x38 x39 x40 | _ => none) else none
noncomputable def e_X8_readNumber (go : qB) (σ : qM) (x1 : Int32) (x2 : Int32) : qR :=
  q_cl (f_X8_here σ) (fun τ => τ) fun x4 s3 =>
  if x4 = 32 then (
  q_nm (s3 0 18) fun x6 =>
  q_nm ((x6 + 1)) fun x7 =>
  q_nm (q_wr s3 0 18 x7) fun s8 =>
  q_nm (s8 0 18) fun x9 =>
  go 0 s8 [x1, x2, x9, 0])
  else (
  q_nm (s3 0 18) fun x14 =>
  q_nm (q_wr s3 0 19 x14) fun s15 =>
  some (0, s15))
noncomputable def f_X8_readNumber (σ : qM) (x1 : Int32) (x2 : Int32) : qR := e_X8_readNumber (q_lim (D_X8_readNumber)) σ x1 x2
/-! ===== VectorRoundsModel.readLine(I)V: world M ===== -/
noncomputable def b_X8_readLine_68 (go : qB) (σ : qM) (x5 x6 : Int32) : qR :=
  q_wt σ 15 121 x5 x6 fun s17 =>
  q_nm (s17 0 18) fun x18 =>
  q_nm ((x18 + 1)) fun x19 =>
  q_nm (q_wr s17 0 18 x19) fun s20 =>
  go 1 s20 [x5, x6, 0]
noncomputable def b_X8_readLine_87 (go : qB) (σ : qM) (x21 x22 x23 : Int32) : qR :=
  q_cl (f_X8_numbersOf σ x22) (fun _ => σ) fun x25 s24 =>
  if x25 ≤ x23 then (
  some (0, s24))
  else (
  q_nm (s24 0 19) fun x27 =>
  if (0 : Int32) ≤ x27 then (
  some (0, s24))
  else (
  q_cl (f_X8_readNumber s24 x21 x23) (fun τ => τ) fun _ s29 =>
  q_nm (x23 + 1) fun x30 =>
  go 1 s29 [x21, x22, x30]))
noncomputable def D_X8_readLine (go : qB) : qB := fun i σ xs => if i = 0 then (match xs with | [x5, x6] => b_X8_readLine_68 go σ x5 x6 | _ => none) else if i = 1 then (match xs with | [x21, x22, x23] => b_X8_readLine_87 go σ x21 x22 x23 | _ => none) else none
noncomputable def e_X8_readLine (go : qB) (σ : qM) (x1 : Int32) : qR :=
  q_cl (f_X8_here σ) (fun τ => τ) fun x3 s2 =>
  if x3 = 110 then (
  go 0 s2 [x1, x3])
  else (
  if x3 = 108 then (
  go 0 s2 [x1, x3])
  else (
  if x3 = 99 then (
  go 0 s2 [x1, x3])
  else (
  if x3 = 117 then (
  go 0 s2 [x1, x3])
  else (
  if x3 = 119 then (
  go 0 s2 [x1, x3])
  else (
  if x3 = 104 then (
  go 0 s2 [x1, x3])
  else (
  if x3 = 113 then (
  go 0 s2 [x1, x3])
  else (
  if x3 = 100 then (
  go 0 s2 [x1, x3])
  else (
  if x3 = 114 then (
  go 0 s2 [x1, x3])
  else (
  q_nm (s2 0 18) fun x15 =>
  q_nm (q_wr s2 0 19 x15) fun s16 =>
  some (0, s16))))))))))
noncomputable def f_X8_readLine (σ : qM) (x1 : Int32) : qR := e_X8_readLine (q_lim (D_X8_readLine)) σ x1
/-! ===== VectorRoundsModel.doLine(I)I: world M ===== -/
noncomputable def f_X8_doLine (σ : qM) (x1 : Int32) : qR :=
  q_nm (((3 : Int32) * x1)) fun x2 =>
  q_rd σ 16 363 x2 fun x3 =>
  q_nm (((3 : Int32) * x1)) fun x4 =>
  q_nm ((x4 + 1)) fun x5 =>
  q_rd σ 16 363 x5 fun x6 =>
  q_rd σ 15 121 x1 fun x7 =>
  if x7 = 99 then (
  q_cl (f_X8_turn σ x3 0) (fun τ => τ) fun x10 s9 =>
  some (x10, s9))
  else if x7 = 100 then (
  q_cl (f_X8_rule σ 2 x3) (fun τ => τ) fun x13 s12 =>
  some (x13, s12))
  else if x7 = 101 then (
  q_cl (f_X8_rounds σ x3) (fun τ => τ) fun x16 s15 =>
  some (x16, s15))
  else if x7 = 102 then (
  q_cl (f_X8_rounds σ x3) (fun τ => τ) fun x19 s18 =>
  some (x19, s18))
  else if x7 = 103 then (
  q_cl (f_X8_rounds σ x3) (fun τ => τ) fun x22 s21 =>
  some (x22, s21))
  else if x7 = 104 then (
  q_cl (f_X8_rule σ 0 x3) (fun τ => τ) fun x25 s24 =>
  some (x25, s24))
  else if x7 = 105 then (
  q_cl (f_X8_rounds σ x3) (fun τ => τ) fun x28 s27 =>
  some (x28, s27))
  else if x7 = 106 then (
  q_cl (f_X8_rounds σ x3) (fun τ => τ) fun x31 s30 =>
  some (x31, s30))
  else if x7 = 107 then (
  q_cl (f_X8_rounds σ x3) (fun τ => τ) fun x34 s33 =>
  some (x34, s33))
  else if x7 = 108 then (
  q_nm (((3 : Int32) * x1)) fun x36 =>
  q_nm ((x36 + 2)) fun x37 =>
  q_rd σ 16 363 x37 fun x38 =>
  q_cl (f_X8_link σ x3 x6 x38) (fun τ => τ) fun x40 s39 =>
  some (x40, s39))
  else if x7 = 109 then (
  q_cl (f_X8_rounds σ x3) (fun τ => τ) fun x43 s42 =>
  some (x43, s42))
  else if x7 = 110 then (
  q_cl (f_X8_router σ) (fun τ => τ) fun x46 s45 =>
  some (x46, s45))
  else if x7 = 111 then (
  q_cl (f_X8_rounds σ x3) (fun τ => τ) fun x49 s48 =>
  some (x49, s48))
  else if x7 = 112 then (
  q_cl (f_X8_rounds σ x3) (fun τ => τ) fun x52 s51 =>
  some (x52, s51))
  else if x7 = 113 then (
  q_cl (f_X8_rule σ 1 x3) (fun τ => τ) fun x55 s54 =>
  some (x55, s54))
  else if x7 = 114 then (
  q_cl (f_X8_rounds σ x3) (fun τ => τ) fun x58 s57 =>
  some (x58, s57))
  else if x7 = 115 then (
  q_cl (f_X8_rounds σ x3) (fun τ => τ) fun x61 s60 =>
  some (x61, s60))
  else if x7 = 116 then (
  q_cl (f_X8_rounds σ x3) (fun τ => τ) fun x64 s63 =>
  some (x64, s63))
  else if x7 = 117 then (
  q_cl (f_X8_turn σ x3 1) (fun τ => τ) fun x67 s66 =>
  some (x67, s66))
  else if x7 = 118 then (
  q_cl (f_X8_rounds σ x3) (fun τ => τ) fun x70 s69 =>
  some (x70, s69))
  else if x7 = 119 then (
  q_cl (f_X8_cost σ x3 x6) (fun τ => τ) fun x73 s72 =>
  some (x73, s72))
  else (
  q_cl (f_X8_rounds σ x3) (fun τ => τ) fun x75 s74 =>
  some (x75, s74))
/-! ===== VectorRoundsModel.script()I: world M ===== -/
noncomputable def b_X8_script_17 (go : qB) (σ : qM) (x4 : Int32) : qR :=
  q_nm (σ 0 19) fun x5 =>
  if (0 : Int32) ≤ x5 then (
  go 1 σ [x4])
  else (
  q_cl (f_X8_here σ) (fun τ => τ) fun x9 s8 =>
  if x9 = 59 then (
  q_nm (s8 0 18) fun x11 =>
  q_nm ((x11 + 1)) fun x12 =>
  q_nm (q_wr s8 0 18 x12) fun s13 =>
  q_cl (f_X8_readLine s13 x4) (fun τ => τ) fun _ s14 =>
  q_nm (x4 + 1) fun x15 =>
  go 0 s14 [x15])
  else (
  go 1 s8 [x4]))
noncomputable def b_X8_script_54 (go : qB) (σ : qM) (x7 : Int32) : qR :=
  q_nm (σ 0 19) fun x16 =>
  if (0 : Int32) ≤ x16 then (
  go 2 σ [x7])
  else (
  q_nm (σ 0 18) fun x19 =>
  q_nm (σ 0 17) fun x20 =>
  if x20 ≤ x19 then (
  go 2 σ [x7])
  else (
  q_nm (σ 0 18) fun x22 =>
  q_nm (q_wr σ 0 19 x22) fun s23 =>
  go 2 s23 [x7]))
noncomputable def b_X8_script_80 (go : qB) (σ : qM) (x18 : Int32) : qR :=
  q_nm (q_wr σ 0 17 0) fun s24 =>
  q_nm (s24 0 19) fun x25 =>
  if x25 < 0 then (
  q_cl (f_X8_copy (q_sub2 1 1 3 s24)) (q_put2 1 1 1 3 s24) fun _ s27 =>
  go 3 s27 [x18, 0])
  else (
  q_nm (s24 0 19) fun x30 =>
  q_nm (((-1000 : Int32) - x30)) fun x31 =>
  some (x31, s24))
noncomputable def b_X8_script_114 (go : qB) (σ : qM) (x28 x29 : Int32) : qR :=
  if x28 ≤ x29 then (
  some (x28, σ))
  else (
  q_cl (f_X8_doLine σ x29) (fun τ => τ) fun x34 s33 =>
  if x34 < 0 then (
  q_cl (f_X8_copy (q_sub2 1 3 1 s33)) (q_put2 1 3 1 1 s33) fun _ s36 =>
  q_nm (((-2000 : Int32) - x29)) fun x37 =>
  some (x37, s36))
  else (
  q_nm (x29 + 1) fun x38 =>
  go 3 s33 [x28, x38]))
noncomputable def D_X8_script (go : qB) : qB := fun i σ xs => if i = 0 then (match xs with | [x4] => b_X8_script_17 go σ x4 | _ => none) else if i = 1 then (match xs with | [x7] => b_X8_script_54 go σ x7 | _ => none) else if i = 2 then (match xs with | [x18] => b_X8_script_80 go σ x18 | _ => none) else if i = 3 then (match xs with | [x28, x29] => b_X8_script_114 go σ x28 x29 | _ => none) else none
noncomputable def e_X8_script (go : qB) (σ : qM) : qR :=
  q_nm (q_wr σ 0 18 0) fun s1 =>
  q_nm (q_wr s1 0 19 (-1)) fun s2 =>
  q_cl (f_X8_readLine s2 0) (fun τ => τ) fun _ s3 =>
  go 0 s3 [1]
noncomputable def f_X8_script (σ : qM) : qR := e_X8_script (q_lim (D_X8_script)) σ
/-! ===== VectorRoundsModel.image()I: world M ===== -/
noncomputable def f_X8_image (σ : qM) : qR :=
  q_bo 1 (q_nm (q_wr σ 0 22 1) fun s1 =>
  q_cl (f_X8_copy (q_sub2 1 1 17 s1)) (q_put2 1 1 1 17 s1) fun _ s3 =>
  q_rd s3 1 650 5 fun x4 =>
  some (x4, s3))
/-! ===== VectorRoundsModel.back()I: world M ===== -/
noncomputable def f_X8_back (σ : qM) : qR :=
  q_nm (σ 0 22) fun x1 =>
  if x1 = 0 then (
  some ((-5), σ))
  else (
  q_cl (f_X8_copy (q_sub2 1 17 1 σ)) (q_put2 1 17 1 1 σ) fun _ s3 =>
  q_rd s3 1 650 5 fun x4 =>
  some (x4, s3))
/-! ===== VectorRoundsModel.isHolder(I)Z: world E ===== -/
noncomputable def f_X8_isHolder (σ : qM) (x1 : Int32) : qR :=
  q_cl (f_X8_in σ x1 0 5) (fun _ => σ) fun x3 s2 =>
  q_bo x3 (some (x3, s2))
/-! ===== VectorRoundsModel.hold(III)I: world M ===== -/
noncomputable def b_X8_hold_90 (σ : qM) (x23 x24 x25 x26 : Int32) : qR :=
  q_wt σ 19 360 x25 x26 fun s27 =>
  q_nm ((x24 + 2)) fun x28 =>
  q_nm (((450 : Int32) + x23)) fun x29 =>
  q_rd s27 1 650 x29 fun x30 =>
  q_wt s27 19 360 x28 x30 fun s31 =>
  q_nm ((x24 + 3)) fun x32 =>
  q_nm (((350 : Int32) + x23)) fun x33 =>
  q_rd s31 1 650 x33 fun x34 =>
  q_wt s31 19 360 x32 x34 fun s35 =>
  q_nm ((x24 + 4)) fun x36 =>
  q_nm (((550 : Int32) + x23)) fun x37 =>
  q_rd s35 1 650 x37 fun x38 =>
  q_wt s35 19 360 x36 x38 fun s39 =>
  some (1, s39)
noncomputable def f_X8_hold (σ : qM) (x1 : Int32) (x2 : Int32) (x3 : Int32) : qR :=
  q_cl (f_X8_isHolder σ x1) (fun _ => σ) fun x5 s4 =>
  if x5 = 0 then (
  some ((-1), s4))
  else (
  q_cl (f_X8_isRouter s4 x2) (fun τ => τ) fun x8 s7 =>
  if x8 = 0 then (
  some ((-1), s7))
  else (
  q_cl (f_X8_isRouter s7 x3) (fun τ => τ) fun x11 s10 =>
  if x11 = 0 then (
  some ((-1), s10))
  else (
  q_cl (f_X8_entryOf s10 x2 x3) (fun τ => τ) fun x14 s13 =>
  if (0 : Int32) ≤ x14 then (
  q_wt s13 18 6 x1 (-1) fun s16 =>
  q_nm (((60 : Int32) * x1)) fun x17 =>
  q_nm (((250 : Int32) + x14)) fun x18 =>
  q_rd s16 1 650 x18 fun x19 =>
  q_wt s16 19 360 x17 x19 fun s20 =>
  q_nm ((x17 + 1)) fun x21 =>
  if x2 = x3 then (
  b_X8_hold_90 s20 x14 x17 x21 1)
  else (
  b_X8_hold_90 s20 x14 x17 x21 0))
  else (
  some ((-2), s13)))))
/-! ===== VectorRoundsModel.row(II)I: world M ===== -/
noncomputable def b_X8_row_42 (go : qB) (σ : qM) (x10 x11 : Int32) : qR :=
  if (60 : Int32) ≤ x11 then (
  some (1, σ))
  else (
  q_nm (((60 : Int32) * x10)) fun x14 =>
  q_nm ((x14 + x11)) fun x15 =>
  q_wt σ 19 360 x15 0 fun s16 =>
  q_nm (x11 + 1) fun x17 =>
  go 0 s16 [x10, x17])
noncomputable def D_X8_row (go : qB) : qB := fun i σ xs => if i = 0 then (match xs with | [x10, x11] => b_X8_row_42 go σ x10 x11 | _ => none) else none
noncomputable def e_X8_row (go : qB) (σ : qM) (x1 : Int32) (x2 : Int32) : qR :=
  q_cl (f_X8_isHolder σ x1) (fun _ => σ) fun x4 s3 =>
  if x4 = 0 then (
  some ((-1), s3))
  else (
  if x2 ≤ 60 then (
  if (-1 : Int32) ≤ x2 then (
  if x2 = (-1) then (
  q_wt s3 18 6 x1 (-2) fun s12 =>
  go 0 s12 [x1, 0])
  else (
  q_wt s3 18 6 x1 x2 fun s9 =>
  go 0 s9 [x1, 0]))
  else (
  some ((-14), s3)))
  else (
  some ((-1), s3)))
noncomputable def f_X8_row (σ : qM) (x1 : Int32) (x2 : Int32) : qR := e_X8_row (q_lim (D_X8_row)) σ x1 x2
/-! ===== VectorRoundsModel.put(III)I: world M ===== -/
noncomputable def f_X8_put (σ : qM) (x1 : Int32) (x2 : Int32) (x3 : Int32) : qR :=
  q_cl (f_X8_isHolder σ x1) (fun _ => σ) fun x5 s4 =>
  if x5 = 0 then (
  some (-2000000000, s4))
  else (
  q_rd s4 18 6 x1 fun x7 =>
  q_nm ((x7 - 1)) fun x8 =>
  q_cl (f_X8_in s4 x2 0 x8) (fun _ => s4) fun x10 s9 =>
  if x10 = 0 then (
  some (-2000000000, s9))
  else (
  q_nm (((60 : Int32) * x1)) fun x12 =>
  q_nm ((x12 + x2)) fun x13 =>
  q_rd s9 19 360 x13 fun x14 =>
  q_nm (((60 : Int32) * x1)) fun x15 =>
  q_nm ((x15 + x2)) fun x16 =>
  q_wt s9 19 360 x16 x3 fun s17 =>
  some (x14, s17)))
/-! ===== VectorRoundsModel.tells(II)I: world M ===== -/
noncomputable def b_X8_tells_84 (σ : qM) (x22 x23 x24 x25 : Int32) : qR :=
  if x22 = 0 then (
  q_rd σ 19 360 x23 fun x39 =>
  some (x39, σ))
  else (
  if x22 = 1 then (
  if x24 = 0 then (
  some ((-12), σ))
  else (
  q_nm ((x23 + 2)) fun x37 =>
  q_rd σ 19 360 x37 fun x38 =>
  some (x38, σ)))
  else (
  if x22 = 2 then (
  if x24 = 0 then (
  if x25 = 0 then (
  q_nm ((x23 + 3)) fun x34 =>
  q_rd σ 19 360 x34 fun x35 =>
  some (x35, σ))
  else (
  some ((-12), σ)))
  else (
  some ((-12), σ)))
  else (
  if x25 = 0 then (
  some ((-12), σ))
  else (
  q_nm ((x23 + 4)) fun x30 =>
  q_rd σ 19 360 x30 fun x31 =>
  some (x31, σ)))))
noncomputable def b_X8_tells_66 (σ : qM) (x17 x18 x19 : Int32) : qR :=
  q_rd σ 19 360 x18 fun x20 =>
  if x20 = 16 then (
  b_X8_tells_84 σ x17 x18 x19 1)
  else (
  b_X8_tells_84 σ x17 x18 x19 0)
noncomputable def f_X8_tells (σ : qM) (x1 : Int32) (x2 : Int32) : qR :=
  q_cl (f_X8_isHolder σ x1) (fun _ => σ) fun x4 s3 =>
  if x4 = 0 then (
  some ((-1), s3))
  else (
  q_cl (f_X8_in s3 x2 0 3) (fun _ => s3) fun x7 s6 =>
  if x7 = 0 then (
  some ((-1), s6))
  else (
  q_rd s6 18 6 x1 fun x9 =>
  if x9 = (-2) then (
  some ((-11), s6))
  else (
  q_rd s6 18 6 x1 fun x11 =>
  if x11 < 0 then (
  q_nm (((60 : Int32) * x1)) fun x13 =>
  q_nm ((x13 + 1)) fun x14 =>
  q_rd s6 19 360 x14 fun x15 =>
  if x15 = 1 then (
  b_X8_tells_66 s6 x2 x13 1)
  else (
  b_X8_tells_66 s6 x2 x13 0))
  else (
  some ((-12), s6)))))
/-! ===== VectorRoundsModel.judge(II)I: world M ===== -/
noncomputable def b_X8_judge_81 (go : qB) (σ : qM) (x20 x21 x22 x23 : Int32) : qR :=
  if x22 ≤ x23 then (
  q_rd σ 1 650 0 fun x25 =>
  if x25 ≤ x22 then (
  some ((-2), σ))
  else (
  some (x22, σ)))
  else (
  q_cl (f_X8_entryOf σ x21 x23) (fun τ => τ) fun x28 s27 =>
  if (0 : Int32) ≤ x28 then (
  q_nm (((250 : Int32) + x28)) fun x30 =>
  q_rd s27 1 650 x30 fun x31 =>
  go 1 s27 [x20, x21, x22, x23, x28, x31])
  else (
  go 1 s27 [x20, x21, x22, x23, x28, 16]))
noncomputable def b_X8_judge_117 (go : qB) (σ : qM) (x32 x33 x34 x35 x36 x37 : Int32) : qR :=
  if (0 : Int32) ≤ x36 then (
  q_nm (((350 : Int32) + x36)) fun x39 =>
  q_rd σ 1 650 x39 fun x40 =>
  go 2 σ [x32, x33, x34, x35, x37, x40])
  else (
  go 2 σ [x32, x33, x34, x35, x37, x33])
noncomputable def b_X8_judge_139 (go : qB) (σ : qM) (x41 x42 x43 x44 x45 x46 : Int32) : qR :=
  q_nm (((60 : Int32) * x41)) fun x47 =>
  q_nm (((2 : Int32) * x44)) fun x48 =>
  q_nm ((x47 + x48)) fun x49 =>
  q_rd σ 19 360 x49 fun x50 =>
  if x50 = x45 then (
  q_nm (((60 : Int32) * x41)) fun x52 =>
  q_nm (((2 : Int32) * x44)) fun x53 =>
  q_nm ((x52 + x53)) fun x54 =>
  q_nm ((x54 + 1)) fun x55 =>
  q_rd σ 19 360 x55 fun x56 =>
  if x56 = x46 then (
  q_nm (x44 + 1) fun x58 =>
  go 0 σ [x41, x42, x43, x58])
  else (
  some (x44, σ)))
  else (
  some (x44, σ))
noncomputable def D_X8_judge (go : qB) : qB := fun i σ xs => if i = 0 then (match xs with | [x20, x21, x22, x23] => b_X8_judge_81 go σ x20 x21 x22 x23 | _ => none) else if i = 1 then (match xs with | [x32, x33, x34, x35, x36, x37] => b_X8_judge_117 go σ x32 x33 x34 x35 x36 x37 | _ => none) else if i = 2 then (match xs with | [x41, x42, x43, x44, x45, x46] => b_X8_judge_139 go σ x41 x42 x43 x44 x45 x46 | _ => none) else none
noncomputable def e_X8_judge (go : qB) (σ : qM) (x1 : Int32) (x2 : Int32) : qR :=
  q_cl (f_X8_isHolder σ x1) (fun _ => σ) fun x4 s3 =>
  if x4 = 0 then (
  some ((-1), s3))
  else (
  q_cl (f_X8_isRouter s3 x2) (fun τ => τ) fun x7 s6 =>
  if x7 = 0 then (
  some ((-1), s6))
  else (
  q_rd s6 18 6 x1 fun x9 =>
  if x9 = (-2) then (
  some ((-11), s6))
  else (
  q_rd s6 18 6 x1 fun x11 =>
  if x11 = (-1) then (
  some ((-12), s6))
  else (
  q_rd s6 18 6 x1 fun x13 =>
  q_dv 2 (q_nm (x13 / 2) fun x14 =>
  q_rd s6 18 6 x1 fun x15 =>
  q_dv 2 (q_nm (x15 - x15 / 2 * 2) fun x16 =>
  if x16 = 1 then (
  some ((-13), s6))
  else (
  q_rd s6 1 650 0 fun x18 =>
  if x14 ≤ x18 then (
  go 0 s6 [x1, x2, x14, 0])
  else (
  some ((-13), s6)))))))))
noncomputable def f_X8_judge (σ : qM) (x1 : Int32) (x2 : Int32) : qR := e_X8_judge (q_lim (D_X8_judge)) σ x1 x2
/-! ===== VectorRoundsModel.count(I)I: world M ===== -/
noncomputable def b_X8_count_68 (go : qB) (σ : qM) (x7 x8 : Int32) : qR :=
  q_rd σ 1 650 1 fun x24 =>
  if x24 ≤ x8 then (
  some (x7, σ))
  else (
  q_nm (((100 : Int32) + x8)) fun x26 =>
  q_rd σ 1 650 x26 fun x27 =>
  q_nm ((x7 + x27)) fun x28 =>
  q_nm (x8 + 1) fun x29 =>
  go 0 σ [x28, x29])
noncomputable def b_X8_count_100 (go : qB) (σ : qM) (x10 x11 : Int32) : qR :=
  q_rd σ 1 650 0 fun x30 =>
  if x30 ≤ x11 then (
  some (x10, σ))
  else (
  q_nm (((130 : Int32) + x11)) fun x32 =>
  q_rd σ 1 650 x32 fun x33 =>
  q_nm ((x10 + x33)) fun x34 =>
  q_nm (x11 + 1) fun x35 =>
  go 1 σ [x34, x35])
noncomputable def b_X8_count_148 (go : qB) (σ : qM) (x17 x18 : Int32) : qR :=
  q_rd σ 1 650 0 fun x36 =>
  if x36 ≤ x18 then (
  some (x17, σ))
  else (
  go 4 σ [x17, x18, 0])
noncomputable def b_X8_count_221 (go : qB) (σ : qM) (x22 x23 : Int32) : qR :=
  if (6 : Int32) ≤ x23 then (
  some (x22, σ))
  else (
  q_rd σ 18 6 x23 fun x42 =>
  if x42 = (-2) then (
  q_nm (x23 + 1) fun x44 =>
  go 3 σ [x22, x44])
  else (
  q_nm (x22 + 1) fun x45 =>
  q_nm (x23 + 1) fun x46 =>
  go 3 σ [x45, x46]))
noncomputable def b_X8_count_161 (go : qB) (σ : qM) (x38 x39 x40 : Int32) : qR :=
  q_nm (((130 : Int32) + x39)) fun x47 =>
  q_rd σ 1 650 x47 fun x48 =>
  if x48 ≤ x40 then (
  q_nm (x39 + 1) fun x50 =>
  go 2 σ [x38, x50])
  else (
  q_nm (((10 : Int32) * x39)) fun x51 =>
  q_nm (((250 : Int32) + x51)) fun x52 =>
  q_nm ((x52 + x40)) fun x53 =>
  q_rd σ 1 650 x53 fun x54 =>
  if x54 = 16 then (
  q_nm (x38 + 1) fun x57 =>
  q_nm (x40 + 1) fun x58 =>
  go 4 σ [x57, x39, x58])
  else (
  q_nm (x40 + 1) fun x56 =>
  go 4 σ [x38, x39, x56]))
noncomputable def D_X8_count (go : qB) : qB := fun i σ xs => if i = 0 then (match xs with | [x7, x8] => b_X8_count_68 go σ x7 x8 | _ => none) else if i = 1 then (match xs with | [x10, x11] => b_X8_count_100 go σ x10 x11 | _ => none) else if i = 2 then (match xs with | [x17, x18] => b_X8_count_148 go σ x17 x18 | _ => none) else if i = 3 then (match xs with | [x22, x23] => b_X8_count_221 go σ x22 x23 | _ => none) else if i = 4 then (match xs with | [x38, x39, x40] => b_X8_count_161 go σ x38 x39 x40 | _ => none) else none
noncomputable def e_X8_count (go : qB) (σ : qM) (x1 : Int32) : qR :=
  if x1 = 0 then (
  q_rd σ 1 650 0 fun x3 =>
  some (x3, σ))
  else if x1 = 1 then (
  q_rd σ 1 650 1 fun x5 =>
  some (x5, σ))
  else if x1 = 2 then (
  go 0 σ [0, 0])
  else if x1 = 3 then (
  go 1 σ [0, 0])
  else if x1 = 4 then (
  q_rd σ 1 650 5 fun x13 =>
  some (x13, σ))
  else if x1 = 5 then (
  q_rd σ 1 650 6 fun x15 =>
  some (x15, σ))
  else if x1 = 6 then (
  go 2 σ [0, 0])
  else if x1 = 7 then (
  q_nm (σ 0 17) fun x20 =>
  some (x20, σ))
  else if x1 = 8 then (
  go 3 σ [0, 0])
  else (
  some ((-1), σ))
noncomputable def f_X8_count (σ : qM) (x1 : Int32) : qR := e_X8_count (q_lim (D_X8_count)) σ x1
