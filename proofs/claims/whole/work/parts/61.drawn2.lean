/-! drawn links: a step, and the method -/
theorem drawR1 {τ : qM} (x8 z' i x29 : Int32) (go : qB) : D_X8_drawn go 1 τ [x8, z', i, x29] = if (0 : Int32) ≤ x29 then (q_rd τ 1 650 (100 + x29) fun x39 => if x39 = 1 then (q_cl (f_X8_cut τ x29) (fun τ => τ) fun _ s44 => go 0 s44 [x8, z', i + 1]) else (q_wt τ 1 650 (100 + x29) 1 fun s42 => go 0 s42 [x8, z', i + 1])) else go 0 τ [x8, z', i + 1] := by
  unfold D_X8_drawn
  rw [if_neg (show ¬ (1 : Nat) = 0 by decide), if_pos (show (1 : Nat) = 1 from rfl)]
  show b_X8_drawn_134 go τ x8 z' i x29 = _
  unfold b_X8_drawn_134
  simp only [p_nmx]
theorem drawStep {n m : Nat} {K : Nat → Nat} {σ τ : qM} (h : RNp n m K (q_sub 1 σ) (τ 1)) (h2 : 2 ≤ n) {q : Nat} (hq : q < 32768) (x8 i z z' : Int32) (hz : z' = z * 1103515245 + 12345) (hqz : ((z'.toUInt32 >>> ((16 : Int32).toUInt32 &&& Int32.toUInt32 31)).toInt32) &&& 32767 = nI q) (hi : ¬ x8 ≤ i) :
    ∃ (σ' τ' : qM) (m' : Nat), f_X7_drawLink σ (nI q) = some (0, σ') ∧ q_lim D_X8_drawn 0 τ [x8, z, i] = q_lim D_X8_drawn 0 τ' [x8, z', i + 1] ∧ RNp n m' K (q_sub 1 σ') (τ' 1) ∧ frV σ σ' ∧ frR τ τ' := by
  have hL := h.1
  have hn := hL.1
  have hm := hL.2.1
  have r0 : τ 1 0 = nI n := hL.2.2.1
  have r1 : τ 1 1 = nI m := hL.2.2.2.2.1
  have V := drawV0 h h2 hq
  have R := fun go => drawR0 r0 hn h2 hq x8 i z z' hz hqz hi go
  obtain ⟨a, ha⟩ : ∃ a, a = q % n := ⟨_, rfl⟩
  obtain ⟨b, hb⟩ : ∃ b, b = q / 10 % n := ⟨_, rfl⟩
  obtain ⟨c, hc⟩ : ∃ c, c = 1 + q / 100 % 15 := ⟨_, rfl⟩
  have l1 : a < n := by rw [ha]; exact Nat.mod_lt _ (by omega)
  have l2 : b < n := by rw [hb]; exact Nat.mod_lt _ (by omega)
  have l3 : 1 ≤ c ∧ c ≤ 15 := by omega
  rw [← ha, ← hb, ← hc] at V
  simp only [← ha, ← hb, ← hc] at R
  by_cases e : nI a = nI b
  · rw [if_pos e] at V
    exact ⟨σ, τ, m, V, q_lim_eq (fun go => by rw [R go]; unfold drR; rw [if_pos e]), h, frV.rf σ, frR.rf τ⟩
  · have hab : a ≠ b := fun z => e (congrArg nI z)
    rw [if_neg e] at V
    have R2 : ∀ go : qB, D_X8_drawn go 0 τ [x8, z, i] = if (0 : Int32) ≤ lo (lf (τ 1) m a b) then go 1 τ [x8, z', i, lo (lf (τ 1) m a b)] else if (24 : Int32) ≤ nI m then go 1 τ [x8, z', i, lo (lf (τ 1) m a b)] else q_cl (f_X8_addLink τ (nI a) (nI b) (nI c)) (fun τ => τ) fun _ s35 => go 1 s35 [x8, z', i, lo (lf (τ 1) m a b)] := fun go => by
      rw [R go]
      unfold drR
      rw [if_neg e, linkOfS (by omega) (by omega) hm r1, p_cl, rd1_1, r1]
    cases hlf : lf (τ 1) m a b with
    | some k =>
      have hk : k < m := by have := q_find_some hlf; omega
      rw [hlf, show jn (some k) = nI (k + 1) from rfl, nI_pred, if_neg (nI_pos (by omega))] at V
      have R3 : q_lim D_X8_drawn 0 τ [x8, z, i] = q_lim D_X8_drawn 1 τ [x8, z', i, nI k] := q_lim_eq (fun go => by rw [R2 go, hlf, show lo (some k) = nI k from rfl, if_pos (nI_pos' (by omega))])
      have R4 : ∀ go : qB, D_X8_drawn go 1 τ [x8, z', i, nI k] = (if τ 1 (100 + k) = 1 then (q_cl (f_X8_cut τ (nI k)) (fun τ => τ) fun _ s44 => go 0 s44 [x8, z', i + 1]) else go 0 (q_wr τ 1 (100 + k) 1) [x8, z', i + 1]) := fun go => by
        rw [drawR1, if_pos (nI_pos' (by omega)), a100, q_rd_n (by omega) (by decide), q_wt_n (by omega) (by decide)]
      obtain ⟨ea, eb, ec, w1, w2, w3, w4, w5, w6, w7, w8, w9, w10, w11, w12⟩ := hL.2.2.2.2.2.2.2.2.2.2.2.2.1 k hk
      by_cases u : τ 1 (100 + k) = 1
      · obtain ⟨net', τ', c1, c2, c3, c4⟩ := cut_sim h hk u
        rw [c1, p_cl] at V
        exact ⟨_, τ', m, V, by rw [R3]; exact q_lim_eq (fun go => by rw [R4 go, if_pos u, c2, p_cl]), RNp_put c3, frV_put, frR_1 c4⟩
      · have u0 : τ 1 (100 + k) = 0 := w12.elim id (fun y => absurd y u)
        obtain ⟨c1, c2⟩ := upAgain h hk u0
        rw [c1, p_cl] at V
        exact ⟨_, q_wr τ 1 (100 + k) 1, m, V, by rw [R3]; exact q_lim_eq (fun go => by rw [R4 go, if_neg u]), RNp_put c2, frV_put, frR_wr⟩
    | none =>
      rw [hlf, if_pos (show jn none - 1 < 0 by decide)] at V
      have fin : ∀ τ1 : qM, q_lim D_X8_drawn 1 τ1 [x8, z', i, -1] = q_lim D_X8_drawn 0 τ1 [x8, z', i + 1] := fun τ1 => q_lim_eq (fun go => by rw [drawR1, if_neg (show ¬ (0 : Int32) ≤ -1 by decide)])
      by_cases m24 : m < 24
      · obtain ⟨L', τ', f1, f2, f3, f4⟩ := addLink_sim h m24 l1 l2 hab l3.1 l3.2 hlf
        rw [p_sub_sub] at f1
        have f1 : f_X2_add (q_sub 16 σ) (nI a) (nI b) (nI c) = some (nI m, L') := f1
        have ng : ¬ (24 : Int32) ≤ nI m := nI_ge (b := 24) m24 (by decide)
        rw [if_neg ng, f1, p_cl] at V
        refine ⟨_, τ', m + 1, V, ?_, RNp_ext f3 (fun k hk => ?_), ⟨?_, fun k u v => ?_, fun k u => ?_⟩, frR_1 f4⟩
        · rw [q_lim_eq (j := 1) (τ := τ') (ys := [x8, z', i, -1]) (fun go => by rw [R2 go, hlf, show lo none = -1 from rfl, if_neg (show ¬ (0 : Int32) ≤ -1 by decide), if_neg ng, f2, p_cl])]
          exact fin τ'
        · show q_put 16 6 σ L' (1 + k) = q_put 15 6 (q_sub 1 σ) L' k
          rw [p_put, p_put]
          by_cases w : 15 ≤ k ∧ k < 15 + 6
          · rw [if_pos (by omega), if_pos w, show 1 + k - 16 = k - 15 by omega]
          · rw [if_neg (by omega), if_neg w]; rfl
        · rw [p_put, if_neg (by omega)]
        · rw [p_put, if_neg (by omega)]
        · rw [p_put, if_neg (by omega)]
      · have yg : (24 : Int32) ≤ nI m := nI_le (a := 24) (by omega) (by omega)
        rw [if_pos yg] at V
        refine ⟨σ, τ, m, V, ?_, h, frV.rf σ, frR.rf τ⟩
        rw [q_lim_eq (j := 1) (τ := τ) (ys := [x8, z', i, -1]) (fun go => by rw [R2 go, hlf, show lo none = -1 from rfl, if_neg (show ¬ (0 : Int32) ≤ -1 by decide), if_pos yg])]
        exact fin τ
theorem N_drawn (x1 x2 : Int32) : simN (fun σ => f_X7_drawn σ x1 x2) (fun τ => f_X8_drawn τ x1 x2) := fun n m K σ τ h => by
  have hn := h.1.1
  have v3 : σ 1 3 = nI n := h.1.2.2.2.1
  have r0 : τ 1 0 = nI n := h.1.2.2.1
  have V0 : f_X7_drawn σ x1 x2 = (if x2 < 1 then some (-1, σ) else if x2 ≤ 12 then (if (2 : Int32) ≤ nI n then q_lim D_X7_drawn 0 σ [x2, x1, 0] else some (-5, σ)) else some (-1, σ)) := by
    unfold f_X7_drawn e_X7_drawn
    simp only [p_nmx]
    rw [v3]
  have R0 : f_X8_drawn τ x1 x2 = (if (1 : Int32) ≤ x2 ∧ x2 ≤ 12 then (if (2 : Int32) ≤ nI n then q_lim D_X8_drawn 0 τ [x2, x1, 0] else some (-5, τ)) else some (-1, τ)) := by
    unfold f_X8_drawn e_X8_drawn
    rw [inS, p_cl]
    by_cases c : (1 : Int32) ≤ x2 ∧ x2 ≤ 12
    · rw [if_pos c, if_neg ne10, if_pos c, rd1_0, r0]
    · rw [if_neg c, if_pos rfl, if_neg c]
  by_cases c : (1 : Int32) ≤ x2 ∧ x2 ≤ 12
  · rw [if_pos c] at R0
    rw [if_neg (i_nlt.mpr c.1), if_pos c.2] at V0
    by_cases h2 : (2 : Int32) ≤ nI n
    · rw [if_pos h2] at V0 R0
      have h2 : 2 ≤ n := (nI_leI (a := 2) (by decide) (by omega)).mp h2
      obtain ⟨d, hd, rfl⟩ := nI_of2 (M := 12) (n := 12) rfl (fun z => absurd (Int32.le_trans c.1 (Int32.le_of_lt z)) (by decide)) c.2
      obtain ⟨σ2, xs2, ⟨z2, τ2, m2, e1, e2, e3, e4, e5⟩, e6⟩ := q_run (D := D_X7_drawn) (i := 0) (I := fun k σc xs => ∃ (zc : Int32) (τc : qM) (mc : Nat), xs = [nI d, zc, nI k] ∧ q_lim D_X8_drawn 0 τ [nI d, x1, 0] = q_lim D_X8_drawn 0 τc [nI d, zc, nI k] ∧ RNp n mc K (q_sub 1 σc) (τc 1) ∧ frV σ σc ∧ frR τ τc) d (fun k σc xs hk hI => by
        obtain ⟨zc, τc, mc, rfl, g2, g3, g4, g5⟩ := hI
        obtain ⟨z', hz'⟩ : ∃ y : Int32, y = zc * 1103515245 + 12345 := ⟨_, rfl⟩
        obtain ⟨q, hq, hqz⟩ := pk_andE ((z'.toUInt32 >>> ((16 : Int32).toUInt32 &&& Int32.toUInt32 31)).toInt32) (m := 32767) 15 (by decide)
        have hi : ¬ nI d ≤ nI k := nI_ge hk (by omega)
        obtain ⟨σd, τd, md, u1, u2, u3, u4, u5⟩ := drawStep g3 h2 (q := q) (by omega) (nI d) (nI k) zc z' hz' hqz hi
        refine ⟨σd, _, ⟨z', τd, md, rfl, by rw [g2, u2, nI_1], u3, g4.trans u4, g5.trans u5⟩, q_lim_eq (fun go => ?_)⟩
        unfold D_X7_drawn
        rw [if_pos (show (0 : Nat) = 0 from rfl)]
        show b_X7_drawn_32 go σc (nI d) zc (nI k) = _
        unfold b_X7_drawn_32
        simp only [p_nmx]
        rw [if_neg hi, ← hz', hqz, u1, p_cl, nI_1]) d 0 σ [nI d, x1, nI 0] (by omega) ⟨x1, τ, m, rfl, rfl, h, frV.rf σ, frR.rf τ⟩
      refine ⟨nI m2, σ2, τ2, n, m2, K, ?_, ?_, e3, e4, e5⟩
      · show f_X7_drawn σ x1 (nI d) = _
        rw [V0]
        show q_lim D_X7_drawn 0 σ [nI d, x1, nI 0] = _
        rw [e6, e1]
        refine q_lim_ret (fun go => ?_)
        unfold D_X7_drawn
        rw [if_pos (show (0 : Nat) = 0 from rfl)]
        show b_X7_drawn_32 go σ2 (nI d) z2 (nI d) = _
        unfold b_X7_drawn_32
        rw [if_pos (nI_le (Nat.le_refl _) (by omega)), p_nmx, show σ2 16 5 = nI m2 from e3.1.2.2.2.2.2.1]
      · show f_X8_drawn τ x1 (nI d) = _
        rw [R0, e2]
        refine q_lim_ret (fun go => ?_)
        unfold D_X8_drawn
        rw [if_pos (show (0 : Nat) = 0 from rfl)]
        show b_X8_drawn_30 go τ2 (nI d) z2 (nI d) = _
        unfold b_X8_drawn_30
        rw [if_pos (nI_le (Nat.le_refl _) (by omega)), rd1_1, e3.1.2.2.2.2.1]
    · rw [if_neg h2] at V0 R0
      exact simN_same h V0 R0
  · rw [if_neg c] at R0
    refine simN_same h (r := -1) ?_ R0
    show f_X7_drawn σ x1 x2 = _
    rw [V0]
    by_cases w : x2 < 1
    · rw [if_pos w]
    · rw [if_neg w, if_neg (fun z => c ⟨i_nlt.mp w, z⟩)]
