theorem lf_cong {s s' : Nat → Int32} {m a b : Nat} (hm : m ≤ 24) (h : ∀ i, 10 ≤ i → i < 70 → s' i = s i) : lf s' m a b = lf s m a b := q_find_congr (fun i _ hi => by rw [h (10 + i) (by omega) (by omega), h (40 + i) (by omega) (by omega)])
theorem RLk_cong {n m : Nat} {net net' : qM} {s s' : Nat → Int32} (h : RLk n m net s) (hs : ∀ i, i < 130 → i ≠ 5 → i ≠ 6 → s' i = s i) (h5 : net' 0 7 = s' 5) (hj : ∀ j, 15 ≤ j → net' j = net j) (h0 : ∀ j, 3 ≤ j → j ≤ 6 → net' 0 j = net 0 j) : RLk n m net' s' := by
  obtain ⟨a1, a2, a3, a4, a5, a6, a7, a8, a9, a10, a11, a12, a13, a14⟩ := h
  refine ⟨a1, a2, by rw [hs 0 (by decide) (by decide) (by decide)]; exact a3, by rw [h0 3 (by decide) (by decide)]; exact a4, by rw [hs 1 (by decide) (by decide) (by decide)]; exact a5, by rw [hj 15 (by decide)]; exact a6, by rw [h0 4 (by decide) (by decide), hs 2 (by decide) (by decide) (by decide)]; exact a7, by rw [hs 2 (by decide) (by decide) (by decide)]; exact a8, by rw [h0 5 (by decide) (by decide), hs 3 (by decide) (by decide) (by decide)]; exact a9, by rw [hs 3 (by decide) (by decide) (by decide)]; exact a10, by rw [h0 6 (by decide) (by decide), hs 4 (by decide) (by decide) (by decide)]; exact a11, h5, fun k hk => ?_, fun x y hx hy => ?_⟩
  · rw [hs (10 + k) (by omega) (by omega) (by omega), hs (40 + k) (by omega) (by omega) (by omega), hs (70 + k) (by omega) (by omega) (by omega), hs (100 + k) (by omega) (by omega) (by omega), hj 16 (by decide), hj 17 (by decide), hj 18 (by decide), hj 19 (by decide)]
    exact a13 k hk
  · rw [hj 20 (by decide), lf_cong a2 (fun i h1 h2 => hs i (by omega) (by omega) (by omega))]
    exact a14 x y hx hy
def cntN (P : Nat → Bool) : Nat → Nat
  | 0 => 0
  | k + 1 => cntN P k + (if P k = true then 1 else 0)
theorem cntN_le (P : Nat → Bool) : ∀ k, cntN P k ≤ k := by
  intro k
  induction k with
  | zero => exact Nat.le_refl _
  | succ k ih =>
    show cntN P k + (if P k = true then 1 else 0) ≤ k + 1
    by_cases h : P k = true
    · rw [if_pos h]; omega
    · rw [if_neg h]; omega
theorem cntN_s {P : Nat → Bool} {k : Nat} (h : P k = true) : cntN P (k + 1) = cntN P k + 1 := by show cntN P k + _ = _; rw [if_pos h]
theorem cntN_n {P : Nat → Bool} {k : Nat} (h : P k = false) : cntN P (k + 1) = cntN P k := by show cntN P k + _ = _; rw [if_neg (by rw [h]; decide)]; rfl
theorem differS (T : qM) : f_X4_howManyDiffer T = some (nI (cntN (fun c => decide (T 1 c ≠ T 8 c ∨ T 2 c ≠ T 9 c)) 100), T) := by
  obtain ⟨P, hP⟩ : ∃ P : Nat → Bool, P = fun c => decide (T 1 c ≠ T 8 c ∨ T 2 c ≠ T 9 c) := ⟨_, rfl⟩
  rw [← hP]
  obtain ⟨σ', xs', ⟨e1, e2⟩, e3⟩ := q_run (D := D_X4_howManyDiffer) (i := 0) (I := fun k σ xs => xs = [nI (cntN P k), nI k] ∧ σ = T) 100 (fun k σ xs hk h => by
    obtain ⟨rfl, rfl⟩ := h
    refine ⟨σ, _, ⟨rfl, rfl⟩, q_lim_eq (fun go => ?_)⟩
    show b_X4_howManyDiffer_4 go σ (nI (cntN P k)) (nI k) = _
    unfold b_X4_howManyDiffer_4
    simp only [p_nm]
    rw [z100, if_neg (nI_ge hk (by decide)), q_rd_n hk (by decide), q_rd_n hk (by decide)]
    by_cases h1 : σ 1 k = σ 8 k
    · rw [if_pos h1, q_rd_n hk (by decide), q_rd_n hk (by decide)]
      by_cases h2 : σ 2 k = σ 9 k
      · rw [if_pos h2, cntN_n (by rw [hP]; exact decide_eq_false (fun z => z.elim (fun z => z h1) (fun z => z h2))), nI_1]
      · rw [if_neg h2, cntN_s (by rw [hP]; exact decide_eq_true (Or.inr h2)), nI_1, nI_1]
    · rw [if_neg h1, cntN_s (by rw [hP]; exact decide_eq_true (Or.inl h1)), nI_1, nI_1]) 100 0 T [nI (cntN P 0), nI 0] (by decide) ⟨rfl, rfl⟩
  show q_lim D_X4_howManyDiffer 0 T [nI (cntN P 0), nI 0] = _
  rw [e3, e1, e2]
  refine q_lim_ret (fun go => ?_)
  show b_X4_howManyDiffer_4 go T (nI (cntN P 100)) (nI 100) = _
  unfold b_X4_howManyDiffer_4
  rw [z100, if_pos (nI_le (Nat.le_refl _) (by decide))]
theorem p_put2_sub2 {n1 o1 n2 o2 : Nat} (σ : qM) (hd : ∀ k, o2 ≤ k → k < o2 + n2 → o1 ≤ k → k < o1 + n1 → False) : q_put2 n1 o1 n2 o2 σ (q_sub2 n1 o1 o2 σ) = σ := by
  funext k
  rw [p_put2]
  by_cases h1 : o1 ≤ k ∧ k < o1 + n1
  · rw [if_pos h1, p_sub2, if_pos (by omega)]
    congr 1
    omega
  · rw [if_neg h1]
    by_cases h2 : o2 ≤ k ∧ k < o2 + n2
    · rw [if_pos h2, p_sub2, if_neg (by omega)]
      congr 1
      omega
    · rw [if_neg h2]
/-- the row behind the round's begin -/
def rb (s : Nat → Int32) (n : Nat) : Nat → Int32 := bump (up1 s 5 (s 5 + 1)) n
theorem rb_lo {s : Nat → Int32} {n i : Nat} (hn : n ≤ 10) (hi : i < 450 ∨ 550 ≤ i) (h5 : i ≠ 5) : rb s n i = s i := by
  unfold rb
  rw [bump_lo hn hi, up1_n h5]
theorem rb_5 {s : Nat → Int32} {n : Nat} (hn : n ≤ 10) : rb s n 5 = s 5 + 1 := by
  unfold rb
  rw [bump_lo hn (by omega), up1_s]
theorem RT_n0 {n : Nat} {K : Nat → Nat} {net net' : qM} {s : Nat → Int32} (h : RT n K 1 net s) (hj : ∀ j, 2 ≤ j → j ≤ 7 → net' j = net j) : RT n K 1 net' s := by
  obtain ⟨h1, h2, h3, h4, h5, h6⟩ := h
  refine ⟨fun r hr => by rw [hj _ (by omega) (by omega)]; exact h1 r hr, h2, h3, h4, fun r k hr hk => ?_, fun r d hr hd hu => by rw [hj _ (by omega) (by omega)]; exact h6 r d hr hd hu⟩
  rw [hj _ (by omega) (by omega), hj _ (by omega) (by omega), hj _ (by omega) (by omega), hj _ (by omega) (by omega), hj _ (by omega) (by omega)]
  exact h5 r k hr hk
theorem roundC {n m : Nat} {K : Nat → Nat} {net : qM} {s : Nat → Int32} (h : RNp n m K net s) :
    ∃ K' net1 net', f_X3_goRound net = some (nI (cntN (fun c => decide (net' 2 c ≠ net1 9 c ∨ net' 3 c ≠ net1 10 c)) 100), net') ∧ RLk n m net1 (rb s n) ∧ RB n m K net1 (rb s n) ∧ RI n K K' net1 net' (rb s n) (List.foldl recM (rb s n) (tmR (rb s n) n m K n 0)) (s 6 + nI (tmR (rb s n) n m K n 0).length) := by
  obtain ⟨hL, h8, hT⟩ := h
  have hL0 := hL
  obtain ⟨hn, hm, l0, l3, l1, l15, l4, l4', l5, l5', l6, l7, ll, lj⟩ := hL
  obtain ⟨s3, hs3⟩ : ∃ z, z = q_wr net 0 7 (s 5 + 1) := ⟨_, rfl⟩
  have s3j : ∀ j, j ≠ 0 → s3 j = net j := fun j hj => by rw [hs3, p_wrk hj]
  have s30 : ∀ j, j ≠ 7 → s3 0 j = net 0 j := fun j hj => by rw [hs3, p_wrj hj]
  have hT3 : RT n K 1 s3 (bump (up1 s 5 (s 5 + 1)) 0) := by
    have : ∀ i, 130 ≤ i → bump (up1 s 5 (s 5 + 1)) 0 i = s i := fun i hi => by
      unfold bump
      by_cases c : up1 s 5 (s 5 + 1) 3 = 1
      · rw [if_pos c]; show up1 s 5 (s 5 + 1) i = s i; rw [up1_n (by omega)]
      · rw [if_neg c, up1_n (by omega)]
    exact RT_row (RT_n0 hT (fun j a b => s3j j (by omega))) this
  have b03 : up1 s 5 (s 5 + 1) 3 = s 3 := up1_n (by decide)
  -- the sequences
  obtain ⟨σ2, xs2, ⟨e1, e2, e3⟩, e4⟩ := q_run (D := D_X3_goRound) (i := 0) (I := fun k σ xs => xs = [nI k] ∧ RT n K 1 σ (bump (up1 s 5 (s 5 + 1)) k) ∧ ∀ j, j ≠ 4 → σ j = s3 j) n (fun k σ xs hk hI => by
    obtain ⟨rfl, hI1, hI2⟩ := hI
    have q5 : σ 0 5 = up1 s 5 (s 5 + 1) 3 := by rw [hI2 0 (by decide), s30 5 (by decide), b03]; exact l5
    refine ⟨_, _, ⟨rfl, bump_step hn q5 (by rw [b03]; exact l5') hk hI1, fun j hj => by rw [p_wrk hj]; exact hI2 j hj⟩, q_lim_eq (fun go => ?_)⟩
    show b_X3_goRound_12 go σ (nI k) = _
    unfold b_X3_goRound_12
    simp only [p_nm]
    rw [hI2 0 (by decide), s30 3 (by decide), l3, if_neg (nI_ge hk (by omega)), p_cell, q_rd_n (by omega) (by decide), q_wt_n (by omega) (by decide), nI_1, ← hI2 0 (by decide)]) n 0 s3 [nI 0] (by omega) ⟨rfl, hT3, fun _ _ => rfl⟩
  have hb : rb s n = bump (up1 s 5 (s 5 + 1)) n := rfl
  -- the copy
  obtain ⟨T', t1, t2, t3, t4⟩ := becomeT (q_sub2 7 8 1 σ2)
  obtain ⟨net1, hn1⟩ : ∃ z, z = q_put2 7 8 7 1 σ2 T' := ⟨_, rfl⟩
  have n1lo : ∀ j, j < 8 → net1 j = σ2 j := fun j hj => by
    rw [hn1, p_put2, if_neg (by omega)]
    by_cases c : 1 ≤ j ∧ j < 1 + 7
    · rw [if_pos c, t4 _ (by omega), p_sub2, if_neg (by omega)]
      congr 1
      omega
    · rw [if_neg c]
  have n1hi : ∀ j, 15 ≤ j → net1 j = σ2 j := fun j hj => by rw [hn1, p_put2, if_neg (by omega), if_neg (by omega)]
  have n1c : ∀ i, 1 ≤ i → i ≤ 5 → ∀ c, c < 100 → net1 (8 + i) c = σ2 (1 + i) c := fun i a b c hc => by
    rw [hn1, p_put2, if_pos (by omega), show 8 + i - 8 = i by omega, t2 i a b c hc, p_sub2, if_neg (by omega)]
    congr 2
    omega
  have n1z : ∀ c, c < 10 → net1 14 c = σ2 7 c := fun c hc => by
    rw [hn1, p_put2, if_pos (by omega), t3 c hc, p_sub2, if_neg (by omega)]
  have hT1 : RT n K 1 net1 (rb s n) := RT_n0 e2 (fun j a b => n1lo j (by omega))
  have hT8 : RT n K 8 net1 (rb s n) := RT_net hn e2 (fun i a b c hc => n1c i a b c hc) (fun c hc => n1z c hc)
  have z0j : ∀ j, net1 0 j = s3 0 j := fun j => by rw [n1lo 0 (by decide), e3 0 (by decide)]
  have hL1 : RLk n m net1 (rb s n) := RLk_cong hL0 (fun i hi h5 h6 => rb_lo hn (by omega) h5) (by rw [z0j, hs3, p_wrs, rb_5 hn]) (fun j hj => by rw [n1hi j hj, e3 j (by omega), s3j j (by omega)]) (fun j a b => by rw [z0j, s30 j (by omega)])
  have hB : RB n m K net1 (rb s n) := ⟨hn, hT8, hL1.2.2.2.1, hL1.2.2.2.2.2.2.1, hL1.2.2.2.2.2.2.2.1, hL1.2.2.2.2.2.2.2.2.1, hL1.2.2.2.2.2.2.2.2.2.2.1, hL1.2.2.2.2.2.2.2.2.2.2.2.1⟩
  have hI0 : RI n K K net1 net1 (rb s n) (rb s n) (s 6) := ⟨hT1, fun _ _ => rfl, fun _ _ => rfl, fun _ _ => rfl, by rw [z0j, s30 8 (by decide)]; exact h8, fun _ => Nat.le_refl _, fun _ _ _ _ => rfl, fun c hc _ => by rw [n1lo 3 (by decide)]; exact (n1c 2 (by decide) (by decide) c hc).symm⟩
  obtain ⟨b, hbe⟩ : ∃ z, z = rb s n := ⟨_, rfl⟩
  rw [← hbe] at hB hI0 hL1 ⊢
  obtain ⟨sF, hsF⟩ : ∃ z, z = List.foldl recM b (tmR b n m K n 0) := ⟨_, rfl⟩
  obtain ⟨tF, htF⟩ : ∃ z, z = s 6 + nI (tmR b n m K n 0).length := ⟨_, rfl⟩
  have hL1' := hL1
  obtain ⟨-, -, -, k3, -, -, -, -, -, -, -, -, kl, kj⟩ := hL1'
  -- the routers that tell
  obtain ⟨σ3, xs3, ⟨f1, K', sc, tc, f2, f3, f4⟩, f5⟩ := q_run (D := D_X3_goRound) (i := 1) (I := fun r σ xs => xs = [nI r] ∧ ∃ (Kc : Nat → Nat) (sc : Nat → Int32) (tc : Int32), RI n K Kc net1 σ b sc tc ∧ List.foldl recM sc (tmR b n m K (n - r) r) = sF ∧ tc + nI (tmR b n m K (n - r) r).length = tF) n (fun r σ xs hr hI => by
    obtain ⟨rfl, Kc, sc, tc, g1, g2, g3⟩ := hI
    rw [show n - r = (n - (r + 1)) + 1 by omega] at g2 g3
    have g2 : List.foldl recM sc (tmT b m K r n 0 ++ tmR b n m K (n - (r + 1)) (r + 1)) = sF := g2
    have g3 : tc + nI (tmT b m K r n 0 ++ tmR b n m K (n - (r + 1)) (r + 1)).length = tF := g3
    rw [List.foldl_append] at g2
    rw [List.length_append, ← addI] at g3
    obtain ⟨sG, hsG⟩ : ∃ z, z = List.foldl recM sc (tmT b m K r n 0) := ⟨_, rfl⟩
    obtain ⟨tG, htG⟩ : ∃ z, z = tc + nI (tmT b m K r n 0).length := ⟨_, rfl⟩
    obtain ⟨σ4, xs4, ⟨p1, K4, s4, t4, p2, p3, p4⟩, p5⟩ := q_run (D := D_X3_goRound) (i := 2) (I := fun to σ xs => xs = [nI r, nI to] ∧ ∃ (Kc : Nat → Nat) (sc : Nat → Int32) (tc : Int32), RI n K Kc net1 σ b sc tc ∧ List.foldl recM sc (tmT b m K r (n - to) to) = sG ∧ tc + nI (tmT b m K r (n - to) to).length = tG) n (fun to σ xs hto hI => by
      obtain ⟨rfl, Kc, sc, tc, q1, q2, q3⟩ := hI
      rw [show n - to = (n - (to + 1)) + 1 by omega] at q2 q3
      have q2 : List.foldl recM sc (tmP b m K r to ++ tmT b m K r (n - (to + 1)) (to + 1)) = sG := q2
      have q3 : tc + nI (tmP b m K r to ++ tmT b m K r (n - (to + 1)) (to + 1)).length = tG := q3
      rw [List.foldl_append] at q2
      rw [List.length_append, ← addI] at q3
      have hj := q1.2.2.1
      have h03 : σ 0 3 = nI n := by rw [q1.2.2.2.1 3 (by decide)]; exact k3
      have hjn : σ 20 (10 * r + to) = jn (lf b m r to) := by rw [hj 20 (by decide)]; exact kj r to (by omega) (by omega)
      have hput : q_put 15 6 σ (q_sub 15 σ) = σ := p_put_sub 15 6 σ
      have st : ∀ go : qB, D_X3_goRound go 2 σ [nI r, nI to] = (if jn (lf b m r to) - 1 < 0 then go 2 σ [nI r, nI (to + 1)] else q_rd σ 19 24 (jn (lf b m r to) - 1) fun x30 => if x30 = 1 then (q_rd σ 18 24 (jn (lf b m r to) - 1) fun x33 => q_cl (f_X3_tell σ (nI r) (nI to) x33) (fun τ => τ) fun _ s34 => go 2 s34 [nI r, nI (to + 1)]) else go 2 σ [nI r, nI (to + 1)]) := fun go => by
        show b_X3_goRound_72 go σ (nI r) (nI to) = _
        unfold b_X3_goRound_72
        simp only [p_nm]
        rw [h03, if_neg (nI_ge hto (by omega)), joiningS (by omega) (by omega), p_cl, hput, show q_sub 15 σ 5 (10 * r + to) = jn (lf b m r to) from hjn, nI_1]
      cases hlf : lf b m r to with
      | none =>
        have hP : tmP b m K r to = [] := by unfold tmP; rw [hlf]
        rw [hP] at q2 q3
        refine ⟨σ, _, ⟨rfl, Kc, sc, tc, q1, q2, ?_⟩, q_lim_eq (fun go => ?_)⟩
        · have q3 : tc + nI 0 + _ = tG := q3
          rw [addI0] at q3; exact q3
        · rw [st go, hlf]
          exact if_pos (by decide)
      | some k =>
        have hk : k < m := by have := q_find_some hlf; omega
        obtain ⟨ea, eb, ec, w1, w2, w3, w4, w5, w6, w7, w8, w9, w10, w11, w12⟩ := kl k hk
        have hk1 : jn (some k) - 1 = nI k := nI_pred k
        have st2 : ∀ go : qB, D_X3_goRound go 2 σ [nI r, nI to] = (if b (100 + k) = 1 then (q_cl (f_X3_tell σ (nI r) (nI to) (nI ec)) (fun τ => τ) fun _ s34 => go 2 s34 [nI r, nI (to + 1)]) else go 2 σ [nI r, nI (to + 1)]) := fun go => by
          rw [st go, hlf, hk1, if_neg (nI_pos (by omega)), q_rd_n (by omega) (by decide), hj 19 (by decide), w11]
          by_cases c : b (100 + k) = 1
          · rw [if_pos c, if_pos c, q_rd_n (by omega) (by decide), hj 18 (by decide), w10]
          · rw [if_neg c, if_neg c]
        by_cases c : b (100 + k) = 1
        · have hP : tmP b m K r to = tmL b r to (nI ec) (K r) 0 := by unfold tmP; rw [hlf]; show (if b (100 + k) = 1 then tmL b r to (b (70 + k)) (K r) 0 else []) = _; rw [if_pos c, w9]
          rw [hP] at q2 q3
          obtain ⟨K5, net5, v1, v2⟩ := tellC hB hr hto (c := ec) w4 q1
          exact ⟨net5, _, ⟨rfl, K5, _, _, v2, q2, q3⟩, q_lim_eq (fun go => by rw [st2 go, if_pos c, v1, p_cl])⟩
        · have hP : tmP b m K r to = [] := by unfold tmP; rw [hlf]; exact if_neg c
          rw [hP] at q2 q3
          refine ⟨σ, _, ⟨rfl, Kc, sc, tc, q1, q2, ?_⟩, q_lim_eq (fun go => by rw [st2 go, if_neg c])⟩
          have q3 : tc + nI 0 + _ = tG := q3
          rw [addI0] at q3; exact q3) n 0 σ [nI r, nI 0] (by omega) ⟨rfl, Kc, sc, tc, g1, hsG.symm, htG.symm⟩
    rw [Nat.sub_self] at p3 p4
    have p3 : s4 = sG := p3
    have p4 : t4 + nI 0 = tG := p4
    rw [addI0] at p4
    have h03 : σ 0 3 = nI n := by rw [g1.2.2.2.1 3 (by decide)]; exact k3
    have h43 : σ4 0 3 = nI n := by rw [p2.2.2.2.1 3 (by decide)]; exact k3
    refine ⟨σ4, _, ⟨rfl, K4, s4, t4, p2, by rw [p3, hsG]; exact g2, by rw [p4, htG]; exact g3⟩, ?_⟩
    rw [q_lim_eq (j := 2) (τ := σ) (ys := [nI r, nI 0]) (fun go => ?_), p5, p1]
    · refine q_lim_eq (fun go => ?_)
      show b_X3_goRound_72 go σ4 (nI r) (nI n) = _
      unfold b_X3_goRound_72
      simp only [p_nm]
      rw [h43, if_pos (nI_le (Nat.le_refl _) (by omega)), nI_1]
    · show b_X3_goRound_62 go σ (nI r) = _
      unfold b_X3_goRound_62
      simp only [p_nm]
      rw [h03, if_neg (nI_ge hr (by omega))]
      rfl) n 0 net1 [nI 0] (by omega) ⟨rfl, K, b, s 6, hI0, hsF.symm, htF.symm⟩
  rw [Nat.sub_self] at f3 f4
  have f3 : sc = sF := f3
  have f4 : tc + nI 0 = tF := f4
  rw [addI0] at f4
  refine ⟨K', net1, σ3, ?_, hL1, hB, by rw [← hsF, ← htF, ← f3, ← f4]; exact f2⟩
  unfold f_X3_goRound e_X3_goRound
  simp only [p_nm]
  rw [l7, ← hs3]
  show q_lim D_X3_goRound 0 s3 [nI 0] = _
  rw [e4, e1]
  have h23 : σ2 0 3 = nI n := by rw [e3 0 (by decide), s30 3 (by decide)]; exact l3
  rw [q_lim_eq (j := 1) (τ := net1) (ys := [nI 0]) (fun go => ?_), f5, f1]
  · refine q_lim_ret (fun go => ?_)
    show b_X3_goRound_62 go σ3 (nI n) = _
    unfold b_X3_goRound_62
    simp only [p_nm]
    have h33 : σ3 0 3 = nI n := by rw [f2.2.2.2.1 3 (by decide)]; exact k3
    rw [h33, if_pos (nI_le (Nat.le_refl _) (by omega)), differS, p_cl, p_put2_sub2 _ (fun k a b c d => by omega)]
    have u1 : q_sub2 7 1 8 σ3 1 = σ3 2 := rfl
    have u2 : q_sub2 7 1 8 σ3 2 = σ3 3 := rfl
    have u8 : q_sub2 7 1 8 σ3 8 = net1 9 := by rw [show q_sub2 7 1 8 σ3 8 = σ3 9 from rfl]; exact f2.2.2.1 9 (by decide)
    have u9 : q_sub2 7 1 8 σ3 9 = net1 10 := by rw [show q_sub2 7 1 8 σ3 9 = σ3 10 from rfl]; exact f2.2.2.1 10 (by decide)
    rw [u1, u2, u8, u9]
  · show b_X3_goRound_12 go σ2 (nI n) = _
    unfold b_X3_goRound_12
    simp only [p_nm]
    rw [h23, if_pos (nI_le (Nat.le_refl _) (by omega)), t1, p_cl, ← hn1]
    rfl
