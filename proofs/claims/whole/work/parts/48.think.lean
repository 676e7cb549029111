/-! thinking: a copy of the network, a copy of the row -/
theorem RNp_cells {n m : Nat} {K : Nat → Nat} {net net' : qM} {s : Nat → Int32} (h : RNp n m K net s) (hc : ∀ i, 2 ≤ i → i ≤ 6 → ∀ j, j < 100 → net' i j = net i j) (hz : ∀ j, j < 10 → net' 7 j = net 7 j) (h0 : ∀ j, 3 ≤ j → j ≤ 8 → net' 0 j = net 0 j) (h15 : net' 15 5 = net 15 5) (hl : ∀ i, 16 ≤ i → i ≤ 19 → ∀ j, j < 24 → net' i j = net i j) (hj : ∀ j, j < 100 → net' 20 j = net 20 j) : RNp n m K net' s := by
  obtain ⟨⟨a1, a2, a3, a4, a5, a6, a7, a8, a9, a10, a11, a12, a13, a14⟩, h8, hT⟩ := h
  refine ⟨⟨a1, a2, a3, by rw [h0 3 (by decide) (by decide)]; exact a4, a5, h15.trans a6, by rw [h0 4 (by decide) (by decide)]; exact a7, a8, by rw [h0 5 (by decide) (by decide)]; exact a9, a10, by rw [h0 6 (by decide) (by decide)]; exact a11, by rw [h0 7 (by decide) (by decide)]; exact a12, fun k hk => ?_, fun x y hx hy => by rw [hj _ (by omega)]; exact a14 x y hx hy⟩, by rw [h0 8 (by decide) (by decide)]; exact h8, RT_net a1 hT (fun i u v j hj1 => hc (1 + i) (by omega) (by omega) j hj1) (fun j hj1 => hz j hj1)⟩
  rw [hl 16 (by decide) (by decide) k (by omega), hl 17 (by decide) (by decide) k (by omega), hl 18 (by decide) (by decide) k (by omega), hl 19 (by decide) (by decide) k (by omega)]
  exact a13 k hk
theorem RNp_650 {n m : Nat} {K : Nat → Nat} {net : qM} {s s' : Nat → Int32} (h : RNp n m K net s) (hs : ∀ i, i < 650 → s' i = s i) : RNp n m K net s' := by
  obtain ⟨⟨a1, a2, a3, a4, a5, a6, a7, a8, a9, a10, a11, a12, a13, a14⟩, h8, hT⟩ := h
  have lk : ∀ r, r < 10 → K r ≤ 10 := fun r hr => Nat.le_trans (hT.le a1 hr) a1
  obtain ⟨t1, t2, t3, t4, t5, t6⟩ := hT
  refine ⟨⟨a1, a2, by rw [hs 0 (by decide)]; exact a3, a4, by rw [hs 1 (by decide)]; exact a5, a6, by rw [hs 2 (by decide)]; exact a7, by rw [hs 2 (by decide)]; exact a8, by rw [hs 3 (by decide)]; exact a9, by rw [hs 3 (by decide)]; exact a10, by rw [hs 4 (by decide)]; exact a11, by rw [hs 5 (by decide)]; exact a12, fun k hk => ?_, fun x y hx hy => by rw [lf_cong (s := s) a2 (fun i u v => hs i (by omega))]; exact a14 x y hx hy⟩, by rw [hs 6 (by decide)]; exact h8, fun r hr => by rw [hs _ (by omega)]; exact t1 r hr, t2, fun r hr => by rw [hs _ (by omega)]; exact t3 r hr, fun r i j hr hi hj e => ?_, fun r k hr hk => ?_, fun r d hr hd hu => t6 r d hr hd (fun k hk => ?_)⟩
  · rw [hs _ (by omega), hs _ (by omega), hs _ (by omega), hs _ (by omega)]
    exact a13 k hk
  · have := lk r hr
    rw [hs _ (by omega), hs _ (by omega)] at e
    exact t4 r i j hr hi hj e
  · have := lk r hr
    rw [hs _ (by omega), hs _ (by omega), hs _ (by omega), hs _ (by omega), hs _ (by omega)]
    exact t5 r k hr hk
  · have := lk r hr
    have := hu k hk
    rw [hs _ (by omega)] at this
    exact this
/-- Links.become: the first six regions out of the second -/
theorem becomeL (L : qM) : ∃ L', f_X2_become L = some (0, L') ∧ (∀ i, 1 ≤ i → i ≤ 4 → ∀ j, j < 24 → L' i j = L (6 + i) j) ∧ (∀ j, j < 100 → L' 5 j = L 11 j) ∧ L' 0 5 = L 6 5 ∧ ∀ i, 6 ≤ i → L' i = L i := by
  unfold f_X2_become
  simp only [p_nm]
  refine ⟨_, rfl, fun i h1 h5 j hj => ?_, fun j hj => ?_, ?_, fun i hi => ?_⟩
  · have hi : i = 1 ∨ i = 2 ∨ i = 3 ∨ i = 4 := by omega
    rcases hi with rfl | rfl | rfl | rfl <;> rw [p_wrk (by decide)] <;> simp [p_wa, cpyL hj]
  · rw [p_wrk (by decide)]
    simp [p_wa, cpyL hj]
  · rw [p_wrs]
    simp [p_wa]
  · rw [p_wrk (by omega)]
    funext j
    have e1 : ¬ i = 1 := by omega
    have e2 : ¬ i = 2 := by omega
    have e3 : ¬ i = 3 := by omega
    have e4 : ¬ i = 4 := by omega
    have e5 : ¬ i = 5 := by omega
    simp [p_wa, e1, e2, e3, e4, e5]
/-- Network.become: the first network out of the second one, 21 regions further -/
theorem becomeN (W : qM) : ∃ W', f_X3_become W = some (0, W') ∧ (∀ k, 21 ≤ k → W' k = W k) ∧ ∀ (n m : Nat) (K : Nat → Nat) (s : Nat → Int32), RNp n m K (q_sub 21 W) s → RNp n m K W' s := by
  obtain ⟨T', t1, t2, t3, t4⟩ := becomeT (q_sub2 7 1 22 W)
  obtain ⟨W1, hW1⟩ : ∃ z, z = q_put2 7 1 7 22 W T' := ⟨_, rfl⟩
  have w1hi : ∀ k, (k = 0 ∨ 8 ≤ k) → W1 k = W k := fun k hk => by
    rw [hW1, p_put2, if_neg (by omega)]
    by_cases c : 22 ≤ k ∧ k < 22 + 7
    · rw [if_pos c, t4 _ (by omega), p_sub2, if_neg (by omega)]
      congr 1
      omega
    · rw [if_neg c]
  have w1c : ∀ i, 2 ≤ i → i ≤ 6 → ∀ j, j < 100 → W1 i j = W (21 + i) j := fun i a b j hj => by
    rw [hW1, p_put2, if_pos (by omega), t2 (i - 1) (by omega) (by omega) j hj, p_sub2, if_neg (by omega), show 22 + (7 + (i - 1) - 7) = 21 + i by omega]
  have w1z : ∀ j, j < 10 → W1 7 j = W 28 j := fun j hj => by
    rw [hW1, p_put2, if_pos (by omega), t3 j hj, p_sub2, if_neg (by omega)]
  obtain ⟨L', l1, l2, l3, l4, l5⟩ := becomeL (q_sub2 6 15 36 W1)
  obtain ⟨W2, hW2⟩ : ∃ z, z = q_put2 6 15 6 36 W1 L' := ⟨_, rfl⟩
  have w2o : ∀ k, (k < 15 ∨ 21 ≤ k) → W2 k = W1 k := fun k hk => by
    rw [hW2, p_put2, if_neg (by omega)]
    by_cases c : 36 ≤ k ∧ k < 36 + 6
    · rw [if_pos c, l5 _ (by omega), p_sub2, if_neg (by omega)]
      congr 1
      omega
    · rw [if_neg c]
  have w2c : ∀ i, 16 ≤ i → i ≤ 19 → ∀ j, j < 24 → W2 i j = W (21 + i) j := fun i a b j hj => by
    rw [hW2, p_put2, if_pos (by omega), l2 (i - 15) (by omega) (by omega) j hj, p_sub2, if_neg (by omega), w1hi _ (by omega), show 36 + (6 + (i - 15) - 6) = 21 + i by omega]
  have w2j : ∀ j, j < 100 → W2 20 j = W 41 j := fun j hj => by
    rw [hW2, p_put2, if_pos (by omega), l3 j hj, p_sub2, if_neg (by omega), w1hi _ (by omega)]
  have w25 : W2 15 5 = W 36 5 := by
    rw [hW2, p_put2, if_pos (by omega), l4, p_sub2, if_neg (by omega), w1hi _ (by omega)]
  have w221 : W2 21 = W 21 := by rw [w2o 21 (by omega), w1hi 21 (by omega)]
  refine ⟨q_wr (q_wr (q_wr (q_wr (q_wr (q_wr W2 0 3 (W 21 3)) 0 4 (W 21 4)) 0 5 (W 21 5)) 0 6 (W 21 6)) 0 7 (W 21 7)) 0 8 (W 21 8), ?_, fun k hk => ?_, fun n m K s h => ?_⟩
  · unfold f_X3_become
    rw [t1, p_cl, ← hW1, l1, p_cl, ← hW2]
    simp only [p_nm]
    have k21 : ∀ (X : qM) (j : Nat) (v : Int32), q_wr X 0 j v 21 = X 21 := fun X j v => p_wrk (by decide)
    simp only [k21, w221]
  · rw [p_wrk (by omega), p_wrk (by omega), p_wrk (by omega), p_wrk (by omega), p_wrk (by omega), p_wrk (by omega), w2o k (by omega), w1hi k (by omega)]
  · have pk : ∀ k, k ≠ 0 → q_wr (q_wr (q_wr (q_wr (q_wr (q_wr W2 0 3 (W 21 3)) 0 4 (W 21 4)) 0 5 (W 21 5)) 0 6 (W 21 6)) 0 7 (W 21 7)) 0 8 (W 21 8) k = W2 k := fun k hk => by rw [p_wrk hk, p_wrk hk, p_wrk hk, p_wrk hk, p_wrk hk, p_wrk hk]
    refine RNp_cells h (fun i a b j hj => ?_) (fun j hj => ?_) (fun j a b => ?_) ?_ (fun i a b j hj => ?_) (fun j hj => ?_)
    · rw [pk i (by omega), w2o i (by omega), w1c i a b j hj]; rfl
    · rw [pk 7 (by decide), w2o 7 (by omega), w1z j hj]; rfl
    · have hj : j = 3 ∨ j = 4 ∨ j = 5 ∨ j = 6 ∨ j = 7 ∨ j = 8 := by omega
      rcases hj with rfl | rfl | rfl | rfl | rfl | rfl
      · rw [p_wrj (by decide), p_wrj (by decide), p_wrj (by decide), p_wrj (by decide), p_wrj (by decide), p_wrs]; rfl
      · rw [p_wrj (by decide), p_wrj (by decide), p_wrj (by decide), p_wrj (by decide), p_wrs]; rfl
      · rw [p_wrj (by decide), p_wrj (by decide), p_wrj (by decide), p_wrs]; rfl
      · rw [p_wrj (by decide), p_wrj (by decide), p_wrs]; rfl
      · rw [p_wrj (by decide), p_wrs]; rfl
      · rw [p_wrs]; rfl
    · rw [pk 15 (by decide), w25]; rfl
    · rw [pk i (by omega), w2c i a b j hj]; rfl
    · rw [pk 20 (by decide), w2j j hj]; rfl
/-- a network out of another one, in the class's world: 21 regions at o1 out of those at o2 -/
theorem becomeV (σ : qM) {o1 o2 : Nat} (hd : o1 + 21 ≤ o2 ∨ o2 + 21 ≤ o1) : ∃ W' σ', f_X3_become (q_sub2 21 o1 o2 σ) = some (0, W') ∧ q_put2 21 o1 21 o2 σ W' = σ' ∧ (∀ k, (k < o1 ∨ o1 + 21 ≤ k) → σ' k = σ k) ∧ ∀ (n m : Nat) (K : Nat → Nat) (s : Nat → Int32), RNp n m K (q_sub o2 σ) s → RNp n m K (q_sub o1 σ') s := by
  obtain ⟨W', e1, e2, e3⟩ := becomeN (q_sub2 21 o1 o2 σ)
  refine ⟨W', _, e1, rfl, fun k hk => ?_, fun n m K s h => ?_⟩
  · rw [p_put2, if_neg (by omega)]
    by_cases c : o2 ≤ k ∧ k < o2 + 21
    · rw [if_pos c, e2 _ (by omega), p_sub2, if_neg (by omega)]
      congr 1
      omega
    · rw [if_neg c]
  · have h1 : RNp n m K (q_sub 21 (q_sub2 21 o1 o2 σ)) s := RNp_ext h (fun k hk => by
      show q_sub2 21 o1 o2 σ (21 + k) = σ (o2 + k)
      rw [p_sub2, if_neg (by omega)]
      congr 1
      omega)
    refine RNp_ext (e3 n m K s h1) (fun k hk => ?_)
    show q_put2 21 o1 21 o2 σ W' (o1 + k) = W' k
    rw [p_put2, if_pos (by omega)]
    congr 1
    omega
/-- the reference's row, copied -/
theorem copyS (T : qM) : ∃ T', f_X8_copy T = some (0, T') ∧ (∀ i, i < 650 → T' 1 i = T 0 i) ∧ ∀ i, i ≠ 1 → T' i = T i := by
  obtain ⟨T', xs', ⟨e1, e2, e3⟩, e4⟩ := q_run (D := D_X8_copy) (i := 0) (I := fun k σ xs => xs = [nI k] ∧ (∀ i, i < k → σ 1 i = T 0 i) ∧ ∀ i, i ≠ 1 → σ i = T i) 650 (fun k σ xs hk hI => by
    obtain ⟨rfl, g1, g2⟩ := hI
    refine ⟨q_wr σ 1 k (T 0 k), _, ⟨rfl, fun i hi => ?_, fun i hi => by rw [p_wrk hi]; exact g2 i hi⟩, q_lim_eq (fun go => ?_)⟩
    · rw [p_wr]
      by_cases c : i = k
      · rw [if_pos ⟨rfl, c⟩, c]
      · rw [if_neg (fun z => c z.2)]; exact g1 i (by omega)
    · show b_X8_copy_2 go σ (nI k) = _
      unfold b_X8_copy_2
      simp only [p_nm]
      rw [if_neg (show ¬ (Int32.ofNat 650 ≤ nI k) from nI_ge hk (by decide)), q_rd_n hk (by decide), g2 0 (by decide), q_wt_n hk (by decide), nI_1]) 650 0 T [nI 0] (by decide) ⟨rfl, fun i hi => by omega, fun _ _ => rfl⟩
  refine ⟨T', ?_, e2, e3⟩
  show q_lim D_X8_copy 0 T [nI 0] = _
  rw [e4, e1]
  refine q_lim_ret (fun go => ?_)
  show b_X8_copy_2 go T' (nI 650) = _
  unfold b_X8_copy_2
  simp only [p_nm]
  rw [if_pos (show Int32.ofNat 650 ≤ nI 650 from nI_le (Nat.le_refl _) (by decide))]
theorem p_sw {α : Type} (f : Nat → α) (k : Nat) : q_sw f k = if k = 1 then f 2 else if k = 2 then f 1 else f k := by
  unfold q_sw
  by_cases h1 : k = 1
  · subst h1; rfl
  · rw [if_neg h1, q_beq_ne h1]
    by_cases h2 : k = 2
    · subst h2; rfl
    · rw [if_neg h2, q_beq_ne h2]; rfl
theorem thinkR (τ : qM) : ∃ τ', f_X8_think τ = some (0, τ') ∧ τ' 2 = τ 1 ∧ (∀ i, i < 650 → τ' 1 i = τ 1 i) ∧ ∀ i, i ≠ 1 → i ≠ 2 → τ' i = τ i := by
  obtain ⟨T', e1, e2, e3⟩ := copyS (q_sub2 1 1 2 τ)
  refine ⟨q_sw (q_put2 1 1 1 2 τ T'), ?_, ?_, fun i hi => ?_, fun i h1 h2 => ?_⟩
  · unfold f_X8_think
    rw [e1, p_cl]
  · rw [p_sw, if_neg (by decide), if_pos rfl, p_put2, if_pos (by decide), show 1 - 1 = 0 from rfl, e3 0 (by decide), p_sub2, if_pos (by decide)]
  · rw [p_sw, if_pos rfl, p_put2, if_neg (by decide), if_pos (by decide), show 1 + (2 - 2) = 1 from rfl, e2 i hi, p_sub2, if_pos (by decide)]
  · rw [p_sw, if_neg h1, if_neg h2, p_put2, if_neg (by omega), if_neg (by omega)]
theorem wakeR (τ : qM) : f_X8_wake τ = some (0, q_sw τ) := rfl
/-- both sides think of the network now -/
theorem think_sim {n m : Nat} {K : Nat → Nat} {σ τ : qM} (h : RNp n m K (q_sub 1 σ) (τ 1)) : ∃ W' σ' τ', f_X3_become (q_sub2 21 22 1 σ) = some (0, W') ∧ q_put2 21 22 21 1 σ W' = σ' ∧ f_X8_think τ = some (0, τ') ∧ RNp n m K (q_sub 22 σ') (τ' 1) ∧ (∀ k, (k < 22 ∨ 43 ≤ k) → σ' k = σ k) ∧ τ' 2 = τ 1 ∧ ∀ i, i ≠ 1 → i ≠ 2 → τ' i = τ i := by
  obtain ⟨W', σ', a1, a2, a3, a4⟩ := becomeV σ (o1 := 22) (o2 := 1) (by omega)
  obtain ⟨τ', b1, b2, b3, b4⟩ := thinkR τ
  exact ⟨W', σ', τ', a1, a2, b1, a4 n m K _ (RNp_650 h b3), fun k hk => a3 k (by omega), b2, b4⟩
/-- awake again: the network now and the row are what they were -/
theorem awake {n m : Nat} {K : Nat → Nat} {σ τ σ1 τ1 : qM} (h : RNp n m K (q_sub 1 σ) (τ 1)) (hσ : ∀ k, (k < 22 ∨ (43 ≤ k ∧ k < 85) ∨ 89 ≤ k) → σ1 k = σ k) (h2 : τ1 2 = τ 1) (hτ : ∀ i, (14 ≤ i ∨ i = 3) → τ1 i = τ i) (h0 : ∀ j, 17 ≤ j → τ1 0 j = τ 0 j) : RNp n m K (q_sub 1 σ1) (q_sw τ1 1) ∧ frV σ σ1 ∧ frR τ (q_sw τ1) := by
  refine ⟨?_, ⟨hσ 0 (by omega), fun k a b => hσ k (by omega), fun k a => hσ k (by omega)⟩, fun i hi => ?_, fun j hj => ?_⟩
  · rw [p_sw, if_pos rfl, h2]
    exact RNp_ext h (fun k hk => hσ (1 + k) (by omega))
  · rw [p_sw, if_neg (by omega), if_neg (by omega)]; exact hτ i hi
  · rw [p_sw, if_neg (by decide), if_neg (by decide)]; exact h0 j hj
/-! settling -/
theorem settle_sim {n m : Nat} : ∀ (f k : Nat) (K : Nat → Nat) (net τ : qM), k + f = 81 → RNp n m K net (τ 1) → ∃ (r r' : Int32) (K' : Nat → Nat) (net' τ' : qM), q_lim D_X3_roundsToSettle 0 net [nI k] = some (r, net') ∧ q_lim D_X8_settled 0 τ [nI k] = some (r', τ') ∧ ((∃ q, q ≤ 80 ∧ r = nI q ∧ r' = nI q) ∨ (r = 81 ∧ r' = -2)) ∧ RNp n m K' net' (τ' 1) ∧ frM τ τ' := by
  intro f
  induction f with
  | zero =>
    intro k K net τ hk h
    have hk : k = 81 := by omega
    subst hk
    refine ⟨81, -2, K, net, τ, q_lim_ret (fun go => ?_), q_lim_ret (fun go => ?_), Or.inr ⟨rfl, rfl⟩, h, frM.rf τ⟩
    · show b_X3_roundsToSettle_2 go net (nI 81) = _
      unfold b_X3_roundsToSettle_2
      rw [if_pos (by decide)]
    · show b_X8_settled_2 go τ (nI 81) = _
      unfold b_X8_settled_2
      rw [if_pos (by decide)]
  | succ f ih =>
    intro k K net τ hk h
    obtain ⟨r, K1, net1, τ1, c1, c2, c3, c4, -⟩ := round_sim h
    have V : ∀ go : qB, D_X3_roundsToSettle go 0 net [nI k] = if r = 0 then some (nI k, net1) else go 0 net1 [nI (k + 1)] := fun go => by
      show b_X3_roundsToSettle_2 go net (nI k) = _
      unfold b_X3_roundsToSettle_2
      simp only [p_nm]
      rw [if_neg (show ¬ (80 : Int32) < nI k from nI_nlt (a := 80) (b := k) (by omega) (by decide)), c1, p_cl, nI_1]
    have R : ∀ go : qB, D_X8_settled go 0 τ [nI k] = if r = 0 then some (nI k, τ1) else go 0 τ1 [nI (k + 1)] := fun go => by
      show b_X8_settled_2 go τ (nI k) = _
      unfold b_X8_settled_2
      simp only [p_nm]
      rw [if_neg (show ¬ (80 : Int32) < nI k from nI_nlt (a := 80) (b := k) (by omega) (by decide)), c2, p_cl, nI_1]
    by_cases z : r = 0
    · exact ⟨nI k, nI k, K1, net1, τ1, q_lim_ret (fun go => by rw [V go, if_pos z]), q_lim_ret (fun go => by rw [R go, if_pos z]), Or.inl ⟨k, by omega, rfl, rfl⟩, c3, c4⟩
    · obtain ⟨r2, r2', K2, net2, τ2, d1, d2, d3, d4, d5⟩ := ih (k + 1) K1 net1 τ1 (by omega) c3
      exact ⟨r2, r2', K2, net2, τ2, by rw [q_lim_eq (fun go => by rw [V go, if_neg z])]; exact d1, by rw [q_lim_eq (fun go => by rw [R go, if_neg z])]; exact d2, d3, d4, c4.trans d5⟩
theorem settleN_sim {n m : Nat} {K : Nat → Nat} {net τ : qM} (h : RNp n m K net (τ 1)) : ∃ (r r' : Int32) (K' : Nat → Nat) (net' τ' : qM), f_X3_roundsToSettle net = some (r, net') ∧ f_X8_settled τ = some (r', τ') ∧ ((∃ q, q ≤ 80 ∧ r = nI q ∧ r' = nI q) ∨ (r = 81 ∧ r' = -2)) ∧ RNp n m K' net' (τ' 1) ∧ frM τ τ' := settle_sim 81 0 K net τ rfl h
theorem orNotS {σ : qM} {r r' : Int32} (h : (∃ q, q ≤ 80 ∧ r = nI q ∧ r' = nI q) ∨ (r = 81 ∧ r' = -2)) : f_X7_orNot σ r = some (r', σ) := by
  unfold f_X7_orNot
  rcases h with ⟨q, hq, rfl, rfl⟩ | ⟨rfl, rfl⟩
  · rw [if_pos (show nI q ≤ 80 from nI_le (b := 80) hq (by decide))]
  · rw [if_neg (by decide)]
theorem N_settledNow : simN f_X7_settledNow f_X8_settledNow := fun n m K σ τ h => by
  obtain ⟨W', σ1, τ1, a1, a2, a3, a4, a5, a6, a7⟩ := think_sim h
  obtain ⟨r, r', K', net', τ2, b1, b2, b3, b4, b5⟩ := settleN_sim a4
  have aw := awake h (σ1 := q_put 22 21 σ1 net') (τ1 := τ2) (fun k hk => by rw [p_put, if_neg (by omega)]; exact a5 k (by omega)) (by rw [b5.1 2 (by omega)]; exact a6) (fun i hi => by rw [b5.1 i (by omega)]; exact a7 i (by omega) (by omega)) (fun j hj => by rw [b5.2 j (by omega), a7 0 (by decide) (by decide)])
  refine ⟨r', _, _, n, m, K, ?_, ?_, aw.1, aw.2.1, aw.2.2⟩
  · unfold f_X7_settledNow
    rw [a1, p_cl, a2, b1, p_cl, orNotS b3, p_cl]
  · unfold f_X8_settledNow
    rw [a3, p_cl, b2, p_cl, wakeR, p_cl]
