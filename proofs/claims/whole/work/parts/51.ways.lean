/-! ways and loops of the network now, and in thought -/
theorem putWalk {σ W' : qM} {o : Nat} (ho : o + 7 ≤ 85) (h : ∀ j, 2 ≤ j → W' j = q_sub2 2 85 o σ j) : (∀ j, q_put2 2 85 7 o σ W' 85 j = W' 0 j) ∧ (∀ j, q_put2 2 85 7 o σ W' 86 j = W' 1 j) ∧ ∀ k, k ≠ 85 → k ≠ 86 → q_put2 2 85 7 o σ W' k = σ k := by
  refine ⟨fun j => by rw [p_put2, if_pos (by omega)], fun j => by rw [p_put2, if_pos (by omega)], fun k h1 h2 => ?_⟩
  rw [p_put2, if_neg (by omega)]
  by_cases c : o ≤ k ∧ k < o + 7
  · rw [if_pos c, h _ (by omega), p_sub2, if_neg (by omega)]
    congr 1
    omega
  · rw [if_neg c]
theorem walkV {n m : Nat} {K : Nat → Nat} {σ τ : qM} (h : RNp n m K (q_sub 1 σ) (τ 1)) {a b : Nat} (ha : a < n) (hb : b < n) :
    ∃ (W' σ' τ' : qM) (e L' : Nat), f_X6_walk (q_sub2 2 85 2 σ) (nI a) (nI b) = some (0, W') ∧ q_put2 2 85 7 2 σ W' = σ' ∧ f_X8_goWay τ (nI a) (nI b) = some (nI e, τ') ∧ σ' 85 2 = nI e ∧ σ' 85 1 = nI L' ∧ L' ≤ 10 ∧ τ' 0 14 = nI L' ∧ (∀ i, i < L' → σ' 86 i = τ' 12 i) ∧ RNp n m K (q_sub 1 σ') (τ' 1) ∧ frV σ σ' ∧ frR τ τ' := by
  obtain ⟨W', τ', e, L', q1, q2, q3, q4, q5, q6, q7, q8, q9, q10⟩ := walk_sim (W := q_sub2 2 85 2 σ) h.2.2 h.1.1 (fun c hc => ⟨rfl, rfl⟩) ha hb
  obtain ⟨p1, p2, p3⟩ := putWalk (σ := σ) (o := 2) (by decide) q9
  refine ⟨W', _, τ', e, L', q1, rfl, q2, by rw [p1]; exact q4, by rw [p1]; exact q5, q6, q7, fun i hi => by rw [p2]; exact q8 i hi, ?_, ⟨p3 0 (by decide) (by decide), fun k x y => p3 k (by omega) (by omega), fun k x => p3 k (by omega) (by omega)⟩, frR_W q10⟩
  rw [q10.1 1 (by decide) (by decide)]
  exact RNp_ext h (fun k hk => p3 (1 + k) (by omega) (by omega))
theorem N_ends (x1 x2 : Int32) : simN (fun σ => f_X7_ends σ x1 x2) (fun τ => f_X8_ends τ x1 x2) := fun n m K σ τ h => by
  have hL := h.1
  have hn := hL.1
  have v3 : σ 1 3 = nI n := hL.2.2.2.1
  have r0 : τ 1 0 = nI n := hL.2.2.1
  by_cases i1 : isN n x1
  · obtain ⟨a, ha, rfl⟩ := i1
    by_cases i2 : isN n x2
    · obtain ⟨b, hb, rfl⟩ := i2
      obtain ⟨W', σ', τ', e, L', q1, q2, q3, q4, q5, q6, q7, q8, q9, q10, q11⟩ := walkV h ha hb
      refine ⟨nI e, σ', τ', n, m, K, ?_, ?_, q9, q10, q11⟩
      · show f_X7_ends σ (nI a) (nI b) = _
        unfold f_X7_ends
        rw [noRouter_y v3 (by omega) ha, p_cl, if_pos rfl, noRouter_y v3 (by omega) hb, p_cl, if_pos rfl, q1, p_cl, q2]
        simp only [p_nm]
        rw [q4]
      · show f_X8_ends τ (nI a) (nI b) = _
        unfold f_X8_ends
        rw [isRouter_y r0 (by omega) ha, p_cl, if_neg ne10, isRouter_y r0 (by omega) hb, p_cl, if_neg ne10, q3, p_cl]
    · refine simN_same h (r := -1) ?_ ?_
      · show f_X7_ends σ (nI a) x2 = _
        unfold f_X7_ends
        rw [noRouter_y v3 (by omega) ha, p_cl, if_pos rfl, noRouter_n v3 (by omega) i2, p_cl, if_neg ne10]
      · show f_X8_ends τ (nI a) x2 = _
        unfold f_X8_ends
        rw [isRouter_y r0 (by omega) ha, p_cl, if_neg ne10, isRouter_n r0 (by omega) i2, p_cl, if_pos rfl]
  · refine simN_same h (r := -1) ?_ ?_
    · show f_X7_ends σ x1 x2 = _
      unfold f_X7_ends
      rw [noRouter_n v3 (by omega) i1, p_cl, if_neg ne10]
    · show f_X8_ends τ x1 x2 = _
      unfold f_X8_ends
      rw [isRouter_n r0 (by omega) i1, p_cl, if_pos rfl]
theorem inm1 {x : Int32} : (-1 : Int32) ≤ x ↔ x = -1 ∨ (0 : Int32) ≤ x := by
  rw [Int32.le_iff_toInt_le, Int32.le_iff_toInt_le, ← Int32.toInt_inj, show (-1 : Int32).toInt = -1 by decide +kernel, show (0 : Int32).toInt = 0 by decide +kernel]
  omega
theorem N_way (x1 x2 x3 : Int32) : simN (fun σ => f_X7_way σ x1 x2 x3) (fun τ => f_X8_way τ x1 x2 x3) := fun n m K σ τ h => by
  have hL := h.1
  have hn := hL.1
  have v3 : σ 1 3 = nI n := hL.2.2.2.1
  have r0 : τ 1 0 = nI n := hL.2.2.1
  by_cases i1 : isN n x1
  · obtain ⟨a, ha, rfl⟩ := i1
    by_cases i2 : isN n x2
    · obtain ⟨b, hb, rfl⟩ := i2
      by_cases i3 : (-1 : Int32) ≤ x3
      · obtain ⟨W', σ', τ', e, L', q1, q2, q3, q4, q5, q6, q7, q8, q9, q10, q11⟩ := walkV h ha hb
        have V0 : f_X7_way σ (nI a) (nI b) x3 = (if x3 = -1 then some (nI L', σ') else if nI L' ≤ x3 then some (-2, σ') else q_rd σ' 86 10 x3 fun x15 => some (x15, σ')) := by
          unfold f_X7_way
          rw [noRouter_y v3 (by omega) ha, p_cl, if_pos rfl, noRouter_y v3 (by omega) hb, p_cl, if_pos rfl, if_pos i3, q1, p_cl, q2]
          simp only [p_nm]
          rw [q5]
        have R0 : f_X8_way τ (nI a) (nI b) x3 = (if (0 : Int32) ≤ x3 then (if nI L' ≤ x3 then some (-2, τ') else q_rd τ' 12 10 x3 fun x15 => some (x15, τ')) else some (nI L', τ')) := by
          unfold f_X8_way
          simp only [p_nm]
          rw [isRouter_y r0 (by omega) ha, p_cl, if_neg ne10, isRouter_y r0 (by omega) hb, p_cl, if_neg ne10, if_pos i3, q3, p_cl, q7]
        rcases inm1.mp i3 with c | c
        · subst c
          rw [if_pos rfl] at V0
          rw [if_neg (by decide)] at R0
          exact ⟨_, σ', τ', n, m, K, V0, R0, q9, q10, q11⟩
        · have c1 : ¬ x3 = -1 := fun z => by rw [z] at c; exact absurd c (by decide)
          rw [if_neg c1] at V0
          rw [if_pos c] at R0
          by_cases c2 : nI L' ≤ x3
          · rw [if_pos c2] at V0 R0
            exact ⟨_, σ', τ', n, m, K, V0, R0, q9, q10, q11⟩
          · obtain ⟨i, hi, rfl⟩ := (isN_y (n := L') (by omega)).mpr ⟨i_nlt.mpr c, i_nle.mp c2⟩
            rw [if_neg c2, q_rd_n (by omega) (by decide), q8 i hi] at V0
            rw [if_neg c2, q_rd_n (by omega) (by decide)] at R0
            exact ⟨_, σ', τ', n, m, K, V0, R0, q9, q10, q11⟩
      · refine simN_same h (r := -1) ?_ ?_
        · show f_X7_way σ (nI a) (nI b) x3 = _
          unfold f_X7_way
          rw [noRouter_y v3 (by omega) ha, p_cl, if_pos rfl, noRouter_y v3 (by omega) hb, p_cl, if_pos rfl, if_neg i3]
        · show f_X8_way τ (nI a) (nI b) x3 = _
          unfold f_X8_way
          rw [isRouter_y r0 (by omega) ha, p_cl, if_neg ne10, isRouter_y r0 (by omega) hb, p_cl, if_neg ne10, if_neg i3]
    · refine simN_same h (r := -1) ?_ ?_
      · show f_X7_way σ (nI a) x2 x3 = _
        unfold f_X7_way
        rw [noRouter_y v3 (by omega) ha, p_cl, if_pos rfl, noRouter_n v3 (by omega) i2, p_cl, if_neg ne10]
      · show f_X8_way τ (nI a) x2 x3 = _
        unfold f_X8_way
        rw [isRouter_y r0 (by omega) ha, p_cl, if_neg ne10, isRouter_n r0 (by omega) i2, p_cl, if_pos rfl]
  · refine simN_same h (r := -1) ?_ ?_
    · show f_X7_way σ x1 x2 x3 = _
      unfold f_X7_way
      rw [noRouter_n v3 (by omega) i1, p_cl, if_neg ne10]
    · show f_X8_way τ x1 x2 x3 = _
      unfold f_X8_way
      rw [isRouter_n r0 (by omega) i1, p_cl, if_pos rfl]
/-! loops -/
theorem loops_sim {n m : Nat} {K : Nat → Nat} {W τ : qM} (h : RNp n m K (q_sub 2 W) (τ 1)) : ∃ (W' τ' : qM) (r : Int32), f_X6_loopsIn W = some (r, W') ∧ f_X8_loops τ = some (r, τ') ∧ (∀ j, 2 ≤ j → W' j = W j) ∧ frW τ τ' := by
  have hn := h.1.1
  have n3 : W 2 3 = nI n := h.1.2.2.2.1
  have r0 : τ 1 0 = nI n := h.1.2.2.1
  obtain ⟨W', xs', ⟨acc, τ', e1, e2, e3, e4⟩, e5⟩ := q_run (D := D_X6_loopsIn) (i := 0) (I := fun r σ xs => ∃ (acc : Int32) (τ1 : qM), xs = [acc, nI r] ∧ q_lim D_X8_loops 0 τ [0, 0] = q_lim D_X8_loops 0 τ1 [acc, nI r] ∧ (∀ j, 2 ≤ j → σ j = W j) ∧ frW τ τ1) n (fun r σ xs hr hI => by
    obtain ⟨acc, τ1, rfl, g2, g3, g4⟩ := hI
    have t0 : τ1 1 0 = nI n := by rw [g4.1 1 (by decide) (by decide)]; exact r0
    obtain ⟨σ2, xs2, ⟨acc2, τ2, f1, f2, f3, f4⟩, f5⟩ := q_run (D := D_X6_loopsIn) (i := 1) (I := fun d σ1 xs => ∃ (acc2 : Int32) (τ2 : qM), xs = [acc2, nI r, nI d] ∧ q_lim D_X8_loops 1 τ1 [acc, nI r, 0] = q_lim D_X8_loops 1 τ2 [acc2, nI r, nI d] ∧ (∀ j, 2 ≤ j → σ1 j = W j) ∧ frW τ τ2) n (fun d σ1 xs hd hI => by
      obtain ⟨acc2, τ2, rfl, k2, k3, k4⟩ := hI
      have t02 : τ2 1 0 = nI n := by rw [k4.1 1 (by decide) (by decide)]; exact r0
      obtain ⟨W1, τ3, e, L', q1, q2, q3, q4, q5, q6, q7, q8, q9, q10⟩ := walk_sim (W := q_sub2 2 0 3 σ1) (τ := τ2) (net := q_sub 2 W) (n := n) (K := K) (by rw [k4.1 1 (by decide) (by decide)]; exact h.2.2) hn (fun c hc => by
        have w3 : q_sub2 2 0 3 σ1 3 = σ1 4 := rfl
        have w4 : q_sub2 2 0 3 σ1 4 = σ1 5 := rfl
        rw [w3, w4, k3 4 (by decide), k3 5 (by decide)]
        exact ⟨rfl, rfl⟩) hr hd
      obtain ⟨σ3, hσ3⟩ : ∃ y, y = q_put2 2 0 7 3 σ1 W1 := ⟨_, rfl⟩
      have s3 : ∀ j, 2 ≤ j → σ3 j = W j := fun j hj => by
        rw [hσ3, p_put2, if_neg (by omega)]
        by_cases c : 3 ≤ j ∧ j < 3 + 7
        · rw [if_pos c, q9 _ (by omega), p_sub2, if_neg (by omega), show 3 + (2 + (j - 3) - 2) = j by omega]
          exact k3 j hj
        · rw [if_neg c]; exact k3 j hj
      have s0 : σ3 0 2 = nI e := by rw [hσ3, p_put2, if_pos (by omega)]; exact q4
      refine ⟨σ3, _, ⟨if nI e = 2 then acc2 + 1 else acc2, τ3, rfl, ?_, s3, k4.trans q10⟩, ?_⟩
      · rw [k2]
        refine q_lim_eq (fun go => ?_)
        show b_X8_loops_16 go τ2 acc2 (nI r) (nI d) = _
        unfold b_X8_loops_16
        simp only [p_nm]
        rw [rd1_0, t02, if_neg (nI_ge hd (by omega)), q2, p_cl, nI_1]
        by_cases c : nI e = 2
        · rw [if_pos c, if_pos c]
        · rw [if_neg c, if_neg c]
      · refine q_lim_eq (fun go => ?_)
        show b_X6_loopsIn_15 go σ1 acc2 (nI r) (nI d) = _
        unfold b_X6_loopsIn_15
        simp only [p_nm]
        rw [k3 2 (by decide), n3, if_neg (nI_ge hd (by omega)), q1, p_cl, ← hσ3, s0, nI_1]
        by_cases c : nI e = 2
        · rw [if_pos c, if_pos c]
        · rw [if_neg c, if_neg c]) n 0 σ [acc, nI r, nI 0] (by omega) ⟨acc, τ1, rfl, rfl, g3, g4⟩
    have t02 : τ2 1 0 = nI n := by rw [f4.1 1 (by decide) (by decide)]; exact r0
    refine ⟨σ2, _, ⟨acc2, τ2, rfl, ?_, f3, f4⟩, ?_⟩
    · rw [g2, q_lim_eq (j := 1) (τ := τ1) (ys := [acc, nI r, 0]) (fun go => ?_), f2]
      · refine q_lim_eq (fun go => ?_)
        show b_X8_loops_16 go τ2 acc2 (nI r) (nI n) = _
        unfold b_X8_loops_16
        simp only [p_nm]
        rw [rd1_0, t02, if_pos (nI_le (Nat.le_refl _) (by omega)), nI_1]
      · show b_X8_loops_4 go τ1 acc (nI r) = _
        unfold b_X8_loops_4
        rw [rd1_0, t0, if_neg (nI_ge hr (by omega))]
    · rw [q_lim_eq (j := 1) (τ := σ) (ys := [acc, nI r, nI 0]) (fun go => ?_), f5, f1]
      · refine q_lim_eq (fun go => ?_)
        show b_X6_loopsIn_15 go σ2 acc2 (nI r) (nI n) = _
        unfold b_X6_loopsIn_15
        simp only [p_nm]
        rw [f3 2 (by decide), n3, if_pos (nI_le (Nat.le_refl _) (by omega)), nI_1]
      · show b_X6_loopsIn_4 go σ acc (nI r) = _
        unfold b_X6_loopsIn_4
        simp only [p_nm]
        rw [g3 2 (by decide), n3, if_neg (nI_ge hr (by omega))]
        rfl) n 0 W [0, nI 0] (by omega) ⟨0, τ, rfl, rfl, fun _ _ => rfl, frW.rf τ⟩
  refine ⟨W', τ', acc, ?_, ?_, e3, e4⟩
  · show q_lim D_X6_loopsIn 0 W [0, nI 0] = _
    rw [e5, e1]
    refine q_lim_ret (fun go => ?_)
    show b_X6_loopsIn_4 go W' acc (nI n) = _
    unfold b_X6_loopsIn_4
    simp only [p_nm]
    rw [e3 2 (by decide), n3, if_pos (nI_le (Nat.le_refl _) (by omega))]
  · show q_lim D_X8_loops 0 τ [0, 0] = _
    rw [e2]
    refine q_lim_ret (fun go => ?_)
    show b_X8_loops_4 go τ' acc (nI n) = _
    unfold b_X8_loops_4
    rw [rd1_0, e4.1 1 (by decide) (by decide), r0, if_pos (nI_le (Nat.le_refl _) (by omega))]
theorem loopsV {n m : Nat} {K : Nat → Nat} {σ τ : qM} {o : Nat} (ho : o + 21 ≤ 85) (h : RNp n m K (q_sub o σ) (τ 1)) : ∃ (W' σ' τ' : qM) (r : Int32), f_X6_loopsIn (q_sub2 2 85 o σ) = some (r, W') ∧ q_put2 2 85 21 o σ W' = σ' ∧ f_X8_loops τ = some (r, τ') ∧ (∀ k, k ≠ 85 → k ≠ 86 → σ' k = σ k) ∧ frW τ τ' := by
  have h1 : RNp n m K (q_sub 2 (q_sub2 2 85 o σ)) (τ 1) := RNp_ext h (fun k hk => by
    show q_sub2 2 85 o σ (2 + k) = σ (o + k)
    rw [p_sub2, if_neg (by omega), show 2 + k - 2 = k by omega])
  obtain ⟨W', τ', r, q1, q2, q3, q4⟩ := loops_sim h1
  refine ⟨W', _, τ', r, q1, rfl, q2, fun k x y => ?_, q4⟩
  rw [p_put2, if_neg (by omega)]
  by_cases c : o ≤ k ∧ k < o + 21
  · rw [if_pos c, q3 _ (by omega), p_sub2, if_neg (by omega), show o + (2 + (k - o) - 2) = k by omega]
  · rw [if_neg c]
/-- what thinking leaves as it was -/
def frT (σ τ σ1 τ1 : qM) : Prop := (∀ k, (k < 22 ∨ (43 ≤ k ∧ k < 85) ∨ 89 ≤ k) → σ1 k = σ k) ∧ τ1 2 = τ 2 ∧ (∀ i, (14 ≤ i ∨ i = 3) → τ1 i = τ i) ∧ ∀ j, 17 ≤ j → τ1 0 j = τ 0 j
theorem frT.rf (σ τ : qM) : frT σ τ σ τ := ⟨fun _ _ => rfl, rfl, fun _ _ => rfl, fun _ _ => rfl⟩
theorem frT.trans {a b c a' b' c' : qM} (h1 : frT a a' b b') (h2 : frT b b' c c') : frT a a' c c' := ⟨fun k x => (h2.1 k x).trans (h1.1 k x), h2.2.1.trans h1.2.1, fun i x => (h2.2.2.1 i x).trans (h1.2.2.1 i x), fun j x => (h2.2.2.2 j x).trans (h1.2.2.2 j x)⟩
theorem frT_M {σ τ τ1 X : qM} (h : frM τ τ1) : frT σ τ (q_put 22 21 σ X) τ1 := ⟨fun k x => by rw [p_put, if_neg (by omega)], h.1 2 (by omega), fun i x => h.1 i (by omega), fun j x => h.2 j (by omega)⟩
theorem frT_W {σ σ1 τ τ1 : qM} (hs : ∀ k, k ≠ 85 → k ≠ 86 → σ1 k = σ k) (h : frW τ τ1) : frT σ τ σ1 τ1 := ⟨fun k x => hs k (by omega) (by omega), h.1 2 (by decide) (by decide), fun i x => h.1 i (by omega) (by omega), fun j x => h.2 j (by omega)⟩
theorem frT_1 {σ τ τ1 X : qM} (h : ∀ i, i ≠ 1 → τ1 i = τ i) : frT σ τ (q_put 22 21 σ X) τ1 := ⟨fun k x => by rw [p_put, if_neg (by omega)], h 2 (by decide), fun i x => h i (by omega), fun j x => by rw [h 0 (by decide)]⟩
theorem RNp_put22 {n m : Nat} {K : Nat → Nat} {σ X : qM} {s : Nat → Int32} (h : RNp n m K X s) : RNp n m K (q_sub 22 (q_put 22 21 σ X)) s := RNp_ext h (fun k hk => p_sub_put hk)
/-- thought and back -/
theorem awakeT {n m : Nat} {K : Nat → Nat} {σ τ σ1 τ1 σ2 τ2 : qM} (h : RNp n m K (q_sub 1 σ) (τ 1)) (hσ : ∀ k, (k < 22 ∨ 43 ≤ k) → σ1 k = σ k) (h2 : τ1 2 = τ 1) (hτ : ∀ i, i ≠ 1 → i ≠ 2 → τ1 i = τ i) (hf : frT σ1 τ1 σ2 τ2) : RNp n m K (q_sub 1 σ2) (q_sw τ2 1) ∧ frV σ σ2 ∧ frR τ (q_sw τ2) := awake h (fun k hk => by rw [hf.1 k hk]; exact hσ k (by omega)) (hf.2.1.trans h2) (fun i hi => by rw [hf.2.2.1 i hi]; exact hτ i (by omega) (by omega)) (fun j hj => by rw [hf.2.2.2 j hj, hτ 0 (by decide) (by decide)])
theorem looped_loop {n m : Nat} : ∀ (f k : Nat) (K : Nat → Nat) (σ τ : qM), k + f = 81 → RNp n m K (q_sub 22 σ) (τ 1) → ∃ (r : Int32) (σ' τ' : qM), q_lim D_X7_loopedFirst 0 σ [nI k] = some (r, σ') ∧ q_lim D_X8_looped 0 τ [-2, nI k] = some (r, q_sw τ') ∧ frT σ τ σ' τ' := by
  intro f
  induction f with
  | zero =>
    intro k K σ τ hk h
    have hk : k = 81 := by omega
    subst hk
    refine ⟨-2, σ, τ, q_lim_ret (fun go => ?_), q_lim_ret (fun go => ?_), frT.rf σ τ⟩
    · show b_X7_loopedFirst_13 go σ (nI 81) = _
      unfold b_X7_loopedFirst_13
      rw [if_pos (by decide)]
    · show b_X8_looped_9 go τ (-2) (nI 81) = _
      unfold b_X8_looped_9
      rw [if_pos (by decide), wakeR, p_cl]
  | succ f ih =>
    intro k K σ τ hk h
    obtain ⟨W', σ1, τ1, r, q1, q2, q3, q4, q5⟩ := loopsV (o := 22) (by decide) h
    have h1 : RNp n m K (q_sub 22 σ1) (τ1 1) := by
      rw [q5.1 1 (by decide) (by decide)]
      exact RNp_ext h (fun j hj => q4 (22 + j) (by omega) (by omega))
    obtain ⟨r2, K2, net2, τ2, c1, c2, c3, c4, -⟩ := round_sim h1
    have fr1 : frT σ τ σ1 τ1 := frT_W q4 q5
    have V : ∀ go : qB, D_X7_loopedFirst go 0 σ [nI k] = if r ≤ 0 then go 0 (q_put 22 21 σ1 net2) [nI (k + 1)] else some (nI k, σ1) := fun go => by
      show b_X7_loopedFirst_13 go σ (nI k) = _
      unfold b_X7_loopedFirst_13
      simp only [p_nm]
      rw [if_neg (show ¬ (80 : Int32) < nI k from nI_nlt (a := 80) (b := k) (by omega) (by decide)), q1, p_cl, q2, c1, p_cl, nI_1]
    have R : ∀ go : qB, D_X8_looped go 0 τ [-2, nI k] = if r ≤ 0 then go 0 τ2 [-2, nI (k + 1)] else go 0 τ2 [nI k, nI (k + 1)] := fun go => by
      show b_X8_looped_9 go τ (-2) (nI k) = _
      unfold b_X8_looped_9
      simp only [p_nm]
      rw [if_neg (show ¬ (80 : Int32) < nI k from nI_nlt (a := 80) (b := k) (by omega) (by decide)), if_pos trivial, q3, p_cl, c2, p_cl, p_cl, nI_1]
    by_cases z : r ≤ 0
    · obtain ⟨r3, σ3, τ3, d1, d2, d3⟩ := ih (k + 1) K2 (q_put 22 21 σ1 net2) τ2 (by omega) (RNp_put22 c3)
      exact ⟨r3, σ3, τ3, by rw [q_lim_eq (fun go => by rw [V go, if_pos z])]; exact d1, by rw [q_lim_eq (fun go => by rw [R go, if_pos z])]; exact d2, (fr1.trans (frT_M c4)).trans d3⟩
    · refine ⟨nI k, σ1, τ2, q_lim_ret (fun go => by rw [V go, if_neg z]), ?_, ⟨fr1.1, (c4.1 2 (by omega)).trans fr1.2.1, fun i x => (c4.1 i (by omega)).trans (fr1.2.2.1 i x), fun j x => (c4.2 j (by omega)).trans (fr1.2.2.2 j x)⟩⟩
      rw [q_lim_eq (fun go => by rw [R go, if_neg z])]
      refine q_lim_ret (fun go => ?_)
      show b_X8_looped_9 go τ2 (nI k) (nI (k + 1)) = _
      unfold b_X8_looped_9
      by_cases w : (80 : Int32) < nI (k + 1)
      · rw [if_pos w, wakeR, p_cl]
      · rw [if_neg w, if_neg (fun y => by
          have := nI_pos' (n := k) (by omega)
          rw [y] at this
          exact absurd this (by decide)), wakeR, p_cl]
theorem N_loopedFirst : simN f_X7_loopedFirst f_X8_looped := fun n m K σ τ h => by
  obtain ⟨W', σ1, τ1, a1, a2, a3, a4, a5, a6, a7⟩ := think_sim h
  obtain ⟨r, σ2, τ2, b1, b2, b3⟩ := looped_loop 81 0 K σ1 τ1 rfl a4
  have aw := awakeT h a5 a6 a7 b3
  refine ⟨r, σ2, q_sw τ2, n, m, K, ?_, ?_, aw.1, aw.2.1, aw.2.2⟩
  · unfold f_X7_loopedFirst e_X7_loopedFirst
    rw [a1, p_cl, a2]
    exact b1
  · unfold f_X8_looped e_X8_looped
    rw [a3, p_cl]
    exact b2
