/-! price, rules, a link's numbers, the link between, rounds -/
theorem in1 {x : Int32} (h : (1 : Int32) ≤ x ∧ x ≤ 15) : ∃ c, 1 ≤ c ∧ c ≤ 15 ∧ x = nI c := by
  obtain ⟨c, hc, rfl⟩ := nI_of2 (M := 15) (n := 15) rfl (fun z => absurd (Int32.le_trans h.1 (Int32.le_of_lt z)) (by decide)) h.2
  refine ⟨c, ?_, hc, rfl⟩
  rcases Nat.eq_zero_or_pos c with z | z
  · subst z; exact absurd h.1 (by decide)
  · exact z
theorem N_cost (x1 x2 : Int32) : simN (fun σ => f_X7_cost σ x1 x2) (fun τ => f_X8_cost τ x1 x2) := fun n m K σ τ h => by
  have hL := h.1
  have hm := hL.2.1
  have r1 : τ 1 1 = nI m := hL.2.2.2.2.1
  have v5 : σ 16 5 = nI m := hL.2.2.2.2.2.1
  by_cases i1 : isN m x1
  · obtain ⟨k, hk, rfl⟩ := i1
    by_cases i2 : (1 : Int32) ≤ x2 ∧ x2 ≤ 15
    · obtain ⟨c, c1, c2, rfl⟩ := in1 i2
      obtain ⟨a, b, c', w1, w2, w3, w4, w5, w6, w7, w8, w9, w10, -⟩ := hL.2.2.2.2.2.2.2.2.2.2.2.2.1 k hk
      have w10 : σ 19 k = nI c' := w10
      refine ⟨nI c', q_wr σ 19 k (nI c), q_wr τ 1 (70 + k) (nI c), n, m, K, ?_, ?_, ?_, frV_wr (by decide) (by decide), frR_wr⟩
      · show f_X7_cost σ (nI k) (nI c) = _
        unfold f_X7_cost
        rw [noLink_y v5 (by omega) hk, p_cl, if_pos rfl, if_neg (i_nlt.mpr i2.1), if_pos i2.2, q_rd_n (by omega) (by decide), q_wt_n (by omega) (by decide), w10]
      · show f_X8_cost τ (nI k) (nI c) = _
        unfold f_X8_cost
        simp only [p_nm]
        rw [isLink_y r1 (by omega) hk, p_cl, if_neg ne10, inS, p_cl, if_pos i2, if_neg ne10, a70, q_rd_n (by omega) (by decide), q_wt_n (by omega) (by decide), w9]
      · rw [up1_wr, show q_sub 1 (q_wr σ 19 k (nI c)) = q_wr (q_sub 1 σ) 18 k (nI c) from p_sub_wr (r := 18) 1]
        exact RNp_cost h hk c1 c2
    · refine simN_same h (r := -1) ?_ ?_
      · show f_X7_cost σ (nI k) x2 = _
        unfold f_X7_cost
        rw [noLink_y v5 (by omega) hk, p_cl, if_pos rfl]
        by_cases w : x2 < 1
        · rw [if_pos w]
        · rw [if_neg w, if_neg (fun z => i2 ⟨i_nlt.mp w, z⟩)]
      · show f_X8_cost τ (nI k) x2 = _
        unfold f_X8_cost
        rw [isLink_y r1 (by omega) hk, p_cl, if_neg ne10, inS, p_cl, if_neg i2, if_pos rfl]
  · refine simN_same h (r := -1) ?_ ?_
    · show f_X7_cost σ x1 x2 = _
      unfold f_X7_cost
      rw [noLink_n v5 (by omega) i1, p_cl, if_neg ne10]
    · show f_X8_cost τ x1 x2 = _
      unfold f_X8_cost
      rw [isLink_n r1 (by omega) i1, p_cl, if_pos rfl]
theorem N_of (x1 x2 : Int32) : simN (fun σ => f_X7_of σ x1 x2) (fun τ => f_X8_of τ x1 x2) := fun n m K σ τ h => by
  have hL := h.1
  have hm := hL.2.1
  have r1 : τ 1 1 = nI m := hL.2.2.2.2.1
  have v5 : σ 16 5 = nI m := hL.2.2.2.2.2.1
  by_cases i1 : isN m x1
  · obtain ⟨k, hk, rfl⟩ := i1
    obtain ⟨a, b, c, w1, w2, w3, w4, w5, w6, w7, w8, w9, w10, w11, w12⟩ := hL.2.2.2.2.2.2.2.2.2.2.2.2.1 k hk
    have w6 : σ 17 k = nI a := w6
    have w8 : σ 18 k = nI b := w8
    have w10 : σ 19 k = nI c := w10
    have w11 : σ 20 k = τ 1 (100 + k) := w11
    have V0 : f_X7_of σ (nI k) x2 = (if x2 = 0 then some (nI a, σ) else if x2 = 1 then some (nI b, σ) else if x2 = 2 then some (nI c, σ) else if x2 = 3 then some (τ 1 (100 + k), σ) else some (-1, σ)) := by
      unfold f_X7_of
      rw [noLink_y v5 (by omega) hk, p_cl, if_pos rfl, q_rd_n (by omega) (by decide), q_rd_n (by omega) (by decide), q_rd_n (by omega) (by decide), q_rd_n (by omega) (by decide), w6, w8, w10, w11]
    have R0 : f_X8_of τ (nI k) x2 = (if x2 = 0 then some (nI a, τ) else if x2 = 1 then some (nI b, τ) else if x2 = 2 then some (nI c, τ) else if x2 = 3 then some (τ 1 (100 + k), τ) else some (-1, τ)) := by
      unfold f_X8_of
      simp only [p_nm]
      rw [isLink_y r1 (by omega) hk, p_cl, if_neg ne10, a10, a40, a70, a100, q_rd_n (by omega) (by decide), q_rd_n (by omega) (by decide), q_rd_n (by omega) (by decide), q_rd_n (by omega) (by decide), w5, w7, w9]
    by_cases y0 : x2 = 0
    · rw [if_pos y0] at V0 R0; exact simN_same h V0 R0
    · rw [if_neg y0] at V0 R0
      by_cases y1 : x2 = 1
      · rw [if_pos y1] at V0 R0; exact simN_same h V0 R0
      · rw [if_neg y1] at V0 R0
        by_cases y2 : x2 = 2
        · rw [if_pos y2] at V0 R0; exact simN_same h V0 R0
        · rw [if_neg y2] at V0 R0
          by_cases y3 : x2 = 3
          · rw [if_pos y3] at V0 R0; exact simN_same h V0 R0
          · rw [if_neg y3] at V0 R0; exact simN_same h V0 R0
  · refine simN_same h (r := -1) ?_ ?_
    · show f_X7_of σ x1 x2 = _
      unfold f_X7_of
      rw [noLink_n v5 (by omega) i1, p_cl, if_neg ne10]
    · show f_X8_of τ x1 x2 = _
      unfold f_X8_of
      rw [isLink_n r1 (by omega) i1, p_cl, if_pos rfl]
theorem N_between (x1 x2 : Int32) : simN (fun σ => f_X7_between σ x1 x2) (fun τ => f_X8_between τ x1 x2) := fun n m K σ τ h => by
  have hL := h.1
  have hn := hL.1
  have hm := hL.2.1
  have v3 : σ 1 3 = nI n := hL.2.2.2.1
  have r0 : τ 1 0 = nI n := hL.2.2.1
  have r1 : τ 1 1 = nI m := hL.2.2.2.2.1
  by_cases i1 : isN n x1
  · obtain ⟨a, ha, rfl⟩ := i1
    by_cases i2 : isN n x2
    · obtain ⟨b, hb, rfl⟩ := i2
      have hp : q_put 16 6 σ (q_sub 16 σ) = σ := p_put_sub 16 6 σ
      have j1 : q_sub 16 σ 5 (10 * a + b) = jn (lf (τ 1) m a b) := hL.2.2.2.2.2.2.2.2.2.2.2.2.2 a b (by omega) (by omega)
      have V0 : f_X7_between σ (nI a) (nI b) = (if (0 : Int32) ≤ jn (lf (τ 1) m a b) - 1 then some (jn (lf (τ 1) m a b) - 1, σ) else some (-2, σ)) := by
        unfold f_X7_between
        rw [noRouter_y v3 (by omega) ha, p_cl, if_pos rfl, noRouter_y v3 (by omega) hb, p_cl, if_pos rfl, joiningS (by omega) (by omega), p_cl, hp, j1]
      have R0 : f_X8_between τ (nI a) (nI b) = (if (0 : Int32) ≤ lo (lf (τ 1) m a b) then some (lo (lf (τ 1) m a b), τ) else some (-2, τ)) := by
        unfold f_X8_between
        rw [isRouter_y r0 (by omega) ha, p_cl, if_neg ne10, isRouter_y r0 (by omega) hb, p_cl, if_neg ne10, linkOfS (by omega) (by omega) hm r1, p_cl]
      cases hlf : lf (τ 1) m a b with
      | some k =>
        have hk : k < m := by have := q_find_some hlf; omega
        rw [hlf] at V0 R0
        rw [show jn (some k) = nI (k + 1) from rfl, nI_pred, if_pos (nI_pos' (by omega))] at V0
        rw [show lo (some k) = nI k from rfl, if_pos (nI_pos' (by omega))] at R0
        exact simN_same h V0 R0
      | none =>
        rw [hlf] at V0 R0
        rw [if_neg (show ¬ (0 : Int32) ≤ jn none - 1 by decide)] at V0
        rw [if_neg (show ¬ (0 : Int32) ≤ lo none by decide)] at R0
        exact simN_same h V0 R0
    · refine simN_same h (r := -1) ?_ ?_
      · show f_X7_between σ (nI a) x2 = _
        unfold f_X7_between
        rw [noRouter_y v3 (by omega) ha, p_cl, if_pos rfl, noRouter_n v3 (by omega) i2, p_cl, if_neg ne10]
      · show f_X8_between τ (nI a) x2 = _
        unfold f_X8_between
        rw [isRouter_y r0 (by omega) ha, p_cl, if_neg ne10, isRouter_n r0 (by omega) i2, p_cl, if_pos rfl]
  · refine simN_same h (r := -1) ?_ ?_
    · show f_X7_between σ x1 x2 = _
      unfold f_X7_between
      rw [noRouter_n v3 (by omega) i1, p_cl, if_neg ne10]
    · show f_X8_between τ x1 x2 = _
      unfold f_X8_between
      rw [isRouter_n r0 (by omega) i1, p_cl, if_pos rfl]
/-! the rules -/
theorem RNp_rule {n m : Nat} {K : Nat → Nat} {net : qM} {s : Nat → Int32} (h : RNp n m K net s) {i : Nat} {v : Int32} (hi : i < 3) (h0 : i = 0 → v = 0 ∨ v = 1 ∨ v = 2) (h1 : i = 1 → v = 0 ∨ v = 1) : RNp n m K (q_wr net 0 (4 + i) v) (up1 s (2 + i) v) := by
  obtain ⟨hL, h8, hT⟩ := h
  obtain ⟨a1, a2, a3, a4, a5, a6, a7, a8, a9, a10, a11, a12, a13, a14⟩ := hL
  have lo : ∀ j, j ≠ 2 + i → up1 s (2 + i) v j = s j := fun j hj => up1_n hj
  have up : ∀ j, j = 2 + i → up1 s (2 + i) v j = v := fun j hj => by rw [hj]; exact up1_s _ _ _
  have wo : ∀ j, j ≠ 4 + i → q_wr net 0 (4 + i) v 0 j = net 0 j := fun j hj => p_wrj hj
  have wu : ∀ j, j = 4 + i → q_wr net 0 (4 + i) v 0 j = v := fun j hj => by rw [hj]; exact p_wrs _ _ _ _
  have wk : ∀ j, 15 ≤ j → q_wr net 0 (4 + i) v j = net j := fun j hj => p_wrk (by omega)
  have c : i = 0 ∨ i = 1 ∨ i = 2 := by omega
  refine ⟨⟨a1, a2, by rw [lo 0 (by omega)]; exact a3, by rw [wo 3 (by omega)]; exact a4, by rw [lo 1 (by omega)]; exact a5, by rw [wk 15 (by decide)]; exact a6, ?_, ?_, ?_, ?_, ?_, by rw [wo 7 (by omega), lo 5 (by omega)]; exact a12, fun k hk => ?_, fun x y hx hy => ?_⟩, by rw [wo 8 (by omega), lo 6 (by omega)]; exact h8, RT_row (RT_n0 hT (fun j a b => p_wrk (by omega))) (fun j hj => lo j (by omega))⟩
  · rcases c with c | c | c
    · rw [wu 4 (by omega), up 2 (by omega)]
    · rw [wo 4 (by omega), lo 2 (by omega)]; exact a7
    · rw [wo 4 (by omega), lo 2 (by omega)]; exact a7
  · rcases c with c | c | c
    · rw [up 2 (by omega)]; exact h0 c
    · rw [lo 2 (by omega)]; exact a8
    · rw [lo 2 (by omega)]; exact a8
  · rcases c with c | c | c
    · rw [wo 5 (by omega), lo 3 (by omega)]; exact a9
    · rw [wu 5 (by omega), up 3 (by omega)]
    · rw [wo 5 (by omega), lo 3 (by omega)]; exact a9
  · rcases c with c | c | c
    · rw [lo 3 (by omega)]; exact a10
    · rw [up 3 (by omega)]; exact h1 c
    · rw [lo 3 (by omega)]; exact a10
  · rcases c with c | c | c
    · rw [wo 6 (by omega), lo 4 (by omega)]; exact a11
    · rw [wo 6 (by omega), lo 4 (by omega)]; exact a11
    · rw [wu 6 (by omega), up 4 (by omega)]
  · rw [lo _ (by omega), lo _ (by omega), lo _ (by omega), lo _ (by omega), wk 16 (by decide), wk 17 (by decide), wk 18 (by decide), wk 19 (by decide)]
    exact a13 k hk
  · rw [wk 20 (by decide), lf_cong (s := s) a2 (fun j u v => lo j (by omega))]
    exact a14 x y hx hy
theorem rule_sim {n m : Nat} {K : Nat → Nat} {σ τ : qM} (h : RNp n m K (q_sub 1 σ) (τ 1)) {i : Nat} {x2 M : Int32} {N : Nat} (hi : i < 3) (hM : M = nI N) (hN : N < 100)
    (V0 : f_X7_rule σ (nI i) x2 = if x2 < 0 then some (-1, σ) else if x2 ≤ M then some (σ 1 (4 + i), q_wr σ 1 (4 + i) x2) else some (-1, σ)) (R0 : f_X8_rule τ (nI i) x2 = b_X8_rule_30 τ (nI i) x2 x2 0 M)
    (h0 : i = 0 → N = 2) (h1 : i = 1 → N = 1) :
    ∃ (r : Int32) (σ1 τ1 : qM) (n1 m1 : Nat) (K1 : Nat → Nat), f_X7_rule σ (nI i) x2 = some (r, σ1) ∧ f_X8_rule τ (nI i) x2 = some (r, τ1) ∧ RNp n1 m1 K1 (q_sub 1 σ1) (τ1 1) ∧ frV σ σ1 ∧ frR τ τ1 := by
  have hb : ((0 : Int32) ≤ x2 ∧ x2 ≤ M) ↔ isN (N + 1) x2 := in0 (by omega) hM
  unfold b_X8_rule_30 at R0
  rw [inS, p_cl] at R0
  by_cases c : (0 : Int32) ≤ x2 ∧ x2 ≤ M
  · obtain ⟨v, hv, rfl⟩ := hb.mp c
    rw [if_pos c, if_neg ne10] at R0
    simp only [p_nm] at R0
    rw [a2, q_rd_n (by omega) (by decide), q_wt_n (by omega) (by decide)] at R0
    rw [if_neg (i_nlt.mpr c.1), if_pos c.2] at V0
    have hc : i = 0 ∨ i = 1 ∨ i = 2 := by omega
    have e : σ 1 (4 + i) = τ 1 (2 + i) := by
      rcases hc with rfl | rfl | rfl
      · exact h.1.2.2.2.2.2.2.1
      · exact h.1.2.2.2.2.2.2.2.2.1
      · exact h.1.2.2.2.2.2.2.2.2.2.2.1
    rw [e] at V0
    refine ⟨_, _, _, n, m, K, V0, R0, ?_, frV_wr (by decide) (by decide), frR_wr⟩
    rw [up1_wr, show q_sub 1 (q_wr σ 1 (4 + i) (nI v)) = q_wr (q_sub 1 σ) 0 (4 + i) (nI v) from p_sub_wr (r := 0) 1]
    refine RNp_rule h hi (fun z => ?_) (fun z => ?_)
    · have := h0 z
      have : v = 0 ∨ v = 1 ∨ v = 2 := by omega
      rcases this with rfl | rfl | rfl
      · exact Or.inl rfl
      · exact Or.inr (Or.inl rfl)
      · exact Or.inr (Or.inr rfl)
    · have := h1 z
      have : v = 0 ∨ v = 1 := by omega
      rcases this with rfl | rfl
      · exact Or.inl rfl
      · exact Or.inr rfl
  · rw [if_neg c, if_pos rfl] at R0
    refine simN_same h (r := -1) ?_ R0
    show f_X7_rule σ (nI i) x2 = _
    rw [V0]
    by_cases w : x2 < 0
    · rw [if_pos w]
    · rw [if_neg w, if_neg (fun z => c ⟨i_nlt.mp w, z⟩)]
theorem N_rule (x1 x2 : Int32) : simN (fun σ => f_X7_rule σ x1 x2) (fun τ => f_X8_rule τ x1 x2) := fun n m K σ τ h => by
  by_cases i1 : (0 : Int32) ≤ x1 ∧ x1 ≤ 2
  · obtain ⟨i, hi, rfl⟩ := (in0 (k := 2) (by decide) rfl).mp i1
    have hc : i = 0 ∨ i = 1 ∨ i = 2 := by omega
    have R1 : f_X8_rule τ (nI i) x2 = (if nI i = 0 then b_X8_rule_30 τ (nI i) x2 x2 0 2 else if nI i = 1 then b_X8_rule_30 τ (nI i) x2 x2 0 1 else b_X8_rule_30 τ (nI i) x2 x2 0 9) := by
      unfold f_X8_rule
      rw [inS, p_cl, if_pos i1, if_neg ne10]
    have V1 : ∀ M, f_X7_mostOfRule σ (nI i) = some (M, σ) → f_X7_rule σ (nI i) x2 = if x2 < 0 then some (-1, σ) else if x2 ≤ M then (if nI i = 0 then some (σ 1 4, q_wr σ 1 4 x2) else if nI i = 1 then some (σ 1 5, q_wr σ 1 5 x2) else some (σ 1 6, q_wr σ 1 6 x2)) else some (-1, σ) := fun M hM => by
      unfold f_X7_rule
      rw [if_neg (i_nlt.mpr i1.1), if_neg (i_nlt.mpr i1.2), hM, p_cl]
      simp only [p_nm]
    rcases hc with rfl | rfl | rfl
    · exact rule_sim h (N := 2) (M := 2) (by decide) rfl (by decide) (by rw [V1 2 rfl]; rfl) (by rw [R1]; rfl) (fun _ => rfl) (fun z => absurd z (by decide))
    · exact rule_sim h (N := 1) (M := 1) (by decide) rfl (by decide) (by rw [V1 1 rfl]; rfl) (by rw [R1]; rfl) (fun z => absurd z (by decide)) (fun _ => rfl)
    · exact rule_sim h (N := 9) (M := 9) (by decide) rfl (by decide) (by rw [V1 9 rfl]; rfl) (by rw [R1]; rfl) (fun z => absurd z (by decide)) (fun z => absurd z (by decide))
  · refine simN_same h (r := -1) ?_ ?_
    · show f_X7_rule σ x1 x2 = _
      unfold f_X7_rule
      by_cases w : x1 < 0
      · rw [if_pos w]
      · rw [if_neg w, if_pos (i_nle.mp (fun z => i1 ⟨i_nlt.mp w, z⟩))]
    · show f_X8_rule τ x1 x2 = _
      unfold f_X8_rule
      rw [inS, p_cl, if_neg i1, if_pos rfl]
/-! rounds -/
theorem N_rounds (x1 : Int32) : simN (fun σ => f_X7_rounds σ x1) (fun τ => f_X8_rounds τ x1) := fun n m K σ τ h => by
  have V0 : f_X7_rounds σ x1 = (if x1 < 1 then some (-1, σ) else if x1 ≤ 80 then q_lim D_X7_rounds 0 σ [x1, 0, 0] else some (-1, σ)) := rfl
  have R0 : f_X8_rounds τ x1 = (if (1 : Int32) ≤ x1 ∧ x1 ≤ 80 then q_lim D_X8_rounds 0 τ [x1, 0, 0] else some (-1, τ)) := by
    unfold f_X8_rounds e_X8_rounds
    rw [inS, p_cl]
    by_cases c : (1 : Int32) ≤ x1 ∧ x1 ≤ 80
    · rw [if_pos c, if_neg ne10, if_pos c]
    · rw [if_neg c, if_pos rfl, if_neg c]
  by_cases c : (1 : Int32) ≤ x1 ∧ x1 ≤ 80
  · rw [if_pos c] at R0
    rw [if_neg (i_nlt.mpr c.1), if_pos c.2] at V0
    obtain ⟨q, hq, rfl⟩ := nI_of2 (M := 80) (n := 80) rfl (fun z => absurd (Int32.le_trans c.1 (Int32.le_of_lt z)) (by decide)) c.2
    obtain ⟨σ', xs', ⟨e1, acc, τ', K', e2, e3, e4, e5, e6⟩, e7⟩ := q_run (D := D_X7_rounds) (i := 0) (I := fun k σ1 xs => ∃ (h1 : True) (acc : Int32) (τ1 : qM) (K1 : Nat → Nat), xs = [nI q, acc, nI k] ∧ q_lim D_X8_rounds 0 τ [nI q, 0, 0] = q_lim D_X8_rounds 0 τ1 [nI q, acc, nI k] ∧ RNp n m K1 (q_sub 1 σ1) (τ1 1) ∧ frV σ σ1 ∧ frR τ τ1) q (fun k σ1 xs hk hI => by
      obtain ⟨-, acc, τ1, K1, rfl, g2, g3, g4, g5⟩ := hI
      obtain ⟨r, K2, net', τ2, u1, u2, u3, u4, -⟩ := round_sim g3
      refine ⟨q_put 1 21 σ1 net', [nI q, acc + r, nI (k + 1)], ⟨trivial, acc + r, τ2, K2, rfl, ?_, RNp_put u3, g4.trans frV_put, g5.trans (frR_M u4)⟩, q_lim_eq (fun go => ?_)⟩
      · rw [g2]
        refine q_lim_eq (fun go => ?_)
        show b_X8_rounds_16 go τ1 (nI q) acc (nI k) = _
        unfold b_X8_rounds_16
        simp only [p_nm]
        rw [if_neg (nI_ge hk (by omega)), u2, p_cl, nI_1]
      · show b_X7_rounds_17 go σ1 (nI q) acc (nI k) = _
        unfold b_X7_rounds_17
        simp only [p_nm]
        rw [if_neg (nI_ge hk (by omega)), u1, p_cl, nI_1]) q 0 σ [nI q, 0, nI 0] (by omega) ⟨trivial, 0, τ, K, rfl, rfl, h, frV.rf σ, frR.rf τ⟩
    refine ⟨acc, σ', τ', n, m, K', ?_, ?_, e4, e5, e6⟩
    · show f_X7_rounds σ (nI q) = _
      rw [V0]
      show q_lim D_X7_rounds 0 σ [nI q, 0, nI 0] = _
      rw [e7, e2]
      refine q_lim_ret (fun go => ?_)
      show b_X7_rounds_17 go σ' (nI q) acc (nI q) = _
      unfold b_X7_rounds_17
      rw [if_pos (nI_le (Nat.le_refl _) (by omega))]
    · show f_X8_rounds τ (nI q) = _
      rw [R0]
      show q_lim D_X8_rounds 0 τ [nI q, 0, 0] = _
      rw [e3]
      refine q_lim_ret (fun go => ?_)
      show b_X8_rounds_16 go τ' (nI q) acc (nI q) = _
      unfold b_X8_rounds_16
      rw [if_pos (nI_le (Nat.le_refl _) (by omega))]
  · rw [if_neg c] at R0
    refine simN_same h (r := -1) ?_ R0
    show f_X7_rounds σ x1 = _
    rw [V0]
    by_cases w : x1 < 1
    · rw [if_pos w]
    · rw [if_neg w, if_neg (fun z => c ⟨i_nlt.mp w, z⟩)]
