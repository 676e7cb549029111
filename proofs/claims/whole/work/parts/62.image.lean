/-! an image is kept, and is gone back to -/
def RImg (σ τ : qM) : Prop := (σ 0 8 = 0 ∧ τ 0 22 = 0) ∨ (σ 0 8 = 1 ∧ τ 0 22 = 1 ∧ ∃ (n m : Nat) (K : Nat → Nat), RNp n m K (q_sub 43 σ) (τ 17))
theorem RImg_fr {σ τ σ1 τ1 : qM} (h : RImg σ τ) (h1 : frV σ σ1) (h2 : frR τ τ1) : RImg σ1 τ1 := by
  have e1 : σ1 0 8 = σ 0 8 := by rw [h1.1]
  have e2 : τ1 0 22 = τ 0 22 := h2.2 22 (by decide)
  rcases h with ⟨a, b⟩ | ⟨a, b, n, m, K, c⟩
  · exact Or.inl ⟨e1.trans a, e2.trans b⟩
  · refine Or.inr ⟨e1.trans a, e2.trans b, n, m, K, ?_⟩
    rw [h2.1 17 (by decide)]
    exact RNp_ext c (fun k hk => h1.2.1 (43 + k) (by omega) (by omega))
theorem image_sim {n m : Nat} {K : Nat → Nat} {σ τ : qM} (h : RNp n m K (q_sub 1 σ) (τ 1)) : ∃ (r : Int32) (σ1 τ1 : qM), f_X7_image σ = some (r, σ1) ∧ f_X8_image τ = some (r, τ1) ∧ RNp n m K (q_sub 1 σ1) (τ1 1) ∧ RImg σ1 τ1 ∧ (∀ k, 64 ≤ k → σ1 k = σ k) ∧ (∀ j, j ≠ 8 → σ1 0 j = σ 0 j) ∧ (∀ i, i ≠ 0 → i ≠ 17 → τ1 i = τ i) ∧ ∀ j, j ≠ 22 → τ1 0 j = τ 0 j := by
  obtain ⟨W', σ', a1, a2, a3, a4⟩ := becomeV σ (o1 := 43) (o2 := 1) (by omega)
  obtain ⟨s1, hs1⟩ : ∃ y, y = q_wr τ 0 22 1 := ⟨_, rfl⟩
  obtain ⟨T', t1, t2, t3⟩ := copyS (q_sub2 1 1 17 s1)
  obtain ⟨s3, hs3⟩ : ∃ y, y = q_put2 1 1 1 17 s1 T' := ⟨_, rfl⟩
  have k1 : s3 1 = τ 1 := by rw [hs3, p_put2, if_pos (by omega), show 1 - 1 = 0 from rfl, t3 0 (by decide), p_sub2, if_pos (by omega), hs1, p_wrk (by decide)]
  have k17 : ∀ i, i < 650 → s3 17 i = τ 1 i := fun i hi => by
    rw [hs3, p_put2, if_neg (by omega), if_pos (by omega), show 1 + (17 - 17) = 1 from rfl, t2 i hi, p_sub2, if_pos (by omega), hs1, p_wrk (by decide)]
  have ko : ∀ i, i ≠ 1 → i ≠ 17 → s3 i = s1 i := fun i x y => by rw [hs3, p_put2, if_neg (by omega), if_neg (by omega)]
  have v17 : σ 1 7 = τ 1 5 := h.1.2.2.2.2.2.2.2.2.2.2.2.1
  have e1 : q_wr σ' 0 8 1 1 = σ 1 := by rw [p_wrk (by decide), a3 1 (by omega)]
  refine ⟨τ 1 5, q_wr σ' 0 8 1, s3, ?_, ?_, ?_, Or.inr ⟨p_wrs _ _ _ _, ?_, n, m, K, ?_⟩, fun k hk => by rw [p_wrk (by omega), a3 k (by omega)], fun j hj => by rw [p_wrj hj, a3 0 (by omega)], fun i x y => ?_, fun j hj => ?_⟩
  · unfold f_X7_image
    rw [a1, p_cl, a2, p_bo1]
    simp only [p_nmx]
    rw [e1, v17]
  · unfold f_X8_image
    rw [p_bo1]
    simp only [p_nmx]
    rw [← hs1, t1, p_cl, ← hs3, rd1_5, k1]
  · rw [k1]
    exact RNp_ext h (fun k hk => by
      show q_wr σ' 0 8 1 (1 + k) = σ (1 + k)
      rw [p_wrk (by omega), a3 _ (by omega)])
  · rw [ko 0 (by decide) (by decide), hs1, p_wrs]
  · refine RNp_650 (RNp_ext (a4 n m K (τ 1) h) (fun k hk => ?_)) k17
    show q_wr σ' 0 8 1 (43 + k) = σ' (43 + k)
    rw [p_wrk (by omega)]
  · by_cases c : i = 1
    · rw [c, k1]
    · rw [ko i c y, hs1, p_wrk x]
  · rw [ko 0 (by decide) (by decide), hs1, p_wrj hj]
theorem back_sim {n m : Nat} {K : Nat → Nat} {σ τ : qM} (h : RNp n m K (q_sub 1 σ) (τ 1)) (hI : RImg σ τ) : ∃ (r : Int32) (σ1 τ1 : qM) (n1 m1 : Nat) (K1 : Nat → Nat), f_X7_back σ = some (r, σ1) ∧ f_X8_back τ = some (r, τ1) ∧ RNp n1 m1 K1 (q_sub 1 σ1) (τ1 1) ∧ frV σ σ1 ∧ frR τ τ1 := by
  rcases hI with ⟨x, y⟩ | ⟨x, y, n1, m1, K1, c⟩
  · refine simN_same h (r := -5) ?_ ?_
    · unfold f_X7_back
      simp only [p_nmx]
      rw [x, if_pos rfl]
    · unfold f_X8_back
      simp only [p_nmx]
      rw [y, if_pos rfl]
  · obtain ⟨W', σ', a1, a2, a3, a4⟩ := becomeV σ (o1 := 1) (o2 := 43) (by omega)
    obtain ⟨T', t1, t2, t3⟩ := copyS (q_sub2 1 17 1 τ)
    obtain ⟨s3, hs3⟩ : ∃ y, y = q_put2 1 17 1 1 τ T' := ⟨_, rfl⟩
    have k1 : ∀ i, i < 650 → s3 1 i = τ 17 i := fun i hi => by
      rw [hs3, p_put2, if_neg (by omega), if_pos (by omega), show 1 + (1 - 1) = 1 from rfl, t2 i hi, p_sub2, if_pos (by omega)]
    have ko : ∀ i, i ≠ 1 → s3 i = τ i := fun i z => by
      rw [hs3, p_put2]
      by_cases w : 17 ≤ i ∧ i < 17 + 1
      · rw [if_pos w, t3 _ (by omega), p_sub2, if_pos (by omega), show 17 + (i - 17) = i by omega]
      · rw [if_neg w, if_neg (by omega)]
    have hN : RNp n1 m1 K1 (q_sub 1 σ') (s3 1) := RNp_650 (a4 n1 m1 K1 _ c) k1
    have v17 : σ' 1 7 = s3 1 5 := hN.1.2.2.2.2.2.2.2.2.2.2.2.1
    refine ⟨s3 1 5, σ', s3, n1, m1, K1, ?_, ?_, hN, ⟨a3 0 (by omega), fun k u v => a3 k (by omega), fun k u => a3 k (by omega)⟩, frR_1 ko⟩
    · unfold f_X7_back
      simp only [p_nmx]
      rw [x, if_neg ne10, a1, p_cl, a2, v17]
    · unfold f_X8_back
      simp only [p_nmx]
      rw [y, if_neg ne10, t1, p_cl, ← hs3, rd1_5]
