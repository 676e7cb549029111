/-! a table told by a row -/
theorem div2 {a : Nat} (h : a < 2 ^ 31) : nI a / 2 = nI (a / 2) := pk_div (d := 2) h (by decide) (by decide)
theorem rem2 {a : Nat} (h : a < 2 ^ 31) : nI a - nI a / 2 * 2 = nI (a % 2) := pk_rem (d := 2) h (by decide) (by decide)
theorem D_judge_0 (go : qB) (τ : qM) (a b c d : Int32) : D_X8_judge go 0 τ [a, b, c, d] = b_X8_judge_81 go τ a b c d := by
  unfold D_X8_judge
  exact if_pos (show (0 : Nat) = 0 from rfl)
theorem D_judge_1 (go : qB) (τ : qM) (a b c d e f : Int32) : D_X8_judge go 1 τ [a, b, c, d, e, f] = b_X8_judge_117 go τ a b c d e f := by
  unfold D_X8_judge
  exact (if_neg (show ¬ (1 : Nat) = 0 by decide)).trans (if_pos (show (1 : Nat) = 1 from rfl))
theorem D_judge_2 (go : qB) (τ : qM) (a b c d e f : Int32) : D_X8_judge go 2 τ [a, b, c, d, e, f] = b_X8_judge_139 go τ a b c d e f := by
  unfold D_X8_judge
  exact (if_neg (show ¬ (2 : Nat) = 0 by decide)).trans ((if_neg (show ¬ (2 : Nat) = 1 by decide)).trans (if_pos (show (2 : Nat) = 2 from rfl)))
theorem judge_at {n m : Nat} {K : Nat → Nat} {σ τ : qM} (h : RNp n m K (q_sub 1 σ) (τ 1)) {a d : Nat} (ha : a < n) (hd : d < n) : ∃ μ ν : Int32, (∀ i0 i1 : Int32, f_X7_isOtherwise σ (nI a) (nI d) i0 i1 = some (if i0 = μ ∧ i1 = ν then 0 else 1, σ)) ∧ ∀ (x : Int32) (q : Nat), d < q → q < 100 → q_lim D_X8_judge 0 τ [x, nI a, nI q, nI d] = q_lim D_X8_judge 2 τ [x, nI a, nI q, nI d, μ, ν] := by
  have hn := h.1.1
  have hT := h.2.2
  have lk := Nat.le_trans (hT.le hn (r := a) (by omega)) hn
  have hp : q_put 2 7 σ (q_sub 2 σ) = σ := p_put_sub 2 7 σ
  have V0 : ∀ i0 i1 : Int32, f_X7_isOtherwise σ (nI a) (nI d) i0 i1 = (if (if σ 3 (10 * a + d) = -1 then (0 : Int32) else 1) = 0 then (if i0 = 16 then (if i1 = nI a then some (0, σ) else some (1, σ)) else some (1, σ)) else (if i0 = σ 3 (10 * a + d) then (if i1 = σ 4 (10 * a + d) then some (0, σ) else some (1, σ)) else some (1, σ))) := fun i0 i1 => by
    unfold f_X7_isOtherwise
    simp only [p_nmx]
    rw [p_cell, hasS (by omega), p_cl, hp, p_bo0, q_rd_n (by omega) (by decide), q_rd_n (by omega) (by decide)]
    simp only [p_bo1, p_bo0]
    rfl
  have fold : ∀ (i0 i1 μ ν : Int32), (if i0 = μ then (if i1 = ν then some ((0 : Int32), σ) else some (1, σ)) else some (1, σ)) = some (if i0 = μ ∧ i1 = ν then 0 else 1, σ) := fun i0 i1 μ ν => by
    by_cases e : i0 = μ
    · by_cases e2 : i1 = ν
      · rw [if_pos e, if_pos e2, if_pos ⟨e, e2⟩]
      · rw [if_pos e, if_neg e2, if_neg (fun z => e2 z.2)]
    · rw [if_neg e, if_neg (fun z => e z.1)]
  have R0 : ∀ (x : Int32) (q : Nat), d < q → q < 100 → ∀ go : qB, D_X8_judge go 0 τ [x, nI a, nI q, nI d] = (if (0 : Int32) ≤ eo a (ef (τ 1) a (K a) (nI d)) then (q_rd τ 1 650 (250 + eo a (ef (τ 1) a (K a) (nI d))) fun x31 => go 1 τ [x, nI a, nI q, nI d, eo a (ef (τ 1) a (K a) (nI d)), x31]) else go 1 τ [x, nI a, nI q, nI d, eo a (ef (τ 1) a (K a) (nI d)), 16]) := fun x q hq hq1 go => by
    rw [D_judge_0]
    unfold b_X8_judge_81
    simp only [p_nmx]
    rw [if_neg (nI_ge hq (by omega)), entryOfS (by omega) lk (hT.1 a (by omega)).1, p_cl]
  rcases hT.cell hn (r := a) (d := d) (by omega) (by omega) with ⟨c1, c2⟩ | ⟨k, v, x, k1, k2, k3, k4, k5, k6, k7, k8, k9, k10, k11, k12⟩
  · have c2 : σ 3 (10 * a + d) = -1 := c2
    refine ⟨16, nI a, fun i0 i1 => ?_, fun y q hq hq1 => ?_⟩
    · rw [V0, c2, if_pos rfl, if_pos rfl]
      exact fold i0 i1 16 (nI a)
    · have e := R0 y q hq hq1
      rw [ef_none c1, show eo a none = -1 from rfl] at e
      rw [q_lim_eq (fun go => (e go).trans (if_neg (show ¬ (0 : Int32) ≤ -1 by decide)))]
      refine q_lim_eq (fun go => ?_)
      rw [D_judge_1]
      unfold b_X8_judge_117
      rw [if_neg (show ¬ (0 : Int32) ≤ -1 by decide)]
  · have k8 : σ 3 (10 * a + d) = nI x := k8
    have k10 : σ 4 (10 * a + d) = nI v := k10
    refine ⟨nI x, nI v, fun i0 i1 => ?_, fun y q hq hq1 => ?_⟩
    · rw [V0, k8, if_neg (p_ne1 (by omega)), if_neg ne10, k10]
      exact fold i0 i1 (nI x) (nI v)
    · have e := R0 y q hq hq1
      rw [ef_some hT (by omega) k1 k5, show eo a (some k) = nI (10 * a + k) from rfl] at e
      have hk10 : K a ≤ 10 := lk
      rw [q_lim_eq (j := 1) (τ := τ) (ys := [y, nI a, nI q, nI d, nI (10 * a + k), nI x]) (fun go => by rw [e go, if_pos (nI_pos' (by omega)), a250, q_rd_n (by omega) (by decide), k7])]
      refine q_lim_eq (fun go => ?_)
      rw [D_judge_1]
      unfold b_X8_judge_117
      simp only [p_nmx]
      rw [if_pos (nI_pos' (by omega)), a350, q_rd_n (by omega) (by decide), k9]
theorem judge_loop {n m : Nat} {K : Nat → Nat} {σ τ : qM} (h : RNp n m K (q_sub 1 σ) (τ 1)) {a j q : Nat} (ha : a < n) (hj : j < 6) (hq : q ≤ 30) (hqn : q ≤ n) (hi : ∀ i, i < 60 → σ (95 + 2 * j) i = τ 19 (60 * j + i)) : ∀ f d, d + f = q → ∃ r : Int32, q_lim D_X7_judge 0 σ [nI a, nI j, nI q, nI d] = some (r, σ) ∧ q_lim D_X8_judge 0 τ [nI j, nI a, nI q, nI d] = some (r, τ) := by
  have hn := h.1.1
  have v3 : σ 1 3 = nI n := h.1.2.2.2.1
  have r0 : τ 1 0 = nI n := h.1.2.2.1
  intro f
  induction f with
  | zero =>
    intro d hd
    have e : d = q := by omega
    subst e
    refine ⟨if nI n ≤ nI d then -2 else nI d, q_lim_ret (fun go => ?_), q_lim_ret (fun go => ?_)⟩
    · show b_X7_judge_80 go σ (nI a) (nI j) (nI d) (nI d) = _
      unfold b_X7_judge_80
      simp only [p_nmx]
      rw [if_pos (nI_le (Nat.le_refl _) (by omega)), v3]
      by_cases c : nI n ≤ nI d
      · rw [if_pos c, if_pos c]
      · rw [if_neg c, if_neg c]
    · rw [D_judge_0]
      unfold b_X8_judge_81
      rw [if_pos (nI_le (Nat.le_refl _) (by omega)), rd1_0, r0]
      by_cases c : nI n ≤ nI d
      · rw [if_pos c, if_pos c]
      · rw [if_neg c, if_neg c]
  | succ f ih =>
    intro d hd
    obtain ⟨μ, ν, e1, e2⟩ := judge_at h (a := a) (d := d) ha (by omega)
    have V : ∀ go : qB, D_X7_judge go 0 σ [nI a, nI j, nI q, nI d] = if (if τ 19 (60 * j + 2 * d) = μ ∧ τ 19 (60 * j + (2 * d + 1)) = ν then (0 : Int32) else 1) = 0 then go 0 σ [nI a, nI j, nI q, nI (d + 1)] else some (nI d, σ) := fun go => by
      show b_X7_judge_80 go σ (nI a) (nI j) (nI q) (nI d) = _
      unfold b_X7_judge_80
      simp only [p_nmx]
      rw [if_neg (nI_ge (by omega) (by omega)), nI_clamp (n := j) (by omega), m2, nI_1, nI_1, q_rd_n (by omega) (by decide), q_rd_n (by omega) (by decide), e1, p_cl, hi _ (by omega), hi _ (by omega)]
    have R : ∀ go : qB, D_X8_judge go 2 τ [nI j, nI a, nI q, nI d, μ, ν] = if τ 19 (60 * j + 2 * d) = μ then (if τ 19 (60 * j + 2 * d + 1) = ν then go 0 τ [nI j, nI a, nI q, nI (d + 1)] else some (nI d, τ)) else some (nI d, τ) := fun go => by
      rw [D_judge_2]
      unfold b_X8_judge_139
      simp only [p_nmx]
      rw [m60, m2, nI_add, nI_1, nI_1, q_rd_n (by omega) (by decide), q_rd_n (by omega) (by decide)]
    rw [e2 (nI j) q (by omega) (by omega)]
    by_cases c : τ 19 (60 * j + 2 * d) = μ ∧ τ 19 (60 * j + (2 * d + 1)) = ν
    · obtain ⟨r, u1, u2⟩ := ih (d + 1) (by omega)
      refine ⟨r, ?_, ?_⟩
      · rw [q_lim_eq (fun go => by rw [V go, if_pos c, if_pos rfl])]; exact u1
      · rw [q_lim_eq (fun go => by rw [R go, if_pos c.1, if_pos (show τ 19 (60 * j + 2 * d + 1) = ν from c.2)])]; exact u2
    · refine ⟨nI d, q_lim_ret (fun go => by rw [V go, if_neg c, if_neg ne10]), q_lim_ret (fun go => ?_)⟩
      rw [R go]
      by_cases c1 : τ 19 (60 * j + 2 * d) = μ
      · rw [if_pos c1, if_neg (show ¬ τ 19 (60 * j + 2 * d + 1) = ν from fun z => c ⟨c1, z⟩)]
      · rw [if_neg c1]
theorem judge_sim {n m : Nat} {K : Nat → Nat} {σ τ : qM} (h : RNp n m K (q_sub 1 σ) (τ 1)) (hH : RH σ τ) (x1 x2 : Int32) : ∃ r : Int32, f_X7_judge σ x1 x2 = some (r, σ) ∧ f_X8_judge τ x1 x2 = some (r, τ) := by
  have hL := h.1
  have hn := hL.1
  have v3 : σ 1 3 = nI n := hL.2.2.2.1
  have r0 : τ 1 0 = nI n := hL.2.2.1
  have d2 : ∀ X : qR, q_dv 2 X = X := fun X => p_dv (by decide)
  by_cases i0 : isN 6 x1
  · obtain ⟨j, hj, rfl⟩ := i0
    by_cases i1 : isN n x2
    · obtain ⟨a, ha, rfl⟩ := i1
      have V0 : f_X7_judge σ (nI j) (nI a) = (if σ (94 + 2 * j) 0 = 0 then some (-11, σ) else if σ (94 + 2 * j) 0 = 2 then (if σ (94 + 2 * j) 7 - σ (94 + 2 * j) 7 / 2 * 2 = 0 then (if σ (94 + 2 * j) 7 / 2 ≤ nI n then q_lim D_X7_judge 0 σ [nI a, nI j, σ (94 + 2 * j) 7 / 2, 0] else some (-13, σ)) else some (-13, σ)) else some (-12, σ)) := by
        unfold f_X7_judge e_X7_judge
        simp only [p_nmx, d2]
        rw [noHolder_y hj, p_cl, if_pos rfl, noRouter_y v3 (by omega) ha, p_cl, if_pos rfl, q_gd_n hj (by decide), nI_clamp (by omega), v3]
      have R0 : f_X8_judge τ (nI j) (nI a) = (if τ 18 j = -2 then some (-11, τ) else if τ 18 j = -1 then some (-12, τ) else if τ 18 j - τ 18 j / 2 * 2 = 1 then some (-13, τ) else if τ 18 j / 2 ≤ nI n then q_lim D_X8_judge 0 τ [nI j, nI a, τ 18 j / 2, 0] else some (-13, τ)) := by
        unfold f_X8_judge e_X8_judge
        simp only [p_nmx, d2]
        rw [isHolder_y hj, p_cl, if_neg ne10, isRouter_y r0 (by omega) ha, p_cl, if_neg ne10, q_rd_n hj (by decide), q_rd_n hj (by decide), q_rd_n hj (by decide), q_rd_n hj (by decide), rd1_0, r0]
      rcases hH j hj with ⟨u, b⟩ | ⟨u, b, c⟩ | ⟨u, L, c1, c2, c3, c4⟩
      · rw [u, if_pos rfl] at V0
        rw [b, if_pos rfl] at R0
        exact ⟨_, V0, R0⟩
      · rw [u, if_neg ne10, if_neg (show ¬ (1 : Int32) = 2 by decide)] at V0
        rw [b, if_neg (show ¬ (-1 : Int32) = -2 by decide), if_pos rfl] at R0
        exact ⟨_, V0, R0⟩
      · rw [u, if_neg (show ¬ (2 : Int32) = 0 by decide), if_pos rfl, c2, rem2 (by omega), div2 (by omega)] at V0
        rw [c3, if_neg (show ¬ nI L = -2 from fun z => nI_pos (n := L) (by omega) (by rw [z]; decide)), if_neg (p_ne1 (by omega)), rem2 (by omega), div2 (by omega)] at R0
        have l2 : L % 2 < 2 := Nat.mod_lt _ (by decide)
        by_cases e : L % 2 = 0
        · rw [e, if_pos (show nI 0 = 0 from rfl)] at V0
          rw [e, if_neg (show ¬ nI 0 = 1 by decide)] at R0
          by_cases w : L / 2 ≤ n
          · rw [if_pos (nI_le w (by omega))] at V0 R0
            obtain ⟨r, u1, u2⟩ := judge_loop h (a := a) (j := j) (q := L / 2) ha hj (by omega) w c4 (L / 2) 0 (by omega)
            exact ⟨r, V0.trans u1, R0.trans u2⟩
          · rw [if_neg (nI_ge (by omega) (by omega))] at V0 R0
            exact ⟨_, V0, R0⟩
        · have e1 : L % 2 = 1 := by omega
          rw [e1, if_neg (show ¬ nI 1 = 0 by decide)] at V0
          rw [e1, if_pos (show nI 1 = 1 from rfl)] at R0
          exact ⟨_, V0, R0⟩
    · refine ⟨-1, ?_, ?_⟩
      · unfold f_X7_judge e_X7_judge
        rw [noHolder_y hj, p_cl, if_pos rfl, noRouter_n v3 (by omega) i1, p_cl, if_neg ne10]
      · unfold f_X8_judge e_X8_judge
        rw [isHolder_y hj, p_cl, if_neg ne10, isRouter_n r0 (by omega) i1, p_cl, if_pos rfl]
  · refine ⟨-1, ?_, ?_⟩
    · unfold f_X7_judge e_X7_judge
      rw [noHolder_n i0, p_cl, if_neg ne10]
    · unfold f_X8_judge e_X8_judge
      rw [isHolder_n i0, p_cl, if_pos rfl]
