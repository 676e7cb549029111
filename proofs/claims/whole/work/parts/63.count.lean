/-! count: links that are up; known entries -/
theorem countUp {n m : Nat} {K : Nat → Nat} {σ τ : qM} (h : RNp n m K (q_sub 1 σ) (τ 1)) : ∃ r : Int32, f_X2_howManyUp (q_sub 16 σ) = some (r, q_sub 16 σ) ∧ q_lim D_X8_count 0 τ [0, 0] = some (r, τ) := by
  have hm := h.1.2.1
  have r1 : τ 1 1 = nI m := h.1.2.2.2.2.1
  have v5 : q_sub 16 σ 0 5 = nI m := h.1.2.2.2.2.2.1
  obtain ⟨σ2, xs2, ⟨acc, e1, e2, e3⟩, e4⟩ := q_run (D := D_X2_howManyUp) (i := 0) (I := fun k σc xs => ∃ acc : Int32, xs = [acc, nI k] ∧ q_lim D_X8_count 0 τ [0, 0] = q_lim D_X8_count 0 τ [acc, nI k] ∧ σc = q_sub 16 σ) m (fun k σc xs hk hI => by
    obtain ⟨acc, rfl, g2, rfl⟩ := hI
    obtain ⟨a, b, c, w1, w2, w3, w4, w5, w6, w7, w8, w9, w10, w11, w12⟩ := h.1.2.2.2.2.2.2.2.2.2.2.2.2.1 k hk
    have w11 : q_sub 16 σ 4 k = τ 1 (100 + k) := w11
    refine ⟨q_sub 16 σ, _, ⟨acc + τ 1 (100 + k), rfl, ?_, rfl⟩, q_lim_eq (fun go => ?_)⟩
    · rw [g2]
      refine q_lim_eq (fun go => ?_)
      unfold D_X8_count
      rw [if_pos (show (0 : Nat) = 0 from rfl)]
      show b_X8_count_68 go τ acc (nI k) = _
      unfold b_X8_count_68
      simp only [p_nmx]
      rw [rd1_1, r1, if_neg (nI_ge hk (by omega)), a100, q_rd_n (by omega) (by decide), nI_1]
    · show b_X2_howManyUp_4 go (q_sub 16 σ) acc (nI k) = _
      unfold b_X2_howManyUp_4
      simp only [p_nmx]
      rw [v5, if_neg (nI_ge hk (by omega)), q_rd_n (by omega) (by decide), w11, nI_1]) m 0 (q_sub 16 σ) [0, nI 0] (by omega) ⟨0, rfl, rfl, rfl⟩
  refine ⟨acc, ?_, ?_⟩
  · show q_lim D_X2_howManyUp 0 (q_sub 16 σ) [0, nI 0] = _
    rw [e4, e1, e3]
    refine q_lim_ret (fun go => ?_)
    show b_X2_howManyUp_4 go (q_sub 16 σ) acc (nI m) = _
    unfold b_X2_howManyUp_4
    simp only [p_nmx]
    rw [v5, if_pos (nI_le (Nat.le_refl _) (by omega))]
  · rw [e2]
    refine q_lim_ret (fun go => ?_)
    unfold D_X8_count
    rw [if_pos (show (0 : Nat) = 0 from rfl)]
    show b_X8_count_68 go τ acc (nI m) = _
    unfold b_X8_count_68
    rw [rd1_1, r1, if_pos (nI_le (Nat.le_refl _) (by omega))]
/-- how many cells of the tables satisfy P, by position -/
theorem cells_pos {n : Nat} {K : Nat → Nat} {net : qM} {s : Nat → Int32} (hn : n ≤ 10) (hT : RT n K 1 net s) (P : Nat → Bool) (Q : Nat → Nat → Bool) (hu : ∀ c, c < 100 → net 2 c = -1 → P c = false) (hq : ∀ r k d, r < 10 → k < K r → d < 10 → s (150 + (10 * r + k)) = nI d → net 2 (10 * r + d) = s (250 + (10 * r + k)) → P (10 * r + d) = Q r k) :
    cntN P 100 = sumN (fun r => cntN (Q r) (K r)) n := by
  rw [show 100 = 10 * 10 from rfl, cntN_rows]
  have unk : ∀ r d, r < 10 → d < 10 → (∀ k, k < K r → s (150 + (10 * r + k)) ≠ nI d) → P (10 * r + d) = false := fun r d hr hd hu1 => hu _ (by omega) (hT.2.2.2.2.2 r d hr hd hu1)
  rw [sumN_tail (n := n) 10 hn (fun r h1 h2 => cntN_0 (fun d hd => unk r d h2 hd (fun k hk => by rw [hT.2.1 r h1 h2] at hk; omega)))]
  refine sumN_cong (fun r hr => ?_)
  have hr10 : r < 10 := by omega
  have des : ∀ i, i < K r → ∃ d x, d < n ∧ (s (150 + (10 * r + i))).toNatClampNeg = d ∧ s (150 + (10 * r + i)) = nI d ∧ s (250 + (10 * r + i)) = nI x ∧ net 2 (10 * r + d) = nI x := fun i hi => by
    obtain ⟨d, v, x, a1, a2, a3, a4, a5, a6, a7, -⟩ := hT.2.2.2.2.1 r i hr10 hi
    exact ⟨d, x, a1, by rw [a4, nI_clamp (by omega)], a4, a6, a7⟩
  rw [cntN_inj (N := 10) (f := fun i => (s (150 + (10 * r + i))).toNatClampNeg) (K r) (fun d => P (10 * r + d)) (fun i hi => by
    obtain ⟨d, x, a1, a4, -⟩ := des i hi
    show (s (150 + (10 * r + i))).toNatClampNeg < 10
    rw [a4]; omega) (fun i j hi hj e => by
    obtain ⟨d, x, a1, a4, a5, -⟩ := des i hi
    obtain ⟨d', x', b1, b4, b5, -⟩ := des j hj
    have e : (s (150 + (10 * r + i))).toNatClampNeg = (s (150 + (10 * r + j))).toNatClampNeg := e
    rw [a4, b4] at e
    exact hT.2.2.2.1 r i j hr10 hi hj (by rw [a5, b5, e])) (fun d hd c => by
    refine Classical.byContradiction (fun hno => ?_)
    have c : P (10 * r + d) = true := c
    rw [unk r d hr10 hd (fun k hk e => hno ⟨k, hk, by
      show (s (150 + (10 * r + k))).toNatClampNeg = d
      rw [e, nI_clamp (by omega)]⟩)] at c
    cases c)]
  refine cntN_cong (fun i hi => ?_)
  obtain ⟨d, x, a1, a4, a5, a6, a7⟩ := des i hi
  show P (10 * r + (s (150 + (10 * r + i))).toNatClampNeg) = Q r i
  rw [a4]
  exact hq r i d hr10 hi (by omega) a5 (a7.trans a6.symm)
