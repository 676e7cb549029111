/-! thinking ahead: then, counts, packet -/
theorem nI_80 {q : Nat} (h : q ≤ 80) : ¬ (80 : Int32) < nI q := nI_nlt (a := 80) (b := q) h (by decide)
theorem then_end {n m : Nat} {K : Nat → Nat} {σ τ : qM} (h : RNp n m K (q_sub 22 σ) (τ 1)) {a b q : Nat} (ha : a < n) (hb : b < n) (hq : q ≤ 80) (x4 : Int32) : ∃ (r : Int32) (σ' τ' : qM), q_lim D_X7_then 0 σ [nI a, nI b, nI q, x4, nI q] = some (r, σ') ∧ q_lim D_X8_then 0 τ [nI a, nI b, nI q, x4, nI q] = some (r, q_sw τ') ∧ frT σ τ σ' τ' := by
  have hn := h.1.1
  have hT := h.2.2
  have lk := Nat.le_trans (hT.le hn (r := a) (by omega)) hn
  have hE : f_X8_entryOf τ (nI a) (nI b) = some (eo a (ef (τ 1) a (K a) (nI b)), τ) := entryOfS (by omega) lk (hT.1 a (by omega)).1
  obtain ⟨W', σ1, τ1, r, q1, q2, q3, q4, q5⟩ := loopsV (o := 22) (by decide) h
  have hp : q_put 23 7 σ (q_sub 23 σ) = σ := p_put_sub 23 7 σ
  have V : ∀ go : qB, D_X7_then go 0 σ [nI a, nI b, nI q, x4, nI q] = (if x4 = 2 then some (r, σ1) else (if (if σ 24 (10 * a + b) = -1 then (0 : Int32) else 1) = 0 then some (-2, σ) else (if x4 = 0 then some (σ 24 (10 * a + b), σ) else some (σ 25 (10 * a + b), σ)))) := fun go => by
    show b_X7_then_53 go σ (nI a) (nI b) (nI q) x4 (nI q) = _
    unfold b_X7_then_53
    simp only [p_nm]
    rw [if_pos (nI_le (Nat.le_refl _) (by omega)), q1, p_cl, q2, p_cell, hasS (by omega), p_cl, hp, q_rd_n (by omega) (by decide), q_rd_n (by omega) (by decide)]
    rfl
  have R : ∀ go : qB, D_X8_then go 0 τ [nI a, nI b, nI q, x4, nI q] = (if x4 = 2 then some (r, q_sw τ1) else (if (0 : Int32) ≤ eo a (ef (τ 1) a (K a) (nI b)) then (if x4 = 0 then (q_rd τ 1 650 (250 + eo a (ef (τ 1) a (K a) (nI b))) fun x => some (x, q_sw τ)) else (q_rd τ 1 650 (350 + eo a (ef (τ 1) a (K a) (nI b))) fun x => some (x, q_sw τ))) else some (-2, q_sw τ))) := fun go => by
    show b_X8_then_45 go τ (nI a) (nI b) (nI q) x4 (nI q) = _
    unfold b_X8_then_45
    simp only [p_nm]
    rw [if_pos (nI_le (Nat.le_refl _) (by omega)), hE, p_cl, q3, p_cl, wakeR, p_cl]
    simp only [wakeR, p_cl]
  by_cases c : x4 = 2
  · exact ⟨r, σ1, τ1, q_lim_ret (fun go => by rw [V go, if_pos c]), q_lim_ret (fun go => by rw [R go, if_pos c]), frT_W q4 q5⟩
  · rcases hT.cell hn (r := a) (d := b) (by omega) (by omega) with ⟨c1, c2⟩ | ⟨k, v, x, k1, k2, k3, k4, k5, k6, k7, k8, k9, k10, k11, k12⟩
    · have c2 : σ 24 (10 * a + b) = -1 := c2
      exact ⟨-2, σ, τ, q_lim_ret (fun go => by rw [V go, if_neg c, if_pos c2, if_pos rfl]), q_lim_ret (fun go => by rw [R go, if_neg c, ef_none c1, show eo a none = -1 from rfl, if_neg (show ¬ (0 : Int32) ≤ -1 by decide)]), frT.rf σ τ⟩
    · have k8 : σ 24 (10 * a + b) = nI x := k8
      have k10 : σ 25 (10 * a + b) = nI v := k10
      have V1 : ∀ go : qB, D_X7_then go 0 σ [nI a, nI b, nI q, x4, nI q] = if x4 = 0 then some (nI x, σ) else some (nI v, σ) := fun go => by
        rw [V go, if_neg c, k8, if_neg (p_ne1 (by omega)), if_neg ne10, k10]
      have R1 : ∀ go : qB, D_X8_then go 0 τ [nI a, nI b, nI q, x4, nI q] = if x4 = 0 then some (nI x, q_sw τ) else some (nI v, q_sw τ) := fun go => by
        rw [R go, if_neg c, ef_some hT (by omega) k1 k5, show eo a (some k) = nI (10 * a + k) from rfl, if_pos (nI_pos' (by omega)), a250, q_rd_n (by omega) (by decide), a350, q_rd_n (by omega) (by decide), k7, k9]
      by_cases c0 : x4 = 0
      · exact ⟨nI x, σ, τ, q_lim_ret (fun go => by rw [V1 go, if_pos c0]), q_lim_ret (fun go => by rw [R1 go, if_pos c0]), frT.rf σ τ⟩
      · exact ⟨nI v, σ, τ, q_lim_ret (fun go => by rw [V1 go, if_neg c0]), q_lim_ret (fun go => by rw [R1 go, if_neg c0]), frT.rf σ τ⟩
theorem in80 {x : Int32} : ((0 : Int32) ≤ x ∧ x ≤ 80) ↔ isN 81 x := in0 (k := 80) (by decide) rfl
theorem N_then (x1 x2 x3 x4 : Int32) : simN (fun σ => f_X7_then σ x1 x2 x3 x4) (fun τ => f_X8_then τ x1 x2 x3 x4) := fun n m K σ τ h => by
  have hL := h.1
  have hn := hL.1
  have v3 : σ 1 3 = nI n := hL.2.2.2.1
  have r0 : τ 1 0 = nI n := hL.2.2.1
  by_cases i1 : isN n x1
  · obtain ⟨a, ha, rfl⟩ := i1
    by_cases i2 : isN n x2
    · obtain ⟨b, hb, rfl⟩ := i2
      obtain ⟨W', σ1, τ1, a1, a2, a3, a4, a5, a6, a7⟩ := think_sim h
      have V0 : f_X7_then σ (nI a) (nI b) x3 x4 = (if x3 < 0 then some (-1, σ) else if (80 : Int32) < x3 then some (-1, σ) else if x4 < 0 then some (-1, σ) else if x4 ≤ 2 then q_lim D_X7_then 0 σ1 [nI a, nI b, x3, x4, 0] else some (-1, σ)) := by
        unfold f_X7_then e_X7_then
        rw [noRouter_y v3 (by omega) ha, p_cl, if_pos rfl, noRouter_y v3 (by omega) hb, p_cl, if_pos rfl, a1, p_cl, a2]
      have R0 : f_X8_then τ (nI a) (nI b) x3 x4 = (if (0 : Int32) ≤ x3 ∧ x3 ≤ 80 then (if (0 : Int32) ≤ x4 ∧ x4 ≤ 2 then q_lim D_X8_then 0 τ1 [nI a, nI b, x3, x4, 0] else some (-1, τ)) else some (-1, τ)) := by
        unfold f_X8_then e_X8_then
        rw [isRouter_y r0 (by omega) ha, p_cl, if_neg ne10, isRouter_y r0 (by omega) hb, p_cl, if_neg ne10, inS, p_cl]
        by_cases c : (0 : Int32) ≤ x3 ∧ x3 ≤ 80
        · rw [if_pos c, if_neg ne10, inS, p_cl, if_pos c]
          by_cases c2 : (0 : Int32) ≤ x4 ∧ x4 ≤ 2
          · rw [if_pos c2, if_neg ne10, a3, p_cl, if_pos c2]
          · rw [if_neg c2, if_pos rfl, if_neg c2]
        · rw [if_neg c, if_pos rfl, if_neg c]
      by_cases c : (0 : Int32) ≤ x3 ∧ x3 ≤ 80
      · by_cases c2 : (0 : Int32) ≤ x4 ∧ x4 ≤ 2
        · obtain ⟨q, hq, rfl⟩ := in80.mp c
          rw [if_neg (i_nlt.mpr c.1), if_neg (i_nlt.mpr c.2), if_neg (i_nlt.mpr c2.1), if_pos c2.2] at V0
          rw [if_pos c, if_pos c2] at R0
          obtain ⟨σ2, xs2, ⟨τ2, K2, e1, e2, e3, e4⟩, e5⟩ := q_run (D := D_X7_then) (i := 0) (I := fun k σc xs => ∃ (τc : qM) (Kc : Nat → Nat), xs = [nI a, nI b, nI q, x4, nI k] ∧ q_lim D_X8_then 0 τ1 [nI a, nI b, nI q, x4, 0] = q_lim D_X8_then 0 τc [nI a, nI b, nI q, x4, nI k] ∧ RNp n m Kc (q_sub 22 σc) (τc 1) ∧ frT σ1 τ1 σc τc) q (fun k σc xs hk hI => by
            obtain ⟨τc, Kc, rfl, g2, g3, g4⟩ := hI
            obtain ⟨r, K3, net', τd, u1, u2, u3, u4, -⟩ := round_sim g3
            refine ⟨q_put 22 21 σc net', _, ⟨τd, K3, rfl, ?_, RNp_put22 u3, g4.trans (frT_M u4)⟩, q_lim_eq (fun go => ?_)⟩
            · rw [g2]
              refine q_lim_eq (fun go => ?_)
              show b_X8_then_45 go τc (nI a) (nI b) (nI q) x4 (nI k) = _
              unfold b_X8_then_45
              simp only [p_nm]
              rw [if_neg (nI_ge hk (by omega)), u2, p_cl, nI_1]
            · show b_X7_then_53 go σc (nI a) (nI b) (nI q) x4 (nI k) = _
              unfold b_X7_then_53
              simp only [p_nm]
              rw [if_neg (nI_ge hk (by omega)), u1, p_cl, nI_1]) q 0 σ1 [nI a, nI b, nI q, x4, nI 0] (by omega) ⟨τ1, K, rfl, rfl, a4, frT.rf σ1 τ1⟩
          obtain ⟨r, σ3, τ3, d1, d2, d3⟩ := then_end e3 ha hb (q := q) (by omega) x4
          have aw := awakeT h a5 a6 a7 (e4.trans d3)
          refine ⟨r, σ3, q_sw τ3, n, m, K, ?_, ?_, aw.1, aw.2.1, aw.2.2⟩
          · show f_X7_then σ (nI a) (nI b) (nI q) x4 = _
            rw [V0]
            show q_lim D_X7_then 0 σ1 [nI a, nI b, nI q, x4, nI 0] = _
            rw [e5, e1, d1]
          · show f_X8_then τ (nI a) (nI b) (nI q) x4 = _
            rw [R0, e2, d2]
        · rw [if_neg (i_nlt.mpr c.1), if_neg (i_nlt.mpr c.2)] at V0
          rw [if_pos c, if_neg c2] at R0
          refine simN_same h (r := -1) ?_ R0
          show f_X7_then σ (nI a) (nI b) x3 x4 = _
          rw [V0]
          by_cases w : x4 < 0
          · rw [if_pos w]
          · rw [if_neg w, if_neg (fun z => c2 ⟨i_nlt.mp w, z⟩)]
      · rw [if_neg c] at R0
        refine simN_same h (r := -1) ?_ R0
        show f_X7_then σ (nI a) (nI b) x3 x4 = _
        rw [V0]
        by_cases w : x3 < 0
        · rw [if_pos w]
        · rw [if_neg w, if_pos (i_nle.mp (fun z => c ⟨i_nlt.mp w, z⟩))]
    · refine simN_same h (r := -1) ?_ ?_
      · show f_X7_then σ (nI a) x2 x3 x4 = _
        unfold f_X7_then e_X7_then
        rw [noRouter_y v3 (by omega) ha, p_cl, if_pos rfl, noRouter_n v3 (by omega) i2, p_cl, if_neg ne10]
      · show f_X8_then τ (nI a) x2 x3 x4 = _
        unfold f_X8_then e_X8_then
        rw [isRouter_y r0 (by omega) ha, p_cl, if_neg ne10, isRouter_n r0 (by omega) i2, p_cl, if_pos rfl]
  · refine simN_same h (r := -1) ?_ ?_
    · show f_X7_then σ x1 x2 x3 x4 = _
      unfold f_X7_then e_X7_then
      rw [noRouter_n v3 (by omega) i1, p_cl, if_neg ne10]
    · show f_X8_then τ x1 x2 x3 x4 = _
      unfold f_X8_then e_X8_then
      rw [isRouter_n r0 (by omega) i1, p_cl, if_pos rfl]
/-! counts -/
theorem counts_loop {n m : Nat} {a b : Nat} (ha : a < n) (hb : b < n) : ∀ (f k : Nat) (K : Nat → Nat) (σ τ : qM), k + f = 81 → RNp n m K (q_sub 22 σ) (τ 1) → ∃ (r : Int32) (σ' τ' : qM), q_lim D_X7_counts 0 σ [nI (10 * a + b), nI k] = some (r, σ') ∧ q_lim D_X8_counts 0 τ [nI a, nI b, -2, nI k] = some (r, q_sw τ') ∧ frT σ τ σ' τ' := by
  intro f
  induction f with
  | zero =>
    intro k K σ τ hk h
    have hk : k = 81 := by omega
    subst hk
    refine ⟨-2, σ, τ, q_lim_ret (fun go => ?_), q_lim_ret (fun go => ?_), frT.rf σ τ⟩
    · show b_X7_counts_39 go σ (nI (10 * a + b)) (nI 81) = _
      unfold b_X7_counts_39
      rw [if_pos (by decide)]
    · show b_X8_counts_28 go τ (nI a) (nI b) (-2) (nI 81) = _
      unfold b_X8_counts_28
      rw [if_pos (by decide), wakeR, p_cl]
  | succ f ih =>
    intro k K σ τ hk h
    have hn := h.1.1
    have hT := h.2.2
    have lk := Nat.le_trans (hT.le hn (r := a) (by omega)) hn
    have hE : f_X8_entryOf τ (nI a) (nI b) = some (eo a (ef (τ 1) a (K a) (nI b)), τ) := entryOfS (by omega) lk (hT.1 a (by omega)).1
    obtain ⟨r2, K2, net2, τ2, c1, c2, c3, c4, -⟩ := round_sim h
    have hp : q_put 23 7 σ (q_sub 23 σ) = σ := p_put_sub 23 7 σ
    have V : ∀ go : qB, D_X7_counts go 0 σ [nI (10 * a + b), nI k] = if σ 24 (10 * a + b) = -1 ∨ 16 ≤ σ 24 (10 * a + b) then some (nI k, σ) else go 0 (q_put 22 21 σ net2) [nI (10 * a + b), nI (k + 1)] := fun go => by
      show b_X7_counts_39 go σ (nI (10 * a + b)) (nI k) = _
      unfold b_X7_counts_39
      simp only [p_nm]
      rw [if_neg (nI_80 (by omega)), reachesS (by omega), p_cl, hp, c1, p_cl, nI_1]
      show (if (if σ 24 (10 * a + b) = -1 ∨ 16 ≤ σ 24 (10 * a + b) then (0 : Int32) else 1) = 0 then _ else _) = _
      by_cases w : σ 24 (10 * a + b) = -1 ∨ 16 ≤ σ 24 (10 * a + b)
      · rw [if_pos w, if_pos rfl, if_pos w]
      · rw [if_neg w, if_neg ne10, if_neg w]
    have R : ∀ go : qB, D_X8_counts go 0 τ [nI a, nI b, -2, nI k] = (if eo a (ef (τ 1) a (K a) (nI b)) < 0 then go 0 τ2 [nI a, nI b, nI k, nI (k + 1)] else (q_rd τ 1 650 (250 + eo a (ef (τ 1) a (K a) (nI b))) fun x25 => if x25 = 16 then go 0 τ2 [nI a, nI b, nI k, nI (k + 1)] else go 0 τ2 [nI a, nI b, -2, nI (k + 1)])) := fun go => by
      show b_X8_counts_28 go τ (nI a) (nI b) (-2) (nI k) = _
      unfold b_X8_counts_28
      simp only [p_nm]
      rw [if_neg (nI_80 (by omega)), if_pos trivial, hE, p_cl, c2, p_cl, p_cl, nI_1]
    have fin : q_lim D_X8_counts 0 τ2 [nI a, nI b, nI k, nI (k + 1)] = some (nI k, q_sw τ2) := q_lim_ret (fun go => by
      show b_X8_counts_28 go τ2 (nI a) (nI b) (nI k) (nI (k + 1)) = _
      unfold b_X8_counts_28
      by_cases w : (80 : Int32) < nI (k + 1)
      · rw [if_pos w, wakeR, p_cl]
      · rw [if_neg w, if_neg (fun y => by
          have := nI_pos' (n := k) (by omega)
          rw [y] at this
          exact absurd this (by decide)), wakeR, p_cl])
    have frE : frT σ τ σ τ2 := ⟨fun _ _ => rfl, c4.1 2 (by omega), fun i x => c4.1 i (by omega), fun j x => c4.2 j (by omega)⟩
    rcases hT.cell hn (r := a) (d := b) (by omega) (by omega) with ⟨w1, w2⟩ | ⟨p, v, x, k1, k2, k3, k4, k5, k6, k7, k8, k9, k10, k11, k12⟩
    · have w2 : σ 24 (10 * a + b) = -1 := w2
      refine ⟨nI k, σ, τ2, q_lim_ret (fun go => by rw [V go, if_pos (Or.inl w2)]), ?_, frE⟩
      rw [q_lim_eq (fun go => by rw [R go, ef_none w1, show eo a none = -1 from rfl, if_pos (show (-1 : Int32) < 0 by decide)])]
      exact fin
    · have k8 : σ 24 (10 * a + b) = nI x := k8
      have R1 : ∀ go : qB, D_X8_counts go 0 τ [nI a, nI b, -2, nI k] = (if nI x = 16 then go 0 τ2 [nI a, nI b, nI k, nI (k + 1)] else go 0 τ2 [nI a, nI b, -2, nI (k + 1)]) := fun go => by
        rw [R go, ef_some hT (by omega) k1 k5, show eo a (some p) = nI (10 * a + p) from rfl, if_neg (nI_pos (by omega)), a250, q_rd_n (by omega) (by decide), k7]
      by_cases w : x = 16
      · subst w
        refine ⟨nI k, σ, τ2, q_lim_ret (fun go => by rw [V go, if_pos (Or.inr (by rw [k8]; decide))]), ?_, frE⟩
        rw [q_lim_eq (fun go => by rw [R1 go, if_pos (show nI 16 = 16 from rfl)])]
        exact fin
      · obtain ⟨r3, σ3, τ3, d1, d2, d3⟩ := ih (k + 1) K2 (q_put 22 21 σ net2) τ2 (by omega) (RNp_put22 c3)
        refine ⟨r3, σ3, τ3, ?_, ?_, (frT_M c4).trans d3⟩
        · rw [q_lim_eq (fun go => by rw [V go, if_neg (fun z => by
            rw [k8] at z
            exact z.elim (fun z => p_ne1 (by omega) z) (fun z => i_nle.mpr ((i_16 k4).mpr w) z))])]
          exact d1
        · rw [q_lim_eq (fun go => by rw [R1 go, if_neg (fun z => w ((i_16e k4).mp z))])]
          exact d2
theorem N_counts (x1 x2 : Int32) : simN (fun σ => f_X7_counts σ x1 x2) (fun τ => f_X8_counts τ x1 x2) := fun n m K σ τ h => by
  have hL := h.1
  have hn := hL.1
  have v3 : σ 1 3 = nI n := hL.2.2.2.1
  have r0 : τ 1 0 = nI n := hL.2.2.1
  by_cases i1 : isN n x1
  · obtain ⟨a, ha, rfl⟩ := i1
    by_cases i2 : isN n x2
    · obtain ⟨b, hb, rfl⟩ := i2
      obtain ⟨W', σ1, τ1, a1, a2, a3, a4, a5, a6, a7⟩ := think_sim h
      obtain ⟨r, σ2, τ2, b1, b2, b3⟩ := counts_loop ha hb 81 0 K σ1 τ1 rfl a4
      have aw := awakeT h a5 a6 a7 b3
      refine ⟨r, σ2, q_sw τ2, n, m, K, ?_, ?_, aw.1, aw.2.1, aw.2.2⟩
      · show f_X7_counts σ (nI a) (nI b) = _
        unfold f_X7_counts e_X7_counts
        simp only [p_nm]
        rw [noRouter_y v3 (by omega) ha, p_cl, if_pos rfl, noRouter_y v3 (by omega) hb, p_cl, if_pos rfl, a1, p_cl, a2, p_cell]
        exact b1
      · show f_X8_counts τ (nI a) (nI b) = _
        unfold f_X8_counts e_X8_counts
        rw [isRouter_y r0 (by omega) ha, p_cl, if_neg ne10, isRouter_y r0 (by omega) hb, p_cl, if_neg ne10, a3, p_cl]
        exact b2
    · refine simN_same h (r := -1) ?_ ?_
      · show f_X7_counts σ (nI a) x2 = _
        unfold f_X7_counts e_X7_counts
        rw [noRouter_y v3 (by omega) ha, p_cl, if_pos rfl, noRouter_n v3 (by omega) i2, p_cl, if_neg ne10]
      · show f_X8_counts τ (nI a) x2 = _
        unfold f_X8_counts e_X8_counts
        rw [isRouter_y r0 (by omega) ha, p_cl, if_neg ne10, isRouter_n r0 (by omega) i2, p_cl, if_pos rfl]
  · refine simN_same h (r := -1) ?_ ?_
    · show f_X7_counts σ x1 x2 = _
      unfold f_X7_counts e_X7_counts
      rw [noRouter_n v3 (by omega) i1, p_cl, if_neg ne10]
    · show f_X8_counts τ x1 x2 = _
      unfold f_X8_counts e_X8_counts
      rw [isRouter_n r0 (by omega) i1, p_cl, if_pos rfl]
