/-! shortest, right entries, needed links, told -/
theorem measureV {n m : Nat} {K : Nat → Nat} {σ : qM} {s : Nat → Int32} (h : RNp n m K (q_sub 1 σ) s) {a : Nat} (ha : a < 10) (but : Int32) : ∃ W' σ' : qM, f_X0_measure (q_sub2 2 87 1 σ) (nI a) but = some (0, W') ∧ q_put2 2 87 21 1 σ W' = σ' ∧ (∀ v, v < 10 → σ' 88 v = nI (dn (pasG s but m 10 (g0 a) v))) ∧ ∀ k, k ≠ 88 → σ' k = σ k := by
  have hL : RLk n m (q_sub 2 (q_sub2 2 87 1 σ)) s := RLk_ext h.1 (fun k hk => by
    show q_sub2 2 87 1 σ (2 + k) = σ (1 + k)
    rw [p_sub2, if_neg (by omega), show 2 + k - 2 = k by omega])
  obtain ⟨W', q1, q2, q3⟩ := measureC hL ha but
  refine ⟨W', _, q1, rfl, fun v hv => ?_, fun k hk => ?_⟩
  · rw [p_put2, if_pos (by omega)]
    exact q2 v hv
  · rw [p_put2]
    by_cases c : 87 ≤ k ∧ k < 87 + 2
    · rw [if_pos c, q3 _ (by omega), p_sub2, if_pos (by omega), show 87 + (k - 87) = k by omega]
    · rw [if_neg c]
      by_cases c2 : 1 ≤ k ∧ k < 1 + 21
      · rw [if_pos c2, q3 _ (by omega), p_sub2, if_neg (by omega), show 1 + (2 + (k - 1) - 2) = k by omega]
      · rw [if_neg c2]
theorem far_i {o : Option Nat} (h : ∀ d, o = some d → d ≤ 150) : (nI (dn o) = 1000000 ↔ o = none) := by
  cases o with
  | none => exact ⟨fun _ => rfl, fun _ => rfl⟩
  | some d =>
    have := h d rfl
    exact ⟨fun z => by
      have := p_inj (a := d) (b := 1000000) (by omega) (by decide) z
      omega, fun z => by cases z⟩
theorem frV_88 {σ σ1 : qM} (h : ∀ k, k ≠ 88 → σ1 k = σ k) : frV σ σ1 := ⟨h 0 (by decide), fun k a b => h k (by omega), fun k a => h k (by omega)⟩
theorem frR_13 {τ τ1 : qM} (h : ∀ j, j ≠ 13 → τ1 j = τ j) : frR τ τ1 := ⟨fun i x => h i (by omega), fun j x => by rw [h 0 (by decide)]⟩
theorem RNp_88 {n m : Nat} {K : Nat → Nat} {σ τ σ1 τ1 : qM} (h : RNp n m K (q_sub 1 σ) (τ 1)) (h1 : ∀ k, k ≠ 88 → σ1 k = σ k) (h2 : ∀ j, j ≠ 13 → τ1 j = τ j) : RNp n m K (q_sub 1 σ1) (τ1 1) := by
  rw [h2 1 (by decide)]
  exact RNp_ext h (fun k hk => h1 (1 + k) (by omega))
def shI : Option Nat → Int32
  | some d => nI d
  | none => -2
theorem N_shortest (x1 x2 : Int32) : simN (fun σ => f_X7_shortest σ x1 x2) (fun τ => f_X8_shortest τ x1 x2) := fun n m K σ τ h => by
  have hL := h.1
  have hn := hL.1
  have v3 : σ 1 3 = nI n := hL.2.2.2.1
  have r0 : τ 1 0 = nI n := hL.2.2.1
  by_cases i1 : isN n x1
  · obtain ⟨a, ha, rfl⟩ := i1
    by_cases i2 : isN n x2
    · obtain ⟨b, hb, rfl⟩ := i2
      obtain ⟨W', σ', q1, q2, q3, q4⟩ := measureV h (a := a) (by omega) (-1)
      obtain ⟨τ', p1, p2⟩ := shortR hL (a := a) (b := b) (by omega) (by omega) (-1)
      obtain ⟨o, ho⟩ : ∃ o, o = pasG (τ 1) (-1) m 10 (g0 a) b := ⟨_, rfl⟩
      have hd : ∀ d, o = some d → d ≤ 150 := fun d e => bnd_le (pas_bnd hL 10 (g0_bnd a)) (v := b) (by omega) (by rw [← ho]; exact e)
      have p1 : f_X8_shortestBut τ (nI a) (nI b) (-1) = some (shI o, τ') := by rw [p1, ho]; rfl
      refine ⟨shI o, σ', τ', n, m, K, ?_, ?_, RNp_88 h q4 p2, frV_88 q4, frR_13 p2⟩
      · show f_X7_shortest σ (nI a) (nI b) = _
        unfold f_X7_shortest
        rw [noRouter_y v3 (by omega) ha, p_cl, if_pos rfl, noRouter_y v3 (by omega) hb, p_cl, if_pos rfl, q1, p_cl, q2, q_rd_n (by omega) (by decide), q3 b (by omega), ← ho]
        cases e : o with
        | none => rw [if_pos (show nI (dn none) = 1000000 from rfl)]; rfl
        | some d =>
          rw [if_neg (fun z => by
            have := (far_i (o := some d) (fun d' e' => hd d' (by rw [e]; exact e'))).mp z
            cases this)]
          rfl
      · show f_X8_shortest τ (nI a) (nI b) = _
        unfold f_X8_shortest
        rw [isRouter_y r0 (by omega) ha, p_cl, if_neg ne10, isRouter_y r0 (by omega) hb, p_cl, if_neg ne10, p1, p_cl]
    · refine simN_same h (r := -1) ?_ ?_
      · show f_X7_shortest σ (nI a) x2 = _
        unfold f_X7_shortest
        rw [noRouter_y v3 (by omega) ha, p_cl, if_pos rfl, noRouter_n v3 (by omega) i2, p_cl, if_neg ne10]
      · show f_X8_shortest τ (nI a) x2 = _
        unfold f_X8_shortest
        rw [isRouter_y r0 (by omega) ha, p_cl, if_neg ne10, isRouter_n r0 (by omega) i2, p_cl, if_pos rfl]
  · refine simN_same h (r := -1) ?_ ?_
    · show f_X7_shortest σ x1 x2 = _
      unfold f_X7_shortest
      rw [noRouter_n v3 (by omega) i1, p_cl, if_neg ne10]
    · show f_X8_shortest τ x1 x2 = _
      unfold f_X8_shortest
      rw [isRouter_n r0 (by omega) i1, p_cl, if_pos rfl]
/-! needed links -/
theorem N_neededLinks : simN f_X7_neededLinks f_X8_needed := fun n m K σ τ h => by
  have hL := h.1
  have hn := hL.1
  have hm := hL.2.1
  obtain ⟨σ2, xs2, ⟨acc, τ2, e1, e2, e3, e4⟩, e5⟩ := q_run (D := D_X7_neededLinks) (i := 0) (I := fun k σc xs => ∃ (acc : Int32) (τc : qM), xs = [acc, nI k] ∧ q_lim D_X8_needed 0 τ [0, 0] = q_lim D_X8_needed 0 τc [acc, nI k] ∧ (∀ j, j ≠ 88 → σc j = σ j) ∧ ∀ j, j ≠ 13 → τc j = τ j) m (fun k σc xs hk hI => by
    obtain ⟨acc, τc, rfl, g2, g3, g4⟩ := hI
    have hc := RNp_88 h g3 g4
    have hLc := hc.1
    obtain ⟨a, b, c, w1, w2, w3, w4, w5, w6, w7, w8, w9, w10, w11, w12⟩ := hLc.2.2.2.2.2.2.2.2.2.2.2.2.1 k hk
    have w6 : σc 17 k = nI a := w6
    have w8 : σc 18 k = nI b := w8
    have w11 : σc 20 k = τc 1 (100 + k) := w11
    have v5 : σc 16 5 = nI m := hLc.2.2.2.2.2.1
    have r1 : τc 1 1 = nI m := hLc.2.2.2.2.1
    obtain ⟨W', σd, q1, q2, q3, q4⟩ := measureV hc (a := a) (by omega) (nI k)
    obtain ⟨τd, p1, p2⟩ := shortR hLc (a := a) (b := b) (by omega) (by omega) (nI k)
    obtain ⟨o, ho⟩ : ∃ o, o = pasG (τc 1) (nI k) m 10 (g0 a) b := ⟨_, rfl⟩
    have hd : ∀ d, o = some d → d ≤ 150 := fun d e => bnd_le (pas_bnd hLc 10 (g0_bnd a)) (v := b) (by omega) (by rw [← ho]; exact e)
    have p1 : f_X8_shortestBut τc (nI a) (nI b) (nI k) = some (shI o, τd) := by rw [p1, ho]; rfl
    have hsh : shI o = -2 ↔ o = none := by
      cases e : o with
      | none => exact ⟨fun _ => rfl, fun _ => rfl⟩
      | some d =>
        have := hd d e
        refine ⟨fun z => ?_, fun z => by cases z⟩
        have z : nI d = -2 := z
        have y := nI_pos' (n := d) (by omega)
        rw [z] at y
        exact absurd y (by decide)
    have V : ∀ go : qB, D_X7_neededLinks go 0 σc [acc, nI k] = (if τc 1 (100 + k) = 1 then (if nI (dn o) = 1000000 then go 0 σd [acc + 1, nI (k + 1)] else go 0 σd [acc, nI (k + 1)]) else go 0 σc [acc, nI (k + 1)]) := fun go => by
      show b_X7_neededLinks_4 go σc acc (nI k) = _
      unfold b_X7_neededLinks_4
      simp only [p_nm]
      rw [v5, if_neg (nI_ge hk (by omega)), q_rd_n (by omega) (by decide), w11, q_rd_n (by omega) (by decide), w6, q1, p_cl, q2, q_rd_n (by omega) (by decide), q4 18 (by decide), w8, q_rd_n (by omega) (by decide), q3 b (by omega), ← ho, nI_1]
    have R : ∀ go : qB, D_X8_needed go 0 τc [acc, nI k] = (if τc 1 (100 + k) = 1 then (if shI o = -2 then go 0 τd [acc + 1, nI (k + 1)] else go 0 τd [acc, nI (k + 1)]) else go 0 τc [acc, nI (k + 1)]) := fun go => by
      show b_X8_needed_4 go τc acc (nI k) = _
      unfold b_X8_needed_4
      simp only [p_nm]
      rw [rd1_1, r1, if_neg (nI_ge hk (by omega)), a100, q_rd_n (by omega) (by decide), a10, q_rd_n (by omega) (by decide), a40, q_rd_n (by omega) (by decide), w5, w7, p1, p_cl, nI_1]
    by_cases z : τc 1 (100 + k) = 1
    · by_cases z2 : o = none
      · exact ⟨σd, _, ⟨acc + 1, τd, rfl, by rw [g2]; exact q_lim_eq (fun go => by rw [R go, if_pos z, if_pos (hsh.mpr z2)]), fun j hj => (q4 j hj).trans (g3 j hj), fun j hj => (p2 j hj).trans (g4 j hj)⟩, q_lim_eq (fun go => by rw [V go, if_pos z, if_pos ((far_i hd).mpr z2)])⟩
      · exact ⟨σd, _, ⟨acc, τd, rfl, by rw [g2]; exact q_lim_eq (fun go => by rw [R go, if_pos z, if_neg (fun y => z2 (hsh.mp y))]), fun j hj => (q4 j hj).trans (g3 j hj), fun j hj => (p2 j hj).trans (g4 j hj)⟩, q_lim_eq (fun go => by rw [V go, if_pos z, if_neg (fun y => z2 ((far_i hd).mp y))])⟩
    · exact ⟨σc, _, ⟨acc, τc, rfl, by rw [g2]; exact q_lim_eq (fun go => by rw [R go, if_neg z]), g3, g4⟩, q_lim_eq (fun go => by rw [V go, if_neg z])⟩) m 0 σ [0, nI 0] (by omega) ⟨0, τ, rfl, rfl, fun _ _ => rfl, fun _ _ => rfl⟩
  have hc := RNp_88 h e3 e4
  refine ⟨acc, σ2, τ2, n, m, K, ?_, ?_, hc, frV_88 e3, frR_13 e4⟩
  · show q_lim D_X7_neededLinks 0 σ [0, nI 0] = _
    rw [e5, e1]
    refine q_lim_ret (fun go => ?_)
    show b_X7_neededLinks_4 go σ2 acc (nI m) = _
    unfold b_X7_neededLinks_4
    simp only [p_nm]
    rw [show σ2 16 5 = nI m from hc.1.2.2.2.2.2.1, if_pos (nI_le (Nat.le_refl _) (by omega))]
  · show q_lim D_X8_needed 0 τ [0, 0] = _
    rw [e2]
    refine q_lim_ret (fun go => ?_)
    show b_X8_needed_4 go τ2 acc (nI m) = _
    unfold b_X8_needed_4
    rw [rd1_1, hc.1.2.2.2.2.1, if_pos (nI_le (Nat.le_refl _) (by omega))]
