/-! count -/
def RTp (σ τ : qM) : Prop := ∃ L : Nat, L ≤ 120 ∧ σ 89 1 = nI L ∧ τ 0 17 = nI L ∧ ∀ i, i < L → σ 90 i = τ 14 i
theorem howMany0 (T : qM) : f_X4_howMany T 0 = some (nI (cntN (fun c => !decide (T 1 c = -1)) 100), T) := by
  obtain ⟨T', xs', ⟨e1, e2⟩, e3⟩ := q_run (D := D_X4_howMany) (i := 0) (I := fun k σ xs => xs = [0, nI (cntN (fun c => !decide (T 1 c = -1)) k), nI k] ∧ σ = T) 100 (fun k σ xs hk hI => by
    obtain ⟨rfl, rfl⟩ := hI
    refine ⟨σ, _, ⟨rfl, rfl⟩, q_lim_eq (fun go => ?_)⟩
    show b_X4_howMany_4 go σ 0 (nI (cntN (fun c => !decide (σ 1 c = -1)) k)) (nI k) = _
    unfold b_X4_howMany_4
    simp only [p_nmx]
    rw [if_neg (show ¬ (100 : Int32) ≤ nI k from nI_ge (b := 100) hk (by decide)), if_pos (show True from trivial), hasS hk, p_cl]
    by_cases c : σ 1 k = -1
    · have ho : (!decide (σ 1 k = -1)) = false := by rw [decide_eq_true c]; rfl
      rw [if_pos c, if_pos rfl, nI_1, cntN_n (P := fun c => !decide (σ 1 c = -1)) ho]
    · have ho : (!decide (σ 1 k = -1)) = true := by rw [decide_eq_false c]; rfl
      rw [if_neg c, if_neg ne10, nI_1, nI_1, cntN_s (P := fun c => !decide (σ 1 c = -1)) ho]) 100 0 T [0, nI 0, nI 0] (by decide) ⟨rfl, rfl⟩
  show q_lim D_X4_howMany 0 T [0, nI 0, nI 0] = _
  rw [e3, e1, e2]
  refine q_lim_ret (fun go => ?_)
  show b_X4_howMany_4 go T 0 _ (nI 100) = _
  unfold b_X4_howMany_4
  rw [if_pos (show (100 : Int32) ≤ nI 100 from nI_le (a := 100) (Nat.le_refl _) (by decide))]
theorem howMany1 (T : qM) : f_X4_howMany T 1 = some (nI (cntN (fun c => decide (T 1 c = 16)) 100), T) := by
  obtain ⟨T', xs', ⟨e1, e2⟩, e3⟩ := q_run (D := D_X4_howMany) (i := 0) (I := fun k σ xs => xs = [1, nI (cntN (fun c => decide (T 1 c = 16)) k), nI k] ∧ σ = T) 100 (fun k σ xs hk hI => by
    obtain ⟨rfl, rfl⟩ := hI
    refine ⟨σ, _, ⟨rfl, rfl⟩, q_lim_eq (fun go => ?_)⟩
    show b_X4_howMany_4 go σ 1 (nI (cntN (fun c => decide (σ 1 c = 16)) k)) (nI k) = _
    unfold b_X4_howMany_4
    simp only [p_nmx]
    rw [if_neg (show ¬ (100 : Int32) ≤ nI k from nI_ge (b := 100) hk (by decide)), if_neg ne10, q_rd_n hk (by decide)]
    by_cases c : σ 1 k = 16
    · rw [if_pos c, nI_1, nI_1, cntN_s (P := fun c => decide (σ 1 c = 16)) (decide_eq_true c)]
    · rw [if_neg c, nI_1, cntN_n (P := fun c => decide (σ 1 c = 16)) (decide_eq_false c)]) 100 0 T [1, nI 0, nI 0] (by decide) ⟨rfl, rfl⟩
  show q_lim D_X4_howMany 0 T [1, nI 0, nI 0] = _
  rw [e3, e1, e2]
  refine q_lim_ret (fun go => ?_)
  show b_X4_howMany_4 go T 1 _ (nI 100) = _
  unfold b_X4_howMany_4
  rw [if_pos (show (100 : Int32) ≤ nI 100 from nI_le (a := 100) (Nat.le_refl _) (by decide))]
theorem D_count_1 (go : qB) (τ : qM) (a b : Int32) : D_X8_count go 1 τ [a, b] = b_X8_count_100 go τ a b := by
  unfold D_X8_count
  exact (if_neg (show ¬ (1 : Nat) = 0 by decide)).trans (if_pos (show (1 : Nat) = 1 from rfl))
theorem D_count_2 (go : qB) (τ : qM) (a b : Int32) : D_X8_count go 2 τ [a, b] = b_X8_count_148 go τ a b := by
  unfold D_X8_count
  exact (if_neg (show ¬ (2 : Nat) = 0 by decide)).trans ((if_neg (show ¬ (2 : Nat) = 1 by decide)).trans (if_pos (show (2 : Nat) = 2 from rfl)))
theorem D_count_3 (go : qB) (τ : qM) (a b : Int32) : D_X8_count go 3 τ [a, b] = b_X8_count_221 go τ a b := by
  unfold D_X8_count
  exact (if_neg (show ¬ (3 : Nat) = 0 by decide)).trans ((if_neg (show ¬ (3 : Nat) = 1 by decide)).trans ((if_neg (show ¬ (3 : Nat) = 2 by decide)).trans (if_pos (show (3 : Nat) = 3 from rfl))))
theorem D_count_4 (go : qB) (τ : qM) (a b c : Int32) : D_X8_count go 4 τ [a, b, c] = b_X8_count_161 go τ a b c := by
  unfold D_X8_count
  exact (if_neg (show ¬ (4 : Nat) = 0 by decide)).trans ((if_neg (show ¬ (4 : Nat) = 1 by decide)).trans ((if_neg (show ¬ (4 : Nat) = 2 by decide)).trans ((if_neg (show ¬ (4 : Nat) = 3 by decide)).trans (if_pos (show (4 : Nat) = 4 from rfl)))))
theorem cntN_t (k : Nat) : cntN (fun _ => true) k = k := by
  induction k with
  | zero => rfl
  | succ k ih => rw [cntN_s rfl, ih]
theorem count3 {n m : Nat} {K : Nat → Nat} {σ τ : qM} (h : RNp n m K (q_sub 1 σ) (τ 1)) : ∃ r : Int32, f_X4_howMany (q_sub 2 σ) 0 = some (r, q_sub 2 σ) ∧ q_lim D_X8_count 1 τ [0, 0] = some (r, τ) := by
  have hn := h.1.1
  have hT := h.2.2
  have r0 : τ 1 0 = nI n := h.1.2.2.1
  have e : cntN (fun c => !decide (q_sub 2 σ 1 c = -1)) 100 = sumN (fun r => cntN (fun _ => true) (K r)) n := cells_pos (n := n) (K := K) (net := q_sub 1 σ) (s := τ 1) hn hT (fun c => !decide (q_sub 2 σ 1 c = -1)) (fun _ _ => true) (fun c hc hu => by
    have hu : q_sub 2 σ 1 c = -1 := hu
    show (!decide (q_sub 2 σ 1 c = -1)) = false
    rw [decide_eq_true hu]; rfl) (fun r k d hr hk hd hs hm => by
    obtain ⟨d', v, x, a1, a2, a3, a4, a5, a6, a7, -⟩ := hT.2.2.2.2.1 r k hr hk
    have hm : q_sub 2 σ 1 (10 * r + d) = τ 1 (250 + (10 * r + k)) := hm
    show (!decide (q_sub 2 σ 1 (10 * r + d) = -1)) = true
    rw [hm, a6, decide_eq_false (p_ne1 (by omega))]; rfl)
  refine ⟨nI (sumN (fun r => K r) n), ?_, ?_⟩
  · rw [howMany0, e, sumN_cong (f := fun r => cntN (fun _ => true) (K r)) (g := fun r => K r) (fun r _ => cntN_t (K r))]
  · obtain ⟨τ2, xs2, ⟨e1, e2⟩, e3⟩ := q_run (D := D_X8_count) (i := 1) (I := fun k σc xs => xs = [nI (sumN (fun r => K r) k), nI k] ∧ σc = τ) n (fun k σc xs hk hI => by
      obtain ⟨rfl, rfl⟩ := hI
      refine ⟨σc, _, ⟨rfl, rfl⟩, q_lim_eq (fun go => ?_)⟩
      rw [D_count_1]
      unfold b_X8_count_100
      simp only [p_nmx]
      rw [rd1_0, r0, if_neg (nI_ge hk (by omega)), a130, q_rd_n (by omega) (by decide), (hT.1 k (by omega)).1, nI_add, nI_1]
      rfl) n 0 τ [nI 0, nI 0] (by omega) ⟨rfl, rfl⟩
    show q_lim D_X8_count 1 τ [nI 0, nI 0] = _
    rw [e3, e1, e2]
    refine q_lim_ret (fun go => ?_)
    rw [D_count_1]
    unfold b_X8_count_100
    rw [rd1_0, r0, if_pos (nI_le (Nat.le_refl _) (by omega))]
theorem count6 {n m : Nat} {K : Nat → Nat} {σ τ : qM} (h : RNp n m K (q_sub 1 σ) (τ 1)) : ∃ r : Int32, f_X4_howMany (q_sub 2 σ) 1 = some (r, q_sub 2 σ) ∧ q_lim D_X8_count 2 τ [0, 0] = some (r, τ) := by
  have hn := h.1.1
  have hT := h.2.2
  have r0 : τ 1 0 = nI n := h.1.2.2.1
  have e : cntN (fun c => decide (q_sub 2 σ 1 c = 16)) 100 = sumN (fun r => cntN (fun k => decide (τ 1 (250 + (10 * r + k)) = 16)) (K r)) n := cells_pos (n := n) (K := K) (net := q_sub 1 σ) (s := τ 1) hn hT (fun c => decide (q_sub 2 σ 1 c = 16)) (fun r k => decide (τ 1 (250 + (10 * r + k)) = 16)) (fun c hc hu => by
    have hu : q_sub 2 σ 1 c = -1 := hu
    show decide (q_sub 2 σ 1 c = 16) = false
    rw [hu]; decide) (fun r k d hr hk hd hs hm => by
    have hm : q_sub 2 σ 1 (10 * r + d) = τ 1 (250 + (10 * r + k)) := hm
    show decide (q_sub 2 σ 1 (10 * r + d) = 16) = decide (τ 1 (250 + (10 * r + k)) = 16)
    rw [hm])
  refine ⟨nI (sumN (fun r => cntN (fun k => decide (τ 1 (250 + (10 * r + k)) = 16)) (K r)) n), ?_, ?_⟩
  · rw [howMany1, e]
  · obtain ⟨τ2, xs2, ⟨e1, e2⟩, e3⟩ := q_run (D := D_X8_count) (i := 2) (I := fun r σc xs => xs = [nI (sumN (fun r => cntN (fun k => decide (τ 1 (250 + (10 * r + k)) = 16)) (K r)) r), nI r] ∧ σc = τ) n (fun r σc xs hr hI => by
      obtain ⟨rfl, rfl⟩ := hI
      have lk := Nat.le_trans (hT.le hn (r := r) (by omega)) hn
      obtain ⟨acc, hacc⟩ : ∃ z, z = sumN (fun r => cntN (fun k => decide (σc 1 (250 + (10 * r + k)) = 16)) (K r)) r := ⟨_, rfl⟩
      have hsucc : sumN (fun r => cntN (fun k => decide (σc 1 (250 + (10 * r + k)) = 16)) (K r)) (r + 1) = acc + cntN (fun k => decide (σc 1 (250 + (10 * r + k)) = 16)) (K r) := by rw [hacc]; rfl
      rw [← hacc, hsucc]
      obtain ⟨σ4, xs4, ⟨p1, p2⟩, p3⟩ := q_run (D := D_X8_count) (i := 4) (I := fun k σ1 xs => xs = [nI (acc + cntN (fun k => decide (σc 1 (250 + (10 * r + k)) = 16)) k), nI r, nI k] ∧ σ1 = σc) (K r) (fun k σ1 xs hk hI => by
        obtain ⟨rfl, rfl⟩ := hI
        refine ⟨σ1, _, ⟨rfl, rfl⟩, q_lim_eq (fun go => ?_)⟩
        rw [D_count_4]
        unfold b_X8_count_161
        simp only [p_nmx]
        rw [a130, q_rd_n (by omega) (by decide), (hT.1 r (by omega)).1, if_neg (nI_ge hk (by omega)), p_10m, a250, nI_add, q_rd_n (by omega) (by decide), Nat.add_assoc]
        by_cases c : σ1 1 (250 + (10 * r + k)) = 16
        · rw [if_pos c, nI_1, nI_1, cntN_s (P := fun k => decide (σ1 1 (250 + (10 * r + k)) = 16)) (decide_eq_true c), Nat.add_assoc]
        · rw [if_neg c, nI_1, cntN_n (P := fun k => decide (σ1 1 (250 + (10 * r + k)) = 16)) (decide_eq_false c)]) (K r) 0 σc [nI acc, nI r, nI 0] (by omega) ⟨rfl, rfl⟩
      subst p2
      refine ⟨σ4, _, ⟨rfl, rfl⟩, ?_⟩
      rw [q_lim_eq (j := 4) (τ := σ4) (ys := [nI acc, nI r, nI 0]) (fun go => ?_), p3, p1]
      · refine q_lim_eq (fun go => ?_)
        rw [D_count_4]
        unfold b_X8_count_161
        simp only [p_nmx]
        rw [a130, q_rd_n (by omega) (by decide), (hT.1 r (by omega)).1, if_pos (nI_le (Nat.le_refl _) (by omega)), nI_1]
      · rw [D_count_2]
        unfold b_X8_count_148
        rw [rd1_0, r0, if_neg (nI_ge hr (by omega))]
        rfl) n 0 τ [nI 0, nI 0] (by omega) ⟨rfl, rfl⟩
    show q_lim D_X8_count 2 τ [nI 0, nI 0] = _
    rw [e3, e1, e2]
    refine q_lim_ret (fun go => ?_)
    rw [D_count_2]
    unfold b_X8_count_148
    rw [rd1_0, r0, if_pos (nI_le (Nat.le_refl _) (by omega))]
theorem count8 {σ τ : qM} (hH : RH σ τ) : ∃ r : Int32, f_X7_fullHolders σ = some (r, σ) ∧ q_lim D_X8_count 3 τ [0, 0] = some (r, τ) := by
  obtain ⟨σ2, xs2, ⟨acc, e1, e2, e3⟩, e4⟩ := q_run (D := D_X7_fullHolders) (i := 0) (I := fun k σc xs => ∃ acc : Int32, xs = [acc, nI k] ∧ q_lim D_X8_count 3 τ [0, 0] = q_lim D_X8_count 3 τ [acc, nI k] ∧ σc = σ) 6 (fun k σc xs hk hI => by
    obtain ⟨acc, rfl, g2, rfl⟩ := hI
    have V : ∀ go : qB, D_X7_fullHolders go 0 σc [acc, nI k] = if σc (94 + 2 * k) 0 = 0 then go 0 σc [acc, nI (k + 1)] else go 0 σc [acc + 1, nI (k + 1)] := fun go => by
      show b_X7_fullHolders_4 go σc acc (nI k) = _
      unfold b_X7_fullHolders_4
      simp only [p_nmx]
      rw [if_neg (show ¬ (6 : Int32) ≤ nI k from nI_ge (b := 6) hk (by decide)), q_gd_n hk (by decide), nI_clamp (by omega), nI_1]
    have R : ∀ go : qB, D_X8_count go 3 τ [acc, nI k] = if τ 18 k = -2 then go 3 τ [acc, nI (k + 1)] else go 3 τ [acc + 1, nI (k + 1)] := fun go => by
      rw [D_count_3]
      unfold b_X8_count_221
      simp only [p_nmx]
      rw [if_neg (show ¬ (6 : Int32) ≤ nI k from nI_ge (b := 6) hk (by decide)), q_rd_n hk (by decide), nI_1]
    rcases hH k hk with ⟨u, b⟩ | ⟨u, b, -⟩ | ⟨u, L, c1, c2, c3, c4⟩
    · exact ⟨σc, [acc, nI (k + 1)], ⟨acc, rfl, g2.trans (q_lim_eq (fun go => by rw [R go, if_pos b])), rfl⟩, q_lim_eq (fun go => by rw [V go, if_pos u])⟩
    · exact ⟨σc, [acc + 1, nI (k + 1)], ⟨acc + 1, rfl, g2.trans (q_lim_eq (fun go => by rw [R go, if_neg (show ¬ τ 18 k = -2 by rw [b]; decide)])), rfl⟩, q_lim_eq (fun go => by rw [V go, if_neg (show ¬ σc (94 + 2 * k) 0 = 0 by rw [u]; decide)])⟩
    · exact ⟨σc, [acc + 1, nI (k + 1)], ⟨acc + 1, rfl, g2.trans (q_lim_eq (fun go => by rw [R go, if_neg (show ¬ τ 18 k = -2 from fun z => nI_pos (n := L) (by omega) (by rw [← c3, z]; decide))])), rfl⟩, q_lim_eq (fun go => by rw [V go, if_neg (show ¬ σc (94 + 2 * k) 0 = 0 by rw [u]; decide)])⟩) 6 0 σ [0, nI 0] (by decide) ⟨0, rfl, rfl, rfl⟩
  refine ⟨acc, ?_, ?_⟩
  · show q_lim D_X7_fullHolders 0 σ [0, nI 0] = _
    rw [e4, e1, e3]
    refine q_lim_ret (fun go => ?_)
    show b_X7_fullHolders_4 go σ acc (nI 6) = _
    unfold b_X7_fullHolders_4
    rw [if_pos (show (6 : Int32) ≤ nI 6 from nI_le (a := 6) (Nat.le_refl _) (by decide))]
  · rw [e2]
    refine q_lim_ret (fun go => ?_)
    rw [D_count_3]
    unfold b_X8_count_221
    rw [if_pos (show (6 : Int32) ≤ nI 6 from nI_le (a := 6) (Nat.le_refl _) (by decide))]
theorem count_sim {n m : Nat} {K : Nat → Nat} {σ τ : qM} (h : RNp n m K (q_sub 1 σ) (τ 1)) (hH : RH σ τ) (hB : RTp σ τ) (x1 : Int32) : ∃ r : Int32, f_X7_count σ x1 = some (r, σ) ∧ f_X8_count τ x1 = some (r, τ) := by
  have hL := h.1
  have v3 : σ 1 3 = nI n := hL.2.2.2.1
  have r0 : τ 1 0 = nI n := hL.2.2.1
  have r1 : τ 1 1 = nI m := hL.2.2.2.2.1
  have v5 : σ 16 5 = nI m := hL.2.2.2.2.2.1
  have v7 : σ 1 7 = τ 1 5 := hL.2.2.2.2.2.2.2.2.2.2.2.1
  have v8 : σ 1 8 = τ 1 6 := h.2.1
  obtain ⟨L, l1, l2, l3, l4⟩ := hB
  have V0 : f_X7_count σ x1 = (if x1 = 0 then some (σ 1 3, σ) else if x1 = 1 then some (σ 16 5, σ) else if x1 = 2 then (q_cl (f_X2_howManyUp (q_sub 16 σ)) (q_put 16 6 σ) fun x s => some (x, s)) else if x1 = 3 then (q_cl (f_X4_howMany (q_sub 2 σ) 0) (q_put 2 7 σ) fun x s => some (x, s)) else if x1 = 4 then some (σ 1 7, σ) else if x1 = 5 then some (σ 1 8, σ) else if x1 = 6 then (q_cl (f_X4_howMany (q_sub 2 σ) 1) (q_put 2 7 σ) fun x s => some (x, s)) else if x1 = 7 then some (σ 89 1, σ) else if x1 = 8 then (q_cl (f_X7_fullHolders σ) (fun τ => τ) fun x s => some (x, s)) else some (-1, σ)) := by
    unfold f_X7_count
    simp only [p_nmx]
  have R0 : f_X8_count τ x1 = (if x1 = 0 then some (τ 1 0, τ) else if x1 = 1 then some (τ 1 1, τ) else if x1 = 2 then q_lim D_X8_count 0 τ [0, 0] else if x1 = 3 then q_lim D_X8_count 1 τ [0, 0] else if x1 = 4 then some (τ 1 5, τ) else if x1 = 5 then some (τ 1 6, τ) else if x1 = 6 then q_lim D_X8_count 2 τ [0, 0] else if x1 = 7 then some (τ 0 17, τ) else if x1 = 8 then q_lim D_X8_count 3 τ [0, 0] else some (-1, τ)) := by
    unfold f_X8_count e_X8_count
    simp only [p_nmx]
    rw [rd1_0, rd1_1, rd1_5, rd1_6]
  by_cases y0 : x1 = 0
  · rw [if_pos y0] at V0 R0
    exact ⟨_, V0, by rw [R0, v3, r0]⟩
  rw [if_neg y0] at V0 R0
  by_cases y1 : x1 = 1
  · rw [if_pos y1] at V0 R0
    exact ⟨_, V0, by rw [R0, v5, r1]⟩
  rw [if_neg y1] at V0 R0
  by_cases y2 : x1 = 2
  · rw [if_pos y2] at V0 R0
    obtain ⟨r, u1, u2⟩ := countUp h
    exact ⟨r, by rw [V0, u1, p_cl, p_put_sub], R0.trans u2⟩
  rw [if_neg y2] at V0 R0
  by_cases y3 : x1 = 3
  · rw [if_pos y3] at V0 R0
    obtain ⟨r, u1, u2⟩ := count3 h
    exact ⟨r, by rw [V0, u1, p_cl, p_put_sub], R0.trans u2⟩
  rw [if_neg y3] at V0 R0
  by_cases y4 : x1 = 4
  · rw [if_pos y4] at V0 R0
    exact ⟨_, V0, by rw [R0, v7]⟩
  rw [if_neg y4] at V0 R0
  by_cases y5 : x1 = 5
  · rw [if_pos y5] at V0 R0
    exact ⟨_, V0, by rw [R0, v8]⟩
  rw [if_neg y5] at V0 R0
  by_cases y6 : x1 = 6
  · rw [if_pos y6] at V0 R0
    obtain ⟨r, u1, u2⟩ := count6 h
    exact ⟨r, by rw [V0, u1, p_cl, p_put_sub], R0.trans u2⟩
  rw [if_neg y6] at V0 R0
  by_cases y7 : x1 = 7
  · rw [if_pos y7] at V0 R0
    exact ⟨_, V0, by rw [R0, l2, l3]⟩
  rw [if_neg y7] at V0 R0
  by_cases y8 : x1 = 8
  · rw [if_pos y8] at V0 R0
    obtain ⟨r, u1, u2⟩ := count8 hH
    exact ⟨r, by rw [V0, u1, p_cl], R0.trans u2⟩
  rw [if_neg y8] at V0 R0
  exact ⟨_, V0, R0⟩
