/-! one entry; one known router -/
theorem nI_subl (a b : Nat) : nI (a + b) - nI a = nI b := by rw [← nI_add, Int32.add_comm, Int32.add_sub_cancel]
theorem placeS {T : qM} {r k0 : Nat} {x : Int32} (hr : r < 10) (hk : k0 ≤ 10) (hK : T 6 r = nI k0) : f_X4_placeOf T (nI r) x = some (match q_find (fun k => decide (T 5 (10 * r + k) = x)) k0 0 with | some j => nI j | none => -2, T) := by
  have h := q_search (D := D_X4_placeOf) (i := 0) (τ := T) (P := fun k => decide (T 5 (10 * r + k) = x)) (m := k0) (fun k => [nI r, x, nI k]) (fun k => (nI k, T)) (-2, T) (fun go => ?_) (fun k hk1 hp go => ?_) (fun k hk1 hp go => ?_) k0 0 (by omega)
  · show q_lim D_X4_placeOf 0 T [nI r, x, nI 0] = _
    rw [h]
    cases q_find (fun k => decide (T 5 (10 * r + k) = x)) k0 0 <;> rfl
  · show b_X4_placeOf_2 go T (nI r) x (nI k0) = _
    unfold b_X4_placeOf_2
    rw [q_rd_n hr (by decide), hK, if_pos (nI_le (Nat.le_refl _) (by omega))]
  · have hp := of_decide_eq_true hp
    show b_X4_placeOf_2 go T (nI r) x (nI k) = _
    unfold b_X4_placeOf_2
    simp only [p_nm]
    rw [q_rd_n hr (by decide), hK, if_neg (nI_ge hk1 (by omega)), p_cell, q_rd_n (by omega) (by decide), if_pos hp]
  · have hp := of_decide_eq_false hp
    show b_X4_placeOf_2 go T (nI r) x (nI k) = _
    unfold b_X4_placeOf_2
    simp only [p_nm]
    rw [q_rd_n hr (by decide), hK, if_neg (nI_ge hk1 (by omega)), p_cell, q_rd_n (by omega) (by decide), if_neg hp, nI_1]
theorem N_entry (x1 x2 x3 : Int32) : simN (fun σ => f_X7_entry σ x1 x2 x3) (fun τ => f_X8_entry τ x1 x2 x3) := fun n m K σ τ h => by
  have hL := h.1
  have hn := hL.1
  have v3 : σ 1 3 = nI n := hL.2.2.2.1
  have r0 : τ 1 0 = nI n := hL.2.2.1
  by_cases i1 : isN n x1
  · obtain ⟨a, ha, rfl⟩ := i1
    by_cases i2 : isN n x2
    · obtain ⟨b, hb, rfl⟩ := i2
      by_cases i3 : (0 : Int32) ≤ x3 ∧ x3 ≤ 4
      · have hT := h.2.2
        have lk := Nat.le_trans (hT.le hn (r := a) (by omega)) hn
        have hp : q_put 2 7 σ (q_sub 2 σ) = σ := p_put_sub 2 7 σ
        have R0 : f_X8_entry τ (nI a) (nI b) x3 = (if (0 : Int32) ≤ eo a (ef (τ 1) a (K a) (nI b)) then (if x3 = 0 then q_rd τ 1 650 (250 + eo a (ef (τ 1) a (K a) (nI b))) fun x => some (x, τ) else if x3 = 1 then q_rd τ 1 650 (350 + eo a (ef (τ 1) a (K a) (nI b))) fun x => some (x, τ) else if x3 = 2 then q_rd τ 1 650 (450 + eo a (ef (τ 1) a (K a) (nI b))) fun x => some (x, τ) else if x3 = 3 then q_rd τ 1 650 (550 + eo a (ef (τ 1) a (K a) (nI b))) fun x => some (x, τ) else some (eo a (ef (τ 1) a (K a) (nI b)) - 10 * nI a, τ)) else some (-2, τ)) := by
          unfold f_X8_entry
          simp only [p_nm]
          rw [isRouter_y r0 (by omega) ha, p_cl, if_neg ne10, isRouter_y r0 (by omega) hb, p_cl, if_neg ne10, inS, p_cl, if_pos i3, if_neg ne10, entryOfS (by omega) lk (hT.1 a (by omega)).1, p_cl]
        have V0 : f_X7_entry σ (nI a) (nI b) x3 = (if (if σ 3 (10 * a + b) = -1 then (0 : Int32) else 1) = 0 then some (-2, σ) else (if x3 = 0 then q_rd σ 3 100 (nI (10 * a + b)) fun x => some (x, σ) else if x3 = 1 then q_rd σ 4 100 (nI (10 * a + b)) fun x => some (x, σ) else if x3 = 2 then q_rd σ 5 100 (nI (10 * a + b)) fun x => some (x, σ) else if x3 = 3 then q_rd σ 6 100 (nI (10 * a + b)) fun x => some (x, σ) else (q_cl (f_X4_placeOf (q_sub 2 σ) (nI a) (nI b)) (q_put 2 7 σ) fun x26 s25 => some (x26, s25)))) := by
          unfold f_X7_entry
          simp only [p_nm]
          rw [noRouter_y v3 (by omega) ha, p_cl, if_pos rfl, noRouter_y v3 (by omega) hb, p_cl, if_pos rfl, if_neg (i_nlt.mpr i3.1), if_pos i3.2, p_cell, hasS (by omega), p_cl, hp]
          rfl
        rcases hT.cell hn (r := a) (d := b) (by omega) (by omega) with ⟨c1, c2⟩ | ⟨k, v, x, k1, k2, k3, k4, k5, k6, k7, k8, k9, k10, k11, k12⟩
        · have c2 : σ 3 (10 * a + b) = -1 := c2
          rw [if_pos c2, if_pos rfl] at V0
          rw [ef_none c1, show eo a none = -1 from rfl, if_neg (show ¬ (0 : Int32) ≤ -1 by decide)] at R0
          exact simN_same h V0 R0
        · have k8 : σ 3 (10 * a + b) = nI x := k8
          have k10 : σ 4 (10 * a + b) = nI v := k10
          have k11 : σ 5 (10 * a + b) = τ 1 (450 + (10 * a + k)) := k11
          have k12 : σ 6 (10 * a + b) = τ 1 (550 + (10 * a + k)) := k12
          rw [k8, if_neg (p_ne1 (by omega)), if_neg ne10, q_rd_n (by omega) (by decide), q_rd_n (by omega) (by decide), q_rd_n (by omega) (by decide), q_rd_n (by omega) (by decide), k8, k10, k11, k12] at V0
          rw [ef_some hT (by omega) k1 k5, if_pos (show (0 : Int32) ≤ eo a (some k) from nI_pos' (n := 10 * a + k) (by omega))] at R0
          have e : eo a (some k) = nI (10 * a + k) := rfl
          rw [e, a250, a350, a450, a550, q_rd_n (by omega) (by decide), q_rd_n (by omega) (by decide), q_rd_n (by omega) (by decide), q_rd_n (by omega) (by decide), k7, k9, p_10m, nI_subl] at R0
          by_cases y0 : x3 = 0
          · rw [if_pos y0] at V0 R0; exact simN_same h V0 R0
          · rw [if_neg y0] at V0 R0
            by_cases y1 : x3 = 1
            · rw [if_pos y1] at V0 R0; exact simN_same h V0 R0
            · rw [if_neg y1] at V0 R0
              by_cases y2 : x3 = 2
              · rw [if_pos y2] at V0 R0; exact simN_same h V0 R0
              · rw [if_neg y2] at V0 R0
                by_cases y3 : x3 = 3
                · rw [if_pos y3] at V0 R0; exact simN_same h V0 R0
                · rw [if_neg y3] at V0 R0
                  have pf : q_find (fun k => decide (q_sub 2 σ 5 (10 * a + k) = nI b)) (K a) 0 = some k := by
                    rw [show some k = ef (τ 1) a (K a) (nI b) from (ef_some hT (by omega) k1 k5).symm]
                    refine q_find_congr (fun i _ hi => ?_)
                    obtain ⟨d, v', x', u1, u2, u3, u4, u5, -⟩ := hT.2.2.2.2.1 a i (by omega) (by omega)
                    have u5 : q_sub 2 σ 5 (10 * a + i) = nI d := u5
                    rw [u5, u4]
                  have p1 : f_X4_placeOf (q_sub 2 σ) (nI a) (nI b) = some (nI k, q_sub 2 σ) := by
                    rw [placeS (k0 := K a) (by omega) lk (hT.1 a (by omega)).2, pf]
                  rw [p1, p_cl, hp] at V0
                  exact simN_same h V0 R0
      · refine simN_same h (r := -1) ?_ ?_
        · show f_X7_entry σ (nI a) (nI b) x3 = _
          unfold f_X7_entry
          rw [noRouter_y v3 (by omega) ha, p_cl, if_pos rfl, noRouter_y v3 (by omega) hb, p_cl, if_pos rfl]
          by_cases w : x3 < 0
          · rw [if_pos w]
          · rw [if_neg w, if_neg (fun z => i3 ⟨i_nlt.mp w, z⟩)]
        · show f_X8_entry τ (nI a) (nI b) x3 = _
          unfold f_X8_entry
          rw [isRouter_y r0 (by omega) ha, p_cl, if_neg ne10, isRouter_y r0 (by omega) hb, p_cl, if_neg ne10, inS, p_cl, if_neg i3, if_pos rfl]
    · refine simN_same h (r := -1) ?_ ?_
      · show f_X7_entry σ (nI a) x2 x3 = _
        unfold f_X7_entry
        rw [noRouter_y v3 (by omega) ha, p_cl, if_pos rfl, noRouter_n v3 (by omega) i2, p_cl, if_neg ne10]
      · show f_X8_entry τ (nI a) x2 x3 = _
        unfold f_X8_entry
        rw [isRouter_y r0 (by omega) ha, p_cl, if_neg ne10, isRouter_n r0 (by omega) i2, p_cl, if_pos rfl]
  · refine simN_same h (r := -1) ?_ ?_
    · show f_X7_entry σ x1 x2 x3 = _
      unfold f_X7_entry
      rw [noRouter_n v3 (by omega) i1, p_cl, if_neg ne10]
    · show f_X8_entry τ x1 x2 x3 = _
      unfold f_X8_entry
      rw [isRouter_n r0 (by omega) i1, p_cl, if_pos rfl]
theorem N_known (x1 x2 : Int32) : simN (fun σ => f_X7_known σ x1 x2) (fun τ => f_X8_known τ x1 x2) := fun n m K σ τ h => by
  have hL := h.1
  have hn := hL.1
  have hT := h.2.2
  have v3 : σ 1 3 = nI n := hL.2.2.2.1
  have r0 : τ 1 0 = nI n := hL.2.2.1
  by_cases i1 : isN n x1
  · obtain ⟨a, ha, rfl⟩ := i1
    have lk := Nat.le_trans (hT.le hn (r := a) (by omega)) hn
    have z1 := (hT.1 a (by omega)).1
    have z2 : σ 8 a = nI (K a) := (hT.1 a (by omega)).2
    by_cases i2 : (0 : Int32) ≤ x2
    · have V0 : f_X7_known σ (nI a) x2 = (if x2 < nI (K a) then (q_rd σ 7 100 (nI a * 10 + x2) fun x => some (x, σ)) else some (-2, σ)) := by
        unfold f_X7_known
        simp only [p_nm]
        rw [noRouter_y v3 (by omega) ha, p_cl, if_pos rfl, if_pos i2, q_rd_n (by omega) (by decide), z2]
      have R0 : f_X8_known τ (nI a) x2 = (if nI (K a) ≤ x2 then some (-2, τ) else (q_rd τ 1 650 (150 + 10 * nI a + x2) fun x => some (x, τ))) := by
        unfold f_X8_known
        simp only [p_nm]
        rw [isRouter_y r0 (by omega) ha, p_cl, if_neg ne10, if_pos i2, a130, q_rd_n (by omega) (by decide), z1]
      by_cases c : x2 < nI (K a)
      · obtain ⟨k, hk, rfl⟩ := (isN_y (n := K a) (by omega)).mpr ⟨i_nlt.mpr i2, c⟩
        obtain ⟨d, v, x, u1, u2, u3, u4, u5, -⟩ := hT.2.2.2.2.1 a k (by omega) hk
        have u5 : σ 7 (10 * a + k) = nI d := u5
        rw [if_pos c] at V0
        rw [p_cell, q_rd_n (by omega) (by decide), u5] at V0
        rw [if_neg (i_nle.mpr c), p_10m, a150, nI_add, q_rd_n (by omega) (by decide), Nat.add_assoc, u4] at R0
        exact simN_same h V0 R0
      · rw [if_neg c] at V0
        rw [if_pos (i_nlt.mp c)] at R0
        exact simN_same h V0 R0
    · refine simN_same h (r := -1) ?_ ?_
      · show f_X7_known σ (nI a) x2 = _
        unfold f_X7_known
        rw [noRouter_y v3 (by omega) ha, p_cl, if_pos rfl, if_neg i2]
      · show f_X8_known τ (nI a) x2 = _
        unfold f_X8_known
        rw [isRouter_y r0 (by omega) ha, p_cl, if_neg ne10, if_neg i2]
  · refine simN_same h (r := -1) ?_ ?_
    · show f_X7_known σ x1 x2 = _
      unfold f_X7_known
      rw [noRouter_n v3 (by omega) i1, p_cl, if_neg ne10]
    · show f_X8_known τ x1 x2 = _
      unfold f_X8_known
      rw [isRouter_n r0 (by omega) i1, p_cl, if_pos rfl]
