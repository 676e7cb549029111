/-! holders: a row, an item, what an entry tells -/
theorem ge0_of {x : Int32} (h : (-1 : Int32) ≤ x) (h1 : ¬ x = -1) : ¬ x < 0 := fun z => h1 (Int32.toInt_inj.mp (by
  rw [Int32.lt_iff_toInt_lt] at z
  rw [Int32.le_iff_toInt_le] at h
  have a : (-1 : Int32).toInt = -1 := by decide +kernel
  have b : (0 : Int32).toInt = 0 := by decide +kernel
  omega))
theorem fill60 (T : qM) (x : Int32) : ∃ T', f_J7_fill_53178 60 T x = some (0, T') ∧ (∀ v, v < 60 → T' 0 v = x) ∧ ∀ j, j ≠ 0 → T' j = T j := by
  obtain ⟨T', xs', ⟨e1, e2, e3⟩, e4⟩ := q_run (D := D_J7_fill_53178 60) (i := 0) (I := fun k σ xs => xs = [x, nI k, nI 60] ∧ (∀ v, v < k → σ 0 v = x) ∧ ∀ j, j ≠ 0 → σ j = T j) 60 (fun k σ xs hk hI => by
    obtain ⟨rfl, g1, g2⟩ := hI
    refine ⟨q_wr σ 0 k x, _, ⟨rfl, fun v hv => ?_, fun j hj => by rw [p_wrk hj]; exact g2 j hj⟩, q_lim_eq (fun go => ?_)⟩
    · rw [p_wr]
      by_cases c : v = k
      · rw [if_pos ⟨rfl, c⟩]
      · rw [if_neg (fun z => c z.2)]; exact g1 v (by omega)
    · show b_J7_fill_53178_5 60 go σ x (nI k) (nI 60) = _
      unfold b_J7_fill_53178_5
      simp only [p_nmx]
      rw [if_neg (nI_ge hk (by decide)), q_wt_n hk (by decide), nI_1]) 60 0 T [x, nI 0, nI 60] (by decide) ⟨rfl, fun v hv => by omega, fun _ _ => rfl⟩
  refine ⟨T', ?_, e2, e3⟩
  show q_lim (D_J7_fill_53178 60) 0 T [x, nI 0, nI 60] = _
  rw [e4, e1]
  refine q_lim_ret (fun go => ?_)
  show b_J7_fill_53178_5 60 go T' x (nI 60) (nI 60) = _
  unfold b_J7_fill_53178_5
  rw [if_pos (nI_le (Nat.le_refl _) (by decide))]
theorem keepRowS (T : qM) (x : Int32) : ∃ T', f_X1_keepRow T x = some (0, T') ∧ T' 0 0 = 2 ∧ T' 0 7 = x ∧ (∀ i, i < 60 → T' 1 i = 0) ∧ ∀ k, 2 ≤ k → T' k = T k := by
  obtain ⟨W, w1, w2, w3⟩ := fill60 (q_sub 1 (q_wr (q_wr T 0 0 2) 0 7 x)) 0
  refine ⟨q_put 1 1 (q_wr (q_wr T 0 0 2) 0 7 x) W, ?_, ?_, ?_, fun i hi => ?_, fun k hk => ?_⟩
  · unfold f_X1_keepRow
    simp only [p_nmx]
    rw [w1, p_cl]
  · rw [p_put, if_neg (by omega), p_wrj (by decide), p_wrs]
  · rw [p_put, if_neg (by omega), p_wrs]
  · rw [p_put, if_pos (by omega)]; exact w2 i hi
  · rw [p_put, if_neg (by omega), p_wrk (by omega), p_wrk (by omega)]
theorem clearS (τ : qM) {j : Nat} (hj : j < 6) : ∃ τ1, q_lim D_X8_row 0 τ [nI j, 0] = some (1, τ1) ∧ (∀ i, i < 60 → τ1 19 (60 * j + i) = 0) ∧ (∀ i, (i < 60 * j ∨ 60 * j + 60 ≤ i) → τ1 19 i = τ 19 i) ∧ ∀ i, i ≠ 19 → τ1 i = τ i := by
  obtain ⟨τ1, xs', ⟨e1, e2, e3, e4⟩, e5⟩ := q_run (D := D_X8_row) (i := 0) (I := fun k σ xs => xs = [nI j, nI k] ∧ (∀ i, i < k → σ 19 (60 * j + i) = 0) ∧ (∀ i, (i < 60 * j ∨ 60 * j + 60 ≤ i) → σ 19 i = τ 19 i) ∧ ∀ i, i ≠ 19 → σ i = τ i) 60 (fun k σ xs hk hI => by
    obtain ⟨rfl, g1, g2, g3⟩ := hI
    refine ⟨q_wr σ 19 (60 * j + k) 0, _, ⟨rfl, fun i hi => ?_, fun i hi => by rw [p_wrj (by omega)]; exact g2 i hi, fun i hi => by rw [p_wrk hi]; exact g3 i hi⟩, q_lim_eq (fun go => ?_)⟩
    · by_cases c : i = k
      · rw [c, p_wrs]
      · rw [p_wrj (by omega)]; exact g1 i (by omega)
    · show b_X8_row_42 go σ (nI j) (nI k) = _
      unfold b_X8_row_42
      simp only [p_nmx]
      rw [if_neg (show ¬ (60 : Int32) ≤ nI k from nI_ge (b := 60) hk (by decide)), m60, nI_add, q_wt_n (by omega) (by decide), nI_1]) 60 0 τ [nI j, nI 0] (by decide) ⟨rfl, fun i hi => by omega, fun _ _ => rfl, fun _ _ => rfl⟩
  refine ⟨τ1, ?_, e2, e3, e4⟩
  show q_lim D_X8_row 0 τ [nI j, nI 0] = _
  rw [e5, e1]
  refine q_lim_ret (fun go => ?_)
  show b_X8_row_42 go τ1 (nI j) (nI 60) = _
  unfold b_X8_row_42
  rw [if_pos (show (60 : Int32) ≤ nI 60 from nI_le (a := 60) (Nat.le_refl _) (by decide))]
theorem row_sim {σ τ : qM} (hH : RH σ τ) (x1 x2 : Int32) : simK (f_X7_row σ x1 x2) (f_X8_row τ x1 x2) σ τ := by
  by_cases i0 : isN 6 x1
  · obtain ⟨j, hj, rfl⟩ := i0
    have V0 : f_X7_row σ (nI j) x2 = (if x2 ≤ 60 then (if (-1 : Int32) ≤ x2 then (if x2 = -1 then some (1, q_wr σ (94 + 2 * j) 0 0) else (q_cl (f_X1_keepRow (q_sub (94 + 2 * j) σ) x2) (q_put (94 + 2 * j) 2 σ) fun _ s => some (1, s))) else some (-14, σ)) else some (-1, σ)) := by
      unfold f_X7_row
      simp only [p_nmx]
      rw [noHolder_y hj, p_cl, if_pos rfl, q_gd_n hj (by decide), q_gd_n hj (by decide), nI_clamp (by omega)]
    have R0 : f_X8_row τ (nI j) x2 = (if x2 ≤ 60 then (if (-1 : Int32) ≤ x2 then (if x2 = -1 then q_lim D_X8_row 0 (q_wr τ 18 j (-2)) [nI j, 0] else q_lim D_X8_row 0 (q_wr τ 18 j x2) [nI j, 0]) else some (-14, τ)) else some (-1, τ)) := by
      unfold f_X8_row e_X8_row
      rw [isHolder_y hj, p_cl, if_neg ne10, q_wt_n hj (by decide), q_wt_n hj (by decide)]
    by_cases c1 : x2 ≤ 60
    · rw [if_pos c1] at V0 R0
      by_cases c2 : (-1 : Int32) ≤ x2
      · rw [if_pos c2] at V0 R0
        by_cases c3 : x2 = -1
        · rw [if_pos c3] at V0 R0
          obtain ⟨τ1, e1, e2, e3, e4⟩ := clearS (q_wr τ 18 j (-2)) hj
          refine ⟨1, _, τ1, V0, R0.trans e1, RH_set (j := j) hH (fun k u _ _ => p_wrk u) (fun i hi => by rw [e4 18 (by decide), p_wrj hi]) (fun i hi => by rw [e3 i hi, p_wrk (by decide)]) (Or.inl ⟨p_wrs _ _ _ _, by rw [e4 18 (by decide), p_wrs]⟩), fun k hk => p_wrk (by omega), fun i hi => by rw [e4 i (by omega), p_wrk (by omega)]⟩
        · rw [if_neg c3] at V0 R0
          obtain ⟨L, hL, rfl⟩ := nI_of2 (M := 60) (n := 60) rfl (ge0_of c2 c3) c1
          obtain ⟨τ1, e1, e2, e3, e4⟩ := clearS (q_wr τ 18 j (nI L)) hj
          obtain ⟨T', t1, t2, t3, t4, t5⟩ := keepRowS (q_sub (94 + 2 * j) σ) (nI L)
          obtain ⟨σ1, hσ1⟩ : ∃ z, z = q_put (94 + 2 * j) 2 σ T' := ⟨_, rfl⟩
          rw [t1, p_cl, ← hσ1] at V0
          have s0 : σ1 (94 + 2 * j) = T' 0 := by rw [hσ1, p_put, if_pos (by omega), Nat.sub_self]
          have s1 : σ1 (95 + 2 * j) = T' 1 := by rw [hσ1, p_put, if_pos (by omega), show 95 + 2 * j - (94 + 2 * j) = 1 by omega]
          have so : ∀ k, k ≠ 94 + 2 * j → k ≠ 95 + 2 * j → σ1 k = σ k := fun k u w => by rw [hσ1, p_put, if_neg (by omega)]
          refine ⟨1, σ1, τ1, V0, R0.trans e1, RH_set (j := j) hH (fun k u w _ => so k u w) (fun i hi => by rw [e4 18 (by decide), p_wrj hi]) (fun i hi => by rw [e3 i hi, p_wrk (by decide)]) (Or.inr (Or.inr ⟨by rw [s0]; exact t2, L, hL, by rw [s0]; exact t3, by rw [e4 18 (by decide), p_wrs], fun i hi => by rw [s1, t4 i hi, e2 i hi]⟩)), fun k hk => so k (by omega) (by omega), fun i hi => by rw [e4 i (by omega), p_wrk (by omega)]⟩
      · rw [if_neg c2] at V0 R0
        exact simK_same hH V0 R0
    · rw [if_neg c1] at V0 R0
      exact simK_same hH V0 R0
  · refine simK_same hH (r := -1) ?_ ?_
    · unfold f_X7_row
      rw [noHolder_n i0, p_cl, if_neg ne10]
    · unfold f_X8_row e_X8_row
      rw [isHolder_n i0, p_cl, if_pos rfl]
theorem put_sim {σ τ : qM} (hH : RH σ τ) (x1 x2 x3 : Int32) : simK (f_X7_put σ x1 x2 x3) (f_X8_put τ x1 x2 x3) σ τ := by
  by_cases i0 : isN 6 x1
  · obtain ⟨j, hj, rfl⟩ := i0
    have V0 : f_X7_put σ (nI j) x2 x3 = (if σ (94 + 2 * j) 0 = 2 then (if x2 < 0 then some (-2000000000, σ) else if x2 < σ (94 + 2 * j) 7 then (q_rd σ (95 + 2 * j) 60 x2 fun x12 => q_wt σ (95 + 2 * j) 60 x2 x3 fun s13 => some (x12, s13)) else some (-2000000000, σ)) else some (-2000000000, σ)) := by
      unfold f_X7_put
      simp only [p_nmx]
      rw [noHolder_y hj, p_cl, if_pos rfl, q_gd_n hj (by decide), nI_clamp (by omega)]
    have R0 : f_X8_put τ (nI j) x2 x3 = (if (if (0 : Int32) ≤ x2 ∧ x2 ≤ τ 18 j - 1 then (1 : Int32) else 0) = 0 then some (-2000000000, τ) else (q_rd τ 19 360 (nI (60 * j) + x2) fun x14 => q_wt τ 19 360 (nI (60 * j) + x2) x3 fun s => some (x14, s))) := by
      unfold f_X8_put
      simp only [p_nmx]
      rw [isHolder_y hj, p_cl, if_neg ne10, q_rd_n hj (by decide), inS, p_cl, m60]
    rcases hH j hj with ⟨a, b⟩ | ⟨a, b, c⟩ | ⟨a, L, c1, c2, c3, c4⟩
    · rw [a, if_neg (show ¬ (0 : Int32) = 2 by decide)] at V0
      rw [b, if_neg (show ¬ ((0 : Int32) ≤ x2 ∧ x2 ≤ -2 - 1) from fun z => absurd (Int32.le_trans z.1 z.2) (by decide)), if_pos rfl] at R0
      exact simK_same hH V0 R0
    · rw [a, if_neg (show ¬ (1 : Int32) = 2 by decide)] at V0
      rw [b, if_neg (show ¬ ((0 : Int32) ≤ x2 ∧ x2 ≤ -1 - 1) from fun z => absurd (Int32.le_trans z.1 z.2) (by decide)), if_pos rfl] at R0
      exact simK_same hH V0 R0
    · rw [a, if_pos rfl, c2] at V0
      rw [c3] at R0
      by_cases i1 : isN L x2
      · rw [if_pos ((in0m (by omega)).mpr i1), if_neg ne10] at R0
        rw [if_neg ((isN_y (by omega)).mp i1).1, if_pos ((isN_y (by omega)).mp i1).2] at V0
        obtain ⟨i, hi, rfl⟩ := i1
        rw [q_rd_n (by omega) (by decide), q_wt_n (by omega) (by decide), c4 i (by omega)] at V0
        rw [nI_add, q_rd_n (by omega) (by decide), q_wt_n (by omega) (by decide)] at R0
        refine ⟨_, _, _, V0, R0, RH_set (j := j) hH (fun k _ u _ => p_wrk u) (fun q _ => by rw [p_wrk (by decide)]) (fun q hq => by rw [p_wrj (by omega)]) (Or.inr (Or.inr ⟨by rw [p_wrk (by omega)]; exact a, L, c1, by rw [p_wrk (by omega)]; exact c2, by rw [p_wrk (by decide)]; exact c3, fun q hq => ?_⟩)), fun k hk => p_wrk (by omega), fun q hq => p_wrk (by omega)⟩
        by_cases e : q = i
        · rw [e, p_wrs, p_wrs]
        · rw [p_wrj e, p_wrj (by omega)]; exact c4 q hq
      · rw [if_neg (fun z => i1 ((in0m (by omega)).mp z)), if_pos rfl] at R0
        refine simK_same hH (V0.trans ?_) R0
        by_cases w : x2 < 0
        · rw [if_pos w]
        · rw [if_neg w, if_neg (fun z => i1 ((isN_y (by omega)).mpr ⟨w, z⟩))]
  · refine simK_same hH (r := -2000000000) ?_ ?_
    · unfold f_X7_put
      rw [noHolder_n i0, p_cl, if_neg ne10]
    · unfold f_X8_put
      rw [isHolder_n i0, p_cl, if_pos rfl]
noncomputable def tellsV (σ : qM) (h : Nat) (x2 : Int32) : qR := if x2 = 0 then some (σ h 2, σ) else if x2 = 1 then (if σ h 1 = 0 then some (-12, σ) else some (σ h 4, σ)) else if x2 = 2 then (if (16 : Int32) ≤ σ h 2 then some (-12, σ) else if σ h 1 = 0 then some (σ h 3, σ) else some (-12, σ)) else (if σ h 2 = 16 then some (σ h 5, σ) else some (-12, σ))
theorem tells_core {σ τ : qM} {h B x : Nat} {o x2 : Int32} (hx : x ≤ 16) (hB : B + 4 < 360) (ho : o = 0 ∨ o = 1) (c2 : σ h 2 = nI x) (c3 : τ 19 B = nI x) (c4 : σ h 1 = o) (c5 : σ h 4 = τ 19 (B + 2)) (c6 : σ h 3 = τ 19 (B + 3)) (c7 : σ h 5 = τ 19 (B + 4)) : ∃ r : Int32, tellsV σ h x2 = some (r, σ) ∧ b_X8_tells_66 τ x2 (nI B) o = some (r, τ) := by
  have V : tellsV σ h x2 = (if x2 = 0 then some (nI x, σ) else if x2 = 1 then (if o = 0 then some (-12, σ) else some (τ 19 (B + 2), σ)) else if x2 = 2 then (if (16 : Int32) ≤ nI x then some (-12, σ) else if o = 0 then some (τ 19 (B + 3), σ) else some (-12, σ)) else (if nI x = 16 then some (τ 19 (B + 4), σ) else some (-12, σ))) := by
    unfold tellsV
    rw [c2, c4, c5, c6, c7]
  have R84 : ∀ l : Int32, b_X8_tells_84 τ x2 (nI B) o l = (if x2 = 0 then some (nI x, τ) else if x2 = 1 then (if o = 0 then some (-12, τ) else some (τ 19 (B + 2), τ)) else if x2 = 2 then (if o = 0 then (if l = 0 then some (τ 19 (B + 3), τ) else some (-12, τ)) else some (-12, τ)) else (if l = 0 then some (-12, τ) else some (τ 19 (B + 4), τ))) := fun l => by
    unfold b_X8_tells_84
    simp only [p_nmx]
    rw [nI_2, nI_3, nI_4, q_rd_n (by omega) (by decide), q_rd_n (by omega) (by decide), q_rd_n (by omega) (by decide), q_rd_n (by omega) (by decide), c3]
  have R : b_X8_tells_66 τ x2 (nI B) o = (if nI x = 16 then b_X8_tells_84 τ x2 (nI B) o 1 else b_X8_tells_84 τ x2 (nI B) o 0) := by
    unfold b_X8_tells_66
    rw [q_rd_n (by omega) (by decide), c3]
  rw [V, R]
  by_cases e : x = 16
  · have z : nI x = 16 := by rw [e]; rfl
    have z2 : (16 : Int32) ≤ nI x := by rw [z]; decide
    rw [if_pos z, if_pos z, if_pos z2, R84]
    by_cases y0 : x2 = 0
    · exact ⟨nI x, by rw [if_pos y0], by rw [if_pos y0]⟩
    · rw [if_neg y0, if_neg y0]
      by_cases y1 : x2 = 1
      · rw [if_pos y1, if_pos y1]
        rcases ho with rfl | rfl
        · exact ⟨-12, by rw [if_pos rfl], by rw [if_pos rfl]⟩
        · exact ⟨τ 19 (B + 2), by rw [if_neg ne10], by rw [if_neg ne10]⟩
      · rw [if_neg y1, if_neg y1]
        by_cases y2 : x2 = 2
        · rw [if_pos y2, if_pos y2]
          refine ⟨-12, rfl, ?_⟩
          rcases ho with rfl | rfl
          · rw [if_pos rfl, if_neg ne10]
          · rw [if_neg ne10]
        · rw [if_neg y2, if_neg y2]
          exact ⟨τ 19 (B + 4), rfl, by rw [if_neg ne10]⟩
  · have z : ¬ nI x = 16 := fun w => e (p_inj (b := 16) (by omega) (by decide) w)
    have z2 : ¬ (16 : Int32) ≤ nI x := nI_ge (b := 16) (by omega) (by decide)
    rw [if_neg z, if_neg z, if_neg z2, R84]
    by_cases y0 : x2 = 0
    · exact ⟨nI x, by rw [if_pos y0], by rw [if_pos y0]⟩
    · rw [if_neg y0, if_neg y0]
      by_cases y1 : x2 = 1
      · rw [if_pos y1, if_pos y1]
        rcases ho with rfl | rfl
        · exact ⟨-12, by rw [if_pos rfl], by rw [if_pos rfl]⟩
        · exact ⟨τ 19 (B + 2), by rw [if_neg ne10], by rw [if_neg ne10]⟩
      · rw [if_neg y1, if_neg y1]
        by_cases y2 : x2 = 2
        · rw [if_pos y2, if_pos y2]
          rcases ho with rfl | rfl
          · exact ⟨τ 19 (B + 3), by rw [if_pos rfl], by rw [if_pos rfl, if_pos rfl]⟩
          · exact ⟨-12, by rw [if_neg ne10], by rw [if_neg ne10]⟩
        · rw [if_neg y2, if_neg y2]
          exact ⟨-12, rfl, by rw [if_pos rfl]⟩
theorem tells_sim {σ τ : qM} (hH : RH σ τ) (x1 x2 : Int32) : simK (f_X7_tells σ x1 x2) (f_X8_tells τ x1 x2) σ τ := by
  by_cases i0 : isN 6 x1
  · obtain ⟨j, hj, rfl⟩ := i0
    by_cases i1 : (0 : Int32) ≤ x2 ∧ x2 ≤ 3
    · have V0 : f_X7_tells σ (nI j) x2 = (if σ (94 + 2 * j) 0 = 0 then some (-11, σ) else if σ (94 + 2 * j) 0 = 1 then tellsV σ (94 + 2 * j) x2 else some (-12, σ)) := by
        unfold f_X7_tells tellsV
        simp only [p_nmx]
        rw [noHolder_y hj, p_cl, if_pos rfl, if_neg (i_nlt.mpr i1.1), if_pos i1.2, q_gd_n hj (by decide), nI_clamp (by omega)]
      have R0 : f_X8_tells τ (nI j) x2 = (if τ 18 j = -2 then some (-11, τ) else if τ 18 j < 0 then (if τ 19 (60 * j + 1) = 1 then b_X8_tells_66 τ x2 (nI (60 * j)) 1 else b_X8_tells_66 τ x2 (nI (60 * j)) 0) else some (-12, τ)) := by
        unfold f_X8_tells
        simp only [p_nmx]
        rw [isHolder_y hj, p_cl, if_neg ne10, inS, p_cl, if_pos i1, if_neg ne10, q_rd_n hj (by decide), q_rd_n hj (by decide), m60, nI_1, q_rd_n (by omega) (by decide)]
      rcases hH j hj with ⟨a, b⟩ | ⟨a, b, x, c1, c2, c3, c4, c5, c6, c7⟩ | ⟨a, L, c1, c2, c3, c4⟩
      · rw [a, if_pos rfl] at V0
        rw [b, if_pos rfl] at R0
        exact simK_same hH V0 R0
      · rw [a, if_neg ne10, if_pos rfl] at V0
        rw [b, if_neg (show ¬ (-1 : Int32) = -2 by decide), if_pos (show (-1 : Int32) < 0 by decide)] at R0
        rcases c4 with ⟨u1, u2⟩ | ⟨u1, u2⟩
        · rw [u2, if_neg (show ¬ (0 : Int32) = 1 by decide)] at R0
          obtain ⟨r, w1, w2⟩ := tells_core (x2 := x2) c1 (by omega) (Or.inl rfl) c2 c3 u1 c5 c6 c7
          exact simK_same hH (V0.trans w1) (R0.trans w2)
        · rw [u2, if_pos rfl] at R0
          obtain ⟨r, w1, w2⟩ := tells_core (x2 := x2) c1 (by omega) (Or.inr rfl) c2 c3 u1 c5 c6 c7
          exact simK_same hH (V0.trans w1) (R0.trans w2)
      · rw [a, if_neg (show ¬ (2 : Int32) = 0 by decide), if_neg (show ¬ (2 : Int32) = 1 by decide)] at V0
        rw [c3, if_neg (show ¬ nI L = -2 from fun z => nI_pos (n := L) (by omega) (by rw [z]; decide)), if_neg (nI_pos (by omega))] at R0
        exact simK_same hH V0 R0
    · refine simK_same hH (r := -1) ?_ ?_
      · unfold f_X7_tells
        rw [noHolder_y hj, p_cl, if_pos rfl]
        by_cases w : x2 < 0
        · rw [if_pos w]
        · rw [if_neg w, if_neg (fun z => i1 ⟨i_nlt.mp w, z⟩)]
      · unfold f_X8_tells
        rw [isHolder_y hj, p_cl, if_neg ne10, inS, p_cl, if_neg i1, if_pos rfl]
  · refine simK_same hH (r := -1) ?_ ?_
    · unfold f_X7_tells
      rw [noHolder_n i0, p_cl, if_neg ne10]
    · unfold f_X8_tells
      rw [isHolder_n i0, p_cl, if_pos rfl]
