/-! all rules tried -/
def stl2 (r r' : Int32) : Prop := stl r r' ∨ (r = 82 ∧ r' = 2000)
theorem stl2_le {a a' b b' : Int32} (ha : stl2 a a') (hb : stl b b') : a ≤ b ↔ ¬ b' < a' := by
  rcases ha with ha | ⟨rfl, rfl⟩
  · exact stl_le ha hb
  · rcases hb with ⟨q, hq, rfl, rfl⟩ | ⟨rfl, rfl⟩
    · exact ⟨fun z => absurd z (show ¬ (82 : Int32) ≤ nI q from nI_ge (b := 82) (by omega) (by decide)), fun z => absurd (show nI q < 2000 from nI_lt (b := 2000) (by omega) (by decide)) z⟩
    · exact ⟨fun z => absurd z (by decide), fun z => absurd (by decide) z⟩
theorem tryOnce {n m : Nat} {K : Nat → Nat} {σc τc : qM} (g4 : RNp n m K (q_sub 1 σc) (τc 1)) {h s : Nat} (hh : h < 3) (hs : s < 2) : ∃ (r r2 : Int32) (σ3 τ3 : qM), stl r r2 ∧ (∀ (x a b c : Int32) (go : qB), D_X7_tried go 1 σc [x, a, b, c, nI h, nI s] = if c ≤ r then go 1 σ3 [x, a, b, c, nI h, nI (s + 1)] else go 1 σ3 [x, nI h, nI s, r, nI h, nI (s + 1)]) ∧ (∀ x y1 y2 : Int32, q_lim D_X8_tried 0 τc [x, y1, y2, nI (2 * h + s)] = q_lim D_X8_tried 1 τ3 [x, y1, y2, nI (2 * h + s), r2]) ∧ RNp n m K (q_sub 1 σ3) (τ3 1) ∧ frV σc σ3 ∧ frR τc τ3 := by
  obtain ⟨W', σ1, τ1, a1, a2, a3, a4, a5, a6, a7⟩ := think_sim g4
  have hx : nI h = 0 ∨ nI h = 1 ∨ nI h = 2 := by
    have : h = 0 ∨ h = 1 ∨ h = 2 := by omega
    rcases this with rfl | rfl | rfl
    · exact Or.inl rfl
    · exact Or.inr (Or.inl rfl)
    · exact Or.inr (Or.inr rfl)
  have hy : nI s = 0 ∨ nI s = 1 := by
    have : s = 0 ∨ s = 1 := by omega
    rcases this with rfl | rfl
    · exact Or.inl rfl
    · exact Or.inr rfl
  have h1 := RNp_rule a4 (i := 0) (v := nI h) (by decide) (fun _ => hx) (fun z => absurd z (by decide))
  have h2 := RNp_rule h1 (i := 1) (v := nI s) (by decide) (fun z => absurd z (by decide)) (fun _ => hy)
  obtain ⟨σ2, hσ2⟩ : ∃ y, y = q_wr (q_wr σ1 22 4 (nI h)) 22 5 (nI s) := ⟨_, rfl⟩
  obtain ⟨τ2, hτ2⟩ : ∃ y, y = q_wr (q_wr τ1 1 2 (nI h)) 1 3 (nI s) := ⟨_, rfl⟩
  have h3 : RNp n m K (q_sub 22 σ2) (τ2 1) := by
    rw [hσ2, hτ2, up1_wr, up1_wr, show q_sub 22 (q_wr (q_wr σ1 22 4 (nI h)) 22 5 (nI s)) = q_wr (q_wr (q_sub 22 σ1) 0 4 (nI h)) 0 5 (nI s) by
      rw [show q_sub 22 (q_wr (q_wr σ1 22 4 (nI h)) 22 5 (nI s)) = q_wr (q_sub 22 (q_wr σ1 22 4 (nI h))) 0 5 (nI s) from p_sub_wr (r := 0) 22, show q_sub 22 (q_wr σ1 22 4 (nI h)) = q_wr (q_sub 22 σ1) 0 4 (nI h) from p_sub_wr (r := 0) 22]]
    exact h2
  obtain ⟨r, r', K', net3, τ3, d1, d2, d3, d4, d5⟩ := settleN_sim h3
  have fr : frT σ1 τ1 (q_put 22 21 σ2 net3) τ3 := by
    refine frT.trans (b := σ2) (b' := τ2) ⟨fun k x => ?_, ?_, fun i x => ?_, fun j x => ?_⟩ (frT_M d5)
    · rw [hσ2, p_wrk (by omega), p_wrk (by omega)]
    · rw [hτ2, p_wrk (by decide), p_wrk (by decide)]
    · rw [hτ2, p_wrk (by omega), p_wrk (by omega)]
    · rw [hτ2, p_wrk (by decide), p_wrk (by decide)]
  obtain ⟨aw1, aw2, aw3⟩ := awakeT g4 a5 a6 a7 fr
  obtain ⟨r2, hr2⟩ : ∃ y : Int32, y = if r' = -2 then 1000 else r' := ⟨_, rfl⟩
  have st : stl r r2 := by
    rcases d3 with ⟨q, hq, e1, e2⟩ | ⟨e1, e2⟩
    · refine Or.inl ⟨q, hq, e1, ?_⟩
      rw [hr2, e2, if_neg (fun y => by
        have := nI_pos' (n := q) (by omega)
        rw [y] at this
        exact absurd this (by decide))]
    · refine Or.inr ⟨e1, ?_⟩
      rw [hr2, e2, if_pos rfl]
  refine ⟨r, r2, _, q_sw τ3, st, fun x a b c go => ?_, fun x y1 y2 => q_lim_eq (fun go => ?_), aw1, aw2, aw3⟩
  · unfold D_X7_tried
    rw [if_neg (show ¬ (1 : Nat) = 0 by decide), if_pos (show (1 : Nat) = 1 from rfl)]
    show b_X7_tried_31 go σc x a b c (nI h) (nI s) = _
    unfold b_X7_tried_31
    simp only [p_nm]
    rw [if_neg (show ¬ (1 : Int32) < nI s from nI_nlt (a := 1) (by omega) (by decide)), a1, p_cl, a2, ← hσ2, d1, p_cl, nI_1]
  · show b_X8_tried_20 go τc x y1 y2 (nI (2 * h + s)) = _
    unfold b_X8_tried_20
    simp only [p_nm]
    have e1 : nI (2 * h + s) / 2 = nI h := by
      rw [show (2 : Int32) = nI 2 from rfl, pk_div (by omega) (by decide) (by decide), show (2 * h + s) / 2 = h by omega]
    have e2 : nI (2 * h + s) - nI (2 * h + s) / 2 * 2 = nI s := by
      rw [show (2 : Int32) = nI 2 from rfl, pk_rem (by omega) (by decide) (by decide), show (2 * h + s) % 2 = s by omega]
    rw [if_neg (show ¬ (6 : Int32) ≤ nI (2 * h + s) from nI_ge (b := 6) (by omega) (by decide)), a3, p_cl, p_dv (by decide), e2, e1, wt1_2, p_dv (by decide), wt1_3, ← hτ2, d2, p_cl, wakeR, p_cl, hr2]
    by_cases y : r' = -2
    · rw [if_pos y, if_pos y]
    · rw [if_neg y, if_neg y]
theorem tryNext {τ : qM} (go : qB) (x y1 y2 i r2 : Int32) : D_X8_tried go 1 τ [x, y1, y2, i, r2] = if r2 < y2 then go 0 τ [x, i, r2, i + 1] else go 0 τ [x, y1, y2, i + 1] := by
  unfold D_X8_tried
  rw [if_neg (show ¬ (1 : Nat) = 0 by decide), if_pos (show (1 : Nat) = 1 from rfl)]
  show b_X8_tried_76 go τ x y1 y2 i r2 = _
  unfold b_X8_tried_76
  simp only [p_nm]
/-- the best one so far: class and reference -/
def best (a b c y1 y2 : Int32) : Prop := ∃ p, p < 6 ∧ a = nI (p / 2) ∧ b = nI (p % 2) ∧ y1 = nI p ∧ stl2 c y2
theorem tryStep {n m : Nat} {K : Nat → Nat} {σc τc : qM} (g4 : RNp n m K (q_sub 1 σc) (τc 1)) {h s : Nat} (hh : h < 3) (hs : s < 2) (x : Int32) {a b c y1 y2 : Int32} (hb : best a b c y1 y2) : ∃ (a' b' c' y1' y2' : Int32) (σ3 τ3 : qM), q_lim D_X7_tried 1 σc [x, a, b, c, nI h, nI s] = q_lim D_X7_tried 1 σ3 [x, a', b', c', nI h, nI (s + 1)] ∧ q_lim D_X8_tried 0 τc [x, y1, y2, nI (2 * h + s)] = q_lim D_X8_tried 0 τ3 [x, y1', y2', nI (2 * h + s + 1)] ∧ best a' b' c' y1' y2' ∧ RNp n m K (q_sub 1 σ3) (τ3 1) ∧ frV σc σ3 ∧ frR τc τ3 ∧ stl c' y2' := by
  obtain ⟨r, r2, σ3, τ3, st, V, R, q1, q2, q3⟩ := tryOnce g4 hh hs
  obtain ⟨p, hp, e1, e2, e3, e4⟩ := hb
  have key := stl2_le e4 st
  by_cases z : c ≤ r
  · refine ⟨a, b, c, y1, y2, σ3, τ3, q_lim_eq (fun go => by rw [V _ _ _ _ go, if_pos z]), ?_, ⟨p, hp, e1, e2, e3, e4⟩, q1, q2, q3, e4.elim id (fun w => ?_)⟩
    rotate_left
    · rw [w.1] at z
      rcases st with ⟨q, hq, u, -⟩ | ⟨u, -⟩
      · rw [u] at z; exact absurd z (show ¬ (82 : Int32) ≤ nI q from nI_ge (b := 82) (by omega) (by decide))
      · rw [u] at z; exact absurd z (by decide)
    rw [R x y1 y2]
    exact q_lim_eq (fun go => by rw [tryNext, if_neg (key.mp z), nI_1])
  · refine ⟨nI h, nI s, r, nI (2 * h + s), r2, σ3, τ3, q_lim_eq (fun go => by rw [V _ _ _ _ go, if_neg z]), ?_, ⟨2 * h + s, by omega, by rw [show (2 * h + s) / 2 = h by omega], by rw [show (2 * h + s) % 2 = s by omega], rfl, Or.inl st⟩, q1, q2, q3, st⟩
    rw [R x y1 y2]
    exact q_lim_eq (fun go => by rw [tryNext, if_pos (Classical.not_not.mp (fun w => z (key.mpr w))), nI_1])
theorem tried_end {σ τ : qM} {x a b c y1 y2 : Int32} (hx : x = 0 ∨ x = 1 ∨ x = 2) (hb : best a b c y1 y2) (h82 : stl c y2) : ∃ r : Int32, q_lim D_X7_tried 0 σ [x, a, b, c, nI 3] = some (r, σ) ∧ q_lim D_X8_tried 0 τ [x, y1, y2, nI 6] = some (r, τ) := by
  obtain ⟨p, hp, e1, e2, e3, e4⟩ := hb
  have e4 : stl c y2 := h82
  have f1 : y1 / 2 = a := by
    rw [e3, e1, show (2 : Int32) = nI 2 from rfl, pk_div (by omega) (by decide) (by decide)]
  have f2 : y1 - y1 / 2 * 2 = b := by
    rw [e3, e2, show (2 : Int32) = nI 2 from rfl, pk_rem (by omega) (by decide) (by decide)]
  obtain ⟨r', hr'⟩ : ∃ y : Int32, y = if y2 = 1000 then -2 else y2 := ⟨_, rfl⟩
  have f3 : f_X7_orNot σ c = some (r', σ) := by
    rw [hr']
    refine orNotS ?_
    rcases e4 with ⟨q, hq, u1, u2⟩ | ⟨u1, u2⟩
    · refine Or.inl ⟨q, hq, u1, ?_⟩
      rw [u2, if_neg (fun y => by have := p_inj (a := q) (b := 1000) (by omega) (by decide) y; omega)]
    · refine Or.inr ⟨u1, ?_⟩
      rw [u2, if_pos rfl]
  have V : ∀ go : qB, D_X7_tried go 0 σ [x, a, b, c, nI 3] = if x = 0 then some (a, σ) else if x = 1 then some (b, σ) else some (r', σ) := fun go => by
    unfold D_X7_tried
    rw [if_pos (show (0 : Nat) = 0 from rfl)]
    show b_X7_tried_22 go σ x a b c (nI 3) = _
    unfold b_X7_tried_22
    rw [if_pos (show (2 : Int32) < nI 3 by decide), f3, p_cl]
  have R : ∀ go : qB, D_X8_tried go 0 τ [x, y1, y2, nI 6] = if x = 0 then some (a, τ) else if x = 1 then some (b, τ) else some (r', τ) := fun go => by
    unfold D_X8_tried
    rw [if_pos (show (0 : Nat) = 0 from rfl)]
    show b_X8_tried_20 go τ x y1 y2 (nI 6) = _
    unfold b_X8_tried_20
    simp only [p_nm]
    rw [if_pos (show (6 : Int32) ≤ nI 6 by decide), p_dv (by decide), p_dv (by decide), f2, f1, hr']
    by_cases w0 : x = 0
    · rw [if_pos w0, if_pos w0]
    · rw [if_neg w0, if_neg w0]
      by_cases w1 : x = 1
      · rw [if_pos w1, if_pos w1]
      · rw [if_neg w1, if_neg w1]
        by_cases w : y2 = 1000
        · rw [if_pos w, if_pos w]
        · rw [if_neg w, if_neg w]
  by_cases w0 : x = 0
  · exact ⟨a, q_lim_ret (fun go => by rw [V go, if_pos w0]), q_lim_ret (fun go => by rw [R go, if_pos w0])⟩
  · by_cases w1 : x = 1
    · exact ⟨b, q_lim_ret (fun go => by rw [V go, if_neg w0, if_pos w1]), q_lim_ret (fun go => by rw [R go, if_neg w0, if_pos w1])⟩
    · exact ⟨r', q_lim_ret (fun go => by rw [V go, if_neg w0, if_neg w1]), q_lim_ret (fun go => by rw [R go, if_neg w0, if_neg w1])⟩
theorem N_tried (x1 : Int32) : simN (fun σ => f_X7_tried σ x1) (fun τ => f_X8_tried τ x1) := fun n m K σ τ h => by
  have V0 : f_X7_tried σ x1 = (if x1 < 0 then some (-1, σ) else if x1 ≤ 2 then q_lim D_X7_tried 0 σ [x1, 0, 0, 82, 0] else some (-1, σ)) := rfl
  have R0 : f_X8_tried τ x1 = (if (0 : Int32) ≤ x1 ∧ x1 ≤ 2 then q_lim D_X8_tried 0 τ [x1, 0, 2000, 0] else some (-1, τ)) := by
    unfold f_X8_tried e_X8_tried
    rw [inS, p_cl]
    by_cases c : (0 : Int32) ≤ x1 ∧ x1 ≤ 2
    · rw [if_pos c, if_neg ne10, if_pos c]
    · rw [if_neg c, if_pos rfl, if_neg c]
  by_cases c : (0 : Int32) ≤ x1 ∧ x1 ≤ 2
  · rw [if_pos c] at R0
    rw [if_neg (i_nlt.mpr c.1), if_pos c.2] at V0
    have hx : x1 = 0 ∨ x1 = 1 ∨ x1 = 2 := by
      obtain ⟨i, hi, rfl⟩ := (in0 (k := 2) (by decide) rfl).mp c
      have : i = 0 ∨ i = 1 ∨ i = 2 := by omega
      rcases this with rfl | rfl | rfl
      · exact Or.inl rfl
      · exact Or.inr (Or.inl rfl)
      · exact Or.inr (Or.inr rfl)
    obtain ⟨σ2, xs2, ⟨a, b, c2, y1, y2, τ2, e1, e2, e3, e4, e5, e6, e7⟩, e8⟩ := q_run (D := D_X7_tried) (i := 0) (I := fun k σc xs => ∃ (a b c2 y1 y2 : Int32) (τc : qM), xs = [x1, a, b, c2, nI k] ∧ q_lim D_X8_tried 0 τ [x1, nI 0, 2000, nI 0] = q_lim D_X8_tried 0 τc [x1, y1, y2, nI (2 * k)] ∧ best a b c2 y1 y2 ∧ (0 < k → stl c2 y2) ∧ RNp n m K (q_sub 1 σc) (τc 1) ∧ frV σ σc ∧ frR τ τc) 3 (fun k σc xs hk hI => by
      obtain ⟨a, b, c2, y1, y2, τc, rfl, g2, g3, g4, g5, g6, g7⟩ := hI
      obtain ⟨a', b', c', y1', y2', σ3, τ3, u1, u2, u3, u4, u5, u6, u7⟩ := tryStep g5 hk (s := 0) (by decide) x1 g3
      obtain ⟨a'', b'', c'', y1'', y2'', σ4, τ4, v1, v2, v3, v4, v5, v6, v7⟩ := tryStep u4 hk (s := 1) (by decide) x1 u3
      refine ⟨σ4, _, ⟨a'', b'', c'', y1'', y2'', τ4, rfl, ?_, v3, fun _ => v7, v4, (g6.trans u5).trans v5, (g7.trans u6).trans v6⟩, ?_⟩
      · rw [g2]
        exact u2.trans v2
      · rw [q_lim_eq (j := 1) (τ := σc) (ys := [x1, a, b, c2, nI k, nI 0]) (fun go => ?_), u1, v1]
        · refine q_lim_eq (fun go => ?_)
          unfold D_X7_tried
          rw [if_neg (show ¬ (1 : Nat) = 0 by decide), if_pos (show (1 : Nat) = 1 from rfl)]
          show b_X7_tried_31 go σ4 x1 a'' b'' c'' (nI k) (nI 2) = _
          unfold b_X7_tried_31
          simp only [p_nm]
          rw [if_pos (show (1 : Int32) < nI 2 by decide), nI_1]
        · unfold D_X7_tried
          rw [if_pos (show (0 : Nat) = 0 from rfl)]
          show b_X7_tried_22 go σc x1 a b c2 (nI k) = _
          unfold b_X7_tried_22
          rw [if_neg (show ¬ (2 : Int32) < nI k from nI_nlt (a := 2) (by omega) (by decide))]
          rfl) 3 0 σ [x1, nI 0, nI 0, 82, nI 0] (by decide) ⟨nI 0, nI 0, 82, nI 0, 2000, τ, rfl, rfl, ⟨0, by decide, rfl, rfl, rfl, Or.inr ⟨rfl, rfl⟩⟩, fun z => absurd z (by decide), h, frV.rf σ, frR.rf τ⟩
    obtain ⟨r, t1, t2⟩ := tried_end (σ := σ2) (τ := τ2) hx e3 (e4 (by decide))
    refine ⟨r, σ2, τ2, n, m, K, ?_, ?_, e5, e6, e7⟩
    · show f_X7_tried σ x1 = _
      rw [V0]
      show q_lim D_X7_tried 0 σ [x1, nI 0, nI 0, 82, nI 0] = _
      rw [e8, e1, t1]
    · show f_X8_tried τ x1 = _
      rw [R0]
      show q_lim D_X8_tried 0 τ [x1, nI 0, 2000, nI 0] = _
      rw [e2]
      exact t2
  · rw [if_neg c] at R0
    refine simN_same h (r := -1) ?_ R0
    show f_X7_tried σ x1 = _
    rw [V0]
    by_cases w : x1 < 0
    · rw [if_pos w]
    · rw [if_neg w, if_neg (fun z => c ⟨i_nlt.mp w, z⟩)]
