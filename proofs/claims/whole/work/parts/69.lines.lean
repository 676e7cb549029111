/-! the tape: lines, texts -/
theorem D_rl_0 (go : qB) (τ : qM) (a b : Int32) : D_X8_readLine go 0 τ [a, b] = b_X8_readLine_68 go τ a b := by
  unfold D_X8_readLine
  exact if_pos (show (0 : Nat) = 0 from rfl)
theorem D_rl_1 (go : qB) (τ : qM) (a b c : Int32) : D_X8_readLine go 1 τ [a, b, c] = b_X8_readLine_87 go τ a b c := by
  unfold D_X8_readLine
  exact (if_neg (show ¬ (1 : Nat) = 0 by decide)).trans (if_pos (show (1 : Nat) = 1 from rfl))
/-- what reading line q leaves as it was -/
def frL (q : Nat) (T τ T' τ' : qM) : Prop := (∀ k, k ≠ 0 → k ≠ 2 → k ≠ 3 → T' k = T k) ∧ T' 0 4 = T 0 4 ∧ (∀ k, k ≠ q → T' 2 k = T 2 k) ∧ (∀ k, (k < 3 * q ∨ 3 * q + 3 ≤ k) → T' 3 k = T 3 k) ∧ (∀ i, i ≠ 0 → i ≠ 15 → i ≠ 16 → τ' i = τ i) ∧ (∀ j, j ≠ 18 → j ≠ 19 → τ' 0 j = τ 0 j) ∧ (∀ k, k ≠ q → τ' 15 k = τ 15 k) ∧ ∀ k, (k < 3 * q ∨ 3 * q + 3 ≤ k) → τ' 16 k = τ 16 k
/-- both sides hold the same line i -/
def RLn (T τ : qM) (i : Nat) : Prop := ∃ (c : Int32) (w : Nat), wOf c = some w ∧ T 2 i = c ∧ τ 15 i = c ∧ ∀ k, k < w → T 3 (3 * i + k) = τ 16 (3 * i + k)
theorem numbers_sim {L q w : Nat} {c : Int32} (hq : q < 120) (hw : wOf c = some w) : ∀ (f k p : Nat) (T τ : qM), k + f = w → PP L T τ p → T 0 4 = nI q → τ 0 19 = -1 → (∀ j, j < k → T 3 (3 * q + j) = τ 16 (3 * q + j)) → ∃ (r : Int32) (T' τ' : qM) (p' : Nat), q_lim D_X5_readLine 0 T [nI w, nI k] = some (r, T') ∧ q_lim D_X8_readLine 1 τ [nI q, c, nI k] = some (0, τ') ∧ PP L T' τ' p' ∧ p ≤ p' ∧ frL q T τ T' τ' ∧ T' 2 = T 2 ∧ τ' 15 = τ 15 ∧ ((r = 0 ∧ τ' 0 19 = nI p') ∨ (r = 1 ∧ τ' 0 19 = -1 ∧ ∀ j, j < w → T' 3 (3 * q + j) = τ' 16 (3 * q + j))) := by
  have h3 := wOf_3 hw
  intro f
  induction f with
  | zero =>
    intro k p T τ hk hP h4 hf hn
    have e : k = w := by omega
    subst e
    refine ⟨1, T, τ, p, q_lim_ret (fun go => ?_), q_lim_ret (fun go => ?_), hP, Nat.le_refl _, ⟨fun _ _ _ _ => rfl, rfl, fun _ _ => rfl, fun _ _ => rfl, fun _ _ _ _ => rfl, fun _ _ _ => rfl, fun _ _ => rfl, fun _ _ => rfl⟩, rfl, rfl, Or.inr ⟨rfl, hf, hn⟩⟩
    · show b_X5_readLine_62 go T (nI k) (nI k) = _
      unfold b_X5_readLine_62
      rw [if_pos (nI_le (Nat.le_refl _) (by omega)), p_bo1]
    · rw [D_rl_1]
      unfold b_X8_readLine_87
      rw [nuo_y hw, p_cl, if_pos (nI_le (Nat.le_refl _) (by omega))]
  | succ f ih =>
    intro k p T τ hk hP h4 hf hn
    obtain ⟨r, T1, τ1, p1, e1, e2, e3, e4, ⟨g1, g2, g3, g4, g5, g6⟩, e6⟩ := number_sim hP (q := q) (i := k) hq (by omega) hf
    have VS : ∀ go : qB, D_X5_readLine go 0 T [nI w, nI k] = if r = 0 then some (0, T1) else go 0 T1 [nI w, nI (k + 1)] := fun go => by
      show b_X5_readLine_62 go T (nI w) (nI k) = _
      unfold b_X5_readLine_62
      simp only [p_nmx, p_bo0]
      rw [if_neg (nI_ge (by omega) (by omega)), h4, m3, nI_add, e1, p_cl, nI_1]
    have RS : ∀ go : qB, D_X8_readLine go 1 τ [nI q, c, nI k] = go 1 τ1 [nI q, c, nI (k + 1)] := fun go => by
      rw [D_rl_1]
      unfold b_X8_readLine_87
      simp only [p_nmx]
      rw [nuo_y hw, p_cl, if_neg (nI_ge (by omega) (by omega)), hf, if_neg (show ¬ (0 : Int32) ≤ -1 by decide), e2, p_cl, nI_1]
    have fr1 : frL q T τ T1 τ1 := ⟨fun k1 u _ w => g1 k1 u w, g2, fun k1 _ => by rw [g1 2 (by decide) (by decide)], fun k1 u => g3 k1 (by omega), fun i u _ w => g4 i u w, g5, fun k1 _ => by rw [g4 15 (by decide) (by decide)], fun k1 u => g6 k1 (by omega)⟩
    rw [q_lim_eq RS]
    rcases e6 with ⟨z1, z2⟩ | ⟨z1, z2, z3⟩
    · have hp1 := e3.2.1
      have hL1 := e3.1
      refine ⟨0, T1, τ1, p1, q_lim_ret (fun go => by rw [VS go, if_pos z1]), q_lim_ret (fun go => ?_), e3, e4, fr1, g1 2 (by decide) (by decide), g4 15 (by decide) (by decide), Or.inl ⟨rfl, z2⟩⟩
      rw [D_rl_1]
      unfold b_X8_readLine_87
      simp only [p_nmx]
      rw [nuo_y hw, p_cl, z2, if_pos (show (0 : Int32) ≤ nI p1 from nI_pos' (by omega))]
      by_cases y : nI w ≤ nI (k + 1)
      · rw [if_pos y]
      · rw [if_neg y]
    · obtain ⟨r2, T2, τ2, p2, d1, d2, d3, d4, ⟨q1, q2, q3, q4, q5, q6, q7, q8⟩, d6, d7, d8⟩ := ih (k + 1) p1 T1 τ1 (by omega) e3 (g2.trans h4) z2 (fun j hj => by
        by_cases y : j = k
        · rw [y]; exact z3
        · rw [g3 _ (by omega), g6 _ (by omega)]; exact hn j (by omega))
      refine ⟨r2, T2, τ2, p2, ?_, d2, d3, Nat.le_trans e4 d4, ⟨fun k1 u v w => (q1 k1 u v w).trans (g1 k1 u w), q2.trans g2, fun k1 u => (q3 k1 u).trans (by rw [g1 2 (by decide) (by decide)]), fun k1 u => (q4 k1 u).trans (g3 k1 (by omega)), fun i u v w => (q5 i u v w).trans (g4 i u w), fun j u v => (q6 j u v).trans (g5 j u v), fun k1 u => (q7 k1 u).trans (by rw [g4 15 (by decide) (by decide)]), fun k1 u => (q8 k1 u).trans (g6 k1 (by omega))⟩, d6.trans (g1 2 (by decide) (by decide)), d7.trans (g4 15 (by decide) (by decide)), d8⟩
      rw [q_lim_eq (fun go => by rw [VS go, if_neg (show ¬ r = 0 by rw [z1]; decide)])]
      exact d1
theorem eRL_y {τ : qM} {q L p w : Nat} (hL : L ≤ 120) (hp : p ≤ L) (h17 : τ 0 17 = nI L) (h18 : τ 0 18 = nI p) (hw : wOf (hrI L p (τ 14)) = some w) : f_X8_readLine τ (nI q) = q_lim D_X8_readLine 0 τ [nI q, hrI L p (τ 14)] := by
  unfold f_X8_readLine e_X8_readLine
  rw [hereS hL hp h17 h18, p_cl]
  obtain ⟨c, hc⟩ : ∃ z, z = hrI L p (τ 14) := ⟨_, rfl⟩
  rw [← hc] at hw ⊢
  rcases wOf_some hw with ⟨y, -⟩ | ⟨y, -⟩ | ⟨y, -⟩ | ⟨y, -⟩ | ⟨y, -⟩ | ⟨y, -⟩ | ⟨y, -⟩ | ⟨y, -⟩ | ⟨y, -⟩
  · rw [y, if_pos rfl]
  · rw [y, if_neg (show ¬ (108 : Int32) = 110 by decide), if_pos rfl]
  · rw [y, if_neg (show ¬ (119 : Int32) = 110 by decide), if_neg (show ¬ (119 : Int32) = 108 by decide), if_neg (show ¬ (119 : Int32) = 99 by decide), if_neg (show ¬ (119 : Int32) = 117 by decide), if_pos rfl]
  · rw [y, if_neg (show ¬ (99 : Int32) = 110 by decide), if_neg (show ¬ (99 : Int32) = 108 by decide), if_pos rfl]
  · rw [y, if_neg (show ¬ (117 : Int32) = 110 by decide), if_neg (show ¬ (117 : Int32) = 108 by decide), if_neg (show ¬ (117 : Int32) = 99 by decide), if_pos rfl]
  · rw [y, if_neg (show ¬ (104 : Int32) = 110 by decide), if_neg (show ¬ (104 : Int32) = 108 by decide), if_neg (show ¬ (104 : Int32) = 99 by decide), if_neg (show ¬ (104 : Int32) = 117 by decide), if_neg (show ¬ (104 : Int32) = 119 by decide), if_pos rfl]
  · rw [y, if_neg (show ¬ (113 : Int32) = 110 by decide), if_neg (show ¬ (113 : Int32) = 108 by decide), if_neg (show ¬ (113 : Int32) = 99 by decide), if_neg (show ¬ (113 : Int32) = 117 by decide), if_neg (show ¬ (113 : Int32) = 119 by decide), if_neg (show ¬ (113 : Int32) = 104 by decide), if_pos rfl]
  · rw [y, if_neg (show ¬ (100 : Int32) = 110 by decide), if_neg (show ¬ (100 : Int32) = 108 by decide), if_neg (show ¬ (100 : Int32) = 99 by decide), if_neg (show ¬ (100 : Int32) = 117 by decide), if_neg (show ¬ (100 : Int32) = 119 by decide), if_neg (show ¬ (100 : Int32) = 104 by decide), if_neg (show ¬ (100 : Int32) = 113 by decide), if_pos rfl]
  · rw [y, if_neg (show ¬ (114 : Int32) = 110 by decide), if_neg (show ¬ (114 : Int32) = 108 by decide), if_neg (show ¬ (114 : Int32) = 99 by decide), if_neg (show ¬ (114 : Int32) = 117 by decide), if_neg (show ¬ (114 : Int32) = 119 by decide), if_neg (show ¬ (114 : Int32) = 104 by decide), if_neg (show ¬ (114 : Int32) = 113 by decide), if_neg (show ¬ (114 : Int32) = 100 by decide), if_pos rfl]
theorem eRL_n {τ : qM} {q L p : Nat} (hL : L ≤ 120) (hp : p ≤ L) (h17 : τ 0 17 = nI L) (h18 : τ 0 18 = nI p) (hw : wOf (hrI L p (τ 14)) = none) : f_X8_readLine τ (nI q) = some (0, q_wr τ 0 19 (nI p)) := by
  obtain ⟨y110, y108, y119, y99, y117, y104, y113, y100, y114⟩ := wOf_none hw
  unfold f_X8_readLine e_X8_readLine
  rw [hereS hL hp h17 h18, p_cl]
  simp only [p_nmx]
  rw [if_neg y110, if_neg y108, if_neg y99, if_neg y117, if_neg y119, if_neg y104, if_neg y113, if_neg y100, if_neg y114, h18]
theorem line_sim {L p q : Nat} {T τ : qM} (hP : PP L T τ p) (hq : q < 120) (h4 : T 0 4 = nI q) (hf : τ 0 19 = -1) : ∃ (r : Int32) (T' τ' : qM) (p' : Nat), f_X5_readLine T = some (r, T') ∧ f_X8_readLine τ (nI q) = some (0, τ') ∧ PP L T' τ' p' ∧ frL q T τ T' τ' ∧ ((r = 0 ∧ τ' 0 19 = nI p') ∨ (r = 1 ∧ τ' 0 19 = -1 ∧ p < p' ∧ RLn T' τ' q)) := by
  obtain ⟨hL, hp, h1, h5, h17, h18, hB⟩ := id hP
  have rf : frL q T τ T τ := ⟨fun _ _ _ _ => rfl, rfl, fun _ _ => rfl, fun _ _ => rfl, fun _ _ _ _ => rfl, fun _ _ _ => rfl, fun _ _ => rfl, fun _ _ => rfl⟩
  have fault : ∀ τ1, τ1 = q_wr τ 0 19 (nI p) → PP L T τ1 p ∧ frL q T τ T τ1 ∧ τ1 0 19 = nI p := fun τ1 e => by
    refine ⟨⟨hL, hp, h1, h5, by rw [e, p_wrj (by decide)]; exact h17, by rw [e, p_wrj (by decide)]; exact h18, fun i hi => by rw [e, p_wrk (by decide)]; exact hB i hi⟩, ⟨fun _ _ _ _ => rfl, rfl, fun _ _ => rfl, fun _ _ => rfl, fun i u _ _ => by rw [e, p_wrk u], fun j _ v => by rw [e, p_wrj v], fun k _ => by rw [e, p_wrk (by decide)], fun k _ => by rw [e, p_wrk (by decide)]⟩, by rw [e, p_wrs]⟩
  by_cases c : p < L
  · have hh : hrI L p (τ 14) = T 1 p := (if_pos c).trans (hB p c).symm
    cases hw : wOf (T 1 p) with
    | none =>
      have R0 := eRL_n (q := q) hL hp h17 h18 (by rw [hh]; exact hw)
      obtain ⟨f1, f2, f3⟩ := fault _ rfl
      refine ⟨0, T, _, p, ?_, R0, f1, f2, Or.inl ⟨rfl, f3⟩⟩
      unfold f_X5_readLine e_X5_readLine
      simp only [p_nmx, p_bo0]
      rw [h1, h5, if_pos (nI_lt c (by omega)), q_rd_n (by omega) (by decide), hmn_n hw, p_cl, if_neg (show ¬ (0 : Int32) ≤ -1 by decide)]
    | some w =>
      have h3 := wOf_3 hw
      have R0 := eRL_y (q := q) hL hp h17 h18 (by rw [hh]; exact hw)
      rw [hh] at R0
      obtain ⟨x, hx⟩ : ∃ z, z = T 1 p := ⟨_, rfl⟩
      rw [← hx] at R0 hw
      obtain ⟨T1, hT1⟩ : ∃ z, z = q_wr (q_wr T 2 q x) 0 5 (nI (p + 1)) := ⟨_, rfl⟩
      obtain ⟨τ1, hτ1⟩ : ∃ z, z = q_wr (q_wr τ 15 q x) 0 18 (nI (p + 1)) := ⟨_, rfl⟩
      have V0 : f_X5_readLine T = q_lim D_X5_readLine 0 T1 [nI w, 0] := by
        unfold f_X5_readLine e_X5_readLine
        simp only [p_nmx, p_bo0]
        rw [h1, h5, if_pos (nI_lt c (by omega)), q_rd_n (by omega) (by decide), ← hx, hmn_y hw, p_cl, if_pos (show (0 : Int32) ≤ nI w from nI_pos' (by omega)), h5, q_rd_n (by omega) (by decide), ← hx, h4, q_wt_n hq (by decide), p_wrk (r := 2) (k := 0) (by decide), h5, nI_1, ← hT1]
      have R1 : q_lim D_X8_readLine 0 τ [nI q, x] = q_lim D_X8_readLine 1 τ1 [nI q, x, 0] := q_lim_eq (fun go => by
        rw [D_rl_0]
        unfold b_X8_readLine_68
        simp only [p_nmx]
        rw [q_wt_n (by omega) (by decide), p_wrk (r := 15) (k := 0) (by decide), h18, nI_1, ← hτ1])
      have P1 : PP L T1 τ1 (p + 1) := ⟨hL, c, by rw [hT1, p_wrj (by decide), p_wrk (by decide)]; exact h1, by rw [hT1, p_wrs], by rw [hτ1, p_wrj (by decide), p_wrk (by decide)]; exact h17, by rw [hτ1, p_wrs], fun i hi => by rw [hT1, hτ1, p_wrk (by decide), p_wrk (by decide), p_wrk (by decide), p_wrk (by decide)]; exact hB i hi⟩
      obtain ⟨r, T', τ', p', d1, d2, d3, d4, ⟨q1, q2, q3, q4, q5, q6, q7, q8⟩, d6, d7, d8⟩ := numbers_sim (L := L) (q := q) (c := x) hq hw w 0 (p + 1) T1 τ1 (by omega) P1 (by rw [hT1, p_wrj (by decide), p_wrk (by decide)]; exact h4) (by rw [hτ1, p_wrj (by decide), p_wrk (by decide)]; exact hf) (fun j hj => by omega)
      have fr : frL q T τ T' τ' := ⟨fun k u v w => by rw [q1 k u v w, hT1, p_wrk u, p_wrk v], by rw [q2, hT1, p_wrj (by decide), p_wrk (by decide)], fun k u => by rw [d6, hT1, p_wrk (by decide), p_wrj u], fun k u => by rw [q4 k u, hT1, p_wrk (by decide), p_wrk (by decide)], fun i u v w => by rw [q5 i u v w, hτ1, p_wrk u, p_wrk v], fun j u v => by rw [q6 j u v, hτ1, p_wrj u, p_wrk (by decide)], fun k u => by rw [d7, hτ1, p_wrk (by decide), p_wrj u], fun k u => by rw [q8 k u, hτ1, p_wrk (by decide), p_wrk (by decide)]⟩
      refine ⟨r, T', τ', p', V0.trans d1, (R0.trans R1).trans d2, d3, fr, ?_⟩
      rcases d8 with ⟨z1, z2⟩ | ⟨z1, z2, z3⟩
      · exact Or.inl ⟨z1, z2⟩
      · exact Or.inr ⟨z1, z2, by omega, x, w, hw, by rw [d6, hT1, p_wrk (by decide), p_wrs], by rw [d7, hτ1, p_wrk (by decide), p_wrs], z3⟩
  · have hh : hrI L p (τ 14) = -1 := if_neg c
    have R0 := eRL_n (q := q) hL hp h17 h18 (by rw [hh]; exact wOf_m1)
    obtain ⟨f1, f2, f3⟩ := fault _ rfl
    refine ⟨0, T, _, p, ?_, R0, f1, f2, Or.inl ⟨rfl, f3⟩⟩
    unfold f_X5_readLine e_X5_readLine
    simp only [p_nmx, p_bo0]
    rw [h1, h5, if_neg (fun z => c ((nI_ltI (by omega) (by omega)).mp z))]
theorem D_sc_0 (go : qB) (τ : qM) (a : Int32) : D_X8_script go 0 τ [a] = b_X8_script_17 go τ a := by
  unfold D_X8_script
  exact if_pos (show (0 : Nat) = 0 from rfl)
theorem D_sc_1 (go : qB) (τ : qM) (a : Int32) : D_X8_script go 1 τ [a] = b_X8_script_54 go τ a := by
  unfold D_X8_script
  exact (if_neg (show ¬ (1 : Nat) = 0 by decide)).trans (if_pos (show (1 : Nat) = 1 from rfl))
theorem D_sc_2 (go : qB) (τ : qM) (a : Int32) : D_X8_script go 2 τ [a] = b_X8_script_80 go τ a := by
  unfold D_X8_script
  exact (if_neg (show ¬ (2 : Nat) = 0 by decide)).trans ((if_neg (show ¬ (2 : Nat) = 1 by decide)).trans (if_pos (show (2 : Nat) = 2 from rfl)))
theorem D_sc_3 (go : qB) (τ : qM) (a b : Int32) : D_X8_script go 3 τ [a, b] = b_X8_script_114 go τ a b := by
  unfold D_X8_script
  exact (if_neg (show ¬ (3 : Nat) = 0 by decide)).trans ((if_neg (show ¬ (3 : Nat) = 1 by decide)).trans ((if_neg (show ¬ (3 : Nat) = 2 by decide)).trans (if_pos (show (3 : Nat) = 3 from rfl))))
/-- what reading a text leaves as it was -/
def frX (T τ T' τ' : qM) : Prop := (∀ k, k ≠ 0 → k ≠ 2 → k ≠ 3 → T' k = T k) ∧ T' 0 1 = T 0 1 ∧ (∀ i, i ≠ 0 → i ≠ 15 → i ≠ 16 → τ' i = τ i) ∧ ∀ j, j ≠ 18 → j ≠ 19 → τ' 0 j = τ 0 j
theorem frX_L {L p q p' : Nat} {T τ T' τ' : qM} (h : frL q T τ T' τ') (h1 : PP L T τ p) (h2 : PP L T' τ' p') : frX T τ T' τ' := ⟨h.1, h2.2.2.1.trans h1.2.2.1.symm, h.2.2.2.2.1, h.2.2.2.2.2.1⟩
theorem frX.trans {a b c a' b' c' : qM} (h1 : frX a a' b b') (h2 : frX b b' c c') : frX a a' c c' := ⟨fun k u v w => (h2.1 k u v w).trans (h1.1 k u v w), h2.2.1.trans h1.2.1, fun i u v w => (h2.2.2.1 i u v w).trans (h1.2.2.1 i u v w), fun j u v => (h2.2.2.2 j u v).trans (h1.2.2.2 j u v)⟩
theorem RLn_fr {q i : Nat} {T τ T' τ' : qM} (h : RLn T τ i) (hi : i < q) (hf : frL q T τ T' τ') : RLn T' τ' i := by
  obtain ⟨c, w, a1, a2, a3, a4⟩ := h
  have h3 := wOf_3 a1
  obtain ⟨q1, q2, q3, q4, q5, q6, q7, q8⟩ := hf
  exact ⟨c, w, a1, by rw [q3 i (by omega)]; exact a2, by rw [q7 i (by omega)]; exact a3, fun k hk => by rw [q4 _ (by omega), q8 _ (by omega)]; exact a4 k hk⟩
theorem lines_sim {L : Nat} : ∀ (f q p : Nat) (T τ τa : qM), q + f = 61 → 2 * q ≤ p → PP L T τ p → T 0 4 = nI q → τ 0 19 = -1 → (∀ i, i < q → RLn T τ i) → f_X8_readLine τ (nI q) = some (0, τa) → ∃ (x : Int32) (T' τ' : qM) (Q : Nat), q_lim D_X5_readLines 0 T [nI q] = some (x, T') ∧ q_lim D_X8_script 0 τa [nI (q + 1)] = q_lim D_X8_script 2 τ' [nI Q] ∧ frX T τ T' τ' ∧ ((∃ p', p' ≤ 120 ∧ x = nI p' ∧ τ' 0 19 = nI p') ∨ (x = -1 ∧ τ' 0 19 = -1 ∧ T' 0 4 = nI Q ∧ Q ≤ 61 ∧ ∀ i, i < Q → RLn T' τ' i)) := by
  intro f
  induction f with
  | zero =>
    intro q p T τ τa hk h2 hP
    have u1 := hP.1
    have u2 := hP.2.1
    exfalso
    omega
  | succ f ih =>
    intro q p T τ τa hk h2 hP h4 hf hl hra
    obtain ⟨r, T1, τ1, p1, e1, e2, e3, e4, e5⟩ := line_sim hP (q := q) (by omega) h4 hf
    have ha : τa = τ1 := congrArg Prod.snd (Option.some.inj (hra.symm.trans e2))
    subst ha
    obtain ⟨hL, hp1, h1, h5, h17, h18, hB⟩ := id e3
    have fx := frX_L e4 hP e3
    have V : ∀ go : qB, D_X5_readLines go 0 T [nI q] = if r = 0 then some (nI p1, T1) else if nI p1 = nI L then some (-1, q_wr T1 0 4 (nI (q + 1))) else q_rd T1 1 120 (nI p1) fun x16 => if x16 = 59 then go 0 (q_wr (q_wr T1 0 4 (nI (q + 1))) 0 5 (nI (p1 + 1))) [nI (q + 1)] else some (nI p1, q_wr T1 0 4 (nI (q + 1))) := fun go => by
      show b_X5_readLines_12 go T (nI q) = _
      unfold b_X5_readLines_12
      simp only [p_nmx]
      rw [if_neg (show ¬ (120 : Int32) ≤ nI q from nI_ge (b := 120) (by omega) (by decide)), e1, p_cl, e4.2.1, h4, nI_1, p_wrj (i := 4) (j := 5) (by decide), p_wrj (i := 4) (j := 1) (by decide), h5, h1, nI_1]
      have hk : q_rd (q_wr T1 0 4 (nI (q + 1))) 1 120 (nI p1) = q_rd T1 1 120 (α := Int32 × qM) (nI p1) := by
        funext K
        unfold q_rd
        rw [p_wrk (by decide)]
      rw [hk]
    rcases e5 with ⟨z1, z2⟩ | ⟨z1, z2, z3, z4⟩
    · refine ⟨nI p1, T1, τa, q + 1, q_lim_ret (fun go => by rw [V go, if_pos z1]), ?_, fx, Or.inl ⟨p1, by omega, rfl, z2⟩⟩
      have c0 : (0 : Int32) ≤ nI p1 := nI_pos' (by omega)
      rw [q_lim_eq (j := 1) (τ := τa) (ys := [nI (q + 1)]) (fun go => ?_)]
      · refine q_lim_eq (fun go => ?_)
        rw [D_sc_1]
        unfold b_X8_script_54
        simp only [p_nmx]
        rw [z2, if_pos c0]
      · rw [D_sc_0]
        unfold b_X8_script_17
        simp only [p_nmx]
        rw [z2, if_pos c0]
    · have nr : ¬ r = 0 := by rw [z1]; decide
      obtain ⟨T2, hT2⟩ : ∃ z, z = q_wr T1 0 4 (nI (q + 1)) := ⟨_, rfl⟩
      rw [← hT2] at V
      have fx2 : frX T τ T2 τa := fx.trans ⟨fun k u _ _ => by rw [hT2, p_wrk u], by rw [hT2, p_wrj (by decide)], fun _ _ _ _ => rfl, fun _ _ _ => rfl⟩
      have l2 : ∀ i, i < q + 1 → RLn T2 τa i := fun i hi => by
        have h0 : RLn T1 τa i := by
          by_cases y : i = q
          · rw [y]; exact z4
          · exact RLn_fr (hl i (by omega)) (by omega) e4
        obtain ⟨c, w, a1, a2, a3, a4⟩ := h0
        exact ⟨c, w, a1, by rw [hT2, p_wrk (by decide)]; exact a2, a3, fun k hk => by rw [hT2, p_wrk (by decide)]; exact a4 k hk⟩
      have n0 : ¬ (0 : Int32) ≤ -1 := by decide
      have R0 : ∀ go : qB, D_X8_script go 0 τa [nI (q + 1)] = if hrI L p1 (τa 14) = 59 then (q_cl (f_X8_readLine (q_wr τa 0 18 (nI (p1 + 1))) (nI (q + 1))) (fun τ => τ) fun _ s14 => go 0 s14 [nI (q + 1 + 1)]) else go 1 τa [nI (q + 1)] := fun go => by
        rw [D_sc_0]
        unfold b_X8_script_17
        simp only [p_nmx]
        rw [z2, if_neg n0, hereS hL hp1 h17 h18, p_cl, h18, nI_1, nI_1]
      have R1 : ∀ go : qB, D_X8_script go 1 τa [nI (q + 1)] = if nI L ≤ nI p1 then go 2 τa [nI (q + 1)] else go 2 (q_wr τa 0 19 (nI p1)) [nI (q + 1)] := fun go => by
        rw [D_sc_1]
        unfold b_X8_script_54
        simp only [p_nmx]
        rw [z2, if_neg n0, h18, h17]
      by_cases y : p1 = L
      · have hh : ¬ hrI L p1 (τa 14) = 59 := by
          rw [show hrI L p1 (τa 14) = -1 from if_neg (by omega)]; decide
        refine ⟨-1, T2, τa, q + 1, q_lim_ret (fun go => by rw [V go, if_neg nr, if_pos (congrArg nI y)]), ?_, fx2, Or.inr ⟨rfl, z2, by rw [hT2, p_wrs], by omega, l2⟩⟩
        rw [q_lim_eq (fun go => by rw [R0 go, if_neg hh])]
        exact q_lim_eq (fun go => by rw [R1 go, if_pos (nI_le (by omega) (by omega))])
      · have lt : p1 < L := by omega
        have ny : ¬ nI p1 = nI L := fun z => y (p_inj (by omega) (by omega) z)
        have hh : hrI L p1 (τa 14) = τa 14 p1 := if_pos lt
        have V1 : ∀ go : qB, D_X5_readLines go 0 T [nI q] = if τa 14 p1 = 59 then go 0 (q_wr T2 0 5 (nI (p1 + 1))) [nI (q + 1)] else some (nI p1, T2) := fun go => by
          rw [V go, if_neg nr, if_neg ny, q_rd_n (by omega) (by decide), hB p1 lt]
        rw [hh] at R0
        by_cases s : τa 14 p1 = 59
        · obtain ⟨τ2, hτ2⟩ : ∃ z, z = q_wr τa 0 18 (nI (p1 + 1)) := ⟨_, rfl⟩
          obtain ⟨T3, hT3⟩ : ∃ z, z = q_wr T2 0 5 (nI (p1 + 1)) := ⟨_, rfl⟩
          have P2 : PP L T3 τ2 (p1 + 1) := ⟨hL, lt, by rw [hT3, p_wrj (by decide), hT2, p_wrj (by decide)]; exact h1, by rw [hT3, p_wrs], by rw [hτ2, p_wrj (by decide)]; exact h17, by rw [hτ2, p_wrs], fun i hi => by rw [hT3, p_wrk (by decide), hT2, p_wrk (by decide), hτ2, p_wrk (by decide)]; exact hB i hi⟩
          have t4 : T3 0 4 = nI (q + 1) := by rw [hT3, p_wrj (by decide), hT2, p_wrs]
          have t9 : τ2 0 19 = -1 := by rw [hτ2, p_wrj (by decide)]; exact z2
          have tl : ∀ i, i < q + 1 → RLn T3 τ2 i := fun i hi => by
            obtain ⟨c, w, a1, a2, a3, a4⟩ := l2 i hi
            exact ⟨c, w, a1, by rw [hT3, p_wrk (by decide)]; exact a2, by rw [hτ2, p_wrk (by decide)]; exact a3, fun k hk => by rw [hT3, p_wrk (by decide), hτ2, p_wrk (by decide)]; exact a4 k hk⟩
          have q60 : q + 1 < 120 := by omega
          obtain ⟨r9, T9, τ9, p9, i1, i2, -⟩ := line_sim P2 (q := q + 1) q60 t4 t9
          obtain ⟨x, T', τ', Q, j1, j2, j3, j4⟩ := ih (q + 1) (p1 + 1) T3 τ2 τ9 (by omega) (by omega) P2 t4 t9 tl i2
          refine ⟨x, T', τ', Q, ?_, ?_, (fx2.trans ⟨fun k u _ _ => by rw [hT3, p_wrk u], by rw [hT3, p_wrj (by decide)], fun i u _ _ => by rw [hτ2, p_wrk u], fun j u _ => by rw [hτ2, p_wrj u]⟩).trans j3, j4⟩
          · rw [q_lim_eq (fun go => by rw [V1 go, if_pos s, ← hT3])]
            exact j1
          · rw [q_lim_eq (fun go => by rw [R0 go, if_pos s, ← hτ2, i2, p_cl])]
            exact j2
        · refine ⟨nI p1, T2, q_wr τa 0 19 (nI p1), q + 1, q_lim_ret (fun go => by rw [V1 go, if_neg s]), ?_, fx2.trans ⟨fun _ _ _ _ => rfl, rfl, fun i u _ _ => p_wrk u, fun j _ v => p_wrj v⟩, Or.inl ⟨p1, by omega, rfl, p_wrs _ _ _ _⟩⟩
          rw [q_lim_eq (fun go => by rw [R0 go, if_neg s])]
          exact q_lim_eq (fun go => by rw [R1 go, if_neg (nI_ge lt (by omega))])
