/-! a packet -/
theorem packet_loop {n m : Nat} {b q : Nat} (hb : b < n) (hq : q ≤ 40) (x4 : Int32) : ∀ (f k at1 : Nat) (K : Nat → Nat) (σ τ : qM), k + f = q → at1 < n → RNp n m K (q_sub 22 σ) (τ 1) → ∃ (r : Int32) (σ' τ' : qM), q_lim D_X7_packet 0 σ [nI b, nI q, x4, nI at1, nI k] = some (r, σ') ∧ q_lim D_X8_packet 0 τ [nI b, nI q, x4, nI at1, nI k] = some (r, q_sw τ') ∧ frT σ τ σ' τ' := by
  have fin : ∀ (at1 k : Nat) (σ τ : qM), ∃ r : Int32, q_lim D_X7_packet 1 σ [x4, nI at1, nI k] = some (r, σ) ∧ q_lim D_X8_packet 1 τ [x4, nI at1, nI k] = some (r, q_sw τ) := fun at1 k σ τ => by
    have V : ∀ go : qB, D_X7_packet go 1 σ [x4, nI at1, nI k] = if x4 = 0 then some (nI at1, σ) else some (nI k, σ) := fun go => rfl
    have R : ∀ go : qB, D_X8_packet go 1 τ [x4, nI at1, nI k] = if x4 = 0 then some (nI at1, q_sw τ) else some (nI k, q_sw τ) := fun go => by
      show b_X8_packet_90 go τ x4 (nI at1) (nI k) = _
      unfold b_X8_packet_90
      rw [wakeR, p_cl]
    by_cases c : x4 = 0
    · exact ⟨nI at1, q_lim_ret (fun go => by rw [V go, if_pos c]), q_lim_ret (fun go => by rw [R go, if_pos c])⟩
    · exact ⟨nI k, q_lim_ret (fun go => by rw [V go, if_neg c]), q_lim_ret (fun go => by rw [R go, if_neg c])⟩
  intro f
  induction f with
  | zero =>
    intro k at1 K σ τ hk ha h
    have hk : k = q := by omega
    subst hk
    obtain ⟨r, f1, f2⟩ := fin at1 k σ τ
    refine ⟨r, σ, τ, ?_, ?_, frT.rf σ τ⟩
    · rw [q_lim_eq (j := 1) (τ := σ) (ys := [x4, nI at1, nI k]) (fun go => ?_)]
      · exact f1
      · show b_X7_packet_57 go σ (nI b) (nI k) x4 (nI at1) (nI k) = _
        unfold b_X7_packet_57
        rw [if_pos (nI_le (Nat.le_refl _) (by omega))]
    · rw [q_lim_eq (j := 1) (τ := τ) (ys := [x4, nI at1, nI k]) (fun go => ?_)]
      · exact f2
      · show b_X8_packet_48 go τ (nI b) (nI k) x4 (nI at1) (nI k) = _
        unfold b_X8_packet_48
        rw [if_pos (nI_le (Nat.le_refl _) (by omega))]
  | succ f ih =>
    intro k at1 K σ τ hk ha h
    have hn := h.1.1
    obtain ⟨r2, K2, net2, τ2, c1, c2, c3, c4, -⟩ := round_sim h
    obtain ⟨o, n1, n2⟩ := nextR h.2.2 hn ha hb
    have hp : q_put 23 7 σ (q_sub 23 σ) = σ := p_put_sub 23 7 σ
    have V : ∀ go : qB, D_X7_packet go 0 σ [nI b, nI q, x4, nI at1, nI k] = if nI at1 = nI b then go 1 σ [x4, nI at1, nI k] else if σ 24 (10 * at1 + b) = -1 ∨ 16 ≤ σ 24 (10 * at1 + b) then go 1 σ [x4, nI at1, nI k] else go 0 (q_put 22 21 σ net2) [nI b, nI q, x4, σ 25 (10 * at1 + b), nI (k + 1)] := fun go => by
      show b_X7_packet_57 go σ (nI b) (nI q) x4 (nI at1) (nI k) = _
      unfold b_X7_packet_57
      simp only [p_nm]
      rw [if_neg (nI_ge (by omega) (by omega)), p_cell, reachesS (by omega), p_cl, hp, q_rd_n (by omega) (by decide), c1, p_cl, nI_1]
      by_cases w0 : nI at1 = nI b
      · rw [if_pos w0, if_pos w0]
      · rw [if_neg w0, if_neg w0]
        show (if (if σ 24 (10 * at1 + b) = -1 ∨ 16 ≤ σ 24 (10 * at1 + b) then (0 : Int32) else 1) = 0 then _ else _) = _
        by_cases w : σ 24 (10 * at1 + b) = -1 ∨ 16 ≤ σ 24 (10 * at1 + b)
        · rw [if_pos w, if_pos rfl, if_pos w]
        · rw [if_neg w, if_neg ne10, if_neg w]
    have R : ∀ go : qB, D_X8_packet go 0 τ [nI b, nI q, x4, nI at1, nI k] = if nI at1 = nI b then go 1 τ [x4, nI at1, nI k] else if lo o < 0 then go 1 τ [x4, nI at1, nI k] else go 0 τ2 [nI b, nI q, x4, lo o, nI (k + 1)] := fun go => by
      show b_X8_packet_48 go τ (nI b) (nI q) x4 (nI at1) (nI k) = _
      unfold b_X8_packet_48
      simp only [p_nm]
      rw [if_neg (nI_ge (by omega) (by omega)), n1, p_cl, n1, p_cl, c2, p_cl, nI_1]
    obtain ⟨r, f1, f2⟩ := fin at1 k σ τ
    by_cases w0 : nI at1 = nI b
    · exact ⟨r, σ, τ, by rw [q_lim_eq (fun go => by rw [V go, if_pos w0])]; exact f1, by rw [q_lim_eq (fun go => by rw [R go, if_pos w0])]; exact f2, frT.rf σ τ⟩
    · rcases n2 with ⟨rfl, w⟩ | ⟨v, rfl, v1, w, w3⟩
      · have w : σ 24 (10 * at1 + b) = -1 ∨ 16 ≤ σ 24 (10 * at1 + b) := w
        exact ⟨r, σ, τ, by rw [q_lim_eq (fun go => by rw [V go, if_neg w0, if_pos w])]; exact f1, by rw [q_lim_eq (fun go => by rw [R go, if_neg w0, show lo none = -1 from rfl, if_pos (show (-1 : Int32) < 0 by decide)])]; exact f2, frT.rf σ τ⟩
      · have w : ¬ (σ 24 (10 * at1 + b) = -1 ∨ 16 ≤ σ 24 (10 * at1 + b)) := w
        have w3 : σ 25 (10 * at1 + b) = nI v := w3
        obtain ⟨r3, σ3, τ3, d1, d2, d3⟩ := ih (k + 1) v K2 (q_put 22 21 σ net2) τ2 (by omega) v1 (RNp_put22 c3)
        exact ⟨r3, σ3, τ3, by rw [q_lim_eq (fun go => by rw [V go, if_neg w0, if_neg w, w3])]; exact d1, by rw [q_lim_eq (fun go => by rw [R go, if_neg w0, show lo (some v) = nI v from rfl, if_neg (nI_pos (by omega))])]; exact d2, (frT_M c4).trans d3⟩
theorem N_packet (x1 x2 x3 x4 : Int32) : simN (fun σ => f_X7_packet σ x1 x2 x3 x4) (fun τ => f_X8_packet τ x1 x2 x3 x4) := fun n m K σ τ h => by
  have hL := h.1
  have hn := hL.1
  have v3 : σ 1 3 = nI n := hL.2.2.2.1
  have r0 : τ 1 0 = nI n := hL.2.2.1
  by_cases i1 : isN n x1
  · obtain ⟨a, ha, rfl⟩ := i1
    by_cases i2 : isN n x2
    · obtain ⟨b, hb, rfl⟩ := i2
      obtain ⟨W', σ1, τ1, a1, a2, a3, a4, a5, a6, a7⟩ := think_sim h
      have V0 : f_X7_packet σ (nI a) (nI b) x3 x4 = (if x3 < 1 then some (-1, σ) else if (40 : Int32) < x3 then some (-1, σ) else if x4 < 0 then some (-1, σ) else if x4 ≤ 1 then q_lim D_X7_packet 0 σ1 [nI b, x3, x4, nI a, 0] else some (-1, σ)) := by
        unfold f_X7_packet e_X7_packet
        rw [noRouter_y v3 (by omega) ha, p_cl, if_pos rfl, noRouter_y v3 (by omega) hb, p_cl, if_pos rfl, a1, p_cl, a2]
      have R0 : f_X8_packet τ (nI a) (nI b) x3 x4 = (if (1 : Int32) ≤ x3 ∧ x3 ≤ 40 then (if (0 : Int32) ≤ x4 ∧ x4 ≤ 1 then q_lim D_X8_packet 0 τ1 [nI b, x3, x4, nI a, 0] else some (-1, τ)) else some (-1, τ)) := by
        unfold f_X8_packet e_X8_packet
        rw [isRouter_y r0 (by omega) ha, p_cl, if_neg ne10, isRouter_y r0 (by omega) hb, p_cl, if_neg ne10, inS, p_cl]
        by_cases c : (1 : Int32) ≤ x3 ∧ x3 ≤ 40
        · rw [if_pos c, if_neg ne10, inS, p_cl, if_pos c]
          by_cases c2 : (0 : Int32) ≤ x4 ∧ x4 ≤ 1
          · rw [if_pos c2, if_neg ne10, a3, p_cl, if_pos c2]
          · rw [if_neg c2, if_pos rfl, if_neg c2]
        · rw [if_neg c, if_pos rfl, if_neg c]
      by_cases c : (1 : Int32) ≤ x3 ∧ x3 ≤ 40
      · by_cases c2 : (0 : Int32) ≤ x4 ∧ x4 ≤ 1
        · rw [if_neg (i_nlt.mpr c.1), if_neg (i_nlt.mpr c.2), if_neg (i_nlt.mpr c2.1), if_pos c2.2] at V0
          rw [if_pos c, if_pos c2] at R0
          obtain ⟨q, hq, rfl⟩ := nI_of2 (M := 40) (n := 40) rfl (fun z => absurd (Int32.le_trans c.1 (Int32.le_of_lt z)) (by decide)) c.2
          obtain ⟨r, σ2, τ2, b1, b2, b3⟩ := packet_loop hb hq x4 q 0 a K σ1 τ1 (by omega) ha a4
          have aw := awakeT h a5 a6 a7 b3
          exact ⟨r, σ2, q_sw τ2, n, m, K, by show f_X7_packet σ (nI a) (nI b) (nI q) x4 = _; rw [V0]; exact b1, by show f_X8_packet τ (nI a) (nI b) (nI q) x4 = _; rw [R0]; exact b2, aw.1, aw.2.1, aw.2.2⟩
        · rw [if_neg (i_nlt.mpr c.1), if_neg (i_nlt.mpr c.2)] at V0
          rw [if_pos c, if_neg c2] at R0
          refine simN_same h (r := -1) ?_ R0
          show f_X7_packet σ (nI a) (nI b) x3 x4 = _
          rw [V0]
          by_cases w : x4 < 0
          · rw [if_pos w]
          · rw [if_neg w, if_neg (fun z => c2 ⟨i_nlt.mp w, z⟩)]
      · rw [if_neg c] at R0
        refine simN_same h (r := -1) ?_ R0
        show f_X7_packet σ (nI a) (nI b) x3 x4 = _
        rw [V0]
        by_cases w : x3 < 1
        · rw [if_pos w]
        · rw [if_neg w, if_pos (i_nle.mp (fun z => c ⟨i_nlt.mp w, z⟩))]
    · refine simN_same h (r := -1) ?_ ?_
      · show f_X7_packet σ (nI a) x2 x3 x4 = _
        unfold f_X7_packet e_X7_packet
        rw [noRouter_y v3 (by omega) ha, p_cl, if_pos rfl, noRouter_n v3 (by omega) i2, p_cl, if_neg ne10]
      · show f_X8_packet τ (nI a) x2 x3 x4 = _
        unfold f_X8_packet e_X8_packet
        rw [isRouter_y r0 (by omega) ha, p_cl, if_neg ne10, isRouter_n r0 (by omega) i2, p_cl, if_pos rfl]
  · refine simN_same h (r := -1) ?_ ?_
    · show f_X7_packet σ x1 x2 x3 x4 = _
      unfold f_X7_packet e_X7_packet
      rw [noRouter_n v3 (by omega) i1, p_cl, if_neg ne10]
    · show f_X8_packet τ x1 x2 x3 x4 = _
      unfold f_X8_packet e_X8_packet
      rw [isRouter_n r0 (by omega) i1, p_cl, if_pos rfl]
/-! the worst cut -/
theorem cut_sim {n m : Nat} {K : Nat → Nat} {net τ : qM} (h : RNp n m K net (τ 1)) {k : Nat} (hk : k < m) (hup : τ 1 (100 + k) = 1) : ∃ net' τ', f_X3_switchLink net (nI k) = some (0, net') ∧ f_X8_cut τ (nI k) = some (0, τ') ∧ RNp n m K net' (τ' 1) ∧ ∀ i, i ≠ 1 → τ' i = τ i := by
  have hL := h.1
  have hn := hL.1
  have hm := hL.2.1
  obtain ⟨a, b, c, w1, w2, w3, w4, w5, w6, w7, w8, w9, w10, w11, w12⟩ := hL.2.2.2.2.2.2.2.2.2.2.2.2.1 k hk
  have g19 : net 19 k = 1 := w11.trans hup
  have hA := RNp_up h hk (v := 0) (Or.inl rfl)
  obtain ⟨net1, hnet1⟩ : ∃ z, z = q_wr net 19 k 0 := ⟨_, rfl⟩
  obtain ⟨τ1, hτ1⟩ : ∃ z, z = q_wr τ 1 (100 + k) 0 := ⟨_, rfl⟩
  rw [← hnet1, ← up1_wr, ← hτ1] at hA
  obtain ⟨net2, c1, c2⟩ := loseC (net := net1) (n := n) (a := a) (b := nI b) hn hA.1.2.2.2.1 (by omega)
  obtain ⟨τ2, d1, d2, d3⟩ := loseR (τ := τ1) (a := a) (k0 := K a) (b := nI b) (by omega) (Nat.le_trans (hA.2.2.le hn (by omega)) hn) (hA.2.2.1 a (by omega)).1
  have hB := RNp_lose hA (by omega) c2 d2
  obtain ⟨net3, c3, c4⟩ := loseC (net := net2) (n := n) (a := b) (b := nI a) hn hB.1.2.2.2.1 (by omega)
  obtain ⟨τ3, d4, d5, d6⟩ := loseR (τ := τ2) (a := b) (k0 := K b) (b := nI a) (by omega) (Nat.le_trans (hB.2.2.le hn (by omega)) hn) (hB.2.2.1 b (by omega)).1
  have hC := RNp_lose hB w2 c4 d5
  have k16 : ∀ (i : Nat), i = 16 ∨ i = 17 → net1 i k = net i k ∧ net2 i k = net i k := fun i hi => by
    have q1 : net1 i = net i := by rw [hnet1, p_wrk (by omega)]
    exact ⟨by rw [q1], by rw [c2.2.2.2 i (by omega) (by omega) (by omega), q1]⟩
  have t10 : ∀ (i : Nat), i < 70 → τ1 1 i = τ 1 i ∧ τ2 1 i = τ 1 i := fun i hi => by
    have q1 : τ1 1 i = τ 1 i := by rw [hτ1, p_wrj (by omega)]
    exact ⟨q1, by rw [d2.2.2.2 i (by omega), q1]⟩
  refine ⟨net3, τ3, ?_, ?_, hC, fun i hi => by rw [d6 i hi, d3 i hi, hτ1, p_wrk hi]⟩
  · unfold f_X3_switchLink
    simp only [p_nm]
    rw [q_rd_n (by omega) (by decide), g19, show (1 : Int32) - 1 = 0 by decide, q_wt_n (by omega) (by decide), q_rd_n (by omega) (by decide), p_wrs, if_pos rfl, ← hnet1, q_rd_n (by omega) (by decide), q_rd_n (by omega) (by decide), (k16 16 (Or.inl rfl)).1, (k16 17 (Or.inr rfl)).1, w6, w8, c1, p_cl, q_rd_n (by omega) (by decide), q_rd_n (by omega) (by decide), (k16 16 (Or.inl rfl)).2, (k16 17 (Or.inr rfl)).2, w6, w8, c3, p_cl]
  · unfold f_X8_cut
    simp only [p_nm]
    rw [a100, q_wt_n (by omega) (by decide), ← hτ1, a10, a40, q_rd_n (by omega) (by decide), q_rd_n (by omega) (by decide), (t10 _ (by omega)).1, (t10 _ (by omega)).1, w5, w7, d1, p_cl, q_rd_n (by omega) (by decide), q_rd_n (by omega) (by decide), (t10 _ (by omega)).2, (t10 _ (by omega)).2, w5, w7, d4, p_cl]
/-- how long a settling takes, in the class's words and in the reference's -/
def stl (r r' : Int32) : Prop := (∃ q, q ≤ 80 ∧ r = nI q ∧ r' = nI q) ∨ (r = 81 ∧ r' = 1000)
theorem stl_le {a a' b b' : Int32} (ha : stl a a') (hb : stl b b') : a ≤ b ↔ ¬ b' < a' := by
  rcases ha with ⟨p, hp, rfl, rfl⟩ | ⟨rfl, rfl⟩ <;> rcases hb with ⟨q, hq, rfl, rfl⟩ | ⟨rfl, rfl⟩
  · rw [nI_leI (by omega) (by omega), nI_ltI (by omega) (by omega)]; omega
  · exact ⟨fun _ => show ¬ (1000 : Int32) < nI p from nI_nlt (a := 1000) (b := p) (by omega) (by decide), fun _ => show nI p ≤ 81 from nI_le (b := 81) (by omega) (by decide)⟩
  · exact ⟨fun z => absurd z (show ¬ (81 : Int32) ≤ nI q from nI_ge (b := 81) (by omega) (by decide)), fun z => absurd (show nI q < 1000 from nI_lt (b := 1000) (by omega) (by decide)) z⟩
  · exact ⟨fun _ => by decide, fun _ => by decide⟩
theorem cutOnce {n m : Nat} {K : Nat → Nat} {σc τc : qM} (g4 : RNp n m K (q_sub 1 σc) (τc 1)) {k : Nat} (hk : k < m) (u : τc 1 (100 + k) = 1) : ∃ (r r2 : Int32) (σ3 τ3 : qM), stl r r2 ∧ (∀ (x1 x2 : Int32) (go : qB), D_X7_worstCut go 0 σc [x1, x2, nI k] = if r ≤ x2 then go 0 σ3 [x1, x2, nI (k + 1)] else go 0 σ3 [nI k, r, nI (k + 1)]) ∧ (∀ y1 y2 : Int32, q_lim D_X8_worstCut 0 τc [y1, y2, nI k] = q_lim D_X8_worstCut 1 τ3 [y1, y2, nI k, r2]) ∧ RNp n m K (q_sub 1 σ3) (τ3 1) ∧ frV σc σ3 ∧ frR τc τ3 := by
  have hm := g4.1.2.1
  obtain ⟨a, b, c, w1, w2, w3, w4, w5, w6, w7, w8, w9, w10, w11, w12⟩ := g4.1.2.2.2.2.2.2.2.2.2.2.2.2.1 k hk
  have w11 : σc 20 k = τc 1 (100 + k) := w11
  have v5 : σc 16 5 = nI m := g4.1.2.2.2.2.2.1
  have r1 : τc 1 1 = nI m := g4.1.2.2.2.2.1
  obtain ⟨W', σ1, τ1, a1, a2, a3, a4, a5, a6, a7⟩ := think_sim g4
  have hs : τ1 1 (100 + k) = 1 := by
    obtain ⟨t, b1, -, b3, -⟩ := thinkR τc
    rw [a3] at b1
    have e : τ1 = t := congrArg Prod.snd (Option.some.inj b1)
    rw [e]
    exact (b3 (100 + k) (by omega)).trans u
  obtain ⟨net2, τ2, c1, c2, c3, c4⟩ := cut_sim a4 hk hs
  obtain ⟨σ2, hσ2⟩ : ∃ y, y = q_put 22 21 σ1 net2 := ⟨_, rfl⟩
  have h2 : RNp n m K (q_sub 22 σ2) (τ2 1) := by rw [hσ2]; exact RNp_put22 c3
  obtain ⟨r, r', K', net3, τ3, d1, d2, d3, d4, d5⟩ := settleN_sim h2
  have fr : frT σ1 τ1 (q_put 22 21 σ2 net3) τ3 := by
    refine frT.trans (b := σ2) (b' := τ2) ?_ (frT_M d5)
    rw [hσ2]; exact frT_1 c4
  obtain ⟨aw1, aw2, aw3⟩ := awakeT g4 a5 a6 a7 fr
  obtain ⟨r2, hr2⟩ : ∃ y : Int32, y = if r' = -2 then 1000 else r' := ⟨_, rfl⟩
  have st : stl r r2 := by
    rcases d3 with ⟨q, hq, e1, e2⟩ | ⟨e1, e2⟩
    · refine Or.inl ⟨q, hq, e1, ?_⟩
      rw [hr2, e2, if_neg (fun y => by
        have := nI_pos' (n := q) (by omega)
        rw [y] at this
        exact absurd this (by decide))]
    · refine Or.inr ⟨e1, ?_⟩
      rw [hr2, e2, if_pos rfl]
  refine ⟨r, r2, _, q_sw τ3, st, fun x1 x2 go => ?_, fun y1 y2 => q_lim_eq (fun go => ?_), aw1, aw2, aw3⟩
  · show b_X7_worstCut_7 go σc x1 x2 (nI k) = _
    unfold b_X7_worstCut_7
    simp only [p_nm]
    rw [v5, if_neg (nI_ge hk (by omega)), q_rd_n (by omega) (by decide), w11, u, if_pos rfl, a1, p_cl, a2, c1, p_cl, ← hσ2, d1, p_cl, nI_1]
  · show b_X8_worstCut_7 go τc y1 y2 (nI k) = _
    unfold b_X8_worstCut_7
    simp only [p_nm]
    rw [rd1_1, r1, if_neg (nI_ge hk (by omega)), a100, q_rd_n (by omega) (by decide), u, if_neg ne10, a3, p_cl, c2, p_cl, d2, p_cl, wakeR, p_cl, hr2]
    by_cases y : r' = -2
    · rw [if_pos y, if_pos y]
    · rw [if_neg y, if_neg y]
theorem cutSkip {τc : qM} {m k : Nat} (r1 : τc 1 1 = nI m) (hk : k < m) (hm : m ≤ 24) (u : τc 1 (100 + k) = 0) (y1 y2 : Int32) : q_lim D_X8_worstCut 0 τc [y1, y2, nI k] = q_lim D_X8_worstCut 0 τc [y1, y2, nI (k + 1)] := q_lim_eq (fun go => by
  show b_X8_worstCut_7 go τc y1 y2 (nI k) = _
  unfold b_X8_worstCut_7
  simp only [p_nm]
  rw [rd1_1, r1, if_neg (nI_ge hk (by omega)), a100, q_rd_n (by omega) (by decide), u, if_pos (show (0 : Int32) = 0 from rfl), nI_1])
theorem cutNext {τ : qM} (go : qB) (y1 y2 x r2 : Int32) : D_X8_worstCut go 1 τ [y1, y2, x, r2] = if y1 < 0 then go 0 τ [x, r2, x + 1] else if y2 < r2 then go 0 τ [x, r2, x + 1] else go 0 τ [y1, y2, x + 1] := by
  unfold D_X8_worstCut
  rw [if_neg (show ¬ (1 : Nat) = 0 by decide), if_pos (show (1 : Nat) = 1 from rfl)]
  show b_X8_worstCut_66 go τ y1 y2 x r2 = _
  unfold b_X8_worstCut_66
  simp only [p_nm]
theorem N_worstCut : simN f_X7_worstCut f_X8_worstCut := fun n m K σ τ h => by
  have hm := h.1.2.1
  obtain ⟨σ2, xs2, ⟨x1, x2, y1, y2, τ2, e1, e2, e3, e4, e5, e6⟩, e7⟩ := q_run (D := D_X7_worstCut) (i := 0) (I := fun k σc xs => ∃ (x1 x2 y1 y2 : Int32) (τc : qM), xs = [x1, x2, nI k] ∧ q_lim D_X8_worstCut 0 τ [-2, 0, 0] = q_lim D_X8_worstCut 0 τc [y1, y2, nI k] ∧ ((x1 = -2 ∧ x2 = -1 ∧ y1 = -2) ∨ ((∃ j, j < 24 ∧ x1 = nI j ∧ y1 = nI j) ∧ stl x2 y2)) ∧ RNp n m K (q_sub 1 σc) (τc 1) ∧ frV σ σc ∧ frR τ τc) m (fun k σc xs hk hI => by
    obtain ⟨x1, x2, y1, y2, τc, rfl, g2, g3, g4, g5, g6⟩ := hI
    obtain ⟨a, b, c, w1, w2, w3, w4, w5, w6, w7, w8, w9, w10, w11, w12⟩ := g4.1.2.2.2.2.2.2.2.2.2.2.2.2.1 k hk
    have w11 : σc 20 k = τc 1 (100 + k) := w11
    have v5 : σc 16 5 = nI m := g4.1.2.2.2.2.2.1
    have r1 : τc 1 1 = nI m := g4.1.2.2.2.2.1
    rcases w12 with u | u
    · refine ⟨σc, _, ⟨x1, x2, y1, y2, τc, rfl, ?_, g3, g4, g5, g6⟩, q_lim_eq (fun go => ?_)⟩
      · exact g2.trans (cutSkip r1 hk (by omega) u y1 y2)
      · show b_X7_worstCut_7 go σc x1 x2 (nI k) = _
        unfold b_X7_worstCut_7
        simp only [p_nm]
        rw [v5, if_neg (nI_ge hk (by omega)), q_rd_n (by omega) (by decide), w11, u, if_neg (show ¬ (0 : Int32) = 1 by decide), nI_1]
    · obtain ⟨r, r2, σ3, τ3, st, V, R0, aw1, aw2, aw3⟩ := cutOnce g4 hk u
      have R1 := fun go => cutNext (τ := τ3) go y1 y2 (nI k) r2
      simp only [nI_1] at R1
      rcases g3 with ⟨rfl, rfl, rfl⟩ | ⟨⟨j, hj, rfl, rfl⟩, g3⟩
      · refine ⟨_, _, ⟨nI k, r, nI k, r2, τ3, rfl, ?_, Or.inr ⟨⟨k, by omega, rfl, rfl⟩, st⟩, aw1, g5.trans aw2, g6.trans aw3⟩, q_lim_eq (fun go => by
          rw [V _ _ go, if_neg (fun y => by
            rcases st with ⟨q, hq, rfl, -⟩ | ⟨rfl, -⟩
            · exact absurd (Int32.le_trans (nI_pos' (n := q) (by omega)) y) (by decide)
            · exact absurd y (by decide))])⟩
        rw [g2, R0]
        exact q_lim_eq (fun go => by rw [R1 go, if_pos (by decide)])
      · by_cases y : r ≤ x2
        · refine ⟨_, _, ⟨nI j, x2, nI j, y2, τ3, rfl, ?_, Or.inr ⟨⟨j, hj, rfl, rfl⟩, g3⟩, aw1, g5.trans aw2, g6.trans aw3⟩, q_lim_eq (fun go => by rw [V _ _ go, if_pos y])⟩
          rw [g2, R0]
          exact q_lim_eq (fun go => by rw [R1 go, if_neg (nI_pos (by omega)), if_neg ((stl_le st g3).mp y)])
        · refine ⟨_, _, ⟨nI k, r, nI k, r2, τ3, rfl, ?_, Or.inr ⟨⟨k, by omega, rfl, rfl⟩, st⟩, aw1, g5.trans aw2, g6.trans aw3⟩, q_lim_eq (fun go => by rw [V _ _ go, if_neg y])⟩
          rw [g2, R0]
          exact q_lim_eq (fun go => by rw [R1 go, if_neg (nI_pos (by omega)), if_pos (Classical.not_not.mp (fun z => y ((stl_le st g3).mpr z)))])) m 0 σ [-2, -1, nI 0] (by omega) ⟨-2, -1, -2, 0, τ, rfl, rfl, Or.inl ⟨rfl, rfl, rfl⟩, h, frV.rf σ, frR.rf τ⟩
  have hxy : x1 = y1 := by
    rcases e3 with ⟨rfl, -, rfl⟩ | ⟨⟨j, -, rfl, rfl⟩, -⟩
    · rfl
    · rfl
  have v5 : σ2 16 5 = nI m := e4.1.2.2.2.2.2.1
  have r1 : τ2 1 1 = nI m := e4.1.2.2.2.2.1
  refine ⟨x1, σ2, τ2, n, m, K, ?_, ?_, e4, e5, e6⟩
  · show q_lim D_X7_worstCut 0 σ [-2, -1, nI 0] = _
    rw [e7, e1]
    refine q_lim_ret (fun go => ?_)
    show b_X7_worstCut_7 go σ2 x1 x2 (nI m) = _
    unfold b_X7_worstCut_7
    simp only [p_nm]
    rw [v5, if_pos (nI_le (Nat.le_refl _) (by omega))]
  · show q_lim D_X8_worstCut 0 τ [-2, 0, 0] = _
    rw [e2]
    refine q_lim_ret (fun go => ?_)
    show b_X8_worstCut_7 go τ2 y1 y2 (nI m) = _
    unfold b_X8_worstCut_7
    rw [rd1_1, r1, if_pos (nI_le (Nat.le_refl _) (by omega)), hxy]
