def sumN (f : Nat → Nat) : Nat → Nat
  | 0 => 0
  | k + 1 => sumN f k + f k
/-- whether the k-th entry of r is another one than ahead of the round: s0 the row ahead, K0 how many were known, s the row behind -/
def othR (s0 s : Nat → Int32) (K0 : Nat → Nat) (r k : Nat) : Bool := decide (K0 r ≤ k ∨ 100 * s (250 + (10 * r + k)) + s (350 + (10 * r + k)) ≠ 100 * s0 (250 + (10 * r + k)) + s0 (350 + (10 * r + k)))
/-- what a round leaves as it was in the reference -/
def frM (τ τ' : qM) : Prop := (∀ i, (i = 2 ∨ i = 3 ∨ 12 ≤ i) → τ' i = τ i) ∧ ∀ j, j ≠ 10 → τ' 0 j = τ 0 j
theorem frM.trans {a b c : qM} (h1 : frM a b) (h2 : frM b c) : frM a c := ⟨fun i hi => (h2.1 i hi).trans (h1.1 i hi), fun j hj => (h2.2 j hj).trans (h1.2 j hj)⟩
theorem frM.rf (a : qM) : frM a a := ⟨fun _ _ => rfl, fun _ _ => rfl⟩
/-- ahead of the telling -/
theorem roundR0 {n m : Nat} {K : Nat → Nat} {net τ : qM} (h : RNp n m K net (τ 1)) : ∃ τ0, q_lim D_X8_goRound 0 τ [nI 0] = q_lim D_X8_goRound 2 τ0 [nI 0] ∧ AR τ0 τ0 (rb (τ 1) n) [] ∧ (∀ r, r < n → τ0 10 r = nI (K r)) ∧ (∀ e, e < 100 → τ0 11 e = 100 * τ 1 (250 + e) + τ 1 (350 + e)) ∧ frM τ τ0 := by
  obtain ⟨hL, h8, hT⟩ := h
  obtain ⟨hn, hm, l0, l3, l1, l15, l4, l4', l5, l5', l6, l7, ll, lj⟩ := hL
  obtain ⟨s, hs⟩ : ∃ z, z = τ 1 := ⟨_, rfl⟩
  rw [← hs] at l0 l1 l4 l4' l5 l5' l6 l7 ll lj hT h8 ⊢
  -- how many were known
  obtain ⟨τa, xa, ⟨a1, a2, a3⟩, a4⟩ := q_run (D := D_X8_goRound) (i := 0) (I := fun k σ xs => xs = [nI k] ∧ (∀ r, r < k → σ 10 r = nI (K r)) ∧ ∀ i, i ≠ 10 → σ i = τ i) n (fun k σ xs hk hI => by
    obtain ⟨rfl, g1, g2⟩ := hI
    refine ⟨q_wr σ 10 k (nI (K k)), _, ⟨rfl, fun r hr => ?_, fun i hi => by rw [p_wrk hi]; exact g2 i hi⟩, q_lim_eq (fun go => ?_)⟩
    · rw [p_wr]
      by_cases c : r = k
      · rw [if_pos ⟨rfl, c⟩, c]
      · rw [if_neg (fun z => c z.2)]; exact g1 r (by omega)
    · show b_X8_goRound_2 go σ (nI k) = _
      unfold b_X8_goRound_2
      simp only [p_nm]
      rw [rd1_0, g2 1 (by decide), ← hs, l0, if_neg (nI_ge hk (by omega)), a130, q_rd_n (by omega) (by decide), g2 1 (by decide), ← hs, (hT.1 k (by omega)).1, q_wt_n (by omega) (by decide), nI_1]) n 0 τ [nI 0] (by omega) ⟨rfl, fun r hr => by omega, fun _ _ => rfl⟩
  have a4' : q_lim D_X8_goRound 0 τ [nI 0] = q_lim D_X8_goRound 1 τa [nI 0] := by
    rw [a4, a1]
    refine q_lim_eq (fun go => ?_)
    show b_X8_goRound_2 go τa (nI n) = _
    unfold b_X8_goRound_2
    rw [rd1_0, a3 1 (by decide), ← hs, l0, if_pos (nI_le (Nat.le_refl _) (by omega))]
    rfl
  -- what was
  obtain ⟨τb, xb, ⟨b1, b2, b3⟩, b4⟩ := q_run (D := D_X8_goRound) (i := 1) (I := fun k σ xs => xs = [nI k] ∧ (∀ e, e < k → σ 11 e = 100 * s (250 + e) + s (350 + e)) ∧ ∀ i, i ≠ 11 → σ i = τa i) 100 (fun k σ xs hk hI => by
    obtain ⟨rfl, g1, g2⟩ := hI
    have g3 : σ 1 = s := by rw [g2 1 (by decide), a3 1 (by decide), hs]
    refine ⟨q_wr σ 11 k (100 * s (250 + k) + s (350 + k)), _, ⟨rfl, fun r hr => ?_, fun i hi => by rw [p_wrk hi]; exact g2 i hi⟩, q_lim_eq (fun go => ?_)⟩
    · rw [p_wr]
      by_cases c : r = k
      · rw [if_pos ⟨rfl, c⟩, c]
      · rw [if_neg (fun z => c z.2)]; exact g1 r (by omega)
    · show b_X8_goRound_36 go σ (nI k) = _
      unfold b_X8_goRound_36
      simp only [p_nm]
      rw [if_neg (show ¬ ((100 : Int32) ≤ nI k) from by rw [z100]; exact nI_ge hk (by decide)), a250, q_rd_n (by omega) (by decide), a350, q_rd_n (by omega) (by decide), g3, q_wt_n (by omega) (by decide), nI_1]) 100 0 τa [nI 0] (by decide) ⟨rfl, fun e he => by omega, fun _ _ => rfl⟩
  have hb1 : τb 1 = s := by rw [b3 1 (by decide), a3 1 (by decide), hs]
  obtain ⟨b0, hb0⟩ : ∃ z, z = up1 s 5 (s 5 + 1) := ⟨_, rfl⟩
  obtain ⟨τc, hc⟩ : ∃ z, z = q_wr τb 1 5 (s 5 + 1) := ⟨_, rfl⟩
  have hc1 : τc 1 = b0 := by rw [hc, up1_wr, hb1, hb0]
  have hck : ∀ i, i ≠ 1 → τc i = τb i := fun i hi => by rw [hc, p_wrk hi]
  have b03 : b0 3 = s 3 := by rw [hb0, up1_n (by decide)]
  have st1 : ∀ go : qB, D_X8_goRound go 1 τb [nI 100] = (if s 3 = 1 then go 3 τc [nI 0] else go 2 (q_wr τc 0 10 0) [nI 0]) := fun go => by
    show b_X8_goRound_36 go τb (nI 100) = _
    unfold b_X8_goRound_36
    simp only [p_nm]
    rw [if_pos (show (100 : Int32) ≤ nI 100 from by decide), rd1_5, hb1, wt1_5, ← hc, rd1_3, hc1, b03]
    rfl
  -- the sequences
  have fin : ∃ τd, q_lim D_X8_goRound 1 τb [nI 100] = q_lim D_X8_goRound 2 (q_wr τd 0 10 0) [nI 0] ∧ τd 1 = rb s n ∧ ∀ i, i ≠ 1 → τd i = τb i := by
    by_cases c : s 3 = 1
    · obtain ⟨τd, xd, ⟨d1, d2, d3⟩, d4⟩ := q_run (D := D_X8_goRound) (i := 3) (I := fun k σ xs => xs = [nI k] ∧ σ 1 = bmp b0 k ∧ ∀ i, i ≠ 1 → σ i = τc i) n (fun k σ xs hk hI => by
        obtain ⟨rfl, g1, g2⟩ := hI
        refine ⟨q_wr σ 1 (450 + 10 * k) (bmp b0 k (450 + 10 * k) + 2), _, ⟨rfl, by rw [up1_wr, g1]; rfl, fun i hi => by rw [p_wrk hi]; exact g2 i hi⟩, q_lim_eq (fun go => ?_)⟩
        show b_X8_goRound_100 go σ (nI k) = _
        unfold b_X8_goRound_100
        simp only [p_nm]
        have e0 : bmp b0 k 0 = nI n := by rw [bmp_lo (by omega) (by omega), hb0, up1_n (by decide)]; exact l0
        rw [rd1_0, g1, e0, if_neg (nI_ge hk (by omega)), p_10m, a450, q_rd_n (by omega) (by decide), g1, q_wt_n (by omega) (by decide), nI_1]) n 0 τc [nI 0] (by omega) ⟨rfl, hc1, fun _ _ => rfl⟩
      refine ⟨τd, ?_, ?_, fun i hi => by rw [d3 i hi, hck i hi]⟩
      · rw [q_lim_eq (fun go => by rw [st1 go, if_pos c]), d4, d1]
        refine q_lim_eq (fun go => ?_)
        show b_X8_goRound_100 go τd (nI n) = _
        unfold b_X8_goRound_100
        simp only [p_nm]
        have e0 : bmp b0 n 0 = nI n := by rw [bmp_lo (by omega) (by omega), hb0, up1_n (by decide)]; exact l0
        rw [rd1_0, d2, e0, if_pos (nI_le (Nat.le_refl _) (by omega))]
        rfl
      · rw [d2]
        unfold rb bump
        rw [← hb0, b03, if_pos c]
    · refine ⟨τc, by rw [q_lim_eq (fun go => by rw [st1 go, if_neg c])], ?_, hck⟩
      rw [hc1]
      unfold rb bump
      rw [← hb0, b03, if_neg c]
  obtain ⟨τd, d1, d2, d3⟩ := fin
  have dk : ∀ i, i ≠ 0 → q_wr τd 0 10 0 i = τd i := fun i hi => p_wrk hi
  refine ⟨q_wr τd 0 10 0, by rw [a4', b4, b1]; exact d1, ⟨by rw [dk 1 (by decide)]; exact d2, p_wrs _ _ _ _, fun j g hg => by simp at hg, fun _ _ _ _ => rfl, fun _ _ => rfl⟩, fun r hr => ?_, fun e he => ?_, fun i hi => ?_, fun j hj => ?_⟩
  · rw [dk 10 (by decide), d3 10 (by decide), b3 10 (by decide)]; exact a2 r hr
  · rw [dk 11 (by decide), d3 11 (by decide)]; exact b2 e he
  · rw [dk i (by omega), d3 i (by omega), b3 i (by omega), a3 i (by omega)]
  · rw [p_wrj hj, d3 0 (by decide), b3 0 (by decide), a3 0 (by decide)]
/-- the telling -/
theorem roundR1 {n m : Nat} {K : Nat → Nat} {net1 : qM} {b : Nat → Int32} (hB : RB n m K net1 b) (hL : RLk n m net1 b) {τ0 : qM} (h0 : AR τ0 τ0 b []) : ∃ τ1, q_lim D_X8_goRound 2 τ0 [nI 0] = q_lim D_X8_goRound 2 τ1 [nI n] ∧ AR τ0 τ1 b (tmR b n m K n 0) ∧ (tmR b n m K n 0).length ≤ 1000 := by
  have hL0 := hL
  obtain ⟨hn, hm, l0, -, l1, -, -, -, -, -, -, -, ll, -⟩ := hL
  have hKle : ∀ r, r < 10 → K r ≤ 10 := fun r hr => Nat.le_trans (hB.2.1.le hn hr) hn
  obtain ⟨σ', xs', ⟨e1, ms', e2, e3, e4⟩, e5⟩ := q_run (D := D_X8_goRound) (i := 2) (I := fun r σ xs => xs = [nI r] ∧ ∃ ms : List qMsg, AR τ0 σ b ms ∧ ms ++ tmR b n m K (n - r) r = tmR b n m K n 0 ∧ ms.length ≤ 100 * r) n (fun r σ xs hr hI => by
    obtain ⟨rfl, ms, g1, g2, g3⟩ := hI
    have gn : σ 1 0 = nI n := by rw [g1.1]; exact l0
    obtain ⟨σ4, xs4, ⟨p1, ms4, p2, p3, p4⟩, p5⟩ := q_run (D := D_X8_goRound) (i := 5) (I := fun to σ xs => xs = [nI r, nI to] ∧ ∃ ms' : List qMsg, AR τ0 σ b ms' ∧ ms' ++ tmT b m K r (n - to) to = ms ++ tmT b m K r n 0 ∧ ms'.length ≤ 10 * (10 * r + to)) n (fun to σ xs hto hI => by
      obtain ⟨rfl, ms', q1, q2, q3⟩ := hI
      rw [show n - to = (n - (to + 1)) + 1 by omega] at q2
      have q2 : ms' ++ (tmP b m K r to ++ tmT b m K r (n - (to + 1)) (to + 1)) = _ := q2
      have tn : σ 1 0 = nI n := by rw [q1.1]; exact l0
      have tm1 : σ 1 1 = nI m := by rw [q1.1]; exact l1
      have pl : (tmP b m K r to).length ≤ 10 := Nat.le_trans tmP_len (hKle r (by omega))
      -- the link's number
      have s5 : q_lim D_X8_goRound 5 σ [nI r, nI to] = q_lim D_X8_goRound 7 σ [nI r, nI to, lo (lf b m r to)] := q_lim_eq (fun go => by
        show b_X8_goRound_152 go σ (nI r) (nI to) = _
        unfold b_X8_goRound_152
        rw [rd1_0, tn, if_neg (nI_ge hto (by omega))]
        by_cases c : nI to = nI r
        · have : to = r := p_inj (by omega) (by omega) c
          subst this
          rw [if_pos rfl, lf_self hL0 to (by omega)]
          rfl
        · rw [if_neg c, linkOfS (by omega) (by omega) hm tm1, p_cl, q1.1])
      cases hlf : lf b m r to with
      | none =>
        have hP : tmP b m K r to = [] := by unfold tmP; rw [hlf]
        rw [hP] at q2
        refine ⟨σ, _, ⟨rfl, ms', q1, q2, by omega⟩, ?_⟩
        rw [s5, hlf]
        refine q_lim_eq (fun go => ?_)
        show b_X8_goRound_177 go σ (nI r) (nI to) (-1) = _
        unfold b_X8_goRound_177
        simp only [p_nm]
        rw [if_pos (by decide), nI_1]
      | some k =>
        have hk : k < m := by have := q_find_some hlf; omega
        have s7 : ∀ go : qB, D_X8_goRound go 7 σ [nI r, nI to, lo (some k)] = (if b (100 + k) = 1 then (q_cl (f_X8_tell σ (nI r) (nI to) (b (70 + k))) (fun τ => τ) fun _ s72 => go 5 s72 [nI r, nI (to + 1)]) else go 5 σ [nI r, nI (to + 1)]) := fun go => by
          show b_X8_goRound_177 go σ (nI r) (nI to) (nI k) = _
          unfold b_X8_goRound_177
          simp only [p_nm]
          rw [if_neg (nI_pos (by omega)), a100, q_rd_n (by omega) (by decide), q1.1, a70, q_rd_n (by omega) (by decide), q1.1, nI_1]
        by_cases c : b (100 + k) = 1
        · have hP : tmP b m K r to = tmL b r to (b (70 + k)) (K r) 0 := by unfold tmP; rw [hlf]; exact if_pos c
          obtain ⟨τ', v1, v2⟩ := tellR hB q1 hr hto (c := b (70 + k)) q3
          rw [hP] at q2 pl
          refine ⟨τ', _, ⟨rfl, ms' ++ tmL b r to (b (70 + k)) (K r) 0, v2, by rw [List.append_assoc]; exact q2, by rw [List.length_append]; omega⟩, ?_⟩
          rw [s5, hlf]
          exact q_lim_eq (fun go => by rw [s7 go, if_pos c, v1, p_cl])
        · have hP : tmP b m K r to = [] := by unfold tmP; rw [hlf]; exact if_neg c
          rw [hP] at q2
          refine ⟨σ, _, ⟨rfl, ms', q1, q2, by omega⟩, ?_⟩
          rw [s5, hlf]
          exact q_lim_eq (fun go => by rw [s7 go, if_neg c])) n 0 σ [nI r, nI 0] (by omega) ⟨rfl, ms, g1, rfl, by omega⟩
    rw [Nat.sub_self] at p3
    have p3 : ms4 ++ [] = _ := p3
    rw [List.append_nil] at p3
    have hlen := tmT_len (b := b) (m := m) (hKle r (by omega)) n 0
    refine ⟨σ4, _, ⟨rfl, ms4, p2, ?_, by rw [p3, List.length_append]; omega⟩, ?_⟩
    · rw [p3, ← g2, show n - r = (n - (r + 1)) + 1 by omega]
      exact List.append_assoc _ _ _
    · rw [q_lim_eq (j := 5) (τ := σ) (ys := [nI r, nI 0]) (fun go => ?_), p5, p1]
      · refine q_lim_eq (fun go => ?_)
        show b_X8_goRound_152 go σ4 (nI r) (nI n) = _
        unfold b_X8_goRound_152
        simp only [p_nm]
        rw [rd1_0, p2.1, l0, if_pos (nI_le (Nat.le_refl _) (by omega)), nI_1]
      · show b_X8_goRound_140 go σ (nI r) = _
        unfold b_X8_goRound_140
        rw [rd1_0, gn, if_neg (nI_ge hr (by omega))]
        rfl) n 0 τ0 [nI 0] (by omega) ⟨rfl, [], h0, rfl, by decide⟩
  rw [Nat.sub_self] at e3
  have e3 : ms' ++ [] = _ := e3
  rw [List.append_nil] at e3
  exact ⟨σ', by rw [e5, e1], by rw [← e3]; exact e2, by rw [← e3]; omega⟩
