/-! a round: receiving and counting in the reference, and both counts -/
theorem roundR2 {n : Nat} {K : Nat → Nat} {b : Nat → Int32} {ms : List qMsg} (hn : n ≤ 10) (hb : RW n K b) (hb0 : b 0 = nI n) (hok : ∀ g ∈ ms, okM n g) (hlen : ms.length ≤ 1000) {τ0 τ : qM} (h : AR τ0 τ b ms) :
    ∃ τ', q_lim D_X8_goRound 2 τ [nI n] = q_lim D_X8_goRound 6 τ' [nI 0, nI 0] ∧ τ' 1 = up1 (List.foldl recM b ms) 6 (b 6 + nI ms.length) ∧ ∀ i, i ≠ 1 → τ' i = τ i := by
  obtain ⟨h1, h2, h3, h4, h5⟩ := h
  obtain ⟨sF, hsF⟩ : ∃ z, z = List.foldl recM (up1 b 6 (b 6 + nI ms.length)) ms := ⟨_, rfl⟩
  obtain ⟨net, hT⟩ := hb
  have hw : RW n K (up1 b 6 (b 6 + nI ms.length)) := ⟨net, RT_row hT (fun i hi => up1_n (by omega))⟩
  obtain ⟨τ2, e2⟩ : ∃ z, z = q_wr τ 1 6 (b 6 + nI ms.length) := ⟨_, rfl⟩
  have t21 : τ2 1 = up1 b 6 (b 6 + nI ms.length) := by rw [e2, up1_wr, h1]
  have t2k : ∀ i, i ≠ 1 → τ2 i = τ i := fun i hi => by rw [e2, p_wrk hi]
  have s2 : q_lim D_X8_goRound 2 τ [nI n] = q_lim D_X8_goRound 4 τ2 [nI 0] := q_lim_eq (fun go => by
    show b_X8_goRound_140 go τ (nI n) = _
    unfold b_X8_goRound_140
    simp only [p_nm]
    rw [rd1_0, h1, hb0, if_pos (nI_le (Nat.le_refl _) (by omega)), rd1_6, wt1_6, h1, h2, ← e2]
    rfl)
  obtain ⟨τ', xs', ⟨p1, K', p2, p3, p4⟩, p5⟩ := q_run (D := D_X8_goRound) (i := 4) (I := fun k σ xs => xs = [nI k] ∧ ∃ K', RW n K' (σ 1) ∧ List.foldl recM (σ 1) (ms.drop k) = sF ∧ ∀ i, i ≠ 1 → σ i = τ2 i) ms.length (fun k σ xs hk hI => by
    obtain ⟨rfl, K', ⟨netk, g1⟩, g2, g3⟩ := hI
    obtain ⟨g, hg⟩ : ∃ g, g = ms[k] := ⟨_, rfl⟩
    have hgk : ms[k]? = some g := by rw [hg]; exact List.getElem?_eq_getElem hk
    have hd : ms.drop k = g :: ms.drop (k + 1) := by rw [hg]; exact List.drop_eq_getElem_cons hk
    have hg1 : okM n g := hok g (by rw [hg]; exact List.getElem_mem hk)
    have hg2 : holdsM σ k g := by
      obtain ⟨a1, a2, a3, a4, a5, a6⟩ := h3 k g hgk
      have q : ∀ i, i ≠ 1 → σ i = τ i := fun i hi => (g3 i hi).trans (t2k i hi)
      exact ⟨by rw [q 4 (by decide)]; exact a1, by rw [q 5 (by decide)]; exact a2, by rw [q 6 (by decide)]; exact a3, by rw [q 7 (by decide)]; exact a4, by rw [q 8 (by decide)]; exact a5, by rw [q 9 (by decide)]; exact a6⟩
    obtain ⟨to, y, c, d, x, q, ge, w1, w2, w3, w4, w5⟩ := hg1
    have lk := g1.le hn (r := to) (by omega)
    have ge1 : g.1 = to := by rw [ge]
    have ge4 : g.2.2.2.1 = nI d := by rw [ge]
    obtain ⟨τ1, f1, f2, f3⟩ := receiveR (τ := σ) (j := k) (to := to) (k0 := K' to) (g := g) (by omega) hg2 ge1 (by omega) (g1.1 to (by omega)).1 (by omega) (fun z => by
      rw [ge4] at z
      have := g1.lt hn w1 w4 (ef_no z)
      omega)
    obtain ⟨K2, hr⟩ := recM_row hn ⟨netk, g1⟩ (g := g) ⟨to, y, c, d, x, q, ge, w1, w2, w3, w4, w5⟩
    rw [hd] at g2
    refine ⟨τ1, _, ⟨rfl, K2, by rw [f2]; exact hr, by rw [f2]; exact g2, fun i hi => by rw [f3 i hi]; exact g3 i hi⟩, q_lim_eq (fun go => ?_)⟩
    show b_X8_goRound_238 go σ (nI k) = _
    unfold b_X8_goRound_238
    simp only [p_nm]
    rw [g3 0 (by decide), t2k 0 (by decide), h2, if_neg (nI_ge hk (by omega)), f1, p_cl, nI_1]) ms.length 0 τ2 [nI 0] (by omega) ⟨rfl, K, by rw [t21]; exact hw, by rw [t21, hsF]; rfl, fun _ _ => rfl⟩
  rw [List.drop_length] at p3
  have p3 : τ' 1 = sF := p3
  refine ⟨τ', ?_, by rw [p3, hsF, fold_6], fun i hi => (p4 i hi).trans (t2k i hi)⟩
  rw [s2, p5, p1]
  refine q_lim_eq (fun go => ?_)
  show b_X8_goRound_238 go τ' (nI ms.length) = _
  unfold b_X8_goRound_238
  simp only [p_nm]
  rw [p4 0 (by decide), t2k 0 (by decide), h2, if_pos (nI_le (Nat.le_refl _) (by omega))]
  rfl
/-- the counting -/
theorem roundR3 {n : Nat} {K K' : Nat → Nat} {s0 s : Nat → Int32} {τ : qM} (hn : n ≤ 10) (h1 : τ 1 = s) (hs0 : s 0 = nI n) (hK' : ∀ r, r < n → s (130 + r) = nI (K' r) ∧ K' r ≤ 10) (h10 : ∀ r, r < n → τ 10 r = nI (K r) ∧ K r ≤ 10) (h11 : ∀ e, e < 100 → τ 11 e = 100 * s0 (250 + e) + s0 (350 + e)) :
    q_lim D_X8_goRound 6 τ [nI 0, nI 0] = some (nI (sumN (fun r => cntN (othR s0 s K r) (K' r)) n), τ) := by
  obtain ⟨σ', xs', ⟨e1, e2⟩, e3⟩ := q_run (D := D_X8_goRound) (i := 6) (I := fun r σ xs => xs = [nI (sumN (fun r => cntN (othR s0 s K r) (K' r)) r), nI r] ∧ σ = τ) n (fun r σ xs hr hI => by
    obtain ⟨rfl, rfl⟩ := hI
    obtain ⟨acc, hacc⟩ : ∃ z, z = sumN (fun r => cntN (othR s0 s K r) (K' r)) r := ⟨_, rfl⟩
    have hsucc : sumN (fun r => cntN (othR s0 s K r) (K' r)) (r + 1) = acc + cntN (othR s0 s K r) (K' r) := by rw [hacc]; rfl
    rw [← hacc, hsucc]
    have hk10 := (hK' r hr).2
    obtain ⟨σ4, xs4, ⟨p1, p2⟩, p3⟩ := q_run (D := D_X8_goRound) (i := 8) (I := fun k σ1 xs => xs = [nI (acc + cntN (othR s0 s K r) k), nI r, nI k] ∧ σ1 = σ) (K' r) (fun k σ1 xs hk hI => by
      obtain ⟨rfl, rfl⟩ := hI
      refine ⟨σ1, _, ⟨rfl, rfl⟩, q_lim_eq (fun go => ?_)⟩
      show b_X8_goRound_273 go σ1 (nI (acc + cntN (othR s0 s K r) k)) (nI r) (nI k) = _
      unfold b_X8_goRound_273
      simp only [p_nm]
      rw [a130, q_rd_n (by omega) (by decide), h1, (hK' r hr).1, if_neg (nI_ge hk (by omega)), p_10m, nI_add, q_rd_n (by omega) (by decide), (h10 r hr).1]
      have hK10 := (h10 r hr).2
      by_cases c : K r ≤ k
      · have ho : othR s0 s K r k = true := decide_eq_true (Or.inl c)
        rw [if_pos (nI_le c (by omega)), cntN_s ho, nI_1, nI_1, Nat.add_assoc]
      · rw [if_neg (nI_ge (by omega) (by omega)), a250, q_rd_n (by omega) (by decide), a350, q_rd_n (by omega) (by decide), h1, q_rd_n (by omega) (by decide), h11 _ (by omega)]
        by_cases w : 100 * s (250 + (10 * r + k)) + s (350 + (10 * r + k)) = 100 * s0 (250 + (10 * r + k)) + s0 (350 + (10 * r + k))
        · have ho : othR s0 s K r k = false := decide_eq_false (fun z => z.elim c (fun z => z w))
          rw [if_pos w, cntN_n ho, nI_1]
        · have ho : othR s0 s K r k = true := decide_eq_true (Or.inr w)
          rw [if_neg w, cntN_s ho, nI_1, nI_1, Nat.add_assoc]) (K' r) 0 σ [nI acc, nI r, nI 0] (by omega) ⟨rfl, rfl⟩
    subst p2
    refine ⟨σ4, _, ⟨rfl, rfl⟩, ?_⟩
    rw [q_lim_eq (j := 8) (τ := σ4) (ys := [nI acc, nI r, nI 0]) (fun go => ?_), p3, p1]
    · refine q_lim_eq (fun go => ?_)
      show b_X8_goRound_273 go σ4 (nI (acc + cntN (othR s0 s K r) (K' r))) (nI r) (nI (K' r)) = _
      unfold b_X8_goRound_273
      simp only [p_nm]
      rw [a130, q_rd_n (by omega) (by decide), h1, (hK' r hr).1, if_pos (nI_le (Nat.le_refl _) (by omega)), nI_1]
    · show b_X8_goRound_261 go σ4 (nI acc) (nI r) = _
      unfold b_X8_goRound_261
      rw [rd1_0, h1, hs0, if_neg (nI_ge hr (by omega))]
      rfl) n 0 τ [nI 0, nI 0] (by omega) ⟨rfl, rfl⟩
  subst e2
  rw [e3, e1]
  refine q_lim_ret (fun go => ?_)
  show b_X8_goRound_261 go σ' _ (nI n) = _
  unfold b_X8_goRound_261
  rw [rd1_0, h1, hs0, if_pos (nI_le (Nat.le_refl _) (by omega))]
/-! both counts -/
theorem cntN_add (P : Nat → Bool) (a : Nat) : ∀ b, cntN P (a + b) = cntN P a + cntN (fun i => P (a + i)) b := by
  intro b
  induction b with
  | zero => rfl
  | succ b ih =>
    show cntN P (a + b) + (if P (a + b) = true then 1 else 0) = cntN P a + (cntN (fun i => P (a + i)) b + (if P (a + b) = true then 1 else 0))
    rw [ih, Nat.add_assoc]
theorem cntN_cong {P Q : Nat → Bool} : ∀ {k}, (∀ i, i < k → P i = Q i) → cntN P k = cntN Q k := by
  intro k
  induction k with
  | zero => intro _; rfl
  | succ k ih =>
    intro h
    show cntN P k + (if P k = true then 1 else 0) = cntN Q k + (if Q k = true then 1 else 0)
    rw [ih (fun i hi => h i (by omega)), h k (by omega)]
theorem cntN_0 {P : Nat → Bool} {k : Nat} (h : ∀ i, i < k → P i = false) : cntN P k = 0 := by
  induction k with
  | zero => rfl
  | succ k ih => rw [cntN_n (h k (by omega)), ih (fun i hi => h i (by omega))]
theorem cntN_rows (P : Nat → Bool) : ∀ k, cntN P (10 * k) = sumN (fun r => cntN (fun d => P (10 * r + d)) 10) k := by
  intro k
  induction k with
  | zero => rfl
  | succ k ih =>
    rw [show 10 * (k + 1) = 10 * k + 10 by omega, cntN_add, ih]
    rfl
theorem sumN_cong {f g : Nat → Nat} : ∀ {k}, (∀ i, i < k → f i = g i) → sumN f k = sumN g k := by
  intro k
  induction k with
  | zero => intro _; rfl
  | succ k ih =>
    intro h
    show sumN f k + f k = sumN g k + g k
    rw [ih (fun i hi => h i (by omega)), h k (by omega)]
theorem sumN_tail {f : Nat → Nat} {n : Nat} : ∀ k, n ≤ k → (∀ i, n ≤ i → i < k → f i = 0) → sumN f k = sumN f n := by
  intro k
  induction k with
  | zero => intro h _; rw [show n = 0 by omega]
  | succ k ih =>
    intro h hz
    rcases Nat.eq_or_lt_of_le h with e | e
    · rw [e]
    · show sumN f k + f k = sumN f n
      rw [ih (by omega) (fun i a b => hz i a (by omega)), hz k (by omega) (by omega)]
      rfl
theorem cntN_less (Q : Nat → Bool) (a : Nat) : ∀ N, a < N → cntN Q N = cntN (fun d => Q d && !(Nat.beq d a)) N + (if Q a = true then 1 else 0) := by
  intro N
  induction N with
  | zero => intro h; omega
  | succ N ih =>
    intro h
    show cntN Q N + (if Q N = true then 1 else 0) = cntN (fun d => Q d && !(Nat.beq d a)) N + (if (Q N && !(Nat.beq N a)) = true then 1 else 0) + (if Q a = true then 1 else 0)
    rcases Nat.lt_trichotomy a N with c | c | c
    · rw [ih c, show Nat.beq N a = false from q_beq_ne (by omega), Bool.not_false, Bool.and_true]
      omega
    · subst c
      have e : cntN (fun d => Q d && !(Nat.beq d a)) a = cntN Q a := cntN_cong (fun i hi => by
        show (Q i && !(Nat.beq i a)) = Q i
        rw [q_beq_ne (by omega), Bool.not_false, Bool.and_true])
      rw [e, Nat.beq_refl, Bool.not_true, Bool.and_false, if_neg (show ¬ (false = true) by decide)]
      omega
    · omega
theorem cntN_inj {N : Nat} {f : Nat → Nat} : ∀ (k : Nat) (Q : Nat → Bool), (∀ i, i < k → f i < N) → (∀ i j, i < k → j < k → f i = f j → i = j) → (∀ d, d < N → Q d = true → ∃ i, i < k ∧ f i = d) → cntN Q N = cntN (fun i => Q (f i)) k := by
  intro k
  induction k with
  | zero =>
    intro Q _ _ h
    exact cntN_0 (fun d hd => by
      cases c : Q d with
      | false => rfl
      | true =>
        obtain ⟨i, hi, -⟩ := h d hd c
        omega)
  | succ k ih =>
    intro Q hlt hinj h
    rw [cntN_less Q (f k) N (hlt k (by omega))]
    rw [ih (fun d => Q d && !(Nat.beq d (f k))) (fun i hi => hlt i (by omega)) (fun i j hi hj e => hinj i j (by omega) (by omega) e) (fun d hd c => by
      have c : (Q d && !(Nat.beq d (f k))) = true := c
      rw [Bool.and_eq_true] at c
      obtain ⟨i, hi, e⟩ := h d hd c.1
      rcases Nat.eq_or_lt_of_le (Nat.le_of_lt_succ hi) with w | w
      · subst w
        rw [e, Nat.beq_refl] at c
        exact absurd c.2 (by decide)
      · exact ⟨i, w, e⟩)]
    show cntN (fun i => Q (f i) && !(Nat.beq (f i) (f k))) k + (if Q (f k) = true then 1 else 0) = cntN (fun i => Q (f i)) k + (if Q (f k) = true then 1 else 0)
    rw [cntN_cong (P := fun i => Q (f i) && !(Nat.beq (f i) (f k))) (Q := fun i => Q (f i)) (fun i hi => by
      show (Q (f i) && !(Nat.beq (f i) (f k))) = Q (f i)
      have : f i ≠ f k := fun e => by have := hinj i k (by omega) (by omega) e; omega
      rw [show Nat.beq (f i) (f k) = false from q_beq_ne this, Bool.not_false, Bool.and_true])]
theorem code_eq {x v x0 v0 : Nat} (hx : x ≤ 16) (hv : v < 10) (hx0 : x0 ≤ 16) (hv0 : v0 < 10) : (100 * nI x + nI v = 100 * nI x0 + nI v0) ↔ (x = x0 ∧ v = v0) := by
  rw [z100, pk_mul, pk_mul, nI_add, nI_add]
  constructor
  · intro h
    have := p_inj (by omega) (by omega) h
    omega
  · rintro ⟨rfl, rfl⟩; rfl
theorem cnt_eq {n : Nat} {K K' : Nat → Nat} {net1 net' : qM} {b F : Nat → Int32} {t : Int32} (hn : n ≤ 10) (hT0 : RT n K 8 net1 b) (hI : RI n K K' net1 net' b F t) {s0 s : Nat → Int32} (hs0 : ∀ i, 250 ≤ i → i < 450 → s0 i = b i) (hs : ∀ i, 250 ≤ i → i < 450 → s i = F i) :
    cntN (fun c => decide (net' 2 c ≠ net1 9 c ∨ net' 3 c ≠ net1 10 c)) 100 = sumN (fun r => cntN (othR s0 s K r) (K' r)) n := by
  obtain ⟨hT, h130, hj, h0, ht, hK, hpos, hvia⟩ := hI
  obtain ⟨P, hP⟩ : ∃ P : Nat → Bool, P = fun c => decide (net' 2 c ≠ net1 9 c ∨ net' 3 c ≠ net1 10 c) := ⟨_, rfl⟩
  rw [← hP, show 100 = 10 * 10 from rfl, cntN_rows]
  have unk : ∀ r d, r < 10 → d < 10 → (∀ k, k < K' r → F (150 + (10 * r + k)) ≠ nI d) → P (10 * r + d) = false := fun r d hr hd hu => by
    have e1 : net' 2 (10 * r + d) = -1 := hT.2.2.2.2.2 r d hr hd hu
    have e2 : net1 9 (10 * r + d) = -1 := hT0.2.2.2.2.2 r d hr hd (fun k hk e => hu k (Nat.lt_of_lt_of_le hk (hK r)) ((hpos r k hr hk).trans e))
    have e3 := hvia (10 * r + d) (by omega) e1
    rw [hP]
    exact decide_eq_false (fun z => z.elim (fun z => z (e1.trans e2.symm)) (fun z => z e3))
  rw [sumN_tail (n := n) 10 hn (fun r h1 h2 => cntN_0 (fun d hd => unk r d h2 hd (fun k hk => by rw [hT.2.1 r h1 h2] at hk; omega)))]
  refine sumN_cong (fun r hr => ?_)
  have hr10 : r < 10 := by omega
  have lk := hT.le hn hr10
  have des : ∀ i, i < K' r → ∃ d v x, d < n ∧ v < n ∧ x ≤ 16 ∧ (F (150 + (10 * r + i))).toNatClampNeg = d ∧ F (150 + (10 * r + i)) = nI d ∧ F (250 + (10 * r + i)) = nI x ∧ net' 2 (10 * r + d) = nI x ∧ F (350 + (10 * r + i)) = nI v ∧ net' 3 (10 * r + d) = nI v := fun i hi => by
    obtain ⟨d, v, x, a1, a2, a3, a4, a5, a6, a7, a8, a9, -⟩ := hT.2.2.2.2.1 r i hr10 hi
    exact ⟨d, v, x, a1, a2, a3, by rw [a4, nI_clamp (by omega)], a4, a6, a7, a8, a9⟩
  rw [cntN_inj (N := 10) (f := fun i => (F (150 + (10 * r + i))).toNatClampNeg) (K' r) (fun d => P (10 * r + d)) (fun i hi => by
    obtain ⟨d, v, x, a1, a2, a3, a4, -⟩ := des i hi
    show (F (150 + (10 * r + i))).toNatClampNeg < 10
    rw [a4]; omega) (fun i j hi hj e => by
    obtain ⟨d, v, x, a1, a2, a3, a4, a5, -⟩ := des i hi
    obtain ⟨d', v', x', b1, b2, b3, b4, b5, -⟩ := des j hj
    have e : (F (150 + (10 * r + i))).toNatClampNeg = (F (150 + (10 * r + j))).toNatClampNeg := e
    rw [a4, b4] at e
    exact hT.2.2.2.1 r i j hr10 hi hj (by rw [a5, b5, e])) (fun d hd c => by
    refine Classical.byContradiction (fun hno => ?_)
    have c : P (10 * r + d) = true := c
    rw [unk r d hr10 hd (fun k hk e => hno ⟨k, hk, by
      show (F (150 + (10 * r + k))).toNatClampNeg = d
      rw [e, nI_clamp (by omega)]⟩)] at c
    cases c)]
  refine cntN_cong (fun i hi => ?_)
  obtain ⟨d, v, x, a1, a2, a3, a4, a5, a6, a7, a8, a9⟩ := des i hi
  show P (10 * r + (F (150 + (10 * r + i))).toNatClampNeg) = othR s0 s K r i
  rw [a4, hP]
  unfold othR
  refine decide_eq_decide.mpr ?_
  rw [hs _ (by omega) (by omega), hs _ (by omega) (by omega), hs0 _ (by omega) (by omega), hs0 _ (by omega) (by omega), a6, a8, a7, a9]
  by_cases c : K r ≤ i
  · have e2 : net1 9 (10 * r + d) = -1 := hT0.2.2.2.2.2 r d hr10 (by omega) (fun k hk e => by
      have e1 := (hpos r k hr10 hk).trans e
      have := hT.2.2.2.1 r k i hr10 (Nat.lt_of_lt_of_le hk (hK r)) hi (e1.trans a5.symm)
      omega)
    exact ⟨fun _ => Or.inl c, fun _ => Or.inl (by rw [e2]; exact p_ne1 (by omega))⟩
  · obtain ⟨d0, v0, x0, b1, b2, b3, b4, b5, b6, b7, b8, b9, -⟩ := hT0.2.2.2.2.1 r i hr10 (by omega)
    have e1 : d0 = d := p_inj (by omega) (by omega) (b4.symm.trans ((hpos r i hr10 (by omega)).symm.trans a5))
    subst e1
    have b7 : net1 9 (10 * r + d0) = nI x0 := b7
    have b9 : net1 10 (10 * r + d0) = nI v0 := b9
    rw [b6, b8, b7, b9]
    have ce := code_eq a3 (show v < 10 by omega) b3 (show v0 < 10 by omega)
    constructor
    · intro z
      refine Or.inr (fun w => ?_)
      obtain ⟨w1, w2⟩ := ce.mp w
      rw [w1, w2] at z
      exact z.elim (fun z => z rfl) (fun z => z rfl)
    · intro z
      refine Classical.byContradiction (fun w => ?_)
      have w1 : nI x = nI x0 := Classical.byContradiction (fun q => w (Or.inl q))
      have w2 : nI v = nI v0 := Classical.byContradiction (fun q => w (Or.inr q))
      exact z.elim c (fun z => z (ce.mpr ⟨p_inj (by omega) (by omega) w1, p_inj (by omega) (by omega) w2⟩))
/-- a round: class and reference -/
theorem round_sim {n m : Nat} {K : Nat → Nat} {net τ : qM} (h : RNp n m K net (τ 1)) :
    ∃ r K' net' τ', f_X3_goRound net = some (r, net') ∧ f_X8_goRound τ = some (r, τ') ∧ RNp n m K' net' (τ' 1) ∧ frM τ τ' ∧ (∃ c, c ≤ 100 ∧ r = nI c) := by
  obtain ⟨K', net1, net', c1, c2, c3, c4⟩ := roundC h
  obtain ⟨τ0, r1, r2, r3, r4, r5⟩ := roundR0 h
  have hn := h.1.1
  obtain ⟨b, hbe⟩ : ∃ z, z = rb (τ 1) n := ⟨_, rfl⟩
  rw [← hbe] at c2 c3 c4 r2
  obtain ⟨τ1, u1, u2, u3⟩ := roundR1 c3 c2 r2
  have hT1 : RT n K 8 net1 b := c3.2.1
  have hW : RW n K b := ⟨fun j => net1 (j + 7), by
    obtain ⟨a1, a2, a3, a4, a5, a6⟩ := hT1
    exact ⟨a1, a2, a3, a4, a5, a6⟩⟩
  obtain ⟨τ2, v1, v2, v3⟩ := roundR2 hn hW c2.2.2.1 (tmR_ok c3 c2 n 0 (by omega)) u3 u2
  obtain ⟨MS, hMS⟩ : ∃ z, z = tmR b n m K n 0 := ⟨_, rfl⟩
  rw [← hMS] at c4 u2 u3 v2
  obtain ⟨F, hF⟩ : ∃ z, z = List.foldl recM b MS := ⟨_, rfl⟩
  rw [← hF] at c4 v2
  obtain ⟨E, hE⟩ : ∃ z, z = up1 F 6 (b 6 + nI MS.length) := ⟨_, rfl⟩
  rw [← hE] at v2
  have En : ∀ i, i ≠ 6 → E i = F i := fun i hi => by rw [hE, up1_n hi]
  have hc4 := c4
  obtain ⟨hT, h130, hj, h0, ht, hK, hpos, hvia⟩ := hc4
  have b6 : b 6 = τ 1 6 := by rw [hbe, rb_lo hn (by omega) (by decide)]
  have E6 : E 6 = τ 1 6 + nI MS.length := by rw [hE, up1_s, b6]
  have w1 := roundR3 (n := n) (K := K) (K' := K') (s0 := τ 1) (s := E) (τ := τ2) hn v2 (by rw [En 0 (by decide), h130 0 (by decide)]; exact c2.2.2.1) (fun r hr => ⟨by rw [En _ (by omega)]; exact (hT.1 r (by omega)).1, Nat.le_trans (hT.le hn (by omega)) hn⟩) (fun r hr => ⟨by rw [v3 10 (by decide), u2.2.2.2.1 10 (by decide) (by decide) (by omega)]; exact r3 r hr, Nat.le_trans (h.2.2.le hn (by omega)) hn⟩) (fun e he => by rw [v3 11 (by decide), u2.2.2.2.1 11 (by decide) (by decide) (by omega)]; exact r4 e he)
  have w2 := cnt_eq hn hT1 c4 (s0 := τ 1) (s := E) (fun i a b => by rw [hbe, rb_lo hn (by omega) (by omega)]) (fun i a b => En i (by omega))
  refine ⟨_, K', net', τ2, c1, ?_, ⟨?_, ?_, ?_⟩, ⟨fun i hi => ?_, fun j hj => ?_⟩, ⟨_, cntN_le _ 100, rfl⟩⟩
  · rw [w2]
    unfold f_X8_goRound e_X8_goRound
    show q_lim D_X8_goRound 0 τ [nI 0] = _
    rw [r1, u1, v1, w1]
  · rw [v2]
    exact RLk_cong c2 (fun i hi h5 h6 => by rw [En i h6]; exact h130 i hi) (by rw [h0 7 (by decide), En 5 (by decide), h130 5 (by decide)]; exact c2.2.2.2.2.2.2.2.2.2.2.2.1) (fun j hj1 => hj j (by omega)) (fun j a b => h0 j (by omega))
  · rw [v2, E6]; exact ht
  · rw [v2]; exact RT_row hT (fun i hi => En i (by omega))
  · rw [v3 i (by omega), u2.2.2.2.1 i (by omega) (by omega) (by omega)]
    exact r5.1 i hi
  · rw [v3 0 (by decide), u2.2.2.2.2 j hj]
    exact r5.2 j hj
