/-! links -/
theorem q_find_snoc {P : Nat → Bool} : ∀ {f k : Nat}, q_find P (f + 1) k = match q_find P f k with | some j => some j | none => if P (k + f) = true then some (k + f) else none := by
  intro f
  induction f with
  | zero =>
    intro k
    show (if P k = true then some k else none) = if P (k + 0) = true then some (k + 0) else none
    rfl
  | succ f ih =>
    intro k
    show (if P k = true then some k else q_find P (f + 1) (k + 1)) = match (if P k = true then some k else q_find P f (k + 1)) with | some j => some j | none => if P (k + (f + 1)) = true then some (k + (f + 1)) else none
    by_cases h : P k = true
    · rw [if_pos h, if_pos h]
    · rw [if_neg h, if_neg h, ih, show k + 1 + f = k + (f + 1) by omega]
theorem p_sub_wr {r i : Nat} {σ : qM} {v : Int32} (o : Nat) : q_sub o (q_wr σ (o + r) i v) = q_wr (q_sub o σ) r i v := by
  funext k j
  show q_wr σ (o + r) i v (o + k) j = _
  rw [p_wr, p_wr]
  by_cases h : k = r ∧ j = i
  · rw [if_pos ⟨by omega, h.2⟩, if_pos h]
  · rw [if_neg (fun z => h ⟨by omega, z.2⟩), if_neg h]; rfl
theorem frV_wr {σ : qM} {r i : Nat} {v : Int32} (h1 : 0 < r) (h2 : r < 43) : frV σ (q_wr σ r i v) := ⟨p_wrk (by omega), fun k a b => p_wrk (by omega), fun k a => p_wrk (by omega)⟩
theorem frR_wr {τ : qM} {i : Nat} {v : Int32} : frR τ (q_wr τ 1 i v) := frR_1 (fun j hj => p_wrk hj)
/-- a link's row, in another state or of another price -/
theorem RLk_set {n m : Nat} {net net' : qM} {s s' : Nat → Int32} (h : RLk n m net s) (hs : ∀ i, i < 70 → s' i = s i) (h0 : net' 0 = net 0) (hj : ∀ j, 15 ≤ j → (j < 18 ∨ 19 < j) → net' j = net j)
    (hk : ∀ k, k < m → (∃ c, 1 ≤ c ∧ c ≤ 15 ∧ s' (70 + k) = nI c ∧ net' 18 k = nI c) ∧ net' 19 k = s' (100 + k) ∧ (s' (100 + k) = 0 ∨ s' (100 + k) = 1)) : RLk n m net' s' := by
  obtain ⟨a1, a2, a3, a4, a5, a6, a7, a8, a9, a10, a11, a12, a13, a14⟩ := h
  refine ⟨a1, a2, by rw [hs 0 (by decide)]; exact a3, by rw [h0]; exact a4, by rw [hs 1 (by decide)]; exact a5, by rw [hj 15 (by decide) (by decide)]; exact a6, by rw [h0, hs 2 (by decide)]; exact a7, by rw [hs 2 (by decide)]; exact a8, by rw [h0, hs 3 (by decide)]; exact a9, by rw [hs 3 (by decide)]; exact a10, by rw [h0, hs 4 (by decide)]; exact a11, by rw [h0, hs 5 (by decide)]; exact a12, fun k hk1 => ?_, fun x y hx hy => ?_⟩
  · obtain ⟨a, b, c, w1, w2, w3, w4, w5, w6, w7, w8, -⟩ := a13 k hk1
    obtain ⟨⟨c', u1, u2, u3, u4⟩, u5, u6⟩ := hk k hk1
    exact ⟨a, b, c', w1, w2, u1, u2, by rw [hs _ (by omega)]; exact w5, by rw [hj 16 (by decide) (by decide)]; exact w6, by rw [hs _ (by omega)]; exact w7, by rw [hj 17 (by decide) (by decide)]; exact w8, u3, u4, u5, u6⟩
  · rw [hj 20 (by decide) (by decide), lf_cong (s := s) a2 (fun i u v => hs i v)]
    exact a14 x y hx hy
theorem RNp_cost {n m : Nat} {K : Nat → Nat} {net : qM} {s : Nat → Int32} (h : RNp n m K net s) {k c : Nat} (hk : k < m) (h1 : 1 ≤ c) (h2 : c ≤ 15) : RNp n m K (q_wr net 18 k (nI c)) (up1 s (70 + k) (nI c)) := by
  obtain ⟨hL, h8, hT⟩ := h
  have hm := hL.2.1
  refine ⟨RLk_set hL (fun i hi => up1_n (by omega)) (p_wrk (by decide)) (fun j a b => p_wrk (by omega)) (fun k1 hk1 => ?_), by rw [p_wrk (by decide), up1_n (by omega)]; exact h8, RT_row (RT_n0 hT (fun j a b => p_wrk (by omega))) (fun i hi => up1_n (by omega))⟩
  obtain ⟨a, b, c', w1, w2, w3, w4, w5, w6, w7, w8, w9, w10, w11, w12⟩ := hL.2.2.2.2.2.2.2.2.2.2.2.2.1 k1 hk1
  refine ⟨?_, by rw [p_wrk (by decide), up1_n (by omega)]; exact w11, by rw [up1_n (by omega)]; exact w12⟩
  by_cases e : k1 = k
  · subst e
    exact ⟨c, h1, h2, up1_s _ _ _, p_wrs _ _ _ _⟩
  · exact ⟨c', w3, w4, by rw [up1_n (by omega)]; exact w9, by rw [p_wrj e]; exact w10⟩
theorem RNp_up {n m : Nat} {K : Nat → Nat} {net : qM} {s : Nat → Int32} (h : RNp n m K net s) {k : Nat} {v : Int32} (hk : k < m) (hv : v = 0 ∨ v = 1) : RNp n m K (q_wr net 19 k v) (up1 s (100 + k) v) := by
  obtain ⟨hL, h8, hT⟩ := h
  have hm := hL.2.1
  refine ⟨RLk_set hL (fun i hi => up1_n (by omega)) (p_wrk (by decide)) (fun j a b => p_wrk (by omega)) (fun k1 hk1 => ?_), by rw [p_wrk (by decide), up1_n (by omega)]; exact h8, RT_row (RT_n0 hT (fun j a b => p_wrk (by omega))) (fun i hi => up1_n (by omega))⟩
  obtain ⟨a, b, c', w1, w2, w3, w4, w5, w6, w7, w8, w9, w10, w11, w12⟩ := hL.2.2.2.2.2.2.2.2.2.2.2.2.1 k1 hk1
  refine ⟨⟨c', w3, w4, by rw [up1_n (by omega)]; exact w9, by rw [p_wrk (by decide)]; exact w10⟩, ?_⟩
  by_cases e : k1 = k
  · subst e
    rw [p_wrs, up1_s]
    exact ⟨rfl, hv⟩
  · rw [p_wrj e, up1_n (by omega)]
    exact ⟨w11, w12⟩
theorem lf_sym {s : Nat → Int32} {m a b : Nat} : lf s m a b = lf s m b a := by
  unfold lf
  rw [Nat.min_comm, Nat.max_comm]
/-- a new link: both sides -/
theorem addLink_sim {n m : Nat} {K : Nat → Nat} {net τ : qM} (h : RNp n m K net (τ 1)) (hm9 : m < 24) {a b c : Nat} (ha : a < n) (hb : b < n) (hab : a ≠ b) (h1 : 1 ≤ c) (h2 : c ≤ 15) (hno : lf (τ 1) m a b = none) :
    ∃ L' τ', f_X2_add (q_sub 15 net) (nI a) (nI b) (nI c) = some (nI m, L') ∧ f_X8_addLink τ (nI a) (nI b) (nI c) = some (0, τ') ∧ RNp n (m + 1) K (q_put 15 6 net L') (τ' 1) ∧ ∀ i, i ≠ 1 → τ' i = τ i := by
  obtain ⟨hL, h8, hT⟩ := h
  obtain ⟨a1, a2, a3, a4, a5, a6, a7, a8, a9, aq, a11, a12, a13, a14⟩ := hL
  obtain ⟨s, hs⟩ : ∃ z, z = τ 1 := ⟨_, rfl⟩
  rw [← hs] at a3 a5 a7 a8 a9 aq a11 a12 a13 a14 h8 hT hno
  obtain ⟨s', hs'⟩ : ∃ z, z = up1 (up1 (up1 (up1 (up1 s (10 + m) (nI (min a b))) (40 + m) (nI (max a b))) (70 + m) (nI c)) (100 + m) 1) 1 (nI (m + 1)) := ⟨_, rfl⟩
  obtain ⟨net', hnet⟩ : ∃ z, z = q_wr (q_wr (q_wr (q_wr (q_wr (q_wr (q_wr net 16 m (nI (min a b))) 17 m (nI (max a b))) 18 m (nI c)) 19 m 1) 15 5 (nI (m + 1))) 20 (10 * a + b) (nI (m + 1))) 20 (10 * b + a) (nI (m + 1)) := ⟨_, rfl⟩
  have c6 : q_sub 15 net 0 5 = nI m := a6
  have cL : ∃ L', f_X2_add (q_sub 15 net) (nI a) (nI b) (nI c) = some (nI m, L') ∧ q_put 15 6 net L' = net' := by
    refine ⟨q_wr (q_wr (q_wr (q_wr (q_wr (q_wr (q_wr (q_sub 15 net) 1 m (nI (min a b))) 2 m (nI (max a b))) 3 m (nI c)) 4 m 1) 0 5 (nI (m + 1))) 5 (10 * a + b) (nI (m + 1))) 5 (10 * b + a) (nI (m + 1)), ?_, ?_⟩
    · unfold f_X2_add
      simp only [p_nm]
      rw [c6, minI (by omega) (by omega), maxI (by omega) (by omega), q_wt_n hm9 (by decide), q_wt_n hm9 (by decide), q_wt_n hm9 (by decide), q_wt_n hm9 (by decide)]
      rw [p_wrk (show 0 ≠ 4 by decide), p_wrk (show 0 ≠ 3 by decide), p_wrk (show 0 ≠ 2 by decide), p_wrk (show 0 ≠ 1 by decide), c6, nI_1, p_cell, p_cell, p_wrs, q_wt_n (by omega) (by decide), p_wrk (show 0 ≠ 5 by decide), p_wrs, q_wt_n (by omega) (by decide)]
    · rw [hnet, p_put_wr (by decide), p_put_wr (by decide), p_put_wr (by decide), p_put_wr (by decide), p_put_wr (by decide), p_put_wr (by decide), p_put_wr (by decide), p_put_sub]
  obtain ⟨L', e1, e2⟩ := cL
  obtain ⟨τ', ht⟩ : ∃ z, z = q_wr (q_wr (q_wr (q_wr (q_wr τ 1 (10 + m) (nI (min a b))) 1 (40 + m) (nI (max a b))) 1 (70 + m) (nI c)) 1 (100 + m) 1) 1 1 (nI (m + 1)) := ⟨_, rfl⟩
  have t1 : τ' 1 = s' := by rw [ht, up1_wr, up1_wr, up1_wr, up1_wr, up1_wr, ← hs, hs']
  have cR : f_X8_addLink τ (nI a) (nI b) (nI c) = some (0, τ') := by
    unfold f_X8_addLink
    simp only [p_nm]
    rw [rd1_1, ← hs, a5, a10, a40, a70, a100, minI (by omega) (by omega), maxI (by omega) (by omega), q_wt_n (by omega) (by decide), q_wt_n (by omega) (by decide), q_wt_n (by omega) (by decide), q_wt_n (by omega) (by decide), rd1_1, p_wrj (by omega), p_wrj (by omega), p_wrj (by omega), p_wrj (by omega), ← hs, a5, nI_1, wt1_1, ← ht]
  have so : ∀ i, i ≠ 10 + m → i ≠ 40 + m → i ≠ 70 + m → i ≠ 100 + m → i ≠ 1 → s' i = s i := fun i u1 u2 u3 u4 u5 => by rw [hs', up1_n u5, up1_n u4, up1_n u3, up1_n u2, up1_n u1]
  have sa : s' (10 + m) = nI (min a b) := by rw [hs', up1_n (by omega), up1_n (by omega), up1_n (by omega), up1_n (by omega), up1_s]
  have sb : s' (40 + m) = nI (max a b) := by rw [hs', up1_n (by omega), up1_n (by omega), up1_n (by omega), up1_s]
  have sc : s' (70 + m) = nI c := by rw [hs', up1_n (by omega), up1_n (by omega), up1_s]
  have sd : s' (100 + m) = 1 := by rw [hs', up1_n (by omega), up1_s]
  have s1 : s' 1 = nI (m + 1) := by rw [hs', up1_s]
  have nk : ∀ j, (j < 15 ∨ 20 < j) → net' j = net j := fun j hj => by rw [hnet, p_wrk (by omega), p_wrk (by omega), p_wrk (by omega), p_wrk (by omega), p_wrk (by omega), p_wrk (by omega), p_wrk (by omega)]
  have n15 : net' 15 5 = nI (m + 1) := by rw [hnet, p_wrk (by decide), p_wrk (by decide), p_wrs]
  have n16 : ∀ k, net' 16 k = if k = m then nI (min a b) else net 16 k := fun k => by rw [hnet, p_wrk (by decide), p_wrk (by decide), p_wrk (by decide), p_wrk (by decide), p_wrk (by decide), p_wrk (by decide), up1_wr]; rfl
  have n17 : ∀ k, net' 17 k = if k = m then nI (max a b) else net 17 k := fun k => by rw [hnet, p_wrk (by decide), p_wrk (by decide), p_wrk (by decide), p_wrk (by decide), p_wrk (by decide), up1_wr, p_wrk (by decide)]; rfl
  have n18 : ∀ k, net' 18 k = if k = m then nI c else net 18 k := fun k => by rw [hnet, p_wrk (by decide), p_wrk (by decide), p_wrk (by decide), p_wrk (by decide), up1_wr, p_wrk (by decide), p_wrk (by decide)]; rfl
  have n19 : ∀ k, net' 19 k = if k = m then 1 else net 19 k := fun k => by rw [hnet, p_wrk (by decide), p_wrk (by decide), p_wrk (by decide), up1_wr, p_wrk (by decide), p_wrk (by decide), p_wrk (by decide)]; rfl
  have n20 : ∀ k, net' 20 k = if k = 10 * b + a then nI (m + 1) else if k = 10 * a + b then nI (m + 1) else net 20 k := fun k => by
    rw [hnet, up1_wr, up1_wr, p_wrk (by decide), p_wrk (by decide), p_wrk (by decide), p_wrk (by decide), p_wrk (by decide)]; rfl
  have hlf : ∀ x y, lf s' (m + 1) x y = match lf s m x y with | some j => some j | none => if nI (min a b) = nI (min x y) ∧ nI (max a b) = nI (max x y) then some m else none := fun x y => by
    unfold lf
    rw [q_find_snoc, q_find_congr (P := fun k => decide (s' (10 + k) = nI (min x y) ∧ s' (40 + k) = nI (max x y))) (Q := fun k => decide (s (10 + k) = nI (min x y) ∧ s (40 + k) = nI (max x y))) (fun i _ hi => by rw [so (10 + i) (by omega) (by omega) (by omega) (by omega) (by omega), so (40 + i) (by omega) (by omega) (by omega) (by omega) (by omega)])]
    rw [Nat.zero_add, sa, sb]
    cases q_find (fun k => decide (s (10 + k) = nI (min x y) ∧ s (40 + k) = nI (max x y))) m 0 with
    | some j => rfl
    | none =>
      by_cases z : nI (min a b) = nI (min x y) ∧ nI (max a b) = nI (max x y)
      · show (if decide (nI (min a b) = nI (min x y) ∧ nI (max a b) = nI (max x y)) = true then some m else none) = if nI (min a b) = nI (min x y) ∧ nI (max a b) = nI (max x y) then some m else none
        rw [if_pos (decide_eq_true z), if_pos z]
      · show (if decide (nI (min a b) = nI (min x y) ∧ nI (max a b) = nI (max x y)) = true then some m else none) = if nI (min a b) = nI (min x y) ∧ nI (max a b) = nI (max x y) then some m else none
        rw [if_neg (fun w => z (of_decide_eq_true w)), if_neg z]
  refine ⟨L', τ', e1, cR, ?_, fun i hi => by rw [ht, p_wrk hi, p_wrk hi, p_wrk hi, p_wrk hi, p_wrk hi]⟩
  rw [e2, t1]
  refine ⟨⟨a1, by omega, by rw [so 0 (by omega) (by omega) (by omega) (by omega) (by omega)]; exact a3, by rw [nk 0 (by decide)]; exact a4, s1, n15, by rw [nk 0 (by decide), so 2 (by omega) (by omega) (by omega) (by omega) (by omega)]; exact a7, by rw [so 2 (by omega) (by omega) (by omega) (by omega) (by omega)]; exact a8, by rw [nk 0 (by decide), so 3 (by omega) (by omega) (by omega) (by omega) (by omega)]; exact a9, by rw [so 3 (by omega) (by omega) (by omega) (by omega) (by omega)]; exact aq, by rw [nk 0 (by decide), so 4 (by omega) (by omega) (by omega) (by omega) (by omega)]; exact a11, by rw [nk 0 (by decide), so 5 (by omega) (by omega) (by omega) (by omega) (by omega)]; exact a12, fun k hk => ?_, fun x y hx hy => ?_⟩, by rw [nk 0 (by decide), so 6 (by omega) (by omega) (by omega) (by omega) (by omega)]; exact h8, RT_row (RT_n0 hT (fun j u v => nk j (by omega))) (fun i hi => so i (by omega) (by omega) (by omega) (by omega) (by omega))⟩
  · rw [n16, n17, n18, n19]
    by_cases e : k = m
    · subst e
      rw [if_pos rfl, if_pos rfl, if_pos rfl, if_pos rfl, sa, sb, sc, sd]
      exact ⟨min a b, max a b, c, by omega, by omega, h1, h2, rfl, rfl, rfl, rfl, rfl, rfl, rfl, Or.inr rfl⟩
    · rw [if_neg e, if_neg e, if_neg e, if_neg e, so (10 + k) (by omega) (by omega) (by omega) (by omega) (by omega), so (40 + k) (by omega) (by omega) (by omega) (by omega) (by omega), so (70 + k) (by omega) (by omega) (by omega) (by omega) (by omega), so (100 + k) (by omega) (by omega) (by omega) (by omega) (by omega)]
      exact a13 k (by omega)
  · rw [n20, hlf]
    by_cases e : 10 * x + y = 10 * b + a
    · have x1 : x = b := by omega
      have y1 : y = a := by omega
      subst x1; subst y1
      rw [if_pos rfl, lf_sym, hno, Nat.min_comm, Nat.max_comm]
      show nI (m + 1) = jn (if nI (min x y) = nI (min x y) ∧ nI (max x y) = nI (max x y) then some m else none)
      rw [if_pos ⟨rfl, rfl⟩]; rfl
    · rw [if_neg e]
      by_cases e2 : 10 * x + y = 10 * a + b
      · have x1 : x = a := by omega
        have y1 : y = b := by omega
        subst x1; subst y1
        rw [if_pos rfl, hno]
        show nI (m + 1) = jn (if nI (min x y) = nI (min x y) ∧ nI (max x y) = nI (max x y) then some m else none)
        rw [if_pos ⟨rfl, rfl⟩]; rfl
      · rw [if_neg e2, a14 x y hx hy]
        cases lf s m x y with
        | some j => rfl
        | none =>
          show jn none = jn (if nI (min a b) = nI (min x y) ∧ nI (max a b) = nI (max x y) then some m else none)
          rw [if_neg (fun z => by
            have z1 := p_inj (by omega) (by omega) z.1
            have z2 := p_inj (by omega) (by omega) z.2
            omega)]
theorem N_link (x1 x2 x3 : Int32) : simN (fun σ => f_X7_link σ x1 x2 x3) (fun τ => f_X8_link τ x1 x2 x3) := fun n m K σ τ h => by
  have hL := h.1
  have hn := hL.1
  have hm := hL.2.1
  have v3 : σ 1 3 = nI n := hL.2.2.2.1
  have r0 : τ 1 0 = nI n := hL.2.2.1
  have r1 : τ 1 1 = nI m := hL.2.2.2.2.1
  have v5 : σ 16 5 = nI m := hL.2.2.2.2.2.1
  by_cases i1 : isN n x1
  · obtain ⟨a, ha, rfl⟩ := i1
    by_cases i2 : isN n x2
    · obtain ⟨b, hb, rfl⟩ := i2
      by_cases e : nI a = nI b
      · refine simN_same h (r := -1) ?_ ?_
        · show f_X7_link σ (nI a) (nI b) x3 = _
          unfold f_X7_link
          rw [noRouter_y v3 (by omega) ha, p_cl, if_pos rfl, noRouter_y v3 (by omega) hb, p_cl, if_pos rfl, if_pos e]
        · show f_X8_link τ (nI a) (nI b) x3 = _
          unfold f_X8_link
          rw [isRouter_y r0 (by omega) ha, p_cl, if_neg ne10, isRouter_y r0 (by omega) hb, p_cl, if_neg ne10, if_pos e]
      · by_cases i3 : (1 : Int32) ≤ x3 ∧ x3 ≤ 15
        · have hp : q_put 16 6 σ (q_sub 16 σ) = σ := p_put_sub 16 6 σ
          have j1 : q_sub 16 σ 5 (10 * a + b) = jn (lf (τ 1) m a b) := hL.2.2.2.2.2.2.2.2.2.2.2.2.2 a b (by omega) (by omega)
          have hab : a ≠ b := fun z => e (congrArg nI z)
          have V0 : f_X7_link σ (nI a) (nI b) x3 = (if jn (lf (τ 1) m a b) - 1 < 0 then (if nI m < 24 then (q_cl (f_X2_add (q_sub 16 σ) (nI a) (nI b) x3) (q_put 16 6 σ) fun x19 s18 => some (x19, s18)) else some (-3, σ)) else some (-5, σ)) := by
            unfold f_X7_link
            rw [noRouter_y v3 (by omega) ha, p_cl, if_pos rfl, noRouter_y v3 (by omega) hb, p_cl, if_pos rfl, if_neg e, if_neg (i_nlt.mpr i3.1), if_pos i3.2, joiningS (by omega) (by omega), p_cl, hp, j1]
            simp only [p_nm]
            rw [v5]
          have R0 : f_X8_link τ (nI a) (nI b) x3 = (if lo (lf (τ 1) m a b) < 0 then (if nI m = 24 then some (-3, τ) else (q_cl (f_X8_addLink τ (nI a) (nI b) x3) (fun τ => τ) fun _ s19 => q_rd s19 1 650 1 fun x20 => some (x20 - 1, s19))) else some (-5, τ)) := by
            unfold f_X8_link
            rw [isRouter_y r0 (by omega) ha, p_cl, if_neg ne10, isRouter_y r0 (by omega) hb, p_cl, if_neg ne10, if_neg e, inS, p_cl, if_pos i3, if_neg ne10, linkOfS (by omega) (by omega) hm r1, p_cl, rd1_1, r1]
            rfl
          cases hlf : lf (τ 1) m a b with
          | some k =>
            have hk : k < m := by have := q_find_some hlf; omega
            rw [hlf] at V0 R0
            rw [show jn (some k) = nI (k + 1) from rfl, nI_pred, if_neg (nI_pos (by omega))] at V0
            rw [show lo (some k) = nI k from rfl, if_neg (nI_pos (by omega))] at R0
            exact simN_same h V0 R0
          | none =>
            rw [hlf] at V0 R0
            rw [if_pos (show jn none - 1 < 0 by decide)] at V0
            rw [if_pos (show lo none < 0 by decide)] at R0
            by_cases m24 : m < 24
            · obtain ⟨c, hc, rfl⟩ := nI_of2 (M := 15) (n := 15) rfl (fun z => absurd (Int32.le_trans i3.1 (Int32.le_of_lt z)) (by decide)) i3.2
              have hc1 : 1 ≤ c := by
                rcases Nat.eq_zero_or_pos c with z | z
                · subst z; exact absurd i3.1 (by decide)
                · exact z
              obtain ⟨L', τ', f1, f2, f3, f4⟩ := addLink_sim h m24 ha hb hab hc1 hc hlf
              rw [p_sub_sub] at f1
              have f1 : f_X2_add (q_sub 16 σ) (nI a) (nI b) (nI c) = some (nI m, L') := f1
              rw [if_pos (show nI m < 24 from nI_lt (b := 24) m24 (by decide)), f1, p_cl] at V0
              rw [if_neg (show ¬ nI m = 24 from fun z => by have := p_inj (a := m) (b := 24) (by omega) (by decide) z; omega), f2, p_cl, rd1_1, f3.1.2.2.2.2.1, nI_pred] at R0
              refine ⟨nI m, q_put 16 6 σ L', τ', n, m + 1, K, V0, R0, RNp_ext f3 (fun k hk => ?_), ⟨?_, fun k u v => ?_, fun k u => ?_⟩, frR_1 f4⟩
              · show q_put 16 6 σ L' (1 + k) = q_put 15 6 (q_sub 1 σ) L' k
                rw [p_put, p_put]
                by_cases w : 15 ≤ k ∧ k < 15 + 6
                · rw [if_pos (by omega), if_pos w]
                  congr 1
                  omega
                · rw [if_neg (by omega), if_neg w]; rfl
              · rw [p_put, if_neg (by omega)]
              · rw [p_put, if_neg (by omega)]
              · rw [p_put, if_neg (by omega)]
            · have e24 : m = 24 := by omega
              subst e24
              rw [if_neg (by decide)] at V0
              rw [if_pos (by decide)] at R0
              exact simN_same h V0 R0
        · refine simN_same h (r := -1) ?_ ?_
          · show f_X7_link σ (nI a) (nI b) x3 = _
            unfold f_X7_link
            rw [noRouter_y v3 (by omega) ha, p_cl, if_pos rfl, noRouter_y v3 (by omega) hb, p_cl, if_pos rfl, if_neg e]
            by_cases w : x3 < 1
            · rw [if_pos w]
            · rw [if_neg w, if_neg (fun z => i3 ⟨i_nlt.mp w, z⟩)]
          · show f_X8_link τ (nI a) (nI b) x3 = _
            unfold f_X8_link
            rw [isRouter_y r0 (by omega) ha, p_cl, if_neg ne10, isRouter_y r0 (by omega) hb, p_cl, if_neg ne10, if_neg e, inS, p_cl, if_neg i3, if_pos rfl]
    · refine simN_same h (r := -1) ?_ ?_
      · show f_X7_link σ (nI a) x2 x3 = _
        unfold f_X7_link
        rw [noRouter_y v3 (by omega) ha, p_cl, if_pos rfl, noRouter_n v3 (by omega) i2, p_cl, if_neg ne10]
      · show f_X8_link τ (nI a) x2 x3 = _
        unfold f_X8_link
        rw [isRouter_y r0 (by omega) ha, p_cl, if_neg ne10, isRouter_n r0 (by omega) i2, p_cl, if_pos rfl]
  · refine simN_same h (r := -1) ?_ ?_
    · show f_X7_link σ x1 x2 x3 = _
      unfold f_X7_link
      rw [noRouter_n v3 (by omega) i1, p_cl, if_neg ne10]
    · show f_X8_link τ x1 x2 x3 = _
      unfold f_X8_link
      rw [isRouter_n r0 (by omega) i1, p_cl, if_pos rfl]
