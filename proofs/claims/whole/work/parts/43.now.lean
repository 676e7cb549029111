/-! the methods of the network now: relations and frames -/
theorem RT_ext {n : Nat} {K : Nat → Nat} {net net' : qM} {s : Nat → Int32} (h : RT n K 1 net s) (hk : ∀ k, k < 21 → net' k = net k) : RT n K 1 net' s := RT_n0 h (fun j a b => hk j (by omega))
theorem RLk_ext {n m : Nat} {net net' : qM} {s : Nat → Int32} (h : RLk n m net s) (hk : ∀ k, k < 21 → net' k = net k) : RLk n m net' s := by
  obtain ⟨a1, a2, a3, a4, a5, a6, a7, a8, a9, a10, a11, a12, a13, a14⟩ := h
  rw [← hk 0 (by decide)] at a4 a7 a9 a11 a12
  rw [← hk 15 (by decide)] at a6
  rw [← hk 16 (by decide), ← hk 17 (by decide), ← hk 18 (by decide), ← hk 19 (by decide)] at a13
  rw [← hk 20 (by decide)] at a14
  exact ⟨a1, a2, a3, a4, a5, a6, a7, a8, a9, a10, a11, a12, a13, a14⟩
theorem RNp_ext {n m : Nat} {K : Nat → Nat} {net net' : qM} {s : Nat → Int32} (h : RNp n m K net s) (hk : ∀ k, k < 21 → net' k = net k) : RNp n m K net' s := ⟨RLk_ext h.1 hk, by rw [hk 0 (by decide)]; exact h.2.1, RT_ext h.2.2 hk⟩
theorem RN_ext {n : Nat} {net net' : qM} {s : Nat → Int32} (h : RN n net s) (hk : ∀ k, k < 21 → net' k = net k) : RN n net' s := by
  obtain ⟨m, K, h⟩ := h
  exact ⟨m, K, RNp_ext h hk⟩
/-- what a method of the network now leaves as it was: class and reference -/
def frV (σ σ1 : qM) : Prop := σ1 0 = σ 0 ∧ (∀ k, 43 ≤ k → k < 85 → σ1 k = σ k) ∧ ∀ k, 89 ≤ k → σ1 k = σ k
def frR (τ τ1 : qM) : Prop := (∀ i, (14 ≤ i ∨ i = 3) → τ1 i = τ i) ∧ ∀ j, 17 ≤ j → τ1 0 j = τ 0 j
theorem frV.rf (σ : qM) : frV σ σ := ⟨rfl, fun _ _ _ => rfl, fun _ _ => rfl⟩
theorem frR.rf (τ : qM) : frR τ τ := ⟨fun _ _ => rfl, fun _ _ => rfl⟩
theorem frV.trans {a b c : qM} (h1 : frV a b) (h2 : frV b c) : frV a c := ⟨h2.1.trans h1.1, fun k x y => (h2.2.1 k x y).trans (h1.2.1 k x y), fun k x => (h2.2.2 k x).trans (h1.2.2 k x)⟩
theorem frR.trans {a b c : qM} (h1 : frR a b) (h2 : frR b c) : frR a c := ⟨fun i x => (h2.1 i x).trans (h1.1 i x), fun j x => (h2.2 j x).trans (h1.2 j x)⟩
theorem frR_M {τ τ1 : qM} (h : frM τ τ1) : frR τ τ1 := ⟨fun i x => h.1 i (by omega), fun j x => h.2 j (by omega)⟩
theorem frR_1 {τ τ1 : qM} (h : ∀ i, i ≠ 1 → τ1 i = τ i) : frR τ τ1 := ⟨fun i x => h i (by omega), fun j x => by rw [h 0 (by decide)]⟩
theorem frV_put {σ X : qM} : frV σ (q_put 1 21 σ X) := ⟨by rw [p_put, if_neg (by omega)], fun k a b => by rw [p_put, if_neg (by omega)], fun k a => by rw [p_put, if_neg (by omega)]⟩
theorem RNp_put {n m : Nat} {K : Nat → Nat} {σ X : qM} {s : Nat → Int32} (h : RNp n m K X s) : RNp n m K (q_sub 1 (q_put 1 21 σ X)) s := RNp_ext h (fun k hk => p_sub_put hk)
def simN (f g : qM → Option (Int32 × qM)) : Prop := ∀ (n m : Nat) (K : Nat → Nat) (σ τ : qM), RNp n m K (q_sub 1 σ) (τ 1) → ∃ (r : Int32) (σ1 τ1 : qM) (n1 m1 : Nat) (K1 : Nat → Nat), f σ = some (r, σ1) ∧ g τ = some (r, τ1) ∧ RNp n1 m1 K1 (q_sub 1 σ1) (τ1 1) ∧ frV σ σ1 ∧ frR τ τ1
/-- both answer r and change nothing -/
theorem simN_same {n m : Nat} {K : Nat → Nat} {σ τ : qM} (h : RNp n m K (q_sub 1 σ) (τ 1)) {o1 o2 : Option (Int32 × qM)} {r : Int32} (h1 : o1 = some (r, σ)) (h2 : o2 = some (r, τ)) : ∃ (r : Int32) (σ1 τ1 : qM) (n1 m1 : Nat) (K1 : Nat → Nat), o1 = some (r, σ1) ∧ o2 = some (r, τ1) ∧ RNp n1 m1 K1 (q_sub 1 σ1) (τ1 1) ∧ frV σ σ1 ∧ frR τ τ1 := ⟨r, σ, τ, n, m, K, h1, h2, h, frV.rf σ, frR.rf τ⟩
theorem p_sub_sub {α : Type} (a b : Nat) (f : Nat → α) : q_sub a (q_sub b f) = q_sub (b + a) f := funext (fun k => by show f (b + (a + k)) = f (b + a + k); rw [Nat.add_assoc])
/-! numbers in their bounds -/
def isN (n : Nat) (x : Int32) : Prop := ∃ a, a < n ∧ x = nI a
theorem isN_y {n : Nat} {x : Int32} (hn : n < 2 ^ 31) : isN n x ↔ (¬ x < 0 ∧ x < nI n) := by
  constructor
  · rintro ⟨a, ha, rfl⟩
    exact ⟨nI_pos (by omega), nI_lt ha hn⟩
  · rintro ⟨h1, h2⟩
    obtain ⟨j, hj, rfl⟩ := nI_of h1
    exact ⟨j, (nI_ltI hj hn).mp h2, rfl⟩
theorem inS (σ : qM) (x a b : Int32) : f_X8_in σ x a b = some (if a ≤ x ∧ x ≤ b then 1 else 0, σ) := by
  unfold f_X8_in
  by_cases h1 : x < a
  · rw [if_pos h1, if_neg (fun z => absurd h1 (i_nlt.mpr z.1)), p_bo0]
  · rw [if_neg h1]
    by_cases h2 : b < x
    · rw [if_pos h2, if_neg (fun z => absurd h2 (i_nlt.mpr z.2)), p_bo0]
    · rw [if_neg h2, if_pos ⟨i_nlt.mp h1, i_nlt.mp h2⟩, p_bo1]
theorem in0 {x : Int32} {k : Nat} (hk : k < 2 ^ 31) {b : Int32} (hb : b = nI k) : ((0 : Int32) ≤ x ∧ x ≤ b) ↔ isN (k + 1) x := by
  subst hb
  constructor
  · rintro ⟨h1, h2⟩
    obtain ⟨j, hj, rfl⟩ := nI_of (i_nlt.mpr h1)
    exact ⟨j, Nat.lt_succ_of_le ((nI_leI hj hk).mp h2), rfl⟩
  · rintro ⟨a, ha, rfl⟩
    exact ⟨nI_pos' (by omega), nI_le (by omega) hk⟩
theorem in0m {x : Int32} {n : Nat} (hn : n < 2 ^ 31) : ((0 : Int32) ≤ x ∧ x ≤ nI n - 1) ↔ isN n x := by
  cases n with
  | zero =>
    constructor
    · rintro ⟨h1, h2⟩
      have h2 : x ≤ -1 := h2
      exact absurd (Int32.le_trans h1 h2) (by decide)
    · rintro ⟨a, ha, -⟩; omega
  | succ k =>
    rw [nI_pred]
    exact in0 (by omega) rfl
theorem noRouter_y {σ : qM} {n a : Nat} (h : σ 1 3 = nI n) (hn : n < 2 ^ 31) (ha : a < n) : f_X7_noRouter σ (nI a) = some (0, σ) := by
  unfold f_X7_noRouter
  simp only [p_nm]
  rw [if_neg (nI_pos (by omega)), h, if_pos (nI_lt ha hn), p_bo0]
theorem noRouter_n {σ : qM} {n : Nat} {x : Int32} (h : σ 1 3 = nI n) (hn : n < 2 ^ 31) (hx : ¬ isN n x) : f_X7_noRouter σ x = some (1, σ) := by
  unfold f_X7_noRouter
  simp only [p_nm]
  by_cases h1 : x < 0
  · rw [if_pos h1, p_bo1]
  · rw [if_neg h1, h, if_neg (fun z => hx ((isN_y hn).mpr ⟨h1, z⟩)), p_bo1]
theorem noLink_y {σ : qM} {n a : Nat} (h : σ 16 5 = nI n) (hn : n < 2 ^ 31) (ha : a < n) : f_X7_noLink σ (nI a) = some (0, σ) := by
  unfold f_X7_noLink
  simp only [p_nm]
  rw [if_neg (nI_pos (by omega)), h, if_pos (nI_lt ha hn), p_bo0]
theorem noLink_n {σ : qM} {n : Nat} {x : Int32} (h : σ 16 5 = nI n) (hn : n < 2 ^ 31) (hx : ¬ isN n x) : f_X7_noLink σ x = some (1, σ) := by
  unfold f_X7_noLink
  simp only [p_nm]
  by_cases h1 : x < 0
  · rw [if_pos h1, p_bo1]
  · rw [if_neg h1, h, if_neg (fun z => hx ((isN_y hn).mpr ⟨h1, z⟩)), p_bo1]
theorem isRouter_y {τ : qM} {n a : Nat} (h : τ 1 0 = nI n) (hn : n < 2 ^ 31) (ha : a < n) : f_X8_isRouter τ (nI a) = some (1, τ) := by
  unfold f_X8_isRouter
  simp only [p_nm]
  rw [rd1_0, h, inS, p_cl, if_pos ((in0m hn).mpr ⟨a, ha, rfl⟩), p_bo1]
theorem isRouter_n {τ : qM} {n : Nat} {x : Int32} (h : τ 1 0 = nI n) (hn : n < 2 ^ 31) (hx : ¬ isN n x) : f_X8_isRouter τ x = some (0, τ) := by
  unfold f_X8_isRouter
  simp only [p_nm]
  rw [rd1_0, h, inS, p_cl, if_neg (fun z => hx ((in0m hn).mp z)), p_bo0]
theorem isLink_y {τ : qM} {n a : Nat} (h : τ 1 1 = nI n) (hn : n < 2 ^ 31) (ha : a < n) : f_X8_isLink τ (nI a) = some (1, τ) := by
  unfold f_X8_isLink
  simp only [p_nm]
  rw [rd1_1, h, inS, p_cl, if_pos ((in0m hn).mpr ⟨a, ha, rfl⟩), p_bo1]
theorem isLink_n {τ : qM} {n : Nat} {x : Int32} (h : τ 1 1 = nI n) (hn : n < 2 ^ 31) (hx : ¬ isN n x) : f_X8_isLink τ x = some (0, τ) := by
  unfold f_X8_isLink
  simp only [p_nm]
  rw [rd1_1, h, inS, p_cl, if_neg (fun z => hx ((in0m hn).mp z)), p_bo0]
theorem ne10 : ¬ (1 : Int32) = 0 := by decide
/-! a router -/
theorem router_sim {n m : Nat} {K : Nat → Nat} {net τ : qM} (h : RNp n m K net (τ 1)) (hn9 : n < 10) :
    ∃ net' τ', f_X3_addRouter net = some (nI n, net') ∧ f_X8_router τ = some (nI n, τ') ∧ RNp (n + 1) m (upK K n) net' (τ' 1) ∧ ∀ i, i ≠ 1 → τ' i = τ i := by
  obtain ⟨hL, h8, hT⟩ := h
  obtain ⟨a1, a2, a3, a4, a5, a6, a7, a8, a9, a10, a11, a12, a13, a14⟩ := hL
  obtain ⟨s, hs⟩ : ∃ z, z = τ 1 := ⟨_, rfl⟩
  rw [← hs] at a3 a5 a7 a8 a9 a10 a11 a12 a13 a14 h8 hT
  have hK0 : K n = 0 := hT.2.1 n (Nat.le_refl _) hn9
  have hz := hT.1 n hn9
  rw [hK0] at hz
  -- the class
  have c1 : f_X4_enter (q_sub 1 net) (nI n) (nI n) 0 (nI n) 0 = some (0, entF (q_sub 1 net) n n 0 0 (nI n) 0) := enterS hn9 hn9 (by decide) hz.2
  obtain ⟨net', hnet⟩ : ∃ z, z = entN 1 net n n 0 0 (nI n) 0 := ⟨_, rfl⟩
  have o0 : ∀ j, (j ≤ 1 ∨ 8 ≤ j) → net' j = net j := fun j hj => by rw [hnet]; exact entN_out (by omega)
  have c2 : f_X3_addRouter net = some (nI n, q_wr net' 0 3 (nI (n + 1))) := by
    unfold f_X3_addRouter
    simp only [p_nm]
    rw [a4, c1, p_cl, entN_of, ← hnet, o0 0 (by omega), a4, nI_1]
  -- the reference
  obtain ⟨τ0, h0⟩ : ∃ z, z = q_wr τ 1 0 (nI (n + 1)) := ⟨_, rfl⟩
  have t1 : τ0 1 = up1 s 0 (nI (n + 1)) := by rw [h0, up1_wr, hs]
  obtain ⟨τ1, e1, e2, e3⟩ := knowS (τ := τ0) (r := n) (k := 0) (d := nI n) (x := 0) (v := nI n) (q := 0) hn9 (by decide) (by rw [t1, up1_n (by omega)]; exact hz.1)
  have c3 : f_X8_router τ = some (nI n, τ1) := by
    unfold f_X8_router
    simp only [p_nm]
    rw [rd1_0, ← hs, a3, if_neg (fun z => by have := p_inj (a := n) (b := 10) (by omega) (by decide) z; omega), rd1_0, rd1_0, ← hs, a3, nI_1, wt1_0, ← h0, e1, p_cl]
  have hT1 : RT n K 1 net (up1 s 0 (nI (n + 1))) := RT_row hT (fun i hi => up1_n (by omega))
  have hT2 := RT_enter hT1 (n' := n + 1) (by omega) (by omega) (r := n) (d := n) (v := n) (x := 0) (by omega) (by omega) (by omega) (by omega) (by omega) (fun k hk => by omega) (fun j x y => by omega) 0
  rw [hK0] at hT2
  have hT2 : RT (n + 1) (upK K n) 1 (entN 1 net n n 0 0 (nI n) 0) (knowF (up1 s 0 (nI (n + 1))) n 0 (nI n) 0 (nI n) 0) := hT2
  rw [← hnet, ← t1, ← e2] at hT2
  have lo : ∀ i, i ≠ 0 → i < 130 → τ1 1 i = s i := fun i h1 h2 => by rw [e2, knowF_out (by omega) (by omega) (by omega) (by omega) (by omega) (by omega), t1, up1_n h1]
  have lo0 : τ1 1 0 = nI (n + 1) := by rw [e2, knowF_out (by omega) (by omega) (by omega) (by omega) (by omega) (by omega), t1, up1_s]
  have p0 : ∀ j, j ≠ 3 → q_wr net' 0 3 (nI (n + 1)) 0 j = net 0 j := fun j hj => by rw [p_wrj hj, o0 0 (by omega)]
  have pk : ∀ j, 8 ≤ j → q_wr net' 0 3 (nI (n + 1)) j = net j := fun j hj => by rw [p_wrk (by omega), o0 j (by omega)]
  refine ⟨_, τ1, c2, c3, ⟨⟨by omega, a2, lo0, p_wrs _ _ _ _, ?_, ?_, ?_, ?_, ?_, ?_, ?_, ?_, fun k hk => ?_, fun x y hx hy => ?_⟩, ?_, RT_n0 hT2 (fun j x y => p_wrk (by omega))⟩, fun i hi => by rw [e3 i hi, h0, p_wrk hi]⟩
  · rw [lo 1 (by decide) (by decide)]; exact a5
  · rw [pk 15 (by decide)]; exact a6
  · rw [p0 4 (by decide), lo 2 (by decide) (by decide)]; exact a7
  · rw [lo 2 (by decide) (by decide)]; exact a8
  · rw [p0 5 (by decide), lo 3 (by decide) (by decide)]; exact a9
  · rw [lo 3 (by decide) (by decide)]; exact a10
  · rw [p0 6 (by decide), lo 4 (by decide) (by decide)]; exact a11
  · rw [p0 7 (by decide), lo 5 (by decide) (by decide)]; exact a12
  · rw [lo _ (by omega) (by omega), lo _ (by omega) (by omega), lo _ (by omega) (by omega), lo _ (by omega) (by omega), pk 16 (by decide), pk 17 (by decide), pk 18 (by decide), pk 19 (by decide)]
    obtain ⟨a, b, c, w1, w2, w⟩ := a13 k hk
    exact ⟨a, b, c, w1, by omega, w⟩
  · rw [pk 20 (by decide), lf_cong (s := s) a2 (fun i u v => lo i (by omega) (by omega))]
    exact a14 x y hx hy
  · rw [p0 8 (by decide), lo 6 (by decide) (by decide)]; exact h8
theorem N_router : simN f_X7_router f_X8_router := fun n m K σ τ h => by
  have hn := h.1.1
  have h3 : σ 1 3 = nI n := h.1.2.2.2.1
  have h0 : τ 1 0 = nI n := h.1.2.2.1
  by_cases c : n < 10
  · obtain ⟨net', τ', e1, e2, e3, e4⟩ := router_sim h c
    refine ⟨nI n, q_put 1 21 σ net', τ', n + 1, m, upK K n, ?_, e2, RNp_put e3, frV_put, frR_1 e4⟩
    unfold f_X7_router
    simp only [p_nm]
    rw [h3, if_pos (show nI n < 10 from nI_lt (b := 10) c (by decide)), e1, p_cl]
  · have e : n = 10 := by omega
    subst e
    refine simN_same h (r := -3) ?_ ?_
    · unfold f_X7_router
      simp only [p_nm]
      rw [h3, if_neg (by decide)]
    · unfold f_X8_router
      rw [rd1_0, h0, if_pos (by decide)]
