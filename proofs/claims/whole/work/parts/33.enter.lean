/-! a new entry -/
def up1 (s : Nat → Int32) (i : Nat) (v : Int32) : Nat → Int32 := fun j => if j = i then v else s j
theorem up1_s (s : Nat → Int32) (i : Nat) (v : Int32) : up1 s i v i = v := if_pos rfl
theorem up1_n {s : Nat → Int32} {i j : Nat} {v : Int32} (h : j ≠ i) : up1 s i v j = s j := if_neg h
theorem up1_wr (σ : qM) (r i : Nat) (v : Int32) : q_wr σ r i v r = up1 (σ r) i v := by
  funext j
  rw [p_wr]
  unfold up1
  by_cases h : j = i
  · rw [if_pos ⟨rfl, h⟩, if_pos h]
  · rw [if_neg (fun q => h q.2), if_neg h]
def knowF (s : Nat → Int32) (r k : Nat) (d x v q : Int32) : Nat → Int32 := up1 (up1 (up1 (up1 (up1 (up1 s (150 + (10 * r + k)) d) (250 + (10 * r + k)) x) (350 + (10 * r + k)) v) (450 + (10 * r + k)) q) (550 + (10 * r + k)) 0) (130 + r) (nI (k + 1))
theorem knowS {τ : qM} {r k : Nat} {d x v q : Int32} (hr : r < 10) (hk : k < 10) (hK : τ 1 (130 + r) = nI k) : ∃ τ1, f_X8_know τ (nI r) d x v q = some (0, τ1) ∧ τ1 1 = knowF (τ 1) r k d x v q ∧ ∀ j, j ≠ 1 → τ1 j = τ j := by
  unfold f_X8_know
  simp only [p_nm]
  rw [p_10m, a130, q_rd_n (by omega) (by decide), hK, nI_add, a150, q_wt_n (by omega) (by decide), a250, q_wt_n (by omega) (by decide), a350, q_wt_n (by omega) (by decide), a450, q_wt_n (by omega) (by decide), a550, q_wt_n (by omega) (by decide), q_rd_n (by omega) (by decide)]
  rw [p_wrj (by omega), p_wrj (by omega), p_wrj (by omega), p_wrj (by omega), p_wrj (by omega), hK, nI_1, q_wt_n (by omega) (by decide)]
  refine ⟨_, rfl, ?_, fun j hj => ?_⟩
  · rw [up1_wr, up1_wr, up1_wr, up1_wr, up1_wr, up1_wr]; rfl
  · rw [p_wrk hj, p_wrk hj, p_wrk hj, p_wrk hj, p_wrk hj, p_wrk hj]
theorem knowF_in {s : Nat → Int32} {r k : Nat} {d x v q : Int32} (hr : r < 10) (hk : k < 10) : knowF s r k d x v q (150 + (10 * r + k)) = d ∧ knowF s r k d x v q (250 + (10 * r + k)) = x ∧ knowF s r k d x v q (350 + (10 * r + k)) = v ∧ knowF s r k d x v q (450 + (10 * r + k)) = q ∧ knowF s r k d x v q (550 + (10 * r + k)) = 0 ∧ knowF s r k d x v q (130 + r) = nI (k + 1) := by
  unfold knowF
  refine ⟨?_, ?_, ?_, ?_, ?_, up1_s _ _ _⟩
  · rw [up1_n (by omega), up1_n (by omega), up1_n (by omega), up1_n (by omega), up1_n (by omega), up1_s]
  · rw [up1_n (by omega), up1_n (by omega), up1_n (by omega), up1_n (by omega), up1_s]
  · rw [up1_n (by omega), up1_n (by omega), up1_n (by omega), up1_s]
  · rw [up1_n (by omega), up1_n (by omega), up1_s]
  · rw [up1_n (by omega), up1_s]
theorem knowF_out {s : Nat → Int32} {r k i : Nat} {d x v q : Int32} (h1 : i ≠ 150 + (10 * r + k)) (h2 : i ≠ 250 + (10 * r + k)) (h3 : i ≠ 350 + (10 * r + k)) (h4 : i ≠ 450 + (10 * r + k)) (h5 : i ≠ 550 + (10 * r + k)) (h6 : i ≠ 130 + r) : knowF s r k d x v q i = s i := by
  unfold knowF
  rw [up1_n h6, up1_n h5, up1_n h4, up1_n h3, up1_n h2, up1_n h1]
/-- the class's side, by places: tables at the region o -/
def entN (o : Nat) (net : qM) (r d k : Nat) (x v q : Int32) : qM := q_wr (q_wr (q_wr (q_wr (q_wr (q_wr net (o + 1) (10 * r + d) x) (o + 2) (10 * r + d) v) (o + 3) (10 * r + d) q) (o + 4) (10 * r + d) 0) (o + 5) (10 * r + k) (nI d)) (o + 6) r (nI (k + 1))
theorem entN_of (net : qM) (r d k : Nat) (x v q : Int32) : q_put 1 7 net (entF (q_sub 1 net) r d k x v q) = entN 1 net r d k x v q := by
  unfold entF entN
  rw [p_put_wr (by decide), p_put_wr (by decide), p_put_wr (by decide), p_put_wr (by decide), p_put_wr (by decide), p_put_wr (by decide), p_put_sub]
theorem entN_at {o : Nat} {net : qM} {r d k : Nat} {x v q : Int32} (c : Nat) : (entN o net r d k x v q (o + 1) c = if c = 10 * r + d then x else net (o + 1) c) ∧ (entN o net r d k x v q (o + 2) c = if c = 10 * r + d then v else net (o + 2) c) ∧ (entN o net r d k x v q (o + 3) c = if c = 10 * r + d then q else net (o + 3) c) ∧ (entN o net r d k x v q (o + 4) c = if c = 10 * r + d then 0 else net (o + 4) c) ∧ (entN o net r d k x v q (o + 5) c = if c = 10 * r + k then nI d else net (o + 5) c) ∧ (entN o net r d k x v q (o + 6) c = if c = r then nI (k + 1) else net (o + 6) c) := by
  unfold entN
  refine ⟨?_, ?_, ?_, ?_, ?_, ?_⟩
  · rw [p_wrk (by omega), p_wrk (by omega), p_wrk (by omega), p_wrk (by omega), p_wrk (by omega), up1_wr]; rfl
  · rw [p_wrk (by omega), p_wrk (by omega), p_wrk (by omega), p_wrk (by omega), up1_wr, p_wrk (by omega)]; rfl
  · rw [p_wrk (by omega), p_wrk (by omega), p_wrk (by omega), up1_wr, p_wrk (by omega), p_wrk (by omega)]; rfl
  · rw [p_wrk (by omega), p_wrk (by omega), up1_wr, p_wrk (by omega), p_wrk (by omega), p_wrk (by omega)]; rfl
  · rw [p_wrk (by omega), up1_wr, p_wrk (by omega), p_wrk (by omega), p_wrk (by omega), p_wrk (by omega)]; rfl
  · rw [up1_wr, p_wrk (by omega), p_wrk (by omega), p_wrk (by omega), p_wrk (by omega), p_wrk (by omega)]; rfl
theorem entN_out {o : Nat} {net : qM} {r d k : Nat} {x v q : Int32} {j : Nat} (h : j ≤ o ∨ o + 7 ≤ j) : entN o net r d k x v q j = net j := by
  unfold entN
  rw [p_wrk (by omega), p_wrk (by omega), p_wrk (by omega), p_wrk (by omega), p_wrk (by omega), p_wrk (by omega)]
def upK (K : Nat → Nat) (r : Nat) : Nat → Nat := fun j => if j = r then K r + 1 else K j
theorem RT_enter {n n' : Nat} {K : Nat → Nat} {o : Nat} {net : qM} {s : Nat → Int32} (h : RT n K o net s) (hn : n ≤ n') (hn' : n' ≤ 10) {r d v x : Nat} (hr : r < n') (hd : d < n') (hv : v < n') (hx : x ≤ 16) (hk : K r < 10) (hu : ∀ k, k < K r → s (150 + (10 * r + k)) ≠ nI d) (hf : ∀ j, n ≤ j → j < n' → j = r ∧ d = r) (q : Int32) :
    RT n' (upK K r) o (entN o net r d (K r) (nI x) (nI v) q) (knowF s r (K r) (nI d) (nI x) (nI v) q) := by
  obtain ⟨h1, h2, h3, h4, h5, h6⟩ := h
  obtain ⟨e1, e2, e3, e4, e5, e6⟩ := knowF_in (s := s) (r := r) (k := K r) (d := nI d) (x := nI x) (v := nI v) (q := q) (by omega) hk
  have old : ∀ r' k', r' < 10 → k' < K r' → ∀ b, (b = 150 ∨ b = 250 ∨ b = 350 ∨ b = 450 ∨ b = 550) → knowF s r (K r) (nI d) (nI x) (nI v) q (b + (10 * r' + k')) = s (b + (10 * r' + k')) := by
    intro r' k' hr' hk' b hb
    have hk10 : k' < 10 := by
      rcases Nat.lt_or_ge k' 10 with c | c
      · exact c
      · have a := (RT.le (n := n) ⟨h1, h2, h3, h4, h5, h6⟩ (by omega) hr'); omega
    have hne : ¬ (r' = r ∧ k' = K r) := fun c => by rw [c.1, c.2] at hk'; omega
    refine knowF_out ?_ ?_ ?_ ?_ ?_ ?_ <;> (rcases hb with rfl | rfl | rfl | rfl | rfl <;> omega)
  have upK_r : upK K r r = K r + 1 := if_pos rfl
  have upK_n : ∀ j, j ≠ r → upK K r j = K j := fun j hj => if_neg hj
  refine ⟨fun r' hr' => ?_, fun r' a b => ?_, fun r' hr' => ?_, fun r' i j hr' hi hj e => ?_, fun r' k hr' hk' => ?_, fun r' d' hr' hd' hu' => ?_⟩
  · rw [(entN_at r').2.2.2.2.2]
    by_cases c : r' = r
    · subst c
      rw [e6, upK_r, if_pos rfl]; exact ⟨rfl, rfl⟩
    · rw [upK_n r' c, if_neg c, knowF_out (by omega) (by omega) (by omega) (by omega) (by omega) (by omega)]
      exact h1 r' hr'
  · rw [upK_n r' (by omega)]; exact h2 r' (by omega) b
  · by_cases c : r' = r
    · subst c
      rw [upK_r]
      refine ⟨by omega, ?_⟩
      by_cases c0 : K r' = 0
      · have hd0 : d = r' := by
          rcases Nat.lt_or_ge r' n with c1 | c1
          · have := (h3 r' c1).1; omega
          · exact (hf r' c1 hr').2
        rw [c0] at e1
        rw [c0, e1, hd0]
      · have a := old r' 0 (by omega) (by omega) 150 (Or.inl rfl)
        rw [a]
        rcases Nat.lt_or_ge r' n with c1 | c1
        · exact (h3 r' c1).2
        · have := h2 r' c1 (by omega); omega
    · have c1 : r' < n := by
        rcases Nat.lt_or_ge r' n with c1 | c1
        · exact c1
        · exact absurd (hf r' c1 hr').1 c
      rw [upK_n r' c, old r' 0 (by omega) (h3 r' c1).1 150 (Or.inl rfl)]
      exact h3 r' c1
  · by_cases c : r' = r
    · subst c
      rw [upK_r] at hi hj
      rcases Nat.lt_or_ge i (K r') with ci | ci <;> rcases Nat.lt_or_ge j (K r') with cj | cj
      · rw [old r' i hr' ci 150 (Or.inl rfl), old r' j hr' cj 150 (Or.inl rfl)] at e
        exact h4 r' i j hr' ci cj e
      · have ej : j = K r' := by omega
        subst ej
        rw [old r' i hr' ci 150 (Or.inl rfl), e1] at e
        exact absurd e (hu i ci)
      · have ei : i = K r' := by omega
        subst ei
        rw [old r' j hr' cj 150 (Or.inl rfl), e1] at e
        exact absurd e.symm (hu j cj)
      · omega
    · rw [upK_n r' c] at hi hj
      rw [old r' i hr' hi 150 (Or.inl rfl), old r' j hr' hj 150 (Or.inl rfl)] at e
      exact h4 r' i j hr' hi hj e
  · by_cases c : r' = r ∧ k = K r
    · obtain ⟨rfl, rfl⟩ := c
      refine ⟨d, v, x, hd, hv, hx, e1, ?_, e2, ?_, e3, ?_, ?_, ?_⟩
      · rw [(entN_at _).2.2.2.2.1, if_pos rfl]
      · rw [(entN_at _).1, if_pos rfl]
      · rw [(entN_at _).2.1, if_pos rfl]
      · rw [(entN_at _).2.2.1, if_pos rfl, e4]
      · rw [(entN_at _).2.2.2.1, if_pos rfl, e5]
    · have hkK : k < K r' := by
        by_cases c1 : r' = r
        · subst c1
          rw [upK_r] at hk'
          have : k ≠ K r' := fun z => c ⟨rfl, z⟩
          omega
        · rw [upK_n r' c1] at hk'; exact hk'
      have hk10 : k < 10 := by
        have a := (RT.le (n := n) ⟨h1, h2, h3, h4, h5, h6⟩ (by omega) hr'); omega
      obtain ⟨d', v', x', a1, a2, a3, a4, a5, a6, a7, a8, a9, a10, a11⟩ := h5 r' k hr' hkK
      have hcell : ¬ (10 * r' + d' = 10 * r + d) := fun z => by
        have z1 : r' = r := by omega
        have z2 : d' = d := by omega
        subst z1; subst z2
        exact hu k hkK a4
      refine ⟨d', v', x', by omega, by omega, a3, ?_, ?_, ?_, ?_, ?_, ?_, ?_, ?_⟩
      · rw [old r' k hr' hkK 150 (by omega)]; exact a4
      · rw [(entN_at _).2.2.2.2.1, if_neg (fun z => c ⟨by omega, by
          have z1 : r' = r := by omega
          subst z1; omega⟩)]; exact a5
      · rw [old r' k hr' hkK 250 (by omega)]; exact a6
      · rw [(entN_at _).1, if_neg hcell]; exact a7
      · rw [old r' k hr' hkK 350 (by omega)]; exact a8
      · rw [(entN_at _).2.1, if_neg hcell]; exact a9
      · rw [(entN_at _).2.2.1, if_neg hcell, old r' k hr' hkK 450 (by omega)]; exact a10
      · rw [(entN_at _).2.2.2.1, if_neg hcell, old r' k hr' hkK 550 (by omega)]; exact a11
  · by_cases c : r' = r
    · subst c
      have hdd : d' ≠ d := fun z => by
        subst z
        exact hu' (K r') (by rw [upK_r]; omega) e1
      rw [(entN_at _).1, if_neg (by omega)]
      refine h6 r' d' hr' hd' (fun k hk' => ?_)
      have a := hu' k (by rw [upK_r]; omega)
      rw [old r' k hr' hk' 150 (Or.inl rfl)] at a
      exact a
    · rw [(entN_at _).1, if_neg (by omega)]
      refine h6 r' d' hr' hd' (fun k hk' => ?_)
      have a := hu' k (by rw [upK_n r' c]; exact hk')
      rw [old r' k hr' hk' 150 (Or.inl rfl)] at a
      exact a
