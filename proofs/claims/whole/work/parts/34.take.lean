/-! an entry is changed -/
def takF (net : qM) (c : Nat) (x v : Int32) : qM := q_wr (q_wr (if x = 16 ∧ net 2 c < 16 then q_wr net 5 c (net 0 7 + net 0 6) else net) 2 c x) 3 c v
theorem takeS {net : qM} {c : Nat} {x v : Int32} (hc : c < 100) : f_X3_take net (nI c) x v = some (0, takF net c x v) := by
  unfold f_X3_take takF
  by_cases h : x = 16
  · rw [if_pos h, q_rd_n hc (by decide)]
    by_cases h2 : (16 : Int32) ≤ net 2 c
    · rw [if_pos h2, if_neg (fun q => by have := q.2; rw [Int32.lt_iff_toInt_lt] at this; rw [Int32.le_iff_toInt_le] at h2; omega)]
      unfold b_X3_take_38
      rw [q_wt_n hc (by decide), q_wt_n hc (by decide)]
    · rw [if_neg h2, if_pos ⟨h, by rw [Int32.lt_iff_toInt_lt]; rw [Int32.le_iff_toInt_le] at h2; omega⟩]
      simp only [p_nm]
      rw [q_wt_n hc (by decide)]
      unfold b_X3_take_38
      rw [q_wt_n hc (by decide), q_wt_n hc (by decide)]
  · rw [if_neg h, if_neg (fun q => h q.1)]
    unfold b_X3_take_38
    rw [q_wt_n hc (by decide), q_wt_n hc (by decide)]
theorem takF_at (net : qM) (c : Nat) (x v : Int32) (j : Nat) : (takF net c x v 2 j = if j = c then x else net 2 j) ∧ (takF net c x v 3 j = if j = c then v else net 3 j) ∧ (takF net c x v 5 j = if j = c ∧ x = 16 ∧ net 2 c < 16 then net 0 7 + net 0 6 else net 5 j) := by
  unfold takF
  refine ⟨?_, ?_, ?_⟩
  · rw [p_wrk (by decide), up1_wr]
    unfold up1
    by_cases h : j = c
    · rw [if_pos h, if_pos h]
    · rw [if_neg h, if_neg h]
      by_cases h2 : x = 16 ∧ net 2 c < 16
      · rw [if_pos h2, p_wrk (by decide)]
      · rw [if_neg h2]
  · rw [up1_wr]
    unfold up1
    by_cases h : j = c
    · rw [if_pos h, if_pos h]
    · rw [if_neg h, if_neg h, p_wrk (by decide)]
      by_cases h2 : x = 16 ∧ net 2 c < 16
      · rw [if_pos h2, p_wrk (by decide)]
      · rw [if_neg h2]
  · rw [p_wrk (by decide), p_wrk (by decide)]
    by_cases h2 : x = 16 ∧ net 2 c < 16
    · rw [if_pos h2, up1_wr]
      unfold up1
      by_cases h : j = c
      · rw [if_pos h, if_pos ⟨h, h2⟩]
      · rw [if_neg h, if_neg (fun q => h q.1)]
    · rw [if_neg h2, if_neg (fun q => h2 q.2)]
theorem takF_out {net : qM} {c : Nat} {x v : Int32} {j : Nat} (h2 : j ≠ 2) (h3 : j ≠ 3) (h5 : j ≠ 5) : takF net c x v j = net j := by
  unfold takF
  rw [p_wrk h3, p_wrk h2]
  by_cases h : x = 16 ∧ net 2 c < 16
  · rw [if_pos h, p_wrk h5]
  · rw [if_neg h]
/-- the same in the row, entry number e -/
def becF (s : Nat → Int32) (e : Nat) (x v : Int32) : Nat → Int32 := up1 (up1 (if x = 16 ∧ s (250 + e) < 16 then up1 s (550 + e) (s 5 + s 4) else s) (250 + e) x) (350 + e) v
theorem becomeS {τ : qM} {e : Nat} {x v : Int32} (he : e < 100) : ∃ τ1, f_X8_become τ (nI e) x v = some (0, τ1) ∧ τ1 1 = becF (τ 1) e x v ∧ ∀ j, j ≠ 1 → τ1 j = τ j := by
  unfold f_X8_become becF
  simp only [p_nm]
  rw [a250, q_rd_n (by omega) (by decide)]
  by_cases h2 : (16 : Int32) ≤ τ 1 (250 + e)
  · rw [if_pos h2, if_neg (fun q => by have := q.2; rw [Int32.lt_iff_toInt_lt] at this; rw [Int32.le_iff_toInt_le] at h2; omega)]
    unfold b_X8_become_44
    simp only [p_nm]
    rw [a250, q_wt_n (by omega) (by decide), a350, q_wt_n (by omega) (by decide)]
    exact ⟨_, rfl, by rw [up1_wr, up1_wr], fun j hj => by rw [p_wrk hj, p_wrk hj]⟩
  · rw [if_neg h2]
    have h3 : τ 1 (250 + e) < 16 := by rw [Int32.lt_iff_toInt_lt]; rw [Int32.le_iff_toInt_le] at h2; omega
    by_cases h : x = 16
    · rw [if_pos h, if_pos ⟨h, h3⟩, a550, rd1_5, rd1_4, q_wt_n (by omega) (by decide)]
      unfold b_X8_become_44
      simp only [p_nm]
      rw [a250, q_wt_n (by omega) (by decide), a350, q_wt_n (by omega) (by decide)]
      exact ⟨_, rfl, by rw [up1_wr, up1_wr, up1_wr], fun j hj => by rw [p_wrk hj, p_wrk hj, p_wrk hj]⟩
    · rw [if_neg h, if_neg (fun q => h q.1)]
      unfold b_X8_become_44
      simp only [p_nm]
      rw [a250, q_wt_n (by omega) (by decide), a350, q_wt_n (by omega) (by decide)]
      exact ⟨_, rfl, by rw [up1_wr, up1_wr], fun j hj => by rw [p_wrk hj, p_wrk hj]⟩
theorem becF_at {s : Nat → Int32} {e : Nat} {x v : Int32} (he : e < 100) : becF s e x v (250 + e) = x ∧ becF s e x v (350 + e) = v ∧ becF s e x v (550 + e) = (if x = 16 ∧ s (250 + e) < 16 then s 5 + s 4 else s (550 + e)) := by
  unfold becF
  refine ⟨?_, up1_s _ _ _, ?_⟩
  · rw [up1_n (by omega), up1_s]
  · rw [up1_n (by omega), up1_n (by omega)]
    by_cases h : x = 16 ∧ s (250 + e) < 16
    · rw [if_pos h, if_pos h, up1_s]
    · rw [if_neg h, if_neg h]
theorem becF_out {s : Nat → Int32} {e i : Nat} {x v : Int32} (h1 : i ≠ 250 + e) (h2 : i ≠ 350 + e) (h3 : i ≠ 550 + e) : becF s e x v i = s i := by
  unfold becF
  rw [up1_n h2, up1_n h1]
  by_cases h : x = 16 ∧ s (250 + e) < 16
  · rw [if_pos h, up1_n h3]
  · rw [if_neg h]
/-- one entry changes at both sides, whatever: places of the tables at region o -/
theorem RT_chg {n : Nat} {K : Nat → Nat} {o : Nat} {net net' : qM} {s s' : Nat → Int32} (h : RT n K o net s) (hn : n ≤ 10) {r k d : Nat} (hr : r < 10) (hd : d < 10) (hk : k < K r) (hsd : s (150 + (10 * r + k)) = nI d) {x v : Nat} (hx : x ≤ 16) (hv : v < n)
    (g1 : s' (250 + (10 * r + k)) = nI x) (g2 : s' (350 + (10 * r + k)) = nI v)
    (q1 : net' (o + 1) (10 * r + d) = nI x) (q2 : net' (o + 2) (10 * r + d) = nI v) (q3 : net' (o + 3) (10 * r + d) = s' (450 + (10 * r + k))) (q4 : net' (o + 4) (10 * r + d) = s' (550 + (10 * r + k)))
    (gs : ∀ i, 130 ≤ i → i ≠ 250 + (10 * r + k) → i ≠ 350 + (10 * r + k) → i ≠ 450 + (10 * r + k) → i ≠ 550 + (10 * r + k) → s' i = s i)
    (qs : ∀ c, c ≠ 10 * r + d → net' (o + 1) c = net (o + 1) c ∧ net' (o + 2) c = net (o + 2) c ∧ net' (o + 3) c = net (o + 3) c ∧ net' (o + 4) c = net (o + 4) c) (q5 : net' (o + 5) = net (o + 5)) (q6 : net' (o + 6) = net (o + 6)) : RT n K o net' s' := by
  obtain ⟨h1, h2, h3, h4, h5, h6⟩ := h
  have le : ∀ r', r' < 10 → K r' ≤ n := fun r' hr' => RT.le ⟨h1, h2, h3, h4, h5, h6⟩ hn hr'
  have kk := le r hr
  have g150 : ∀ r' k', r' < 10 → k' < K r' → s' (150 + (10 * r' + k')) = s (150 + (10 * r' + k')) := fun r' k' a b => by
    have := le r' a
    exact gs _ (by omega) (by omega) (by omega) (by omega) (by omega)
  refine ⟨fun r' hr' => ?_, h2, fun r' hr' => ?_, fun r' i j hr' hi hj e => ?_, fun r' k' hr' hk' => ?_, fun r' d' hr' hd' hu' => ?_⟩
  · rw [gs _ (by omega) (by omega) (by omega) (by omega) (by omega), q6]; exact h1 r' hr'
  · rw [g150 r' 0 (by omega) (h3 r' hr').1]; exact h3 r' hr'
  · rw [g150 r' i hr' hi, g150 r' j hr' hj] at e
    exact h4 r' i j hr' hi hj e
  · have lk := le r' hr'
    by_cases c : r' = r ∧ k' = k
    · obtain ⟨rfl, rfl⟩ := c
      obtain ⟨d', v', x', a1, a2, a3, a4, a5, -⟩ := h5 r' k' hr' hk'
      have e : d' = d := p_inj (by omega) (by omega) (a4.symm.trans hsd)
      subst e
      exact ⟨d', v, x, a1, hv, hx, by rw [g150 r' k' hr' hk']; exact a4, by rw [q5]; exact a5, g1, q1, g2, q2, q3, q4⟩
    · obtain ⟨d', v', x', a1, a2, a3, a4, a5, a6, a7, a8, a9, a10, a11⟩ := h5 r' k' hr' hk'
      have ne : ¬ (r' = r ∧ d' = d) := fun z => c ⟨z.1, by
        obtain ⟨z1, z2⟩ := z
        subst z1; subst z2
        exact h4 r' k' k hr' hk' hk (a4.trans hsd.symm)⟩
      obtain ⟨b1, b2, b3, b4⟩ := qs (10 * r' + d') (by omega)
      have w : 10 * r' + k' ≠ 10 * r + k := by omega
      exact ⟨d', v', x', a1, a2, a3, by rw [g150 r' k' hr' hk']; exact a4, by rw [q5]; exact a5, by rw [gs _ (by omega) (by omega) (by omega) (by omega) (by omega)]; exact a6, by rw [b1]; exact a7, by rw [gs _ (by omega) (by omega) (by omega) (by omega) (by omega)]; exact a8, by rw [b2]; exact a9, by rw [b3, gs _ (by omega) (by omega) (by omega) (by omega) (by omega)]; exact a10, by rw [b4, gs _ (by omega) (by omega) (by omega) (by omega) (by omega)]; exact a11⟩
  · have ne : ¬ (r' = r ∧ d' = d) := fun z => by
      obtain ⟨z1, z2⟩ := z
      subst z1; subst z2
      exact hu' k hk (by rw [g150 r' k hr' hk]; exact hsd)
    rw [(qs (10 * r' + d') (by omega)).1]
    exact h6 r' d' hr' hd' (fun k' hk' => by
      have a := hu' k' hk'
      rw [g150 r' k' hr' hk'] at a
      exact a)
