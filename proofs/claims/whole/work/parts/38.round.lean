/-! a round: the class -/
theorem RT_row {n : Nat} {K : Nat → Nat} {o : Nat} {net : qM} {s s' : Nat → Int32} (h : RT n K o net s) (hs : ∀ i, 130 ≤ i → s' i = s i) : RT n K o net s' := by
  obtain ⟨h1, h2, h3, h4, h5, h6⟩ := h
  refine ⟨fun r hr => by rw [hs _ (by omega)]; exact h1 r hr, h2, fun r hr => by rw [hs _ (by omega)]; exact h3 r hr, fun r i j hr hi hj e => h4 r i j hr hi hj (by rw [hs _ (by omega), hs _ (by omega)] at e; exact e), fun r k hr hk => ?_, fun r d hr hd hu => h6 r d hr hd (fun k hk => by have := hu k hk; rw [hs _ (by omega)] at this; exact this)⟩
  rw [hs _ (by omega), hs _ (by omega), hs _ (by omega), hs _ (by omega), hs _ (by omega)]
  exact h5 r k hr hk
theorem RT_net {n : Nat} {K : Nat → Nat} {o o' : Nat} {net net' : qM} {s : Nat → Int32} (hn : n ≤ 10) (h : RT n K o net s) (hc : ∀ i, 1 ≤ i → i ≤ 5 → ∀ j, j < 100 → net' (o' + i) j = net (o + i) j) (hz : ∀ j, j < 10 → net' (o' + 6) j = net (o + 6) j) : RT n K o' net' s := by
  have le : ∀ r, r < 10 → K r ≤ n := fun r hr => h.le hn hr
  obtain ⟨h1, h2, h3, h4, h5, h6⟩ := h
  refine ⟨fun r hr => by rw [hz r hr]; exact h1 r hr, h2, h3, h4, fun r k hr hk => ?_, fun r d hr hd hu => by rw [hc 1 (by decide) (by decide) _ (by omega)]; exact h6 r d hr hd hu⟩
  obtain ⟨d, v, x, a1, a2, a3, a4, a5, a6, a7, a8, a9, a10, a11⟩ := h5 r k hr hk
  have := le r hr
  exact ⟨d, v, x, a1, a2, a3, a4, by rw [hc 5 (by decide) (by decide) _ (by omega)]; exact a5, a6, by rw [hc 1 (by decide) (by decide) _ (by omega)]; exact a7, a8, by rw [hc 2 (by decide) (by decide) _ (by omega)]; exact a9, by rw [hc 3 (by decide) (by decide) _ (by omega)]; exact a10, by rw [hc 4 (by decide) (by decide) _ (by omega)]; exact a11⟩
/-- the routers' own sequences are 2 more -/
def bmp (s : Nat → Int32) : Nat → Nat → Int32
  | 0 => s
  | k + 1 => up1 (bmp s k) (450 + 10 * k) (bmp s k (450 + 10 * k) + 2)
def bump (s : Nat → Int32) (k : Nat) : Nat → Int32 := if s 3 = 1 then bmp s k else s
theorem bmp_lo {s : Nat → Int32} {i : Nat} (hi : i < 450 ∨ 550 ≤ i) : ∀ {k : Nat}, k ≤ 10 → bmp s k i = s i := by
  intro k
  induction k with
  | zero => intro _; rfl
  | succ k ih =>
    intro hk
    show up1 _ _ _ i = _
    rw [up1_n (by omega)]
    exact ih (by omega)
theorem bump_lo {s : Nat → Int32} {i k : Nat} (hk : k ≤ 10) (hi : i < 450 ∨ 550 ≤ i) : bump s k i = s i := by
  unfold bump
  by_cases h : s 3 = 1
  · rw [if_pos h]; exact bmp_lo hi hk
  · rw [if_neg h]
theorem two0 (x : Int32) : x + 2 * 0 = x := by rw [show (2 : Int32) * 0 = 0 by decide, Int32.add_zero]
theorem bump_step {n : Nat} {K : Nat → Nat} {net : qM} {b0 : Nat → Int32} (hn : n ≤ 10) (hq : net 0 5 = b0 3) (hb : b0 3 = 0 ∨ b0 3 = 1) {k : Nat} (hk : k < n) (hT : RT n K 1 net (bump b0 k)) : RT n K 1 (q_wr net 4 (10 * k + k) (net 4 (10 * k + k) + 2 * net 0 5)) (bump b0 (k + 1)) := by
  have h3 := hT.2.2.1 k hk
  obtain ⟨d, v, x, a1, a2, a3, a4, a5, a6, a7, a8, a9, a10, a11⟩ := hT.2.2.2.2.1 k 0 (by omega) h3.1
  have e : d = k := p_inj (by omega) (by omega) (a4.symm.trans h3.2)
  subst e
  rcases hb with hb | hb
  · have e1 : ∀ j, bump b0 j = b0 := fun j => by unfold bump; rw [if_neg (by rw [hb]; decide)]
    rw [e1] at hT
    rw [hq, hb, two0, e1]
    have e2 : q_wr net 4 (10 * d + d) (net 4 (10 * d + d)) = net := by
      funext i j
      rw [p_wr]
      by_cases c : i = 4 ∧ j = 10 * d + d
      · rw [if_pos c, c.1, c.2]
      · rw [if_neg c]
    rw [e2]; exact hT
  · have e1 : ∀ j, bump b0 j = bmp b0 j := fun j => by unfold bump; rw [if_pos hb]
    simp only [e1] at a4 a6 a8 a10 a11 h3 hT
    rw [hq, hb, e1, show (2 : Int32) * 1 = 2 by decide]
    refine RT_chg (d := d) (k := 0) (x := x) (v := v) hT hn (by omega) (by omega) h3.1 a4 a3 a2 ?_ ?_ ?_ ?_ ?_ ?_ (fun i h0 h1 h2 h3 h4 => up1_n (by omega)) (fun c hc => ⟨?_, ?_, ?_, ?_⟩) ?_ ?_
    · show up1 _ _ _ _ = _
      rw [up1_n (by omega)]; exact a6
    · show up1 _ _ _ _ = _
      rw [up1_n (by omega)]; exact a8
    · rw [p_wrk (by decide)]; exact a7
    · rw [p_wrk (by decide)]; exact a9
    · rw [p_wrs]
      show _ = up1 _ _ _ _
      rw [show 450 + (10 * d + 0) = 450 + 10 * d by omega, up1_s]
      rw [show 450 + (10 * d + 0) = 450 + 10 * d by omega] at a10
      rw [show net 4 (10 * d + d) = _ from a10]
    · rw [p_wrk (by decide)]
      show _ = up1 _ _ _ _
      rw [up1_n (by omega)]; exact a11
    · rw [p_wrk (by decide)]
    · rw [p_wrk (by decide)]
    · rw [p_wrj hc]
    · rw [p_wrk (by decide)]
    · rw [p_wrk (by decide)]
    · rw [p_wrk (by decide)]
/-! copies of tables -/
theorem cpyL {f g : Nat → Int32} {n j : Nat} (h : j < n) : va_cpy f g 0 0 n j = f j := by
  rw [pk_cpy_in (Nat.zero_le _) (by omega)]
  congr 1
  omega
theorem p_sub2 {α : Type} (n o1 o2 : Nat) (f : Nat → α) (k : Nat) : q_sub2 n o1 o2 f k = if k < n then f (o1 + k) else f (o2 + (k - n)) := by
  unfold q_sub2
  by_cases h : k < n
  · rw [if_pos h, show Nat.blt k n = true from Nat.blt_eq.mpr h]; rfl
  · rw [if_neg h, show Nat.blt k n = false by
      cases e : Nat.blt k n with
      | false => rfl
      | true => exact absurd (Nat.blt_eq.mp e) h]
    rfl
theorem p_put2 (n1 o1 n2 o2 : Nat) (σ τ : qM) (k : Nat) : q_put2 n1 o1 n2 o2 σ τ k = if o1 ≤ k ∧ k < o1 + n1 then τ (k - o1) else if o2 ≤ k ∧ k < o2 + n2 then τ (n1 + (k - o2)) else σ k := by
  have e : ∀ o n, (Nat.ble o k && Nat.blt k (o + n)) = decide (o ≤ k ∧ k < o + n) := fun o n => by
    by_cases h : o ≤ k ∧ k < o + n
    · rw [decide_eq_true h]; simp [Nat.ble_eq, Nat.blt, h.1]; omega
    · rw [decide_eq_false h]
      cases h2 : (Nat.ble o k && Nat.blt k (o + n)) with
      | false => rfl
      | true =>
        simp [Nat.ble_eq, Nat.blt] at h2
        exact absurd ⟨h2.1, by omega⟩ h
  unfold q_put2
  rw [e o1 n1, e o2 n2]
  by_cases h1 : o1 ≤ k ∧ k < o1 + n1
  · rw [if_pos h1, decide_eq_true h1]; rfl
  · rw [if_neg h1, decide_eq_false h1]
    by_cases h2 : o2 ≤ k ∧ k < o2 + n2
    · rw [if_pos h2, decide_eq_true h2]; rfl
    · rw [if_neg h2, decide_eq_false h2]; rfl
/-- Tables.become: the first seven regions out of the second -/
theorem becomeT (T : qM) : ∃ T', f_X4_become T = some (0, T') ∧ (∀ i, 1 ≤ i → i ≤ 5 → ∀ j, j < 100 → T' i j = T (7 + i) j) ∧ (∀ j, j < 10 → T' 6 j = T 13 j) ∧ ∀ i, (i = 0 ∨ 6 < i) → T' i = T i := by
  unfold f_X4_become
  simp only [p_nm]
  refine ⟨_, rfl, fun i h1 h5 j hj => ?_, fun j hj => ?_, fun i hi => ?_⟩
  · have hi : i = 1 ∨ i = 2 ∨ i = 3 ∨ i = 4 ∨ i = 5 := by omega
    rcases hi with rfl | rfl | rfl | rfl | rfl <;> simp [p_wa, cpyL hj]
  · simp [p_wa, cpyL hj]
  · funext j
    rcases hi with rfl | hi
    · simp [p_wa]
    · have e1 : ¬ i = 1 := by omega
      have e2 : ¬ i = 2 := by omega
      have e3 : ¬ i = 3 := by omega
      have e4 : ¬ i = 4 := by omega
      have e5 : ¬ i = 5 := by omega
      have e6 : ¬ i = 6 := by omega
      simp [p_wa, e1, e2, e3, e4, e5, e6]
