/-! loops: searches, and runs with a relation -/
theorem q_search {D : qB → qB} {i : Nat} {τ : qM} {P : Nat → Bool} {m : Nat} (xs : Nat → List Int32) (out : Nat → Int32 × qM) (no : Int32 × qM) (hend : ∀ go : qB, D go i τ (xs m) = some no) (hit : ∀ k, k < m → P k = true → ∀ go : qB, D go i τ (xs k) = some (out k)) (miss : ∀ k, k < m → P k = false → ∀ go : qB, D go i τ (xs k) = go i τ (xs (k + 1))) :
    ∀ f k, k + f = m → q_lim D i τ (xs k) = some (match q_find P f k with | some j => out j | none => no) := by
  intro f
  induction f with
  | zero =>
    intro k hk
    have e : k = m := by omega
    subst e
    exact q_lim_ret hend
  | succ f ih =>
    intro k hk
    unfold q_find
    by_cases h : P k = true
    · rw [if_pos h]; exact q_lim_ret (hit k (by omega) h)
    · rw [if_neg h, q_lim_eq (miss k (by omega) (by simpa using h))]
      exact ih (k + 1) (by omega)
theorem q_run {D : qB → qB} {i : Nat} {I : Nat → qM → List Int32 → Prop} (m : Nat) (step : ∀ k σ xs, k < m → I k σ xs → ∃ σ' xs', I (k + 1) σ' xs' ∧ q_lim D i σ xs = q_lim D i σ' xs') :
    ∀ f k σ xs, k + f = m → I k σ xs → ∃ σ' xs', I m σ' xs' ∧ q_lim D i σ xs = q_lim D i σ' xs' := by
  intro f
  induction f with
  | zero =>
    intro k σ xs hk h
    have e : k = m := by omega
    subst e
    exact ⟨σ, xs, h, rfl⟩
  | succ f ih =>
    intro k σ xs hk h
    obtain ⟨σ1, xs1, h1, e1⟩ := step k σ xs (by omega) h
    obtain ⟨σ2, xs2, h2, e2⟩ := ih (k + 1) σ1 xs1 (by omega) h1
    exact ⟨σ2, xs2, h2, e1.trans e2⟩
/-! the relation of a network and a row of the reference -/
def lf (s : Nat → Int32) (m a b : Nat) : Option Nat := q_find (fun k => decide (s (10 + k) = nI (min a b) ∧ s (40 + k) = nI (max a b))) m 0
def jn : Option Nat → Int32
  | some k => nI (k + 1)
  | none => 0
def RT (n : Nat) (K : Nat → Nat) (o : Nat) (net : qM) (s : Nat → Int32) : Prop :=
  (∀ r, r < 10 → s (130 + r) = nI (K r) ∧ net (o + 6) r = nI (K r)) ∧
  (∀ r, n ≤ r → r < 10 → K r = 0) ∧
  (∀ r, r < n → 0 < K r ∧ s (150 + (10 * r + 0)) = nI r) ∧
  (∀ r i j, r < 10 → i < K r → j < K r → s (150 + (10 * r + i)) = s (150 + (10 * r + j)) → i = j) ∧
  (∀ r k, r < 10 → k < K r → ∃ d v x, d < n ∧ v < n ∧ x ≤ 16 ∧ s (150 + (10 * r + k)) = nI d ∧ net (o + 5) (10 * r + k) = nI d ∧ s (250 + (10 * r + k)) = nI x ∧ net (o + 1) (10 * r + d) = nI x ∧ s (350 + (10 * r + k)) = nI v ∧ net (o + 2) (10 * r + d) = nI v ∧ net (o + 3) (10 * r + d) = s (450 + (10 * r + k)) ∧ net (o + 4) (10 * r + d) = s (550 + (10 * r + k))) ∧
  (∀ r d, r < 10 → d < 10 → (∀ k, k < K r → s (150 + (10 * r + k)) ≠ nI d) → net (o + 1) (10 * r + d) = -1)
def RLk (n m : Nat) (net : qM) (s : Nat → Int32) : Prop :=
  n ≤ 10 ∧ m ≤ 24 ∧ s 0 = nI n ∧ net 0 3 = nI n ∧ s 1 = nI m ∧ net 15 5 = nI m ∧
  net 0 4 = s 2 ∧ (s 2 = 0 ∨ s 2 = 1 ∨ s 2 = 2) ∧ net 0 5 = s 3 ∧ (s 3 = 0 ∨ s 3 = 1) ∧ net 0 6 = s 4 ∧ net 0 7 = s 5 ∧
  (∀ k, k < m → ∃ a b c, a < b ∧ b < n ∧ 1 ≤ c ∧ c ≤ 15 ∧ s (10 + k) = nI a ∧ net 16 k = nI a ∧ s (40 + k) = nI b ∧ net 17 k = nI b ∧ s (70 + k) = nI c ∧ net 18 k = nI c ∧ net 19 k = s (100 + k) ∧ (s (100 + k) = 0 ∨ s (100 + k) = 1)) ∧
  (∀ a b, a < 10 → b < 10 → net 20 (10 * a + b) = jn (lf s m a b))
def RNp (n m : Nat) (K : Nat → Nat) (net : qM) (s : Nat → Int32) : Prop := RLk n m net s ∧ net 0 8 = s 6 ∧ RT n K 1 net s
def RN (n : Nat) (net : qM) (s : Nat → Int32) : Prop := ∃ (m : Nat) (K : Nat → Nat), RNp n m K net s
theorem RT.le {n : Nat} {K : Nat → Nat} {o : Nat} {net : qM} {s : Nat → Int32} (h : RT n K o net s) (hn : n ≤ 10) {r : Nat} (hr : r < 10) : K r ≤ n := by
  obtain ⟨h1, h2, h3, h4, h5, h6⟩ := h
  have hx : ∀ k, ∃ d, k < K r → d < n ∧ s (150 + (10 * r + k)) = nI d := by
    intro k
    by_cases hk : k < K r
    · obtain ⟨d, v, x, a, b, c, e, -⟩ := h5 r k hr hk
      exact ⟨d, fun _ => ⟨a, e⟩⟩
    · exact ⟨0, fun q => absurd q hk⟩
  have hc := fun k => Classical.choose_spec (hx k)
  refine q_pigeon n (K r) (fun k => Classical.choose (hx k)) (fun i hi => (hc i hi).1) (fun i j hi hj e => ?_)
  refine h4 r i j hr hi hj ?_
  rw [(hc i hi).2, (hc j hj).2]
  exact congrArg nI e
/-- what a place of a table holds, by the router's number -/
theorem RT.cell {n : Nat} {K : Nat → Nat} {o : Nat} {net : qM} {s : Nat → Int32} (h : RT n K o net s) (hn : n ≤ 10) {r d : Nat} (hr : r < 10) (hd : d < 10) :
    ((∀ k, k < K r → s (150 + (10 * r + k)) ≠ nI d) ∧ net (o + 1) (10 * r + d) = -1) ∨
    ∃ k v x, k < K r ∧ d < n ∧ v < n ∧ x ≤ 16 ∧ s (150 + (10 * r + k)) = nI d ∧ net (o + 5) (10 * r + k) = nI d ∧ s (250 + (10 * r + k)) = nI x ∧ net (o + 1) (10 * r + d) = nI x ∧ s (350 + (10 * r + k)) = nI v ∧ net (o + 2) (10 * r + d) = nI v ∧ net (o + 3) (10 * r + d) = s (450 + (10 * r + k)) ∧ net (o + 4) (10 * r + d) = s (550 + (10 * r + k)) := by
  by_cases hx : ∀ k, k < K r → s (150 + (10 * r + k)) ≠ nI d
  · exact Or.inl ⟨hx, h.2.2.2.2.2 r d hr hd hx⟩
  · obtain ⟨k, hk⟩ := Classical.not_forall.mp hx
    obtain ⟨hk1, hk2⟩ := Classical.not_imp.mp hk
    have hk2 : s (150 + (10 * r + k)) = nI d := Classical.not_not.mp hk2
    obtain ⟨d', v, x, a1, a2, a3, a4, a5⟩ := h.2.2.2.2.1 r k hr hk1
    have e : d' = d := p_inj (by omega) (by omega) (a4.symm.trans hk2)
    subst e
    exact Or.inr ⟨k, v, x, hk1, a1, a2, a3, a4, a5⟩
/-! the reference's searches -/
def eo (r : Nat) : Option Nat → Int32
  | some k => nI (10 * r + k)
  | none => -1
def ef (s : Nat → Int32) (r k0 : Nat) (x : Int32) : Option Nat := q_find (fun k => decide (s (150 + (10 * r + k)) = x)) k0 0
theorem entryOfS {τ : qM} {r k0 : Nat} {x : Int32} (hr : r < 10) (hk : k0 ≤ 10) (hK : τ 1 (130 + r) = nI k0) : f_X8_entryOf τ (nI r) x = some (eo r (ef (τ 1) r k0 x), τ) := by
  have h := q_search (D := D_X8_entryOf) (i := 0) (τ := τ) (P := fun k => decide (τ 1 (150 + (10 * r + k)) = x)) (m := k0) (fun k => [nI r, x, nI k]) (fun k => (nI (10 * r + k), τ)) (-1, τ) (fun go => ?_) (fun k hk1 hp go => ?_) (fun k hk1 hp go => ?_) k0 0 (by omega)
  · show q_lim D_X8_entryOf 0 τ [nI r, x, nI 0] = _
    rw [h]
    unfold ef eo
    cases q_find (fun k => decide (τ 1 (150 + (10 * r + k)) = x)) k0 0 <;> rfl
  · show b_X8_entryOf_2 go τ (nI r) x (nI k0) = _
    unfold b_X8_entryOf_2
    simp only [p_nm]
    rw [a130, q_rd_n (by omega) (by decide), hK, if_pos (nI_le (Nat.le_refl _) (by omega))]
  · show b_X8_entryOf_2 go τ (nI r) x (nI k) = _
    unfold b_X8_entryOf_2
    simp only [p_nm]
    rw [a130, q_rd_n (by omega) (by decide), hK, if_neg (nI_ge hk1 (by omega)), p_10m, a150, nI_add, q_rd_n (by omega) (by decide), Nat.add_assoc, if_pos (of_decide_eq_true hp), nI_add]
  · show b_X8_entryOf_2 go τ (nI r) x (nI k) = _
    unfold b_X8_entryOf_2
    simp only [p_nm]
    rw [a130, q_rd_n (by omega) (by decide), hK, if_neg (nI_ge hk1 (by omega)), p_10m, a150, nI_add, q_rd_n (by omega) (by decide), Nat.add_assoc, if_neg (of_decide_eq_false hp), nI_1]
theorem minI {a b : Nat} (ha : a < 2 ^ 31) (hb : b < 2 ^ 31) : (if nI b < nI a then nI b else nI a) = nI (min a b) := by
  by_cases h : b < a
  · rw [if_pos ((nI_ltI hb ha).mpr h), Nat.min_eq_right (by omega)]
  · rw [if_neg (fun q => h ((nI_ltI hb ha).mp q)), Nat.min_eq_left (by omega)]
theorem maxI {a b : Nat} (ha : a < 2 ^ 31) (hb : b < 2 ^ 31) : (if nI a < nI b then nI b else nI a) = nI (max a b) := by
  by_cases h : a < b
  · rw [if_pos ((nI_ltI ha hb).mpr h), Nat.max_eq_right (by omega)]
  · rw [if_neg (fun q => h ((nI_ltI ha hb).mp q)), Nat.max_eq_left (by omega)]
def lo : Option Nat → Int32
  | some k => nI k
  | none => -1
theorem linkOfS {τ : qM} {a b m : Nat} (ha : a < 10) (hb : b < 10) (hm : m ≤ 24) (hM : τ 1 1 = nI m) : f_X8_linkOf τ (nI a) (nI b) = some (lo (lf (τ 1) m a b), τ) := by
  have h := q_search (D := D_X8_linkOf) (i := 0) (τ := τ) (P := fun k => decide (τ 1 (10 + k) = nI (min a b) ∧ τ 1 (40 + k) = nI (max a b))) (m := m) (fun k => [nI a, nI b, nI k]) (fun k => (nI k, τ)) (-1, τ) (fun go => ?_) (fun k hk1 hp go => ?_) (fun k hk1 hp go => ?_) m 0 (by omega)
  · show q_lim D_X8_linkOf 0 τ [nI a, nI b, nI 0] = _
    rw [h]
    unfold lf lo
    cases q_find (fun k => decide (τ 1 (10 + k) = nI (min a b) ∧ τ 1 (40 + k) = nI (max a b))) m 0 <;> rfl
  · show b_X8_linkOf_2 go τ (nI a) (nI b) (nI m) = _
    unfold b_X8_linkOf_2
    simp only [p_nm]
    rw [rd1_1, hM, if_pos (nI_le (Nat.le_refl _) (by omega))]
  · have hp := of_decide_eq_true hp
    show b_X8_linkOf_2 go τ (nI a) (nI b) (nI k) = _
    unfold b_X8_linkOf_2
    simp only [p_nm]
    rw [rd1_1, hM, if_neg (nI_ge hk1 (by omega)), a10, q_rd_n (by omega) (by decide), minI (by omega) (by omega), if_pos hp.1, a40, q_rd_n (by omega) (by decide), maxI (by omega) (by omega), if_pos hp.2]
  · have hp := of_decide_eq_false hp
    show b_X8_linkOf_2 go τ (nI a) (nI b) (nI k) = _
    unfold b_X8_linkOf_2
    simp only [p_nm]
    rw [rd1_1, hM, if_neg (nI_ge hk1 (by omega)), a10, q_rd_n (by omega) (by decide), minI (by omega) (by omega)]
    by_cases h1 : τ 1 (10 + k) = nI (min a b)
    · rw [if_pos h1, a40, q_rd_n (by omega) (by decide), maxI (by omega) (by omega), if_neg (fun h2 => hp ⟨h1, h2⟩), nI_1]
    · rw [if_neg h1, nI_1]
