/-! reading the pure methods: numbers below 2^31 are nI n; memory by place -/
theorem p_nm {α β : Type} (e : β) (K : β → Option α) : q_nm e K = K e := rfl
theorem p_cl {α : Type} (r : Int32) (τ : qM) (put : qM → qM) (K : Int32 → qM → Option α) : q_cl (some (r, τ)) put K = K r (put τ) := rfl
theorem p_wr (σ : qM) (r i : Nat) (v : Int32) (k j : Nat) : q_wr σ r i v k j = if k = r ∧ j = i then v else σ k j := by
  unfold q_wr
  by_cases h : k = r
  · subst h
    rw [Nat.beq_refl]
    show upd (σ k) i v j = _
    unfold upd
    by_cases h2 : j = i
    · rw [if_pos h2, if_pos ⟨rfl, h2⟩]
    · rw [if_neg h2, if_neg (fun q => h2 q.2)]
  · rw [q_beq_ne h, if_neg (fun q => h q.1)]; rfl
theorem p_wrs (σ : qM) (r i : Nat) (v : Int32) : q_wr σ r i v r i = v := by rw [p_wr, if_pos ⟨rfl, rfl⟩]
theorem p_wrk {σ : qM} {r i k : Nat} {v : Int32} (h : k ≠ r) : q_wr σ r i v k = σ k := by
  funext j
  rw [p_wr, if_neg (fun q => h q.1)]
theorem p_wrj {σ : qM} {r i k j : Nat} {v : Int32} (h : j ≠ i) : q_wr σ r i v k j = σ k j := by rw [p_wr, if_neg (fun q => h q.2)]
theorem p_wa (σ : qM) (r : Nat) (g : Nat → Int32) (k j : Nat) : q_wa σ r g k j = if k = r then g j else σ k j := by
  rw [q_wa_at]
  by_cases h : k = r
  · rw [if_pos h, if_pos h]
  · rw [if_neg h, if_neg h]
theorem p_put (o n : Nat) (σ τ : qM) (k : Nat) : q_put o n σ τ k = if o ≤ k ∧ k < o + n then τ (k - o) else σ k := by
  unfold q_put
  by_cases h : o ≤ k ∧ k < o + n
  · rw [if_pos h, show (Nat.ble o k && Nat.blt k (o + n)) = true by simp [Nat.ble_eq, Nat.blt, h.1]; omega]; rfl
  · rw [if_neg h, show (Nat.ble o k && Nat.blt k (o + n)) = false by
      cases h2 : (Nat.ble o k && Nat.blt k (o + n)) with
      | false => rfl
      | true =>
        simp [Nat.ble_eq, Nat.blt] at h2
        exact absurd ⟨h2.1, by omega⟩ h]
    rfl
theorem p_put_sub (o n : Nat) (σ : qM) : q_put o n σ (q_sub o σ) = σ := by
  funext k
  rw [p_put]
  by_cases h : o ≤ k ∧ k < o + n
  · rw [if_pos h]
    show σ (o + (k - o)) = σ k
    rw [show o + (k - o) = k by omega]
  · rw [if_neg h]
theorem p_put_wr {o n r i : Nat} {σ τ : qM} {v : Int32} (h : r < n) : q_put o n σ (q_wr τ r i v) = q_wr (q_put o n σ τ) (o + r) i v := by
  funext k j
  rw [p_wr, p_put, p_put]
  by_cases h1 : o ≤ k ∧ k < o + n
  · rw [if_pos h1, if_pos h1, p_wr]
    by_cases h2 : k - o = r ∧ j = i
    · rw [if_pos h2, if_pos ⟨by omega, h2.2⟩]
    · rw [if_neg h2, if_neg (fun q => h2 ⟨by omega, q.2⟩)]
  · rw [if_neg h1, if_neg h1, if_neg (fun q => by omega)]
theorem p_sub_put {o n k : Nat} {σ τ : qM} (h : k < n) : q_sub o (q_put o n σ τ) k = τ k := by
  show q_put o n σ τ (o + k) = τ k
  rw [p_put, if_pos (by omega), show o + k - o = k by omega]
theorem p_bo {α : Type} {x : Int32} {K : Option α} (h : x = 0 ∨ x = 1) : q_bo x K = K := by unfold q_bo; rw [if_pos h]
theorem p_bo0 {α : Type} {K : Option α} : q_bo 0 K = K := p_bo (Or.inl rfl)
theorem p_bo1 {α : Type} {K : Option α} : q_bo 1 K = K := p_bo (Or.inr rfl)
theorem p_dv {α : Type} {y : Int32} {K : Option α} (h : ¬ y = 0) : q_dv y K = K := by unfold q_dv; rw [if_neg h]
theorem p_gd {α : Type} {K : Option α} : q_gd true K = K := rfl
theorem p_m10 (a : Nat) : nI a * 10 = nI (a * 10) := by rw [show (10 : Int32) = nI 10 from rfl, pk_mul]
theorem p_10m (a : Nat) : (10 : Int32) * nI a = nI (10 * a) := by rw [show (10 : Int32) = nI 10 from rfl, pk_mul]
theorem p_cell (r d : Nat) : nI r * 10 + nI d = nI (10 * r + d) := by rw [p_m10, nI_add, Nat.mul_comm]
theorem p_cell2 (r d : Nat) : (10 : Int32) * nI r + nI d = nI (10 * r + d) := by rw [p_10m, nI_add]
theorem p_le {a b : Nat} (ha : a < 2 ^ 31) (hb : b < 2 ^ 31) : nI a ≤ nI b ↔ a ≤ b := nI_leI ha hb
theorem p_ne1 {a : Nat} (h : a < 2 ^ 31) : nI a ≠ -1 := fun e => by
  have h1 := congrArg Int32.toInt e
  rw [nI_toInt h] at h1
  have h2 : (-1 : Int32).toInt = -1 := by decide +kernel
  omega
theorem p_inj {a b : Nat} (ha : a < 2 ^ 31) (hb : b < 2 ^ 31) (h : nI a = nI b) : a = b := (nI_eq ha hb).mp h
/-- the first place from k on, of f places, where P holds -/
def q_find (P : Nat → Bool) : Nat → Nat → Option Nat
  | 0, _ => none
  | f + 1, k => if P k = true then some k else q_find P f (k + 1)
theorem q_find_some {P : Nat → Bool} : ∀ {f k j : Nat}, q_find P f k = some j → k ≤ j ∧ j < k + f ∧ P j = true ∧ ∀ i, k ≤ i → i < j → P i = false := by
  intro f
  induction f with
  | zero => intro k j h; cases h
  | succ f ih =>
    intro k j h
    unfold q_find at h
    by_cases hp : P k = true
    · rw [if_pos hp] at h
      cases h
      exact ⟨Nat.le_refl _, by omega, hp, fun i h1 h2 => by omega⟩
    · rw [if_neg hp] at h
      obtain ⟨h1, h2, h3, h4⟩ := ih h
      refine ⟨by omega, by omega, h3, fun i a b => ?_⟩
      rcases Nat.eq_or_lt_of_le a with e | e
      · subst e; simpa using hp
      · exact h4 i (by omega) b
theorem q_find_none {P : Nat → Bool} : ∀ {f k : Nat}, q_find P f k = none → ∀ i, k ≤ i → i < k + f → P i = false := by
  intro f
  induction f with
  | zero => intro k h i a b; omega
  | succ f ih =>
    intro k h i a b
    unfold q_find at h
    by_cases hp : P k = true
    · rw [if_pos hp] at h; cases h
    · rw [if_neg hp] at h
      rcases Nat.eq_or_lt_of_le a with e | e
      · subst e; simpa using hp
      · exact ih h i (by omega) (by omega)
theorem q_find_is {P : Nat → Bool} {f k j : Nat} (h1 : k ≤ j) (h2 : j < k + f) (hp : P j = true) (hn : ∀ i, k ≤ i → i < j → P i = false) : q_find P f k = some j := by
  cases h : q_find P f k with
  | none => rw [q_find_none h j h1 h2] at hp; cases hp
  | some i =>
    obtain ⟨a, b, c, d⟩ := q_find_some h
    rcases Nat.lt_trichotomy i j with e | e | e
    · rw [hn i a e] at c; cases c
    · rw [e]
    · rw [d j h1 e] at hp; cases hp
theorem q_find_no {P : Nat → Bool} {f k : Nat} (hn : ∀ i, k ≤ i → i < k + f → P i = false) : q_find P f k = none := by
  cases h : q_find P f k with
  | none => rfl
  | some i =>
    obtain ⟨a, b, c, d⟩ := q_find_some h
    rw [hn i a b] at c; cases c
theorem q_find_congr {P Q : Nat → Bool} : ∀ {f k : Nat}, (∀ i, k ≤ i → i < k + f → P i = Q i) → q_find P f k = q_find Q f k := by
  intro f
  induction f with
  | zero => intros; rfl
  | succ f ih =>
    intro k h
    unfold q_find
    rw [h k (Nat.le_refl _) (by omega), ih (fun i a b => h i (by omega) (by omega))]
/-- as many different numbers below n as there are places: no more than n -/
theorem q_pigeon : ∀ (n k : Nat) (f : Nat → Nat), (∀ i, i < k → f i < n) → (∀ i j, i < k → j < k → f i = f j → i = j) → k ≤ n := by
  intro n
  induction n with
  | zero =>
    intro k f h _
    rcases Nat.eq_zero_or_pos k with e | e
    · omega
    · exact absurd (h 0 e) (by omega)
  | succ n ih =>
    intro k f h hinj
    by_cases hx : ∃ i, i < k ∧ f i = n
    · obtain ⟨i0, hi0, he⟩ := hx
      have h1 : k - 1 ≤ n := by
        refine ih (k - 1) (fun i => if i < i0 then f i else f (i + 1)) (fun i hi => ?_) (fun i j hi hj e => ?_)
        · show (if i < i0 then f i else f (i + 1)) < n
          by_cases c : i < i0
          · rw [if_pos c]
            have a := h i (by omega)
            have b : f i ≠ n := fun e => by have := hinj i i0 (by omega) hi0 (by omega); omega
            omega
          · rw [if_neg c]
            have a := h (i + 1) (by omega)
            have b : f (i + 1) ≠ n := fun e => by have := hinj (i + 1) i0 (by omega) hi0 (by omega); omega
            omega
        · have e : (if i < i0 then f i else f (i + 1)) = (if j < i0 then f j else f (j + 1)) := e
          by_cases c : i < i0 <;> by_cases c2 : j < i0
          · rw [if_pos c, if_pos c2] at e; exact hinj i j (by omega) (by omega) e
          · rw [if_pos c, if_neg c2] at e; have := hinj i (j + 1) (by omega) (by omega) e; omega
          · rw [if_neg c, if_pos c2] at e; have := hinj (i + 1) j (by omega) (by omega) e; omega
          · rw [if_neg c, if_neg c2] at e; have := hinj (i + 1) (j + 1) (by omega) (by omega) e; omega
      omega
    · have := ih k f (fun i hi => by
        have a := h i hi
        have b : f i ≠ n := fun e => hx ⟨i, hi, e⟩
        omega) hinj
      omega
