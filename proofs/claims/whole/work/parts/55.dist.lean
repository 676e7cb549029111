/-! distances: one link, both sides -/
def dn : Option Nat → Nat
  | none => 1000000
  | some x => x
def fn : Option Nat → Nat
  | none => 1000
  | some x => x
def upo (g : Nat → Option Nat) (a v : Nat) : Nat → Option Nat := fun i => if i = a then some v else g i
def rlx (g : Nat → Option Nat) (a b c : Nat) : Nat → Option Nat := match g a, g b with
  | some x, some y => if x + c < y then upo g b (x + c) else if y + c < x then upo g a (y + c) else g
  | some x, none => upo g b (x + c)
  | none, some y => upo g a (y + c)
  | none, none => g
def bnd (g : Nat → Option Nat) : Prop := ∀ v x, v < 10 → g v = some x → x ≤ 15 * cntN (fun v => (g v).isSome) 10
theorem bnd_le {g : Nat → Option Nat} (h : bnd g) {v x : Nat} (hv : v < 10) (e : g v = some x) : x ≤ 150 := by
  have h1 := h v x hv e
  have h2 := cntN_le (fun v => (g v).isSome) 10
  omega
theorem cnt_upo {g : Nat → Option Nat} {b v : Nat} (hb : b < 10) : cntN (fun i => (upo g b v i).isSome) 10 = cntN (fun i => (g i).isSome) 10 + (if (g b).isSome = true then 0 else 1) := by
  rw [cntN_less (fun i => (upo g b v i).isSome) b 10 hb, cntN_less (fun i => (g i).isSome) b 10 hb]
  have e : cntN (fun d => (upo g b v d).isSome && !(Nat.beq d b)) 10 = cntN (fun d => (g d).isSome && !(Nat.beq d b)) 10 := cntN_cong (fun i _ => by
    show ((upo g b v i).isSome && !(Nat.beq i b)) = ((g i).isSome && !(Nat.beq i b))
    by_cases c : i = b
    · subst c; rw [Nat.beq_refl, Bool.not_true, Bool.and_false, Bool.and_false]
    · unfold upo; rw [if_neg c])
  rw [e]
  have e2 : (upo g b v b).isSome = true := by unfold upo; rw [if_pos rfl]; rfl
  rw [if_pos e2]
  by_cases c : (g b).isSome = true
  · rw [if_pos c, if_pos c]
  · rw [if_neg c, if_neg c]
theorem bnd_upo {g : Nat → Option Nat} (h : bnd g) {b v : Nat} (hb : b < 10) (hv : (∃ y, g b = some y ∧ v ≤ y) ∨ (g b = none ∧ ∃ a x c, a < 10 ∧ g a = some x ∧ c ≤ 15 ∧ v = x + c)) : bnd (upo g b v) := by
  intro i x hi e
  rw [cnt_upo hb]
  unfold upo at e
  by_cases c : i = b
  · rw [if_pos c] at e
    cases e
    rcases hv with ⟨y, h1, h2⟩ | ⟨h1, a, x, c', h2, h3, h4, h5⟩
    · have := h b y hb h1; omega
    · have := h a x h2 h3
      rw [h1, if_neg (by decide)]
      omega
  · rw [if_neg c] at e
    have := h i x hi e
    omega
theorem rlx_bnd {g : Nat → Option Nat} (h : bnd g) {a b c : Nat} (ha : a < 10) (hb : b < 10) (hc : c ≤ 15) : bnd (rlx g a b c) := by
  unfold rlx
  cases ea : g a with
  | none =>
    cases eb : g b with
    | none => exact h
    | some y => exact bnd_upo h ha (Or.inr ⟨ea, b, y, c, hb, eb, hc, rfl⟩)
  | some x =>
    cases eb : g b with
    | none => exact bnd_upo h hb (Or.inr ⟨eb, a, x, c, ha, ea, hc, rfl⟩)
    | some y =>
      show bnd (if x + c < y then upo g b (x + c) else if y + c < x then upo g a (y + c) else g)
      by_cases w : x + c < y
      · rw [if_pos w]; exact bnd_upo h hb (Or.inl ⟨y, eb, by omega⟩)
      · rw [if_neg w]
        by_cases w2 : y + c < x
        · rw [if_pos w2]; exact bnd_upo h ha (Or.inl ⟨x, ea, by omega⟩)
        · rw [if_neg w2]; exact h
/-- in numbers: which of both becomes what -/
theorem rlx_dn {g : Nat → Option Nat} (h : bnd g) {a b c : Nat} (ha : a < 10) (hb : b < 10) (h1 : 1 ≤ c) (hc : c ≤ 15) :
    (dn (g a) + c < dn (g b) → rlx g a b c = upo g b (dn (g a) + c)) ∧ (¬ dn (g a) + c < dn (g b) → dn (g b) + c < dn (g a) → rlx g a b c = upo g a (dn (g b) + c)) ∧ (¬ dn (g a) + c < dn (g b) → ¬ dn (g b) + c < dn (g a) → rlx g a b c = g) := by
  unfold rlx
  cases ea : g a with
  | none =>
    cases eb : g b with
    | none => exact ⟨fun z => by simp only [dn] at z; omega, fun _ z => by simp only [dn] at z; omega, fun _ _ => rfl⟩
    | some y =>
      have := bnd_le h hb eb
      exact ⟨fun z => by simp only [dn] at z; omega, fun _ _ => rfl, fun _ z => by simp only [dn] at z; omega⟩
  | some x =>
    have := bnd_le h ha ea
    cases eb : g b with
    | none => exact ⟨fun _ => rfl, fun z _ => by simp only [dn] at z; omega, fun z _ => by simp only [dn] at z; omega⟩
    | some y =>
      refine ⟨fun z => ?_, fun z z2 => ?_, fun z z2 => ?_⟩
      · exact if_pos z
      · show (if x + c < y then upo g b (x + c) else if y + c < x then upo g a (y + c) else g) = _
        rw [if_neg (show ¬ x + c < y from z), if_pos (show y + c < x from z2)]; rfl
      · show (if x + c < y then upo g b (x + c) else if y + c < x then upo g a (y + c) else g) = _
        rw [if_neg (show ¬ x + c < y from z), if_neg (show ¬ y + c < x from z2)]
theorem dn_upo {g : Nat → Option Nat} {b v i : Nat} : dn (upo g b v i) = if i = b then v else dn (g i) := by
  unfold upo
  by_cases c : i = b
  · rw [if_pos c, if_pos c]; rfl
  · rw [if_neg c, if_neg c]
theorem fn_upo {g : Nat → Option Nat} {b v i : Nat} : fn (upo g b v i) = if i = b then v else fn (g i) := by
  unfold upo
  by_cases c : i = b
  · rw [if_pos c, if_pos c]; rfl
  · rw [if_neg c, if_neg c]
theorem dn_lt {g : Nat → Option Nat} (h : bnd g) {v : Nat} (hv : v < 10) : dn (g v) ≤ 1000000 := by
  cases e : g v with
  | none => exact Nat.le_refl _
  | some x => have := bnd_le h hv e; show x ≤ 1000000; omega
theorem fn_lt {g : Nat → Option Nat} (h : bnd g) {v : Nat} (hv : v < 10) : fn (g v) ≤ 1000 := by
  cases e : g v with
  | none => exact Nat.le_refl _
  | some x => have := bnd_le h hv e; show x ≤ 1000; omega
theorem relaxC {σ : qM} {g : Nat → Option Nat} (h : bnd g) {k a b c : Nat} (hk : k < 24) (ha : a < 10) (hb : b < 10) (hab : a ≠ b) (h1 : 1 ≤ c) (hc : c ≤ 15) (e3 : σ 3 k = nI a) (e4 : σ 4 k = nI b) (e5 : σ 5 k = nI c) (hg : ∀ v, v < 10 → σ 1 v = nI (dn (g v))) :
    ∃ (fl : Int32) (σ' : qM), f_X0_relax σ (nI k) = some (fl, σ') ∧ ((fl = 0 ∧ rlx g a b c = g) ∨ fl = 1) ∧ (∀ v, v < 10 → σ' 1 v = nI (dn (rlx g a b c v))) ∧ ∀ j, j ≠ 1 → σ' j = σ j := by
  have la := dn_lt h ha
  have lb := dn_lt h hb
  obtain ⟨r1, r2, r3⟩ := rlx_dn h ha hb h1 hc
  have V : f_X0_relax σ (nI k) = (if nI (dn (g b)) ≤ nI (dn (g a) + c) then (if nI (dn (g a)) ≤ nI (dn (g b) + c) then some (0, σ) else some (1, q_wr σ 1 a (nI (dn (g b) + c)))) else some (1, q_wr σ 1 b (nI (dn (g a) + c)))) := by
    unfold f_X0_relax
    simp only [p_nm]
    rw [q_rd_n hk (by decide), q_rd_n hk (by decide), q_rd_n hk (by decide), e3, e4, e5, q_rd_n ha (by decide), q_rd_n hb (by decide), hg a ha, hg b hb, nI_add]
    simp only [p_bo0, p_bo1, q_rd_n ha (show 10 < 2 ^ 31 by decide), q_rd_n hb (show 10 < 2 ^ 31 by decide), q_wt_n ha (show 10 < 2 ^ 31 by decide), q_wt_n hb (show 10 < 2 ^ 31 by decide), hg a ha, hg b hb, nI_add]
  by_cases w : dn (g a) + c < dn (g b)
  · rw [if_neg (nI_ge w (by omega))] at V
    rw [r1 w]
    refine ⟨1, _, V, Or.inr rfl, fun v hv => ?_, fun j hj => p_wrk hj⟩
    rw [p_wr, dn_upo]
    by_cases c2 : v = b
    · rw [if_pos ⟨rfl, c2⟩, if_pos c2]
    · rw [if_neg (fun z => c2 z.2), if_neg c2]; exact hg v hv
  · rw [if_pos (nI_le (by omega) (by omega))] at V
    by_cases w2 : dn (g b) + c < dn (g a)
    · rw [if_neg (nI_ge w2 (by omega))] at V
      rw [r2 w w2]
      refine ⟨1, _, V, Or.inr rfl, fun v hv => ?_, fun j hj => p_wrk hj⟩
      rw [p_wr, dn_upo]
      by_cases c2 : v = a
      · rw [if_pos ⟨rfl, c2⟩, if_pos c2]
      · rw [if_neg (fun z => c2 z.2), if_neg c2]; exact hg v hv
    · rw [if_pos (nI_le (by omega) (by omega))] at V
      rw [r3 w w2]
      exact ⟨0, σ, V, Or.inl ⟨rfl, rfl⟩, hg, fun _ _ => rfl⟩
theorem rlx_fn {g : Nat → Option Nat} (h : bnd g) {a b c : Nat} (ha : a < 10) (hb : b < 10) (hab : a ≠ b) (h1 : 1 ≤ c) (hc : c ≤ 15) (v : Nat) (hv : v < 10) :
    fn (rlx g a b c v) = if v = b then min (min (fn (g b) + c) (fn (g a)) + c) (fn (g b)) else if v = a then min (fn (g b) + c) (fn (g a)) else fn (g v) := by
  unfold rlx
  cases ea : g a with
  | none =>
    cases eb : g b with
    | none =>
      show fn (g v) = _
      simp only [fn]
      by_cases c1 : v = b
      · subst c1; rw [if_pos rfl, eb]; show 1000 = _; omega
      · rw [if_neg c1]
        by_cases c2 : v = a
        · subst c2; rw [if_pos rfl, ea]; show 1000 = _; omega
        · rw [if_neg c2]
    | some y =>
      have := bnd_le h hb eb
      show fn (upo g a (y + c) v) = _
      rw [fn_upo]
      simp only [fn]
      by_cases c1 : v = b
      · subst c1; rw [if_pos rfl, if_neg (Ne.symm hab), eb]; show y = _; omega
      · rw [if_neg c1]
        by_cases c2 : v = a
        · rw [if_pos c2, if_pos c2]; omega
        · rw [if_neg c2, if_neg c2]
  | some x =>
    have := bnd_le h ha ea
    cases eb : g b with
    | none =>
      show fn (upo g b (x + c) v) = _
      rw [fn_upo]
      simp only [fn]
      by_cases c1 : v = b
      · rw [if_pos c1, if_pos c1]; omega
      · rw [if_neg c1, if_neg c1]
        by_cases c2 : v = a
        · subst c2; rw [if_pos rfl, ea]; show x = _; omega
        · rw [if_neg c2]
    | some y =>
      have := bnd_le h hb eb
      show fn ((if x + c < y then upo g b (x + c) else if y + c < x then upo g a (y + c) else g) v) = _
      by_cases w : x + c < y
      · rw [if_pos w, fn_upo]
        simp only [fn]
        by_cases c1 : v = b
        · rw [if_pos c1, if_pos c1]; omega
        · rw [if_neg c1, if_neg c1]
          by_cases c2 : v = a
          · subst c2; rw [if_pos rfl, ea]; show x = _; omega
          · rw [if_neg c2]
      · rw [if_neg w]
        by_cases w2 : y + c < x
        · rw [if_pos w2, fn_upo]
          simp only [fn]
          by_cases c1 : v = b
          · subst c1; rw [if_pos rfl, if_neg (Ne.symm hab), eb]; show y = _; omega
          · rw [if_neg c1]
            by_cases c2 : v = a
            · rw [if_pos c2, if_pos c2]; omega
            · rw [if_neg c2, if_neg c2]
        · rw [if_neg w2]
          simp only [fn]
          by_cases c1 : v = b
          · subst c1; rw [if_pos rfl, eb]; show y = _; omega
          · rw [if_neg c1]
            by_cases c2 : v = a
            · subst c2; rw [if_pos rfl, ea]; show x = _; omega
            · rw [if_neg c2]
