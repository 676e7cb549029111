/-! distances: passes over the links, both sides -/
def stepG (s : Nat → Int32) (but : Int32) (g : Nat → Option Nat) (k : Nat) : Nat → Option Nat := if s (100 + k) = 1 ∧ nI k ≠ but then rlx g (s (10 + k)).toNatClampNeg (s (40 + k)).toNatClampNeg (s (70 + k)).toNatClampNeg else g
def passG (s : Nat → Int32) (but : Int32) (g : Nat → Option Nat) : Nat → (Nat → Option Nat)
  | 0 => g
  | k + 1 => stepG s but (passG s but g k) k
def pasG (s : Nat → Int32) (but : Int32) (m : Nat) : Nat → (Nat → Option Nat) → (Nat → Option Nat)
  | 0, g => g
  | t + 1, g => pasG s but m t (passG s but g m)
theorem pasG_fix {s : Nat → Int32} {but : Int32} {m : Nat} {g : Nat → Option Nat} (h : passG s but g m = g) : ∀ t, pasG s but m t g = g := by
  intro t
  induction t with
  | zero => rfl
  | succ t ih =>
    show pasG s but m t (passG s but g m) = g
    rw [h]; exact ih
theorem step_bnd {n m : Nat} {net : qM} {s : Nat → Int32} (hL : RLk n m net s) {but : Int32} {g : Nat → Option Nat} (h : bnd g) {k : Nat} (hk : k < m) : bnd (stepG s but g k) := by
  have hn := hL.1
  obtain ⟨a, b, c, w1, w2, w3, w4, w5, w6, w7, w8, w9, -⟩ := hL.2.2.2.2.2.2.2.2.2.2.2.2.1 k hk
  unfold stepG
  by_cases z : s (100 + k) = 1 ∧ nI k ≠ but
  · rw [if_pos z, w5, w7, w9, nI_clamp (by omega), nI_clamp (by omega), nI_clamp (by omega)]
    exact rlx_bnd h (by omega) (by omega) w4
  · rw [if_neg z]; exact h
theorem pass_bnd {n m : Nat} {net : qM} {s : Nat → Int32} (hL : RLk n m net s) {but : Int32} {g : Nat → Option Nat} (h : bnd g) : ∀ k, k ≤ m → bnd (passG s but g k) := by
  intro k
  induction k with
  | zero => intro _; exact h
  | succ k ih => intro hk; exact step_bnd hL (ih (by omega)) (by omega)
theorem pas_bnd {n m : Nat} {net : qM} {s : Nat → Int32} (hL : RLk n m net s) {but : Int32} : ∀ t {g : Nat → Option Nat}, bnd g → bnd (pasG s but m t g) := by
  intro t
  induction t with
  | zero => intro g h; exact h
  | succ t ih => intro g h; exact ih (pass_bnd hL h m (Nat.le_refl _))
def g0 (a : Nat) : Nat → Option Nat := fun v => if v = a then some 0 else none
theorem g0_bnd (a : Nat) : bnd (g0 a) := fun v x hv e => by
  unfold g0 at e
  by_cases c : v = a
  · rw [if_pos c] at e; cases e; omega
  · rw [if_neg c] at e; cases e
theorem fill10 (T : qM) (x : Int32) : ∃ T', f_J7_fill_53178 10 T x = some (0, T') ∧ (∀ v, v < 10 → T' 0 v = x) ∧ ∀ j, j ≠ 0 → T' j = T j := by
  obtain ⟨T', xs', ⟨e1, e2, e3⟩, e4⟩ := q_run (D := D_J7_fill_53178 10) (i := 0) (I := fun k σ xs => xs = [x, nI k, nI 10] ∧ (∀ v, v < k → σ 0 v = x) ∧ ∀ j, j ≠ 0 → σ j = T j) 10 (fun k σ xs hk hI => by
    obtain ⟨rfl, g1, g2⟩ := hI
    refine ⟨q_wr σ 0 k x, _, ⟨rfl, fun v hv => ?_, fun j hj => by rw [p_wrk hj]; exact g2 j hj⟩, q_lim_eq (fun go => ?_)⟩
    · rw [p_wr]
      by_cases c : v = k
      · rw [if_pos ⟨rfl, c⟩]
      · rw [if_neg (fun z => c z.2)]; exact g1 v (by omega)
    · show b_J7_fill_53178_5 10 go σ x (nI k) (nI 10) = _
      unfold b_J7_fill_53178_5
      simp only [p_nm]
      rw [if_neg (nI_ge hk (by decide)), q_wt_n hk (by decide), nI_1]) 10 0 T [x, nI 0, nI 10] (by decide) ⟨rfl, fun v hv => by omega, fun _ _ => rfl⟩
  refine ⟨T', ?_, e2, e3⟩
  show q_lim (D_J7_fill_53178 10) 0 T [x, nI 0, nI 10] = _
  rw [e4, e1]
  refine q_lim_ret (fun go => ?_)
  show b_J7_fill_53178_5 10 go T' x (nI 10) (nI 10) = _
  unfold b_J7_fill_53178_5
  rw [if_pos (nI_le (Nat.le_refl _) (by decide))]
/-- one pass: the class -/
theorem passC {n m : Nat} {W : qM} {s : Nat → Int32} (hL : RLk n m (q_sub 2 W) s) (but : Int32) (t : Nat) {g : Nat → Option Nat} (hb : bnd g) {σ : qM} (hg : ∀ v, v < 10 → σ 1 v = nI (dn (g v))) (hσ : ∀ j, j ≠ 1 → σ j = W j) :
    ∃ (fl : Int32) (σ' : qM), q_lim D_X0_measure 1 σ [but, 0, nI t, nI 0] = q_lim D_X0_measure 0 σ' [but, fl, nI (t + 1)] ∧ ((fl = 0 ∧ passG s but g m = g) ∨ fl = 1) ∧ (∀ v, v < 10 → σ' 1 v = nI (dn (passG s but g m v))) ∧ ∀ j, j ≠ 1 → σ' j = W j := by
  have hn := hL.1
  have hm := hL.2.1
  have hW5 : W 17 5 = nI m := hL.2.2.2.2.2.1
  obtain ⟨σ', xs', ⟨fl, e1, e2, e3, e4⟩, e5⟩ := q_run (D := D_X0_measure) (i := 1) (I := fun k σc xs => ∃ fl : Int32, xs = [but, fl, nI t, nI k] ∧ ((fl = 0 ∧ passG s but g k = g) ∨ fl = 1) ∧ (∀ v, v < 10 → σc 1 v = nI (dn (passG s but g k v))) ∧ ∀ j, j ≠ 1 → σc j = W j) m (fun k σc xs hk hI => by
    obtain ⟨fl, rfl, k2, k3, k4⟩ := hI
    obtain ⟨a, b, c, w1, w2, w3, w4, w5, w6, w7, w8, w9, w10, w11, w12⟩ := hL.2.2.2.2.2.2.2.2.2.2.2.2.1 k hk
    have w11 : W 21 k = s (100 + k) := w11
    have hs : passG s but g (k + 1) = stepG s but (passG s but g k) k := rfl
    have V : ∀ go : qB, D_X0_measure go 1 σc [but, fl, nI t, nI k] = (if nI k = but then go 1 σc [but, fl, nI t, nI (k + 1)] else if s (100 + k) = 1 then (q_cl (f_X0_relax (q_sub2 2 0 17 σc) (nI k)) (q_put2 2 0 6 17 σc) fun x23 s22 => if x23 = 0 then go 1 s22 [but, fl, nI t, nI (k + 1)] else go 1 s22 [but, 1, nI t, nI (k + 1)]) else go 1 σc [but, fl, nI t, nI (k + 1)]) := fun go => by
      unfold D_X0_measure
      rw [if_neg (show ¬ (1 : Nat) = 0 by decide), if_pos (show (1 : Nat) = 1 from rfl)]
      show b_X0_measure_40 go σc but fl (nI t) (nI k) = _
      unfold b_X0_measure_40
      simp only [p_nm]
      rw [k4 17 (by decide), hW5, if_neg (nI_ge hk (by omega)), q_rd_n (by omega) (by decide), k4 21 (by decide), w11, nI_1]
    by_cases z1 : nI k = but
    · have e : stepG s but (passG s but g k) k = passG s but g k := if_neg (fun z => z.2 z1)
      refine ⟨σc, _, ⟨fl, rfl, ?_, fun v hv => by rw [hs, e]; exact k3 v hv, k4⟩, q_lim_eq (fun go => by rw [V go, if_pos z1])⟩
      rw [hs, e]; exact k2
    · by_cases z2 : s (100 + k) = 1
      · have e : stepG s but (passG s but g k) k = rlx (passG s but g k) a b c := by
          unfold stepG
          rw [if_pos ⟨z2, z1⟩, w5, w7, w9, nI_clamp (by omega), nI_clamp (by omega), nI_clamp (by omega)]
        have q3 : q_sub2 2 0 17 σc 3 = σc 18 := rfl
        have q4 : q_sub2 2 0 17 σc 4 = σc 19 := rfl
        have q5 : q_sub2 2 0 17 σc 5 = σc 20 := rfl
        have q1 : q_sub2 2 0 17 σc 1 = σc 1 := rfl
        obtain ⟨f2, X, x1, x2, x3, x4⟩ := relaxC (σ := q_sub2 2 0 17 σc) (g := passG s but g k) (pass_bnd hL hb k (by omega)) (k := k) (a := a) (b := b) (c := c) (by omega) (by omega) (by omega) (by omega) w3 w4 (by rw [q3, k4 18 (by decide)]; exact w6) (by rw [q4, k4 19 (by decide)]; exact w8) (by rw [q5, k4 20 (by decide)]; exact w10) (fun v hv => by rw [q1]; exact k3 v hv)
        have p1 : q_put2 2 0 6 17 σc X 1 = X 1 := by rw [p_put2, if_pos (by omega)]
        have pj : ∀ j, j ≠ 1 → q_put2 2 0 6 17 σc X j = W j := fun j hj => by
          rw [p_put2]
          by_cases y : 0 ≤ j ∧ j < 0 + 2
          · rw [if_pos y, x4 _ (by omega), p_sub2, if_pos (by omega), show 0 + (j - 0) = j by omega]
            exact k4 j hj
          · rw [if_neg y]
            by_cases y2 : 17 ≤ j ∧ j < 17 + 6
            · rw [if_pos y2, x4 _ (by omega), p_sub2, if_neg (by omega), show 17 + (2 + (j - 17) - 2) = j by omega]
              exact k4 j hj
            · rw [if_neg y2]; exact k4 j hj
        refine ⟨q_put2 2 0 6 17 σc X, _, ⟨if f2 = 0 then fl else 1, rfl, ?_, fun v hv => by rw [hs, e, p1]; exact x3 v hv, pj⟩, q_lim_eq (fun go => ?_)⟩
        · rw [hs, e]
          rcases x2 with ⟨y1, y2⟩ | y1
          · rw [if_pos y1, y2]; exact k2
          · exact Or.inr (if_neg (by rw [y1]; decide))
        · rw [V go, if_neg z1, if_pos z2, x1, p_cl]
          by_cases y : f2 = 0
          · rw [if_pos y, if_pos y]
          · rw [if_neg y, if_neg y]
      · have e : stepG s but (passG s but g k) k = passG s but g k := if_neg (fun z => z2 z.1)
        refine ⟨σc, _, ⟨fl, rfl, ?_, fun v hv => by rw [hs, e]; exact k3 v hv, k4⟩, q_lim_eq (fun go => by rw [V go, if_neg z1, if_neg z2])⟩
        rw [hs, e]; exact k2) m 0 σ [but, 0, nI t, nI 0] (by omega) ⟨0, rfl, Or.inl ⟨rfl, rfl⟩, hg, hσ⟩
  refine ⟨fl, σ', ?_, e2, e3, e4⟩
  rw [e5, e1]
  refine q_lim_eq (fun go => ?_)
  unfold D_X0_measure
  rw [if_neg (show ¬ (1 : Nat) = 0 by decide), if_pos (show (1 : Nat) = 1 from rfl)]
  show b_X0_measure_40 go σ' but fl (nI t) (nI m) = _
  unfold b_X0_measure_40
  simp only [p_nm]
  rw [e4 17 (by decide), hW5, if_pos (nI_le (Nat.le_refl _) (by omega)), nI_1]
theorem passesC {n m : Nat} {W : qM} {s : Nat → Int32} (hL : RLk n m (q_sub 2 W) s) (but : Int32) : ∀ (f t : Nat) (g : Nat → Option Nat) (fl : Int32) (σ : qM), t + f = 10 → bnd g → ((fl = 0 ∧ passG s but g m = g) ∨ fl = 1) → (∀ v, v < 10 → σ 1 v = nI (dn (g v))) → (∀ j, j ≠ 1 → σ j = W j) →
    ∃ σ' : qM, q_lim D_X0_measure 0 σ [but, fl, nI t] = some (0, σ') ∧ (∀ v, v < 10 → σ' 1 v = nI (dn (pasG s but m f g v))) ∧ ∀ j, j ≠ 1 → σ' j = W j := by
  intro f
  induction f with
  | zero =>
    intro t g fl σ ht hb hf hg hσ
    have ht : t = 10 := by omega
    subst ht
    refine ⟨σ, q_lim_ret (fun go => ?_), hg, hσ⟩
    unfold D_X0_measure
    rw [if_pos (show (0 : Nat) = 0 from rfl)]
    show b_X0_measure_22 go σ but fl (nI 10) = _
    unfold b_X0_measure_22
    rw [if_pos (show (10 : Int32) ≤ nI 10 by decide)]
  | succ f ih =>
    intro t g fl σ ht hb hf hg hσ
    have V : ∀ go : qB, D_X0_measure go 0 σ [but, fl, nI t] = if fl = 0 then some (0, σ) else go 1 σ [but, 0, nI t, nI 0] := fun go => by
      unfold D_X0_measure
      rw [if_pos (show (0 : Nat) = 0 from rfl)]
      show b_X0_measure_22 go σ but fl (nI t) = _
      unfold b_X0_measure_22
      rw [if_neg (show ¬ (10 : Int32) ≤ nI t from nI_ge (b := 10) (by omega) (by decide))]
      rfl
    rcases hf with ⟨h0, hfix⟩ | h1
    · refine ⟨σ, q_lim_ret (fun go => by rw [V go, if_pos h0]), ?_, hσ⟩
      rw [pasG_fix hfix]; exact hg
    · obtain ⟨fl2, σ2, p1, p2, p3, p4⟩ := passC hL but t hb hg hσ
      have hfix : (fl2 = 0 ∧ passG s but (passG s but g m) m = passG s but g m) ∨ fl2 = 1 := by
        rcases p2 with ⟨y1, y2⟩ | y1
        · exact Or.inl ⟨y1, by rw [y2]; exact y2⟩
        · exact Or.inr y1
      obtain ⟨σ3, r1, r2, r3⟩ := ih (t + 1) (passG s but g m) fl2 σ2 (by omega) (pass_bnd hL hb m (Nat.le_refl _)) hfix p3 p4
      refine ⟨σ3, ?_, r2, r3⟩
      rw [q_lim_eq (j := 1) (τ := σ) (ys := [but, 0, nI t, nI 0]) (fun go => by rw [V go, h1, if_neg ne10]), p1]
      exact r1
theorem measureC {n m : Nat} {W : qM} {s : Nat → Int32} (hL : RLk n m (q_sub 2 W) s) {a : Nat} (ha : a < 10) (but : Int32) : ∃ W' : qM, f_X0_measure W (nI a) but = some (0, W') ∧ (∀ v, v < 10 → W' 1 v = nI (dn (pasG s but m 10 (g0 a) v))) ∧ ∀ j, j ≠ 1 → W' j = W j := by
  obtain ⟨T', t1, t2, t3⟩ := fill10 (q_sub 1 W) 1000000
  obtain ⟨W1, hW1⟩ : ∃ y, y = q_wr (q_put 1 1 W T') 1 a 0 := ⟨_, rfl⟩
  have w1 : ∀ v, v < 10 → W1 1 v = nI (dn (g0 a v)) := fun v hv => by
    rw [hW1, p_wr]
    unfold g0
    by_cases c : v = a
    · rw [if_pos ⟨rfl, c⟩, if_pos c]; rfl
    · rw [if_neg (fun z => c z.2), if_neg c, p_put, if_pos (by omega)]
      exact t2 v hv
  have wj : ∀ j, j ≠ 1 → W1 j = W j := fun j hj => by rw [hW1, p_wrk hj, p_put, if_neg (by omega)]
  obtain ⟨W', r1, r2, r3⟩ := passesC hL but 10 0 (g0 a) 1 W1 rfl (g0_bnd a) (Or.inr rfl) w1 wj
  refine ⟨W', ?_, r2, r3⟩
  unfold f_X0_measure e_X0_measure
  rw [t1, p_cl, q_wt_n ha (by decide), ← hW1]
  exact r1
