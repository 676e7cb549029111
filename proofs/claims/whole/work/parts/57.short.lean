/-! distances: the reference -/
theorem stepR {n m : Nat} {net τ0 : qM} (hL : RLk n m net (τ0 1)) (but x : Int32) (t : Nat) {g : Nat → Option Nat} (hb : bnd g) {k : Nat} (hk : k < m) {τ : qM} (hg : ∀ v, v < 10 → τ 13 v = nI (fn (g v))) (hτ : ∀ j, j ≠ 13 → τ j = τ0 j) :
    ∃ τ' : qM, q_lim D_X8_shortestBut 2 τ [x, but, nI t, nI k] = q_lim D_X8_shortestBut 2 τ' [x, but, nI t, nI (k + 1)] ∧ (∀ v, v < 10 → τ' 13 v = nI (fn (stepG (τ0 1) but g k v))) ∧ ∀ j, j ≠ 13 → τ' j = τ0 j := by
  have hn := hL.1
  have hm := hL.2.1
  have r1 : τ0 1 1 = nI m := hL.2.2.2.2.1
  obtain ⟨a, b, c, w1, w2, w3, w4, w5, w6, w7, w8, w9, w10, w11, w12⟩ := hL.2.2.2.2.2.2.2.2.2.2.2.2.1 k hk
  have fa := fn_lt hb (v := a) (by omega)
  have fb := fn_lt hb (v := b) (by omega)
  have h1 : τ 1 = τ0 1 := hτ 1 (by decide)
  obtain ⟨A, hA⟩ : ∃ y, y = min (fn (g a)) (fn (g b) + c) := ⟨_, rfl⟩
  obtain ⟨B, hB⟩ : ∃ y, y = min (fn (g b)) (A + c) := ⟨_, rfl⟩
  have R : ∀ go : qB, D_X8_shortestBut go 2 τ [x, but, nI t, nI k] = (if τ0 1 (100 + k) = 0 then go 2 τ [x, but, nI t, nI (k + 1)] else if nI k = but then go 2 τ [x, but, nI t, nI (k + 1)] else go 2 (q_wr (q_wr τ 13 a (nI A)) 13 b (nI B)) [x, but, nI t, nI (k + 1)]) := fun go => by
    unfold D_X8_shortestBut
    rw [if_neg (show ¬ (2 : Nat) = 0 by decide), if_neg (show ¬ (2 : Nat) = 1 by decide), if_pos (show (2 : Nat) = 2 from rfl)]
    show b_X8_shortestBut_49 go τ x but (nI t) (nI k) = _
    unfold b_X8_shortestBut_49
    simp only [p_nm]
    rw [rd1_1, h1, r1, if_neg (nI_ge hk (by omega)), a100, q_rd_n (by omega) (by decide), h1, nI_1]
    by_cases z : τ0 1 (100 + k) = 0
    · rw [if_pos z, if_pos z]
    · rw [if_neg z, if_neg z]
      by_cases z2 : nI k = but
      · rw [if_pos z2, if_pos z2]
      · rw [if_neg z2, if_neg z2, a10, q_rd_n (by omega) (by decide), a40, q_rd_n (by omega) (by decide), h1, w5, w7, q_rd_n (by omega) (by decide), q_rd_n (by omega) (by decide), hg a (by omega), hg b (by omega), a70, q_rd_n (by omega) (by decide), h1, w9, nI_add, minI (by omega) (by omega), ← hA, q_wt_n (by omega) (by decide), q_rd_n (by omega) (by decide), p_wrj (show b ≠ a by omega), hg b (by omega), q_rd_n (by omega) (by decide), p_wrs, q_rd_n (by omega) (by decide), p_wrk (show 1 ≠ 13 by decide), h1, w9, nI_add, minI (by omega) (by omega), ← hB, q_wt_n (by omega) (by decide)]
  by_cases z : τ0 1 (100 + k) = 1
  · by_cases z2 : nI k = but
    · have e : stepG (τ0 1) but g k = g := if_neg (fun y => y.2 z2)
      exact ⟨τ, q_lim_eq (fun go => by rw [R go, z, if_neg ne10, if_pos z2]), fun v hv => by rw [e]; exact hg v hv, hτ⟩
    · have e : stepG (τ0 1) but g k = rlx g a b c := by
        unfold stepG
        rw [if_pos ⟨z, z2⟩, w5, w7, w9, nI_clamp (by omega), nI_clamp (by omega), nI_clamp (by omega)]
      refine ⟨_, q_lim_eq (fun go => by rw [R go, z, if_neg ne10, if_neg z2]), fun v hv => ?_, fun j hj => by rw [p_wrk hj, p_wrk hj]; exact hτ j hj⟩
      rw [e, rlx_fn hb (a := a) (b := b) (c := c) (by omega) (by omega) (by omega) w3 w4 v hv, p_wr]
      by_cases y : v = b
      · rw [if_pos ⟨rfl, y⟩, if_pos y, hB, hA]
        congr 1
        omega
      · rw [if_neg (fun q => y q.2), if_neg y, p_wr]
        by_cases y2 : v = a
        · rw [if_pos ⟨rfl, y2⟩, if_pos y2, hA]
          congr 1
          omega
        · rw [if_neg (fun q => y2 q.2), if_neg y2]; exact hg v hv
  · have z0 : τ0 1 (100 + k) = 0 := w12.elim id (fun y => absurd y z)
    have e : stepG (τ0 1) but g k = g := if_neg (fun y => z y.1)
    exact ⟨τ, q_lim_eq (fun go => by rw [R go, if_pos z0]), fun v hv => by rw [e]; exact hg v hv, hτ⟩
theorem passR {n m : Nat} {net τ0 : qM} (hL : RLk n m net (τ0 1)) (but x : Int32) (t : Nat) (ht : t < 10) {g : Nat → Option Nat} (hb : bnd g) {τ : qM} (hg : ∀ v, v < 10 → τ 13 v = nI (fn (g v))) (hτ : ∀ j, j ≠ 13 → τ j = τ0 j) :
    ∃ τ' : qM, q_lim D_X8_shortestBut 1 τ [x, but, nI t] = q_lim D_X8_shortestBut 1 τ' [x, but, nI (t + 1)] ∧ (∀ v, v < 10 → τ' 13 v = nI (fn (passG (τ0 1) but g m v))) ∧ ∀ j, j ≠ 13 → τ' j = τ0 j := by
  have hm := hL.2.1
  have r1 : τ0 1 1 = nI m := hL.2.2.2.2.1
  obtain ⟨τ', xs', ⟨e1, e2, e3⟩, e4⟩ := q_run (D := D_X8_shortestBut) (i := 2) (I := fun k τc xs => xs = [x, but, nI t, nI k] ∧ (∀ v, v < 10 → τc 13 v = nI (fn (passG (τ0 1) but g k v))) ∧ ∀ j, j ≠ 13 → τc j = τ0 j) m (fun k τc xs hk hI => by
    obtain ⟨rfl, k1, k2⟩ := hI
    obtain ⟨τd, u1, u2, u3⟩ := stepR hL but x t (pass_bnd hL hb k (by omega)) hk k1 k2
    exact ⟨τd, _, ⟨rfl, u2, u3⟩, u1⟩) m 0 τ [x, but, nI t, nI 0] (by omega) ⟨rfl, hg, hτ⟩
  refine ⟨τ', ?_, e2, e3⟩
  rw [q_lim_eq (j := 2) (τ := τ) (ys := [x, but, nI t, nI 0]) (fun go => ?_), e4, e1]
  · refine q_lim_eq (fun go => ?_)
    unfold D_X8_shortestBut
    rw [if_neg (show ¬ (2 : Nat) = 0 by decide), if_neg (show ¬ (2 : Nat) = 1 by decide), if_pos (show (2 : Nat) = 2 from rfl)]
    show b_X8_shortestBut_49 go τ' x but (nI t) (nI m) = _
    unfold b_X8_shortestBut_49
    simp only [p_nm]
    rw [rd1_1, e3 1 (by decide), r1, if_pos (nI_le (Nat.le_refl _) (by omega)), nI_1]
  · unfold D_X8_shortestBut
    rw [if_neg (show ¬ (1 : Nat) = 0 by decide), if_pos (show (1 : Nat) = 1 from rfl)]
    show b_X8_shortestBut_39 go τ x but (nI t) = _
    unfold b_X8_shortestBut_39
    rw [if_neg (show ¬ (10 : Int32) ≤ nI t from nI_ge (b := 10) ht (by decide))]
    rfl
theorem passesR {n m : Nat} {net τ0 : qM} (hL : RLk n m net (τ0 1)) (but : Int32) {b : Nat} (hb10 : b < 10) : ∀ (f t : Nat) (g : Nat → Option Nat) (τ : qM), t + f = 10 → bnd g → (∀ v, v < 10 → τ 13 v = nI (fn (g v))) → (∀ j, j ≠ 13 → τ j = τ0 j) →
    ∃ τ' : qM, q_lim D_X8_shortestBut 1 τ [nI b, but, nI t] = some (match pasG (τ0 1) but m f g b with | some d => nI d | none => -2, τ') ∧ ∀ j, j ≠ 13 → τ' j = τ0 j := by
  intro f
  induction f with
  | zero =>
    intro t g τ ht hb hg hτ
    have ht : t = 10 := by omega
    subst ht
    refine ⟨τ, q_lim_ret (fun go => ?_), hτ⟩
    unfold D_X8_shortestBut
    rw [if_neg (show ¬ (1 : Nat) = 0 by decide), if_pos (show (1 : Nat) = 1 from rfl)]
    show b_X8_shortestBut_39 go τ (nI b) but (nI 10) = _
    unfold b_X8_shortestBut_39
    rw [if_pos (show (10 : Int32) ≤ nI 10 by decide), q_rd_n hb10 (by decide), hg b hb10, q_rd_n hb10 (by decide), hg b hb10]
    show _ = some (match g b with | some d => nI d | none => -2, τ)
    cases e : g b with
    | none =>
      show (if nI 1000 < 1000 then _ else some (-2, τ)) = some (-2, τ)
      rw [if_neg (show ¬ nI 1000 < 1000 from nI_nlt (b := 1000) (Nat.le_refl _) (by decide))]
    | some d =>
      have := bnd_le hb hb10 e
      show (if nI d < 1000 then some (nI d, τ) else _) = some (nI d, τ)
      rw [if_pos (show nI d < 1000 from nI_lt (b := 1000) (by omega) (by decide))]
  | succ f ih =>
    intro t g τ ht hb hg hτ
    obtain ⟨τ2, p1, p2, p3⟩ := passR hL but (nI b) t (by omega) hb hg hτ
    obtain ⟨τ3, r1, r2⟩ := ih (t + 1) (passG (τ0 1) but g m) τ2 (by omega) (pass_bnd hL hb m (Nat.le_refl _)) p2 p3
    exact ⟨τ3, by rw [p1]; exact r1, r2⟩
theorem shortR {n m : Nat} {net τ : qM} (hL : RLk n m net (τ 1)) {a b : Nat} (ha : a < 10) (hb : b < 10) (but : Int32) : ∃ τ' : qM, f_X8_shortestBut τ (nI a) (nI b) but = some (match pasG (τ 1) but m 10 (g0 a) b with | some d => nI d | none => -2, τ') ∧ ∀ j, j ≠ 13 → τ' j = τ j := by
  obtain ⟨τ1, xs1, ⟨e1, e2, e3⟩, e4⟩ := q_run (D := D_X8_shortestBut) (i := 0) (I := fun k τc xs => xs = [nI a, nI b, but, nI k] ∧ (∀ v, v < k → τc 13 v = nI (fn (g0 a v))) ∧ ∀ j, j ≠ 13 → τc j = τ j) 10 (fun k τc xs hk hI => by
    obtain ⟨rfl, k1, k2⟩ := hI
    refine ⟨q_wr τc 13 k (nI (fn (g0 a k))), _, ⟨rfl, fun v hv => ?_, fun j hj => by rw [p_wrk hj]; exact k2 j hj⟩, q_lim_eq (fun go => ?_)⟩
    · rw [p_wr]
      by_cases c : v = k
      · rw [if_pos ⟨rfl, c⟩, c]
      · rw [if_neg (fun z => c z.2)]; exact k1 v (by omega)
    · unfold D_X8_shortestBut
      rw [if_pos (show (0 : Nat) = 0 from rfl)]
      show b_X8_shortestBut_3 go τc (nI a) (nI b) but (nI k) = _
      unfold b_X8_shortestBut_3
      simp only [p_nm]
      rw [if_neg (show ¬ (10 : Int32) ≤ nI k from nI_ge (b := 10) hk (by decide)), q_wt_n hk (by decide), q_wt_n hk (by decide), nI_1]
      unfold g0
      by_cases c : k = a
      · rw [if_pos (congrArg nI c), if_pos c]; rfl
      · rw [if_neg (fun z => c (p_inj (by omega) (by omega) z)), if_neg c]; rfl) 10 0 τ [nI a, nI b, but, nI 0] (by decide) ⟨rfl, fun v hv => by omega, fun _ _ => rfl⟩
  have h1 : τ1 1 = τ 1 := e3 1 (by decide)
  obtain ⟨τ2, r1, r2⟩ := passesR (τ0 := τ) hL but hb 10 0 (g0 a) τ1 rfl (g0_bnd a) e2 e3
  refine ⟨τ2, ?_, r2⟩
  show q_lim D_X8_shortestBut 0 τ [nI a, nI b, but, nI 0] = _
  rw [e4, e1, q_lim_eq (j := 1) (τ := τ1) (ys := [nI b, but, nI 0]) (fun go => ?_)]
  · exact r1
  · unfold D_X8_shortestBut
    rw [if_pos (show (0 : Nat) = 0 from rfl)]
    show b_X8_shortestBut_3 go τ1 (nI a) (nI b) but (nI 10) = _
    unfold b_X8_shortestBut_3
    rw [if_pos (show (10 : Int32) ≤ nI 10 by decide)]
    rfl
