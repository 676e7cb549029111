/-! a way: class and reference -/
theorem nextR {n : Nat} {K : Nat → Nat} {net τ : qM} (hT : RT n K 1 net (τ 1)) (hn : n ≤ 10) {a b : Nat} (ha : a < n) (hb : b < n) :
    ∃ o : Option Nat, f_X8_nextOf τ (nI a) (nI b) = some (lo o, τ) ∧ ((o = none ∧ (net 2 (10 * a + b) = -1 ∨ 16 ≤ net 2 (10 * a + b))) ∨ ∃ v, o = some v ∧ v < n ∧ ¬ (net 2 (10 * a + b) = -1 ∨ 16 ≤ net 2 (10 * a + b)) ∧ net 3 (10 * a + b) = nI v) := by
  have lk := Nat.le_trans (hT.le hn (r := a) (by omega)) hn
  have hE : f_X8_entryOf τ (nI a) (nI b) = some (eo a (ef (τ 1) a (K a) (nI b)), τ) := entryOfS (by omega) lk (hT.1 a (by omega)).1
  rcases hT.cell hn (r := a) (d := b) (by omega) (by omega) with ⟨c1, c2⟩ | ⟨k, v, x, k1, k2, k3, k4, k5, k6, k7, k8, k9, k10, k11, k12⟩
  · refine ⟨none, ?_, Or.inl ⟨rfl, Or.inl c2⟩⟩
    unfold f_X8_nextOf
    rw [hE, p_cl, ef_none c1, show eo a none = -1 from rfl, if_pos (show (-1 : Int32) < 0 by decide)]
    rfl
  · have k8 : net 2 (10 * a + b) = nI x := k8
    have k10 : net 3 (10 * a + b) = nI v := k10
    have R : f_X8_nextOf τ (nI a) (nI b) = if nI x < 16 then some (nI v, τ) else some (-1, τ) := by
      unfold f_X8_nextOf
      simp only [p_nm]
      rw [hE, p_cl, ef_some hT (by omega) k1 k5, show eo a (some k) = nI (10 * a + k) from rfl, if_neg (nI_pos (by omega)), a250, q_rd_n (by omega) (by decide), k7, a350, q_rd_n (by omega) (by decide), k9]
    by_cases c : nI x < 16
    · rw [if_pos c] at R
      refine ⟨some v, R, Or.inr ⟨v, rfl, k3, fun z => ?_, k10⟩⟩
      rw [k8] at z
      exact z.elim (fun z => p_ne1 (by omega) z) (fun z => i_nle.mpr c z)
    · rw [if_neg c] at R
      refine ⟨none, R, Or.inl ⟨rfl, Or.inr ?_⟩⟩
      rw [k8]; exact i_nlt.mp c
theorem onWayS {τ : qM} {L : Nat} {x : Int32} (hL : L ≤ 10) (h : τ 0 14 = nI L) : f_X8_isOnWay τ x = some (match q_find (fun k => decide (τ 12 k = x)) L 0 with | some _ => 1 | none => 0, τ) := by
  have h1 := q_search (D := D_X8_isOnWay) (i := 0) (τ := τ) (P := fun k => decide (τ 12 k = x)) (m := L) (fun k => [x, nI k]) (fun _ => (1, τ)) (0, τ) (fun go => ?_) (fun k hk hp go => ?_) (fun k hk hp go => ?_) L 0 (by omega)
  · show q_lim D_X8_isOnWay 0 τ [x, nI 0] = _
    rw [h1]
    cases q_find (fun k => decide (τ 12 k = x)) L 0 <;> rfl
  · show b_X8_isOnWay_2 go τ x (nI L) = _
    unfold b_X8_isOnWay_2
    simp only [p_nm]
    rw [h, if_pos (nI_le (Nat.le_refl _) (by omega)), p_bo0]
  · have hp := of_decide_eq_true hp
    show b_X8_isOnWay_2 go τ x (nI k) = _
    unfold b_X8_isOnWay_2
    simp only [p_nm]
    rw [h, if_neg (nI_ge hk (by omega)), q_rd_n (by omega) (by decide), if_pos hp, p_bo1]
  · have hp := of_decide_eq_false hp
    show b_X8_isOnWay_2 go τ x (nI k) = _
    unfold b_X8_isOnWay_2
    simp only [p_nm]
    rw [h, if_neg (nI_ge hk (by omega)), q_rd_n (by omega) (by decide), if_neg hp, nI_1]
/-- what a way leaves as it was in the reference -/
def frW (τ τ1 : qM) : Prop := (∀ i, i ≠ 0 → i ≠ 12 → τ1 i = τ i) ∧ ∀ j, j ≠ 14 → τ1 0 j = τ 0 j
theorem frW.rf (τ : qM) : frW τ τ := ⟨fun _ _ _ => rfl, fun _ _ => rfl⟩
theorem frW.trans {a b c : qM} (h1 : frW a b) (h2 : frW b c) : frW a c := ⟨fun i x y => (h2.1 i x y).trans (h1.1 i x y), fun j x => (h2.2 j x).trans (h1.2 j x)⟩
theorem frR_W {τ τ1 : qM} (h : frW τ τ1) : frR τ τ1 := ⟨fun i x => h.1 i (by omega) (by omega), fun j x => h.2 j (by omega)⟩
theorem walk_loop {n : Nat} {K : Nat → Nat} {net W τ0 : qM} (hT : RT n K 1 net (τ0 1)) (hn : n ≤ 10) (hW : ∀ c, c < 100 → W 3 c = net 2 c ∧ W 4 c = net 3 c) {b : Nat} (hb : b < n) :
    ∀ (f L : Nat) (g : Nat → Nat) (a : Nat) (z : Int32) (σ τ : qM), L + f = 10 → (∀ i, i < L → g i < n) → (∀ i j, i < L → j < L → g i = g j → i = j) → a < n → (∀ i, i < L → g i ≠ a) → (∀ c, c < 10 → (bitN z c = true ↔ ∃ i, i < L ∧ g i = c)) →
      σ 0 1 = nI L → σ 0 2 = 2 → (∀ i, i < L → σ 1 i = nI (g i)) → (∀ j, 2 ≤ j → σ j = W j) → τ 0 14 = nI (L + 1) → (∀ i, i < L → τ 12 i = nI (g i)) → τ 12 L = nI a → frW τ0 τ →
      ∃ (σ' τ' : qM) (e L' : Nat), q_lim D_X6_walk 0 σ [nI b, z, nI a] = some (0, σ') ∧ q_lim D_X8_goWay 0 τ [nI b] = some (nI e, τ') ∧ e ≤ 2 ∧ σ' 0 2 = nI e ∧ σ' 0 1 = nI L' ∧ L' ≤ 10 ∧ τ' 0 14 = nI L' ∧ (∀ i, i < L' → σ' 1 i = τ' 12 i) ∧ (∀ j, 2 ≤ j → σ' j = W j) ∧ frW τ0 τ' := by
  intro f
  induction f with
  | zero =>
    intro L g a z σ τ hL hg hinj ha hna
    have hL : L = 10 := by omega
    subst hL
    have := q_pigeon n 11 (fun i => if i = 10 then a else g i) (fun i hi => by
      show (if i = 10 then a else g i) < n
      by_cases c : i = 10
      · rw [if_pos c]; exact ha
      · rw [if_neg c]; exact hg i (by omega)) (fun i j hi hj e => by
      have e : (if i = 10 then a else g i) = (if j = 10 then a else g j) := e
      by_cases c : i = 10 <;> by_cases c2 : j = 10
      · omega
      · rw [if_pos c, if_neg c2] at e; exact absurd e.symm (hna j (by omega))
      · rw [if_neg c, if_pos c2] at e; exact absurd e (hna i (by omega))
      · rw [if_neg c, if_neg c2] at e; exact hinj i j (by omega) (by omega) e)
    omega
  | succ f ih =>
    intro L g a z σ τ hL hg hinj ha hna hz s1 s2 s3 s4 t1 t2 t3 ht
    obtain ⟨g', hg'⟩ : ∃ g' : Nat → Nat, g' = fun i => if i = L then a else g i := ⟨_, rfl⟩
    have g'L : g' L = a := by rw [hg']; exact if_pos rfl
    have g'n : ∀ i, i ≠ L → g' i = g i := fun i hi => by rw [hg']; exact if_neg hi
    have g'lt : ∀ i, i < L + 1 → g' i < n := fun i hi => by
      by_cases c : i = L
      · rw [c, g'L]; exact ha
      · rw [g'n i c]; exact hg i (by omega)
    have g'inj : ∀ i j, i < L + 1 → j < L + 1 → g' i = g' j → i = j := fun i j hi hj e => by
      by_cases c : i = L <;> by_cases c2 : j = L
      · omega
      · rw [c, g'L, g'n j c2] at e; exact absurd e.symm (hna j (by omega))
      · rw [c2, g'L, g'n i c] at e; exact absurd e (hna i (by omega))
      · rw [g'n i c, g'n j c2] at e; exact hinj i j (by omega) (by omega) e
    have bz : bitN z a = false := by
      cases c : bitN z a with
      | false => rfl
      | true =>
        obtain ⟨i, hi, e⟩ := (hz a (by omega)).mp c
        exact absurd e (hna i hi)
    obtain ⟨σ1, hσ1⟩ : ∃ y, y = q_wr (q_wr σ 1 L (nI a)) 0 1 (nI (L + 1)) := ⟨_, rfl⟩
    have u1 : σ1 0 1 = nI (L + 1) := by rw [hσ1, p_wrs]
    have u2 : σ1 0 2 = 2 := by rw [hσ1, p_wrj (by decide), p_wrk (by decide)]; exact s2
    have u3 : ∀ i, i < L + 1 → σ1 1 i = nI (g' i) := fun i hi => by
      rw [hσ1, p_wrk (by decide), p_wr]
      by_cases c : i = L
      · rw [if_pos ⟨rfl, c⟩, c, g'L]
      · rw [if_neg (fun y => c y.2), g'n i c]; exact s3 i (by omega)
    have u4 : ∀ j, 2 ≤ j → σ1 j = W j := fun j hj => by rw [hσ1, p_wrk (by omega), p_wrk (by omega)]; exact s4 j hj
    have t4 : ∀ i, i < L + 1 → τ 12 i = nI (g' i) := fun i hi => by
      by_cases c : i = L
      · rw [c, g'L]; exact t3
      · rw [g'n i c]; exact t2 i (by omega)
    have st : ∀ i, i < L + 1 → σ1 1 i = τ 12 i := fun i hi => by rw [u3 i hi, t4 i hi]
    obtain ⟨z', hz'⟩ : ∃ y, y = z ||| ((1 : Int32) <<< (nI a &&& 31)) := ⟨_, rfl⟩
    have hput : q_put 2 7 σ1 (q_sub 2 σ1) = σ1 := p_put_sub 2 7 σ1
    have V : ∀ go : qB, D_X6_walk go 0 σ [nI b, z, nI a] = (if nI a = nI b then some (0, q_wr σ1 0 2 1) else (if net 2 (10 * a + b) = -1 ∨ 16 ≤ net 2 (10 * a + b) then some (0, q_wr σ1 0 2 0) else go 0 σ1 [nI b, z', net 3 (10 * a + b)])) := fun go => by
      show b_X6_walk_16 go σ (nI b) z (nI a) = _
      unfold b_X6_walk_16
      simp only [p_nm]
      rw [s1, if_neg (show ¬ (10 : Int32) ≤ nI L from nI_ge (b := 10) (by omega) (by decide)), bit_at (by omega), bz, if_neg (show ¬ (false = true) by decide), if_pos rfl, q_wt_n (by omega) (by decide), p_wrk (show 0 ≠ 1 by decide), s1, nI_1, ← hσ1, ← hz']
      by_cases c : nI a = nI b
      · rw [if_pos c, if_pos c]
      · rw [if_neg c, if_neg c, p_cell, reachesS (by omega), p_cl, hput, show q_sub 2 σ1 1 (10 * a + b) = net 2 (10 * a + b) by
          show σ1 3 (10 * a + b) = _
          rw [u4 3 (by decide)]; exact (hW _ (by omega)).1]
        by_cases c2 : net 2 (10 * a + b) = -1 ∨ 16 ≤ net 2 (10 * a + b)
        · rw [if_pos c2, if_pos rfl, if_pos c2]
        · rw [if_neg c2, if_neg ne10, if_neg c2, q_rd_n (by omega) (by decide), u4 4 (by decide), (hW _ (by omega)).2]
    obtain ⟨o, n1, n2⟩ := nextR (τ := τ) (net := net) (n := n) (K := K) (by rw [ht.1 1 (by decide) (by decide)]; exact hT) hn ha hb
    have R : ∀ go : qB, D_X8_goWay go 0 τ [nI b] = (if nI a = nI b then some (1, τ) else (if (0 : Int32) ≤ lo o then (q_cl (f_X8_isOnWay τ (lo o)) (fun τ => τ) fun x17 s16 => if x17 = 0 then (q_wt s16 12 10 (s16 0 14) (lo o) fun s20 => go 0 (q_wr s20 0 14 (s20 0 14 + 1)) [nI b]) else some (2, s16)) else some (0, τ))) := fun go => by
      show b_X8_goWay_12 go τ (nI b) = _
      unfold b_X8_goWay_12
      simp only [p_nm]
      rw [t1, nI_pred, q_rd_n (by omega) (by decide), t3, q_rd_n (by omega) (by decide), t3, n1, p_cl]
    by_cases c : nI a = nI b
    · refine ⟨q_wr σ1 0 2 1, τ, 1, L + 1, q_lim_ret (fun go => by rw [V go, if_pos c]), q_lim_ret (fun go => by rw [R go, if_pos c]; rfl), by decide, p_wrs _ _ _ _, by rw [p_wrj (by decide)]; exact u1, by omega, t1, fun i hi => by rw [p_wrk (by decide)]; exact st i hi, fun j hj => by rw [p_wrk (by omega)]; exact u4 j hj, ht⟩
    · rcases n2 with ⟨rfl, c2⟩ | ⟨v, rfl, v1, c2, c3⟩
      · refine ⟨q_wr σ1 0 2 0, τ, 0, L + 1, q_lim_ret (fun go => by rw [V go, if_neg c, if_pos c2]), q_lim_ret (fun go => by
          rw [R go, if_neg c, show lo none = -1 from rfl, if_neg (show ¬ (0 : Int32) ≤ -1 by decide)]; rfl), by decide, p_wrs _ _ _ _, by rw [p_wrj (by decide)]; exact u1, by omega, t1, fun i hi => by rw [p_wrk (by decide)]; exact st i hi, fun j hj => by rw [p_wrk (by omega)]; exact u4 j hj, ht⟩
      · have V1 : q_lim D_X6_walk 0 σ [nI b, z, nI a] = q_lim D_X6_walk 0 σ1 [nI b, z', nI v] := q_lim_eq (fun go => by rw [V go, if_neg c, if_neg c2, c3])
        have hlo : lo (some v) = nI v := rfl
        have hz2 : ∀ c, c < 10 → (bitN z' c = true ↔ ∃ i, i < L + 1 ∧ g' i = c) := fun c hc => by
          rw [hz', bit_or (by omega) hc, Bool.or_eq_true, hz c hc]
          constructor
          · rintro (⟨i, hi, e⟩ | e)
            · exact ⟨i, by omega, by rw [g'n i (by omega)]; exact e⟩
            · exact ⟨L, by omega, by rw [g'L]; exact (of_decide_eq_true e).symm⟩
          · rintro ⟨i, hi, e⟩
            by_cases w : i = L
            · rw [w, g'L] at e; exact Or.inr (decide_eq_true e.symm)
            · rw [g'n i w] at e; exact Or.inl ⟨i, by omega, e⟩
        have hon := onWayS (τ := τ) (L := L + 1) (x := nI v) (by omega) t1
        by_cases w : ∃ i, i < L + 1 ∧ g' i = v
        · have hf : ∃ j, q_find (fun k => decide (τ 12 k = nI v)) (L + 1) 0 = some j := by
            cases q : q_find (fun k => decide (τ 12 k = nI v)) (L + 1) 0 with
            | some j => exact ⟨j, rfl⟩
            | none =>
              obtain ⟨i, hi, e⟩ := w
              have := of_decide_eq_false (q_find_none q i (Nat.zero_le _) (by omega))
              exact absurd (by rw [t4 i hi, e]) this
          obtain ⟨j, hj⟩ := hf
          rw [hj] at hon
          have hon : f_X8_isOnWay τ (nI v) = some (1, τ) := hon
          refine ⟨σ1, τ, 2, L + 1, ?_, q_lim_ret (fun go => by rw [R go, if_neg c, hlo, if_pos (nI_pos' (by omega)), hon, p_cl, if_neg ne10]; rfl), by decide, u2, u1, by omega, t1, st, u4, ht⟩
          rw [V1]
          refine q_lim_ret (fun go => ?_)
          show b_X6_walk_16 go σ1 (nI b) z' (nI v) = _
          unfold b_X6_walk_16
          simp only [p_nm]
          rw [u1]
          by_cases l10 : (10 : Int32) ≤ nI (L + 1)
          · rw [if_pos l10]
          · rw [if_neg l10, bit_at (by omega), if_pos ((hz2 v (by omega)).mpr w), if_neg ne10]
        · have hf : q_find (fun k => decide (τ 12 k = nI v)) (L + 1) 0 = none := q_find_no (fun i _ hi => decide_eq_false (fun e => w ⟨i, by omega, by
            rw [t4 i (by omega)] at e
            have := g'lt i (by omega)
            exact p_inj (by omega) (by omega) e⟩))
          rw [hf] at hon
          have hon : f_X8_isOnWay τ (nI v) = some (0, τ) := hon
          have hL9 : L + 1 < 10 := by
            have := q_pigeon n (L + 2) (fun i => if i = L + 1 then v else g' i) (fun i hi => by
              show (if i = L + 1 then v else g' i) < n
              by_cases y : i = L + 1
              · rw [if_pos y]; exact v1
              · rw [if_neg y]; exact g'lt i (by omega)) (fun i j hi hj e => by
              have e : (if i = L + 1 then v else g' i) = (if j = L + 1 then v else g' j) := e
              by_cases y : i = L + 1 <;> by_cases y2 : j = L + 1
              · omega
              · rw [if_pos y, if_neg y2] at e; exact absurd ⟨j, by omega, e.symm⟩ w
              · rw [if_neg y, if_pos y2] at e; exact absurd ⟨i, by omega, e⟩ w
              · rw [if_neg y, if_neg y2] at e; exact g'inj i j (by omega) (by omega) e)
            omega
          obtain ⟨τ1, hτ1⟩ : ∃ y, y = q_wr (q_wr τ 12 (L + 1) (nI v)) 0 14 (nI (L + 1 + 1)) := ⟨_, rfl⟩
          have R1 : q_lim D_X8_goWay 0 τ [nI b] = q_lim D_X8_goWay 0 τ1 [nI b] := q_lim_eq (fun go => by
            rw [R go, if_neg c, hlo, if_pos (nI_pos' (by omega)), hon, p_cl, if_pos rfl, t1, q_wt_n hL9 (by decide), p_wrk (show 0 ≠ 12 by decide), t1, nI_1, ← hτ1])
          have r12 : ∀ i, i < L + 1 → τ1 12 i = nI (g' i) := fun i hi => by rw [hτ1, p_wrk (by decide), p_wrj (by omega)]; exact t4 i hi
          obtain ⟨σ', τ', e, L', q1, q2, q⟩ := ih (L + 1) g' v z' σ1 τ1 (by omega) g'lt g'inj v1 (fun i hi e => w ⟨i, hi, e⟩) hz2 u1 u2 u3 u4 (by rw [hτ1, p_wrs]) r12 (by rw [hτ1, p_wrk (by decide), p_wrs]) (ht.trans ⟨fun i x y => by rw [hτ1, p_wrk x, p_wrk y], fun j x => by rw [hτ1, p_wrj x, p_wrk (by decide)]⟩)
          exact ⟨σ', τ', e, L', by rw [V1]; exact q1, by rw [R1]; exact q2, q⟩
theorem walk_sim {n : Nat} {K : Nat → Nat} {net W τ : qM} (hT : RT n K 1 net (τ 1)) (hn : n ≤ 10) (hW : ∀ c, c < 100 → W 3 c = net 2 c ∧ W 4 c = net 3 c) {a b : Nat} (ha : a < n) (hb : b < n) :
    ∃ (W' τ' : qM) (e L' : Nat), f_X6_walk W (nI a) (nI b) = some (0, W') ∧ f_X8_goWay τ (nI a) (nI b) = some (nI e, τ') ∧ e ≤ 2 ∧ W' 0 2 = nI e ∧ W' 0 1 = nI L' ∧ L' ≤ 10 ∧ τ' 0 14 = nI L' ∧ (∀ i, i < L' → W' 1 i = τ' 12 i) ∧ (∀ j, 2 ≤ j → W' j = W j) ∧ frW τ τ' := by
  obtain ⟨W0, hW0⟩ : ∃ y, y = q_wr (q_wr W 0 1 0) 0 2 2 := ⟨_, rfl⟩
  obtain ⟨τ0, hτ0⟩ : ∃ y, y = q_wr (q_wr τ 12 0 (nI a)) 0 14 1 := ⟨_, rfl⟩
  have hfr : frW τ τ0 := ⟨fun i x y => by rw [hτ0, p_wrk x, p_wrk y], fun j x => by rw [hτ0, p_wrj x, p_wrk (by decide)]⟩
  obtain ⟨W', τ', e, L', q1, q2, q⟩ := walk_loop (n := n) (K := K) (net := net) (W := W) (τ0 := τ) hT hn hW hb 10 0 (fun _ => 0) a 0 W0 τ0 rfl (fun i hi => by omega) (fun i j hi _ _ => by omega) ha (fun i hi => by omega) (fun c hc => by
    rw [bit_0 hc]
    exact ⟨fun z => absurd z (by decide), fun ⟨i, hi, _⟩ => absurd hi (by omega)⟩) (by rw [hW0, p_wrj (by decide), p_wrs]; rfl) (by rw [hW0, p_wrs]) (fun i hi => by omega) (fun j hj => by rw [hW0, p_wrk (by omega), p_wrk (by omega)]) (by rw [hτ0, p_wrs]; rfl) (fun i hi => by omega) (by rw [hτ0, p_wrk (by decide), p_wrs]) hfr
  refine ⟨W', τ', e, L', ?_, ?_, q⟩
  · unfold f_X6_walk e_X6_walk
    simp only [p_nm]
    rw [← hW0]
    exact q1
  · unfold f_X8_goWay e_X8_goWay
    simp only [p_nm]
    rw [q_wt_l (w := 0) (n := 10) 0 rfl (by decide) (by decide), ← hτ0]
    exact q2
