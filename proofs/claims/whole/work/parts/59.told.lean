/-! right entries, and told -/
def mm : Option Nat → Int32
  | some d => if nI d < 16 then nI d else 16
  | none => 16
theorem rightStep {n m : Nat} {K : Nat → Nat} {σ τ : qM} (h : RNp n m K (q_sub 1 σ) (τ 1)) {a b : Nat} (ha : a < n) (hb : b < n) (hD : ∀ v, v < 10 → σ 88 v = nI (dn (pasG (τ 1) (-1) m 10 (g0 a) v))) :
    ∃ (d : Int32) (τ' : qM), (∀ acc : Int32, q_lim D_X7_rightEntries 1 σ [acc, nI a, nI b] = q_lim D_X7_rightEntries 1 σ [acc + d, nI a, nI (b + 1)]) ∧ (∀ acc : Int32, q_lim D_X8_right 1 τ [acc, nI a, nI b] = q_lim D_X8_right 1 τ' [acc + d, nI a, nI (b + 1)]) ∧ ∀ j, j ≠ 13 → τ' j = τ j := by
  have hL := h.1
  have hn := hL.1
  have hT := h.2.2
  have v3 : σ 1 3 = nI n := hL.2.2.2.1
  have r0 : τ 1 0 = nI n := hL.2.2.1
  obtain ⟨τ', p1, p2⟩ := shortR hL (a := a) (b := b) (by omega) (by omega) (-1)
  obtain ⟨o, ho⟩ : ∃ o, o = pasG (τ 1) (-1) m 10 (g0 a) b := ⟨_, rfl⟩
  have hd : ∀ d, o = some d → d ≤ 150 := fun d e => bnd_le (pas_bnd hL 10 (g0_bnd a)) (v := b) (by omega) (by rw [← ho]; exact e)
  have p1 : f_X8_shortestBut τ (nI a) (nI b) (-1) = some (shI o, τ') := by rw [p1, ho]; rfl
  have hp : q_put 2 7 σ (q_sub 2 σ) = σ := p_put_sub 2 7 σ
  have lk := Nat.le_trans (hT.le hn (r := a) (by omega)) hn
  have h1 : τ' 1 = τ 1 := p2 1 (by decide)
  have hE : f_X8_entryOf τ' (nI a) (nI b) = some (eo a (ef (τ 1) a (K a) (nI b)), τ') := by
    rw [entryOfS (k0 := K a) (by omega) lk (by rw [h1]; exact (hT.1 a (by omega)).1), h1]
  obtain ⟨me, hme⟩ : ∃ y : Int32, y = if σ 3 (10 * a + b) = -1 then 16 else σ 3 (10 * a + b) := ⟨_, rfl⟩
  have V1 : ∀ acc : Int32, q_lim D_X7_rightEntries 1 σ [acc, nI a, nI b] = q_lim D_X7_rightEntries 2 σ [acc, nI a, nI b, me] := fun acc => q_lim_eq (fun go => by
    unfold D_X7_rightEntries
    rw [if_neg (show ¬ (1 : Nat) = 0 by decide), if_pos (show (1 : Nat) = 1 from rfl)]
    show b_X7_rightEntries_30 go σ acc (nI a) (nI b) = _
    unfold b_X7_rightEntries_30
    simp only [p_nm]
    rw [v3, if_neg (nI_ge hb (by omega)), p_cell, hasS (by omega), p_cl, hp, q_rd_n (by omega) (by decide), hme]
    show (if (if σ 3 (10 * a + b) = -1 then (0 : Int32) else 1) = 0 then _ else _) = _
    by_cases w : σ 3 (10 * a + b) = -1
    · rw [if_pos w, if_pos rfl, if_pos w]
    · rw [if_neg w, if_neg ne10, if_neg w])
  have V2 : ∀ acc : Int32, q_lim D_X7_rightEntries 2 σ [acc, nI a, nI b, me] = q_lim D_X7_rightEntries 1 σ [acc + (if me = mm o then 1 else 0), nI a, nI (b + 1)] := fun acc => q_lim_eq (fun go => by
    unfold D_X7_rightEntries
    rw [if_neg (show ¬ (2 : Nat) = 0 by decide), if_neg (show ¬ (2 : Nat) = 1 by decide), if_pos (show (2 : Nat) = 2 from rfl)]
    show b_X7_rightEntries_82 go σ acc (nI a) (nI b) me = _
    unfold b_X7_rightEntries_82
    simp only [p_nm]
    have e : (if nI (dn o) < 16 then nI (dn o) else 16) = mm o := by
      cases o with
      | none => exact if_neg (show ¬ nI 1000000 < 16 by decide)
      | some d => rfl
    rw [q_rd_n (by omega) (by decide), hD b (by omega), ← ho, e, nI_1]
    by_cases w : me = mm o
    · rw [if_pos w, if_pos w]
    · rw [if_neg w, if_neg w, Int32.add_zero])
  have R1 : ∀ acc : Int32, q_lim D_X8_right 1 τ [acc, nI a, nI b] = q_lim D_X8_right 2 τ' [acc, nI a, nI b, shI o, me] := fun acc => by
    have R : ∀ go : qB, D_X8_right go 1 τ [acc, nI a, nI b] = (if (0 : Int32) ≤ eo a (ef (τ 1) a (K a) (nI b)) then (q_rd τ' 1 650 (250 + eo a (ef (τ 1) a (K a) (nI b))) fun x17 => go 2 τ' [acc, nI a, nI b, shI o, x17]) else go 2 τ' [acc, nI a, nI b, shI o, 16]) := fun go => by
      unfold D_X8_right
      rw [if_neg (show ¬ (1 : Nat) = 0 by decide), if_pos (show (1 : Nat) = 1 from rfl)]
      show b_X8_right_16 go τ acc (nI a) (nI b) = _
      unfold b_X8_right_16
      simp only [p_nm]
      rw [rd1_0, r0, if_neg (nI_ge hb (by omega)), p1, p_cl, hE, p_cl]
    rcases hT.cell hn (r := a) (d := b) (by omega) (by omega) with ⟨c1, c2⟩ | ⟨k, v, x, k1, k2, k3, k4, k5, k6, k7, k8, k9, k10, k11, k12⟩
    · have c2 : σ 3 (10 * a + b) = -1 := c2
      rw [if_pos c2] at hme
      exact q_lim_eq (fun go => by rw [R go, ef_none c1, show eo a none = -1 from rfl, if_neg (show ¬ (0 : Int32) ≤ -1 by decide), hme])
    · have k8 : σ 3 (10 * a + b) = nI x := k8
      rw [k8, if_neg (p_ne1 (by omega))] at hme
      exact q_lim_eq (fun go => by rw [R go, ef_some hT (by omega) k1 k5, show eo a (some k) = nI (10 * a + k) from rfl, if_pos (nI_pos' (by omega)), a250, q_rd_n (by omega) (by decide), h1, k7, hme])
  have R2 : ∀ acc : Int32, q_lim D_X8_right 2 τ' [acc, nI a, nI b, shI o, me] = q_lim D_X8_right 3 τ' [acc, nI a, nI b, me, mm o] := fun acc => q_lim_eq (fun go => by
    unfold D_X8_right
    rw [if_neg (show ¬ (2 : Nat) = 0 by decide), if_neg (show ¬ (2 : Nat) = 1 by decide), if_pos (show (2 : Nat) = 2 from rfl)]
    show b_X8_right_64 go τ' acc (nI a) (nI b) (shI o) me = _
    unfold b_X8_right_64
    simp only [p_nm]
    cases e : o with
    | none => rw [if_pos (show shI none = -2 from rfl)]; rfl
    | some d =>
      have := hd d e
      rw [if_neg (fun z => by
        have z : nI d = -2 := z
        have y := nI_pos' (n := d) (by omega)
        rw [z] at y
        exact absurd y (by decide))]
      rfl)
  have R3 : ∀ acc : Int32, q_lim D_X8_right 3 τ' [acc, nI a, nI b, me, mm o] = q_lim D_X8_right 1 τ' [acc + (if me = mm o then 1 else 0), nI a, nI (b + 1)] := fun acc => q_lim_eq (fun go => by
    unfold D_X8_right
    rw [if_neg (show ¬ (3 : Nat) = 0 by decide), if_neg (show ¬ (3 : Nat) = 1 by decide), if_neg (show ¬ (3 : Nat) = 2 by decide), if_pos (show (3 : Nat) = 3 from rfl)]
    show b_X8_right_83 go τ' acc (nI a) (nI b) me (mm o) = _
    unfold b_X8_right_83
    simp only [p_nm]
    rw [nI_1]
    by_cases w : me = mm o
    · rw [if_pos w, if_pos w]
    · rw [if_neg w, if_neg w, Int32.add_zero])
  exact ⟨if me = mm o then 1 else 0, τ', fun acc => (V1 acc).trans (V2 acc), fun acc => ((R1 acc).trans (R2 acc)).trans (R3 acc), p2⟩
theorem N_rightEntries : simN f_X7_rightEntries f_X8_right := fun n m K σ τ h => by
  have hn := h.1.1
  obtain ⟨σ2, xs2, ⟨acc, τ2, e1, e2, e3, e4⟩, e5⟩ := q_run (D := D_X7_rightEntries) (i := 0) (I := fun a σc xs => ∃ (acc : Int32) (τc : qM), xs = [acc, nI a] ∧ q_lim D_X8_right 0 τ [0, 0] = q_lim D_X8_right 0 τc [acc, nI a] ∧ (∀ j, j ≠ 88 → σc j = σ j) ∧ ∀ j, j ≠ 13 → τc j = τ j) n (fun a σc xs ha hI => by
    obtain ⟨acc, τc, rfl, g2, g3, g4⟩ := hI
    have hc := RNp_88 h g3 g4
    have v3 : σc 1 3 = nI n := hc.1.2.2.2.1
    have r0 : τc 1 0 = nI n := hc.1.2.2.1
    obtain ⟨W', σd, q1, q2, q3, q4⟩ := measureV hc (a := a) (by omega) (-1)
    have hs : τc 1 = τ 1 := g4 1 (by decide)
    have hsd : ∀ j, j ≠ 88 → σd j = σ j := fun j hj => (q4 j hj).trans (g3 j hj)
    obtain ⟨σe, xe, ⟨acc2, τe, f1, f2, f3, f4⟩, f5⟩ := q_run (D := D_X7_rightEntries) (i := 1) (I := fun b σe xs => ∃ (acc2 : Int32) (τe : qM), xs = [acc2, nI a, nI b] ∧ q_lim D_X8_right 1 τc [acc, nI a, 0] = q_lim D_X8_right 1 τe [acc2, nI a, nI b] ∧ σe = σd ∧ ∀ j, j ≠ 13 → τe j = τ j) n (fun b σe xs hb hI => by
      obtain ⟨acc2, τe, rfl, k2, rfl, k4⟩ := hI
      have he := RNp_88 h hsd k4
      obtain ⟨d, τf, u1, u2, u3⟩ := rightStep he ha hb (fun v hv => by rw [k4 1 (by decide), ← hs]; exact q3 v hv)
      exact ⟨σe, _, ⟨acc2 + d, τf, rfl, by rw [k2]; exact u2 acc2, rfl, fun j hj => (u3 j hj).trans (k4 j hj)⟩, u1 acc2⟩) n 0 σd [acc, nI a, nI 0] (by omega) ⟨acc, τc, rfl, rfl, rfl, g4⟩
    subst f3
    have he := RNp_88 h hsd f4
    refine ⟨σe, _, ⟨acc2, τe, rfl, ?_, hsd, f4⟩, ?_⟩
    · rw [g2, q_lim_eq (j := 1) (τ := τc) (ys := [acc, nI a, 0]) (fun go => ?_), f2]
      · refine q_lim_eq (fun go => ?_)
        unfold D_X8_right
        rw [if_neg (show ¬ (1 : Nat) = 0 by decide), if_pos (show (1 : Nat) = 1 from rfl)]
        show b_X8_right_16 go τe acc2 (nI a) (nI n) = _
        unfold b_X8_right_16
        simp only [p_nm]
        rw [rd1_0, he.1.2.2.1, if_pos (nI_le (Nat.le_refl _) (by omega)), nI_1]
      · show b_X8_right_4 go τc acc (nI a) = _
        unfold b_X8_right_4
        rw [rd1_0, r0, if_neg (nI_ge ha (by omega))]
    · rw [q_lim_eq (j := 1) (τ := σe) (ys := [acc, nI a, nI 0]) (fun go => ?_), f5, f1]
      · refine q_lim_eq (fun go => ?_)
        unfold D_X7_rightEntries
        rw [if_neg (show ¬ (1 : Nat) = 0 by decide), if_pos (show (1 : Nat) = 1 from rfl)]
        show b_X7_rightEntries_30 go σe acc2 (nI a) (nI n) = _
        unfold b_X7_rightEntries_30
        simp only [p_nm]
        rw [show σe 1 3 = nI n from he.1.2.2.2.1, if_pos (nI_le (Nat.le_refl _) (by omega)), nI_1]
      · show b_X7_rightEntries_4 go σc acc (nI a) = _
        unfold b_X7_rightEntries_4
        simp only [p_nm]
        rw [v3, if_neg (nI_ge ha (by omega)), q1, p_cl, q2]
        rfl) n 0 σ [0, nI 0] (by omega) ⟨0, τ, rfl, rfl, fun _ _ => rfl, fun _ _ => rfl⟩
  have hc := RNp_88 h e3 e4
  refine ⟨acc, σ2, τ2, n, m, K, ?_, ?_, hc, frV_88 e3, frR_13 e4⟩
  · show q_lim D_X7_rightEntries 0 σ [0, nI 0] = _
    rw [e5, e1]
    refine q_lim_ret (fun go => ?_)
    show b_X7_rightEntries_4 go σ2 acc (nI n) = _
    unfold b_X7_rightEntries_4
    simp only [p_nm]
    rw [show σ2 1 3 = nI n from hc.1.2.2.2.1, if_pos (nI_le (Nat.le_refl _) (by omega))]
  · show q_lim D_X8_right 0 τ [0, 0] = _
    rw [e2]
    refine q_lim_ret (fun go => ?_)
    show b_X8_right_4 go τ2 acc (nI n) = _
    unfold b_X8_right_4
    rw [rd1_0, hc.1.2.2.1, if_pos (nI_le (Nat.le_refl _) (by omega))]
theorem simN_cl {f g : qM → Option (Int32 × qM)} (h : simN f g) : simN (fun σ => q_cl (f σ) (fun τ => τ) fun x s => some (x, s)) (fun τ => q_cl (g τ) (fun τ => τ) fun x s => some (x, s)) := fun n m K σ τ hR => by
  obtain ⟨r, σ1, τ1, n1, m1, K1, e1, e2, e⟩ := h n m K σ τ hR
  exact ⟨r, σ1, τ1, n1, m1, K1, by show q_cl (f σ) _ _ = _; rw [e1, p_cl], by show q_cl (g τ) _ _ = _; rw [e2, p_cl], e⟩
theorem N_loops : simN (fun σ => q_cl (f_X6_loopsIn (q_sub2 2 85 1 σ)) (q_put2 2 85 21 1 σ) fun x s => some (x, s)) (fun τ => q_cl (f_X8_loops τ) (fun τ => τ) fun x s => some (x, s)) := fun n m K σ τ h => by
  obtain ⟨W', σ1, τ1, r, q1, q2, q3, q4, q5⟩ := loopsV (o := 1) (by decide) h
  refine ⟨r, σ1, τ1, n, m, K, ?_, ?_, ?_, ⟨q4 0 (by decide) (by decide), fun k a b => q4 k (by omega) (by omega), fun k a => q4 k (by omega) (by omega)⟩, frR_W q5⟩
  · show q_cl (f_X6_loopsIn (q_sub2 2 85 1 σ)) (q_put2 2 85 21 1 σ) _ = _
    rw [q1, p_cl, q2]
  · show q_cl (f_X8_loops τ) _ _ = _
    rw [q3, p_cl]
  · rw [q5.1 1 (by decide) (by decide)]
    exact RNp_ext h (fun k hk => q4 (1 + k) (by omega) (by omega))
theorem N_told (x1 : Int32) : simN (fun σ => f_X7_told σ x1) (fun τ => f_X8_told τ x1) := by
  by_cases c0 : x1 = 0
  · subst c0; exact simN_cl N_settledNow
  · by_cases c1 : x1 = 1
    · subst c1; exact simN_cl N_loopedFirst
    · by_cases c2 : x1 = 2
      · subst c2; exact N_loops
      · by_cases c3 : x1 = 3
        · subst c3; exact simN_cl N_rightEntries
        · by_cases c4 : x1 = 4
          · subst c4; exact simN_cl N_worstCut
          · by_cases c5 : x1 = 5
            · subst c5; exact simN_cl N_neededLinks
            · intro n m K σ τ h
              refine simN_same h (r := -1) ?_ ?_
              · show f_X7_told σ x1 = _
                unfold f_X7_told
                rw [if_neg c0, if_neg c1, if_neg c2, if_neg c3, if_neg c4, if_neg c5]
              · show f_X8_told τ x1 = _
                unfold f_X8_told
                rw [if_neg c0, if_neg c1, if_neg c2, if_neg c3, if_neg c4, if_neg c5]
