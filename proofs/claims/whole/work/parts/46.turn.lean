/-! a link goes down: what is lost -/
abbrev hitC (net : qM) (a k : Nat) (b : Int32) (c : Nat) : Prop := 10 * a ≤ c ∧ c < 10 * a + k ∧ net 2 c ≠ -1 ∧ ¬ 16 ≤ net 2 c ∧ net 3 c = b
abbrev hitR (s : Nat → Int32) (a k : Nat) (b : Int32) (e : Nat) : Prop := 10 * a ≤ e ∧ e < 10 * a + k ∧ s (350 + e) = b ∧ s (250 + e) < 16
def losC (net : qM) (a k : Nat) (b : Int32) (σ : qM) : Prop := (∀ c, σ 2 c = if hitC net a k b c then 16 else net 2 c) ∧ (∀ c, σ 4 c = if hitC net a k b c then net 4 c + net 0 5 else net 4 c) ∧ (∀ c, σ 5 c = if hitC net a k b c then net 0 7 + net 0 6 else net 5 c) ∧ ∀ j, j ≠ 2 → j ≠ 4 → j ≠ 5 → σ j = net j
theorem hitC_s {net : qM} {a k : Nat} {b : Int32} {c : Nat} (h : c ≠ 10 * a + k) : hitC net a (k + 1) b c ↔ hitC net a k b c := ⟨fun z => ⟨z.1, by have := z.2.1; omega, z.2.2⟩, fun z => ⟨z.1, by have := z.2.1; omega, z.2.2⟩⟩
theorem hitR_s {s : Nat → Int32} {a k : Nat} {b : Int32} {c : Nat} (h : c ≠ 10 * a + k) : hitR s a (k + 1) b c ↔ hitR s a k b c := ⟨fun z => ⟨z.1, by have := z.2.1; omega, z.2.2⟩, fun z => ⟨z.1, by have := z.2.1; omega, z.2.2⟩⟩
theorem if_iff {p q : Prop} [Decidable p] [Decidable q] {x y : Int32} (h : p ↔ q) : (if p then x else y) = if q then x else y := by
  by_cases c : p
  · rw [if_pos c, if_pos (h.mp c)]
  · rw [if_neg c, if_neg (fun z => c (h.mpr z))]
theorem loseC {net : qM} {n a : Nat} {b : Int32} (hn : n ≤ 10) (h3 : net 0 3 = nI n) (ha : a < 10) : ∃ net', f_X3_loseVia net (nI a) b = some (0, net') ∧ losC net a n b net' := by
  obtain ⟨σ', xs', ⟨e1, e2⟩, e3⟩ := q_run (D := D_X3_loseVia) (i := 0) (I := fun k σ xs => xs = [nI a, b, nI k] ∧ losC net a k b σ) n (fun k σ xs hk hI => by
    obtain ⟨rfl, l2, l4, l5, lo⟩ := hI
    have hno : ¬ hitC net a k b (10 * a + k) := fun z => by have := z.2.1; omega
    have q2 : σ 2 (10 * a + k) = net 2 (10 * a + k) := by rw [l2, if_neg hno]
    have q3 : σ 3 (10 * a + k) = net 3 (10 * a + k) := by rw [lo 3 (by decide) (by decide) (by decide)]
    have q0 : σ 0 = net 0 := lo 0 (by decide) (by decide) (by decide)
    have st : ∀ go : qB, D_X3_loseVia go 0 σ [nI a, b, nI k] = (if net 2 (10 * a + k) = -1 ∨ 16 ≤ net 2 (10 * a + k) then go 0 σ [nI a, b, nI (k + 1)] else if net 3 (10 * a + k) = b then go 0 (q_wr (takF σ (10 * a + k) 16 b) 4 (10 * a + k) (takF σ (10 * a + k) 16 b 4 (10 * a + k) + takF σ (10 * a + k) 16 b 0 5)) [nI a, b, nI (k + 1)] else go 0 σ [nI a, b, nI (k + 1)]) := fun go => by
      show b_X3_loseVia_2 go σ (nI a) b (nI k) = _
      unfold b_X3_loseVia_2
      simp only [p_nm]
      rw [q0, h3, if_neg (nI_ge hk (by omega)), p_cell, reachesS (by omega), p_cl, p_put_sub, show q_sub 1 σ 1 (10 * a + k) = net 2 (10 * a + k) from q2, nI_1]
      by_cases w : net 2 (10 * a + k) = -1 ∨ 16 ≤ net 2 (10 * a + k)
      · rw [if_pos w, if_pos rfl, if_pos w]
      · rw [if_neg w, if_neg ne10, if_neg w, q_rd_n (by omega) (by decide), q3]
        by_cases w3 : net 3 (10 * a + k) = b
        · rw [if_pos w3, if_pos w3, takeS (by omega), p_cl, q_rd_n (by omega) (by decide), q_wt_n (by omega) (by decide)]
        · rw [if_neg w3, if_neg w3]
    by_cases w : hitC net a (k + 1) b (10 * a + k)
    · obtain ⟨-, -, w1, w2, w3⟩ := w
      have hw : hitC net a (k + 1) b (10 * a + k) := ⟨by omega, by omega, w1, w2, w3⟩
      refine ⟨_, _, ⟨rfl, fun c => ?_, fun c => ?_, fun c => ?_, fun j j2 j4 j5 => ?_⟩, q_lim_eq (fun go => by rw [st go, if_neg (fun z => z.elim w1 w2), if_pos w3])⟩
      · rw [p_wrk (by decide), (takF_at σ _ _ _ c).1]
        by_cases e : c = 10 * a + k
        · subst e; rw [if_pos rfl, if_pos hw]
        · rw [if_neg e, l2, if_iff (hitC_s e)]
      · have t4 : ∀ c, takF σ (10 * a + k) 16 b 4 c = σ 4 c := fun c => by rw [takF_out (by decide) (by decide) (by decide)]
        have t0 : takF σ (10 * a + k) 16 b 0 5 = net 0 5 := by rw [takF_out (by decide) (by decide) (by decide), q0]
        rw [p_wr, t4, t4, t0]
        by_cases e : c = 10 * a + k
        · subst e; rw [if_pos ⟨rfl, rfl⟩, if_pos hw, l4, if_neg hno]
        · rw [if_neg (fun z => e z.2), l4, if_iff (hitC_s e)]
      · rw [p_wrk (by decide), (takF_at σ _ _ _ c).2.2, q2, q0]
        by_cases e : c = 10 * a + k
        · subst e; rw [if_pos ⟨rfl, rfl, i_nle.mp w2⟩, if_pos hw]
        · rw [if_neg (fun z => e z.1), l5, if_iff (hitC_s e)]
      · by_cases e3 : j = 3
        · subst e3
          funext c
          rw [p_wrk (by decide), (takF_at σ _ _ _ c).2.1]
          by_cases e : c = 10 * a + k
          · subst e; rw [if_pos rfl, w3]
          · rw [if_neg e, lo 3 (by decide) (by decide) (by decide)]
        · rw [p_wrk j4, takF_out j2 e3 j5]; exact lo j j2 j4 j5
    · have hc : ∀ c, hitC net a (k + 1) b c ↔ hitC net a k b c := fun c => by
        by_cases e : c = 10 * a + k
        · subst e; exact ⟨fun z => absurd z w, fun z => absurd z hno⟩
        · exact hitC_s e
      refine ⟨σ, _, ⟨rfl, fun c => by rw [l2, if_iff (hc c)], fun c => by rw [l4, if_iff (hc c)], fun c => by rw [l5, if_iff (hc c)], lo⟩, q_lim_eq (fun go => ?_)⟩
      rw [st go]
      by_cases w1 : net 2 (10 * a + k) = -1 ∨ 16 ≤ net 2 (10 * a + k)
      · rw [if_pos w1]
      · rw [if_neg w1, if_neg (fun w3 => w ⟨by omega, by omega, fun z => w1 (Or.inl z), fun z => w1 (Or.inr z), w3⟩)]) n 0 net [nI a, b, nI 0] (by omega) ⟨rfl, fun c => by rw [if_neg (fun z => by have := z.1; have := z.2.1; omega)], fun c => by rw [if_neg (fun z => by have := z.1; have := z.2.1; omega)], fun c => by rw [if_neg (fun z => by have := z.1; have := z.2.1; omega)], fun _ _ _ _ => rfl⟩
  refine ⟨σ', ?_, e2⟩
  show q_lim D_X3_loseVia 0 net [nI a, b, nI 0] = _
  rw [e3, e1]
  refine q_lim_ret (fun go => ?_)
  show b_X3_loseVia_2 go σ' (nI a) b (nI n) = _
  unfold b_X3_loseVia_2
  simp only [p_nm]
  rw [e2.2.2.2 0 (by decide) (by decide) (by decide), h3, if_pos (nI_le (Nat.le_refl _) (by omega))]
def losR (s : Nat → Int32) (a k : Nat) (b : Int32) (t : Nat → Int32) : Prop := (∀ e, e < 100 → t (250 + e) = if hitR s a k b e then 16 else s (250 + e)) ∧ (∀ e, e < 100 → t (450 + e) = if hitR s a k b e then s (450 + e) + s 3 else s (450 + e)) ∧ (∀ e, e < 100 → t (550 + e) = if hitR s a k b e then s 5 + s 4 else s (550 + e)) ∧ ∀ i, (i < 250 ∨ (350 ≤ i ∧ i < 450) ∨ 650 ≤ i) → t i = s i
theorem loseR {τ : qM} {a k0 : Nat} {b : Int32} (ha : a < 10) (hk : k0 ≤ 10) (hK : τ 1 (130 + a) = nI k0) : ∃ τ', f_X8_lose τ (nI a) b = some (0, τ') ∧ losR (τ 1) a k0 b (τ' 1) ∧ ∀ i, i ≠ 1 → τ' i = τ i := by
  obtain ⟨s, hs⟩ : ∃ z, z = τ 1 := ⟨_, rfl⟩
  rw [← hs] at hK ⊢
  obtain ⟨σ', xs', ⟨e1, e2, e4⟩, e3⟩ := q_run (D := D_X8_lose) (i := 0) (I := fun k σ xs => xs = [nI a, b, nI (10 * a + k)] ∧ losR s a k b (σ 1) ∧ ∀ i, i ≠ 1 → σ i = τ i) k0 (fun k σ xs hk1 hI => by
    obtain ⟨rfl, ⟨l2, l4, l5, lo⟩, lf0⟩ := hI
    have hno : ¬ hitR s a k b (10 * a + k) := fun z => by have := z.2.1; omega
    have q2 : σ 1 (250 + (10 * a + k)) = s (250 + (10 * a + k)) := by rw [l2 _ (by omega), if_neg hno]
    have q3 : σ 1 (350 + (10 * a + k)) = s (350 + (10 * a + k)) := lo _ (by omega)
    have q4 : σ 1 (450 + (10 * a + k)) = s (450 + (10 * a + k)) := by rw [l4 _ (by omega), if_neg hno]
    have st : ∀ go : qB, D_X8_lose go 0 σ [nI a, b, nI (10 * a + k)] = (if s (350 + (10 * a + k)) = b ∧ s (250 + (10 * a + k)) < 16 then go 0 (q_wr (q_wr (q_wr σ 1 (250 + (10 * a + k)) 16) 1 (550 + (10 * a + k)) (s 5 + s 4)) 1 (450 + (10 * a + k)) (s (450 + (10 * a + k)) + s 3)) [nI a, b, nI (10 * a + (k + 1))] else go 0 σ [nI a, b, nI (10 * a + (k + 1))]) := fun go => by
      show b_X8_lose_5 go σ (nI a) b (nI (10 * a + k)) = _
      unfold b_X8_lose_5
      simp only [p_nm]
      rw [p_10m, a130, q_rd_n (by omega) (by decide), lo _ (by omega), hK, nI_add, if_neg (nI_ge (by omega) (by omega)), a350, q_rd_n (by omega) (by decide), q3, a250, q_rd_n (by omega) (by decide), q2, nI_1]
      by_cases w1 : s (350 + (10 * a + k)) = b
      · rw [if_pos w1]
        by_cases w2 : s (250 + (10 * a + k)) < 16
        · rw [if_pos w2, if_pos ⟨w1, w2⟩, q_wt_n (by omega) (by decide), a550, rd1_5, rd1_4, p_wrj (by omega), p_wrj (by omega), lo 5 (by omega), lo 4 (by omega), q_wt_n (by omega) (by decide), a450, q_rd_n (by omega) (by decide), rd1_3, p_wrj (by omega), p_wrj (by omega), p_wrj (by omega), p_wrj (by omega), q4, lo 3 (by omega), q_wt_n (by omega) (by decide)]
          rfl
        · rw [if_neg w2, if_neg (fun z => w2 z.2)]
          rfl
      · rw [if_neg w1, if_neg (fun z => w1 z.1)]
        rfl
    by_cases w : hitR s a (k + 1) b (10 * a + k)
    · obtain ⟨-, -, w1, w2⟩ := w
      have hw : hitR s a (k + 1) b (10 * a + k) := ⟨by omega, by omega, w1, w2⟩
      refine ⟨_, _, ⟨rfl, ⟨fun c hc => ?_, fun c hc => ?_, fun c hc => ?_, fun i hi => ?_⟩, fun i hi => ?_⟩, q_lim_eq (fun go => by rw [st go, if_pos ⟨w1, w2⟩])⟩
      · rw [p_wrj (by omega), p_wrj (by omega), p_wr]
        by_cases e : c = 10 * a + k
        · subst e; rw [if_pos ⟨rfl, rfl⟩, if_pos hw]
        · rw [if_neg (fun z => e (by omega)), l2 c hc, if_iff (hitR_s e)]
      · rw [p_wr]
        by_cases e : c = 10 * a + k
        · subst e; rw [if_pos ⟨rfl, rfl⟩, if_pos hw]
        · rw [if_neg (fun z => e (by omega)), p_wrj (by omega), p_wrj (by omega), l4 c hc, if_iff (hitR_s e)]
      · rw [p_wrj (by omega), p_wr]
        by_cases e : c = 10 * a + k
        · subst e; rw [if_pos ⟨rfl, rfl⟩, if_pos hw]
        · rw [if_neg (fun z => e (by omega)), p_wrj (by omega), l5 c hc, if_iff (hitR_s e)]
      · rw [p_wrj (by omega), p_wrj (by omega), p_wrj (by omega)]; exact lo i hi
      · rw [p_wrk hi, p_wrk hi, p_wrk hi]; exact lf0 i hi
    · have hc : ∀ c, hitR s a (k + 1) b c ↔ hitR s a k b c := fun c => by
        by_cases e : c = 10 * a + k
        · subst e; exact ⟨fun z => absurd z w, fun z => absurd z hno⟩
        · exact hitR_s e
      refine ⟨σ, _, ⟨rfl, ⟨fun c h => by rw [l2 c h, if_iff (hc c)], fun c h => by rw [l4 c h, if_iff (hc c)], fun c h => by rw [l5 c h, if_iff (hc c)], lo⟩, lf0⟩, q_lim_eq (fun go => ?_)⟩
      rw [st go, if_neg (fun z => w ⟨by omega, by omega, z.1, z.2⟩)]) k0 0 τ [nI a, b, nI (10 * a + 0)] (by omega) ⟨rfl, ⟨fun c _ => by rw [if_neg (fun z => by have := z.1; have := z.2.1; omega), hs], fun c _ => by rw [if_neg (fun z => by have := z.1; have := z.2.1; omega), hs], fun c _ => by rw [if_neg (fun z => by have := z.1; have := z.2.1; omega), hs], fun i _ => by rw [hs]⟩, fun _ _ => rfl⟩
  refine ⟨σ', ?_, e2, e4⟩
  unfold f_X8_lose e_X8_lose
  simp only [p_nm]
  rw [p_10m]
  show q_lim D_X8_lose 0 τ [nI a, b, nI (10 * a + 0)] = _
  rw [e3, e1]
  refine q_lim_ret (fun go => ?_)
  show b_X8_lose_5 go σ' (nI a) b (nI (10 * a + k0)) = _
  unfold b_X8_lose_5
  simp only [p_nm]
  rw [p_10m, a130, q_rd_n (by omega) (by decide), e2.2.2.2 _ (by omega), hK, nI_add, if_pos (nI_le (Nat.le_refl _) (by omega))]
theorem RNp_lose {n m : Nat} {K : Nat → Nat} {net net' : qM} {s t : Nat → Int32} (h : RNp n m K net s) {a : Nat} {b : Int32} (ha : a < n) (hC : losC net a n b net') (hR : losR s a (K a) b t) : RNp n m K net' t := by
  obtain ⟨hL, h8, hT⟩ := h
  have hn := hL.1
  obtain ⟨l2, l4, l5, lo⟩ := hC
  obtain ⟨t2, t4, t5, to⟩ := hR
  have lk := fun r hr => hT.le hn (r := r) hr
  have z7 : net 0 7 = s 5 := hL.2.2.2.2.2.2.2.2.2.2.2.1
  have z6 : net 0 6 = s 4 := hL.2.2.2.2.2.2.2.2.2.2.1
  have z5 : net 0 5 = s 3 := hL.2.2.2.2.2.2.2.2.1
  have hL' : RLk n m net' t := RLk_cong hL (fun i hi _ _ => to i (by omega)) (by rw [lo 0 (by decide) (by decide) (by decide), to 5 (by omega)]; exact z7) (fun j hj => lo j (by omega) (by omega) (by omega)) (fun j _ _ => by rw [lo 0 (by decide) (by decide) (by decide)])
  refine ⟨hL', by rw [lo 0 (by decide) (by decide) (by decide), to 6 (by omega)]; exact h8, ?_⟩
  obtain ⟨h1, h2, h3, h4, h5, h6⟩ := hT
  refine ⟨fun r hr => by rw [to _ (by omega), lo 7 (by decide) (by decide) (by decide)]; exact h1 r hr, h2, fun r hr => by rw [to _ (by omega)]; exact h3 r hr, fun r i j hr hi hj e => by
    have := lk r hr
    rw [to _ (by omega), to _ (by omega)] at e
    exact h4 r i j hr hi hj e, fun r k hr hk => ?_, fun r d hr hd hu => ?_⟩
  · obtain ⟨d, v, x, w1, w2, w3, w4, w5, w6, w7, w8, w9, w10, w11⟩ := h5 r k hr hk
    have w7 : net 2 (10 * r + d) = nI x := w7
    have w9 : net 3 (10 * r + d) = nI v := w9
    have w10 : net 4 (10 * r + d) = s (450 + (10 * r + k)) := w10
    have w11 : net 5 (10 * r + d) = s (550 + (10 * r + k)) := w11
    have lkr := lk r hr
    have key : hitC net a n b (10 * r + d) ↔ hitR s a (K a) b (10 * r + k) := by
      constructor
      · rintro ⟨y1, y2, y3, y4, y5⟩
        have e : r = a := by omega
        subst e
        refine ⟨by omega, by omega, by rw [w8, ← w9]; exact y5, ?_⟩
        rw [w6, ← w7]; exact i_nle.mp y4
      · rintro ⟨y1, y2, y3, y4⟩
        have lka := lk a (by omega)
        have e : r = a := by omega
        subst e
        refine ⟨by omega, by omega, by rw [w7]; exact p_ne1 (by omega), fun z => ?_, by rw [w9, ← w8]; exact y3⟩
        rw [w7, ← w6] at z
        exact absurd y4 (i_nlt.mpr z)
    have c2 := l2 (10 * r + d)
    have c4 := l4 (10 * r + d)
    have c5 := l5 (10 * r + d)
    have r2 := t2 (10 * r + k) (by omega)
    have r4 := t4 (10 * r + k) (by omega)
    have r5 := t5 (10 * r + k) (by omega)
    rw [if_iff key] at c2 c4 c5
    have f1 : net' 6 (10 * r + k) = nI d := by rw [lo 6 (by decide) (by decide) (by decide)]; exact w5
    have f3 : net' 3 (10 * r + d) = nI v := by rw [lo 3 (by decide) (by decide) (by decide)]; exact w9
    by_cases z : hitR s a (K a) b (10 * r + k)
    · rw [if_pos z] at c2 c4 c5 r2 r4 r5
      exact ⟨d, v, 16, w1, w2, Nat.le_refl _, by rw [to _ (by omega)]; exact w4, f1, r2, c2, by rw [to _ (by omega)]; exact w8, f3, by rw [r4, ← w10, ← z5]; exact c4, by rw [r5, ← z7, ← z6]; exact c5⟩
    · rw [if_neg z] at c2 c4 c5 r2 r4 r5
      exact ⟨d, v, x, w1, w2, w3, by rw [to _ (by omega)]; exact w4, f1, by rw [r2]; exact w6, c2.trans w7, by rw [to _ (by omega)]; exact w8, f3, by rw [r4]; exact c4.trans w10, by rw [r5]; exact c5.trans w11⟩
  · have e : net 2 (10 * r + d) = -1 := h6 r d hr hd (fun k hk z => by
      have := lk r hr
      exact hu k hk (by rw [to _ (by omega)]; exact z))
    show net' 2 (10 * r + d) = -1
    rw [l2, if_neg (fun z => z.2.2.1 e)]; exact e
theorem N_turn (x1 x2 : Int32) : simN (fun σ => f_X7_turn σ x1 x2) (fun τ => f_X8_turn τ x1 x2) := fun n m K σ τ h => by
  have hL := h.1
  have hn := hL.1
  have hm := hL.2.1
  have r1 : τ 1 1 = nI m := hL.2.2.2.2.1
  have v5 : σ 16 5 = nI m := hL.2.2.2.2.2.1
  by_cases i1 : isN m x1
  · obtain ⟨k, hk, rfl⟩ := i1
    by_cases i2 : (0 : Int32) ≤ x2 ∧ x2 ≤ 1
    · obtain ⟨a, b, c, w1, w2, w3, w4, w5, w6, w7, w8, w9, w10, w11, w12⟩ := hL.2.2.2.2.2.2.2.2.2.2.2.2.1 k hk
      have w11 : σ 20 k = τ 1 (100 + k) := w11
      have V0 : f_X7_turn σ (nI k) x2 = (if τ 1 (100 + k) = x2 then some (-5, σ) else q_cl (f_X3_switchLink (q_sub 1 σ) (nI k)) (q_put 1 21 σ) fun _ s10 => some (1, s10)) := by
        unfold f_X7_turn
        rw [noLink_y v5 (by omega) hk, p_cl, if_pos rfl, if_neg (i_nlt.mpr i2.1), if_pos i2.2, q_rd_n (by omega) (by decide), w11]
      have R0 : f_X8_turn τ (nI k) x2 = (if τ 1 (100 + k) = x2 then some (-5, τ) else if x2 = 1 then some (1, q_wr τ 1 (100 + k) 1) else q_cl (f_X8_cut τ (nI k)) (fun τ => τ) fun _ s13 => some (1, s13)) := by
        unfold f_X8_turn
        simp only [p_nm]
        rw [isLink_y r1 (by omega) hk, p_cl, if_neg ne10, inS, p_cl, if_pos i2, if_neg ne10, a100, q_rd_n (by omega) (by decide), q_wt_n (by omega) (by decide)]
      by_cases e : τ 1 (100 + k) = x2
      · rw [if_pos e] at V0 R0; exact simN_same h V0 R0
      · rw [if_neg e] at V0 R0
        obtain ⟨v, hv, hx2⟩ := (in0 (k := 1) (by decide) rfl).mp i2
        have g19 : q_sub 1 σ 19 k = τ 1 (100 + k) := w11
        have g16 : q_sub 1 σ 16 k = nI a := w6
        have g17 : q_sub 1 σ 17 k = nI b := w8
        have n10 : ∀ (z : Int32) (i j : Nat), i ≠ 19 → q_wr (q_sub 1 σ) 19 k z i j = q_sub 1 σ i j := fun z i j hi => by rw [p_wrk hi]
        have hv : v = 0 ∨ v = 1 := by omega
        rcases hv with rfl | rfl
        · have hx2 : x2 = 0 := hx2
          subst hx2
          have up1 : τ 1 (100 + k) = 1 := w12.elim (fun z => absurd z e) id
          rw [if_neg (show ¬ (0 : Int32) = 1 by decide)] at R0
          have hA := RNp_up h hk (v := 0) (Or.inl rfl)
          obtain ⟨net1, hnet1⟩ : ∃ z, z = q_wr (q_sub 1 σ) 19 k 0 := ⟨_, rfl⟩
          obtain ⟨τ1, hτ1⟩ : ∃ z, z = q_wr τ 1 (100 + k) 0 := ⟨_, rfl⟩
          rw [← hnet1, ← up1_wr, ← hτ1] at hA
          obtain ⟨net2, c1, c2⟩ := loseC (net := net1) (n := n) (a := a) (b := nI b) hn hA.1.2.2.2.1 (by omega)
          obtain ⟨τ2, d1, d2, d3⟩ := loseR (τ := τ1) (a := a) (k0 := K a) (b := nI b) (by omega) (Nat.le_trans (hA.2.2.le hn (by omega)) hn) (hA.2.2.1 a (by omega)).1
          have hB := RNp_lose hA (by omega) c2 d2
          obtain ⟨net3, c3, c4⟩ := loseC (net := net2) (n := n) (a := b) (b := nI a) hn hB.1.2.2.2.1 (by omega)
          obtain ⟨τ3, d4, d5, d6⟩ := loseR (τ := τ2) (a := b) (k0 := K b) (b := nI a) (by omega) (Nat.le_trans (hB.2.2.le hn (by omega)) hn) (hB.2.2.1 b (by omega)).1
          have hC := RNp_lose hB w2 c4 d5
          have k16 : ∀ (i : Nat), i = 16 ∨ i = 17 → net1 i k = q_sub 1 σ i k ∧ net2 i k = q_sub 1 σ i k := fun i hi => by
            have q1 : net1 i = q_sub 1 σ i := by rw [hnet1, p_wrk (by omega)]
            exact ⟨by rw [q1], by rw [c2.2.2.2 i (by omega) (by omega) (by omega), q1]⟩
          have t10 : ∀ (i : Nat), i < 70 → τ1 1 i = τ 1 i ∧ τ2 1 i = τ 1 i := fun i hi => by
            have q1 : τ1 1 i = τ 1 i := by rw [hτ1, p_wrj (by omega)]
            exact ⟨q1, by rw [d2.2.2.2 i (by omega), q1]⟩
          refine ⟨1, q_put 1 21 σ net3, τ3, n, m, K, ?_, ?_, RNp_put hC, frV_put, frR_1 (fun i hi => by rw [d6 i hi, d3 i hi, hτ1, p_wrk hi])⟩
          · show f_X7_turn σ (nI k) 0 = _
            rw [V0]
            unfold f_X3_switchLink
            simp only [p_nm]
            rw [q_rd_n (by omega) (by decide), g19, up1, show (1 : Int32) - 1 = 0 by decide, q_wt_n (by omega) (by decide), q_rd_n (by omega) (by decide), p_wrs, if_pos rfl, ← hnet1, q_rd_n (by omega) (by decide), q_rd_n (by omega) (by decide), (k16 16 (Or.inl rfl)).1, (k16 17 (Or.inr rfl)).1, g16, g17, c1, p_cl, q_rd_n (by omega) (by decide), q_rd_n (by omega) (by decide), (k16 16 (Or.inl rfl)).2, (k16 17 (Or.inr rfl)).2, g16, g17, c3, p_cl, p_cl]
          · show f_X8_turn τ (nI k) 0 = _
            rw [R0]
            unfold f_X8_cut
            simp only [p_nm]
            rw [a100, q_wt_n (by omega) (by decide), ← hτ1, a10, a40, q_rd_n (by omega) (by decide), q_rd_n (by omega) (by decide), (t10 _ (by omega)).1, (t10 _ (by omega)).1, w5, w7, d1, p_cl, q_rd_n (by omega) (by decide), q_rd_n (by omega) (by decide), (t10 _ (by omega)).2, (t10 _ (by omega)).2, w5, w7, d4, p_cl, p_cl]
        · have hx2 : x2 = 1 := hx2
          subst hx2
          have up0 : τ 1 (100 + k) = 0 := w12.elim id (fun z => absurd z e)
          rw [if_pos rfl] at R0
          have hA := RNp_up h hk (v := 1) (Or.inr rfl)
          refine ⟨1, q_put 1 21 σ (q_wr (q_sub 1 σ) 19 k 1), q_wr τ 1 (100 + k) 1, n, m, K, ?_, R0, by rw [up1_wr]; exact RNp_put hA, frV_put, frR_wr⟩
          show f_X7_turn σ (nI k) 1 = _
          rw [V0]
          unfold f_X3_switchLink
          simp only [p_nm]
          rw [q_rd_n (by omega) (by decide), g19, up0, show (1 : Int32) - 0 = 1 by decide, q_wt_n (by omega) (by decide), q_rd_n (by omega) (by decide), p_wrs, if_neg ne10, p_cl]
    · refine simN_same h (r := -1) ?_ ?_
      · show f_X7_turn σ (nI k) x2 = _
        unfold f_X7_turn
        rw [noLink_y v5 (by omega) hk, p_cl, if_pos rfl]
        by_cases w : x2 < 0
        · rw [if_pos w]
        · rw [if_neg w, if_neg (fun z => i2 ⟨i_nlt.mp w, z⟩)]
      · show f_X8_turn τ (nI k) x2 = _
        unfold f_X8_turn
        rw [isLink_y r1 (by omega) hk, p_cl, if_neg ne10, inS, p_cl, if_neg i2, if_pos rfl]
  · refine simN_same h (r := -1) ?_ ?_
    · show f_X7_turn σ x1 x2 = _
      unfold f_X7_turn
      rw [noLink_n v5 (by omega) i1, p_cl, if_neg ne10]
    · show f_X8_turn τ x1 x2 = _
      unfold f_X8_turn
      rw [isLink_n r1 (by omega) i1, p_cl, if_pos rfl]
