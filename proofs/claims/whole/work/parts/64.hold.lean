/-! holders: the relation, an entry is held -/
theorem q_gd_n {α : Type} {j N : Nat} {K : Option α} (h : j < N) (hN : N < 2 ^ 31) : q_gd (q_inB (nI j) N) K = K := by rw [q_inB_n h hN, p_gd]
theorem nI_k (a k : Nat) {w : Int32} (h : w = nI k) : nI a + w = nI (a + k) := by rw [h, nI_add]
theorem nI_2 (a : Nat) : nI a + 2 = nI (a + 2) := nI_k a 2 rfl
theorem nI_3 (a : Nat) : nI a + 3 = nI (a + 3) := nI_k a 3 rfl
theorem nI_4 (a : Nat) : nI a + 4 = nI (a + 4) := nI_k a 4 rfl
theorem m60 (a : Nat) : (60 : Int32) * nI a = nI (60 * a) := by rw [show (60 : Int32) = nI 60 from rfl, pk_mul]
theorem m2 (a : Nat) : (2 : Int32) * nI a = nI (2 * a) := by rw [show (2 : Int32) = nI 2 from rfl, pk_mul]
theorem noHolder_y {σ : qM} {j : Nat} (hj : j < 6) : f_X7_noHolder σ (nI j) = some (0, σ) := by
  unfold f_X7_noHolder
  rw [if_neg (nI_pos (by omega)), if_pos (show nI j < 6 from nI_lt (b := 6) hj (by decide)), p_bo0]
theorem noHolder_n {σ : qM} {x : Int32} (hx : ¬ isN 6 x) : f_X7_noHolder σ x = some (1, σ) := by
  unfold f_X7_noHolder
  by_cases h1 : x < 0
  · rw [if_pos h1, p_bo1]
  · rw [if_neg h1, if_neg (show ¬ x < 6 from fun z => hx ((isN_y (n := 6) (by decide)).mpr ⟨h1, z⟩)), p_bo1]
theorem isHolder_y {τ : qM} {j : Nat} (hj : j < 6) : f_X8_isHolder τ (nI j) = some (1, τ) := by
  unfold f_X8_isHolder
  rw [inS, p_cl, if_pos ((in0 (k := 5) (b := 5) (by decide) rfl).mpr ⟨j, hj, rfl⟩), p_bo1]
theorem isHolder_n {τ : qM} {x : Int32} (hx : ¬ isN 6 x) : f_X8_isHolder τ x = some (0, τ) := by
  unfold f_X8_isHolder
  rw [inS, p_cl, if_neg (fun z => hx ((in0 (k := 5) (b := 5) (by decide) rfl).mp z)), p_bo0]
/-- an entry that is held; a row -/
def RHe (σ τ : qM) (j : Nat) : Prop := ∃ x : Nat, x ≤ 16 ∧ σ (94 + 2 * j) 2 = nI x ∧ τ 19 (60 * j) = nI x ∧ ((σ (94 + 2 * j) 1 = 0 ∧ τ 19 (60 * j + 1) = 0) ∨ (σ (94 + 2 * j) 1 = 1 ∧ τ 19 (60 * j + 1) = 1)) ∧ σ (94 + 2 * j) 4 = τ 19 (60 * j + 2) ∧ σ (94 + 2 * j) 3 = τ 19 (60 * j + 3) ∧ σ (94 + 2 * j) 5 = τ 19 (60 * j + 4)
def RHr (σ τ : qM) (j : Nat) : Prop := ∃ L : Nat, L ≤ 60 ∧ σ (94 + 2 * j) 7 = nI L ∧ τ 18 j = nI L ∧ ∀ i, i < 60 → σ (95 + 2 * j) i = τ 19 (60 * j + i)
def RH1 (σ τ : qM) (j : Nat) : Prop := (σ (94 + 2 * j) 0 = 0 ∧ τ 18 j = -2) ∨ (σ (94 + 2 * j) 0 = 1 ∧ τ 18 j = -1 ∧ RHe σ τ j) ∨ (σ (94 + 2 * j) 0 = 2 ∧ RHr σ τ j)
def RH (σ τ : qM) : Prop := ∀ j, j < 6 → RH1 σ τ j
theorem RH1_cong {σ τ σ1 τ1 : qM} {j : Nat} (h : RH1 σ τ j) (h1 : σ1 (94 + 2 * j) = σ (94 + 2 * j)) (h2 : σ1 (95 + 2 * j) = σ (95 + 2 * j)) (h3 : τ1 18 j = τ 18 j) (h4 : ∀ i, i < 60 → τ1 19 (60 * j + i) = τ 19 (60 * j + i)) : RH1 σ1 τ1 j := by
  rcases h with ⟨a, b⟩ | ⟨a, b, x, c1, c2, c3, c4, c5, c6, c7⟩ | ⟨a, L, c1, c2, c3, c4⟩
  · exact Or.inl ⟨by rw [h1]; exact a, by rw [h3]; exact b⟩
  · have h0 : τ1 19 (60 * j) = τ 19 (60 * j) := h4 0 (by decide)
    exact Or.inr (Or.inl ⟨by rw [h1]; exact a, by rw [h3]; exact b, x, c1, by rw [h1]; exact c2, by rw [h0]; exact c3, by rw [h1, h4 1 (by decide)]; exact c4, by rw [h1, h4 2 (by decide)]; exact c5, by rw [h1, h4 3 (by decide)]; exact c6, by rw [h1, h4 4 (by decide)]; exact c7⟩)
  · exact Or.inr (Or.inr ⟨by rw [h1]; exact a, L, c1, by rw [h1]; exact c2, by rw [h3]; exact c3, fun i hi => by rw [h2, h4 i hi]; exact c4 i hi⟩)
theorem RH_fr {σ τ σ1 τ1 : qM} (h : RH σ τ) (hV : ∀ k, 94 ≤ k → σ1 k = σ k) (h18 : τ1 18 = τ 18) (h19 : τ1 19 = τ 19) : RH σ1 τ1 := fun j hj => RH1_cong (h j hj) (hV _ (by omega)) (hV _ (by omega)) (by rw [h18]) (fun i _ => by rw [h19])
theorem RH_set {σ τ σ1 τ1 : qM} {j : Nat} (h : RH σ τ) (hV : ∀ k, k ≠ 94 + 2 * j → k ≠ 95 + 2 * j → 94 ≤ k → σ1 k = σ k) (h18 : ∀ i, i ≠ j → τ1 18 i = τ 18 i) (h19 : ∀ i, (i < 60 * j ∨ 60 * j + 60 ≤ i) → τ1 19 i = τ 19 i) (h1 : RH1 σ1 τ1 j) : RH σ1 τ1 := fun i hi => by
  by_cases e : i = j
  · rw [e]; exact h1
  · exact RH1_cong (h i hi) (hV _ (by omega) (by omega) (by omega)) (hV _ (by omega) (by omega) (by omega)) (h18 i e) (fun q hq => h19 _ (by omega))
/-- what a method of the holders leaves as it was -/
def frK (σ τ σ1 τ1 : qM) : Prop := (∀ k, k < 94 → σ1 k = σ k) ∧ ∀ i, i < 18 → τ1 i = τ i
theorem frK.rf (σ τ : qM) : frK σ τ σ τ := ⟨fun _ _ => rfl, fun _ _ => rfl⟩
def simK (o1 o2 : Option (Int32 × qM)) (σ τ : qM) : Prop := ∃ (r : Int32) (σ1 τ1 : qM), o1 = some (r, σ1) ∧ o2 = some (r, τ1) ∧ RH σ1 τ1 ∧ frK σ τ σ1 τ1
theorem simK_same {σ τ : qM} (h : RH σ τ) {o1 o2 : Option (Int32 × qM)} {r : Int32} (h1 : o1 = some (r, σ)) (h2 : o2 = some (r, τ)) : simK o1 o2 σ τ := ⟨r, σ, τ, h1, h2, h, frK.rf σ τ⟩
theorem put2_sub {n1 o1 n2 o2 : Nat} {σ W' : qM} (hn : 0 < n1) (hd : o2 + n2 ≤ o1) (h : ∀ k, k ≠ 0 → W' k = q_sub2 n1 o1 o2 σ k) (k : Nat) (hk : k ≠ o1) : q_put2 n1 o1 n2 o2 σ W' k = σ k := by
  rw [p_put2]
  by_cases c1 : o1 ≤ k ∧ k < o1 + n1
  · rw [if_pos c1, h _ (by omega), p_sub2, if_pos (by omega), show o1 + (k - o1) = k by omega]
  · rw [if_neg c1]
    by_cases c2 : o2 ≤ k ∧ k < o2 + n2
    · rw [if_pos c2, h _ (by omega), p_sub2, if_neg (by omega), show o2 + (n1 + (k - o2) - n1) = k by omega]
    · rw [if_neg c2]
theorem keep24 {W : qM} {c : Nat} {o : Int32} (hc : c < 100) (ho : o = 0 ∨ o = 1) : ∃ W', b_X1_keepEntry_24 W (nI c) o = some (0, W') ∧ W' 0 0 = W 0 0 ∧ W' 0 1 = o ∧ W' 0 2 = W 3 c ∧ W' 0 3 = W 4 c ∧ W' 0 4 = W 5 c ∧ W' 0 5 = W 6 c ∧ ∀ k, k ≠ 0 → W' k = W k := by
  unfold b_X1_keepEntry_24
  simp only [p_nmx]
  rw [p_bo ho, q_rd_n hc (by decide), q_rd_n hc (by decide), q_rd_n hc (by decide), q_rd_n hc (by decide)]
  refine ⟨_, rfl, ?_, ?_, ?_, ?_, ?_, ?_, fun k hk => ?_⟩
  · rw [p_wrj (by decide), p_wrj (by decide), p_wrj (by decide), p_wrj (by decide), p_wrj (by decide)]
  · rw [p_wrj (by decide), p_wrj (by decide), p_wrj (by decide), p_wrj (by decide), p_wrs]
  · rw [p_wrj (by decide), p_wrj (by decide), p_wrj (by decide), p_wrs, p_wrk (by decide)]
  · rw [p_wrj (by decide), p_wrj (by decide), p_wrs, p_wrk (by decide), p_wrk (by decide)]
  · rw [p_wrj (by decide), p_wrs, p_wrk (by decide), p_wrk (by decide), p_wrk (by decide)]
  · rw [p_wrs, p_wrk (by decide), p_wrk (by decide), p_wrk (by decide), p_wrk (by decide)]
  · rw [p_wrk hk, p_wrk hk, p_wrk hk, p_wrk hk, p_wrk hk]
def ownI (a b : Nat) : Int32 := if a = b then 1 else 0
theorem ownI_or (a b : Nat) : ownI a b = 0 ∨ ownI a b = 1 := by
  unfold ownI
  by_cases e : a = b
  · rw [if_pos e]; exact Or.inr rfl
  · rw [if_neg e]; exact Or.inl rfl
theorem ownI_if {α : Type} {a b : Nat} (ha : a < 2 ^ 31) (hb : b < 2 ^ 31) (F : Int32 → α) : (if nI a = nI b then F 1 else F 0) = F (ownI a b) := by
  unfold ownI
  by_cases e : a = b
  · rw [if_pos e, if_pos (congrArg nI e)]
  · rw [if_neg e, if_neg (fun z => e (p_inj ha hb z))]
theorem keepS {W : qM} {a b : Nat} (ha : a < 10) (hb : b < 10) : ∃ W', f_X1_keepEntry W (nI a) (nI b) = some (0, W') ∧ W' 0 0 = 1 ∧ W' 0 1 = ownI a b ∧ W' 0 2 = W 3 (10 * a + b) ∧ W' 0 3 = W 4 (10 * a + b) ∧ W' 0 4 = W 5 (10 * a + b) ∧ W' 0 5 = W 6 (10 * a + b) ∧ ∀ k, k ≠ 0 → W' k = W k := by
  obtain ⟨W', k1, k2, k3, k4, k5, k6, k7, k8⟩ := keep24 (W := q_wr W 0 0 1) (c := 10 * a + b) (o := ownI a b) (by omega) (ownI_or a b)
  refine ⟨W', ?_, k2.trans (p_wrs _ _ _ _), k3, ?_, ?_, ?_, ?_, fun k hk => ?_⟩
  · unfold f_X1_keepEntry
    simp only [p_nmx]
    rw [p_cell, ownI_if (by omega) (by omega) (fun o => b_X1_keepEntry_24 (q_wr W 0 0 1) (nI (10 * a + b)) o)]
    exact k1
  · rw [k4, p_wrk (by decide)]
  · rw [k5, p_wrk (by decide)]
  · rw [k6, p_wrk (by decide)]
  · rw [k7, p_wrk (by decide)]
  · rw [k8 k hk, p_wrk hk]
theorem hold90 {τ : qM} {e B : Nat} {o : Int32} (he : e < 100) (hB : B + 4 < 360) : b_X8_hold_90 τ (nI e) (nI B) (nI (B + 1)) o = some (1, q_wr (q_wr (q_wr (q_wr τ 19 (B + 1) o) 19 (B + 2) (τ 1 (450 + e))) 19 (B + 3) (τ 1 (350 + e))) 19 (B + 4) (τ 1 (550 + e))) := by
  have hk : ∀ (X : qM) (i : Nat) (v : Int32), q_wr X 19 i v 1 = X 1 := fun _ _ _ => p_wrk (by decide)
  unfold b_X8_hold_90
  simp only [p_nmx]
  rw [a450, a350, a550, nI_2, nI_3, nI_4, q_wt_n (by omega) (by decide), q_rd_n (by omega) (by decide), q_wt_n (by omega) (by decide), q_rd_n (by omega) (by decide), q_wt_n (by omega) (by decide), q_rd_n (by omega) (by decide), q_wt_n (by omega) (by decide)]
  simp only [hk]
theorem hold_sim {n m : Nat} {K : Nat → Nat} {σ τ : qM} (h : RNp n m K (q_sub 1 σ) (τ 1)) (hH : RH σ τ) (x1 x2 x3 : Int32) : simK (f_X7_hold σ x1 x2 x3) (f_X8_hold τ x1 x2 x3) σ τ := by
  have hL := h.1
  have hn := hL.1
  have v3 : σ 1 3 = nI n := hL.2.2.2.1
  have r0 : τ 1 0 = nI n := hL.2.2.1
  by_cases i0 : isN 6 x1
  · obtain ⟨j, hj, rfl⟩ := i0
    by_cases i1 : isN n x2
    · obtain ⟨a, ha, rfl⟩ := i1
      by_cases i2 : isN n x3
      · obtain ⟨b, hb, rfl⟩ := i2
        have hT := h.2.2
        have lk := Nat.le_trans (hT.le hn (r := a) (by omega)) hn
        have hp : q_put 2 7 σ (q_sub 2 σ) = σ := p_put_sub 2 7 σ
        have V0 : f_X7_hold σ (nI j) (nI a) (nI b) = (if (if σ 3 (10 * a + b) = -1 then (0 : Int32) else 1) = 0 then some (-2, σ) else (q_cl (f_X1_keepEntry (q_sub2 2 (94 + 2 * j) 2 σ) (nI a) (nI b)) (q_put2 2 (94 + 2 * j) 7 2 σ) fun _ s => some (1, s))) := by
          unfold f_X7_hold
          simp only [p_nmx]
          rw [noHolder_y hj, p_cl, if_pos rfl, noRouter_y v3 (by omega) ha, p_cl, if_pos rfl, noRouter_y v3 (by omega) hb, p_cl, if_pos rfl, p_cell, hasS (by omega), p_cl, hp, q_gd_n hj (by decide), nI_clamp (by omega)]
          rfl
        have R0 : f_X8_hold τ (nI j) (nI a) (nI b) = (if (0 : Int32) ≤ eo a (ef (τ 1) a (K a) (nI b)) then (q_wt τ 18 6 (nI j) (-1) fun s16 => q_rd s16 1 650 (250 + eo a (ef (τ 1) a (K a) (nI b))) fun x19 => q_wt s16 19 360 (60 * nI j) x19 fun s20 => if nI a = nI b then b_X8_hold_90 s20 (eo a (ef (τ 1) a (K a) (nI b))) (60 * nI j) (60 * nI j + 1) 1 else b_X8_hold_90 s20 (eo a (ef (τ 1) a (K a) (nI b))) (60 * nI j) (60 * nI j + 1) 0) else some (-2, τ)) := by
          unfold f_X8_hold
          simp only [p_nmx]
          rw [isHolder_y hj, p_cl, if_neg ne10, isRouter_y r0 (by omega) ha, p_cl, if_neg ne10, isRouter_y r0 (by omega) hb, p_cl, if_neg ne10, entryOfS (by omega) lk (hT.1 a (by omega)).1, p_cl]
        rcases hT.cell hn (r := a) (d := b) (by omega) (by omega) with ⟨c1, c2⟩ | ⟨k, v, x, k1, k2, k3, k4, k5, k6, k7, k8, k9, k10, k11, k12⟩
        · have c2 : σ 3 (10 * a + b) = -1 := c2
          rw [if_pos c2, if_pos rfl] at V0
          rw [ef_none c1, show eo a none = -1 from rfl, if_neg (show ¬ (0 : Int32) ≤ -1 by decide)] at R0
          exact simK_same hH V0 R0
        · have k8 : σ 3 (10 * a + b) = nI x := k8
          have k10 : σ 4 (10 * a + b) = nI v := k10
          have k11 : σ 5 (10 * a + b) = τ 1 (450 + (10 * a + k)) := k11
          have k12 : σ 6 (10 * a + b) = τ 1 (550 + (10 * a + k)) := k12
          obtain ⟨W', w1, w2, w3, w4, w5, w6, w7, w8⟩ := keepS (W := q_sub2 2 (94 + 2 * j) 2 σ) (a := a) (b := b) (by omega) (by omega)
          obtain ⟨σ1, hσ1⟩ : ∃ z, z = q_put2 2 (94 + 2 * j) 7 2 σ W' := ⟨_, rfl⟩
          have w4 : W' 0 2 = σ 3 (10 * a + b) := by rw [w4, p_sub2, if_neg (by decide)]
          have w5 : W' 0 3 = σ 4 (10 * a + b) := by rw [w5, p_sub2, if_neg (by decide)]
          have w6 : W' 0 4 = σ 5 (10 * a + b) := by rw [w6, p_sub2, if_neg (by decide)]
          have w7 : W' 0 5 = σ 6 (10 * a + b) := by rw [w7, p_sub2, if_neg (by decide)]
          have sj : σ1 (94 + 2 * j) = W' 0 := by rw [hσ1, p_put2, if_pos (by omega), Nat.sub_self]
          have so : ∀ k, k ≠ 94 + 2 * j → σ1 k = σ k := fun k hk => by rw [hσ1]; exact put2_sub (by decide) (by omega) w8 k hk
          rw [k8, if_neg (p_ne1 (by omega)), if_neg ne10, w1, p_cl, ← hσ1] at V0
          have hk18 : ∀ (X : qM) (i : Nat) (v : Int32), q_wr X 18 i v 1 = X 1 := fun _ _ _ => p_wrk (by decide)
          rw [ef_some hT (by omega) k1 k5, show eo a (some k) = nI (10 * a + k) from rfl, if_pos (nI_pos' (by omega)), q_wt_n hj (by decide), a250, q_rd_n (by omega) (by decide), hk18, k7, m60, q_wt_n (by omega) (by decide), nI_1, ownI_if (by omega) (by omega) (fun o => b_X8_hold_90 (q_wr (q_wr τ 18 j (-1)) 19 (60 * j) (nI x)) (nI (10 * a + k)) (nI (60 * j)) (nI (60 * j + 1)) o)] at R0
          have R1 := R0.trans (hold90 (τ := q_wr (q_wr τ 18 j (-1)) 19 (60 * j) (nI x)) (e := 10 * a + k) (B := 60 * j) (o := ownI a b) (by omega) (by omega))
          have t1 : q_wr (q_wr τ 18 j (-1)) 19 (60 * j) (nI x) 1 = τ 1 := by rw [p_wrk (by decide), p_wrk (by decide)]
          rw [t1] at R1
          obtain ⟨τ1, hτ1⟩ : ∃ z, z = q_wr (q_wr (q_wr (q_wr (q_wr (q_wr τ 18 j (-1)) 19 (60 * j) (nI x)) 19 (60 * j + 1) (ownI a b)) 19 (60 * j + 2) (τ 1 (450 + (10 * a + k)))) 19 (60 * j + 3) (τ 1 (350 + (10 * a + k)))) 19 (60 * j + 4) (τ 1 (550 + (10 * a + k))) := ⟨_, rfl⟩
          rw [← hτ1] at R1
          have tk : ∀ i, i ≠ 18 → i ≠ 19 → τ1 i = τ i := fun i u w => by rw [hτ1, p_wrk w, p_wrk w, p_wrk w, p_wrk w, p_wrk w, p_wrk u]
          have t18 : τ1 18 = q_wr τ 18 j (-1) 18 := by rw [hτ1, p_wrk (by decide), p_wrk (by decide), p_wrk (by decide), p_wrk (by decide), p_wrk (by decide)]
          have e0 : τ1 19 (60 * j) = nI x := by rw [hτ1, p_wrj (by omega), p_wrj (by omega), p_wrj (by omega), p_wrj (by omega), p_wrs]
          have e1 : τ1 19 (60 * j + 1) = ownI a b := by rw [hτ1, p_wrj (by omega), p_wrj (by omega), p_wrj (by omega), p_wrs]
          have e2 : τ1 19 (60 * j + 2) = τ 1 (450 + (10 * a + k)) := by rw [hτ1, p_wrj (by omega), p_wrj (by omega), p_wrs]
          have e3 : τ1 19 (60 * j + 3) = τ 1 (350 + (10 * a + k)) := by rw [hτ1, p_wrj (by omega), p_wrs]
          have e4 : τ1 19 (60 * j + 4) = τ 1 (550 + (10 * a + k)) := by rw [hτ1, p_wrs]
          have eo : ∀ i, (i < 60 * j ∨ 60 * j + 60 ≤ i) → τ1 19 i = τ 19 i := fun i hi => by rw [hτ1, p_wrj (by omega), p_wrj (by omega), p_wrj (by omega), p_wrj (by omega), p_wrj (by omega), p_wrk (by decide)]
          refine ⟨1, σ1, τ1, V0, R1, RH_set (j := j) hH (fun k a _ _ => so k a) (fun i hi => by rw [t18, p_wrj hi]) eo (Or.inr (Or.inl ⟨by rw [sj]; exact w2, by rw [t18, p_wrs], x, k4, ?_, e0, ?_, ?_, ?_, ?_⟩)), fun k hk => so k (by omega), fun i hi => tk i (by omega) (by omega)⟩
          · rw [sj, w4, k8]
          · rw [sj, w3, e1]
            rcases ownI_or a b with z | z
            · exact Or.inl ⟨z, z⟩
            · exact Or.inr ⟨z, z⟩
          · rw [sj, w6, k11, e2]
          · rw [sj, w5, k10, e3, k9]
          · rw [sj, w7, k12, e4]
      · refine simK_same hH (r := -1) ?_ ?_
        · unfold f_X7_hold
          rw [noHolder_y hj, p_cl, if_pos rfl, noRouter_y v3 (by omega) ha, p_cl, if_pos rfl, noRouter_n v3 (by omega) i2, p_cl, if_neg ne10]
        · unfold f_X8_hold
          rw [isHolder_y hj, p_cl, if_neg ne10, isRouter_y r0 (by omega) ha, p_cl, if_neg ne10, isRouter_n r0 (by omega) i2, p_cl, if_pos rfl]
    · refine simK_same hH (r := -1) ?_ ?_
      · unfold f_X7_hold
        rw [noHolder_y hj, p_cl, if_pos rfl, noRouter_n v3 (by omega) i1, p_cl, if_neg ne10]
      · unfold f_X8_hold
        rw [isHolder_y hj, p_cl, if_neg ne10, isRouter_n r0 (by omega) i1, p_cl, if_pos rfl]
  · refine simK_same hH (r := -1) ?_ ?_
    · unfold f_X7_hold
      rw [noHolder_n i0, p_cl, if_neg ne10]
    · unfold f_X8_hold
      rw [isHolder_n i0, p_cl, if_pos rfl]
