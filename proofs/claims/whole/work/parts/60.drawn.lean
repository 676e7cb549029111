/-! drawn links -/
theorem upAgain {n m : Nat} {K : Nat → Nat} {net τ : qM} (h : RNp n m K net (τ 1)) {k : Nat} (hk : k < m) (hup : τ 1 (100 + k) = 0) : f_X3_switchLink net (nI k) = some (0, q_wr net 19 k 1) ∧ RNp n m K (q_wr net 19 k 1) (q_wr τ 1 (100 + k) 1 1) := by
  have hm := h.1.2.1
  obtain ⟨a, b, c, w1, w2, w3, w4, w5, w6, w7, w8, w9, w10, w11, w12⟩ := h.1.2.2.2.2.2.2.2.2.2.2.2.2.1 k hk
  refine ⟨?_, by rw [up1_wr]; exact RNp_up h hk (Or.inr rfl)⟩
  unfold f_X3_switchLink
  simp only [p_nm]
  rw [q_rd_n (by omega) (by decide), w11, hup, show (1 : Int32) - 0 = 1 by decide, q_wt_n (by omega) (by decide), q_rd_n (by omega) (by decide), p_wrs, if_neg ne10]
theorem p_nmx {α β : Type} (e : β) (K : β → Option α) : q_nm e K = K e := (p_nm e K).trans (Eq.refl (K e))
/-- what the reference does with one draw: a, b out of it, p the price -/
noncomputable def drR (τ : qM) (a b : Int32) (p : Int32) (go : qB) (xs : Int32 → List Int32) (ys : List Int32) : qR :=
  if a = b then go 0 τ ys else q_cl (f_X8_linkOf τ a b) (fun τ => τ) fun x24 s23 => if (0 : Int32) ≤ x24 then go 1 s23 (xs x24) else q_rd s23 1 650 1 fun x30 => if (24 : Int32) ≤ x30 then go 1 s23 (xs x24) else q_cl (f_X8_addLink s23 a b p) (fun τ => τ) fun _ s35 => go 1 s35 (xs x24)
theorem drawR0 {n : Nat} {τ : qM} (r0 : τ 1 0 = nI n) (hn : n ≤ 10) (h2 : 2 ≤ n) {q : Nat} (hq : q < 32768) (x8 i z z' : Int32) (hz : z' = z * 1103515245 + 12345) (hqz : ((z'.toUInt32 >>> ((16 : Int32).toUInt32 &&& Int32.toUInt32 31)).toInt32) &&& 32767 = nI q) (hi : ¬ x8 ≤ i) (go : qB) : D_X8_drawn go 0 τ [x8, z, i] = drR τ (nI (q % n)) (nI (q / 10 % n)) (nI (1 + q / 100 % 15)) go (fun x24 => [x8, z', i, x24]) [x8, z', i + 1] := by
  unfold D_X8_drawn
  rw [if_pos (show (0 : Nat) = 0 from rfl)]
  show b_X8_drawn_30 go τ x8 z i = _
  unfold b_X8_drawn_30 drR
  simp only [p_nmx]
  rw [if_neg hi, ← hz, hqz, rd1_0, r0, p_dv (nI_ne0 (by omega) (by omega)), p_dv (by decide), rd1_0, r0, p_dv (nI_ne0 (by omega) (by omega))]
  have e1 : nI q - nI q / nI n * nI n = nI (q % n) := pk_rem (by omega) (by omega) (by omega)
  have e2 : nI q / 10 = nI (q / 10) := by rw [show (10 : Int32) = nI 10 from rfl, pk_div (by omega) (by decide) (by decide)]
  have e3 : nI (q / 10) - nI (q / 10) / nI n * nI n = nI (q / 10 % n) := pk_rem (by omega) (by omega) (by omega)
  have e4 : nI q / 100 = nI (q / 100) := by rw [show (100 : Int32) = nI 100 from rfl, pk_div (by omega) (by decide) (by decide)]
  have e5 : nI (q / 100) - nI (q / 100) / 15 * 15 = nI (q / 100 % 15) := by rw [show (15 : Int32) = nI 15 from rfl, pk_rem (by omega) (by decide) (by decide)]
  have e6 : (1 : Int32) + nI (q / 100 % 15) = nI (1 + q / 100 % 15) := by rw [z1, nI_add]
  have d100 : ∀ X : qR, q_dv 100 X = X := fun X => p_dv (by decide)
  have d15 : ∀ X : qR, q_dv 15 X = X := fun X => p_dv (by decide)
  rw [e1, e2, e3, e4]
  simp only [d100, d15, e5, e6]
theorem drawV0 {n m : Nat} {K : Nat → Nat} {σ τ : qM} (h : RNp n m K (q_sub 1 σ) (τ 1)) (h2 : 2 ≤ n) {q : Nat} (hq : q < 32768) : f_X7_drawLink σ (nI q) = if nI (q % n) = nI (q / 10 % n) then some (0, σ) else if jn (lf (τ 1) m (q % n) (q / 10 % n)) - 1 < 0 then (if (24 : Int32) ≤ nI m then some (0, σ) else q_cl (f_X2_add (q_sub 16 σ) (nI (q % n)) (nI (q / 10 % n)) (nI (1 + q / 100 % 15))) (q_put 16 6 σ) fun x17 s16 => some (0, s16)) else q_cl (f_X3_switchLink (q_sub 1 σ) (jn (lf (τ 1) m (q % n) (q / 10 % n)) - 1)) (q_put 1 21 σ) fun _ s18 => some (0, s18) := by
  have hn := h.1.1
  have v3 : σ 1 3 = nI n := h.1.2.2.2.1
  have v5 : σ 16 5 = nI m := h.1.2.2.2.2.2.1
  have l1 : q % n < n := Nat.mod_lt _ (by omega)
  have l2 : q / 10 % n < n := Nat.mod_lt _ (by omega)
  have hp : q_put 16 6 σ (q_sub 16 σ) = σ := p_put_sub 16 6 σ
  have j1 : q_sub 16 σ 5 (10 * (q % n) + q / 10 % n) = jn (lf (τ 1) m (q % n) (q / 10 % n)) := h.1.2.2.2.2.2.2.2.2.2.2.2.2.2 _ _ (by omega) (by omega)
  have e1 : nI q - nI q / nI n * nI n = nI (q % n) := pk_rem (by omega) (by omega) (by omega)
  have e2 : nI q / 10 = nI (q / 10) := by rw [show (10 : Int32) = nI 10 from rfl, pk_div (by omega) (by decide) (by decide)]
  have e3 : nI (q / 10) - nI (q / 10) / nI n * nI n = nI (q / 10 % n) := pk_rem (by omega) (by omega) (by omega)
  have e4 : nI q / 100 = nI (q / 100) := by rw [show (100 : Int32) = nI 100 from rfl, pk_div (by omega) (by decide) (by decide)]
  have e5 : nI (q / 100) - nI (q / 100) / 15 * 15 = nI (q / 100 % 15) := by rw [show (15 : Int32) = nI 15 from rfl, pk_rem (by omega) (by decide) (by decide)]
  have e6 : (1 : Int32) + nI (q / 100 % 15) = nI (1 + q / 100 % 15) := by rw [z1, nI_add]
  unfold f_X7_drawLink
  simp only [p_nm]
  rw [v3, if_pos (show (1 : Int32) < nI n from nI_lt (a := 1) (by omega) (by omega)), p_dv (nI_ne0 (by omega) (by omega)), p_dv (by decide), p_dv (nI_ne0 (by omega) (by omega)), e1, e2, e3, joiningS (by omega) (by omega), p_cl, hp, j1, v5, e4, p_dv (show ¬ (100 : Int32) = 0 by decide), p_dv (show ¬ (15 : Int32) = 0 by decide), e5, e6]
