/-! the reference receives and tells -/
def oneR (τ τ1 : qM) (s : Nat → Int32) : Prop := τ1 1 = s ∧ ∀ i, i ≠ 1 → τ1 i = τ i
theorem oneR_rf (τ : qM) : oneR τ τ (τ 1) := ⟨rfl, fun _ _ => rfl⟩
theorem r216 {τ : qM} {j e : Nat} {y x q : Int32} (hj : j < 1000) (he : e < 100) (hq : τ 9 j = q) : ∃ τ1, b_X8_receive_216 τ (nI j) y x (nI e) = some (0, τ1) ∧ oneR τ τ1 (up1 (becF (τ 1) e x y) (450 + e) q) := by
  obtain ⟨τ1, e1, e2, e3⟩ := becomeS (τ := τ) (e := e) (x := x) (v := y) he
  unfold b_X8_receive_216
  simp only [p_nm]
  rw [e1, p_cl, a450, q_rd_n (by omega) (by decide), e3 9 (by decide), hq, q_wt_n (by omega) (by decide)]
  exact ⟨_, rfl, by rw [up1_wr, e2], fun i hi => by rw [p_wrk hi]; exact e3 i hi⟩
theorem r132 {τ : qM} {j e : Nat} {y x q bt : Int32} (hj : j < 1000) (he : e < 100) (hq : τ 9 j = q) (hb : (bt = 1 ∧ (x < τ 1 (250 + e) ∧ τ 1 (550 + e) < τ 1 5)) ∨ (bt = 0 ∧ ¬ (x < τ 1 (250 + e) ∧ τ 1 (550 + e) < τ 1 5))) : ∃ τ1, b_X8_receive_132 τ (nI j) y x (nI e) bt = some (0, τ1) ∧ oneR τ τ1 (recG (τ 1) e y x q) := by
  obtain ⟨τ2, f1, f2, f3⟩ := becomeS (τ := τ) (e := e) (x := x) (v := y) he
  obtain ⟨τ3, g1, g2⟩ := r216 (τ := τ) (j := j) (e := e) (y := y) (x := x) hj he hq
  unfold b_X8_receive_132 recG
  simp only [p_nm]
  rw [rd1_3]
  by_cases h0 : τ 1 3 = 0
  · rw [if_pos h0, if_pos h0, a350, q_rd_n (by omega) (by decide)]
    by_cases h1 : τ 1 (350 + e) = y
    · rw [if_pos h1, f1, p_cl, if_pos (Or.inl h1)]
      exact ⟨_, rfl, f2, f3⟩
    · rw [if_neg h1]
      rcases hb with ⟨rfl, hb⟩ | ⟨rfl, hb⟩
      · rw [if_neg (by decide), f1, p_cl, if_pos (Or.inr hb)]
        exact ⟨_, rfl, f2, f3⟩
      · rw [if_pos rfl, if_neg (fun z => z.elim h1 hb)]
        exact ⟨_, rfl, oneR_rf τ⟩
  · rw [if_neg h0, if_neg h0, q_rd_n hj (by decide), a450, q_rd_n (by omega) (by decide), hq]
    by_cases h1 : q ≤ τ 1 (450 + e)
    · rw [if_pos h1, if_neg (fun z => i_nle.mpr z h1), q_rd_n hj (by decide), q_rd_n (by omega) (by decide), hq]
      by_cases h2 : q = τ 1 (450 + e)
      · rw [if_pos h2]
        rcases hb with ⟨rfl, hb⟩ | ⟨rfl, hb⟩
        · rw [if_neg (by decide), f1, p_cl, if_pos ⟨h2, hb⟩]
          exact ⟨_, rfl, f2, f3⟩
        · rw [if_pos rfl, if_neg (fun z => hb z.2)]
          exact ⟨_, rfl, oneR_rf τ⟩
      · rw [if_neg h2, if_neg (fun z => h2 z.1)]
        exact ⟨_, rfl, oneR_rf τ⟩
    · rw [if_neg h1, if_pos (i_nle.mp h1)]
      by_cases h2 : x = 16
      · rw [if_pos h2, a350, q_rd_n (by omega) (by decide)]
        by_cases h4 : τ 1 (350 + e) = y
        · rw [if_pos h4, g1, if_neg (fun z => z.2 h4)]
          exact ⟨_, rfl, g2⟩
        · rw [if_neg h4, if_pos ⟨h2, h4⟩]
          exact ⟨_, rfl, oneR_rf τ⟩
      · rw [if_neg h2, g1, if_neg (fun z => h2 z.1)]
        exact ⟨_, rfl, g2⟩
/-- the j-th told entry of the reference's rows is g -/
def holdsM (τ : qM) (j : Nat) (g : qMsg) : Prop := τ 4 j = nI g.1 ∧ τ 5 j = nI g.2.1 ∧ τ 6 j = g.2.2.1 ∧ τ 7 j = g.2.2.2.1 ∧ τ 8 j = g.2.2.2.2.1 ∧ τ 9 j = g.2.2.2.2.2
theorem receiveR {τ : qM} {j to k0 : Nat} {g : qMsg} (hj : j < 1000) (hg : holdsM τ j g) (hto : g.1 = to) (hto10 : to < 10) (hK : τ 1 (130 + to) = nI k0) (hk : k0 ≤ 10) (hno : ef (τ 1) to k0 g.2.2.2.1 = none → k0 < 10) : ∃ τ1, f_X8_receive τ (nI j) = some (0, τ1) ∧ oneR τ τ1 (recM (τ 1) g) := by
  obtain ⟨to', y, c, d, x, q⟩ := g
  obtain ⟨g1, g2, g3, g4, g5, g6⟩ := hg
  have hto : to' = to := hto
  subst hto
  have g1 : τ 4 j = nI to' := g1
  have g2 : τ 5 j = nI y := g2
  have g3 : τ 6 j = c := g3
  have g4 : τ 7 j = d := g4
  have g5 : τ 8 j = x := g5
  have g6 : τ 9 j = q := g6
  have hno : ef (τ 1) to' k0 d = none → k0 < 10 := hno
  unfold f_X8_receive
  simp only [p_nm]
  rw [q_rd_n hj (by decide), q_rd_n hj (by decide), q_rd_n hj (by decide), g1, g2, g4]
  by_cases h0 : d = nI to'
  · rw [if_pos h0]
    refine ⟨τ, rfl, ?_, fun _ _ => rfl⟩
    unfold recM
    exact (if_pos h0).symm
  · have hm : recM (τ 1) (to', y, c, d, x, q) = recF (τ 1) k0 to' (nI y) d (if x + c < 16 then x + c else 16) q := by
      unfold recM
      show (if d = nI to' then τ 1 else recF (τ 1) (τ 1 (130 + to')).toNatClampNeg to' (nI y) d (if x + c < 16 then x + c else 16) q) = _
      rw [if_neg h0, hK, nI_clamp (by omega)]
    rw [if_neg h0, q_rd_n hj (by decide), q_rd_n hj (by decide), q_rd_n hj (by decide), g3, g4, g5, entryOfS hto10 hk hK, p_cl, hm]
    have hw : (if x + c < 16 then x + c else 16) < 16 ∨ (if x + c < 16 then x + c else 16) = 16 := by
      by_cases z : x + c < 16
      · rw [if_pos z]; exact Or.inl z
      · rw [if_neg z]; exact Or.inr rfl
    generalize (if x + c < 16 then x + c else 16) = w at hw ⊢
    unfold recF
    cases h : ef (τ 1) to' k0 d with
    | none =>
      show ∃ τ1, (if (0 : Int32) ≤ -1 then _ else _) = _ ∧ _
      rw [if_neg (by decide)]
      have hk0 := hno h
      by_cases h2 : (16 : Int32) ≤ w
      · rw [if_pos h2]
        refine ⟨τ, rfl, ?_, fun _ _ => rfl⟩
        show τ 1 = if w = 16 then τ 1 else _
        rw [if_pos (hw.elim (fun z => absurd h2 (i_nle.mpr z)) id)]
      · obtain ⟨τ1, e1, e2, e3⟩ := knowS (τ := τ) (r := to') (k := k0) (d := d) (x := w) (v := nI y) (q := q) hto10 hk0 hK
        rw [if_neg h2, q_rd_n hj (by decide), q_rd_n hj (by decide), g4, g6, e1, p_cl]
        refine ⟨τ1, rfl, ?_, e3⟩
        show τ1 1 = if w = 16 then τ 1 else _
        rw [if_neg (fun z => h2 (by rw [z]; exact Int32.le_refl _)), e2]
    | some k =>
      have hk1 := ef_in h
      show ∃ τ1, (if (0 : Int32) ≤ nI (10 * to' + k) then _ else _) = _ ∧ oneR τ τ1 (recG (τ 1) (10 * to' + k) (nI y) w q)
      rw [show eo to' (some k) = nI (10 * to' + k) from rfl]
      rw [if_pos (nI_pos' (by omega)), a250, q_rd_n (by omega) (by decide)]
      by_cases h2 : τ 1 (250 + (10 * to' + k)) ≤ w
      · rw [if_pos h2]
        exact r132 hj (by omega) g6 (Or.inr ⟨rfl, fun z => i_nle.mpr z.1 h2⟩)
      · rw [if_neg h2, a550, q_rd_n (by omega) (by decide), rd1_5]
        by_cases h3 : τ 1 5 ≤ τ 1 (550 + (10 * to' + k))
        · rw [if_pos h3]
          exact r132 hj (by omega) g6 (Or.inr ⟨rfl, fun z => i_nle.mpr z.2 h3⟩)
        · rw [if_neg h3]
          exact r132 hj (by omega) g6 (Or.inl ⟨rfl, i_nle.mp h2, i_nle.mp h3⟩)
/-- the told rows hold ms; the row is b; all else as in τ0 -/
def AR (τ0 τ : qM) (b : Nat → Int32) (ms : List qMsg) : Prop := τ 1 = b ∧ τ 0 10 = nI ms.length ∧ (∀ j g, ms[j]? = some g → holdsM τ j g) ∧ (∀ i, i ≠ 0 → i ≠ 1 → (i < 4 ∨ 9 < i) → τ i = τ0 i) ∧ ∀ j, j ≠ 10 → τ 0 j = τ0 0 j
theorem AR_push {τ0 τ : qM} {b : Nat → Int32} {ms : List qMsg} (h : AR τ0 τ b ms) (g : qMsg) : AR τ0 (q_wr (q_wr (q_wr (q_wr (q_wr (q_wr (q_wr τ 4 ms.length (nI g.1)) 5 ms.length (nI g.2.1)) 6 ms.length g.2.2.1) 7 ms.length g.2.2.2.1) 8 ms.length g.2.2.2.2.1) 9 ms.length g.2.2.2.2.2) 0 10 (nI (ms.length + 1))) b (ms ++ [g]) := by
  obtain ⟨h1, h2, h3, h4, h5⟩ := h
  refine ⟨?_, ?_, fun j g' hj => ?_, fun i a c d => ?_, fun j hj => ?_⟩
  · rw [p_wrk (by decide), p_wrk (by decide), p_wrk (by decide), p_wrk (by decide), p_wrk (by decide), p_wrk (by decide), p_wrk (by decide)]; exact h1
  · rw [p_wrs, List.length_append]; rfl
  · rcases Nat.lt_trichotomy j ms.length with c | c | c
    · rw [List.getElem?_append_left c] at hj
      obtain ⟨a1, a2, a3, a4, a5, a6⟩ := h3 j g' hj
      have e : j ≠ ms.length := by omega
      refine ⟨?_, ?_, ?_, ?_, ?_, ?_⟩
      · rw [p_wrk (by decide), p_wrk (by decide), p_wrk (by decide), p_wrk (by decide), p_wrk (by decide), p_wrk (by decide), p_wrj e]; exact a1
      · rw [p_wrk (by decide), p_wrk (by decide), p_wrk (by decide), p_wrk (by decide), p_wrk (by decide), p_wrj e, p_wrk (by decide)]; exact a2
      · rw [p_wrk (by decide), p_wrk (by decide), p_wrk (by decide), p_wrk (by decide), p_wrj e, p_wrk (by decide), p_wrk (by decide)]; exact a3
      · rw [p_wrk (by decide), p_wrk (by decide), p_wrk (by decide), p_wrj e, p_wrk (by decide), p_wrk (by decide), p_wrk (by decide)]; exact a4
      · rw [p_wrk (by decide), p_wrk (by decide), p_wrj e, p_wrk (by decide), p_wrk (by decide), p_wrk (by decide), p_wrk (by decide)]; exact a5
      · rw [p_wrk (by decide), p_wrj e, p_wrk (by decide), p_wrk (by decide), p_wrk (by decide), p_wrk (by decide), p_wrk (by decide)]; exact a6
    · subst c
      rw [List.getElem?_append_right (Nat.le_refl _), Nat.sub_self] at hj
      cases hj
      refine ⟨?_, ?_, ?_, ?_, ?_, ?_⟩
      · rw [p_wrk (by decide), p_wrk (by decide), p_wrk (by decide), p_wrk (by decide), p_wrk (by decide), p_wrk (by decide), p_wrs]
      · rw [p_wrk (by decide), p_wrk (by decide), p_wrk (by decide), p_wrk (by decide), p_wrk (by decide), p_wrs]
      · rw [p_wrk (by decide), p_wrk (by decide), p_wrk (by decide), p_wrk (by decide), p_wrs]
      · rw [p_wrk (by decide), p_wrk (by decide), p_wrk (by decide), p_wrs]
      · rw [p_wrk (by decide), p_wrk (by decide), p_wrs]
      · rw [p_wrk (by decide), p_wrs]
    · have : j < (ms ++ [g]).length := (List.getElem?_eq_some_iff.mp hj).1
      rw [List.length_append] at this
      have : j < ms.length + 1 := this
      omega
  · rw [p_wrk a, p_wrk (by omega), p_wrk (by omega), p_wrk (by omega), p_wrk (by omega), p_wrk (by omega), p_wrk (by omega)]; exact h4 i a c d
  · rw [p_wrj hj, p_wrk (by decide), p_wrk (by decide), p_wrk (by decide), p_wrk (by decide), p_wrk (by decide), p_wrk (by decide)]; exact h5 j hj
/-- one entry is told -/
theorem tellE {τ0 τ : qM} {b : Nat → Int32} {ms : List qMsg} (h : AR τ0 τ b ms) {r to k K1 : Nat} {c : Int32} (hr : r < 10) (hto : to < 10) (hk : k < K1) (hK1 : K1 ≤ 10) (hK : b (130 + r) = nI K1) {v : Nat} (hv : b (350 + (10 * r + k)) = nI v) (hv10 : v < 10) (hms : ms.length < 1000) :
    ∃ τ', q_lim D_X8_tell 0 τ [nI r, nI to, c, nI (10 * r + k)] = q_lim D_X8_tell 0 τ' [nI r, nI to, c, nI (10 * r + (k + 1))] ∧ AR τ0 τ' b (ms ++ tmE b r to c k) := by
  have h1 := h.1
  have h2 := h.2.1
  have s0 : q_lim D_X8_tell 0 τ [nI r, nI to, c, nI (10 * r + k)] = q_lim D_X8_tell 1 τ [nI r, nI to, c, nI (10 * r + k), if v = to then 1 else 0] := q_lim_eq (fun go => by
    show b_X8_tell_6 go τ (nI r) (nI to) c (nI (10 * r + k)) = _
    unfold b_X8_tell_6
    simp only [p_nm]
    rw [p_10m, a130, q_rd_n (by omega) (by decide), h1, hK, nI_add, if_neg (nI_ge (by omega) (by omega)), a350, q_rd_n (by omega) (by decide), h1, hv]
    by_cases z : v = to
    · rw [if_pos z, if_pos (congrArg nI z)]
    · rw [if_neg z, if_neg (fun w => z (p_inj (by omega) (by omega) w))])
  have hvt : b (350 + (10 * r + k)) = nI to ↔ v = to := by
    rw [hv]; exact ⟨fun z => p_inj (by omega) (by omega) z, fun z => congrArg nI z⟩
  by_cases c1 : v = to ∧ b 2 = 1
  · refine ⟨τ, ?_, ?_⟩
    · rw [s0]
      refine q_lim_eq (fun go => ?_)
      show b_X8_tell_46 go τ (nI r) (nI to) c (nI (10 * r + k)) (if v = to then 1 else 0) = _
      unfold b_X8_tell_46
      simp only [p_nm]
      rw [if_pos c1.1, if_neg (by decide), rd1_2, h1, if_pos c1.2, nI_1]
      rfl
    · unfold tmE
      rw [if_pos ⟨hvt.mpr c1.1, c1.2⟩, List.append_nil]
      exact h
  · have s1 : q_lim D_X8_tell 1 τ [nI r, nI to, c, nI (10 * r + k), if v = to then 1 else 0] = q_lim D_X8_tell 2 τ [nI r, nI to, c, nI (10 * r + k), if v = to then 1 else 0] := q_lim_eq (fun go => by
      show b_X8_tell_46 go τ (nI r) (nI to) c (nI (10 * r + k)) (if v = to then 1 else 0) = _
      unfold b_X8_tell_46
      by_cases z : v = to
      · rw [if_pos z, if_neg (by decide), rd1_2, h1, if_neg (fun w => c1 ⟨z, w⟩)]
      · rw [if_neg z, if_pos rfl])
    have hE : tmE b r to c k = [(to, r, c, b (150 + (10 * r + k)), (if v = to ∧ b 2 = 2 then 16 else b (250 + (10 * r + k))), b (450 + (10 * r + k)))] := by
      unfold tmE
      rw [if_neg (fun z => c1 ⟨hvt.mp z.1, z.2⟩)]
      by_cases z : v = to ∧ b 2 = 2
      · rw [if_pos z, if_pos ⟨hvt.mpr z.1, z.2⟩]
      · rw [if_neg z, if_neg (fun w => z ⟨hvt.mp w.1, w.2⟩)]
    have hpush := AR_push h (to, r, c, b (150 + (10 * r + k)), (if v = to ∧ b 2 = 2 then 16 else b (250 + (10 * r + k))), b (450 + (10 * r + k)))
    rw [hE]
    refine ⟨_, ?_, hpush⟩
    rw [s0, s1]
    -- the third and what is behind it
    have h40 : ∀ (X : qM) (x41 : Int32), (∀ i, (i = 0 ∨ i = 1) → X i = τ i) → x41 = nI ms.length → ∀ y : Int32, q_lim D_X8_tell 4 X [nI r, nI to, c, nI (10 * r + k), x41, y] = q_lim D_X8_tell 0 (q_wr (q_wr (q_wr X 8 ms.length y) 9 ms.length (b (450 + (10 * r + k)))) 0 10 (nI (ms.length + 1))) [nI r, nI to, c, nI (10 * r + (k + 1))] := fun X x41 hX hx y => q_lim_eq (fun go => by
      show b_X8_tell_155 go X (nI r) (nI to) c (nI (10 * r + k)) x41 y = _
      unfold b_X8_tell_155
      simp only [p_nm]
      rw [hx, q_wt_n hms (by decide), a450, p_wrk (by decide), hX 0 (Or.inl rfl), h2, q_rd_n (by omega) (by decide), p_wrk (by decide), hX 1 (Or.inr rfl), h1, q_wt_n hms (by decide), p_wrk (by decide), p_wrk (by decide), hX 0 (Or.inl rfl), h2, nI_1, nI_1]
      rfl)
    have h30 : ∀ (X : qM) (x41 : Int32), (∀ i, (i = 0 ∨ i = 1) → X i = τ i) → x41 = nI ms.length → q_lim D_X8_tell 3 X [nI r, nI to, c, nI (10 * r + k), x41] = q_lim D_X8_tell 4 X [nI r, nI to, c, nI (10 * r + k), x41, b (250 + (10 * r + k))] := fun X x41 hX hx => q_lim_eq (fun go => by
      show b_X8_tell_144 go X (nI r) (nI to) c (nI (10 * r + k)) x41 = _
      unfold b_X8_tell_144
      simp only [p_nm]
      rw [a250, q_rd_n (by omega) (by decide), hX 1 (Or.inr rfl), h1])
    obtain ⟨X, hXe⟩ : ∃ X, X = q_wr (q_wr (q_wr (q_wr τ 4 ms.length (nI to)) 5 ms.length (nI r)) 6 ms.length c) 7 ms.length (b (150 + (10 * r + k))) := ⟨_, rfl⟩
    have hX : ∀ i, (i = 0 ∨ i = 1) → X i = τ i := fun i hi => by
      rw [hXe, p_wrk (by omega), p_wrk (by omega), p_wrk (by omega), p_wrk (by omega)]
    have s2 : ∀ go : qB, D_X8_tell go 2 τ [nI r, nI to, c, nI (10 * r + k), if v = to then 1 else 0] = (if v = to ∧ b 2 = 2 then go 4 X [nI r, nI to, c, nI (10 * r + k), nI ms.length, 16] else go 3 X [nI r, nI to, c, nI (10 * r + k), nI ms.length]) := fun go => by
      show b_X8_tell_66 go τ (nI r) (nI to) c (nI (10 * r + k)) (if v = to then 1 else 0) = _
      unfold b_X8_tell_66
      simp only [p_nm]
      rw [h2, q_wt_n hms (by decide), p_wrk (by decide), h2, q_wt_n hms (by decide), p_wrk (by decide), p_wrk (by decide), h2, q_wt_n hms (by decide), p_wrk (by decide), p_wrk (by decide), p_wrk (by decide), h2, a150, q_rd_n (by omega) (by decide), p_wrk (by decide), p_wrk (by decide), p_wrk (by decide), h1, q_wt_n hms (by decide), ← hXe, hX 0 (Or.inl rfl), h2]
      by_cases z : v = to
      · rw [if_pos z, if_neg (by decide), rd1_2, hX 1 (Or.inr rfl), h1]
        by_cases z2 : b 2 = 2
        · rw [if_pos z2, if_pos ⟨z, z2⟩]
        · rw [if_neg z2, if_neg (fun w => z2 w.2)]
      · rw [if_neg z, if_pos rfl, if_neg (fun w => z w.1)]
    by_cases z : v = to ∧ b 2 = 2
    · rw [q_lim_eq (fun go => by rw [s2 go, if_pos z]), h40 X _ hX rfl 16, hXe, if_pos z]
    · rw [q_lim_eq (fun go => by rw [s2 go, if_neg z]), h30 X _ hX rfl, h40 X _ hX rfl, hXe, if_neg z]
theorem tellR {n m : Nat} {K1 : Nat → Nat} {net1 : qM} {b : Nat → Int32} (hB : RB n m K1 net1 b) {τ0 τ : qM} {ms : List qMsg} (h : AR τ0 τ b ms) {r to : Nat} {c : Int32} (hr : r < n) (hto : to < n) (hms : ms.length ≤ 10 * (10 * r + to)) :
    ∃ τ', f_X8_tell τ (nI r) (nI to) c = some (0, τ') ∧ AR τ0 τ' b (ms ++ tmL b r to c (K1 r) 0) := by
  obtain ⟨hn, hT1, -⟩ := hB
  have lk := hT1.le hn (r := r) (by omega)
  have hK := (hT1.1 r (by omega)).1
  have tl : ∀ k, (tmE b r to c k).length ≤ 1 := fun k => by
    unfold tmE
    split
    · exact Nat.zero_le _
    · exact Nat.le_refl _
  obtain ⟨σ', xs', ⟨e1, ms', e2, e3, e4⟩, e5⟩ := q_run (D := D_X8_tell) (i := 0) (I := fun k σ xs => xs = [nI r, nI to, c, nI (10 * r + k)] ∧ ∃ ms' : List qMsg, AR τ0 σ b ms' ∧ ms' ++ tmL b r to c (K1 r - k) k = ms ++ tmL b r to c (K1 r) 0 ∧ ms'.length ≤ 10 * (10 * r + to) + k) (K1 r) (fun k σ xs hk hI => by
      obtain ⟨rfl, ms', e2, e3, e4⟩ := hI
      obtain ⟨d, v, x, w1, w2, w3, w4, w5, w6, w7, w8, -⟩ := hT1.2.2.2.2.1 r k (by omega) hk
      obtain ⟨τ', f1, f2⟩ := tellE e2 (r := r) (to := to) (k := k) (K1 := K1 r) (c := c) (by omega) (by omega) hk (by omega) hK w8 (by omega) (by omega)
      refine ⟨τ', _, ⟨rfl, ms' ++ tmE b r to c k, f2, ?_, ?_⟩, f1⟩
      · rw [← e3, show K1 r - k = (K1 r - (k + 1)) + 1 by omega]
        exact List.append_assoc _ _ _
      · rw [List.length_append]
        have := tl k
        omega) (K1 r) 0 τ [nI r, nI to, c, nI (10 * r + 0)] (by omega) ⟨rfl, ms, h, rfl, by omega⟩
  rw [Nat.sub_self] at e3
  have e3 : ms' ++ [] = _ := e3
  rw [List.append_nil] at e3
  refine ⟨σ', ?_, by rw [← e3]; exact e2⟩
  unfold f_X8_tell e_X8_tell
  simp only [p_nm]
  rw [p_10m]
  show q_lim D_X8_tell 0 τ [nI r, nI to, c, nI (10 * r + 0)] = _
  rw [e5, e1]
  refine q_lim_ret (fun go => ?_)
  show b_X8_tell_6 go σ' (nI r) (nI to) c (nI (10 * r + K1 r)) = _
  unfold b_X8_tell_6
  simp only [p_nm]
  rw [p_10m, a130, q_rd_n (by omega) (by decide), e2.1, hK, nI_add, if_pos (nI_le (Nat.le_refl _) (by omega))]
