/-! what is told in a round, as a list out of the row at its begin; what is received changes the row -/
abbrev qMsg : Type := Nat × Nat × Int32 × Int32 × Int32 × Int32
/-- to, by, cost, of, metric, sequence -/
def tmE (s : Nat → Int32) (r to : Nat) (c : Int32) (k : Nat) : List qMsg :=
  if s (350 + (10 * r + k)) = nI to ∧ s 2 = 1 then [] else [(to, r, c, s (150 + (10 * r + k)), (if s (350 + (10 * r + k)) = nI to ∧ s 2 = 2 then 16 else s (250 + (10 * r + k))), s (450 + (10 * r + k)))]
def tmL (s : Nat → Int32) (r to : Nat) (c : Int32) : Nat → Nat → List qMsg
  | 0, _ => []
  | f + 1, k => tmE s r to c k ++ tmL s r to c f (k + 1)
def tmP (s : Nat → Int32) (m : Nat) (K : Nat → Nat) (r to : Nat) : List qMsg := match lf s m r to with
  | some k => if s (100 + k) = 1 then tmL s r to (s (70 + k)) (K r) 0 else []
  | none => []
def tmT (s : Nat → Int32) (m : Nat) (K : Nat → Nat) (r : Nat) : Nat → Nat → List qMsg
  | 0, _ => []
  | f + 1, to => tmP s m K r to ++ tmT s m K r f (to + 1)
def tmR (s : Nat → Int32) (n m : Nat) (K : Nat → Nat) : Nat → Nat → List qMsg
  | 0, _ => []
  | f + 1, r => tmT s m K r n 0 ++ tmR s n m K f (r + 1)
def recM (s : Nat → Int32) (g : qMsg) : Nat → Int32 :=
  if g.2.2.2.1 = nI g.1 then s else recF s (s (130 + g.1)).toNatClampNeg g.1 (nI g.2.1) g.2.2.2.1 (if g.2.2.2.2.1 + g.2.2.1 < 16 then g.2.2.2.2.1 + g.2.2.1 else 16) g.2.2.2.2.2
theorem sum16 {a b : Nat} (ha : a ≤ 16) (hb : b ≤ 15) : (if nI a + nI b < 16 then nI a + nI b else 16) = nI (min 16 (a + b)) := by
  rw [nI_add, z16]
  by_cases h : a + b < 16
  · rw [if_pos ((nI_ltI (by omega) (by omega)).mpr h), Nat.min_eq_right (by omega)]
  · rw [if_neg (fun q => h ((nI_ltI (by omega) (by omega)).mp q)), Nat.min_eq_left (by omega)]
/-- what holds while what was told is received: b is the row at the begin, s the row now, net the class's network, net1 it at the begin -/
def RI (n : Nat) (K1 K : Nat → Nat) (net1 net : qM) (b s : Nat → Int32) (t : Int32) : Prop :=
  RT n K 1 net s ∧ (∀ i, i < 130 → s i = b i) ∧ (∀ j, 8 ≤ j → net j = net1 j) ∧ (∀ j, j ≠ 8 → net 0 j = net1 0 j) ∧ net 0 8 = t ∧ (∀ r, K1 r ≤ K r) ∧ (∀ r k, r < 10 → k < K1 r → s (150 + (10 * r + k)) = b (150 + (10 * r + k))) ∧ ∀ c, c < 100 → net 2 c = -1 → net 3 c = net1 10 c
/-- what is fixed at a round's begin -/
def RB (n m : Nat) (K1 : Nat → Nat) (net1 : qM) (b : Nat → Int32) : Prop := n ≤ 10 ∧ RT n K1 8 net1 b ∧ net1 0 3 = nI n ∧ net1 0 4 = b 2 ∧ (b 2 = 0 ∨ b 2 = 1 ∨ b 2 = 2) ∧ net1 0 5 = b 3 ∧ net1 0 6 = b 4 ∧ net1 0 7 = b 5
/-- one told entry that is received -/
theorem recM_sim {n m : Nat} {K1 K : Nat → Nat} {net1 net : qM} {b s : Nat → Int32} {t : Int32} (hB : RB n m K1 net1 b) (hI : RI n K1 K net1 net b s t) {r to d x c : Nat} {q : Int32} (hr : r < n) (hto : to < n) (hd : d < n) (hx : x ≤ 16) (hc : c ≤ 15) (hne : nI d ≠ nI to) :
    ∃ K' net', f_X3_receive net (nI to) (nI r) (nI d) (nI (min 16 (x + c))) q = some (0, net') ∧ RI n K1 K' net1 net' b (recM s (to, r, nI c, nI d, nI x, q)) t := by
  obtain ⟨hn, hT1, g3, g4, g4', g5, g6, g7⟩ := hB
  obtain ⟨hT, h130, hj, h0, ht, hK, hpos, hvia⟩ := hI
  obtain ⟨K', net', e1, e2, e3, e4, e5⟩ := recv_sim hT hn (by rw [h0 5 (by decide), g5, h130 3 (by decide)]) (by rw [h0 6 (by decide), g6, h130 4 (by decide)]) (by rw [h0 7 (by decide), g7, h130 5 (by decide)]) hto hr hd (x := min 16 (x + c)) (by omega) q
  have em : recM s (to, r, nI c, nI d, nI x, q) = recF s (K to) to (nI r) (nI d) (nI (min 16 (x + c))) q := by
    unfold recM
    show (if nI d = nI to then s else recF s (s (130 + to)).toNatClampNeg to (nI r) (nI d) (if nI x + nI c < 16 then nI x + nI c else 16) q) = _
    have lk := hT.le hn (r := to) (by omega)
    rw [if_neg hne, sum16 hx hc, (hT.1 to (by omega)).1, nI_clamp (by omega)]
  refine ⟨K', net', e1, ?_⟩
  rw [em]
  refine ⟨e2, fun i hi => by rw [recF_lo hi]; exact h130 i hi, fun j hj1 => by rw [e3 j (by omega)]; exact hj j hj1, fun j hj1 => by rw [e3 0 (by omega)]; exact h0 j hj1, by rw [e3 0 (by omega)]; exact ht, fun r' => Nat.le_trans (hK r') (e4 r'), fun r' k' hr' hk' => ?_, fun c' hc' h => ?_⟩
  · have lk := hT.le hn hr'
    have lk2 := hT.le hn (r := to) (by omega)
    have l3 := hK r'
    rw [recF_pos (by omega) (by omega) (fun hno => hT.lt hn hto hd (ef_no hno)) hr' (by omega) (by omega)]
    exact hpos r' k' hr' hk'
  · obtain ⟨w1, w2⟩ := e5 c' h
    rw [w2]; exact hvia c' hc' w1
theorem RI_told {n : Nat} {K1 K : Nat → Nat} {net1 net : qM} {b s : Nat → Int32} {t : Int32} (hI : RI n K1 K net1 net b s t) (v : Int32) : RI n K1 K net1 (q_wr net 0 8 v) b s v := by
  obtain ⟨hT, h130, hj, h0, ht, hK, hpos, hvia⟩ := hI
  have e : ∀ j, j ≠ 0 → q_wr net 0 8 v j = net j := fun j hj => p_wrk hj
  refine ⟨?_, h130, fun j hj1 => by rw [e j (by omega)]; exact hj j hj1, fun j hj1 => by rw [p_wrj hj1]; exact h0 j hj1, p_wrs _ _ _ _, hK, hpos, fun c hc h => by rw [e 3 (by decide)]; rw [e 2 (by decide)] at h; exact hvia c hc h⟩
  obtain ⟨a1, a2, a3, a4, a5, a6⟩ := hT
  refine ⟨fun r hr => by rw [e _ (by omega)]; exact a1 r hr, a2, a3, a4, fun r k hr hk => ?_, fun r d hr hd hu => by rw [e _ (by omega)]; exact a6 r d hr hd hu⟩
  rw [e _ (by omega), e _ (by omega), e _ (by omega), e _ (by omega), e _ (by omega)]
  exact a5 r k hr hk
theorem addI (t : Int32) (a b : Nat) : t + nI a + nI b = t + nI (a + b) := by rw [Int32.add_assoc, nI_add]
theorem addI1 (t : Int32) (a : Nat) : t + 1 + nI a = t + nI (1 + a) := by rw [z1, addI]
theorem addI0 (t : Int32) : t + nI 0 = t := by rw [nI_0, Int32.add_zero]
/-- a router tells another one its table: the class -/
theorem tellC {n m : Nat} {K1 : Nat → Nat} {net1 : qM} {b : Nat → Int32} (hB : RB n m K1 net1 b) {r to c : Nat} (hr : r < n) (hto : to < n) (hc : c ≤ 15) {K : Nat → Nat} {net : qM} {s : Nat → Int32} {t : Int32} (hI : RI n K1 K net1 net b s t) :
    ∃ K' net', f_X3_tell net (nI r) (nI to) (nI c) = some (0, net') ∧ RI n K1 K' net1 net' b (List.foldl recM s (tmL b r to (nI c) (K1 r) 0)) (t + nI (tmL b r to (nI c) (K1 r) 0).length) := by
  have hB' := hB
  obtain ⟨hn, hT1, g3, g4, g4', g5, g6, g7⟩ := hB
  have lk1 := hT1.le hn (r := r) (by omega)
  obtain ⟨sF, hsF⟩ : ∃ z, z = List.foldl recM s (tmL b r to (nI c) (K1 r) 0) := ⟨_, rfl⟩
  obtain ⟨tF, htF⟩ : ∃ z, z = t + nI (tmL b r to (nI c) (K1 r) 0).length := ⟨_, rfl⟩
  have run := q_run (D := D_X3_tell) (i := 0) (I := fun k σ xs => xs = [nI r, nI to, nI c, nI k] ∧ ∃ (Kc : Nat → Nat) (sc : Nat → Int32) (tc : Int32), RI n K1 Kc net1 σ b sc tc ∧ List.foldl recM sc (tmL b r to (nI c) (K1 r - k) k) = sF ∧ tc + nI (tmL b r to (nI c) (K1 r - k) k).length = tF) (K1 r) (fun k σ xs hk h => ?_) (K1 r) 0 net [nI r, nI to, nI c, nI 0] (by omega) ⟨rfl, K, s, t, hI, hsF.symm, htF.symm⟩
  · obtain ⟨σ', xs', ⟨e1, Kc, sc, tc, hIc, e2, e3⟩, e4⟩ := run
    rw [Nat.sub_self] at e2 e3
    have e2 : sc = sF := e2
    have e3 : tc + nI 0 = tF := e3
    rw [addI0] at e3
    refine ⟨Kc, σ', ?_, by rw [← hsF, ← htF, ← e2, ← e3]; exact hIc⟩
    show q_lim D_X3_tell 0 net [nI r, nI to, nI c, nI 0] = _
    rw [e4, e1]
    refine q_lim_ret (fun go => ?_)
    show b_X3_tell_3 go σ' (nI r) (nI to) (nI c) (nI (K1 r)) = _
    unfold b_X3_tell_3
    rw [q_rd_n (by omega) (by decide), hIc.2.2.1 14 (by decide), show net1 14 r = nI (K1 r) from (hT1.1 r (by omega)).2, if_pos (nI_le (Nat.le_refl _) (by omega))]
  · obtain ⟨rfl, Kc, sc, tc, hIc, e2, e3⟩ := h
    obtain ⟨d, v, x, a1, a2, a3, a4, a5, a6, a7, a8, a9, a10, a11⟩ := hT1.2.2.2.2.1 r k (by omega) hk
    have hj := hIc.2.2.1
    have h0 := hIc.2.2.2.1
    rw [show K1 r - k = (K1 r - (k + 1)) + 1 by omega] at e2 e3
    have e2 : List.foldl recM sc (tmE b r to (nI c) k ++ tmL b r to (nI c) (K1 r - (k + 1)) (k + 1)) = sF := e2
    have e3 : tc + nI (tmE b r to (nI c) k ++ tmL b r to (nI c) (K1 r - (k + 1)) (k + 1)).length = tF := e3
    rw [List.foldl_append] at e2
    rw [List.length_append, ← addI] at e3
    -- the first block
    have st : ∀ go : qB, D_X3_tell go 0 σ [nI r, nI to, nI c, nI k] = (if v = to ∧ b 2 = 1 then go 0 σ [nI r, nI to, nI c, nI (k + 1)] else go 1 σ [nI r, nI to, nI c, nI k, nI d, nI (10 * r + d), if v = to ∧ b 2 = 2 then 16 else nI x]) := fun go => by
      show b_X3_tell_3 go σ (nI r) (nI to) (nI c) (nI k) = _
      unfold b_X3_tell_3
      simp only [p_nm]
      rw [q_rd_n (by omega) (by decide), hj 14 (by decide), show net1 14 r = nI (K1 r) from (hT1.1 r (by omega)).2, if_neg (nI_ge hk (by omega)), p_cell, q_rd_n (by omega) (by decide), hj 13 (by decide), show net1 13 (10 * r + k) = nI d from a5, p_cell, q_rd_n (by omega) (by decide), hj 9 (by decide), show net1 9 (10 * r + d) = nI x from a7, h0 4 (by decide), g4]
      by_cases c0 : b 2 = 0
      · rw [if_pos c0, if_neg (fun z => by have := z.2; rw [c0] at this; exact absurd this (by decide)), if_neg (fun z => by have := z.2; rw [c0] at this; exact absurd this (by decide))]
      · rw [if_neg c0, q_rd_n (by omega) (by decide), hj 10 (by decide), show net1 10 (10 * r + d) = nI v from a9]
        by_cases c1 : v = to
        · rw [if_pos (congrArg nI c1)]
          by_cases c2 : b 2 = 1
          · rw [if_pos c2, if_pos ⟨c1, c2⟩, nI_1]
          · rw [if_neg c2, if_neg (fun z => c2 z.2), if_pos ⟨c1, g4'.elim (fun z => absurd z c0) (fun z => z.elim (fun z => absurd z c2) id)⟩]
        · rw [if_neg (fun z => c1 (p_inj (by omega) (by omega) z)), if_neg (fun z => c1 z.1), if_neg (fun z => c1 z.1)]
    have hv : b (350 + (10 * r + k)) = nI to ↔ v = to := by
      rw [a8]; exact ⟨fun z => p_inj (by omega) (by omega) z, fun z => congrArg nI z⟩
    by_cases c1 : v = to ∧ b 2 = 1
    · have hE : tmE b r to (nI c) k = [] := by unfold tmE; rw [if_pos ⟨hv.mpr c1.1, c1.2⟩]
      rw [hE] at e2 e3
      refine ⟨σ, _, ⟨rfl, Kc, sc, tc, hIc, e2, ?_⟩, q_lim_eq (fun go => by rw [st go, if_pos c1])⟩
      have e3 : tc + nI 0 + nI (tmL b r to (nI c) (K1 r - (k + 1)) (k + 1)).length = tF := e3
      rw [addI0] at e3; exact e3
    · obtain ⟨y, hy⟩ : ∃ y : Nat, y = if v = to ∧ b 2 = 2 then 16 else x := ⟨_, rfl⟩
      have hy16 : y ≤ 16 := by
        rw [hy]
        by_cases z : v = to ∧ b 2 = 2
        · rw [if_pos z]; exact Nat.le_refl _
        · rw [if_neg z]; exact a3
      have hyI : (if v = to ∧ b 2 = 2 then (16 : Int32) else nI x) = nI y := by
        rw [hy]
        by_cases z : v = to ∧ b 2 = 2
        · rw [if_pos z, if_pos z]; rfl
        · rw [if_neg z, if_neg z]
      have hE : tmE b r to (nI c) k = [(to, r, nI c, nI d, nI y, b (450 + (10 * r + k)))] := by
        unfold tmE
        rw [if_neg (fun z => c1 ⟨hv.mp z.1, z.2⟩), a4, a6, ← hyI]
        by_cases z : v = to ∧ b 2 = 2
        · rw [if_pos z, if_pos ⟨hv.mpr z.1, z.2⟩]
        · rw [if_neg z, if_neg (fun w => z ⟨hv.mp w.1, w.2⟩)]
      rw [hE] at e2 e3
      have e2 : List.foldl recM (recM sc (to, r, nI c, nI d, nI y, b (450 + (10 * r + k)))) (tmL b r to (nI c) (K1 r - (k + 1)) (k + 1)) = sF := e2
      have e3 : tc + nI 1 + nI (tmL b r to (nI c) (K1 r - (k + 1)) (k + 1)).length = tF := e3
      have hI2 := RI_told hIc (tc + 1)
      have ht : σ 0 8 = tc := hIc.2.2.2.2.1
      by_cases c2 : nI d = nI to
      · have hm : recM sc (to, r, nI c, nI d, nI y, b (450 + (10 * r + k))) = sc := by unfold recM; exact if_pos c2
        rw [hm] at e2
        refine ⟨q_wr σ 0 8 (tc + 1), _, ⟨rfl, Kc, sc, tc + 1, hI2, e2, e3⟩, ?_⟩
        rw [q_lim_eq (fun go => by rw [st go, if_neg c1, hyI])]
        refine q_lim_eq (fun go => ?_)
        show b_X3_tell_91 go σ (nI r) (nI to) (nI c) (nI k) (nI d) (nI (10 * r + d)) (nI y) = _
        unfold b_X3_tell_91
        simp only [p_nm]
        rw [ht, if_pos c2, nI_1]
      · obtain ⟨K', net', f1, f2⟩ := recM_sim hB' hI2 (r := r) (to := to) (d := d) (x := y) (c := c) (q := b (450 + (10 * r + k))) hr hto a1 hy16 hc c2
        refine ⟨net', _, ⟨rfl, K', _, tc + 1, f2, e2, e3⟩, ?_⟩
        rw [q_lim_eq (fun go => by rw [st go, if_neg c1, hyI])]
        refine q_lim_eq (fun go => ?_)
        show b_X3_tell_91 go σ (nI r) (nI to) (nI c) (nI k) (nI d) (nI (10 * r + d)) (nI y) = _
        unfold b_X3_tell_91
        simp only [p_nm]
        rw [ht, if_neg c2, sum16 hy16 hc, q_rd_n (by omega) (by decide), hI2.2.2.1 11 (by decide), show net1 11 (10 * r + d) = b (450 + (10 * r + k)) from a10, f1, p_cl, nI_1]
