/-! one told entry is received: class and reference -/
theorem i_nle {a b : Int32} : ¬ a ≤ b ↔ b < a := by rw [Int32.lt_iff_toInt_lt, Int32.le_iff_toInt_le]; omega
theorem i_nlt {a b : Int32} : ¬ a < b ↔ b ≤ a := by rw [Int32.lt_iff_toInt_lt, Int32.le_iff_toInt_le]; omega
theorem i_irr {a : Int32} : ¬ a < a := by rw [Int32.lt_iff_toInt_lt]; omega
theorem i_16 {x : Nat} (h : x ≤ 16) : nI x < 16 ↔ x ≠ 16 := by
  rw [z16, nI_ltI (by omega) (by omega)]
  omega
theorem i_16e {x : Nat} (h : x ≤ 16) : nI x = 16 ↔ x = 16 := by rw [z16, nI_eq (by omega) (by omega)]
def recC (net : qM) (c : Nat) (y x q : Int32) : qM :=
  if net 0 5 = 0 then (if net 3 c = y ∨ (x < net 2 c ∧ net 5 c < net 0 7) then takF net c x y else net)
  else if net 4 c < q then (if x = 16 ∧ net 3 c ≠ y then net else q_wr (takF net c x y) 4 c q)
  else if q = net 4 c ∧ (x < net 2 c ∧ net 5 c < net 0 7) then takF net c x y else net
theorem recv155 {net : qM} {c : Nat} {y x q : Int32} (hc : c < 100) : b_X3_receive_155 net y x q (nI c) = some (0, q_wr (takF net c x y) 4 c q) := by
  unfold b_X3_receive_155
  rw [takeS hc, p_cl, q_wt_n hc (by decide)]
theorem recv79 {net : qM} {c : Nat} {y q : Int32} {x : Nat} {bt : Int32} (hc : c < 100) (hx : x ≤ 16) (hb : (bt = 1 ∧ (nI x < net 2 c ∧ net 5 c < net 0 7)) ∨ (bt = 0 ∧ ¬ (nI x < net 2 c ∧ net 5 c < net 0 7))) : b_X3_receive_79 net y (nI x) q (nI c) bt = some (0, recC net c y (nI x) q) := by
  unfold b_X3_receive_79 recC
  simp only [p_nm]
  by_cases h0 : net 0 5 = 0
  · rw [if_pos h0, if_pos h0]
    rcases hb with ⟨rfl, hb⟩ | ⟨rfl, hb⟩
    · rw [if_neg (by decide), takeS hc, p_cl, if_pos (Or.inr hb)]
    · rw [if_pos rfl, q_rd_n hc (by decide)]
      by_cases h1 : net 3 c = y
      · rw [if_pos h1, takeS hc, p_cl, if_pos (Or.inl h1)]
      · rw [if_neg h1, if_neg (fun z => z.elim h1 hb)]
  · rw [if_neg h0, if_neg h0, q_rd_n hc (by decide), q_rd_n hc (by decide)]
    by_cases h1 : q ≤ net 4 c
    · rw [if_pos h1, if_neg (fun z => i_nle.mpr z h1)]
      by_cases h2 : q = net 4 c
      · rw [if_pos h2]
        rcases hb with ⟨rfl, hb⟩ | ⟨rfl, hb⟩
        · rw [if_neg (by decide), takeS hc, p_cl, if_pos ⟨h2, hb⟩]
        · rw [if_pos rfl, if_neg (fun z => hb z.2)]
      · rw [if_neg h2, if_neg (fun z => h2 z.1)]
    · rw [if_neg h1, if_pos (i_nle.mp h1)]
      by_cases h2 : nI x < 16
      · rw [if_pos h2, recv155 hc, if_neg (fun z => ((i_16 hx).mp h2) ((i_16e hx).mp z.1))]
      · rw [if_neg h2, q_rd_n hc (by decide)]
        have h3 : nI x = 16 := (i_16e hx).mpr (Classical.not_not.mp (fun z => h2 ((i_16 hx).mpr z)))
        by_cases h4 : net 3 c = y
        · rw [if_pos h4, recv155 hc, if_neg (fun z => z.2 h4)]
        · rw [if_neg h4, if_pos ⟨h3, h4⟩]
theorem recv_known {net : qM} {r d x : Nat} {y q : Int32} (hr : r < 10) (hd : d < 10) (hx : x ≤ 16) (h : net 2 (10 * r + d) ≠ -1) : f_X3_receive net (nI r) y (nI d) (nI x) q = some (0, recC net (10 * r + d) y (nI x) q) := by
  have hc : 10 * r + d < 100 := by omega
  unfold f_X3_receive
  simp only [p_nm]
  rw [p_cell, hasS hc, p_cl, p_put_sub, if_neg (show ¬ (q_sub 1 net 1 (10 * r + d) = -1) from h), if_neg (by decide), q_rd_n hc (by decide)]
  by_cases h1 : net 2 (10 * r + d) ≤ nI x
  · rw [if_pos h1]
    exact recv79 hc hx (Or.inr ⟨rfl, fun z => i_nle.mpr z.1 h1⟩)
  · rw [if_neg h1, q_rd_n hc (by decide)]
    by_cases h2 : net 0 7 ≤ net 5 (10 * r + d)
    · rw [if_pos h2]
      exact recv79 hc hx (Or.inr ⟨rfl, fun z => i_nle.mpr z.2 h2⟩)
    · rw [if_neg h2]
      exact recv79 hc hx (Or.inl ⟨rfl, i_nle.mp h1, i_nle.mp h2⟩)
theorem recv_new {net : qM} {r d k x : Nat} {y q : Int32} (hr : r < 10) (hd : d < 10) (hx : x ≤ 16) (hk : k < 10) (hK : net 7 r = nI k) (h : net 2 (10 * r + d) = -1) : f_X3_receive net (nI r) y (nI d) (nI x) q = some (0, if x = 16 then net else entN 1 net r d k (nI x) y q) := by
  have hc : 10 * r + d < 100 := by omega
  unfold f_X3_receive
  simp only [p_nm]
  rw [p_cell, hasS hc, p_cl, p_put_sub, if_pos (show q_sub 1 net 1 (10 * r + d) = -1 from h), if_pos rfl]
  by_cases h1 : x = 16
  · rw [if_pos h1, if_pos (by rw [h1]; decide)]
  · rw [if_neg h1, if_neg (fun z => i_nle.mpr ((i_16 hx).mpr h1) z), enterS hr hd hk (show q_sub 1 net 6 r = nI k from hK), p_cl, entN_of]
/-- the row's side -/
def recG (s : Nat → Int32) (e : Nat) (y x q : Int32) : Nat → Int32 :=
  if s 3 = 0 then (if s (350 + e) = y ∨ (x < s (250 + e) ∧ s (550 + e) < s 5) then becF s e x y else s)
  else if s (450 + e) < q then (if x = 16 ∧ s (350 + e) ≠ y then s else up1 (becF s e x y) (450 + e) q)
  else if q = s (450 + e) ∧ (x < s (250 + e) ∧ s (550 + e) < s 5) then becF s e x y else s
def recF (s : Nat → Int32) (k0 r : Nat) (y : Int32) (d : Int32) (x q : Int32) : Nat → Int32 := match ef s r k0 d with
  | none => if x = 16 then s else knowF s r k0 d x y q
  | some k => recG s (10 * r + k) y x q
theorem ef_some {n : Nat} {K : Nat → Nat} {o : Nat} {net : qM} {s : Nat → Int32} (h : RT n K o net s) {r k : Nat} {d : Int32} (hr : r < 10) (hk : k < K r) (hd : s (150 + (10 * r + k)) = d) : ef s r (K r) d = some k := by
  refine q_find_is (Nat.zero_le _) (by omega) (decide_eq_true hd) (fun i _ hi => decide_eq_false (fun e => ?_))
  have := h.2.2.2.1 r i k hr (by omega) hk (e.trans hd.symm)
  omega
theorem ef_none {s : Nat → Int32} {r k0 : Nat} {d : Int32} (h : ∀ k, k < k0 → s (150 + (10 * r + k)) ≠ d) : ef s r k0 d = none := q_find_no (fun i _ hi => decide_eq_false (h i (by omega)))
theorem ef_in {s : Nat → Int32} {r k0 k : Nat} {d : Int32} (h : ef s r k0 d = some k) : k < k0 ∧ s (150 + (10 * r + k)) = d := by
  obtain ⟨a, b, c, -⟩ := q_find_some h
  exact ⟨by omega, of_decide_eq_true c⟩
theorem ef_no {s : Nat → Int32} {r k0 : Nat} {d : Int32} (h : ef s r k0 d = none) : ∀ k, k < k0 → s (150 + (10 * r + k)) ≠ d := fun k hk => of_decide_eq_false (q_find_none h k (Nat.zero_le _) (by omega))
theorem recG_out {s : Nat → Int32} {e i : Nat} {y x q : Int32} (h1 : i ≠ 250 + e) (h2 : i ≠ 350 + e) (h3 : i ≠ 450 + e) (h4 : i ≠ 550 + e) : recG s e y x q i = s i := by
  have hb : becF s e x y i = s i := becF_out h1 h2 h4
  unfold recG
  by_cases a : s 3 = 0
  · rw [if_pos a]
    by_cases b : s (350 + e) = y ∨ (x < s (250 + e) ∧ s (550 + e) < s 5)
    · rw [if_pos b, hb]
    · rw [if_neg b]
  · rw [if_neg a]
    by_cases b : s (450 + e) < q
    · rw [if_pos b]
      by_cases c : x = 16 ∧ s (350 + e) ≠ y
      · rw [if_pos c]
      · rw [if_neg c, up1_n h3, hb]
    · rw [if_neg b]
      by_cases c : q = s (450 + e) ∧ (x < s (250 + e) ∧ s (550 + e) < s 5)
      · rw [if_pos c, hb]
      · rw [if_neg c]
theorem recF_lo {s : Nat → Int32} {k0 r i : Nat} {y d x q : Int32} (hi : i < 130) : recF s k0 r y d x q i = s i := by
  unfold recF
  cases h : ef s r k0 d with
  | none =>
    show (if x = 16 then s else knowF s r k0 d x y q) i = s i
    by_cases c : x = 16
    · rw [if_pos c]
    · rw [if_neg c, knowF_out (by omega) (by omega) (by omega) (by omega) (by omega) (by omega)]
  | some k => exact recG_out (by omega) (by omega) (by omega) (by omega)
/-- positions of old entries stay -/
theorem recF_pos {s : Nat → Int32} {K : Nat → Nat} {r r' k' : Nat} {y d x q : Int32} (hr : r < 10) (hK : K r ≤ 10) (hno : ef s r (K r) d = none → K r < 10) (hr' : r' < 10) (hk' : k' < K r') (hK' : K r' ≤ 10) : recF s (K r) r y d x q (150 + (10 * r' + k')) = s (150 + (10 * r' + k')) := by
  unfold recF
  cases h : ef s r (K r) d with
  | none =>
    show (if x = 16 then s else knowF s r (K r) d x y q) _ = _
    by_cases c : x = 16
    · rw [if_pos c]
    · rw [if_neg c]
      have w := hno h
      have : ¬ (r' = r ∧ k' = K r) := fun z => by obtain ⟨rfl, z⟩ := z; omega
      refine knowF_out ?_ ?_ ?_ ?_ ?_ ?_ <;> omega
  | some k =>
    have := ef_in h
    exact recG_out (by omega) (by omega) (by omega) (by omega)
theorem recG_sim {n : Nat} {K : Nat → Nat} {net : qM} {s : Nat → Int32} (hT : RT n K 1 net s) (hn : n ≤ 10) (hq : net 0 5 = s 3) (hh : net 0 6 = s 4) (hrd : net 0 7 = s 5) {r k d y x : Nat} (hr : r < 10) (hk : k < K r) (hd : d < n) (hsd : s (150 + (10 * r + k)) = nI d) (hy : y < n) (hx : x ≤ 16) (q : Int32) : RT n K 1 (recC net (10 * r + d) (nI y) (nI x) q) (recG s (10 * r + k) (nI y) (nI x) q) ∧ (∀ j, (j < 2 ∨ 5 < j) → recC net (10 * r + d) (nI y) (nI x) q j = net j) ∧ ∀ c, recC net (10 * r + d) (nI y) (nI x) q 2 c = -1 → net 2 c = -1 ∧ recC net (10 * r + d) (nI y) (nI x) q 3 c = net 3 c := by
  have lk := hT.le hn hr
  obtain ⟨d', v, xm, a1, a2, a3, a4, a5, a6, a7, a8, a9, a10, a11⟩ := hT.2.2.2.2.1 r k hr hk
  have e : d' = d := p_inj (by omega) (by omega) (a4.symm.trans hsd)
  subst e
  have he : 10 * r + k < 100 := by omega
  have m2 : net 2 (10 * r + d') = s (250 + (10 * r + k)) := a7.trans a6.symm
  have m3 : net 3 (10 * r + d') = s (350 + (10 * r + k)) := a9.trans a8.symm
  have m4 : net 4 (10 * r + d') = s (450 + (10 * r + k)) := a10
  have m5 : net 5 (10 * r + d') = s (550 + (10 * r + k)) := a11
  -- both unchanged, or changed alike
  have stay : RT n K 1 net s ∧ (∀ j, (j < 2 ∨ 5 < j) → net j = net j) ∧ ∀ c, net 2 c = -1 → net 2 c = -1 ∧ net 3 c = net 3 c := ⟨hT, fun _ _ => rfl, fun c h => ⟨h, rfl⟩⟩
  obtain ⟨b1, b2, b3⟩ := becF_at (s := s) (e := 10 * r + k) (x := nI x) (v := nI y) he
  have tk : RT n K 1 (takF net (10 * r + d') (nI x) (nI y)) (becF s (10 * r + k) (nI x) (nI y)) := by
    refine RT_chg hT hn hr (by omega) hk hsd hx hy b1 b2 ?_ ?_ ?_ ?_ (fun i h0 h1 h2 h3 h4 => becF_out h1 h2 h4) (fun c hc => ⟨?_, ?_, ?_, ?_⟩) ?_ ?_
    · rw [(takF_at _ _ _ _ _).1, if_pos rfl]
    · rw [(takF_at _ _ _ _ _).2.1, if_pos rfl]
    · rw [takF_out (by decide) (by decide) (by decide), becF_out (by omega) (by omega) (by omega)]; exact a10
    · rw [(takF_at _ _ _ _ _).2.2, b3, m2, hrd, hh, m5]
      by_cases z : nI x = 16 ∧ s (250 + (10 * r + k)) < 16
      · rw [if_pos z, if_pos ⟨rfl, z⟩]
      · rw [if_neg z, if_neg (fun w => z w.2)]
    · rw [(takF_at _ _ _ _ _).1, if_neg hc]
    · rw [(takF_at _ _ _ _ _).2.1, if_neg hc]
    · rw [takF_out (by decide) (by decide) (by decide)]
    · rw [(takF_at _ _ _ _ _).2.2, if_neg (fun w => hc w.1)]
    · exact takF_out (by decide) (by decide) (by decide)
    · exact takF_out (by decide) (by decide) (by decide)
  have tko : ∀ j, (j < 2 ∨ 5 < j) → takF net (10 * r + d') (nI x) (nI y) j = net j := fun j hj => takF_out (by omega) (by omega) (by omega)
  have tkv : ∀ c, takF net (10 * r + d') (nI x) (nI y) 2 c = -1 → net 2 c = -1 ∧ takF net (10 * r + d') (nI x) (nI y) 3 c = net 3 c := fun c h => by
    rw [(takF_at _ _ _ _ _).1] at h
    by_cases z : c = 10 * r + d'
    · rw [if_pos z] at h; exact absurd h (p_ne1 (by omega))
    · rw [if_neg z] at h
      exact ⟨h, by rw [(takF_at _ _ _ _ _).2.1, if_neg z]⟩
  unfold recC recG
  rw [hq, hrd, m2, m3, m4, m5]
  by_cases c1 : s 3 = 0
  · rw [if_pos c1, if_pos c1]
    by_cases c2 : s (350 + (10 * r + k)) = nI y ∨ (nI x < s (250 + (10 * r + k)) ∧ s (550 + (10 * r + k)) < s 5)
    · rw [if_pos c2, if_pos c2]; exact ⟨tk, tko, tkv⟩
    · rw [if_neg c2, if_neg c2]; exact stay
  · rw [if_neg c1, if_neg c1]
    by_cases c2 : s (450 + (10 * r + k)) < q
    · rw [if_pos c2, if_pos c2]
      by_cases c3 : nI x = 16 ∧ s (350 + (10 * r + k)) ≠ nI y
      · rw [if_pos c3, if_pos c3]; exact stay
      · rw [if_neg c3, if_neg c3]
        refine ⟨?_, fun j hj => by rw [p_wrk (by omega)]; exact tko j hj, fun c h => ?_⟩
        · refine RT_chg (d := d') (k := k) tk hn hr (by omega) hk (by rw [becF_out (by omega) (by omega) (by omega)]; exact hsd) hx hy ?_ ?_ ?_ ?_ ?_ ?_ (fun i h0 h1 h2 h3 h4 => up1_n h3) (fun c hc => ⟨?_, ?_, ?_, ?_⟩) ?_ ?_
          · rw [up1_n (by omega)]; exact b1
          · rw [up1_n (by omega)]; exact b2
          · rw [p_wrk (by decide), (takF_at _ _ _ _ _).1, if_pos rfl]
          · rw [p_wrk (by decide), (takF_at _ _ _ _ _).2.1, if_pos rfl]
          · rw [p_wrs, up1_s]
          · rw [p_wrk (by decide), up1_n (by omega), (takF_at _ _ _ _ _).2.2, b3, m2, hrd, hh, m5]
            by_cases z : nI x = 16 ∧ s (250 + (10 * r + k)) < 16
            · rw [if_pos z, if_pos ⟨rfl, z⟩]
            · rw [if_neg z, if_neg (fun w => z w.2)]
          · rw [p_wrk (by decide)]
          · rw [p_wrk (by decide)]
          · rw [p_wrj hc]
          · rw [p_wrk (by decide)]
          · rw [p_wrk (by decide)]
          · rw [p_wrk (by decide)]
        · rw [p_wrk (by decide)] at h
          rw [p_wrk (by decide)]
          exact tkv c h
    · rw [if_neg c2, if_neg c2]
      by_cases c3 : q = s (450 + (10 * r + k)) ∧ (nI x < s (250 + (10 * r + k)) ∧ s (550 + (10 * r + k)) < s 5)
      · rw [if_pos c3, if_pos c3]; exact ⟨tk, tko, tkv⟩
      · rw [if_neg c3, if_neg c3]; exact stay
theorem RT.lt {n : Nat} {K : Nat → Nat} {o : Nat} {net : qM} {s : Nat → Int32} (hT : RT n K o net s) (hn : n ≤ 10) {r d : Nat} (hr : r < n) (hd : d < n) (hu : ∀ k, k < K r → s (150 + (10 * r + k)) ≠ nI d) : K r < 10 := by
  have hx : ∀ k, ∃ z, k < K r → z < n ∧ s (150 + (10 * r + k)) = nI z := by
    intro k
    by_cases c : k < K r
    · obtain ⟨z, v, x, w1, w2, w3, w4, -⟩ := hT.2.2.2.2.1 r k (by omega) c
      exact ⟨z, fun _ => ⟨w1, w4⟩⟩
    · exact ⟨0, fun z => absurd z c⟩
  obtain ⟨F, hF⟩ : ∃ F : Nat → Nat, ∀ k, k < K r → F k < n ∧ s (150 + (10 * r + k)) = nI (F k) := ⟨fun k => Classical.choose (hx k), fun k => Classical.choose_spec (hx k)⟩
  have h := q_pigeon n (K r + 1) (fun k => if k < K r then F k else d) (fun i hi => ?_) (fun i j hi hj e => ?_)
  · omega
  · show (if i < K r then F i else d) < n
    by_cases c : i < K r
    · rw [if_pos c]; exact (hF i c).1
    · rw [if_neg c]; exact hd
  · have e : (if i < K r then F i else d) = (if j < K r then F j else d) := e
    by_cases c : i < K r <;> by_cases c2 : j < K r
    · rw [if_pos c, if_pos c2] at e
      refine hT.2.2.2.1 r i j (by omega) c c2 ?_
      rw [(hF i c).2, (hF j c2).2, e]
    · rw [if_pos c, if_neg c2] at e
      exact absurd ((hF i c).2.trans (congrArg nI e)) (hu i c)
    · rw [if_neg c, if_pos c2] at e
      exact absurd ((hF j c2).2.trans (congrArg nI e.symm)) (hu j c2)
    · omega
theorem recv_sim {n : Nat} {K : Nat → Nat} {net : qM} {s : Nat → Int32} (hT : RT n K 1 net s) (hn : n ≤ 10) (hq : net 0 5 = s 3) (hh : net 0 6 = s 4) (hrd : net 0 7 = s 5) {r y d x : Nat} (hr : r < n) (hy : y < n) (hd : d < n) (hx : x ≤ 16) (q : Int32) :
    ∃ (K' : Nat → Nat) (net' : qM), f_X3_receive net (nI r) (nI y) (nI d) (nI x) q = some (0, net') ∧ RT n K' 1 net' (recF s (K r) r (nI y) (nI d) (nI x) q) ∧ (∀ j, (j < 2 ∨ 7 < j) → net' j = net j) ∧ (∀ j, K j ≤ K' j) ∧ ∀ c, net' 2 c = -1 → net 2 c = -1 ∧ net' 3 c = net 3 c := by
  rcases hT.cell hn (r := r) (d := d) (by omega) (by omega) with ⟨hu, h1⟩ | ⟨k, v, xm, a1, a2, a3, a4, a5, a6, a7, a8, -⟩
  · have hk : K r < 10 := hT.lt hn hr hd hu
    have hK7 : net 7 r = nI (K r) := (hT.1 r (by omega)).2
    rw [recv_new (by omega) (by omega) hx hk hK7 h1]
    unfold recF
    rw [ef_none hu]
    by_cases c : x = 16
    · refine ⟨K, net, by rw [if_pos c], ?_, fun _ _ => rfl, fun j => Nat.le_refl _, fun c h => ⟨h, rfl⟩⟩
      show RT n K 1 net (if nI x = 16 then s else _)
      rw [if_pos ((i_16e hx).mpr c)]; exact hT
    · refine ⟨upK K r, entN 1 net r d (K r) (nI x) (nI y) q, by rw [if_neg c], ?_, fun j hj => entN_out (by omega), fun j => ?_, fun c h => ?_⟩
      · show RT n (upK K r) 1 _ (if nI x = 16 then s else _)
        rw [if_neg (fun z => c ((i_16e hx).mp z))]
        exact RT_enter hT (Nat.le_refl n) hn hr hd hy hx hk hu (fun j a b => by omega) q
      · unfold upK
        by_cases z : j = r
        · rw [if_pos z, z]; omega
        · rw [if_neg z]; exact Nat.le_refl _
      · rw [(entN_at (o := 1) c).1] at h
        by_cases z : c = 10 * r + d
        · rw [if_pos z] at h; exact absurd h (p_ne1 (by omega))
        · rw [if_neg z] at h
          exact ⟨h, by rw [(entN_at (o := 1) c).2.1, if_neg z]⟩
  · have hne : net 2 (10 * r + d) ≠ -1 := fun z => p_ne1 (by omega) (a8.symm.trans z)
    obtain ⟨g1, g2, g3⟩ := recG_sim hT hn hq hh hrd (r := r) (k := k) (d := d) (y := y) (x := x) (by omega) a1 hd a5 hy hx q
    refine ⟨K, _, recv_known (by omega) (by omega) hx hne, ?_, fun j hj => g2 j (by omega), fun j => Nat.le_refl _, g3⟩
    unfold recF
    rw [ef_some hT (by omega) a1 a5]
    exact g1
