/-! a round: the reference -/
theorem up1c {s : Nat → Int32} {i j : Nat} {v w : Int32} (h : i ≠ j) : up1 (up1 s i v) j w = up1 (up1 s j w) i v := by
  funext k
  unfold up1
  by_cases h1 : k = j
  · rw [if_pos h1, if_neg (by omega), if_pos h1]
  · rw [if_neg h1, if_neg h1]
theorem knowF_6 {s : Nat → Int32} {r k : Nat} {d x v q w : Int32} : knowF (up1 s 6 w) r k d x v q = up1 (knowF s r k d x v q) 6 w := by
  unfold knowF
  rw [up1c (i := 6) (by omega), up1c (i := 6) (by omega), up1c (i := 6) (by omega), up1c (i := 6) (by omega), up1c (i := 6) (by omega), up1c (i := 6) (by omega)]
theorem becF_6 {s : Nat → Int32} {e : Nat} {x v w : Int32} : becF (up1 s 6 w) e x v = up1 (becF s e x v) 6 w := by
  unfold becF
  rw [up1_n (show 250 + e ≠ 6 by omega), up1_n (show 5 ≠ 6 by omega), up1_n (show 4 ≠ 6 by omega)]
  by_cases h : x = 16 ∧ s (250 + e) < 16
  · rw [if_pos h, if_pos h, up1c (i := 6) (by omega), up1c (i := 6) (by omega), up1c (i := 6) (by omega)]
  · rw [if_neg h, if_neg h, up1c (i := 6) (by omega), up1c (i := 6) (by omega)]
theorem ef_6 {s : Nat → Int32} {r k0 : Nat} {d w : Int32} : ef (up1 s 6 w) r k0 d = ef s r k0 d := q_find_congr (fun i _ _ => by rw [up1_n (by omega)])
theorem recG_6 {s : Nat → Int32} {e : Nat} {y x q w : Int32} : recG (up1 s 6 w) e y x q = up1 (recG s e y x q) 6 w := by
  unfold recG
  rw [up1_n (show 3 ≠ 6 by omega), up1_n (show 350 + e ≠ 6 by omega), up1_n (show 250 + e ≠ 6 by omega), up1_n (show 550 + e ≠ 6 by omega), up1_n (show 450 + e ≠ 6 by omega), up1_n (show 5 ≠ 6 by omega), becF_6]
  by_cases h0 : s 3 = 0
  · rw [if_pos h0, if_pos h0]
    by_cases h1 : s (350 + e) = y ∨ (x < s (250 + e) ∧ s (550 + e) < s 5)
    · rw [if_pos h1, if_pos h1]
    · rw [if_neg h1, if_neg h1]
  · rw [if_neg h0, if_neg h0]
    by_cases h1 : s (450 + e) < q
    · rw [if_pos h1, if_pos h1]
      by_cases h2 : x = 16 ∧ s (350 + e) ≠ y
      · rw [if_pos h2, if_pos h2]
      · rw [if_neg h2, if_neg h2, up1c (i := 6) (by omega)]
    · rw [if_neg h1, if_neg h1]
      by_cases h2 : q = s (450 + e) ∧ (x < s (250 + e) ∧ s (550 + e) < s 5)
      · rw [if_pos h2, if_pos h2]
      · rw [if_neg h2, if_neg h2]
theorem recM_6 {s : Nat → Int32} {g : qMsg} {w : Int32} : recM (up1 s 6 w) g = up1 (recM s g) 6 w := by
  unfold recM
  rw [up1_n (show 130 + g.1 ≠ 6 by omega)]
  by_cases h : g.2.2.2.1 = nI g.1
  · rw [if_pos h, if_pos h]
  · rw [if_neg h, if_neg h]
    generalize (if g.2.2.2.2.1 + g.2.2.1 < 16 then g.2.2.2.2.1 + g.2.2.1 else 16) = x
    unfold recF
    rw [ef_6]
    cases ef s g.1 (s (130 + g.1)).toNatClampNeg g.2.2.2.1 with
    | none =>
      show (if x = 16 then up1 s 6 w else knowF (up1 s 6 w) _ _ _ _ _ _) = up1 (if x = 16 then s else knowF s _ _ _ _ _ _) 6 w
      by_cases hx : x = 16
      · rw [if_pos hx, if_pos hx]
      · rw [if_neg hx, if_neg hx, knowF_6]
    | some k => exact recG_6
theorem fold_6 {w : Int32} : ∀ (ms : List qMsg) (s : Nat → Int32), List.foldl recM (up1 s 6 w) ms = up1 (List.foldl recM s ms) 6 w := by
  intro ms
  induction ms with
  | nil => intro s; rfl
  | cons g ms ih =>
    intro s
    show List.foldl recM (recM (up1 s 6 w) g) ms = up1 (List.foldl recM (recM s g) ms) 6 w
    rw [recM_6, ih]
/-- a told entry within its bounds -/
def okM (n : Nat) (g : qMsg) : Prop := ∃ to y c d x q, g = (to, y, nI c, nI d, nI x, q) ∧ to < n ∧ y < n ∧ c ≤ 15 ∧ d < n ∧ x ≤ 16
def RW (n : Nat) (K : Nat → Nat) (s : Nat → Int32) : Prop := ∃ net, RT n K 1 net s
theorem recM_row {n : Nat} {K : Nat → Nat} {s : Nat → Int32} (hn : n ≤ 10) (h : RW n K s) {g : qMsg} (hg : okM n g) : ∃ K', RW n K' (recM s g) := by
  obtain ⟨net, hT⟩ := h
  obtain ⟨to, y, c, d, x, q, rfl, h1, h2, h3, h4, h5⟩ := hg
  by_cases hd : nI d = nI to
  · refine ⟨K, net, ?_⟩
    unfold recM
    rw [if_pos hd]; exact hT
  · obtain ⟨net0, hn0⟩ : ∃ z, z = q_wr (q_wr (q_wr net 0 5 (s 3)) 0 6 (s 4)) 0 7 (s 5) := ⟨_, rfl⟩
    have hT0 : RT n K 1 net0 s := RT_n0 hT (fun j a b => by rw [hn0, p_wrk (by omega), p_wrk (by omega), p_wrk (by omega)])
    obtain ⟨K', net', -, e2, -⟩ := recv_sim hT0 hn (by rw [hn0, p_wrj (by decide), p_wrj (by decide), p_wrs]) (by rw [hn0, p_wrj (by decide), p_wrs]) (by rw [hn0, p_wrs]) h1 h2 h4 (x := min 16 (x + c)) (by omega) q
    refine ⟨K', net', ?_⟩
    have lk := hT.le hn (r := to) (by omega)
    unfold recM
    show RT n K' 1 net' (if nI d = nI to then s else recF s (s (130 + to)).toNatClampNeg to (nI y) (nI d) (if nI x + nI c < 16 then nI x + nI c else 16) q)
    rw [if_neg hd, sum16 h5 h3, (hT.1 to (by omega)).1, nI_clamp (by omega)]
    exact e2
theorem lf_self {n m : Nat} {net : qM} {s : Nat → Int32} (h : RLk n m net s) (a : Nat) (ha : a < 10) : lf s m a a = none := by
  refine q_find_no (fun i _ hi => decide_eq_false (fun z => ?_))
  obtain ⟨x, y, c, w1, w2, w3, w4, w5, w6, w7, -⟩ := h.2.2.2.2.2.2.2.2.2.2.2.2.1 i (by omega)
  have hn := h.1
  rw [Nat.min_self, Nat.max_self, w5, w7] at z
  have e1 := p_inj (by omega) (by omega) z.1
  have e2 := p_inj (by omega) (by omega) z.2
  omega
theorem tmL_len {b : Nat → Int32} {r to : Nat} {c : Int32} : ∀ f k, (tmL b r to c f k).length ≤ f := by
  intro f
  induction f with
  | zero => intro k; exact Nat.le_refl _
  | succ f ih =>
    intro k
    show (tmE b r to c k ++ tmL b r to c f (k + 1)).length ≤ f + 1
    rw [List.length_append]
    have h1 : (tmE b r to c k).length ≤ 1 := by
      unfold tmE
      split
      · exact Nat.zero_le _
      · exact Nat.le_refl _
    have := ih (k + 1)
    omega
theorem tmP_len {b : Nat → Int32} {m : Nat} {K : Nat → Nat} {r to : Nat} : (tmP b m K r to).length ≤ K r := by
  unfold tmP
  cases lf b m r to with
  | none => exact Nat.zero_le _
  | some k =>
    show (if b (100 + k) = 1 then tmL b r to (b (70 + k)) (K r) 0 else []).length ≤ K r
    by_cases c : b (100 + k) = 1
    · rw [if_pos c]; exact tmL_len _ _
    · rw [if_neg c]; exact Nat.zero_le _
theorem tmT_len {b : Nat → Int32} {m : Nat} {K : Nat → Nat} {r : Nat} (hK : K r ≤ 10) : ∀ f to, (tmT b m K r f to).length ≤ 10 * f := by
  intro f
  induction f with
  | zero => intro to; exact Nat.le_refl _
  | succ f ih =>
    intro to
    show (tmP b m K r to ++ tmT b m K r f (to + 1)).length ≤ 10 * (f + 1)
    rw [List.length_append]
    have := ih (to + 1)
    have : (tmP b m K r to).length ≤ K r := tmP_len
    omega
theorem tmL_ok {n m : Nat} {K1 : Nat → Nat} {net1 : qM} {b : Nat → Int32} (hB : RB n m K1 net1 b) {r to c : Nat} (hr : r < n) (hto : to < n) (hc : c ≤ 15) : ∀ f k, k + f = K1 r → ∀ g ∈ tmL b r to (nI c) f k, okM n g := by
  obtain ⟨hn, hT1, -⟩ := hB
  intro f
  induction f with
  | zero => intro k _ g hg; exact absurd hg List.not_mem_nil
  | succ f ih =>
    intro k hk g hg
    rcases List.mem_append.mp hg with h | h
    · obtain ⟨d, v, x, a1, a2, a3, a4, a5, a6, -⟩ := hT1.2.2.2.2.1 r k (by omega) (by omega)
      unfold tmE at h
      by_cases z : b (350 + (10 * r + k)) = nI to ∧ b 2 = 1
      · rw [if_pos z] at h; exact absurd h List.not_mem_nil
      · rw [if_neg z] at h
        have e := List.mem_singleton.mp h
        by_cases w : b (350 + (10 * r + k)) = nI to ∧ b 2 = 2
        · rw [if_pos w, a4] at e
          exact ⟨to, r, c, d, 16, _, e, hto, hr, hc, a1, Nat.le_refl _⟩
        · rw [if_neg w, a4, a6] at e
          exact ⟨to, r, c, d, x, _, e, hto, hr, hc, a1, a3⟩
    · exact ih (k + 1) (by omega) g h
theorem tmR_ok {n m : Nat} {K1 : Nat → Nat} {net1 : qM} {b : Nat → Int32} (hB : RB n m K1 net1 b) (hL : RLk n m net1 b) : ∀ f r, r + f = n → ∀ g ∈ tmR b n m K1 f r, okM n g := by
  intro f
  induction f with
  | zero => intro r _ g hg; exact absurd hg List.not_mem_nil
  | succ f ih =>
    intro r hr g hg
    rcases List.mem_append.mp hg with h | h
    · have key : ∀ f to, to + f = n → g ∈ tmT b m K1 r f to → okM n g := by
        intro f
        induction f with
        | zero => intro to _ hg; exact absurd hg List.not_mem_nil
        | succ f ih2 =>
          intro to hto hg
          rcases List.mem_append.mp hg with h | h
          · unfold tmP at h
            cases hlf : lf b m r to with
            | none => rw [hlf] at h; exact absurd h List.not_mem_nil
            | some k =>
              rw [hlf] at h
              have hk : k < m := by have := q_find_some hlf; omega
              obtain ⟨ea, eb, ec, w1, w2, w3, w4, w5, w6, w7, w8, w9, -⟩ := hL.2.2.2.2.2.2.2.2.2.2.2.2.1 k hk
              have h : g ∈ (if b (100 + k) = 1 then tmL b r to (b (70 + k)) (K1 r) 0 else []) := h
              by_cases c : b (100 + k) = 1
              · rw [if_pos c, w9] at h
                exact tmL_ok hB (by omega) (by omega) w4 (K1 r) 0 (by omega) g h
              · rw [if_neg c] at h; exact absurd h List.not_mem_nil
          · exact ih2 (to + 1) (by omega) h
      exact key n 0 (by omega) h
    · exact ih (r + 1) (by omega) g h
