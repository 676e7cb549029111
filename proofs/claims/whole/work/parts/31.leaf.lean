/-! what the leaves of the class answer, at numbers in their bounds -/
theorem z0 : (0 : Int32) = nI 0 := rfl
theorem z1 : (1 : Int32) = nI 1 := rfl
theorem z16 : (16 : Int32) = nI 16 := rfl
theorem z100 : (100 : Int32) = nI 100 := rfl
theorem a_l (k a : Nat) (w : Int32) (h : w = nI k) : w + nI a = nI (k + a) := by rw [h, nI_add]
theorem a10 (a : Nat) : (10 : Int32) + nI a = nI (10 + a) := a_l 10 a 10 rfl
theorem a2 (a : Nat) : (2 : Int32) + nI a = nI (2 + a) := a_l 2 a 2 rfl
theorem a40 (a : Nat) : (40 : Int32) + nI a = nI (40 + a) := a_l 40 a 40 rfl
theorem a70 (a : Nat) : (70 : Int32) + nI a = nI (70 + a) := a_l 70 a 70 rfl
theorem a100 (a : Nat) : (100 : Int32) + nI a = nI (100 + a) := a_l 100 a 100 rfl
theorem a130 (a : Nat) : (130 : Int32) + nI a = nI (130 + a) := a_l 130 a 130 rfl
theorem a150 (a : Nat) : (150 : Int32) + nI a = nI (150 + a) := a_l 150 a 150 rfl
theorem a250 (a : Nat) : (250 : Int32) + nI a = nI (250 + a) := a_l 250 a 250 rfl
theorem a350 (a : Nat) : (350 : Int32) + nI a = nI (350 + a) := a_l 350 a 350 rfl
theorem a450 (a : Nat) : (450 : Int32) + nI a = nI (450 + a) := a_l 450 a 450 rfl
theorem a550 (a : Nat) : (550 : Int32) + nI a = nI (550 + a) := a_l 550 a 550 rfl
/-- reads at a literal place -/
theorem q_rd_l {α : Type} {σ : qM} {r n : Nat} (i : Nat) {w : Int32} {K : Int32 → Option α} (hw : w = nI i) (h : i < n) (hn : n < 2 ^ 31) : q_rd σ r n w K = K (σ r i) := by rw [hw, q_rd_n h hn]
theorem q_wt_l {α : Type} {σ : qM} {r n : Nat} (i : Nat) {w v : Int32} {K : qM → Option α} (hw : w = nI i) (h : i < n) (hn : n < 2 ^ 31) : q_wt σ r n w v K = K (q_wr σ r i v) := by rw [hw, q_wt_n h hn]
theorem rd1_0 {α : Type} {σ : qM} {K : Int32 → Option α} : q_rd σ 1 650 0 K = K (σ 1 0) := q_rd_n (i := 0) (by decide) (by decide)
theorem wt1_0 {α : Type} {σ : qM} {v : Int32} {K : qM → Option α} : q_wt σ 1 650 0 v K = K (q_wr σ 1 0 v) := q_wt_n (i := 0) (by decide) (by decide)
theorem rd1_1 {α : Type} {σ : qM} {K : Int32 → Option α} : q_rd σ 1 650 1 K = K (σ 1 1) := q_rd_n (i := 1) (by decide) (by decide)
theorem wt1_1 {α : Type} {σ : qM} {v : Int32} {K : qM → Option α} : q_wt σ 1 650 1 v K = K (q_wr σ 1 1 v) := q_wt_n (i := 1) (by decide) (by decide)
theorem rd1_2 {α : Type} {σ : qM} {K : Int32 → Option α} : q_rd σ 1 650 2 K = K (σ 1 2) := q_rd_n (i := 2) (by decide) (by decide)
theorem wt1_2 {α : Type} {σ : qM} {v : Int32} {K : qM → Option α} : q_wt σ 1 650 2 v K = K (q_wr σ 1 2 v) := q_wt_n (i := 2) (by decide) (by decide)
theorem rd1_3 {α : Type} {σ : qM} {K : Int32 → Option α} : q_rd σ 1 650 3 K = K (σ 1 3) := q_rd_n (i := 3) (by decide) (by decide)
theorem wt1_3 {α : Type} {σ : qM} {v : Int32} {K : qM → Option α} : q_wt σ 1 650 3 v K = K (q_wr σ 1 3 v) := q_wt_n (i := 3) (by decide) (by decide)
theorem rd1_4 {α : Type} {σ : qM} {K : Int32 → Option α} : q_rd σ 1 650 4 K = K (σ 1 4) := q_rd_n (i := 4) (by decide) (by decide)
theorem wt1_4 {α : Type} {σ : qM} {v : Int32} {K : qM → Option α} : q_wt σ 1 650 4 v K = K (q_wr σ 1 4 v) := q_wt_n (i := 4) (by decide) (by decide)
theorem rd1_5 {α : Type} {σ : qM} {K : Int32 → Option α} : q_rd σ 1 650 5 K = K (σ 1 5) := q_rd_n (i := 5) (by decide) (by decide)
theorem wt1_5 {α : Type} {σ : qM} {v : Int32} {K : qM → Option α} : q_wt σ 1 650 5 v K = K (q_wr σ 1 5 v) := q_wt_n (i := 5) (by decide) (by decide)
theorem rd1_6 {α : Type} {σ : qM} {K : Int32 → Option α} : q_rd σ 1 650 6 K = K (σ 1 6) := q_rd_n (i := 6) (by decide) (by decide)
theorem wt1_6 {α : Type} {σ : qM} {v : Int32} {K : qM → Option α} : q_wt σ 1 650 6 v K = K (q_wr σ 1 6 v) := q_wt_n (i := 6) (by decide) (by decide)
theorem hasS {T : qM} {c : Nat} (hc : c < 100) : f_X4_has T (nI c) = some (if T 1 c = -1 then 0 else 1, T) := by
  unfold f_X4_has
  rw [q_rd_n hc (by decide)]
  by_cases h : T 1 c = -1
  · rw [if_pos h, if_pos h, p_bo0]
  · rw [if_neg h, if_neg h, p_bo1]
theorem reachesS {T : qM} {c : Nat} (hc : c < 100) : f_X4_reaches T (nI c) = some (if T 1 c = -1 ∨ 16 ≤ T 1 c then 0 else 1, T) := by
  unfold f_X4_reaches
  rw [q_rd_n hc (by decide)]
  by_cases h : T 1 c = -1
  · rw [if_pos h, if_pos (Or.inl h), p_bo0]
  · rw [if_neg h, q_rd_n hc (by decide)]
    by_cases h2 : 16 ≤ T 1 c
    · rw [if_pos h2, if_pos (Or.inr h2), p_bo0]
    · rw [if_neg h2, if_neg (fun q => q.elim h h2), p_bo1]
def entF (T : qM) (r d k : Nat) (x s q : Int32) : qM := q_wr (q_wr (q_wr (q_wr (q_wr (q_wr T 1 (10 * r + d) x) 2 (10 * r + d) s) 3 (10 * r + d) q) 4 (10 * r + d) 0) 5 (10 * r + k) (nI d)) 6 r (nI (k + 1))
theorem enterS {T : qM} {r d k : Nat} {x s q : Int32} (hr : r < 10) (hd : d < 10) (hk : k < 10) (hT : T 6 r = nI k) : f_X4_enter T (nI r) (nI d) x s q = some (0, entF T r d k x s q) := by
  have h10 : nI k < 10 := by
    rw [show (10 : Int32) = nI 10 from rfl]
    exact (nI_ltI (by omega) (by omega)).mpr hk
  unfold f_X4_enter
  simp only [p_nm]
  rw [q_rd_n hr (by decide), hT, if_pos h10]
  rw [p_cell, q_wt_n (by omega) (by decide), q_wt_n (by omega) (by decide), q_wt_n (by omega) (by decide), q_wt_n (by omega) (by decide), p_cell, q_wt_n (by omega) (by decide), nI_1, q_wt_n hr (by decide)]
  rfl
theorem joiningS {L : qM} {a b : Nat} (ha : a < 10) (hb : b < 10) : f_X2_joining L (nI a) (nI b) = some (L 5 (10 * a + b) - 1, L) := by
  unfold f_X2_joining
  simp only [p_nm]
  rw [p_cell, q_rd_n (by omega) (by decide)]
