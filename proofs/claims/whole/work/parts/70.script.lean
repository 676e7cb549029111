/-! the lines are done -/
theorem dlV_110 {σ : qM} {i : Nat} (hi : i < 120) (hc : σ 91 i = 110) : f_X7_doLine σ (nI i) = q_cl (f_X7_router σ) (fun τ => τ) fun x s => some (x, s) := by
  unfold f_X7_doLine
  simp only [p_nmx]
  rw [m3, nI_1, q_rd_n (by omega) (by decide), q_rd_n (by omega) (by decide), q_rd_n hi (by decide), hc, if_neg (show ¬ (110 : Int32) = 99 by decide), if_neg (show ¬ (110 : Int32) = 100 by decide), if_neg (show ¬ (110 : Int32) = 101 by decide), if_neg (show ¬ (110 : Int32) = 102 by decide), if_neg (show ¬ (110 : Int32) = 103 by decide), if_neg (show ¬ (110 : Int32) = 104 by decide), if_neg (show ¬ (110 : Int32) = 105 by decide), if_neg (show ¬ (110 : Int32) = 106 by decide), if_neg (show ¬ (110 : Int32) = 107 by decide), if_neg (show ¬ (110 : Int32) = 108 by decide), if_neg (show ¬ (110 : Int32) = 109 by decide), if_pos rfl]
theorem dlR_110 {τ : qM} {i : Nat} (hi : i < 120) (hc : τ 15 i = 110) : f_X8_doLine τ (nI i) = q_cl (f_X8_router τ) (fun τ => τ) fun x s => some (x, s) := by
  unfold f_X8_doLine
  simp only [p_nmx]
  rw [m3, nI_1, q_rd_n (by omega) (by decide), q_rd_n (by omega) (by decide), q_rd_n (by omega) (by decide), hc, if_neg (show ¬ (110 : Int32) = 99 by decide), if_neg (show ¬ (110 : Int32) = 100 by decide), if_neg (show ¬ (110 : Int32) = 101 by decide), if_neg (show ¬ (110 : Int32) = 102 by decide), if_neg (show ¬ (110 : Int32) = 103 by decide), if_neg (show ¬ (110 : Int32) = 104 by decide), if_neg (show ¬ (110 : Int32) = 105 by decide), if_neg (show ¬ (110 : Int32) = 106 by decide), if_neg (show ¬ (110 : Int32) = 107 by decide), if_neg (show ¬ (110 : Int32) = 108 by decide), if_neg (show ¬ (110 : Int32) = 109 by decide), if_pos rfl]
theorem dlV_108 {σ : qM} {i : Nat} (hi : i < 120) (hc : σ 91 i = 108) : f_X7_doLine σ (nI i) = q_cl (f_X7_link σ (σ 92 (3 * i)) (σ 92 (3 * i + 1)) (σ 92 (3 * i + 2))) (fun τ => τ) fun x s => some (x, s) := by
  unfold f_X7_doLine
  simp only [p_nmx]
  rw [m3, nI_1, q_rd_n (by omega) (by decide), q_rd_n (by omega) (by decide), q_rd_n hi (by decide), hc, if_neg (show ¬ (108 : Int32) = 99 by decide), if_neg (show ¬ (108 : Int32) = 100 by decide), if_neg (show ¬ (108 : Int32) = 101 by decide), if_neg (show ¬ (108 : Int32) = 102 by decide), if_neg (show ¬ (108 : Int32) = 103 by decide), if_neg (show ¬ (108 : Int32) = 104 by decide), if_neg (show ¬ (108 : Int32) = 105 by decide), if_neg (show ¬ (108 : Int32) = 106 by decide), if_neg (show ¬ (108 : Int32) = 107 by decide), if_pos rfl, nI_2, q_rd_n (by omega) (by decide)]
theorem dlR_108 {τ : qM} {i : Nat} (hi : i < 120) (hc : τ 15 i = 108) : f_X8_doLine τ (nI i) = q_cl (f_X8_link τ (τ 16 (3 * i)) (τ 16 (3 * i + 1)) (τ 16 (3 * i + 2))) (fun τ => τ) fun x s => some (x, s) := by
  unfold f_X8_doLine
  simp only [p_nmx]
  rw [m3, nI_1, q_rd_n (by omega) (by decide), q_rd_n (by omega) (by decide), q_rd_n (by omega) (by decide), hc, if_neg (show ¬ (108 : Int32) = 99 by decide), if_neg (show ¬ (108 : Int32) = 100 by decide), if_neg (show ¬ (108 : Int32) = 101 by decide), if_neg (show ¬ (108 : Int32) = 102 by decide), if_neg (show ¬ (108 : Int32) = 103 by decide), if_neg (show ¬ (108 : Int32) = 104 by decide), if_neg (show ¬ (108 : Int32) = 105 by decide), if_neg (show ¬ (108 : Int32) = 106 by decide), if_neg (show ¬ (108 : Int32) = 107 by decide), if_pos rfl, nI_2, q_rd_n (by omega) (by decide)]
theorem dlV_119 {σ : qM} {i : Nat} (hi : i < 120) (hc : σ 91 i = 119) : f_X7_doLine σ (nI i) = q_cl (f_X7_cost σ (σ 92 (3 * i)) (σ 92 (3 * i + 1))) (fun τ => τ) fun x s => some (x, s) := by
  unfold f_X7_doLine
  simp only [p_nmx]
  rw [m3, nI_1, q_rd_n (by omega) (by decide), q_rd_n (by omega) (by decide), q_rd_n hi (by decide), hc, if_neg (show ¬ (119 : Int32) = 99 by decide), if_neg (show ¬ (119 : Int32) = 100 by decide), if_neg (show ¬ (119 : Int32) = 101 by decide), if_neg (show ¬ (119 : Int32) = 102 by decide), if_neg (show ¬ (119 : Int32) = 103 by decide), if_neg (show ¬ (119 : Int32) = 104 by decide), if_neg (show ¬ (119 : Int32) = 105 by decide), if_neg (show ¬ (119 : Int32) = 106 by decide), if_neg (show ¬ (119 : Int32) = 107 by decide), if_neg (show ¬ (119 : Int32) = 108 by decide), if_neg (show ¬ (119 : Int32) = 109 by decide), if_neg (show ¬ (119 : Int32) = 110 by decide), if_neg (show ¬ (119 : Int32) = 111 by decide), if_neg (show ¬ (119 : Int32) = 112 by decide), if_neg (show ¬ (119 : Int32) = 113 by decide), if_neg (show ¬ (119 : Int32) = 114 by decide), if_neg (show ¬ (119 : Int32) = 115 by decide), if_neg (show ¬ (119 : Int32) = 116 by decide), if_neg (show ¬ (119 : Int32) = 117 by decide), if_neg (show ¬ (119 : Int32) = 118 by decide), if_pos rfl]
theorem dlR_119 {τ : qM} {i : Nat} (hi : i < 120) (hc : τ 15 i = 119) : f_X8_doLine τ (nI i) = q_cl (f_X8_cost τ (τ 16 (3 * i)) (τ 16 (3 * i + 1))) (fun τ => τ) fun x s => some (x, s) := by
  unfold f_X8_doLine
  simp only [p_nmx]
  rw [m3, nI_1, q_rd_n (by omega) (by decide), q_rd_n (by omega) (by decide), q_rd_n (by omega) (by decide), hc, if_neg (show ¬ (119 : Int32) = 99 by decide), if_neg (show ¬ (119 : Int32) = 100 by decide), if_neg (show ¬ (119 : Int32) = 101 by decide), if_neg (show ¬ (119 : Int32) = 102 by decide), if_neg (show ¬ (119 : Int32) = 103 by decide), if_neg (show ¬ (119 : Int32) = 104 by decide), if_neg (show ¬ (119 : Int32) = 105 by decide), if_neg (show ¬ (119 : Int32) = 106 by decide), if_neg (show ¬ (119 : Int32) = 107 by decide), if_neg (show ¬ (119 : Int32) = 108 by decide), if_neg (show ¬ (119 : Int32) = 109 by decide), if_neg (show ¬ (119 : Int32) = 110 by decide), if_neg (show ¬ (119 : Int32) = 111 by decide), if_neg (show ¬ (119 : Int32) = 112 by decide), if_neg (show ¬ (119 : Int32) = 113 by decide), if_neg (show ¬ (119 : Int32) = 114 by decide), if_neg (show ¬ (119 : Int32) = 115 by decide), if_neg (show ¬ (119 : Int32) = 116 by decide), if_neg (show ¬ (119 : Int32) = 117 by decide), if_neg (show ¬ (119 : Int32) = 118 by decide), if_pos rfl]
theorem dlV_99 {σ : qM} {i : Nat} (hi : i < 120) (hc : σ 91 i = 99) : f_X7_doLine σ (nI i) = q_cl (f_X7_turn σ (σ 92 (3 * i)) 0) (fun τ => τ) fun x s => some (x, s) := by
  unfold f_X7_doLine
  simp only [p_nmx]
  rw [m3, nI_1, q_rd_n (by omega) (by decide), q_rd_n (by omega) (by decide), q_rd_n hi (by decide), hc, if_pos rfl]
theorem dlR_99 {τ : qM} {i : Nat} (hi : i < 120) (hc : τ 15 i = 99) : f_X8_doLine τ (nI i) = q_cl (f_X8_turn τ (τ 16 (3 * i)) 0) (fun τ => τ) fun x s => some (x, s) := by
  unfold f_X8_doLine
  simp only [p_nmx]
  rw [m3, nI_1, q_rd_n (by omega) (by decide), q_rd_n (by omega) (by decide), q_rd_n (by omega) (by decide), hc, if_pos rfl]
theorem dlV_117 {σ : qM} {i : Nat} (hi : i < 120) (hc : σ 91 i = 117) : f_X7_doLine σ (nI i) = q_cl (f_X7_turn σ (σ 92 (3 * i)) 1) (fun τ => τ) fun x s => some (x, s) := by
  unfold f_X7_doLine
  simp only [p_nmx]
  rw [m3, nI_1, q_rd_n (by omega) (by decide), q_rd_n (by omega) (by decide), q_rd_n hi (by decide), hc, if_neg (show ¬ (117 : Int32) = 99 by decide), if_neg (show ¬ (117 : Int32) = 100 by decide), if_neg (show ¬ (117 : Int32) = 101 by decide), if_neg (show ¬ (117 : Int32) = 102 by decide), if_neg (show ¬ (117 : Int32) = 103 by decide), if_neg (show ¬ (117 : Int32) = 104 by decide), if_neg (show ¬ (117 : Int32) = 105 by decide), if_neg (show ¬ (117 : Int32) = 106 by decide), if_neg (show ¬ (117 : Int32) = 107 by decide), if_neg (show ¬ (117 : Int32) = 108 by decide), if_neg (show ¬ (117 : Int32) = 109 by decide), if_neg (show ¬ (117 : Int32) = 110 by decide), if_neg (show ¬ (117 : Int32) = 111 by decide), if_neg (show ¬ (117 : Int32) = 112 by decide), if_neg (show ¬ (117 : Int32) = 113 by decide), if_neg (show ¬ (117 : Int32) = 114 by decide), if_neg (show ¬ (117 : Int32) = 115 by decide), if_neg (show ¬ (117 : Int32) = 116 by decide), if_pos rfl]
theorem dlR_117 {τ : qM} {i : Nat} (hi : i < 120) (hc : τ 15 i = 117) : f_X8_doLine τ (nI i) = q_cl (f_X8_turn τ (τ 16 (3 * i)) 1) (fun τ => τ) fun x s => some (x, s) := by
  unfold f_X8_doLine
  simp only [p_nmx]
  rw [m3, nI_1, q_rd_n (by omega) (by decide), q_rd_n (by omega) (by decide), q_rd_n (by omega) (by decide), hc, if_neg (show ¬ (117 : Int32) = 99 by decide), if_neg (show ¬ (117 : Int32) = 100 by decide), if_neg (show ¬ (117 : Int32) = 101 by decide), if_neg (show ¬ (117 : Int32) = 102 by decide), if_neg (show ¬ (117 : Int32) = 103 by decide), if_neg (show ¬ (117 : Int32) = 104 by decide), if_neg (show ¬ (117 : Int32) = 105 by decide), if_neg (show ¬ (117 : Int32) = 106 by decide), if_neg (show ¬ (117 : Int32) = 107 by decide), if_neg (show ¬ (117 : Int32) = 108 by decide), if_neg (show ¬ (117 : Int32) = 109 by decide), if_neg (show ¬ (117 : Int32) = 110 by decide), if_neg (show ¬ (117 : Int32) = 111 by decide), if_neg (show ¬ (117 : Int32) = 112 by decide), if_neg (show ¬ (117 : Int32) = 113 by decide), if_neg (show ¬ (117 : Int32) = 114 by decide), if_neg (show ¬ (117 : Int32) = 115 by decide), if_neg (show ¬ (117 : Int32) = 116 by decide), if_pos rfl]
theorem dlV_104 {σ : qM} {i : Nat} (hi : i < 120) (hc : σ 91 i = 104) : f_X7_doLine σ (nI i) = q_cl (f_X7_rule σ 0 (σ 92 (3 * i))) (fun τ => τ) fun x s => some (x, s) := by
  unfold f_X7_doLine
  simp only [p_nmx]
  rw [m3, nI_1, q_rd_n (by omega) (by decide), q_rd_n (by omega) (by decide), q_rd_n hi (by decide), hc, if_neg (show ¬ (104 : Int32) = 99 by decide), if_neg (show ¬ (104 : Int32) = 100 by decide), if_neg (show ¬ (104 : Int32) = 101 by decide), if_neg (show ¬ (104 : Int32) = 102 by decide), if_neg (show ¬ (104 : Int32) = 103 by decide), if_pos rfl]
theorem dlR_104 {τ : qM} {i : Nat} (hi : i < 120) (hc : τ 15 i = 104) : f_X8_doLine τ (nI i) = q_cl (f_X8_rule τ 0 (τ 16 (3 * i))) (fun τ => τ) fun x s => some (x, s) := by
  unfold f_X8_doLine
  simp only [p_nmx]
  rw [m3, nI_1, q_rd_n (by omega) (by decide), q_rd_n (by omega) (by decide), q_rd_n (by omega) (by decide), hc, if_neg (show ¬ (104 : Int32) = 99 by decide), if_neg (show ¬ (104 : Int32) = 100 by decide), if_neg (show ¬ (104 : Int32) = 101 by decide), if_neg (show ¬ (104 : Int32) = 102 by decide), if_neg (show ¬ (104 : Int32) = 103 by decide), if_pos rfl]
theorem dlV_113 {σ : qM} {i : Nat} (hi : i < 120) (hc : σ 91 i = 113) : f_X7_doLine σ (nI i) = q_cl (f_X7_rule σ 1 (σ 92 (3 * i))) (fun τ => τ) fun x s => some (x, s) := by
  unfold f_X7_doLine
  simp only [p_nmx]
  rw [m3, nI_1, q_rd_n (by omega) (by decide), q_rd_n (by omega) (by decide), q_rd_n hi (by decide), hc, if_neg (show ¬ (113 : Int32) = 99 by decide), if_neg (show ¬ (113 : Int32) = 100 by decide), if_neg (show ¬ (113 : Int32) = 101 by decide), if_neg (show ¬ (113 : Int32) = 102 by decide), if_neg (show ¬ (113 : Int32) = 103 by decide), if_neg (show ¬ (113 : Int32) = 104 by decide), if_neg (show ¬ (113 : Int32) = 105 by decide), if_neg (show ¬ (113 : Int32) = 106 by decide), if_neg (show ¬ (113 : Int32) = 107 by decide), if_neg (show ¬ (113 : Int32) = 108 by decide), if_neg (show ¬ (113 : Int32) = 109 by decide), if_neg (show ¬ (113 : Int32) = 110 by decide), if_neg (show ¬ (113 : Int32) = 111 by decide), if_neg (show ¬ (113 : Int32) = 112 by decide), if_pos rfl]
theorem dlR_113 {τ : qM} {i : Nat} (hi : i < 120) (hc : τ 15 i = 113) : f_X8_doLine τ (nI i) = q_cl (f_X8_rule τ 1 (τ 16 (3 * i))) (fun τ => τ) fun x s => some (x, s) := by
  unfold f_X8_doLine
  simp only [p_nmx]
  rw [m3, nI_1, q_rd_n (by omega) (by decide), q_rd_n (by omega) (by decide), q_rd_n (by omega) (by decide), hc, if_neg (show ¬ (113 : Int32) = 99 by decide), if_neg (show ¬ (113 : Int32) = 100 by decide), if_neg (show ¬ (113 : Int32) = 101 by decide), if_neg (show ¬ (113 : Int32) = 102 by decide), if_neg (show ¬ (113 : Int32) = 103 by decide), if_neg (show ¬ (113 : Int32) = 104 by decide), if_neg (show ¬ (113 : Int32) = 105 by decide), if_neg (show ¬ (113 : Int32) = 106 by decide), if_neg (show ¬ (113 : Int32) = 107 by decide), if_neg (show ¬ (113 : Int32) = 108 by decide), if_neg (show ¬ (113 : Int32) = 109 by decide), if_neg (show ¬ (113 : Int32) = 110 by decide), if_neg (show ¬ (113 : Int32) = 111 by decide), if_neg (show ¬ (113 : Int32) = 112 by decide), if_pos rfl]
theorem dlV_100 {σ : qM} {i : Nat} (hi : i < 120) (hc : σ 91 i = 100) : f_X7_doLine σ (nI i) = q_cl (f_X7_rule σ 2 (σ 92 (3 * i))) (fun τ => τ) fun x s => some (x, s) := by
  unfold f_X7_doLine
  simp only [p_nmx]
  rw [m3, nI_1, q_rd_n (by omega) (by decide), q_rd_n (by omega) (by decide), q_rd_n hi (by decide), hc, if_neg (show ¬ (100 : Int32) = 99 by decide), if_pos rfl]
theorem dlR_100 {τ : qM} {i : Nat} (hi : i < 120) (hc : τ 15 i = 100) : f_X8_doLine τ (nI i) = q_cl (f_X8_rule τ 2 (τ 16 (3 * i))) (fun τ => τ) fun x s => some (x, s) := by
  unfold f_X8_doLine
  simp only [p_nmx]
  rw [m3, nI_1, q_rd_n (by omega) (by decide), q_rd_n (by omega) (by decide), q_rd_n (by omega) (by decide), hc, if_neg (show ¬ (100 : Int32) = 99 by decide), if_pos rfl]
theorem dlV_114 {σ : qM} {i : Nat} (hi : i < 120) (hc : σ 91 i = 114) : f_X7_doLine σ (nI i) = q_cl (f_X7_rounds σ (σ 92 (3 * i))) (fun τ => τ) fun x s => some (x, s) := by
  unfold f_X7_doLine
  simp only [p_nmx]
  rw [m3, nI_1, q_rd_n (by omega) (by decide), q_rd_n (by omega) (by decide), q_rd_n hi (by decide), hc, if_neg (show ¬ (114 : Int32) = 99 by decide), if_neg (show ¬ (114 : Int32) = 100 by decide), if_neg (show ¬ (114 : Int32) = 101 by decide), if_neg (show ¬ (114 : Int32) = 102 by decide), if_neg (show ¬ (114 : Int32) = 103 by decide), if_neg (show ¬ (114 : Int32) = 104 by decide), if_neg (show ¬ (114 : Int32) = 105 by decide), if_neg (show ¬ (114 : Int32) = 106 by decide), if_neg (show ¬ (114 : Int32) = 107 by decide), if_neg (show ¬ (114 : Int32) = 108 by decide), if_neg (show ¬ (114 : Int32) = 109 by decide), if_neg (show ¬ (114 : Int32) = 110 by decide), if_neg (show ¬ (114 : Int32) = 111 by decide), if_neg (show ¬ (114 : Int32) = 112 by decide), if_neg (show ¬ (114 : Int32) = 113 by decide), if_pos rfl]
theorem dlR_114 {τ : qM} {i : Nat} (hi : i < 120) (hc : τ 15 i = 114) : f_X8_doLine τ (nI i) = q_cl (f_X8_rounds τ (τ 16 (3 * i))) (fun τ => τ) fun x s => some (x, s) := by
  unfold f_X8_doLine
  simp only [p_nmx]
  rw [m3, nI_1, q_rd_n (by omega) (by decide), q_rd_n (by omega) (by decide), q_rd_n (by omega) (by decide), hc, if_neg (show ¬ (114 : Int32) = 99 by decide), if_neg (show ¬ (114 : Int32) = 100 by decide), if_neg (show ¬ (114 : Int32) = 101 by decide), if_neg (show ¬ (114 : Int32) = 102 by decide), if_neg (show ¬ (114 : Int32) = 103 by decide), if_neg (show ¬ (114 : Int32) = 104 by decide), if_neg (show ¬ (114 : Int32) = 105 by decide), if_neg (show ¬ (114 : Int32) = 106 by decide), if_neg (show ¬ (114 : Int32) = 107 by decide), if_neg (show ¬ (114 : Int32) = 108 by decide), if_neg (show ¬ (114 : Int32) = 109 by decide), if_neg (show ¬ (114 : Int32) = 110 by decide), if_neg (show ¬ (114 : Int32) = 111 by decide), if_neg (show ¬ (114 : Int32) = 112 by decide), if_neg (show ¬ (114 : Int32) = 113 by decide), if_pos rfl]
theorem doLine_sim {n m : Nat} {K : Nat → Nat} {σ τ : qM} (h : RNp n m K (q_sub 1 σ) (τ 1)) {i : Nat} (hi : i < 120) (hl : RLn (q_sub 89 σ) τ i) : ∃ (r : Int32) (σ1 τ1 : qM) (n1 m1 : Nat) (K1 : Nat → Nat), f_X7_doLine σ (nI i) = some (r, σ1) ∧ f_X8_doLine τ (nI i) = some (r, τ1) ∧ RNp n1 m1 K1 (q_sub 1 σ1) (τ1 1) ∧ frV σ σ1 ∧ frR τ τ1 := by
  obtain ⟨c, w, a1, a2, a3, a4⟩ := hl
  have a2 : σ 91 i = c := a2
  rcases wOf_some a1 with ⟨rfl, rfl⟩ | ⟨rfl, rfl⟩ | ⟨rfl, rfl⟩ | ⟨rfl, rfl⟩ | ⟨rfl, rfl⟩ | ⟨rfl, rfl⟩ | ⟨rfl, rfl⟩ | ⟨rfl, rfl⟩ | ⟨rfl, rfl⟩
  · rw [dlV_110 hi a2, dlR_110 hi a3]
    exact simN_cl (N_router) n m K σ τ h
  · rw [dlV_108 hi a2, dlR_108 hi a3]
    have b0 : σ 92 (3 * i) = τ 16 (3 * i) := a4 0 (by decide)
    have b1 : σ 92 (3 * i + 1) = τ 16 (3 * i + 1) := a4 1 (by decide)
    have b2 : σ 92 (3 * i + 2) = τ 16 (3 * i + 2) := a4 2 (by decide)
    rw [b0, b1, b2]
    exact simN_cl (N_link (τ 16 (3 * i)) (τ 16 (3 * i + 1)) (τ 16 (3 * i + 2))) n m K σ τ h
  · rw [dlV_119 hi a2, dlR_119 hi a3]
    have b0 : σ 92 (3 * i) = τ 16 (3 * i) := a4 0 (by decide)
    have b1 : σ 92 (3 * i + 1) = τ 16 (3 * i + 1) := a4 1 (by decide)
    rw [b0, b1]
    exact simN_cl (N_cost (τ 16 (3 * i)) (τ 16 (3 * i + 1))) n m K σ τ h
  · rw [dlV_99 hi a2, dlR_99 hi a3]
    have b0 : σ 92 (3 * i) = τ 16 (3 * i) := a4 0 (by decide)
    rw [b0]
    exact simN_cl (N_turn (τ 16 (3 * i)) 0) n m K σ τ h
  · rw [dlV_117 hi a2, dlR_117 hi a3]
    have b0 : σ 92 (3 * i) = τ 16 (3 * i) := a4 0 (by decide)
    rw [b0]
    exact simN_cl (N_turn (τ 16 (3 * i)) 1) n m K σ τ h
  · rw [dlV_104 hi a2, dlR_104 hi a3]
    have b0 : σ 92 (3 * i) = τ 16 (3 * i) := a4 0 (by decide)
    rw [b0]
    exact simN_cl (N_rule 0 (τ 16 (3 * i))) n m K σ τ h
  · rw [dlV_113 hi a2, dlR_113 hi a3]
    have b0 : σ 92 (3 * i) = τ 16 (3 * i) := a4 0 (by decide)
    rw [b0]
    exact simN_cl (N_rule 1 (τ 16 (3 * i))) n m K σ τ h
  · rw [dlV_100 hi a2, dlR_100 hi a3]
    have b0 : σ 92 (3 * i) = τ 16 (3 * i) := a4 0 (by decide)
    rw [b0]
    exact simN_cl (N_rule 2 (τ 16 (3 * i))) n m K σ τ h
  · rw [dlV_114 hi a2, dlR_114 hi a3]
    have b0 : σ 92 (3 * i) = τ 16 (3 * i) := a4 0 (by decide)
    rw [b0]
    exact simN_cl (N_rounds (τ 16 (3 * i))) n m K σ τ h
theorem copyR (τ : qM) {a b : Nat} (hab : (a = 1 ∧ b = 3) ∨ (a = 3 ∧ b = 1)) : ∃ T' τ', f_X8_copy (q_sub2 1 a b τ) = some (0, T') ∧ q_put2 1 a 1 b τ T' = τ' ∧ (∀ i, i < 650 → τ' b i = τ a i) ∧ ∀ k, k ≠ b → τ' k = τ k := by
  obtain ⟨T', t1, t2, t3⟩ := copyS (q_sub2 1 a b τ)
  refine ⟨T', _, t1, rfl, fun i hi => ?_, fun k hk => ?_⟩
  · rw [p_put2, if_neg (by omega), if_pos (by omega), show 1 + (b - b) = 1 by omega, t2 i hi, p_sub2, if_pos (by decide)] <;> rfl
  · rw [p_put2]
    by_cases c : a ≤ k ∧ k < a + 1
    · rw [if_pos c, show k - a = 0 by omega, t3 0 (by decide), p_sub2, if_pos (by decide), show a + 0 = k by omega]
    · rw [if_neg c, if_neg (by omega)]
/-- what a text leaves as it was -/
def frS (σ τ σ1 τ1 : qM) : Prop := σ1 0 = σ 0 ∧ (∀ k, 43 ≤ k → k < 64 → σ1 k = σ k) ∧ (∀ k, 93 ≤ k → σ1 k = σ k) ∧ τ1 0 22 = τ 0 22 ∧ ∀ i, 17 ≤ i → τ1 i = τ i
theorem doing {Q n0 m0 : Nat} {K0 : Nat → Nat} (hQ : Q ≤ 61) : ∀ (f i : Nat) (n m : Nat) (K : Nat → Nat) (σ τ : qM), i + f = Q → RNp n m K (q_sub 1 σ) (τ 1) → RNp n0 m0 K0 (q_sub 64 σ) (τ 3) → σ 89 4 = nI Q → (∀ i, i < Q → RLn (q_sub 89 σ) τ i) → ∃ (r : Int32) (σ1 τ1 : qM) (n1 m1 : Nat) (K1 : Nat → Nat), q_lim D_X7_script 0 σ [nI i] = some (r, σ1) ∧ q_lim D_X8_script 3 τ [nI Q, nI i] = some (r, τ1) ∧ RNp n1 m1 K1 (q_sub 1 σ1) (τ1 1) ∧ σ1 0 = σ 0 ∧ (∀ k, 43 ≤ k → k < 64 → σ1 k = σ k) ∧ (∀ k, 89 ≤ k → σ1 k = σ k) ∧ (∀ j, 17 ≤ j → τ1 0 j = τ 0 j) ∧ ∀ i, 14 ≤ i → τ1 i = τ i := by
  intro f
  induction f with
  | zero =>
    intro i n m K σ τ hi h h0 h4 hl
    have e : i = Q := by omega
    subst e
    refine ⟨nI i, σ, τ, n, m, K, q_lim_ret (fun go => ?_), q_lim_ret (fun go => ?_), h, rfl, fun _ _ _ => rfl, fun _ _ => rfl, fun _ _ => rfl, fun _ _ => rfl⟩
    · show b_X7_script_39 go σ (nI i) = _
      unfold b_X7_script_39
      simp only [p_nmx]
      rw [h4, if_pos (nI_le (Nat.le_refl _) (by omega))]
    · rw [D_sc_3]
      unfold b_X8_script_114
      rw [if_pos (nI_le (Nat.le_refl _) (by omega))]
  | succ f ih =>
    intro i n m K σ τ hi h h0 h4 hl
    obtain ⟨r, σ1, τ1, n1, m1, K1, e1, e2, e3, e4, e5⟩ := doLine_sim h (i := i) (by omega) (hl i (by omega))
    have V : ∀ go : qB, D_X7_script go 0 σ [nI i] = if (0 : Int32) ≤ r then go 0 σ1 [nI (i + 1)] else (q_cl (f_X3_become (q_sub2 21 1 64 σ1)) (q_put2 21 1 21 64 σ1) fun _ s15 => some ((-2000 : Int32) - nI i, s15)) := fun go => by
      show b_X7_script_39 go σ (nI i) = _
      unfold b_X7_script_39
      simp only [p_nmx]
      rw [h4, if_neg (nI_ge (by omega) (by omega)), e1, p_cl, nI_1]
    have R : ∀ go : qB, D_X8_script go 3 τ [nI Q, nI i] = if r < 0 then (q_cl (f_X8_copy (q_sub2 1 3 1 τ1)) (q_put2 1 3 1 1 τ1) fun _ s36 => some ((-2000 : Int32) - nI i, s36)) else go 3 τ1 [nI Q, nI (i + 1)] := fun go => by
      rw [D_sc_3]
      unfold b_X8_script_114
      simp only [p_nmx]
      rw [if_neg (nI_ge (by omega) (by omega)), e2, p_cl, nI_1]
    have h01 : RNp n0 m0 K0 (q_sub 64 σ1) (τ1 3) := by
      rw [e5.1 3 (Or.inr rfl)]
      exact RNp_ext h0 (fun k hk => e4.2.1 (64 + k) (by omega) (by omega))
    by_cases c : (0 : Int32) ≤ r
    · obtain ⟨r2, σ2, τ2, n2, m2, K2, d1, d2, d3, d4, d5, d6, d7, d8⟩ := ih (i + 1) n1 m1 K1 σ1 τ1 (by omega) e3 h01 (by rw [e4.2.2 89 (by decide)]; exact h4) (fun k hk => by
        obtain ⟨ch, w, a1, a2, a3, a4⟩ := hl k hk
        have s91 : q_sub 89 σ1 2 = q_sub 89 σ 2 := e4.2.2 91 (by decide)
        have s92 : q_sub 89 σ1 3 = q_sub 89 σ 3 := e4.2.2 92 (by decide)
        exact ⟨ch, w, a1, by rw [s91]; exact a2, by rw [e5.1 15 (by decide)]; exact a3, fun j hj => by rw [s92, e5.1 16 (by decide)]; exact a4 j hj⟩)
      refine ⟨r2, σ2, τ2, n2, m2, K2, ?_, ?_, d3, d4.trans e4.1, fun k u v => (d5 k u v).trans (e4.2.1 k u (by omega)), fun k u => (d6 k u).trans (e4.2.2 k u), fun j u => (d7 j u).trans (e5.2 j u), fun k u => (d8 k u).trans (e5.1 k (Or.inl u))⟩
      · rw [q_lim_eq (fun go => by rw [V go, if_pos c])]; exact d1
      · rw [q_lim_eq (fun go => by rw [R go, if_neg (i_nlt.mpr c)])]; exact d2
    · obtain ⟨W', σ2, b1, b2, b3, b4⟩ := becomeV σ1 (o1 := 1) (o2 := 64) (by omega)
      obtain ⟨T', τ2, t1, t2, t3, t4⟩ := copyR τ1 (a := 3) (b := 1) (Or.inr ⟨rfl, rfl⟩)
      refine ⟨(-2000 : Int32) - nI i, σ2, τ2, n0, m0, K0, q_lim_ret (fun go => by rw [V go, if_neg c, b1, p_cl, b2]), q_lim_ret (fun go => by rw [R go, if_pos (i_nle.mp c), t1, p_cl, t2]), RNp_650 (b4 n0 m0 K0 _ h01) t3, (b3 0 (by omega)).trans e4.1, fun k u v => (b3 k (by omega)).trans (e4.2.1 k u (by omega)), fun k u => (b3 k (by omega)).trans (e4.2.2 k u), fun j u => by rw [t4 0 (by decide)]; exact e5.2 j u, fun k u => by rw [t4 k (by omega)]; exact e5.1 k (Or.inl u)⟩
theorem script_sim {n m : Nat} {K : Nat → Nat} {σ τ : qM} (h : RNp n m K (q_sub 1 σ) (τ 1)) (hB : RTp σ τ) : ∃ (r : Int32) (σ1 τ1 : qM) (n1 m1 : Nat) (K1 : Nat → Nat), f_X7_script σ = some (r, σ1) ∧ f_X8_script τ = some (r, τ1) ∧ RNp n1 m1 K1 (q_sub 1 σ1) (τ1 1) ∧ RTp σ1 τ1 ∧ frS σ τ σ1 τ1 := by
  obtain ⟨L, l1, l2, l3, l4⟩ := hB
  obtain ⟨τ0, hτ0⟩ : ∃ z, z = q_wr (q_wr τ 0 18 0) 0 19 (-1) := ⟨_, rfl⟩
  obtain ⟨T0, hT0⟩ : ∃ z, z = q_wr (q_wr (q_sub 89 σ) 0 4 0) 0 5 0 := ⟨_, rfl⟩
  have l2 : q_sub 89 σ 0 1 = nI L := l2
  have P0 : PP L T0 τ0 0 := ⟨l1, by omega, by rw [hT0, p_wrj (by decide), p_wrj (by decide)]; exact l2, by rw [hT0]; exact p_wrs _ _ _ _, by rw [hτ0, p_wrj (by decide), p_wrj (by decide)]; exact l3, by rw [hτ0, p_wrj (by decide)]; exact p_wrs _ _ _ _, fun i hi => by rw [hT0, p_wrk (by decide), p_wrk (by decide), hτ0, p_wrk (by decide), p_wrk (by decide)]; exact l4 i hi⟩
  have t4 : T0 0 4 = nI 0 := by rw [hT0, p_wrj (by decide)]; exact p_wrs _ _ _ _
  have t9 : τ0 0 19 = -1 := by rw [hτ0, p_wrs]
  obtain ⟨r9, T9, τ9, p9, i1, i2, -⟩ := line_sim P0 (q := 0) (by decide) t4 t9
  obtain ⟨x, T', τ', Q, j1, j2, ⟨x1, x2, x3, x4⟩, j4⟩ := lines_sim (L := L) 61 0 0 T0 τ0 τ9 rfl (by omega) P0 t4 t9 (fun i hi => by omega) i2
  obtain ⟨σ3, hσ3⟩ : ∃ z, z = q_wr (q_put 89 4 σ T') 89 1 0 := ⟨_, rfl⟩
  obtain ⟨τ4, hτ4⟩ : ∃ z, z = q_wr τ' 0 17 0 := ⟨_, rfl⟩
  have V0 : f_X7_script σ = (if x < 0 then (q_cl (f_X3_become (q_sub2 21 64 1 σ3)) (q_put2 21 64 21 1 σ3) fun _ s5 => q_lim D_X7_script 0 s5 [0]) else some ((-1000 : Int32) - x, σ3)) := by
    unfold f_X7_script e_X7_script
    have e : f_X5_readLines (q_sub 89 σ) = some (x, T') := by
      unfold f_X5_readLines e_X5_readLines
      simp only [p_nmx]
      rw [← hT0]
      exact j1
    rw [e, p_cl]
    simp only [p_nmx]
    rw [← hσ3]
  have R0 : f_X8_script τ = q_lim D_X8_script 2 τ' [nI Q] := by
    unfold f_X8_script e_X8_script
    simp only [p_nmx]
    rw [← hτ0, show f_X8_readLine τ0 0 = some (0, τ9) from i2, p_cl]
    exact j2
  have R1 : ∀ go : qB, D_X8_script go 2 τ' [nI Q] = (if τ' 0 19 < 0 then (q_cl (f_X8_copy (q_sub2 1 1 3 τ4)) (q_put2 1 1 1 3 τ4) fun _ s27 => go 3 s27 [nI Q, 0]) else some ((-1000 : Int32) - τ' 0 19, τ4)) := fun go => by
    rw [D_sc_2]
    unfold b_X8_script_80
    simp only [p_nmx]
    rw [p_wrj (i := 17) (j := 19) (by decide), ← hτ4]
  have s1 : ∀ k, (k < 89 ∨ 93 ≤ k) → σ3 k = σ k := fun k hk => by rw [hσ3, p_wrk (by omega), p_put, if_neg (by omega)]
  have u1 : τ4 1 = τ 1 := by rw [hτ4, p_wrk (by decide), x3 1 (by decide) (by decide) (by decide), hτ0, p_wrk (by decide), p_wrk (by decide)]
  have u2 : ∀ k, 17 ≤ k → τ4 k = τ k := fun k hk => by rw [hτ4, p_wrk (by omega), x3 k (by omega) (by omega) (by omega), hτ0, p_wrk (by omega), p_wrk (by omega)]
  have u3 : τ4 0 22 = τ 0 22 := by rw [hτ4, p_wrj (by decide), x4 22 (by decide) (by decide), hτ0, p_wrj (by decide), p_wrj (by decide)]
  have h3 : RNp n m K (q_sub 1 σ3) (τ4 1) := by
    rw [u1]
    exact RNp_ext h (fun k hk => s1 (1 + k) (by omega))
  have z1 : σ3 89 1 = nI 0 := by rw [hσ3]; exact p_wrs _ _ _ _
  have z2 : τ4 0 17 = nI 0 := by rw [hτ4]; exact p_wrs _ _ _ _
  rcases j4 with ⟨p', y1, y2, y3⟩ | ⟨y1, y2, y3, y4, y5⟩
  · have np : ¬ nI p' < 0 := nI_pos (by omega)
    rw [y2, if_neg np] at V0
    refine ⟨_, σ3, τ4, n, m, K, V0, R0.trans (q_lim_ret (fun go => by rw [R1 go, y3, if_neg np])), h3, ⟨0, by omega, z1, z2, fun i hi => by omega⟩, s1 0 (by omega), fun k a b => s1 k (by omega), fun k a => s1 k (by omega), u3, u2⟩
  · obtain ⟨W', σ5, b1, b2, b3, b4⟩ := becomeV σ3 (o1 := 64) (o2 := 1) (by omega)
    obtain ⟨T7, τ7, t1, t2, t3, t5⟩ := copyR τ4 (a := 1) (b := 3) (Or.inl ⟨rfl, rfl⟩)
    rw [y1, if_pos (show (-1 : Int32) < 0 by decide), b1, p_cl, b2] at V0
    have R2 : q_lim D_X8_script 2 τ' [nI Q] = q_lim D_X8_script 3 τ7 [nI Q, 0] := q_lim_eq (fun go => by
      rw [R1 go, y2, if_pos (show (-1 : Int32) < 0 by decide), t1, p_cl, t2])
    have a0 : RNp n m K (q_sub 1 σ5) (τ7 1) := by
      rw [t5 1 (by decide)]
      exact RNp_ext h3 (fun k hk => b3 (1 + k) (by omega))
    have a1 : RNp n m K (q_sub 64 σ5) (τ7 3) := RNp_650 (b4 n m K _ h3) t3
    have g89 : ∀ k, k < 4 → k ≠ 0 → q_sub 89 σ5 k = T' k := fun k hk hk0 => by
      show σ5 (89 + k) = T' k
      rw [b3 _ (by omega), hσ3, p_wrk (by omega), p_put, if_pos (by omega), show 89 + k - 89 = k by omega]
    have a4 : σ5 89 4 = nI Q := by
      rw [b3 89 (by omega), hσ3, p_wrj (by decide), p_put, if_pos (by omega), Nat.sub_self]
      exact y3
    obtain ⟨r, σ1, τ1, n1, m1, K1, d1, d2, d3, d4, d5, d6, d7, d8⟩ := doing (Q := Q) y4 Q 0 n m K σ5 τ7 (by omega) a0 a1 a4 (fun i hi => by
      obtain ⟨ch, w, c1, c2, c3, c4⟩ := y5 i hi
      have k15 : τ7 15 = τ' 15 := by rw [t5 15 (by decide), hτ4, p_wrk (by decide)]
      have k16 : τ7 16 = τ' 16 := by rw [t5 16 (by decide), hτ4, p_wrk (by decide)]
      exact ⟨ch, w, c1, by rw [g89 2 (by decide) (by decide)]; exact c2, by rw [k15]; exact c3, fun k hk => by rw [g89 3 (by decide) (by decide), k16]; exact c4 k hk⟩)
    refine ⟨r, σ1, τ1, n1, m1, K1, V0.trans d1, (R0.trans R2).trans d2, d3, ⟨0, by omega, ?_, ?_, fun i hi => by omega⟩, ?_, fun k u v => ?_, fun k u => ?_, ?_, fun k u => ?_⟩
    · rw [d6 89 (by decide), b3 89 (by omega)]; exact z1
    · rw [d7 17 (by decide), t5 0 (by decide)]; exact z2
    · rw [d4, b3 0 (by omega), s1 0 (by omega)]
    · rw [d5 k u v, b3 k (by omega), s1 k (by omega)]
    · rw [d6 k (by omega), b3 k (by omega), s1 k (by omega)]
    · rw [d7 22 (by decide), t5 0 (by decide)]; exact u3
    · rw [d8 k (by omega), t5 k (by omega), u2 k u]
theorem feed_sim {σ τ : qM} (hB : RTp σ τ) (x : Int32) : ∃ (r : Int32) (σ1 τ1 : qM), f_X7_feed σ x = some (r, σ1) ∧ f_X8_feed τ x = some (r, τ1) ∧ RTp σ1 τ1 ∧ (∀ k, k ≠ 89 → k ≠ 90 → σ1 k = σ k) ∧ (∀ i, i ≠ 0 → i ≠ 14 → τ1 i = τ i) ∧ ∀ j, j ≠ 17 → τ1 0 j = τ 0 j := by
  obtain ⟨L, l1, l2, l3, l4⟩ := id hB
  have V0 : f_X7_feed σ x = (if x < 0 then some (-1, σ) else if x ≤ 255 then (if nI L < 120 then (q_cl (f_X5_add (q_sub 89 σ) x) (q_put 89 4 σ) fun x7 s6 => some (x7, s6)) else some (-3, σ)) else some (-1, σ)) := by
    unfold f_X7_feed
    simp only [p_nmx]
    rw [l2]
  by_cases c : (0 : Int32) ≤ x ∧ x ≤ 255
  · rw [if_neg (i_nlt.mpr c.1), if_pos c.2] at V0
    have R0 : f_X8_feed τ x = (if nI L = 120 then some (-3, τ) else q_wt τ 14 120 (nI L) x fun s8 => some (s8 0 17 + 1, q_wr s8 0 17 (s8 0 17 + 1))) := by
      unfold f_X8_feed
      simp only [p_nmx, p_wrs]
      rw [inS, p_cl, if_pos c, if_neg ne10, l3]
    by_cases y : L < 120
    · have l2' : q_sub 89 σ 0 1 = nI L := l2
      have ad : f_X5_add (q_sub 89 σ) x = some (nI (L + 1), q_wr (q_wr (q_sub 89 σ) 1 L x) 0 1 (nI (L + 1))) := by
        unfold f_X5_add
        simp only [p_nmx, p_wrs]
        rw [l2', q_wt_n y (by decide), p_wrk (r := 1) (k := 0) (by decide), l2', nI_1]
      rw [if_pos (show nI L < 120 from nI_lt (b := 120) y (by decide)), ad, p_cl, p_put_wr (by decide), p_put_wr (by decide), p_put_sub] at V0
      have V0 : f_X7_feed σ x = some (nI (L + 1), q_wr (q_wr σ 90 L x) 89 1 (nI (L + 1))) := V0
      rw [if_neg (fun z => by have := p_inj (a := L) (b := 120) (by omega) (by decide) z; omega), q_wt_n y (by decide), p_wrk (r := 14) (k := 0) (by decide), l3, nI_1] at R0
      refine ⟨_, _, _, V0, R0, ⟨L + 1, by omega, p_wrs _ _ _ _, p_wrs _ _ _ _, fun i hi => ?_⟩, fun k u v => ?_, fun i u v => ?_, fun j u => ?_⟩
      · rw [p_wrk (r := 89) (k := 90) (by decide), p_wrk (r := 0) (k := 14) (by decide)]
        by_cases e : i = L
        · rw [e, p_wrs, p_wrs]
        · rw [p_wrj e, p_wrj e]; exact l4 i (by omega)
      · rw [p_wrk u, p_wrk v]
      · rw [p_wrk u, p_wrk v]
      · rw [p_wrj u, p_wrk (by decide)]
    · have e : L = 120 := by omega
      rw [if_neg (show ¬ nI L < 120 by rw [e]; decide)] at V0
      rw [if_pos (show nI L = 120 by rw [e]; rfl)] at R0
      exact ⟨-3, σ, τ, V0, R0, hB, fun _ _ _ => rfl, fun _ _ _ => rfl, fun _ _ => rfl⟩
  · refine ⟨-1, σ, τ, ?_, ?_, hB, fun _ _ _ => rfl, fun _ _ _ => rfl, fun _ _ => rfl⟩
    · rw [V0]
      by_cases w : x < 0
      · rw [if_pos w]
      · rw [if_neg w, if_neg (fun z => c ⟨i_nlt.mp w, z⟩)]
    · unfold f_X8_feed
      rw [inS, p_cl, if_neg c, if_pos rfl]
