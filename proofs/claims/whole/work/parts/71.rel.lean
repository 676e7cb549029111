/-! the relation that the law keeps, and every call keeps it -/
def RelW (σ τ : qM) : Prop := (∃ (n m : Nat) (K : Nat → Nat), RNp n m K (q_sub 1 σ) (τ 1)) ∧ RImg σ τ ∧ RTp σ τ ∧ RH σ τ
theorem RTp_eq {σ τ σ1 τ1 : qM} (h : RTp σ τ) (h1 : σ1 89 = σ 89) (h2 : σ1 90 = σ 90) (h3 : τ1 0 17 = τ 0 17) (h4 : τ1 14 = τ 14) : RTp σ1 τ1 := by
  obtain ⟨L, a, b, c, d⟩ := h
  exact ⟨L, a, by rw [h1]; exact b, by rw [h3]; exact c, fun i hi => by rw [h2, h4]; exact d i hi⟩
theorem RImg_eq {σ τ σ1 τ1 : qM} (h : RImg σ τ) (h1 : σ1 0 8 = σ 0 8) (h2 : ∀ k, 43 ≤ k → k < 64 → σ1 k = σ k) (h3 : τ1 0 22 = τ 0 22) (h4 : τ1 17 = τ 17) : RImg σ1 τ1 := by
  rcases h with ⟨a, b⟩ | ⟨a, b, n, m, K, c⟩
  · exact Or.inl ⟨h1.trans a, h3.trans b⟩
  · refine Or.inr ⟨h1.trans a, h3.trans b, n, m, K, ?_⟩
    rw [h4]
    exact RNp_ext c (fun k hk => h2 (43 + k) (by omega) (by omega))
theorem Sx_of {f g : qM → Option (Int32 × qM)} (h : simN f g) {σ τ : qM} (hR : RelW σ τ) : ∃ (r : Int32) (σ1 τ1 : qM), f σ = some (r, σ1) ∧ g τ = some (r, τ1) ∧ RelW σ1 τ1 := by
  obtain ⟨⟨n, m, K, h1⟩, h2, h3, h4⟩ := hR
  obtain ⟨r, σ1, τ1, n1, m1, K1, e1, e2, e3, e4, e5⟩ := h n m K σ τ h1
  exact ⟨r, σ1, τ1, e1, e2, ⟨n1, m1, K1, e3⟩, RImg_fr h2 e4 e5, RTp_eq h3 (e4.2.2 89 (by decide)) (e4.2.2 90 (by decide)) (e5.2 17 (by decide)) (e5.1 14 (by decide)), RH_fr h4 (fun k hk => e4.2.2 k (by omega)) (e5.1 18 (by decide)) (e5.1 19 (by decide))⟩
theorem S_ofK {σ τ : qM} (hR : RelW σ τ) {o1 o2 : Option (Int32 × qM)} (h : simK o1 o2 σ τ) : ∃ (r : Int32) (σ1 τ1 : qM), o1 = some (r, σ1) ∧ o2 = some (r, τ1) ∧ RelW σ1 τ1 := by
  obtain ⟨⟨n, m, K, h1⟩, h2, h3, h4⟩ := hR
  obtain ⟨r, σ1, τ1, e1, e2, e3, e4, e5⟩ := h
  refine ⟨r, σ1, τ1, e1, e2, ⟨n, m, K, ?_⟩, RImg_eq h2 (by rw [e4 0 (by decide)]) (fun k a b => e4 k (by omega)) (by rw [e5 0 (by decide)]) (e5 17 (by decide)), RTp_eq h3 (e4 89 (by decide)) (e4 90 (by decide)) (by rw [e5 0 (by decide)]) (e5 14 (by decide)), e3⟩
  rw [e5 1 (by decide)]
  exact RNp_ext h1 (fun k hk => e4 (1 + k) (by omega))
theorem S_of0 {σ τ : qM} (hR : RelW σ τ) {o1 o2 : Option (Int32 × qM)} (h : ∃ r : Int32, o1 = some (r, σ) ∧ o2 = some (r, τ)) : ∃ (r : Int32) (σ1 τ1 : qM), o1 = some (r, σ1) ∧ o2 = some (r, τ1) ∧ RelW σ1 τ1 := by
  obtain ⟨r, e1, e2⟩ := h
  exact ⟨r, σ, τ, e1, e2, hR⟩
theorem Sz_router : S_router RelW := fun σ τ hR => Sx_of N_router hR
theorem Sz_link : S_link RelW := fun σ τ x1 x2 x3 hR => Sx_of (N_link x1 x2 x3) hR
theorem Sz_turn : S_turn RelW := fun σ τ x1 x2 hR => Sx_of (N_turn x1 x2) hR
theorem Sz_cost : S_cost RelW := fun σ τ x1 x2 hR => Sx_of (N_cost x1 x2) hR
theorem Sz_rule : S_rule RelW := fun σ τ x1 x2 hR => Sx_of (N_rule x1 x2) hR
theorem Sz_of : S_of RelW := fun σ τ x1 x2 hR => Sx_of (N_of x1 x2) hR
theorem Sz_between : S_between RelW := fun σ τ x1 x2 hR => Sx_of (N_between x1 x2) hR
theorem Sz_rounds : S_rounds RelW := fun σ τ x1 hR => Sx_of (N_rounds x1) hR
theorem Sz_entry : S_entry RelW := fun σ τ x1 x2 x3 hR => Sx_of (N_entry x1 x2 x3) hR
theorem Sz_known : S_known RelW := fun σ τ x1 x2 hR => Sx_of (N_known x1 x2) hR
theorem Sz_told : S_told RelW := fun σ τ x1 hR => Sx_of (N_told x1) hR
theorem Sz_then : S_then RelW := fun σ τ x1 x2 x3 x4 hR => Sx_of (N_then x1 x2 x3 x4) hR
theorem Sz_way : S_way RelW := fun σ τ x1 x2 x3 hR => Sx_of (N_way x1 x2 x3) hR
theorem Sz_ends : S_ends RelW := fun σ τ x1 x2 hR => Sx_of (N_ends x1 x2) hR
theorem Sz_shortest : S_shortest RelW := fun σ τ x1 x2 hR => Sx_of (N_shortest x1 x2) hR
theorem Sz_counts : S_counts RelW := fun σ τ x1 x2 hR => Sx_of (N_counts x1 x2) hR
theorem Sz_packet : S_packet RelW := fun σ τ x1 x2 x3 x4 hR => Sx_of (N_packet x1 x2 x3 x4) hR
theorem Sz_tried : S_tried RelW := fun σ τ x1 hR => Sx_of (N_tried x1) hR
theorem Sz_judge : S_judge RelW := fun σ τ x1 x2 hR => by
  obtain ⟨⟨n, m, K, h1⟩, h2, h3, h4⟩ := id hR
  exact S_of0 hR (judge_sim h1 h4 x1 x2)
theorem Sz_drawn : S_drawn RelW := fun σ τ x1 x2 hR => Sx_of (N_drawn x1 x2) hR
theorem Sz_feed : S_feed RelW := fun σ τ x1 hR => by
  obtain ⟨⟨n, m, K, h1⟩, h2, h3, h4⟩ := hR
  obtain ⟨r, σ1, τ1, e1, e2, e3, e4, e5, e6⟩ := feed_sim h3 x1
  refine ⟨r, σ1, τ1, e1, e2, ⟨n, m, K, ?_⟩, RImg_eq h2 (by rw [e4 0 (by decide) (by decide)]) (fun k a b => e4 k (by omega) (by omega)) (e6 22 (by decide)) (e5 17 (by decide) (by decide)), e3, RH_fr h4 (fun k hk => e4 k (by omega) (by omega)) (e5 18 (by decide) (by decide)) (e5 19 (by decide) (by decide))⟩
  rw [e5 1 (by decide) (by decide)]
  exact RNp_ext h1 (fun k hk => e4 (1 + k) (by omega) (by omega))
theorem Sz_script : S_script RelW := fun σ τ hR => by
  obtain ⟨⟨n, m, K, h1⟩, h2, h3, h4⟩ := hR
  obtain ⟨r, σ1, τ1, n1, m1, K1, e1, e2, e3, e4, f1, f2, f3, f4, f5⟩ := script_sim h1 h3
  exact ⟨r, σ1, τ1, e1, e2, ⟨n1, m1, K1, e3⟩, RImg_eq h2 (by rw [f1]) f2 f4 (f5 17 (by decide)), e4, RH_fr h4 (fun k hk => f3 k (by omega)) (f5 18 (by decide)) (f5 19 (by decide))⟩
theorem Sz_image : S_image RelW := fun σ τ hR => by
  obtain ⟨⟨n, m, K, h1⟩, h2, h3, h4⟩ := hR
  obtain ⟨r, σ1, τ1, e1, e2, e3, e4, e5, e6, e7, e8⟩ := image_sim h1
  exact ⟨r, σ1, τ1, e1, e2, ⟨n, m, K, e3⟩, e4, RTp_eq h3 (e5 89 (by decide)) (e5 90 (by decide)) (e8 17 (by decide)) (e7 14 (by decide) (by decide)), RH_fr h4 (fun k hk => e5 k (by omega)) (e7 18 (by decide) (by decide)) (e7 19 (by decide) (by decide))⟩
theorem Sz_back : S_back RelW := fun σ τ hR => by
  obtain ⟨⟨n, m, K, h1⟩, h2, h3, h4⟩ := hR
  obtain ⟨r, σ1, τ1, n1, m1, K1, e1, e2, e3, e4, e5⟩ := back_sim h1 h2
  exact ⟨r, σ1, τ1, e1, e2, ⟨n1, m1, K1, e3⟩, RImg_fr h2 e4 e5, RTp_eq h3 (e4.2.2 89 (by decide)) (e4.2.2 90 (by decide)) (e5.2 17 (by decide)) (e5.1 14 (by decide)), RH_fr h4 (fun k hk => e4.2.2 k (by omega)) (e5.1 18 (by decide)) (e5.1 19 (by decide))⟩
theorem Sz_hold : S_hold RelW := fun σ τ x1 x2 x3 hR => by
  obtain ⟨⟨n, m, K, h1⟩, h2, h3, h4⟩ := id hR
  exact S_ofK hR (hold_sim h1 h4 x1 x2 x3)
theorem Sz_row : S_row RelW := fun σ τ x1 x2 hR => S_ofK hR (row_sim hR.2.2.2 x1 x2)
theorem Sz_put : S_put RelW := fun σ τ x1 x2 x3 hR => S_ofK hR (put_sim hR.2.2.2 x1 x2 x3)
theorem Sz_tells : S_tells RelW := fun σ τ x1 x2 hR => S_ofK hR (tells_sim hR.2.2.2 x1 x2)
theorem Sz_count : S_count RelW := fun σ τ x1 hR => by
  obtain ⟨⟨n, m, K, h1⟩, h2, h3, h4⟩ := id hR
  exact S_of0 hR (count_sim h1 h4 h3 x1)
theorem law_RelW : law_S RelW := ⟨Sz_router, Sz_link, Sz_turn, Sz_cost, Sz_rule, Sz_of, Sz_between, Sz_rounds, Sz_entry, Sz_known, Sz_told, Sz_then, Sz_way, Sz_ends, Sz_shortest, Sz_counts, Sz_packet, Sz_tried, Sz_judge, Sz_drawn, Sz_feed, Sz_script, Sz_image, Sz_back, Sz_hold, Sz_row, Sz_put, Sz_tells, Sz_count⟩
