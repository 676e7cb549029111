/-! the tape: bytes, letters, numbers -/
def wOf (c : Int32) : Option Nat := if c = 110 then some 0 else if c = 108 then some 3 else if c = 119 then some 2 else if c = 99 then some 1 else if c = 117 then some 1 else if c = 104 then some 1 else if c = 113 then some 1 else if c = 100 then some 1 else if c = 114 then some 1 else none
theorem wOf_some {c : Int32} {w : Nat} (h : wOf c = some w) : (c = 110 ∧ w = 0) ∨ (c = 108 ∧ w = 3) ∨ (c = 119 ∧ w = 2) ∨ (c = 99 ∧ w = 1) ∨ (c = 117 ∧ w = 1) ∨ (c = 104 ∧ w = 1) ∨ (c = 113 ∧ w = 1) ∨ (c = 100 ∧ w = 1) ∨ (c = 114 ∧ w = 1) := by
  unfold wOf at h
  by_cases y110 : c = 110
  · rw [if_pos y110] at h
    exact Or.inl ⟨y110, (Option.some.inj h).symm⟩
  rw [if_neg y110] at h
  by_cases y108 : c = 108
  · rw [if_pos y108] at h
    exact Or.inr (Or.inl ⟨y108, (Option.some.inj h).symm⟩)
  rw [if_neg y108] at h
  by_cases y119 : c = 119
  · rw [if_pos y119] at h
    exact Or.inr (Or.inr (Or.inl ⟨y119, (Option.some.inj h).symm⟩))
  rw [if_neg y119] at h
  by_cases y99 : c = 99
  · rw [if_pos y99] at h
    exact Or.inr (Or.inr (Or.inr (Or.inl ⟨y99, (Option.some.inj h).symm⟩)))
  rw [if_neg y99] at h
  by_cases y117 : c = 117
  · rw [if_pos y117] at h
    exact Or.inr (Or.inr (Or.inr (Or.inr (Or.inl ⟨y117, (Option.some.inj h).symm⟩))))
  rw [if_neg y117] at h
  by_cases y104 : c = 104
  · rw [if_pos y104] at h
    exact Or.inr (Or.inr (Or.inr (Or.inr (Or.inr (Or.inl ⟨y104, (Option.some.inj h).symm⟩)))))
  rw [if_neg y104] at h
  by_cases y113 : c = 113
  · rw [if_pos y113] at h
    exact Or.inr (Or.inr (Or.inr (Or.inr (Or.inr (Or.inr (Or.inl ⟨y113, (Option.some.inj h).symm⟩))))))
  rw [if_neg y113] at h
  by_cases y100 : c = 100
  · rw [if_pos y100] at h
    exact Or.inr (Or.inr (Or.inr (Or.inr (Or.inr (Or.inr (Or.inr (Or.inl ⟨y100, (Option.some.inj h).symm⟩)))))))
  rw [if_neg y100] at h
  by_cases y114 : c = 114
  · rw [if_pos y114] at h
    exact Or.inr (Or.inr (Or.inr (Or.inr (Or.inr (Or.inr (Or.inr (Or.inr (⟨y114, (Option.some.inj h).symm⟩))))))))
  rw [if_neg y114] at h
  cases h
theorem wOf_none {c : Int32} (h : wOf c = none) : ¬ c = 110 ∧ ¬ c = 108 ∧ ¬ c = 119 ∧ ¬ c = 99 ∧ ¬ c = 117 ∧ ¬ c = 104 ∧ ¬ c = 113 ∧ ¬ c = 100 ∧ ¬ c = 114 := by
  unfold wOf at h
  by_cases y110 : c = 110
  · rw [if_pos y110] at h; cases h
  rw [if_neg y110] at h
  by_cases y108 : c = 108
  · rw [if_pos y108] at h; cases h
  rw [if_neg y108] at h
  by_cases y119 : c = 119
  · rw [if_pos y119] at h; cases h
  rw [if_neg y119] at h
  by_cases y99 : c = 99
  · rw [if_pos y99] at h; cases h
  rw [if_neg y99] at h
  by_cases y117 : c = 117
  · rw [if_pos y117] at h; cases h
  rw [if_neg y117] at h
  by_cases y104 : c = 104
  · rw [if_pos y104] at h; cases h
  rw [if_neg y104] at h
  by_cases y113 : c = 113
  · rw [if_pos y113] at h; cases h
  rw [if_neg y113] at h
  by_cases y100 : c = 100
  · rw [if_pos y100] at h; cases h
  rw [if_neg y100] at h
  by_cases y114 : c = 114
  · rw [if_pos y114] at h; cases h
  rw [if_neg y114] at h
  exact ⟨y110, y108, y119, y99, y117, y104, y113, y100, y114⟩
theorem wOf_3 {c : Int32} {w : Nat} (h : wOf c = some w) : w ≤ 3 := by
  have := wOf_some h
  omega
theorem wOf_m1 : wOf (-1) = none := by
  unfold wOf
  rw [if_neg (show ¬ (-1 : Int32) = 110 by decide), if_neg (show ¬ (-1 : Int32) = 108 by decide), if_neg (show ¬ (-1 : Int32) = 119 by decide), if_neg (show ¬ (-1 : Int32) = 99 by decide), if_neg (show ¬ (-1 : Int32) = 117 by decide), if_neg (show ¬ (-1 : Int32) = 104 by decide), if_neg (show ¬ (-1 : Int32) = 113 by decide), if_neg (show ¬ (-1 : Int32) = 100 by decide), if_neg (show ¬ (-1 : Int32) = 114 by decide)]
theorem hmn_99 (E : qM) : f_X5_howManyNumbers E 99 = some (1, E) := by
  unfold f_X5_howManyNumbers
  rw [if_pos rfl]
theorem hmn_100 (E : qM) : f_X5_howManyNumbers E 100 = some (1, E) := by
  unfold f_X5_howManyNumbers
  rw [if_neg (show ¬ (100 : Int32) = 99 by decide), if_pos rfl]
theorem hmn_101 (E : qM) : f_X5_howManyNumbers E 101 = some (-1, E) := by
  unfold f_X5_howManyNumbers
  rw [if_neg (show ¬ (101 : Int32) = 99 by decide), if_neg (show ¬ (101 : Int32) = 100 by decide), if_pos rfl]
theorem hmn_102 (E : qM) : f_X5_howManyNumbers E 102 = some (-1, E) := by
  unfold f_X5_howManyNumbers
  rw [if_neg (show ¬ (102 : Int32) = 99 by decide), if_neg (show ¬ (102 : Int32) = 100 by decide), if_neg (show ¬ (102 : Int32) = 101 by decide), if_pos rfl]
theorem hmn_103 (E : qM) : f_X5_howManyNumbers E 103 = some (-1, E) := by
  unfold f_X5_howManyNumbers
  rw [if_neg (show ¬ (103 : Int32) = 99 by decide), if_neg (show ¬ (103 : Int32) = 100 by decide), if_neg (show ¬ (103 : Int32) = 101 by decide), if_neg (show ¬ (103 : Int32) = 102 by decide), if_pos rfl]
theorem hmn_104 (E : qM) : f_X5_howManyNumbers E 104 = some (1, E) := by
  unfold f_X5_howManyNumbers
  rw [if_neg (show ¬ (104 : Int32) = 99 by decide), if_neg (show ¬ (104 : Int32) = 100 by decide), if_neg (show ¬ (104 : Int32) = 101 by decide), if_neg (show ¬ (104 : Int32) = 102 by decide), if_neg (show ¬ (104 : Int32) = 103 by decide), if_pos rfl]
theorem hmn_105 (E : qM) : f_X5_howManyNumbers E 105 = some (-1, E) := by
  unfold f_X5_howManyNumbers
  rw [if_neg (show ¬ (105 : Int32) = 99 by decide), if_neg (show ¬ (105 : Int32) = 100 by decide), if_neg (show ¬ (105 : Int32) = 101 by decide), if_neg (show ¬ (105 : Int32) = 102 by decide), if_neg (show ¬ (105 : Int32) = 103 by decide), if_neg (show ¬ (105 : Int32) = 104 by decide), if_pos rfl]
theorem hmn_106 (E : qM) : f_X5_howManyNumbers E 106 = some (-1, E) := by
  unfold f_X5_howManyNumbers
  rw [if_neg (show ¬ (106 : Int32) = 99 by decide), if_neg (show ¬ (106 : Int32) = 100 by decide), if_neg (show ¬ (106 : Int32) = 101 by decide), if_neg (show ¬ (106 : Int32) = 102 by decide), if_neg (show ¬ (106 : Int32) = 103 by decide), if_neg (show ¬ (106 : Int32) = 104 by decide), if_neg (show ¬ (106 : Int32) = 105 by decide), if_pos rfl]
theorem hmn_107 (E : qM) : f_X5_howManyNumbers E 107 = some (-1, E) := by
  unfold f_X5_howManyNumbers
  rw [if_neg (show ¬ (107 : Int32) = 99 by decide), if_neg (show ¬ (107 : Int32) = 100 by decide), if_neg (show ¬ (107 : Int32) = 101 by decide), if_neg (show ¬ (107 : Int32) = 102 by decide), if_neg (show ¬ (107 : Int32) = 103 by decide), if_neg (show ¬ (107 : Int32) = 104 by decide), if_neg (show ¬ (107 : Int32) = 105 by decide), if_neg (show ¬ (107 : Int32) = 106 by decide), if_pos rfl]
theorem hmn_108 (E : qM) : f_X5_howManyNumbers E 108 = some (3, E) := by
  unfold f_X5_howManyNumbers
  rw [if_neg (show ¬ (108 : Int32) = 99 by decide), if_neg (show ¬ (108 : Int32) = 100 by decide), if_neg (show ¬ (108 : Int32) = 101 by decide), if_neg (show ¬ (108 : Int32) = 102 by decide), if_neg (show ¬ (108 : Int32) = 103 by decide), if_neg (show ¬ (108 : Int32) = 104 by decide), if_neg (show ¬ (108 : Int32) = 105 by decide), if_neg (show ¬ (108 : Int32) = 106 by decide), if_neg (show ¬ (108 : Int32) = 107 by decide), if_pos rfl]
theorem hmn_109 (E : qM) : f_X5_howManyNumbers E 109 = some (-1, E) := by
  unfold f_X5_howManyNumbers
  rw [if_neg (show ¬ (109 : Int32) = 99 by decide), if_neg (show ¬ (109 : Int32) = 100 by decide), if_neg (show ¬ (109 : Int32) = 101 by decide), if_neg (show ¬ (109 : Int32) = 102 by decide), if_neg (show ¬ (109 : Int32) = 103 by decide), if_neg (show ¬ (109 : Int32) = 104 by decide), if_neg (show ¬ (109 : Int32) = 105 by decide), if_neg (show ¬ (109 : Int32) = 106 by decide), if_neg (show ¬ (109 : Int32) = 107 by decide), if_neg (show ¬ (109 : Int32) = 108 by decide), if_pos rfl]
theorem hmn_110 (E : qM) : f_X5_howManyNumbers E 110 = some (0, E) := by
  unfold f_X5_howManyNumbers
  rw [if_neg (show ¬ (110 : Int32) = 99 by decide), if_neg (show ¬ (110 : Int32) = 100 by decide), if_neg (show ¬ (110 : Int32) = 101 by decide), if_neg (show ¬ (110 : Int32) = 102 by decide), if_neg (show ¬ (110 : Int32) = 103 by decide), if_neg (show ¬ (110 : Int32) = 104 by decide), if_neg (show ¬ (110 : Int32) = 105 by decide), if_neg (show ¬ (110 : Int32) = 106 by decide), if_neg (show ¬ (110 : Int32) = 107 by decide), if_neg (show ¬ (110 : Int32) = 108 by decide), if_neg (show ¬ (110 : Int32) = 109 by decide), if_pos rfl]
theorem hmn_111 (E : qM) : f_X5_howManyNumbers E 111 = some (-1, E) := by
  unfold f_X5_howManyNumbers
  rw [if_neg (show ¬ (111 : Int32) = 99 by decide), if_neg (show ¬ (111 : Int32) = 100 by decide), if_neg (show ¬ (111 : Int32) = 101 by decide), if_neg (show ¬ (111 : Int32) = 102 by decide), if_neg (show ¬ (111 : Int32) = 103 by decide), if_neg (show ¬ (111 : Int32) = 104 by decide), if_neg (show ¬ (111 : Int32) = 105 by decide), if_neg (show ¬ (111 : Int32) = 106 by decide), if_neg (show ¬ (111 : Int32) = 107 by decide), if_neg (show ¬ (111 : Int32) = 108 by decide), if_neg (show ¬ (111 : Int32) = 109 by decide), if_neg (show ¬ (111 : Int32) = 110 by decide), if_pos rfl]
theorem hmn_112 (E : qM) : f_X5_howManyNumbers E 112 = some (-1, E) := by
  unfold f_X5_howManyNumbers
  rw [if_neg (show ¬ (112 : Int32) = 99 by decide), if_neg (show ¬ (112 : Int32) = 100 by decide), if_neg (show ¬ (112 : Int32) = 101 by decide), if_neg (show ¬ (112 : Int32) = 102 by decide), if_neg (show ¬ (112 : Int32) = 103 by decide), if_neg (show ¬ (112 : Int32) = 104 by decide), if_neg (show ¬ (112 : Int32) = 105 by decide), if_neg (show ¬ (112 : Int32) = 106 by decide), if_neg (show ¬ (112 : Int32) = 107 by decide), if_neg (show ¬ (112 : Int32) = 108 by decide), if_neg (show ¬ (112 : Int32) = 109 by decide), if_neg (show ¬ (112 : Int32) = 110 by decide), if_neg (show ¬ (112 : Int32) = 111 by decide), if_pos rfl]
theorem hmn_113 (E : qM) : f_X5_howManyNumbers E 113 = some (1, E) := by
  unfold f_X5_howManyNumbers
  rw [if_neg (show ¬ (113 : Int32) = 99 by decide), if_neg (show ¬ (113 : Int32) = 100 by decide), if_neg (show ¬ (113 : Int32) = 101 by decide), if_neg (show ¬ (113 : Int32) = 102 by decide), if_neg (show ¬ (113 : Int32) = 103 by decide), if_neg (show ¬ (113 : Int32) = 104 by decide), if_neg (show ¬ (113 : Int32) = 105 by decide), if_neg (show ¬ (113 : Int32) = 106 by decide), if_neg (show ¬ (113 : Int32) = 107 by decide), if_neg (show ¬ (113 : Int32) = 108 by decide), if_neg (show ¬ (113 : Int32) = 109 by decide), if_neg (show ¬ (113 : Int32) = 110 by decide), if_neg (show ¬ (113 : Int32) = 111 by decide), if_neg (show ¬ (113 : Int32) = 112 by decide), if_pos rfl]
theorem hmn_114 (E : qM) : f_X5_howManyNumbers E 114 = some (1, E) := by
  unfold f_X5_howManyNumbers
  rw [if_neg (show ¬ (114 : Int32) = 99 by decide), if_neg (show ¬ (114 : Int32) = 100 by decide), if_neg (show ¬ (114 : Int32) = 101 by decide), if_neg (show ¬ (114 : Int32) = 102 by decide), if_neg (show ¬ (114 : Int32) = 103 by decide), if_neg (show ¬ (114 : Int32) = 104 by decide), if_neg (show ¬ (114 : Int32) = 105 by decide), if_neg (show ¬ (114 : Int32) = 106 by decide), if_neg (show ¬ (114 : Int32) = 107 by decide), if_neg (show ¬ (114 : Int32) = 108 by decide), if_neg (show ¬ (114 : Int32) = 109 by decide), if_neg (show ¬ (114 : Int32) = 110 by decide), if_neg (show ¬ (114 : Int32) = 111 by decide), if_neg (show ¬ (114 : Int32) = 112 by decide), if_neg (show ¬ (114 : Int32) = 113 by decide), if_pos rfl]
theorem hmn_115 (E : qM) : f_X5_howManyNumbers E 115 = some (-1, E) := by
  unfold f_X5_howManyNumbers
  rw [if_neg (show ¬ (115 : Int32) = 99 by decide), if_neg (show ¬ (115 : Int32) = 100 by decide), if_neg (show ¬ (115 : Int32) = 101 by decide), if_neg (show ¬ (115 : Int32) = 102 by decide), if_neg (show ¬ (115 : Int32) = 103 by decide), if_neg (show ¬ (115 : Int32) = 104 by decide), if_neg (show ¬ (115 : Int32) = 105 by decide), if_neg (show ¬ (115 : Int32) = 106 by decide), if_neg (show ¬ (115 : Int32) = 107 by decide), if_neg (show ¬ (115 : Int32) = 108 by decide), if_neg (show ¬ (115 : Int32) = 109 by decide), if_neg (show ¬ (115 : Int32) = 110 by decide), if_neg (show ¬ (115 : Int32) = 111 by decide), if_neg (show ¬ (115 : Int32) = 112 by decide), if_neg (show ¬ (115 : Int32) = 113 by decide), if_neg (show ¬ (115 : Int32) = 114 by decide), if_pos rfl]
theorem hmn_116 (E : qM) : f_X5_howManyNumbers E 116 = some (-1, E) := by
  unfold f_X5_howManyNumbers
  rw [if_neg (show ¬ (116 : Int32) = 99 by decide), if_neg (show ¬ (116 : Int32) = 100 by decide), if_neg (show ¬ (116 : Int32) = 101 by decide), if_neg (show ¬ (116 : Int32) = 102 by decide), if_neg (show ¬ (116 : Int32) = 103 by decide), if_neg (show ¬ (116 : Int32) = 104 by decide), if_neg (show ¬ (116 : Int32) = 105 by decide), if_neg (show ¬ (116 : Int32) = 106 by decide), if_neg (show ¬ (116 : Int32) = 107 by decide), if_neg (show ¬ (116 : Int32) = 108 by decide), if_neg (show ¬ (116 : Int32) = 109 by decide), if_neg (show ¬ (116 : Int32) = 110 by decide), if_neg (show ¬ (116 : Int32) = 111 by decide), if_neg (show ¬ (116 : Int32) = 112 by decide), if_neg (show ¬ (116 : Int32) = 113 by decide), if_neg (show ¬ (116 : Int32) = 114 by decide), if_neg (show ¬ (116 : Int32) = 115 by decide), if_pos rfl]
theorem hmn_117 (E : qM) : f_X5_howManyNumbers E 117 = some (1, E) := by
  unfold f_X5_howManyNumbers
  rw [if_neg (show ¬ (117 : Int32) = 99 by decide), if_neg (show ¬ (117 : Int32) = 100 by decide), if_neg (show ¬ (117 : Int32) = 101 by decide), if_neg (show ¬ (117 : Int32) = 102 by decide), if_neg (show ¬ (117 : Int32) = 103 by decide), if_neg (show ¬ (117 : Int32) = 104 by decide), if_neg (show ¬ (117 : Int32) = 105 by decide), if_neg (show ¬ (117 : Int32) = 106 by decide), if_neg (show ¬ (117 : Int32) = 107 by decide), if_neg (show ¬ (117 : Int32) = 108 by decide), if_neg (show ¬ (117 : Int32) = 109 by decide), if_neg (show ¬ (117 : Int32) = 110 by decide), if_neg (show ¬ (117 : Int32) = 111 by decide), if_neg (show ¬ (117 : Int32) = 112 by decide), if_neg (show ¬ (117 : Int32) = 113 by decide), if_neg (show ¬ (117 : Int32) = 114 by decide), if_neg (show ¬ (117 : Int32) = 115 by decide), if_neg (show ¬ (117 : Int32) = 116 by decide), if_pos rfl]
theorem hmn_118 (E : qM) : f_X5_howManyNumbers E 118 = some (-1, E) := by
  unfold f_X5_howManyNumbers
  rw [if_neg (show ¬ (118 : Int32) = 99 by decide), if_neg (show ¬ (118 : Int32) = 100 by decide), if_neg (show ¬ (118 : Int32) = 101 by decide), if_neg (show ¬ (118 : Int32) = 102 by decide), if_neg (show ¬ (118 : Int32) = 103 by decide), if_neg (show ¬ (118 : Int32) = 104 by decide), if_neg (show ¬ (118 : Int32) = 105 by decide), if_neg (show ¬ (118 : Int32) = 106 by decide), if_neg (show ¬ (118 : Int32) = 107 by decide), if_neg (show ¬ (118 : Int32) = 108 by decide), if_neg (show ¬ (118 : Int32) = 109 by decide), if_neg (show ¬ (118 : Int32) = 110 by decide), if_neg (show ¬ (118 : Int32) = 111 by decide), if_neg (show ¬ (118 : Int32) = 112 by decide), if_neg (show ¬ (118 : Int32) = 113 by decide), if_neg (show ¬ (118 : Int32) = 114 by decide), if_neg (show ¬ (118 : Int32) = 115 by decide), if_neg (show ¬ (118 : Int32) = 116 by decide), if_neg (show ¬ (118 : Int32) = 117 by decide), if_pos rfl]
theorem hmn_119 (E : qM) : f_X5_howManyNumbers E 119 = some (2, E) := by
  unfold f_X5_howManyNumbers
  rw [if_neg (show ¬ (119 : Int32) = 99 by decide), if_neg (show ¬ (119 : Int32) = 100 by decide), if_neg (show ¬ (119 : Int32) = 101 by decide), if_neg (show ¬ (119 : Int32) = 102 by decide), if_neg (show ¬ (119 : Int32) = 103 by decide), if_neg (show ¬ (119 : Int32) = 104 by decide), if_neg (show ¬ (119 : Int32) = 105 by decide), if_neg (show ¬ (119 : Int32) = 106 by decide), if_neg (show ¬ (119 : Int32) = 107 by decide), if_neg (show ¬ (119 : Int32) = 108 by decide), if_neg (show ¬ (119 : Int32) = 109 by decide), if_neg (show ¬ (119 : Int32) = 110 by decide), if_neg (show ¬ (119 : Int32) = 111 by decide), if_neg (show ¬ (119 : Int32) = 112 by decide), if_neg (show ¬ (119 : Int32) = 113 by decide), if_neg (show ¬ (119 : Int32) = 114 by decide), if_neg (show ¬ (119 : Int32) = 115 by decide), if_neg (show ¬ (119 : Int32) = 116 by decide), if_neg (show ¬ (119 : Int32) = 117 by decide), if_neg (show ¬ (119 : Int32) = 118 by decide), if_pos rfl]
theorem hmn_y {E : qM} {c : Int32} {w : Nat} (h : wOf c = some w) : f_X5_howManyNumbers E c = some (nI w, E) := by
  rcases wOf_some h with ⟨rfl, rfl⟩ | ⟨rfl, rfl⟩ | ⟨rfl, rfl⟩ | ⟨rfl, rfl⟩ | ⟨rfl, rfl⟩ | ⟨rfl, rfl⟩ | ⟨rfl, rfl⟩ | ⟨rfl, rfl⟩ | ⟨rfl, rfl⟩
  · exact hmn_110 E
  · exact hmn_108 E
  · exact hmn_119 E
  · exact hmn_99 E
  · exact hmn_117 E
  · exact hmn_104 E
  · exact hmn_113 E
  · exact hmn_100 E
  · exact hmn_114 E
theorem hmn_n {E : qM} {c : Int32} (h : wOf c = none) : f_X5_howManyNumbers E c = some (-1, E) := by
  obtain ⟨y110, y108, y119, y99, y117, y104, y113, y100, y114⟩ := wOf_none h
  by_cases y101 : c = 101
  · rw [y101]; exact hmn_101 E
  by_cases y102 : c = 102
  · rw [y102]; exact hmn_102 E
  by_cases y103 : c = 103
  · rw [y103]; exact hmn_103 E
  by_cases y105 : c = 105
  · rw [y105]; exact hmn_105 E
  by_cases y106 : c = 106
  · rw [y106]; exact hmn_106 E
  by_cases y107 : c = 107
  · rw [y107]; exact hmn_107 E
  by_cases y109 : c = 109
  · rw [y109]; exact hmn_109 E
  by_cases y111 : c = 111
  · rw [y111]; exact hmn_111 E
  by_cases y112 : c = 112
  · rw [y112]; exact hmn_112 E
  by_cases y115 : c = 115
  · rw [y115]; exact hmn_115 E
  by_cases y116 : c = 116
  · rw [y116]; exact hmn_116 E
  by_cases y118 : c = 118
  · rw [y118]; exact hmn_118 E
  unfold f_X5_howManyNumbers
  rw [if_neg y99, if_neg y100, if_neg y101, if_neg y102, if_neg y103, if_neg y104, if_neg y105, if_neg y106, if_neg y107, if_neg y108, if_neg y109, if_neg y110, if_neg y111, if_neg y112, if_neg y113, if_neg y114, if_neg y115, if_neg y116, if_neg y117, if_neg y118, if_neg y119]
theorem nuo_y {τ : qM} {c : Int32} {w : Nat} (h : wOf c = some w) : f_X8_numbersOf τ c = some (nI w, τ) := by
  unfold f_X8_numbersOf
  rcases wOf_some h with ⟨rfl, rfl⟩ | ⟨rfl, rfl⟩ | ⟨rfl, rfl⟩ | ⟨rfl, rfl⟩ | ⟨rfl, rfl⟩ | ⟨rfl, rfl⟩ | ⟨rfl, rfl⟩ | ⟨rfl, rfl⟩ | ⟨rfl, rfl⟩
  · rw [if_pos rfl]
    try rfl
  · rw [if_neg (show ¬ (108 : Int32) = 110 by decide), if_pos rfl]
    try rfl
  · rw [if_neg (show ¬ (119 : Int32) = 110 by decide), if_neg (show ¬ (119 : Int32) = 108 by decide), if_pos rfl]
    try rfl
  · rw [if_neg (show ¬ (99 : Int32) = 110 by decide), if_neg (show ¬ (99 : Int32) = 108 by decide), if_neg (show ¬ (99 : Int32) = 119 by decide)]
    try rfl
  · rw [if_neg (show ¬ (117 : Int32) = 110 by decide), if_neg (show ¬ (117 : Int32) = 108 by decide), if_neg (show ¬ (117 : Int32) = 119 by decide)]
    try rfl
  · rw [if_neg (show ¬ (104 : Int32) = 110 by decide), if_neg (show ¬ (104 : Int32) = 108 by decide), if_neg (show ¬ (104 : Int32) = 119 by decide)]
    try rfl
  · rw [if_neg (show ¬ (113 : Int32) = 110 by decide), if_neg (show ¬ (113 : Int32) = 108 by decide), if_neg (show ¬ (113 : Int32) = 119 by decide)]
    try rfl
  · rw [if_neg (show ¬ (100 : Int32) = 110 by decide), if_neg (show ¬ (100 : Int32) = 108 by decide), if_neg (show ¬ (100 : Int32) = 119 by decide)]
    try rfl
  · rw [if_neg (show ¬ (114 : Int32) = 110 by decide), if_neg (show ¬ (114 : Int32) = 108 by decide), if_neg (show ¬ (114 : Int32) = 119 by decide)]
    try rfl
theorem m3 (a : Nat) : (3 : Int32) * nI a = nI (3 * a) := by rw [show (3 : Int32) = nI 3 from rfl, pk_mul]
/-- both sides read at the place p -/
def PP (L : Nat) (T τ : qM) (p : Nat) : Prop := L ≤ 120 ∧ p ≤ L ∧ T 0 1 = nI L ∧ T 0 5 = nI p ∧ τ 0 17 = nI L ∧ τ 0 18 = nI p ∧ ∀ i, i < L → T 1 i = τ 14 i
def hrI (L p : Nat) (B : Nat → Int32) : Int32 := if p < L then B p else -1
theorem hereS {L p : Nat} {τ : qM} (hL : L ≤ 120) (hp : p ≤ L) (h17 : τ 0 17 = nI L) (h18 : τ 0 18 = nI p) : f_X8_here τ = some (hrI L p (τ 14), τ) := by
  unfold f_X8_here hrI
  simp only [p_nmx]
  rw [h17, h18]
  by_cases c : p < L
  · rw [if_neg (nI_ge c (by omega)), if_pos c, q_rd_n (by omega) (by decide)]
  · rw [if_pos (nI_le (by omega) (by omega)), if_neg c]
def dgP (L p : Nat) (B : Nat → Int32) : Prop := p < L ∧ (48 : Int32) ≤ B p ∧ B p ≤ 57
theorem dg_in {L p : Nat} {B : Nat → Int32} : ((48 : Int32) ≤ hrI L p B ∧ hrI L p B ≤ 57) ↔ dgP L p B := by
  unfold hrI dgP
  by_cases c : p < L
  · rw [if_pos c]
    exact ⟨fun z => ⟨c, z⟩, fun z => z.2⟩
  · rw [if_neg c]
    exact ⟨fun z => absurd z.1 (by decide), fun z => absurd z.1 c⟩
theorem isDigit_y {L p : Nat} {T : qM} (hL : L ≤ 120) (h1 : T 0 1 = nI L) (h5 : T 0 5 = nI p) (hd : dgP L p (T 1)) : f_X5_isDigit T = some (1, T) := by
  have h := hd.1
  unfold f_X5_isDigit
  simp only [p_nmx]
  rw [h1, h5, if_neg (nI_ge hd.1 (by omega)), q_rd_n (by omega) (by decide), if_neg (i_nlt.mpr hd.2.1), q_rd_n (by omega) (by decide), if_neg (i_nlt.mpr hd.2.2), p_bo1]
theorem isDigit_n {L p : Nat} {T : qM} (hL : L ≤ 120) (h1 : T 0 1 = nI L) (h5 : T 0 5 = nI p) (hp : p ≤ L) (hd : ¬ dgP L p (T 1)) : f_X5_isDigit T = some (0, T) := by
  unfold f_X5_isDigit
  simp only [p_nmx]
  rw [h1, h5]
  by_cases c : p < L
  · rw [if_neg (nI_ge c (by omega)), q_rd_n (by omega) (by decide)]
    by_cases c1 : T 1 p < 48
    · rw [if_pos c1, p_bo0]
    · rw [if_neg c1, q_rd_n (by omega) (by decide), if_pos (i_nle.mp (fun z => hd ⟨c, i_nlt.mp c1, z⟩)), p_bo0]
  · rw [if_pos (nI_le (by omega) (by omega)), p_bo0]
theorem D_rn_0 (go : qB) (τ : qM) (a b c d : Int32) : D_X8_readNumber go 0 τ [a, b, c, d] = b_X8_readNumber_36 go τ a b c d := by
  unfold D_X8_readNumber
  exact if_pos (show (0 : Nat) = 0 from rfl)
theorem D_rn_1 (go : qB) (τ : qM) (a b c d : Int32) : D_X8_readNumber go 1 τ [a, b, c, d] = b_X8_readNumber_88 go τ a b c d := by
  unfold D_X8_readNumber
  exact (if_neg (show ¬ (1 : Nat) = 0 by decide)).trans (if_pos (show (1 : Nat) = 1 from rfl))
theorem D_rn_2 (go : qB) (τ : qM) (a b c : Int32) : D_X8_readNumber go 2 τ [a, b, c] = b_X8_readNumber_104 go τ a b c := by
  unfold D_X8_readNumber
  exact (if_neg (show ¬ (2 : Nat) = 0 by decide)).trans ((if_neg (show ¬ (2 : Nat) = 1 by decide)).trans (if_pos (show (2 : Nat) = 2 from rfl)))
/-- the end of a number: at p, begun at b -/
theorem rn_end {τ : qM} {q i p b : Nat} {v : Int32} (hq : q < 121) (hi : i < 3) (hp : p < 1000) (hb : b < 1000) (h18 : τ 0 18 = nI p) : q_lim D_X8_readNumber 1 τ [nI q, nI i, nI b, v] = some (0, q_wr (if p = b then q_wr τ 0 19 (nI p) else τ) 16 (3 * q + i) v) := by
  have e : ∀ X : qM, q_lim D_X8_readNumber 2 X [nI q, nI i, v] = some (0, q_wr X 16 (3 * q + i) v) := fun X => q_lim_ret (fun go => by
    rw [D_rn_2]
    unfold b_X8_readNumber_104
    simp only [p_nmx]
    rw [m3, nI_add, q_wt_n (by omega) (by decide)])
  by_cases c : p = b
  · rw [if_pos c, ← e]
    refine q_lim_eq (fun go => ?_)
    rw [D_rn_1]
    unfold b_X8_readNumber_88
    simp only [p_nmx]
    rw [h18, if_pos (congrArg nI c)]
  · rw [if_neg c, ← e]
    refine q_lim_eq (fun go => ?_)
    rw [D_rn_1]
    unfold b_X8_readNumber_88
    simp only [p_nmx]
    rw [h18, if_neg (fun z => c (p_inj (by omega) (by omega) z))]
/-- one turn of a number's loop -/
theorem rn_step {L p q i b : Nat} {τ : qM} {v : Int32} (hL : L ≤ 120) (hp : p ≤ L) (hb : b ≤ 1000) (h17 : τ 0 17 = nI L) (h18 : τ 0 18 = nI p) : (p < b + 2 → dgP L p (τ 14) → q_lim D_X8_readNumber 0 τ [nI q, nI i, nI b, v] = q_lim D_X8_readNumber 0 (q_wr τ 0 18 (nI (p + 1))) [nI q, nI i, nI b, 10 * v + τ 14 p - 48]) ∧ ((b + 2 ≤ p ∨ ¬ dgP L p (τ 14)) → q_lim D_X8_readNumber 0 τ [nI q, nI i, nI b, v] = q_lim D_X8_readNumber 1 τ [nI q, nI i, nI b, v]) := by
  have R : ∀ go : qB, D_X8_readNumber go 0 τ [nI q, nI i, nI b, v] = (if nI (b + 2) ≤ nI p then go 1 τ [nI q, nI i, nI b, v] else if (if (48 : Int32) ≤ hrI L p (τ 14) ∧ hrI L p (τ 14) ≤ 57 then (1 : Int32) else 0) = 0 then go 1 τ [nI q, nI i, nI b, v] else go 0 (q_wr τ 0 18 (nI (p + 1))) [nI q, nI i, nI b, 10 * v + hrI L p (τ 14) - 48]) := fun go => by
    rw [D_rn_0]
    unfold b_X8_readNumber_36
    simp only [p_nmx]
    rw [h18, nI_2, hereS hL hp h17 h18, p_cl, inS, p_cl, hereS hL hp h17 h18, p_cl, h18, nI_1]
  refine ⟨fun h1 h2 => ?_, fun h1 => ?_⟩
  · have e : hrI L p (τ 14) = τ 14 p := if_pos h2.1
    refine q_lim_eq (fun go => ?_)
    rw [R go, if_neg (nI_ge h1 (by omega)), if_pos (dg_in.mpr h2), if_neg ne10, e]
  · refine q_lim_eq (fun go => ?_)
    rw [R go]
    by_cases c : b + 2 ≤ p
    · rw [if_pos (nI_le c (by omega))]
    · have h2 : ¬ dgP L p (τ 14) := h1.elim (fun z => absurd z c) id
      rw [if_neg (nI_ge (by omega) (by omega)), if_neg (fun z => h2 (dg_in.mp z)), if_pos rfl]
/-- what reading a number leaves as it was; e: the number's place -/
def frN (e : Nat) (T τ T' τ' : qM) : Prop := (∀ k, k ≠ 0 → k ≠ 3 → T' k = T k) ∧ T' 0 4 = T 0 4 ∧ (∀ k, k ≠ e → T' 3 k = T 3 k) ∧ (∀ i, i ≠ 0 → i ≠ 16 → τ' i = τ i) ∧ (∀ j, j ≠ 18 → j ≠ 19 → τ' 0 j = τ 0 j) ∧ ∀ k, k ≠ e → τ' 16 k = τ 16 k
theorem num_1 (x : Int32) : (10 : Int32) * 0 + x - 48 = x - 48 := by rw [show (10 : Int32) * 0 = 0 by decide, Int32.zero_add]
theorem number_sim {L p q i : Nat} {T τ : qM} (hP : PP L T τ p) (hq : q < 120) (hi : i < 3) (hf : τ 0 19 = -1) : ∃ (r : Int32) (T' τ' : qM) (p' : Nat), f_X5_readNumber T (nI (3 * q + i)) = some (r, T') ∧ f_X8_readNumber τ (nI q) (nI i) = some (0, τ') ∧ PP L T' τ' p' ∧ p ≤ p' ∧ frN (3 * q + i) T τ T' τ' ∧ ((r = 0 ∧ τ' 0 19 = nI p') ∨ (r = 1 ∧ τ' 0 19 = -1 ∧ T' 3 (3 * q + i) = τ' 16 (3 * q + i))) := by
  obtain ⟨hL, hp, h1, h5, h17, h18, hB⟩ := id hP
  have he : 3 * q + i < 360 := by omega
  have R0 : f_X8_readNumber τ (nI q) (nI i) = (if hrI L p (τ 14) = 32 then q_lim D_X8_readNumber 0 (q_wr τ 0 18 (nI (p + 1))) [nI q, nI i, nI (p + 1), 0] else some (0, q_wr τ 0 19 (nI p))) := by
    unfold f_X8_readNumber e_X8_readNumber
    rw [hereS hL hp h17 h18, p_cl]
    simp only [p_nmx]
    rw [h18, nI_1, p_wrs]
  by_cases c0 : p < L ∧ τ 14 p = 32
  · obtain ⟨c0, c1⟩ := c0
    have c2 : T 1 p = 32 := (hB p c0).trans c1
    rw [if_pos (show hrI L p (τ 14) = 32 from (if_pos c0).trans c1)] at R0
    obtain ⟨τ1, hτ1⟩ : ∃ z, z = q_wr τ 0 18 (nI (p + 1)) := ⟨_, rfl⟩
    obtain ⟨T1, hT1⟩ : ∃ z, z = q_wr T 0 5 (nI (p + 1)) := ⟨_, rfl⟩
    have a1 : τ1 0 17 = nI L := by rw [hτ1, p_wrj (by decide)]; exact h17
    have a2 : τ1 0 18 = nI (p + 1) := by rw [hτ1, p_wrs]
    have a3 : τ1 14 = τ 14 := by rw [hτ1, p_wrk (by decide)]
    have b1 : T1 0 1 = nI L := by rw [hT1, p_wrj (by decide)]; exact h1
    have b2 : T1 0 5 = nI (p + 1) := by rw [hT1, p_wrs]
    have b3 : T1 1 = T 1 := by rw [hT1, p_wrk (by decide)]
    have V0 : f_X5_readNumber T (nI (3 * q + i)) = (q_cl (f_X5_isDigit T1) (fun τ => τ) fun x12 s11 => if x12 = 0 then some (0, s11) else q_rd s11 1 120 (s11 0 5) fun x15 => q_wt s11 3 360 (nI (3 * q + i)) (x15 - 48) fun s17 => q_cl (f_X5_isDigit (q_wr s17 0 5 (s17 0 5 + 1))) (fun τ => τ) fun x22 s21 => if x22 = 0 then some (1, s21) else q_rd s21 3 360 (nI (3 * q + i)) fun x24 => q_rd s21 1 120 (s21 0 5) fun x27 => q_wt s21 3 360 (nI (3 * q + i)) (x24 * 10 + x27 - 48) fun s30 => some (1, q_wr s30 0 5 (s30 0 5 + 1))) := by
      unfold f_X5_readNumber
      simp only [p_nmx, p_bo0, p_bo1]
      rw [h1, h5, if_neg (nI_ge c0 (by omega)), q_rd_n (by omega) (by decide), if_pos c2, nI_1, ← hT1]
    rw [← hτ1] at R0
    have s1 := rn_step (L := L) (p := p + 1) (q := q) (i := i) (b := p + 1) (τ := τ1) (v := 0) hL (by omega) (by omega) a1 a2
    rw [a3] at s1
    by_cases d1 : dgP L (p + 1) (τ 14)
    · have l1 := d1.1
      have d1' : dgP L (p + 1) (T1 1) := by rw [b3]; exact ⟨l1, by rw [hB _ l1]; exact d1.2.1, by rw [hB _ l1]; exact d1.2.2⟩
      rw [s1.1 (by omega) d1, num_1] at R0
      rw [isDigit_y hL b1 b2 d1', p_cl, if_neg ne10, b2, q_rd_n (by omega) (by decide), q_wt_n he (by decide), b3, hB _ l1] at V0
      obtain ⟨x, hx⟩ : ∃ z, z = τ 14 (p + 1) - 48 := ⟨_, rfl⟩
      rw [← hx] at V0 R0
      obtain ⟨τ2, hτ2⟩ : ∃ z, z = q_wr τ1 0 18 (nI (p + 1 + 1)) := ⟨_, rfl⟩
      obtain ⟨T2, hT2⟩ : ∃ z, z = q_wr (q_wr T1 3 (3 * q + i) x) 0 5 (nI (p + 1 + 1)) := ⟨_, rfl⟩
      have a4 : τ2 0 17 = nI L := by rw [hτ2, p_wrj (by decide)]; exact a1
      have a5 : τ2 0 18 = nI (p + 1 + 1) := by rw [hτ2, p_wrs]
      have a6 : τ2 14 = τ 14 := by rw [hτ2, p_wrk (by decide)]; exact a3
      have b4 : T2 0 1 = nI L := by rw [hT2, p_wrj (by decide), p_wrk (by decide)]; exact b1
      have b5 : T2 0 5 = nI (p + 1 + 1) := by rw [hT2, p_wrs]
      have b6 : T2 1 = T 1 := by rw [hT2, p_wrk (by decide), p_wrk (by decide)]; exact b3
      have b7 : T2 3 (3 * q + i) = x := by rw [hT2, p_wrk (by decide), p_wrs]
      rw [p_wrk (r := 3) (k := 0) (by decide), b2, nI_1, ← hT2] at V0
      rw [← hτ2] at R0
      have s2 := rn_step (L := L) (p := p + 1 + 1) (q := q) (i := i) (b := p + 1) (τ := τ2) (v := x) hL (by omega) (by omega) a4 a5
      rw [a6] at s2
      have f4 : ∀ j, j ≠ 18 → τ2 0 j = τ 0 j := fun j hj => by rw [hτ2, p_wrj hj, hτ1, p_wrj hj]
      have fk : ∀ k, k ≠ 0 → τ2 k = τ k := fun k hk => by rw [hτ2, p_wrk hk, hτ1, p_wrk hk]
      have g4 : T2 0 4 = T 0 4 := by rw [hT2, p_wrj (by decide), p_wrk (by decide), hT1, p_wrj (by decide)]
      have gk : ∀ k, k ≠ 0 → k ≠ 3 → T2 k = T k := fun k hk hk3 => by rw [hT2, p_wrk hk, p_wrk hk3, hT1, p_wrk hk]
      have g3 : ∀ k, k ≠ 3 * q + i → T2 3 k = T 3 k := fun k hk => by rw [hT2, p_wrk (by decide), p_wrj hk, hT1, p_wrk (by decide)]
      by_cases d2 : dgP L (p + 1 + 1) (τ 14)
      · have l2 := d2.1
        have d2' : dgP L (p + 1 + 1) (T2 1) := by rw [b6]; exact ⟨l2, by rw [hB _ l2]; exact d2.2.1, by rw [hB _ l2]; exact d2.2.2⟩
        rw [s2.1 (by omega) d2] at R0
        rw [isDigit_y hL b4 b5 d2', p_cl, if_neg ne10, q_rd_n he (by decide), b5, q_rd_n (by omega) (by decide), q_wt_n he (by decide), b7, b6, hB _ l2] at V0
        obtain ⟨y, hy⟩ : ∃ z, z = 10 * x + τ 14 (p + 1 + 1) - 48 := ⟨_, rfl⟩
        rw [Int32.mul_comm x 10, ← hy, p_wrk (r := 3) (k := 0) (by decide), b5, nI_1] at V0
        rw [← hy] at R0
        obtain ⟨τ3, hτ3⟩ : ∃ z, z = q_wr τ2 0 18 (nI (p + 1 + 1 + 1)) := ⟨_, rfl⟩
        rw [← hτ3] at R0
        have a7 : τ3 0 17 = nI L := by rw [hτ3, p_wrj (by decide)]; exact a4
        have a8 : τ3 0 18 = nI (p + 1 + 1 + 1) := by rw [hτ3, p_wrs]
        have s3 := (rn_step (L := L) (p := p + 1 + 1 + 1) (q := q) (i := i) (b := p + 1) (τ := τ3) (v := y) hL (by omega) (by omega) a7 a8).2 (Or.inl (by omega))
        rw [s3, rn_end (by omega) hi (by omega) (by omega) a8, if_neg (by omega)] at R0
        refine ⟨1, _, _, p + 1 + 1 + 1, V0, R0, ⟨hL, by omega, ?_, p_wrs _ _ _ _, ?_, ?_, fun j hj => ?_⟩, by omega, ⟨fun k hk hk3 => ?_, ?_, fun k hk => ?_, fun k hk hk6 => ?_, fun j hj hj9 => ?_, fun k hk => ?_⟩, Or.inr ⟨rfl, ?_, ?_⟩⟩
        · rw [p_wrj (by decide), p_wrk (by decide)]; exact b4
        · rw [p_wrk (by decide)]; exact a7
        · rw [p_wrk (by decide)]; exact a8
        · rw [p_wrk (by decide), p_wrk (by decide), b6, p_wrk (by decide), hτ3, p_wrk (by decide), a6]; exact hB j hj
        · rw [p_wrk hk, p_wrk hk3]; exact gk k hk hk3
        · rw [p_wrj (by decide), p_wrk (by decide)]; exact g4
        · rw [p_wrk (by decide), p_wrj hk]; exact g3 k hk
        · rw [p_wrk hk6, hτ3, p_wrk hk]; exact fk k hk
        · rw [p_wrk (by decide), hτ3, p_wrj hj]; exact f4 j hj
        · rw [p_wrj hk, hτ3, p_wrk (by decide), fk 16 (by decide)]
        · rw [p_wrk (by decide), hτ3, p_wrj (by decide), f4 19 (by decide)]; exact hf
        · rw [p_wrk (by decide), p_wrs, p_wrs]
      · have d2' : ¬ dgP L (p + 1 + 1) (T2 1) := fun z => d2 ⟨z.1, by rw [← hB _ z.1, ← b6]; exact z.2.1, by rw [← hB _ z.1, ← b6]; exact z.2.2⟩
        rw [s2.2 (Or.inr d2), rn_end (by omega) hi (by omega) (by omega) a5, if_neg (by omega)] at R0
        rw [isDigit_n hL b4 b5 (by omega) d2', p_cl, if_pos rfl] at V0
        refine ⟨1, T2, _, p + 1 + 1, V0, R0, ⟨hL, by omega, b4, b5, ?_, ?_, fun j hj => ?_⟩, by omega, ⟨gk, g4, g3, fun k hk hk6 => ?_, fun j hj hj9 => ?_, fun k hk => ?_⟩, Or.inr ⟨rfl, ?_, ?_⟩⟩
        · rw [p_wrk (by decide)]; exact a4
        · rw [p_wrk (by decide)]; exact a5
        · rw [b6, p_wrk (by decide), a6]; exact hB j hj
        · rw [p_wrk hk6]; exact fk k hk
        · rw [p_wrk (by decide)]; exact f4 j hj
        · rw [p_wrj hk, fk 16 (by decide)]
        · rw [p_wrk (by decide), f4 19 (by decide)]; exact hf
        · rw [b7, p_wrs]
    · have d1' : ¬ dgP L (p + 1) (T1 1) := fun z => d1 ⟨z.1, by rw [← hB _ z.1, ← b3]; exact z.2.1, by rw [← hB _ z.1, ← b3]; exact z.2.2⟩
      rw [s1.2 (Or.inr d1), rn_end (by omega) hi (by omega) (by omega) a2, if_pos rfl] at R0
      rw [isDigit_n hL b1 b2 (by omega) d1', p_cl, if_pos rfl] at V0
      refine ⟨0, T1, _, p + 1, V0, R0, ⟨hL, by omega, b1, b2, ?_, ?_, fun j hj => ?_⟩, by omega, ⟨fun k hk _ => ?_, ?_, fun k _ => ?_, fun k hk hk6 => ?_, fun j hj hj9 => ?_, fun k hk => ?_⟩, Or.inl ⟨rfl, ?_⟩⟩
      · rw [p_wrk (by decide), p_wrj (by decide)]; exact a1
      · rw [p_wrk (by decide), p_wrj (by decide)]; exact a2
      · rw [b3, p_wrk (by decide), p_wrk (by decide), a3]; exact hB j hj
      · rw [hT1, p_wrk hk]
      · rw [hT1, p_wrj (by decide)]
      · rw [hT1, p_wrk (by decide)]
      · rw [p_wrk hk6, p_wrk hk, hτ1, p_wrk hk]
      · rw [p_wrk (by decide), p_wrj hj9, hτ1, p_wrj hj]
      · rw [p_wrj hk, p_wrk (by decide), hτ1, p_wrk (by decide)]
      · rw [p_wrk (by decide), p_wrs]
  · have c1 : ¬ hrI L p (τ 14) = 32 := fun z => by
      unfold hrI at z
      by_cases w : p < L
      · rw [if_pos w] at z; exact c0 ⟨w, z⟩
      · rw [if_neg w] at z; exact absurd z (by decide)
    rw [if_neg c1] at R0
    have V0 : f_X5_readNumber T (nI (3 * q + i)) = some (0, T) := by
      unfold f_X5_readNumber
      simp only [p_nmx]
      rw [h1, h5]
      by_cases w : p < L
      · rw [if_neg (nI_ge w (by omega)), q_rd_n (by omega) (by decide), hB p w, if_neg (fun z => c0 ⟨w, z⟩), p_bo0]
      · rw [if_pos (nI_le (by omega) (by omega)), p_bo0]
    refine ⟨0, T, _, p, V0, R0, ⟨hL, hp, h1, h5, ?_, ?_, fun j hj => ?_⟩, Nat.le_refl _, ⟨fun k _ _ => rfl, rfl, fun k _ => rfl, fun k hk _ => p_wrk hk, fun j _ hj => p_wrj hj, fun k _ => by rw [p_wrk (by decide)]⟩, Or.inl ⟨rfl, p_wrs _ _ _ _⟩⟩
    · rw [p_wrj (by decide)]; exact h17
    · rw [p_wrj (by decide)]; exact h18
    · rw [p_wrk (by decide)]; exact hB j hj
