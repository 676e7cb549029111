/-! at the start -/
theorem m0_V_N {k : Nat} (h : k < 21) : q_sub 1 m0_V k = m0_N k := by
  rcases (show k = 0 ∨ k = 1 ∨ k = 2 ∨ k = 3 ∨ k = 4 ∨ k = 5 ∨ k = 6 ∨ k = 7 ∨ k = 8 ∨ k = 9 ∨ k = 10 ∨ k = 11 ∨ k = 12 ∨ k = 13 ∨ k = 14 ∨ k = 15 ∨ k = 16 ∨ k = 17 ∨ k = 18 ∨ k = 19 ∨ k = 20 by omega) with rfl | rfl | rfl | rfl | rfl | rfl | rfl | rfl | rfl | rfl | rfl | rfl | rfl | rfl | rfl | rfl | rfl | rfl | rfl | rfl | rfl <;> rfl
theorem m0_RT : RT 0 (fun _ => 0) 1 m0_N (fun _ => 0) := by
  refine ⟨fun r hr => ⟨rfl, rfl⟩, fun r _ _ => rfl, fun r hr => by omega, fun r i j _ hi => absurd hi (Nat.not_lt_zero i), fun r k _ hk => absurd hk (Nat.not_lt_zero k), fun r d hr hd _ => ?_⟩
  show (if 0 ≤ 10 * r + d ∧ 10 * r + d < 100 then (-1 : Int32) else _) = -1
  exact if_pos ⟨Nat.zero_le _, by omega⟩
theorem m0_RNp : RNp 0 0 (fun _ => 0) m0_N (fun _ => 0) := ⟨⟨by decide, by decide, rfl, rfl, rfl, rfl, rfl, Or.inl rfl, rfl, Or.inl rfl, rfl, rfl, fun k hk => absurd hk (Nat.not_lt_zero k), fun a b _ _ => rfl⟩, rfl, m0_RT⟩
theorem RelW0 : RelW m0_V m0_M := by
  refine ⟨⟨0, 0, fun _ => 0, ?_⟩, Or.inl ⟨rfl, rfl⟩, ⟨0, by decide, rfl, rfl, fun i hi => absurd hi (Nat.not_lt_zero i)⟩, fun j hj => Or.inl ?_⟩
  · have e : m0_M 1 = fun _ => 0 := rfl
    rw [e]
    exact RNp_ext m0_RNp (fun k hk => m0_V_N hk)
  · rcases (show j = 0 ∨ j = 1 ∨ j = 2 ∨ j = 3 ∨ j = 4 ∨ j = 5 by omega) with rfl | rfl | rfl | rfl | rfl | rfl <;> exact ⟨rfl, rfl⟩
theorem whole_start {p : Program} {e : Env} {s : State} {m : MethodId} {below : List Frame} {meth : Method} {c : Code} (l : Launch) (hflags : l.flags = flags0) {b L : Nat} {xs : Nat → Int32} (hL : L ≤ 2560) (C0 : lw_At p s m meth c b L xs) : W p l e room_1 s m #[Value.ref b] below meth c s.heap [] 0 0 (lw_Z below #[Value.ref b] s) (entryFrame m ([Value.ref b] : List Value).toArray 4) := whole_open l hL C0 law_RelW RelW0
