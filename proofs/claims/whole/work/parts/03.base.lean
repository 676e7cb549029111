/-! THE PURE LAYER: a world of int arrays and int fields is a function of a region and a place; a method is a function that may be stuck (none) -/
abbrev qM : Type := Nat → Nat → Int32
abbrev qR : Type := Option (Int32 × qM)
def q_inB (i : Int32) (n : Nat) : Bool := decide (0 ≤ i.toInt ∧ i.toInt < n)
def q_wr (σ : qM) (r i : Nat) (v : Int32) : qM := fun k => cond (Nat.beq k r) (upd (σ r) i v) (σ k)
def q_rd {α : Type} (σ : qM) (r n : Nat) (i : Int32) (K : Int32 → Option α) : Option α := cond (q_inB i n) (K (σ r i.toNatClampNeg)) none
def q_wt {α : Type} (σ : qM) (r n : Nat) (i v : Int32) (K : qM → Option α) : Option α := cond (q_inB i n) (K (q_wr σ r i.toNatClampNeg v)) none
def q_nm {α β : Type} (e : β) (K : β → Option α) : Option α := K e
def q_dv {α : Type} (y : Int32) (K : Option α) : Option α := if y = 0 then none else K
def q_bo {α : Type} (x : Int32) (K : Option α) : Option α := if x = 0 ∨ x = 1 then K else none
def q_gd {α : Type} (b : Bool) (K : Option α) : Option α := cond b K none
def q_cl {α : Type} (o : qR) (put : qM → qM) (K : Int32 → qM → Option α) : Option α := match o with
  | some p => K p.1 (put p.2)
  | none => none
def q_sub {α : Type} (o : Nat) (f : Nat → α) : Nat → α := fun k => f (o + k)
def q_sub2 {α : Type} (n o1 o2 : Nat) (f : Nat → α) : Nat → α := fun k => cond (Nat.blt k n) (f (o1 + k)) (f (o2 + (k - n)))
def q_put (o n : Nat) (σ τ : qM) : qM := fun k => cond (Nat.ble o k && Nat.blt k (o + n)) (τ (k - o)) (σ k)
def q_put2 (n1 o1 n2 o2 : Nat) (σ τ : qM) : qM := fun k => cond (Nat.ble o1 k && Nat.blt k (o1 + n1)) (τ (k - o1)) (cond (Nat.ble o2 k && Nat.blt k (o2 + n2)) (τ (n1 + (k - o2))) (σ k))
def q_sw {α : Type} (f : Nat → α) : Nat → α := fun k => cond (Nat.beq k 1) (f 2) (cond (Nat.beq k 2) (f 1) (f k))
theorem q_in {i : Int32} {n : Nat} (h : q_inB i n = true) : vp_in i n := vp_in_iff.mpr (of_decide_eq_true h)
theorem q_gd_of {α : Type} {b : Bool} {K : Option α} {R : α} (h : q_gd b K = some R) : b = true ∧ K = some R := by
  cases b with
  | true => exact ⟨rfl, h⟩
  | false => cases h
theorem q_rd_of {α : Type} {σ : qM} {r n : Nat} {i : Int32} {K : Int32 → Option α} {R : α} (h : q_rd σ r n i K = some R) : vp_in i n ∧ K (σ r i.toNatClampNeg) = some R := by
  have h2 := q_gd_of (b := q_inB i n) (K := K (σ r i.toNatClampNeg)) h
  exact ⟨q_in h2.1, h2.2⟩
theorem q_wt_of {α : Type} {σ : qM} {r n : Nat} {i v : Int32} {K : qM → Option α} {R : α} (h : q_wt σ r n i v K = some R) : vp_in i n ∧ K (q_wr σ r i.toNatClampNeg v) = some R := by
  have h2 := q_gd_of (b := q_inB i n) (K := K (q_wr σ r i.toNatClampNeg v)) h
  exact ⟨q_in h2.1, h2.2⟩
theorem q_dv_of {α : Type} {y : Int32} {K : Option α} {R : α} (h : q_dv y K = some R) : ¬ y = 0 ∧ K = some R := by
  unfold q_dv at h
  split at h
  · cases h
  · exact ⟨by assumption, h⟩
theorem q_bo_of {α : Type} {x : Int32} {K : Option α} {R : α} (h : q_bo x K = some R) : (x = 0 ∨ x = 1) ∧ K = some R := by
  unfold q_bo at h
  split at h
  · exact ⟨by assumption, h⟩
  · cases h
theorem q_cl_of {α : Type} {o : qR} {put : qM → qM} {K : Int32 → qM → Option α} {R : α} (h : q_cl o put K = some R) : ∃ q, o = some q ∧ K q.1 (put q.2) = some R := by
  cases o with
  | none => cases h
  | some q => exact ⟨q, rfl, h⟩
theorem if_t {α : Type} {c : Prop} {_ : Decidable c} {A B : α} {R : α} (hc : c) (h : (if c then A else B) = R) : A = R := by rw [if_pos hc] at h; exact h
theorem if_f {α : Type} {c : Prop} {_ : Decidable c} {A B : α} {R : α} (hc : ¬ c) (h : (if c then A else B) = R) : B = R := by rw [if_neg hc] at h; exact h
/-! runs of loops: heads by number, with a bound on the jumps; what it tends to -/
abbrev qB : Type := Nat → qM → List Int32 → qR
def q_it (D : qB → qB) : Nat → qB
  | 0 => fun _ _ _ => none
  | n + 1 => D (q_it D n)
noncomputable def q_lim (D : qB → qB) : qB := fun i σ xs => @dite qR (∃ R : Int32 × qM, ∃ N, ∀ n, N ≤ n → q_it D n i σ xs = some R) (Classical.propDecidable _) (fun h => some (Classical.choose h)) (fun _ => none)
theorem q_lim_of {D : qB → qB} {i : Nat} {σ : qM} {xs : List Int32} {R : Int32 × qM} (h : q_lim D i σ xs = some R) : ∃ N, ∀ n, N ≤ n → q_it D n i σ xs = some R := by
  unfold q_lim at h
  split at h
  · rename_i hx
    cases h
    exact Classical.choose_spec hx
  · cases h
theorem q_lim_to {D : qB → qB} {i : Nat} {σ : qM} {xs : List Int32} {R : Int32 × qM} (h : ∃ N, ∀ n, N ≤ n → q_it D n i σ xs = some R) : q_lim D i σ xs = some R := by
  have hx : ∃ R : Int32 × qM, ∃ N, ∀ n, N ≤ n → q_it D n i σ xs = some R := ⟨R, h⟩
  have e : q_lim D i σ xs = some (Classical.choose hx) := by
    unfold q_lim
    rw [dif_pos hx]
  rw [e]
  obtain ⟨N, h1⟩ := h
  obtain ⟨N2, h2⟩ := Classical.choose_spec hx
  have a := h1 (max N N2) (Nat.le_max_left _ _)
  rw [h2 (max N N2) (Nat.le_max_right _ _)] at a
  exact a
theorem q_lim_ret {D : qB → qB} {i : Nat} {σ : qM} {xs : List Int32} {R : Int32 × qM} (h : ∀ go : qB, D go i σ xs = some R) : q_lim D i σ xs = some R :=
  q_lim_to ⟨1, fun n hn => by
    cases n with
    | zero => omega
    | succ n => exact h _⟩
theorem q_lim_go {D : qB → qB} {i j : Nat} {σ τ : qM} {xs ys : List Int32} {R : Int32 × qM} (h : ∀ go : qB, D go i σ xs = go j τ ys) (hR : q_lim D j τ ys = some R) : q_lim D i σ xs = some R := by
  obtain ⟨N, hN⟩ := q_lim_of hR
  refine q_lim_to ⟨N + 1, fun n hn => ?_⟩
  cases n with
  | zero => omega
  | succ n => rw [show q_it D (n + 1) i σ xs = D (q_it D n) i σ xs from rfl, h]; exact hN n (by omega)
theorem q_lim_n {D : qB → qB} {i : Nat} {σ : qM} {xs : List Int32} {R : Int32 × qM} (h : q_lim D i σ xs = some R) : ∃ n, q_it D n i σ xs = some R := by
  obtain ⟨N, hN⟩ := q_lim_of h
  exact ⟨N, hN N (Nat.le_refl _)⟩
/-! worlds: what a call's world is of its caller's -/
theorem q_D_fst {A : Nat → Prop} {w w' : va_W} (h : w.map (fun q => q.1) = w'.map (fun q => q.1)) (hD : va_D A w) : va_D A w' := by
  have key : ∀ (k : Nat) (q : Nat × va_E), w'[k]? = some q → ∃ q0, w[k]? = some q0 ∧ q0.1 = q.1 := by
    intro k q hq
    have h1 : (w'.map (fun q => q.1))[k]? = some q.1 := by rw [List.getElem?_map, hq]; rfl
    rw [← h, List.getElem?_map] at h1
    cases h2 : w[k]? with
    | none => rw [h2] at h1; cases h1
    | some q0 => rw [h2] at h1; exact ⟨q0, rfl, Option.some.inj h1⟩
  refine ⟨fun i j p q hi hj hpq => ?_, fun k q hk => ?_⟩
  · obtain ⟨p0, a1, a2⟩ := key i p hi
    obtain ⟨q0, b1, b2⟩ := key j q hj
    exact hD.1 i j p0 q0 a1 b1 (a2.trans (hpq.trans b2.symm))
  · obtain ⟨q0, a1, a2⟩ := key k q hk
    rw [← a2]
    exact hD.2 k q0 a1
theorem q_P_mem {D : va_G} {cl : List vw_C} {w w' : va_W} {H : Heap} (h : va_P D cl w H) (hm : ∀ q ∈ w', q ∈ w) : va_P D cl w' H := by
  intro k q hk
  obtain ⟨i, hi⟩ := List.getElem?_of_mem (hm q (List.mem_of_getElem? hk))
  exact h i q hi
theorem q_P_at {D : va_G} {cl : List vw_C} {w : va_W} {H : Heap} (h : va_P D cl w H) {q : Nat × va_E} (hq : q ∈ w) : va_at D cl q H := by
  obtain ⟨i, hi⟩ := List.getElem?_of_mem hq
  exact h i q hi
theorem q_D_in {A : Nat → Prop} {w : va_W} (h : va_D A w) {q : Nat × va_E} (hq : q ∈ w) : A q.1 := by
  obtain ⟨i, hi⟩ := List.getElem?_of_mem hq
  exact h.2 i q hi
theorem q_D_eq {A : Nat → Prop} {w : va_W} (h : va_D A w) {p q : Nat × va_E} (hp : p ∈ w) (hq : q ∈ w) (e : p.1 = q.1) : p = q := by
  obtain ⟨i, hi⟩ := List.getElem?_of_mem hp
  obtain ⟨j, hj⟩ := List.getElem?_of_mem hq
  have h1 := h.1 i j p q hi hj e
  subst h1
  exact Option.some.inj (hi.symm.trans hj)
theorem q_D_parts {A : Nat → Prop} {a b : va_W} (h : va_D A (a ++ b)) : va_D A a ∧ va_D A b ∧ ∀ p ∈ a, ∀ q ∈ b, p.1 ≠ q.1 := by
  refine ⟨⟨fun i j p q hi hj e => ?_, fun k q hk => ?_⟩, ⟨fun i j p q hi hj e => ?_, fun k q hk => ?_⟩, fun p hp q hq e => ?_⟩
  · exact h.1 i j p q (by rw [List.getElem?_append_left (List.getElem?_eq_some_iff.mp hi).1]; exact hi) (by rw [List.getElem?_append_left (List.getElem?_eq_some_iff.mp hj).1]; exact hj) e
  · exact q_D_in h (List.mem_append_left _ (List.mem_of_getElem? hk))
  · have h1 := h.1 (a.length + i) (a.length + j) p q (by rw [List.getElem?_append_right (by omega)]; rw [Nat.add_sub_cancel_left]; exact hi) (by rw [List.getElem?_append_right (by omega)]; rw [Nat.add_sub_cancel_left]; exact hj) e
    omega
  · exact q_D_in h (List.mem_append_right _ (List.mem_of_getElem? hk))
  · obtain ⟨i, hi⟩ := List.getElem?_of_mem hp
    obtain ⟨j, hj⟩ := List.getElem?_of_mem hq
    have hl := (List.getElem?_eq_some_iff.mp hi).1
    have h1 := h.1 i (a.length + j) p q (by rw [List.getElem?_append_left hl]; exact hi) (by rw [List.getElem?_append_right (by omega)]; rw [Nat.add_sub_cancel_left]; exact hj) e
    omega
theorem q_D_comm {A : Nat → Prop} {a b : va_W} (h : va_D A (a ++ b)) : va_D A (b ++ a) := by
  obtain ⟨h1, h2, h3⟩ := q_D_parts h
  exact h2.app h1 (fun i j p q hp hq e => h3 q (List.mem_of_getElem? hq) p (List.mem_of_getElem? hp) e.symm)
/-- w: the caller's world; wc: the callee's, out of it; behind the call the callee's is e, the caller's z -/
def q_Fr (w wc : va_W) (e z : qM → va_W) : Prop := (∀ q ∈ wc, q ∈ w) ∧ (∀ A : Nat → Prop, va_D A w → va_D A wc) ∧ ∀ A : Nat → Prop, va_D A w → ∀ τ : qM, ∀ q ∈ z τ, q ∈ e τ ∨ (q ∈ w ∧ ∀ q' ∈ wc, q'.1 ≠ q.1)
theorem q_fr0 {w : va_W} {z : qM → va_W} (hz : ∀ τ, z τ = w) : q_Fr w [] (fun _ => []) z := ⟨fun _ h => absurd h List.not_mem_nil, fun _ _ => ⟨fun i j p q h => absurd h (by simp), fun k q h => absurd h (by simp)⟩, fun _ _ τ q hq => Or.inr ⟨(hz τ) ▸ hq, fun _ h => absurd h List.not_mem_nil⟩⟩
theorem q_frI {w : va_W} {z : qM → va_W} : q_Fr w w z z := ⟨fun _ h => h, fun _ h => h, fun _ _ τ q hq => Or.inl hq⟩
theorem q_fr1 (P C S : va_W) (e : qM → va_W) : q_Fr (P ++ (C ++ S)) C e (fun τ => P ++ (e τ ++ S)) := by
  refine ⟨fun q h => List.mem_append_right _ (List.mem_append_left _ h), fun A h => (q_D_parts (q_D_parts h).2.1).1, fun A h τ q hq => ?_⟩
  obtain ⟨-, h2, h3⟩ := q_D_parts h
  obtain ⟨-, -, h4⟩ := q_D_parts h2
  rcases List.mem_append.mp hq with hq | hq
  · exact Or.inr ⟨List.mem_append_left _ hq, fun q' h' e => h3 q hq q' (List.mem_append_left _ h') e.symm⟩
  · rcases List.mem_append.mp hq with hq | hq
    · exact Or.inl hq
    · exact Or.inr ⟨List.mem_append_right _ (List.mem_append_right _ hq), fun q' h' => h4 q' h' q hq⟩
theorem q_fr2 (P C S E Z : va_W) (c e : qM → va_W) : q_Fr (P ++ (C ++ (S ++ (E ++ Z)))) (C ++ E) (fun τ => c τ ++ e τ) (fun τ => P ++ (c τ ++ (S ++ (e τ ++ Z)))) := by
  refine ⟨fun q h => ?_, fun A h => ?_, fun A h τ q hq => ?_⟩
  · rcases List.mem_append.mp h with h | h
    · exact List.mem_append_right _ (List.mem_append_left _ h)
    · exact List.mem_append_right _ (List.mem_append_right _ (List.mem_append_right _ (List.mem_append_left _ h)))
  · obtain ⟨-, h2, -⟩ := q_D_parts h
    obtain ⟨a1, a2, a3⟩ := q_D_parts h2
    obtain ⟨-, b2, -⟩ := q_D_parts a2
    exact a1.app (q_D_parts b2).1 (fun i j p q hp hq => a3 p (List.mem_of_getElem? hp) q (List.mem_append_right _ (List.mem_append_left _ (List.mem_of_getElem? hq))))
  · obtain ⟨-, h2, h3⟩ := q_D_parts h
    obtain ⟨a1, a2, a3⟩ := q_D_parts h2
    obtain ⟨b1, b2, b3⟩ := q_D_parts a2
    obtain ⟨c1, c2, c3⟩ := q_D_parts b2
    rcases List.mem_append.mp hq with hq | hq
    · refine Or.inr ⟨List.mem_append_left _ hq, fun q' h' e => ?_⟩
      rcases List.mem_append.mp h' with h' | h'
      · exact h3 q hq q' (List.mem_append_left _ h') e.symm
      · exact h3 q hq q' (List.mem_append_right _ (List.mem_append_right _ (List.mem_append_left _ h'))) e.symm
    · rcases List.mem_append.mp hq with hq | hq
      · exact Or.inl (List.mem_append_left _ hq)
      · rcases List.mem_append.mp hq with hq | hq
        · refine Or.inr ⟨List.mem_append_right _ (List.mem_append_right _ (List.mem_append_left _ hq)), fun q' h' e => ?_⟩
          rcases List.mem_append.mp h' with h' | h'
          · exact a3 q' h' q (List.mem_append_left _ hq) e
          · exact b3 q hq q' (List.mem_append_left _ h') e.symm
        · rcases List.mem_append.mp hq with hq | hq
          · exact Or.inl (List.mem_append_right _ hq)
          · refine Or.inr ⟨List.mem_append_right _ (List.mem_append_right _ (List.mem_append_right _ (List.mem_append_right _ hq))), fun q' h' e => ?_⟩
            rcases List.mem_append.mp h' with h' | h'
            · exact a3 q' h' q (List.mem_append_right _ (List.mem_append_right _ hq)) e
            · exact c3 q' h' q hq e
theorem q_frC {w a b : va_W} {c e z : qM → va_W} (h : q_Fr w (a ++ b) (fun τ => c τ ++ e τ) z) : q_Fr w (b ++ a) (fun τ => e τ ++ c τ) z :=
  ⟨fun q hq => h.1 q (List.mem_append.mpr (List.mem_append.mp hq).symm), fun A hD => q_D_comm (h.2.1 A hD), fun A hD τ q hq => by
    rcases h.2.2 A hD τ q hq with h1 | ⟨h1, h2⟩
    · exact Or.inl (List.mem_append.mpr (List.mem_append.mp h1).symm)
    · exact Or.inr ⟨h1, fun q' h' => h2 q' (List.mem_append.mpr (List.mem_append.mp h').symm)⟩⟩
/-! rows: the machine's step and the pure step at once -/
section QROWS
variable {p : Program} {l : Launch} {e : Env} {R : Room} {s : State} {m : MethodId} {args : Array Value} {below : List Frame} {meth : Method} {c : Code} {H : Heap} {locs : List Loc} {cells slots : Nat} {Q : State → Prop}
variable {cc : ByteArray} {pc : Nat} {ls : Array Slot} {rest : List Value} {D : va_G} {cl : List vw_C} {A : Nat → Prop} {a : Nat} {tys : List (ClassId × FieldType)} {H0 : Heap} {α : Type} {r0 : α}
theorem x_iadd (hx : p.tables.exec = Jvm.exec) (hb : c.code = cc) {x y : Int32} {K : Int32 → Option α} (hdg : decode cc pc = .ok (.iadd, 1)) (h : q_nm (x + y) K = some r0) (kk : ∀ z, K z = some r0 → W p l e R s m args below meth c H locs cells slots Q (F0 m (pc + 1) ls (.int z :: rest))) : W p l e R s m args below meth c H locs cells slots Q (F0 m pc ls (.int y :: .int x :: rest)) := lv_iadd hx hb hdg (kk _ h)
theorem x_isub (hx : p.tables.exec = Jvm.exec) (hb : c.code = cc) {x y : Int32} {K : Int32 → Option α} (hdg : decode cc pc = .ok (.isub, 1)) (h : q_nm (x - y) K = some r0) (kk : ∀ z, K z = some r0 → W p l e R s m args below meth c H locs cells slots Q (F0 m (pc + 1) ls (.int z :: rest))) : W p l e R s m args below meth c H locs cells slots Q (F0 m pc ls (.int y :: .int x :: rest)) := lv_isub hx hb hdg (kk _ h)
theorem x_imul (hx : p.tables.exec = Jvm.exec) (hb : c.code = cc) {x y : Int32} {K : Int32 → Option α} (hdg : decode cc pc = .ok (.imul, 1)) (h : q_nm (x * y) K = some r0) (kk : ∀ z, K z = some r0 → W p l e R s m args below meth c H locs cells slots Q (F0 m (pc + 1) ls (.int z :: rest))) : W p l e R s m args below meth c H locs cells slots Q (F0 m pc ls (.int y :: .int x :: rest)) := lv_imul hx hb hdg (kk _ h)
theorem x_iand (hx : p.tables.exec = Jvm.exec) (hb : c.code = cc) {x y : Int32} {K : Int32 → Option α} (hdg : decode cc pc = .ok (.iand, 1)) (h : q_nm (x &&& y) K = some r0) (kk : ∀ z, K z = some r0 → W p l e R s m args below meth c H locs cells slots Q (F0 m (pc + 1) ls (.int z :: rest))) : W p l e R s m args below meth c H locs cells slots Q (F0 m pc ls (.int y :: .int x :: rest)) := lv_iand hx hb hdg (kk _ h)
theorem x_ior (hx : p.tables.exec = Jvm.exec) (hb : c.code = cc) {x y : Int32} {K : Int32 → Option α} (hdg : decode cc pc = .ok (.ior, 1)) (h : q_nm (x ||| y) K = some r0) (kk : ∀ z, K z = some r0 → W p l e R s m args below meth c H locs cells slots Q (F0 m (pc + 1) ls (.int z :: rest))) : W p l e R s m args below meth c H locs cells slots Q (F0 m pc ls (.int y :: .int x :: rest)) := lv_ior hx hb hdg (kk _ h)
theorem x_ishl (hx : p.tables.exec = Jvm.exec) (hb : c.code = cc) {x y : Int32} {K : Int32 → Option α} (hdg : decode cc pc = .ok (.ishl, 1)) (h : q_nm (x <<< (y &&& 31)) K = some r0) (kk : ∀ z, K z = some r0 → W p l e R s m args below meth c H locs cells slots Q (F0 m (pc + 1) ls (.int z :: rest))) : W p l e R s m args below meth c H locs cells slots Q (F0 m pc ls (.int y :: .int x :: rest)) := lv_ishl hx hb hdg (kk _ h)
theorem x_ishr (hx : p.tables.exec = Jvm.exec) (hb : c.code = cc) {x y : Int32} {K : Int32 → Option α} (hdg : decode cc pc = .ok (.ishr, 1)) (h : q_nm (x >>> (y &&& 31)) K = some r0) (kk : ∀ z, K z = some r0 → W p l e R s m args below meth c H locs cells slots Q (F0 m (pc + 1) ls (.int z :: rest))) : W p l e R s m args below meth c H locs cells slots Q (F0 m pc ls (.int y :: .int x :: rest)) := lv_ishr hx hb hdg (kk _ h)
theorem x_iushr (hx : p.tables.exec = Jvm.exec) (hb : c.code = cc) {x y : Int32} {K : Int32 → Option α} (hdg : decode cc pc = .ok (.iushr, 1)) (h : q_nm ((x.toUInt32 >>> (y.toUInt32 &&& Int32.toUInt32 31)).toInt32) K = some r0) (kk : ∀ z, K z = some r0 → W p l e R s m args below meth c H locs cells slots Q (F0 m (pc + 1) ls (.int z :: rest))) : W p l e R s m args below meth c H locs cells slots Q (F0 m pc ls (.int y :: .int x :: rest)) := lv_iushr hx hb hdg rfl (kk _ h)
theorem x_idiv (hx : p.tables.exec = Jvm.exec) (hb : c.code = cc) {x y : Int32} {K : Int32 → Option α} (hdg : decode cc pc = .ok (.idiv, 1)) (h : q_dv y (q_nm (x / y) K) = some r0) (kk : ∀ z, K z = some r0 → W p l e R s m args below meth c H locs cells slots Q (F0 m (pc + 1) ls (.int z :: rest))) : W p l e R s m args below meth c H locs cells slots Q (F0 m pc ls (.int y :: .int x :: rest)) := lv_idiv hx hb hdg (q_dv_of h).1 (kk _ (q_dv_of h).2)
theorem x_irem (hx : p.tables.exec = Jvm.exec) (hb : c.code = cc) {x y : Int32} {K : Int32 → Option α} (hdg : decode cc pc = .ok (.irem, 1)) (h : q_dv y (q_nm (x - x / y * y) K) = some r0) (kk : ∀ z, K z = some r0 → W p l e R s m args below meth c H locs cells slots Q (F0 m (pc + 1) ls (.int z :: rest))) : W p l e R s m args below meth c H locs cells slots Q (F0 m pc ls (.int y :: .int x :: rest)) := lv_irem hx hb hdg (q_dv_of h).1 (kk _ (q_dv_of h).2)
theorem x_iinc (hx : p.tables.exec = Jvm.exec) (hb : c.code = cc) {i nL k : Nat} {n : Int} {x w : Int32} {lv : List (Nat × Value)} {K : Int32 → Option α} (hdg : decode cc pc = .ok (.iinc i n, 3)) (hl : lv_has ls nL lv) (hk : lv[k]? = some (i, .int x)) (hw : Int32.ofInt n = w) (hn : i < nL) (lv' : Int32 → List (Nat × Value)) (hl' : ∀ v, (i, Value.int v) :: lv.filter (fun q => !(q.1 == i) && !(q.1 + 1 == i && q.2.category == 2)) = lv' v) (h : q_nm (x + w) K = some r0)
    (kk : ∀ (z : Int32) (ls' : Array Slot), lv_has ls' nL (lv' z) → K z = some r0 → W p l e R s m args below meth c H locs cells slots Q (F0 m (pc + 3) ls' rest)) : W p l e R s m args below meth c H locs cells slots Q (F0 m pc ls rest) :=
  lv_iinc (v := x + w) (lv' := lv' (x + w)) hx hb hdg hl hk (by rw [hw]) hn (hl' _) (fun ls' hl' => kk _ ls' hl' h)
theorem x_iald {σ : qM} {r n q0 t0 : Nat} {cA : ClassId} {ws : va_W} {i : Int32} {K : Int32 → Option α} (hx : p.tables.exec = Jvm.exec) (hb : c.code = cc) (hK : va_K D cl tys s) (hP : va_P D cl ws H) (ht : tys[t0]? = some (cA, .int)) (h : q_rd σ r n i K = some r0) (ha : ws[q0]? = some (a, .inl (cA, n, .inl (σ r)))) (hdg : decode cc pc = .ok (.iaload, 1))
    (kk : ∀ z, K z = some r0 → W p l e R s m args below meth c H locs cells slots Q (F0 m (pc + 1) ls (.int z :: rest))) : W p l e R s m args below meth c H locs cells slots Q (F0 m pc ls (.int i :: .ref a :: rest)) :=
  va_iald hx hb hK hP q0 t0 ha ht (q_rd_of h).1 hdg (kk _ (q_rd_of h).2)
theorem x_iast (pic : qM → va_W) {σ : qM} {r n q0 t0 : Nat} {cA : ClassId} {i x : Int32} {K : qM → Option α} (hx : p.tables.exec = Jvm.exec) (hb : c.code = cc) (hK : va_K D cl tys s) (hP : va_P D cl (pic σ) H) (hD : ∀ σ, va_D A (pic σ)) (hS : va_S A H0 H locs) (ht : tys[t0]? = some (cA, .int)) (h : q_wt σ r n i x K = some r0) (ha : (pic σ)[q0]? = some (a, .inl (cA, n, .inl (σ r)))) (hs : ∀ (j : Nat) (v : Int32), (pic σ).set q0 (a, .inl (cA, n, .inl (upd (σ r) j v))) = pic (q_wr σ r j v)) (hdg : decode cc pc = .ok (.iastore, 1))
    (kk : ∀ (H1 : Heap) (locs1 : List Loc) (σ1 : qM), va_P D cl (pic σ1) H1 → va_S A H0 H1 locs1 → K σ1 = some r0 → W p l e R s m args below meth c H1 locs1 cells slots Q (F0 m (pc + 1) ls rest)) : W p l e R s m args below meth c H locs cells slots Q (F0 m pc ls (.int x :: .int i :: .ref a :: rest)) :=
  va_iast hx hb hK hP (hD σ) hS q0 t0 ha ht (q_wt_of h).1 hdg (fun H1 locs1 hP1 _ hS1 => kk H1 locs1 _ (by rw [hs] at hP1; exact hP1) hS1 (q_wt_of h).2)
theorem x_alen {q0 t0 : Nat} {cA : ClassId} {ws : va_W} {x : vp_A} {K : Int32 → Option α} (hx : p.tables.exec = Jvm.exec) (hb : c.code = cc) (hK : va_K D cl tys s) (hP : va_P D cl ws H) (ht : tys[t0]? = some (cA, .int)) (ha : ws[q0]? = some (a, .inl (cA, x))) (hdg : decode cc pc = .ok (.arraylength, 1)) (h : q_nm (Int32.ofNat x.1) K = some r0)
    (kk : ∀ z, K z = some r0 → W p l e R s m args below meth c H locs cells slots Q (F0 m (pc + 1) ls (.int z :: rest))) : W p l e R s m args below meth c H locs cells slots Q (F0 m pc ls (.ref a :: rest)) :=
  va_alen hx hb hK hP q0 t0 ha ht rfl hdg (kk _ h)
theorem x_geti {own C : String} {T : u_T} {N ci index q0 k : Nat} {Ts : List Cond} {fs : List Value} {v : Int32} {nm ds : String} {ws : va_W} {K : Int32 → Option α} (hx : p.tables.exec = Jvm.exec) (hb : c.code = cc) (hts : ∀ w ∈ Ts, w.before args s = true) (hin : ∀ w ∈ u_ws C T N, w ∈ Ts) (hown : s.vm.findClass own = some m.cls) (hK : va_K D cl tys s) (hP : va_P D cl ws H) (he : ws[q0]? = some (a, .inr (ci, fs))) (hc : cl[ci]? = some (C, T, N)) (hk : k < N) (hT : (T k).1 = C ∧ (T k).2.1 = nm ∧ (T k).2.2.1 = ds) (hlink : Cond.fieldLink own index C nm ds ∈ Ts) (hv : fs[k]? = some (.int v)) (hdg : decode cc pc = .ok (.getfield index, 3)) (h : q_nm v K = some r0)
    (kk : ∀ z, K z = some r0 → W p l e R s m args below meth c H locs cells slots Q (F0 m (pc + 3) ls (.int z :: rest))) : W p l e R s m args below meth c H locs cells slots Q (F0 m pc ls (.ref a :: rest)) := by
  obtain ⟨h1, h2, h3⟩ := hT
  exact va_get hx hb hts hin hown hK hP q0 he hc k hk (ref := C) (by rw [h2, h3]; exact hts _ hlink) (fun x9 h9 => by rw [h1] at h9; exact h9) hv hdg (kk _ h)
theorem x_getr {own C : String} {T : u_T} {N ci index q0 k b : Nat} {Ts : List Cond} {fs : List Value} {nm ds : String} {ws : va_W} (hx : p.tables.exec = Jvm.exec) (hb : c.code = cc) (hts : ∀ w ∈ Ts, w.before args s = true) (hin : ∀ w ∈ u_ws C T N, w ∈ Ts) (hown : s.vm.findClass own = some m.cls) (hK : va_K D cl tys s) (hP : va_P D cl ws H) (he : ws[q0]? = some (a, .inr (ci, fs))) (hc : cl[ci]? = some (C, T, N)) (hk : k < N) (hT : (T k).1 = C ∧ (T k).2.1 = nm ∧ (T k).2.2.1 = ds) (hlink : Cond.fieldLink own index C nm ds ∈ Ts) (hv : fs[k]? = some (.ref b)) (hdg : decode cc pc = .ok (.getfield index, 3))
    (kk : W p l e R s m args below meth c H locs cells slots Q (F0 m (pc + 3) ls (.ref b :: rest))) : W p l e R s m args below meth c H locs cells slots Q (F0 m pc ls (.ref a :: rest)) := by
  obtain ⟨h1, h2, h3⟩ := hT
  exact va_get hx hb hts hin hown hK hP q0 he hc k hk (ref := C) (by rw [h2, h3]; exact hts _ hlink) (fun x9 h9 => by rw [h1] at h9; exact h9) hv hdg kk
theorem x_puti (pic : qM → va_W) {σ : qM} {own C : String} {T : u_T} {N ci index q0 k r : Nat} {Ts : List Cond} {fs : List Value} {v : Int32} {nm ds : String} {ty : FieldType} {K : qM → Option α} (hx : p.tables.exec = Jvm.exec) (hb : c.code = cc) (hts : ∀ w ∈ Ts, w.before args s = true) (hin : ∀ w ∈ u_ws C T N, w ∈ Ts) (ty0 : Nat → FieldType) (hty : ∀ k, k < N → parseFieldDescriptor (T k).2.2.1 = some (ty0 k)) (hnm : ∀ a, a < N → ∀ b, b < N → a ≠ b → (T a).2.1 ≠ (T b).2.1) (hown : s.vm.findClass own = some m.cls) (hK : va_K D cl tys s) (hP : va_P D cl (pic σ) H) (hD : ∀ σ, va_D A (pic σ)) (hS : va_S A H0 H locs) (h : q_nm (q_wr σ r k v) K = some r0) (he : (pic σ)[q0]? = some (a, .inr (ci, fs))) (hc : cl[ci]? = some (C, T, N)) (hk : k < N) (hT : (T k).1 = C ∧ (T k).2.1 = nm ∧ (T k).2.2.1 = ds) (hlink : Cond.fieldLink own index C nm ds ∈ Ts) (hfin : (T k).2.2.2 = false) (hy : ty0 k = ty) (hn : narrow ty (.int v) = .int v) (hf : fits ty (.int v) = true) (hl : k < fs.length) (hs : (pic σ).set q0 (a, .inr (ci, fs.set k (.int v))) = pic (q_wr σ r k v)) (hdg : decode cc pc = .ok (.putfield index, 3))
    (kk : ∀ (H1 : Heap) (locs1 : List Loc) (σ1 : qM), va_P D cl (pic σ1) H1 → va_S A H0 H1 locs1 → K σ1 = some r0 → W p l e R s m args below meth c H1 locs1 cells slots Q (F0 m (pc + 3) ls rest)) : W p l e R s m args below meth c H locs cells slots Q (F0 m pc ls (.int v :: .ref a :: rest)) := by
  obtain ⟨h1, h2, h3⟩ := hT
  exact va_put hx hb hts hin ty0 hty hnm hown hK hP (hD σ) hS q0 he hc k hk (ref := C) (by rw [h2, h3]; exact hts _ hlink) (fun x9 h9 => by rw [h1] at h9; exact h9) hfin (ty := ty) (by rw [hty k hk, hy]) hn hf hl hdg (fun H1 locs1 hP1 _ hS1 => kk H1 locs1 _ (by rw [hs] at hP1; exact hP1) hS1 h)
theorem q_nb {v : Int32} (h : v = 0 ∨ v = 1) : narrow .boolean (.int v) = .int v ∧ fits .boolean (.int v) = true := by
  rcases h with rfl | rfl <;> decide +kernel
theorem x_mmin {own : String} {index : Nat} {Ts : List Cond} {x y : Int32} {K : Int32 → Option α} (hx : p.tables.exec = Jvm.exec) (hb : c.code = cc) (hml : c.maxLocals = ls.size) (hown : s.vm.findClass own = some m.cls) (hts : ∀ w ∈ Ts, w.before args s = true) (h4 : Cond.methodLink own index Lib.Math.min.name ∈ Ts ∧ Cond.static Lib.Math.min.name ∈ Ts ∧ Cond.initialized "java/lang/Math" ∈ Ts ∧ Cond.code Lib.Math.min.name Lib.Math.min.code 2 (some .int) ∈ Ts) (hr : 1 ≤ R.frames ∧ (rest.map fun v => v.category).sum + 13 ≤ R.locals ∧ cells ≤ R.cells ∧ slots ≤ R.slots) (hdg : decode cc pc = .ok (.invokestatic index, 3)) (h : q_nm (if y < x then y else x) K = some r0)
    (kk : ∀ z, K z = some r0 → W p l e R s m args below meth c H locs cells slots Q (F0 m (pc + 3) ls (.int z :: rest))) : W p l e R s m args below meth c H locs cells slots Q (F0 m pc ls (.int y :: .int x :: rest)) :=
  va_mmin hx hb hml hown (hts _ h4.1) (hts _ h4.2.1) (hts _ h4.2.2.1) (hts _ h4.2.2.2) hr.1 hr.2.1 hr.2.2.1 hr.2.2.2 hdg (kk _ h)
end QROWS
/-! contracts: the method's end is the pure method's answer, where that isn't stuck -/
def q_Pre (D : va_G) (tys : List (ClassId × FieldType)) (w : va_W) (sz : Nat) : State → Prop := fun U => U.heap.size = sz ∧ va_P D vwCl w U.heap ∧ va_K D vwCl tys U ∧ va_D (fun _ => True) w
def q_Met (l : Launch) (y : MethodName) (ws : List Cond) (rm : Room) (av : List Value) (D : va_G) (tys : List (ClassId × FieldType)) (pic : qM → va_W) (σ : qM) (o : qR) : Prop := ∀ (sz : Nat) (q : Int32 × qM), o = some q → Met l y ws rm (va_Pc av (q_Pre D tys (pic σ) sz)) (va_Qi (fun r τ => (r, τ) = q) (fun τ t => va_P D vwCl (pic τ) t.heap) (va_A (pic σ) sz)) 0 0 (va_A (pic σ) sz)
def q_Mev (l : Launch) (y : MethodName) (ws : List Cond) (rm : Room) (av : List Value) (D : va_G) (tys : List (ClassId × FieldType)) (pic : qM → va_W) (σ : qM) (o : qR) : Prop := ∀ (sz : Nat) (q : Int32 × qM), o = some q → Met l y ws rm (va_Pc av (q_Pre D tys (pic σ) sz)) (va_Qv (fun τ => ((0 : Int32), τ) = q) (fun τ t => va_P D vwCl (pic τ) t.heap) (va_A (pic σ) sz)) 0 0 (va_A (pic σ) sz)
theorem q_blind {av : List Value} {D : va_G} {tys : List (ClassId × FieldType)} {w : va_W} {sz : Nat} : FrameBlind (va_Pc av (q_Pre D tys w sz)) := fun a U g mk q => by
  obtain ⟨q0, q1, qP, qK, qD⟩ := q
  exact ⟨q0, q1, qP, va_K.moved (u := U) (U := U.calling g mk a) (Vm.Alike.refl U.vm) qK, qD⟩
theorem q_preU {s : State} {H : Heap} {av : List Value} {D : va_G} {tys : List (ClassId × FieldType)} {w : va_W} {A : Nat → Prop} (hK : va_K D vwCl tys s) (hP : va_P D vwCl w H) (hD : va_D A w) : ∀ U : State, U.heap = H → s.WarmedH U.vm → va_Pc av (q_Pre D tys w H.size) av.toArray U := fun U hU hW => ⟨rfl, by rw [hU], by rw [hU]; exact hP, va_K.moved hW.alike hK, hD.weaken (fun _ _ _ _ => trivial)⟩
theorem q_free {w wc : va_W} {A : Nat → Prop} {H0 H : Heap} {locs : List Loc} (hw : ∀ q ∈ wc, q ∈ w) (hD : va_D A w) (hS : va_S A H0 H locs) (hA : ∀ q, H0.size ≤ q → A q) : ∀ q, va_A wc H.size q → A q := by
  intro q h
  rcases h with ⟨k, e, h⟩ | h
  · exact q_D_in hD (hw _ (List.mem_of_getElem? h))
  · exact hA q (Nat.le_trans hS.1 h)
theorem q_join {D : va_G} {w wc : va_W} {A : Nat → Prop} {H H1 : Heap} {e z : qM → va_W} {τ : qM} (hF : q_Fr w wc e z) (hD : va_D A w) (hP : va_P D vwCl w H) (hk : ∀ q : Nat, q < H.size → ¬ va_A wc H.size q → H1[q]? = H[q]?) (hP1 : va_P D vwCl (e τ) H1) : va_P D vwCl (z τ) H1 := by
  intro k q hq
  rcases hF.2.2 A hD τ q (List.mem_of_getElem? hq) with h | ⟨h1, h2⟩
  · exact q_P_at hP1 h
  · have h3 := q_P_at hP h1
    refine h3.kept (hk q.1 h3.lt (fun h => ?_))
    rcases h with ⟨j, ee, h⟩ | h
    · exact h2 _ (List.mem_of_getElem? h) rfl
    · have := h3.lt
      omega
section QCALLS
variable {p : Program} {l : Launch} {e : Env} {R : Room} {s : State} {m : MethodId} {args : Array Value} {below : List Frame} {meth : Method} {c : Code} {H : Heap} {locs : List Loc} {cells slots : Nat} {Q : State → Prop}
variable {cc : ByteArray} {pc : Nat} {ls : Array Slot} {st0 rest As : List Value} {D : va_G} {A : Nat → Prop} {tys : List (ClassId × FieldType)} {H0 : Heap} {α : Type} {r0 : α}
variable {own C : String} {index maxL nL n : Nat} {y : MethodName} {bytes : ByteArray} {ret : Option FieldType} {ws ws' Ts : List Cond} {rm : Room} {pic picC : qM → va_W} {σ σC : qM} {b q0 ci : Nat} {fs : List Value} {T : u_T} {N : Nat} {o : qR} {put : qM → qM} {K : Int32 → qM → Option α}
theorem x_cVi (pic picC : qM → va_W) (put : qM → qM) (rest As : List Value) (hx : p.tables.exec = Jvm.exec) (hb : c.code = cc) (hml : c.maxLocals = nL) (hls : ls.size = nL) (hown : s.vm.findClass own = some m.cls) (hts : ∀ w ∈ Ts, w.before args s = true) (hK : va_K D vwCl tys s) (hP : va_P D vwCl (pic σ) H) (hD : ∀ σ, va_D A (pic σ)) (hS : va_S A H0 H locs) (hA : ∀ q, H0.size ≤ q → A q)
    (hst : st0 = As.reverse ++ .ref b :: rest) (hM : q_Met l y ws rm (.ref b :: As) D tys picC σC o) (hG : GoodIn Ts (wsV own index C y ws)) (hw : ws = Cond.code y bytes maxL ret :: ws') (hrm : rm.cells = 0 ∧ rm.slots = 0) (hd : y.cls = C ∧ y.cls ≠ "java/lang/invoke/MethodHandle" ∧ y.cls ≠ "java/lang/invoke/VarHandle" ∧ (parseMethodDescriptor y.desc).map (fun d => d.parameters.length) = some n) (hR : rm.frames + 1 ≤ R.frames ∧ 8 + (maxL + 11) + rm.locals ≤ R.locals)
    (hF : q_Fr (pic σ) (picC σC) picC (fun τ => pic (put τ))) (he : (picC σC)[q0]? = some (b, .inr (ci, fs))) (hc : vwCl[ci]? = some (C, T, N)) (hn : As.length = n) (hcat : (rest.map fun v => v.category).sum ≤ 8) (hf : cells ≤ R.cells ∧ slots ≤ R.slots) (hdg : decode cc pc = .ok (.invokevirtual index, 3)) (h : q_cl o put K = some r0)
    (kk : ∀ (z : Int32) (H1 : Heap) (locs1 : List Loc) (σ1 : qM), va_P D vwCl (pic σ1) H1 → va_S A H0 H1 locs1 → K z σ1 = some r0 → W p l e R s m args below meth c H1 locs1 cells slots Q (F0 m (pc + 3) ls (.int z :: rest))) : W p l e R s m args below meth c H locs cells slots Q (F0 m pc ls st0) := by
  obtain ⟨qq, ho, hk0⟩ := q_cl_of h
  have hPc := q_P_mem hP hF.1
  have hDc := hF.2.1 A (hD σ)
  have hFc := q_free hF.1 (hD σ) hS hA
  have hKm : ∀ U : State, U.heap = H → s.WarmedH U.vm → va_Pc (.ref b :: As) (q_Pre D tys (picC σC) H.size) (Value.ref b :: As).toArray U := q_preU hK hPc hDc
  refine va_calli (va_runV (As := As) (rest := rest) ⟨hx, hb, hml, hown, hts⟩ (hM H.size qq ho) (cwV n hts hG hw hrm.1 hrm.2 hd hR) ⟨q_blind, va_recv hK hPc hc he, hKm⟩ rfl hn hls hst (lv_room hcat) hdg hf) hS (fun q _ h => hFc q h) hFc (fun r u t H1 locs1 ht hvm hw1 hB hz1 hk1 hS1 => ?_)
  rw [ht] at hB
  refine kk r H1 locs1 (put u) (q_join (z := fun τ => pic (put τ)) hF (hD σ) hP hk1 hB) hS1 ?_
  rw [← hw1] at hk0
  exact hk0
theorem x_cVv (pic picC : qM → va_W) (put : qM → qM) (rest As : List Value) (hx : p.tables.exec = Jvm.exec) (hb : c.code = cc) (hml : c.maxLocals = nL) (hls : ls.size = nL) (hown : s.vm.findClass own = some m.cls) (hts : ∀ w ∈ Ts, w.before args s = true) (hK : va_K D vwCl tys s) (hP : va_P D vwCl (pic σ) H) (hD : ∀ σ, va_D A (pic σ)) (hS : va_S A H0 H locs) (hA : ∀ q, H0.size ≤ q → A q)
    (hst : st0 = As.reverse ++ .ref b :: rest) (hM : q_Mev l y ws rm (.ref b :: As) D tys picC σC o) (hG : GoodIn Ts (wsV own index C y ws)) (hw : ws = Cond.code y bytes maxL ret :: ws') (hrm : rm.cells = 0 ∧ rm.slots = 0) (hd : y.cls = C ∧ y.cls ≠ "java/lang/invoke/MethodHandle" ∧ y.cls ≠ "java/lang/invoke/VarHandle" ∧ (parseMethodDescriptor y.desc).map (fun d => d.parameters.length) = some n) (hR : rm.frames + 1 ≤ R.frames ∧ 8 + (maxL + 11) + rm.locals ≤ R.locals)
    (hF : q_Fr (pic σ) (picC σC) picC (fun τ => pic (put τ))) (he : (picC σC)[q0]? = some (b, .inr (ci, fs))) (hc : vwCl[ci]? = some (C, T, N)) (hn : As.length = n) (hcat : (rest.map fun v => v.category).sum ≤ 8) (hf : cells ≤ R.cells ∧ slots ≤ R.slots) (hdg : decode cc pc = .ok (.invokevirtual index, 3)) (h : q_cl o put K = some r0)
    (kk : ∀ (H1 : Heap) (locs1 : List Loc) (σ1 : qM), va_P D vwCl (pic σ1) H1 → va_S A H0 H1 locs1 → K 0 σ1 = some r0 → W p l e R s m args below meth c H1 locs1 cells slots Q (F0 m (pc + 3) ls rest)) : W p l e R s m args below meth c H locs cells slots Q (F0 m pc ls st0) := by
  obtain ⟨qq, ho, hk0⟩ := q_cl_of h
  have hPc := q_P_mem hP hF.1
  have hDc := hF.2.1 A (hD σ)
  have hFc := q_free hF.1 (hD σ) hS hA
  have hKm : ∀ U : State, U.heap = H → s.WarmedH U.vm → va_Pc (.ref b :: As) (q_Pre D tys (picC σC) H.size) (Value.ref b :: As).toArray U := q_preU hK hPc hDc
  refine va_callv (va_runV (As := As) (rest := rest) ⟨hx, hb, hml, hown, hts⟩ (hM H.size qq ho) (cwV n hts hG hw hrm.1 hrm.2 hd hR) ⟨q_blind, va_recv hK hPc hc he, hKm⟩ rfl hn hls hst (lv_room hcat) hdg hf) hS (fun q _ h => hFc q h) hFc (fun u t H1 locs1 ht hvm hw1 hB hz1 hk1 hS1 => ?_)
  rw [ht] at hB
  refine kk H1 locs1 (put u) (q_join (z := fun τ => pic (put τ)) hF (hD σ) hP hk1 hB) hS1 ?_
  rw [← hw1] at hk0
  exact hk0
theorem x_cSi (pic picC : qM → va_W) (put : qM → qM) (rest As : List Value) (hx : p.tables.exec = Jvm.exec) (hb : c.code = cc) (hml : c.maxLocals = nL) (hls : ls.size = nL) (hown : s.vm.findClass own = some m.cls) (hts : ∀ w ∈ Ts, w.before args s = true) (hK : va_K D vwCl tys s) (hP : va_P D vwCl (pic σ) H) (hD : ∀ σ, va_D A (pic σ)) (hS : va_S A H0 H locs) (hA : ∀ q, H0.size ≤ q → A q)
    (hst : st0 = As.reverse ++ rest) (hM : q_Met l y ws rm As D tys picC σC o) (hG : GoodIn Ts (va_wsS own index y ws)) (hw : ws = Cond.code y bytes maxL ret :: ws') (hrm : rm.cells = 0 ∧ rm.slots = 0) (hd : y.cls ≠ "java/lang/invoke/MethodHandle" ∧ y.cls ≠ "java/lang/invoke/VarHandle" ∧ (parseMethodDescriptor y.desc).map (fun d => d.parameters.length) = some n) (hR : rm.frames + 1 ≤ R.frames ∧ 8 + (maxL + 11) + rm.locals ≤ R.locals)
    (hF : q_Fr (pic σ) (picC σC) picC (fun τ => pic (put τ))) (hn : As.length = n) (hcat : (rest.map fun v => v.category).sum ≤ 8) (hf : cells ≤ R.cells ∧ slots ≤ R.slots) (hdg : decode cc pc = .ok (.invokestatic index, 3)) (h : q_cl o put K = some r0)
    (kk : ∀ (z : Int32) (H1 : Heap) (locs1 : List Loc) (σ1 : qM), va_P D vwCl (pic σ1) H1 → va_S A H0 H1 locs1 → K z σ1 = some r0 → W p l e R s m args below meth c H1 locs1 cells slots Q (F0 m (pc + 3) ls (.int z :: rest))) : W p l e R s m args below meth c H locs cells slots Q (F0 m pc ls st0) := by
  obtain ⟨qq, ho, hk0⟩ := q_cl_of h
  have hPc := q_P_mem hP hF.1
  have hDc := hF.2.1 A (hD σ)
  have hFc := q_free hF.1 (hD σ) hS hA
  have hKm : ∀ U : State, U.heap = H → s.WarmedH U.vm → va_Pc As (q_Pre D tys (picC σC) H.size) As.toArray U := q_preU hK hPc hDc
  refine va_calli (va_runS (As := As) (rest := rest) ⟨hx, hb, hml, hown, hts⟩ (hM H.size qq ho) (va_cwS n hts hG hw hrm.1 hrm.2 hd hR) ⟨q_blind, hKm⟩ rfl hn hls hst (lv_room hcat) hdg hf) hS (fun q _ h => hFc q h) hFc (fun r u t H1 locs1 ht hvm hw1 hB hz1 hk1 hS1 => ?_)
  rw [ht] at hB
  refine kk r H1 locs1 (put u) (q_join (z := fun τ => pic (put τ)) hF (hD σ) hP hk1 hB) hS1 ?_
  rw [← hw1] at hk0
  exact hk0
theorem x_cSv (pic picC : qM → va_W) (put : qM → qM) (rest As : List Value) (hx : p.tables.exec = Jvm.exec) (hb : c.code = cc) (hml : c.maxLocals = nL) (hls : ls.size = nL) (hown : s.vm.findClass own = some m.cls) (hts : ∀ w ∈ Ts, w.before args s = true) (hK : va_K D vwCl tys s) (hP : va_P D vwCl (pic σ) H) (hD : ∀ σ, va_D A (pic σ)) (hS : va_S A H0 H locs) (hA : ∀ q, H0.size ≤ q → A q)
    (hst : st0 = As.reverse ++ rest) (hM : q_Mev l y ws rm As D tys picC σC o) (hG : GoodIn Ts (va_wsS own index y ws)) (hw : ws = Cond.code y bytes maxL ret :: ws') (hrm : rm.cells = 0 ∧ rm.slots = 0) (hd : y.cls ≠ "java/lang/invoke/MethodHandle" ∧ y.cls ≠ "java/lang/invoke/VarHandle" ∧ (parseMethodDescriptor y.desc).map (fun d => d.parameters.length) = some n) (hR : rm.frames + 1 ≤ R.frames ∧ 8 + (maxL + 11) + rm.locals ≤ R.locals)
    (hF : q_Fr (pic σ) (picC σC) picC (fun τ => pic (put τ))) (hn : As.length = n) (hcat : (rest.map fun v => v.category).sum ≤ 8) (hf : cells ≤ R.cells ∧ slots ≤ R.slots) (hdg : decode cc pc = .ok (.invokestatic index, 3)) (h : q_cl o put K = some r0)
    (kk : ∀ (H1 : Heap) (locs1 : List Loc) (σ1 : qM), va_P D vwCl (pic σ1) H1 → va_S A H0 H1 locs1 → K 0 σ1 = some r0 → W p l e R s m args below meth c H1 locs1 cells slots Q (F0 m (pc + 3) ls rest)) : W p l e R s m args below meth c H locs cells slots Q (F0 m pc ls st0) := by
  obtain ⟨qq, ho, hk0⟩ := q_cl_of h
  have hPc := q_P_mem hP hF.1
  have hDc := hF.2.1 A (hD σ)
  have hFc := q_free hF.1 (hD σ) hS hA
  have hKm : ∀ U : State, U.heap = H → s.WarmedH U.vm → va_Pc As (q_Pre D tys (picC σC) H.size) As.toArray U := q_preU hK hPc hDc
  refine va_callv (va_runS (As := As) (rest := rest) ⟨hx, hb, hml, hown, hts⟩ (hM H.size qq ho) (va_cwS n hts hG hw hrm.1 hrm.2 hd hR) ⟨q_blind, hKm⟩ rfl hn hls hst (lv_room hcat) hdg hf) hS (fun q _ h => hFc q h) hFc (fun u t H1 locs1 ht hvm hw1 hB hz1 hk1 hS1 => ?_)
  rw [ht] at hB
  refine kk H1 locs1 (put u) (q_join (z := fun τ => pic (put τ)) hF (hD σ) hP hk1 hB) hS1 ?_
  rw [← hw1] at hk0
  exact hk0
/-- ends -/
theorem x_iret (pic : qM → va_W) {x : Int32} {qq : Int32 × qM} (hx : p.tables.exec = Jvm.exec) (hb : c.code = cc) (hr : meth.sig.returnType = some .int) (hlocks : meth.locks = false) (hP : va_P D vwCl (pic σ) H) (hS : va_S A s.heap H locs) (hdg : decode cc pc = .ok (.ireturn, 1)) (h : (some (x, σ) : qR) = some qq) : W p l e R s m args below meth c H locs 0 0 (MQ below (va_Qi (fun r τ => (r, τ) = qq) (fun τ t => va_P D vwCl (pic τ) t.heap) (A)) args s 0 0 (A)) (F0 m pc ls [.int x]) :=
  W.iret hx hb hr (fun t ht hW => ⟨⟨x, σ, rfl, Option.some.inj h, by dsimp only; rw [ht]; exact hP⟩, hS.F ht⟩) hS.2.2 hdg hlocks
theorem x_zret (pic : qM → va_W) {x : Int32} {qq : Int32 × qM} (hx : p.tables.exec = Jvm.exec) (hb : c.code = cc) (hr : meth.sig.returnType = some .boolean) (hlocks : meth.locks = false) (hP : va_P D vwCl (pic σ) H) (hS : va_S A s.heap H locs) (hdg : decode cc pc = .ok (.ireturn, 1)) (h : q_bo x (some (x, σ) : qR) = some qq) : W p l e R s m args below meth c H locs 0 0 (MQ below (va_Qi (fun r τ => (r, τ) = qq) (fun τ t => va_P D vwCl (pic τ) t.heap) (A)) args s 0 0 (A)) (F0 m pc ls [.int x]) :=
  W.zret hx hb hr (q_nb (q_bo_of h).1).1 (fun t ht hW => ⟨⟨x, σ, rfl, Option.some.inj (q_bo_of h).2, by dsimp only; rw [ht]; exact hP⟩, hS.F ht⟩) hS.2.2 hdg hlocks
theorem x_vret (pic : qM → va_W) {qq : Int32 × qM} (hx : p.tables.exec = Jvm.exec) (hb : c.code = cc) (hr : meth.sig.returnType = none) (hlocks : meth.locks = false) (hP : va_P D vwCl (pic σ) H) (hS : va_S A s.heap H locs) (hdg : decode cc pc = .ok (.return_, 1)) (h : (some (0, σ) : qR) = some qq) : W p l e R s m args below meth c H locs 0 0 (MQ below (va_Qv (fun τ => ((0 : Int32), τ) = qq) (fun τ t => va_P D vwCl (pic τ) t.heap) (A)) args s 0 0 (A)) (F0 m pc ls []) :=
  W.vret hx hb hr (fun t ht hW => ⟨⟨σ, rfl, Option.some.inj h, by dsimp only; rw [ht]; exact hP⟩, hS.F ht⟩) hS.2.2 hdg hlocks
end QCALLS

theorem x_ofWi {l : Launch} {y : MethodName} {ws ws' : List Cond} {rm : Room} {av : List Value} {D : va_G} {tys : List (ClassId × FieldType)} {pic : qM → va_W} {σ : qM} {o : qR} {cc : ByteArray} {maxL : Nat} {ret : Option FieldType} (hy : plainName y.cls = true) (hw : ws = Cond.code y cc maxL ret :: ws') (hfst : ∀ σ1 σ2 : qM, (pic σ1).map (fun q => q.1) = (pic σ2).map (fun q => q.1)) (hlen : (lg_sl av).length ≤ maxL)
    (body : ∀ (p : Program) (e : Env) (s : State) (m : MethodId) (below : List Frame) (meth : Method) (c : Code) (A : Nat → Prop) (ls : Array Slot) (qq : Int32 × qM), o = some qq → p.tables.exec = Jvm.exec → c.code = cc → c.maxLocals = maxL → meth.sig.returnType = ret → meth.locks = false → s.vm.findClass y.cls = some m.cls → (∀ w ∈ ws, w.before av.toArray s = true) → va_K D vwCl tys s → va_P D vwCl (pic σ) s.heap → (∀ σ1, va_D A (pic σ1)) → (∀ q : Nat, s.heap.size ≤ q → A q) → va_S A s.heap s.heap [] → lv_has ls maxL (lv_args 0 av) →
      W p l e rm s m av.toArray below meth c s.heap [] 0 0 (MQ below (va_Qi (fun r τ => (r, τ) = qq) (fun τ t => va_P D vwCl (pic τ) t.heap) A) av.toArray s 0 0 A) (F0 m 0 ls [])) : q_Met l y ws rm av D tys pic σ o := by
  intro sz qq ho
  refine Met.ofW (cc := cc) (maxL := maxL) (ret := ret) hy hw ?_
  intro p e s m args below meth c s₁ B hml hv
  obtain ⟨rfl, hsz, hP, hK, hD0⟩ := hv
  have hts := atoms_spec (ws := ws) B.pre
  have hown : s.vm.findClass y.cls = some m.cls := findClass_of_methodNamed B.named
  subst hsz
  have hD := hD0.self (sz := s.heap.size)
  have hl := lv_entry av (n := maxL) hlen
  rw [lg_entry_eq]
  exact body p e s m below meth c (va_A (pic σ) s.heap.size) _ qq ho B.exec B.bytes hml B.returns B.notSynchronized hown hts hK hP (fun σ1 => q_D_fst (hfst σ σ1) hD) (fun q h => Or.inr h) va_S.rf hl
theorem x_ofWv {l : Launch} {y : MethodName} {ws ws' : List Cond} {rm : Room} {av : List Value} {D : va_G} {tys : List (ClassId × FieldType)} {pic : qM → va_W} {σ : qM} {o : qR} {cc : ByteArray} {maxL : Nat} {ret : Option FieldType} (hy : plainName y.cls = true) (hw : ws = Cond.code y cc maxL ret :: ws') (hfst : ∀ σ1 σ2 : qM, (pic σ1).map (fun q => q.1) = (pic σ2).map (fun q => q.1)) (hlen : (lg_sl av).length ≤ maxL)
    (body : ∀ (p : Program) (e : Env) (s : State) (m : MethodId) (below : List Frame) (meth : Method) (c : Code) (A : Nat → Prop) (ls : Array Slot) (qq : Int32 × qM), o = some qq → p.tables.exec = Jvm.exec → c.code = cc → c.maxLocals = maxL → meth.sig.returnType = ret → meth.locks = false → s.vm.findClass y.cls = some m.cls → (∀ w ∈ ws, w.before av.toArray s = true) → va_K D vwCl tys s → va_P D vwCl (pic σ) s.heap → (∀ σ1, va_D A (pic σ1)) → (∀ q : Nat, s.heap.size ≤ q → A q) → va_S A s.heap s.heap [] → lv_has ls maxL (lv_args 0 av) →
      W p l e rm s m av.toArray below meth c s.heap [] 0 0 (MQ below (va_Qv (fun τ => ((0 : Int32), τ) = qq) (fun τ t => va_P D vwCl (pic τ) t.heap) A) av.toArray s 0 0 A) (F0 m 0 ls [])) : q_Mev l y ws rm av D tys pic σ o := by
  intro sz qq ho
  refine Met.ofW (cc := cc) (maxL := maxL) (ret := ret) hy hw ?_
  intro p e s m args below meth c s₁ B hml hv
  obtain ⟨rfl, hsz, hP, hK, hD0⟩ := hv
  have hts := atoms_spec (ws := ws) B.pre
  have hown : s.vm.findClass y.cls = some m.cls := findClass_of_methodNamed B.named
  subst hsz
  have hD := hD0.self (sz := s.heap.size)
  have hl := lv_entry av (n := maxL) hlen
  rw [lg_entry_eq]
  exact body p e s m below meth c (va_A (pic σ) s.heap.size) _ qq ho B.exec B.bytes hml B.returns B.notSynchronized hown hts hK hP (fun σ1 => q_D_fst (hfst σ σ1) hD) (fun q h => Or.inr h) va_S.rf hl
def q_wa (σ : qM) (r : Nat) (g : Nat → Int32) : qM := fun k => cond (Nat.beq k r) g (σ k)
section QROWS2
variable {p : Program} {l : Launch} {e : Env} {R : Room} {s : State} {m : MethodId} {args : Array Value} {below : List Frame} {meth : Method} {c : Code} {H : Heap} {locs : List Loc} {cells slots : Nat} {Q : State → Prop}
variable {cc : ByteArray} {pc : Nat} {ls : Array Slot} {rest : List Value} {D : va_G} {cl : List vw_C} {A : Nat → Prop} {a : Nat} {tys : List (ClassId × FieldType)} {H0 : Heap} {α : Type} {r0 : α}
theorem x_mmax {own : String} {index : Nat} {Ts : List Cond} {x y : Int32} {K : Int32 → Option α} (hx : p.tables.exec = Jvm.exec) (hb : c.code = cc) (hml : c.maxLocals = ls.size) (hown : s.vm.findClass own = some m.cls) (hts : ∀ w ∈ Ts, w.before args s = true) (h4 : Cond.methodLink own index Lib.Math.max.name ∈ Ts ∧ Cond.static Lib.Math.max.name ∈ Ts ∧ Cond.initialized "java/lang/Math" ∈ Ts ∧ Cond.code Lib.Math.max.name Lib.Math.max.code 2 (some .int) ∈ Ts) (hr : 1 ≤ R.frames ∧ (rest.map fun v => v.category).sum + 13 ≤ R.locals ∧ cells ≤ R.cells ∧ slots ≤ R.slots) (hdg : decode cc pc = .ok (.invokestatic index, 3)) (h : q_nm (if x < y then y else x) K = some r0)
    (kk : ∀ z, K z = some r0 → W p l e R s m args below meth c H locs cells slots Q (F0 m (pc + 3) ls (.int z :: rest))) : W p l e R s m args below meth c H locs cells slots Q (F0 m pc ls (.int y :: .int x :: rest)) :=
  va_mmax hx hb hml hown (hts _ h4.1) (hts _ h4.2.1) (hts _ h4.2.2.1) (hts _ h4.2.2.2) hr.1 hr.2.1 hr.2.2.1 hr.2.2.2 hdg (kk _ h)
theorem x_copy (pic : qM → va_W) {own : String} {index q0 q1 t0 ra rb n0 n1 a0 : Nat} {cA : ClassId} {Ts : List Cond} {σ : qM} {v : Int32} (k : Nat) {K : qM → Option α} (hx : p.tables.exec = Jvm.exec) (hb : c.code = cc) (hml : c.maxLocals = ls.size) (hown : s.vm.findClass own = some m.cls) (hts : ∀ w ∈ Ts, w.before args s = true) (hK : va_K D cl tys s) (hP : va_P D cl (pic σ) H) (hD : ∀ σ, va_D A (pic σ)) (hS : va_S A H0 H locs) (h4 : Cond.methodLink own index arraycopyName ∈ Ts ∧ Cond.native arraycopyName ∈ Ts ∧ Cond.static arraycopyName ∈ Ts ∧ Cond.initialized "java/lang/System" ∈ Ts) (ht : tys[t0]? = some (cA, .int)) (h : q_nm (q_wa σ rb (va_cpy (σ ra) (σ rb) 0 0 k)) K = some r0) (ha0 : (pic σ)[q0]? = some (a0, .inl (cA, n0, .inl (σ ra)))) (ha1 : (pic σ)[q1]? = some (a, .inl (cA, n1, .inl (σ rb)))) (hv : v.toNatClampNeg = k ∧ ¬ v < 0 ∧ k ≤ n0 ∧ k ≤ n1) (hs : ∀ g, (pic σ).set q1 (a, .inl (cA, n1, .inl g)) = pic (q_wa σ rb g)) (hr : 1 ≤ R.frames ∧ (rest.map fun v => v.category).sum + (nativeFrameWords "java/lang/System" "arraycopy" 5 + 11) ≤ R.locals) (hdg : decode cc pc = .ok (.invokestatic index, 3))
    (kk : ∀ (H1 : Heap) (locs1 : List Loc) (σ1 : qM), va_P D cl (pic σ1) H1 → va_S A H0 H1 locs1 → K σ1 = some r0 → W p l e R s m args below meth c H1 locs1 cells slots Q (F0 m (pc + 3) ls rest)) : W p l e R s m args below meth c H locs cells slots Q (F0 m pc ls (.int v :: .int 0 :: .ref a :: .int 0 :: .ref a0 :: rest)) := by
  obtain ⟨hv1, hv2, hv3, hv4⟩ := hv
  have z0 : (0 : Int32).toNatClampNeg = 0 := by decide +kernel
  refine va_copyi hx hb hml hown (hts _ h4.1) (hts _ h4.2.1) (hts _ h4.2.2.1) (hts _ h4.2.2.2) hK hP (hD σ) hS q0 q1 t0 t0 ha0 ha1 ht ht rfl (by decide +kernel) (by decide +kernel) hv2 (by rw [z0, hv1]; omega) (by rw [z0, hv1]; omega) (fun _ _ => rfl) hr.1 hr.2 hdg (fun H1 locs1 hP1 _ hS1 => ?_)
  rw [z0, hv1, hs] at hP1
  exact kk H1 locs1 _ hP1 hS1 h
theorem x_tsw_in {dflt lo hi : Int} {offs : Array Int} {len : Nat} {x v : Int32} {off : Int} {tgt : Nat} (hx : p.tables.exec = Jvm.exec) (hb : c.code = cc) (hdg : decode cc pc = .ok (.tableswitch dflt lo hi offs, len)) (hc : x = v) (hv : ¬ v.toInt < lo ∧ ¬ hi < v.toInt ∧ offs[(v.toInt - lo).toNat]? = some off ∧ (pc : Int) + off = (tgt : Int)) (k : W p l e R s m args below meth c H locs cells slots Q (F0 m tgt ls rest)) : W p l e R s m args below meth c H locs cells slots Q (F0 m pc ls (.int x :: rest)) := by
  subst hc
  exact lv_tableIn hx hb hdg hv.1 hv.2.1 hv.2.2.1 hv.2.2.2 k
theorem q_tsw_out {x : Int32} {lo hi : Int} (n : Nat) (hn : hi = lo + n - 1) (h : ∀ k : Nat, k < n → x ≠ Int32.ofInt (lo + k)) : x.toInt < lo ∨ hi < x.toInt := by
  rcases Int.lt_or_le x.toInt lo with h1 | h1
  · exact Or.inl h1
  · rcases Int.lt_or_le hi x.toInt with h2 | h2
    · exact Or.inr h2
    · exfalso
      refine h (x.toInt - lo).toNat (by omega) ?_
      rw [show lo + ((x.toInt - lo).toNat : Int) = x.toInt by omega]
      simp
theorem x_tsw_out {dflt lo hi : Int} {offs : Array Int} {len : Nat} {x : Int32} {tgt : Nat} (hx : p.tables.exec = Jvm.exec) (hb : c.code = cc) (hdg : decode cc pc = .ok (.tableswitch dflt lo hi offs, len)) (n : Nat) (hn : hi = lo + n - 1) (h : ∀ k : Nat, k < n → x ≠ Int32.ofInt (lo + k)) (ht : (pc : Int) + dflt = (tgt : Int)) (k : W p l e R s m args below meth c H locs cells slots Q (F0 m tgt ls rest)) : W p l e R s m args below meth c H locs cells slots Q (F0 m pc ls (.int x :: rest)) := lv_tableOut hx hb hdg (q_tsw_out n hn h) ht k
end QROWS2
theorem q_lt6 {x : Int32} (h : q_inB x 6 = true) : x.toNatClampNeg < 6 := Nat.not_le.mp fun q => q_in h (Or.inr q)
theorem q_no {q : Int32 × qM} (h : (none : qR) = some q) : False := by cases h
