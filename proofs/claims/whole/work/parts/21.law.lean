/-! what the law asks of class and reference, over a relation of their worlds -/
def S_router (Rel : qM → qM → Prop) : Prop := ∀ (σ τ : qM), Rel σ τ → ∃ (r : Int32) (σ1 τ1 : qM), f_X7_router σ = some (r, σ1) ∧ f_X8_router τ = some (r, τ1) ∧ Rel σ1 τ1
def S_link (Rel : qM → qM → Prop) : Prop := ∀ (σ τ : qM) (x1 x2 x3 : Int32), Rel σ τ → ∃ (r : Int32) (σ1 τ1 : qM), f_X7_link σ x1 x2 x3 = some (r, σ1) ∧ f_X8_link τ x1 x2 x3 = some (r, τ1) ∧ Rel σ1 τ1
def S_turn (Rel : qM → qM → Prop) : Prop := ∀ (σ τ : qM) (x1 x2 : Int32), Rel σ τ → ∃ (r : Int32) (σ1 τ1 : qM), f_X7_turn σ x1 x2 = some (r, σ1) ∧ f_X8_turn τ x1 x2 = some (r, τ1) ∧ Rel σ1 τ1
def S_cost (Rel : qM → qM → Prop) : Prop := ∀ (σ τ : qM) (x1 x2 : Int32), Rel σ τ → ∃ (r : Int32) (σ1 τ1 : qM), f_X7_cost σ x1 x2 = some (r, σ1) ∧ f_X8_cost τ x1 x2 = some (r, τ1) ∧ Rel σ1 τ1
def S_rule (Rel : qM → qM → Prop) : Prop := ∀ (σ τ : qM) (x1 x2 : Int32), Rel σ τ → ∃ (r : Int32) (σ1 τ1 : qM), f_X7_rule σ x1 x2 = some (r, σ1) ∧ f_X8_rule τ x1 x2 = some (r, τ1) ∧ Rel σ1 τ1
def S_of (Rel : qM → qM → Prop) : Prop := ∀ (σ τ : qM) (x1 x2 : Int32), Rel σ τ → ∃ (r : Int32) (σ1 τ1 : qM), f_X7_of σ x1 x2 = some (r, σ1) ∧ f_X8_of τ x1 x2 = some (r, τ1) ∧ Rel σ1 τ1
def S_between (Rel : qM → qM → Prop) : Prop := ∀ (σ τ : qM) (x1 x2 : Int32), Rel σ τ → ∃ (r : Int32) (σ1 τ1 : qM), f_X7_between σ x1 x2 = some (r, σ1) ∧ f_X8_between τ x1 x2 = some (r, τ1) ∧ Rel σ1 τ1
def S_rounds (Rel : qM → qM → Prop) : Prop := ∀ (σ τ : qM) (x1 : Int32), Rel σ τ → ∃ (r : Int32) (σ1 τ1 : qM), f_X7_rounds σ x1 = some (r, σ1) ∧ f_X8_rounds τ x1 = some (r, τ1) ∧ Rel σ1 τ1
def S_entry (Rel : qM → qM → Prop) : Prop := ∀ (σ τ : qM) (x1 x2 x3 : Int32), Rel σ τ → ∃ (r : Int32) (σ1 τ1 : qM), f_X7_entry σ x1 x2 x3 = some (r, σ1) ∧ f_X8_entry τ x1 x2 x3 = some (r, τ1) ∧ Rel σ1 τ1
def S_known (Rel : qM → qM → Prop) : Prop := ∀ (σ τ : qM) (x1 x2 : Int32), Rel σ τ → ∃ (r : Int32) (σ1 τ1 : qM), f_X7_known σ x1 x2 = some (r, σ1) ∧ f_X8_known τ x1 x2 = some (r, τ1) ∧ Rel σ1 τ1
def S_told (Rel : qM → qM → Prop) : Prop := ∀ (σ τ : qM) (x1 : Int32), Rel σ τ → ∃ (r : Int32) (σ1 τ1 : qM), f_X7_told σ x1 = some (r, σ1) ∧ f_X8_told τ x1 = some (r, τ1) ∧ Rel σ1 τ1
def S_then (Rel : qM → qM → Prop) : Prop := ∀ (σ τ : qM) (x1 x2 x3 x4 : Int32), Rel σ τ → ∃ (r : Int32) (σ1 τ1 : qM), f_X7_then σ x1 x2 x3 x4 = some (r, σ1) ∧ f_X8_then τ x1 x2 x3 x4 = some (r, τ1) ∧ Rel σ1 τ1
def S_way (Rel : qM → qM → Prop) : Prop := ∀ (σ τ : qM) (x1 x2 x3 : Int32), Rel σ τ → ∃ (r : Int32) (σ1 τ1 : qM), f_X7_way σ x1 x2 x3 = some (r, σ1) ∧ f_X8_way τ x1 x2 x3 = some (r, τ1) ∧ Rel σ1 τ1
def S_ends (Rel : qM → qM → Prop) : Prop := ∀ (σ τ : qM) (x1 x2 : Int32), Rel σ τ → ∃ (r : Int32) (σ1 τ1 : qM), f_X7_ends σ x1 x2 = some (r, σ1) ∧ f_X8_ends τ x1 x2 = some (r, τ1) ∧ Rel σ1 τ1
def S_shortest (Rel : qM → qM → Prop) : Prop := ∀ (σ τ : qM) (x1 x2 : Int32), Rel σ τ → ∃ (r : Int32) (σ1 τ1 : qM), f_X7_shortest σ x1 x2 = some (r, σ1) ∧ f_X8_shortest τ x1 x2 = some (r, τ1) ∧ Rel σ1 τ1
def S_counts (Rel : qM → qM → Prop) : Prop := ∀ (σ τ : qM) (x1 x2 : Int32), Rel σ τ → ∃ (r : Int32) (σ1 τ1 : qM), f_X7_counts σ x1 x2 = some (r, σ1) ∧ f_X8_counts τ x1 x2 = some (r, τ1) ∧ Rel σ1 τ1
def S_packet (Rel : qM → qM → Prop) : Prop := ∀ (σ τ : qM) (x1 x2 x3 x4 : Int32), Rel σ τ → ∃ (r : Int32) (σ1 τ1 : qM), f_X7_packet σ x1 x2 x3 x4 = some (r, σ1) ∧ f_X8_packet τ x1 x2 x3 x4 = some (r, τ1) ∧ Rel σ1 τ1
def S_tried (Rel : qM → qM → Prop) : Prop := ∀ (σ τ : qM) (x1 : Int32), Rel σ τ → ∃ (r : Int32) (σ1 τ1 : qM), f_X7_tried σ x1 = some (r, σ1) ∧ f_X8_tried τ x1 = some (r, τ1) ∧ Rel σ1 τ1
def S_judge (Rel : qM → qM → Prop) : Prop := ∀ (σ τ : qM) (x1 x2 : Int32), Rel σ τ → ∃ (r : Int32) (σ1 τ1 : qM), f_X7_judge σ x1 x2 = some (r, σ1) ∧ f_X8_judge τ x1 x2 = some (r, τ1) ∧ Rel σ1 τ1
def S_drawn (Rel : qM → qM → Prop) : Prop := ∀ (σ τ : qM) (x1 x2 : Int32), Rel σ τ → ∃ (r : Int32) (σ1 τ1 : qM), f_X7_drawn σ x1 x2 = some (r, σ1) ∧ f_X8_drawn τ x1 x2 = some (r, τ1) ∧ Rel σ1 τ1
def S_feed (Rel : qM → qM → Prop) : Prop := ∀ (σ τ : qM) (x1 : Int32), Rel σ τ → ∃ (r : Int32) (σ1 τ1 : qM), f_X7_feed σ x1 = some (r, σ1) ∧ f_X8_feed τ x1 = some (r, τ1) ∧ Rel σ1 τ1
def S_script (Rel : qM → qM → Prop) : Prop := ∀ (σ τ : qM), Rel σ τ → ∃ (r : Int32) (σ1 τ1 : qM), f_X7_script σ = some (r, σ1) ∧ f_X8_script τ = some (r, τ1) ∧ Rel σ1 τ1
def S_image (Rel : qM → qM → Prop) : Prop := ∀ (σ τ : qM), Rel σ τ → ∃ (r : Int32) (σ1 τ1 : qM), f_X7_image σ = some (r, σ1) ∧ f_X8_image τ = some (r, τ1) ∧ Rel σ1 τ1
def S_back (Rel : qM → qM → Prop) : Prop := ∀ (σ τ : qM), Rel σ τ → ∃ (r : Int32) (σ1 τ1 : qM), f_X7_back σ = some (r, σ1) ∧ f_X8_back τ = some (r, τ1) ∧ Rel σ1 τ1
def S_hold (Rel : qM → qM → Prop) : Prop := ∀ (σ τ : qM) (x1 x2 x3 : Int32), Rel σ τ → ∃ (r : Int32) (σ1 τ1 : qM), f_X7_hold σ x1 x2 x3 = some (r, σ1) ∧ f_X8_hold τ x1 x2 x3 = some (r, τ1) ∧ Rel σ1 τ1
def S_row (Rel : qM → qM → Prop) : Prop := ∀ (σ τ : qM) (x1 x2 : Int32), Rel σ τ → ∃ (r : Int32) (σ1 τ1 : qM), f_X7_row σ x1 x2 = some (r, σ1) ∧ f_X8_row τ x1 x2 = some (r, τ1) ∧ Rel σ1 τ1
def S_put (Rel : qM → qM → Prop) : Prop := ∀ (σ τ : qM) (x1 x2 x3 : Int32), Rel σ τ → ∃ (r : Int32) (σ1 τ1 : qM), f_X7_put σ x1 x2 x3 = some (r, σ1) ∧ f_X8_put τ x1 x2 x3 = some (r, τ1) ∧ Rel σ1 τ1
def S_tells (Rel : qM → qM → Prop) : Prop := ∀ (σ τ : qM) (x1 x2 : Int32), Rel σ τ → ∃ (r : Int32) (σ1 τ1 : qM), f_X7_tells σ x1 x2 = some (r, σ1) ∧ f_X8_tells τ x1 x2 = some (r, τ1) ∧ Rel σ1 τ1
def S_count (Rel : qM → qM → Prop) : Prop := ∀ (σ τ : qM) (x1 : Int32), Rel σ τ → ∃ (r : Int32) (σ1 τ1 : qM), f_X7_count σ x1 = some (r, σ1) ∧ f_X8_count τ x1 = some (r, τ1) ∧ Rel σ1 τ1
def law_S (Rel : qM → qM → Prop) : Prop := S_router Rel ∧ S_link Rel ∧ S_turn Rel ∧ S_cost Rel ∧ S_rule Rel ∧ S_of Rel ∧ S_between Rel ∧ S_rounds Rel ∧ S_entry Rel ∧ S_known Rel ∧ S_told Rel ∧ S_then Rel ∧ S_way Rel ∧ S_ends Rel ∧ S_shortest Rel ∧ S_counts Rel ∧ S_packet Rel ∧ S_tried Rel ∧ S_judge Rel ∧ S_drawn Rel ∧ S_feed Rel ∧ S_script Rel ∧ S_image Rel ∧ S_back Rel ∧ S_hold Rel ∧ S_row Rel ∧ S_put Rel ∧ S_tells Rel ∧ S_count Rel
def lawL (L i : Nat) (w : Int32) : Prop := vp_in (nI i + w) L
theorem law_in {i j L : Nat} {w : Int32} (h : i + j < L) (hL : L ≤ 2560) (hw : w = nI j) : vp_in (nI i + w) L := by
  rw [hw, nI_add]
  exact vp_in_nI h (by omega)
theorem law_gt {i L : Nat} (hi : i ≤ 2600) (hL : L ≤ 2560) : nI L - 5 < nI i ↔ L < i + 5 := by
  rw [show (5 : Int32) = nI 5 from rfl, Int32.lt_iff_toInt_lt, pk_sub_toInt (by omega) (by omega), nI_toInt (by omega)]
  omega
def lawA (s : State) : Nat → Prop := fun q => s.heap.size ≤ q
abbrev lawV (cI cO : ClassId) (aV aM : Nat → Nat) (τ : qM) : qM → va_W := fun σ => p_V cI cO aV σ ++ p_M cI aM τ
abbrev lawM (cI cO : ClassId) (aV aM : Nat → Nat) (σ : qM) : qM → va_W := fun τ => p_V cI cO aV σ ++ p_M cI aM τ
theorem law_frV (cI cO : ClassId) (aV aM : Nat → Nat) (σ τ : qM) : q_Fr (lawV cI cO aV aM τ σ) (p_V cI cO aV σ) (p_V cI cO aV) (fun σ1 => lawV cI cO aV aM τ σ1) := q_fr1 [] (p_V cI cO aV σ) (p_M cI aM τ) (p_V cI cO aV)
theorem law_frM (cI cO : ClassId) (aV aM : Nat → Nat) (σ τ : qM) : q_Fr (lawM cI cO aV aM σ τ) (p_M cI aM τ) (p_M cI aM) (fun τ1 => lawM cI cO aV aM σ τ1) := by
  have h := q_fr1 (p_V cI cO aV σ) (p_M cI aM τ) [] (p_M cI aM)
  simpa only [List.append_nil] using h
set_option maxHeartbeats 4000000 in
set_option maxRecDepth 100000 in
theorem law_c0 {p : Program} {e : Env} {s : State} {m : MethodId} {below : List Frame} {meth : Method} {c : Code} {l : Launch} {b L : Nat} {xs : Nat → Int32} {cI cO : ClassId} {D : va_G} {aV aM : Nat → Nat} {cells slots : Nat} {tys : List (ClassId × FieldType)} (hL : L ≤ 2560) (C0 : lw_At p s m meth c b L xs) (ht : tys[0]? = some (cI, .int)) (ht1 : tys[1]? = some (cO, .object "VectorRounds$Holder")) (hK : va_K D vwCl tys s) (hD : ∀ σ τ, va_D (lawA s) (p_V cI cO aV σ ++ p_M cI aM τ)) (hcs : cells ≤ 600000 ∧ slots ≤ 7302250) {Rel : qM → qM → Prop} (hS1 : S_router Rel) {i : Nat} (hi : i + 5 ≤ L) (kk : ∀ (σ τ : qM) (H : Heap) (locs : List Loc) (ls : Array Slot), Rel σ τ → va_P D vwCl (p_V cI cO aV σ ++ p_M cI aM τ) H → va_S (lawA s) s.heap H locs → lv_has ls 4 [(3, .int (nI i)), (2, .ref (aM 0)), (1, .ref (aV 0)), (0, .ref b)] → W p l e room_1 s m #[Value.ref b] below meth c H locs cells slots (lw_Z below #[Value.ref b] s) (F0 m 1081 ls [])) (σ τ : qM) (H : Heap) (locs : List Loc) (ls : Array Slot) (hR : Rel σ τ) (hP : va_P D vwCl (p_V cI cO aV σ ++ p_M cI aM τ) H) (hS : va_S (lawA s) s.heap H locs) (hl : lv_has ls 4 [(3, .int (nI i)), (2, .ref (aM 0)), (1, .ref (aV 0)), (0, .ref b)]) : W p l e room_1 s m #[Value.ref b] below meth c H locs cells slots (lw_Z below #[Value.ref b] s) (F0 m 164 ls []) := by
  obtain ⟨hx, hb, hr, hml, hown, hts, hX, hbl, hlocks, hgv⟩ := id C0
  have hown : s.vm.findClass RL = some m.cls := hown
  have hts : ∀ w ∈ wsL_law, w.before #[Value.ref b] s = true := fun w h => hts w (wsL_law_in w h)
  have hA : ∀ q : Nat, s.heap.size ≤ q → lawA s q := fun _ h => h
  have hbA : ¬ lawA s b := Nat.not_le.mpr hbl
  obtain ⟨r9, σ1, τ1, e1, e2, hR⟩ := hS1 σ τ hR
  refine lv_aload_n hx hb dL_law_164 rfl (lv_at hl 2 rfl) ?_
  refine x_cVi (lawV cI cO aV aM τ) (p_V cI cO aV) (fun σ1 => σ1) [] [] (σ := σ) (σC := σ) (K := fun z s1 => some (z, s1)) (r0 := (r9, σ1)) hx hb hml hl.1 hown hts hK hP (fun σ1 => hD σ1 τ) hS hA rfl (c_X7_router l D cI cO tys ht ht1 aV σ) gL_law_X7_router rfl ⟨rfl, rfl⟩ i_X7_router ⟨Nat.le_of_ble_eq_true rfl, Nat.le_of_ble_eq_true rfl⟩ (law_frV cI cO aV aM σ τ) (g_V_0 cI cO aV σ) rfl rfl (Nat.le_of_ble_eq_true rfl) hcs dL_law_165 (by rw [e1]; rfl) (fun z9 H locs s9 hP hS h => ?_)
  obtain ⟨rfl, rfl⟩ := Prod.mk.inj (Option.some.inj h)
  have hP : va_P D vwCl (lawM cI cO aV aM s9 τ) H := hP
  refine lv_aload_n hx hb dL_law_168 rfl (lv_at hl 1 rfl) ?_
  refine x_cVi (lawM cI cO aV aM s9) (p_M cI aM) (fun σ1 => σ1) [.int z9] [] (σ := τ) (σC := τ) (K := fun z s1 => some (z, s1)) (r0 := (z9, τ1)) hx hb hml hl.1 hown hts hK hP (fun τ1 => hD s9 τ1) hS hA rfl (c_X8_router l D cI tys ht aM τ) gL_law_X8_router rfl ⟨rfl, rfl⟩ i_X8_router ⟨Nat.le_of_ble_eq_true rfl, Nat.le_of_ble_eq_true rfl⟩ (law_frM cI cO aV aM s9 τ) (g_M_0 cI aM τ) rfl rfl (Nat.le_of_ble_eq_true rfl) hcs dL_law_169 (by rw [e2]; rfl) (fun y9 H locs t9 hP hS h => ?_)
  obtain ⟨rfl, rfl⟩ := Prod.mk.inj (Option.some.inj h)
  refine lv_icmp_eq (tgt := 1081) hx hb dL_law_172 (by decide) (fun _ => ?_) (fun c9 => absurd rfl c9)
  exact kk _ _ _ _ _ hR hP hS hl
set_option maxHeartbeats 4000000 in
set_option maxRecDepth 100000 in
theorem law_c1 {p : Program} {e : Env} {s : State} {m : MethodId} {below : List Frame} {meth : Method} {c : Code} {l : Launch} {b L : Nat} {xs : Nat → Int32} {cI cO : ClassId} {D : va_G} {aV aM : Nat → Nat} {cells slots : Nat} {tys : List (ClassId × FieldType)} (hL : L ≤ 2560) (C0 : lw_At p s m meth c b L xs) (ht : tys[0]? = some (cI, .int)) (ht1 : tys[1]? = some (cO, .object "VectorRounds$Holder")) (hK : va_K D vwCl tys s) (hD : ∀ σ τ, va_D (lawA s) (p_V cI cO aV σ ++ p_M cI aM τ)) (hcs : cells ≤ 600000 ∧ slots ≤ 7302250) {Rel : qM → qM → Prop} (hS1 : S_link Rel) {i : Nat} (hi : i + 5 ≤ L) (kk : ∀ (σ τ : qM) (H : Heap) (locs : List Loc) (ls : Array Slot), Rel σ τ → va_P D vwCl (p_V cI cO aV σ ++ p_M cI aM τ) H → va_S (lawA s) s.heap H locs → lv_has ls 4 [(3, .int (nI i)), (2, .ref (aM 0)), (1, .ref (aV 0)), (0, .ref b)] → W p l e room_1 s m #[Value.ref b] below meth c H locs cells slots (lw_Z below #[Value.ref b] s) (F0 m 1081 ls [])) (σ τ : qM) (H : Heap) (locs : List Loc) (ls : Array Slot) (hR : Rel σ τ) (hP : va_P D vwCl (p_V cI cO aV σ ++ p_M cI aM τ) H) (hS : va_S (lawA s) s.heap H locs) (hl : lv_has ls 4 [(3, .int (nI i)), (2, .ref (aM 0)), (1, .ref (aV 0)), (0, .ref b)]) : W p l e room_1 s m #[Value.ref b] below meth c H locs cells slots (lw_Z below #[Value.ref b] s) (F0 m 177 ls []) := by
  obtain ⟨hx, hb, hr, hml, hown, hts, hX, hbl, hlocks, hgv⟩ := id C0
  have hown : s.vm.findClass RL = some m.cls := hown
  have hts : ∀ w ∈ wsL_law, w.before #[Value.ref b] s = true := fun w h => hts w (wsL_law_in w h)
  have hA : ∀ q : Nat, s.heap.size ≤ q → lawA s q := fun _ h => h
  have hbA : ¬ lawA s b := Nat.not_le.mpr hbl
  have hi1 : vp_in (nI i + 1) L := law_in (j := 1) (by omega) hL rfl
  have hi2 : vp_in (nI i + 2) L := law_in (j := 2) (by omega) hL rfl
  have hi3 : vp_in (nI i + 3) L := law_in (j := 3) (by omega) hL rfl
  obtain ⟨r9, σ1, τ1, e1, e2, hR⟩ := hS1 σ τ (xs (nI i + 1).toNatClampNeg) (xs (nI i + 2).toNatClampNeg) (xs (nI i + 3).toNatClampNeg) hR
  refine lv_aload_n hx hb dL_law_177 rfl (lv_at hl 2 rfl) ?_
  refine lv_aload_n hx hb dL_law_178 rfl (lv_at hl 3 rfl) ?_
  refine lv_iload_n hx hb dL_law_179 rfl (lv_at hl 0 rfl) ?_
  refine lv_iconst (v := 1) hx hb dL_law_180 (by decide +kernel) ?_
  refine lv_iadd hx hb dL_law_181 ?_
  refine va_sld hx hb hX hbl hbA hS hi1 dL_law_182 ?_
  refine lv_aload_n hx hb dL_law_183 rfl (lv_at hl 3 rfl) ?_
  refine lv_iload_n hx hb dL_law_184 rfl (lv_at hl 0 rfl) ?_
  refine lv_iconst (v := 2) hx hb dL_law_185 (by decide +kernel) ?_
  refine lv_iadd hx hb dL_law_186 ?_
  refine va_sld hx hb hX hbl hbA hS hi2 dL_law_187 ?_
  refine lv_aload_n hx hb dL_law_188 rfl (lv_at hl 3 rfl) ?_
  refine lv_iload_n hx hb dL_law_189 rfl (lv_at hl 0 rfl) ?_
  refine lv_iconst (v := 3) hx hb dL_law_190 (by decide +kernel) ?_
  refine lv_iadd hx hb dL_law_191 ?_
  refine va_sld hx hb hX hbl hbA hS hi3 dL_law_192 ?_
  refine x_cVi (lawV cI cO aV aM τ) (p_V cI cO aV) (fun σ1 => σ1) [] [.int (xs (nI i + 1).toNatClampNeg), .int (xs (nI i + 2).toNatClampNeg), .int (xs (nI i + 3).toNatClampNeg)] (σ := σ) (σC := σ) (K := fun z s1 => some (z, s1)) (r0 := (r9, σ1)) hx hb hml hl.1 hown hts hK hP (fun σ1 => hD σ1 τ) hS hA rfl (c_X7_link l D cI cO tys ht ht1 aV σ (xs (nI i + 1).toNatClampNeg) (xs (nI i + 2).toNatClampNeg) (xs (nI i + 3).toNatClampNeg)) gL_law_X7_link rfl ⟨rfl, rfl⟩ i_X7_link ⟨Nat.le_of_ble_eq_true rfl, Nat.le_of_ble_eq_true rfl⟩ (law_frV cI cO aV aM σ τ) (g_V_0 cI cO aV σ) rfl rfl (Nat.le_of_ble_eq_true rfl) hcs dL_law_193 (by rw [e1]; rfl) (fun z9 H locs s9 hP hS h => ?_)
  obtain ⟨rfl, rfl⟩ := Prod.mk.inj (Option.some.inj h)
  have hP : va_P D vwCl (lawM cI cO aV aM s9 τ) H := hP
  refine lv_aload_n hx hb dL_law_196 rfl (lv_at hl 1 rfl) ?_
  refine lv_aload_n hx hb dL_law_197 rfl (lv_at hl 3 rfl) ?_
  refine lv_iload_n hx hb dL_law_198 rfl (lv_at hl 0 rfl) ?_
  refine lv_iconst (v := 1) hx hb dL_law_199 (by decide +kernel) ?_
  refine lv_iadd hx hb dL_law_200 ?_
  refine va_sld hx hb hX hbl hbA hS hi1 dL_law_201 ?_
  refine lv_aload_n hx hb dL_law_202 rfl (lv_at hl 3 rfl) ?_
  refine lv_iload_n hx hb dL_law_203 rfl (lv_at hl 0 rfl) ?_
  refine lv_iconst (v := 2) hx hb dL_law_204 (by decide +kernel) ?_
  refine lv_iadd hx hb dL_law_205 ?_
  refine va_sld hx hb hX hbl hbA hS hi2 dL_law_206 ?_
  refine lv_aload_n hx hb dL_law_207 rfl (lv_at hl 3 rfl) ?_
  refine lv_iload_n hx hb dL_law_208 rfl (lv_at hl 0 rfl) ?_
  refine lv_iconst (v := 3) hx hb dL_law_209 (by decide +kernel) ?_
  refine lv_iadd hx hb dL_law_210 ?_
  refine va_sld hx hb hX hbl hbA hS hi3 dL_law_211 ?_
  refine x_cVi (lawM cI cO aV aM s9) (p_M cI aM) (fun σ1 => σ1) [.int z9] [.int (xs (nI i + 1).toNatClampNeg), .int (xs (nI i + 2).toNatClampNeg), .int (xs (nI i + 3).toNatClampNeg)] (σ := τ) (σC := τ) (K := fun z s1 => some (z, s1)) (r0 := (z9, τ1)) hx hb hml hl.1 hown hts hK hP (fun τ1 => hD s9 τ1) hS hA rfl (c_X8_link l D cI tys ht aM τ (xs (nI i + 1).toNatClampNeg) (xs (nI i + 2).toNatClampNeg) (xs (nI i + 3).toNatClampNeg)) gL_law_X8_link rfl ⟨rfl, rfl⟩ i_X8_link ⟨Nat.le_of_ble_eq_true rfl, Nat.le_of_ble_eq_true rfl⟩ (law_frM cI cO aV aM s9 τ) (g_M_0 cI aM τ) rfl rfl (Nat.le_of_ble_eq_true rfl) hcs dL_law_212 (by rw [e2]; rfl) (fun y9 H locs t9 hP hS h => ?_)
  obtain ⟨rfl, rfl⟩ := Prod.mk.inj (Option.some.inj h)
  refine lv_icmp_eq (tgt := 1081) hx hb dL_law_215 (by decide) (fun _ => ?_) (fun c9 => absurd rfl c9)
  exact kk _ _ _ _ _ hR hP hS hl
set_option maxHeartbeats 4000000 in
set_option maxRecDepth 100000 in
theorem law_c2 {p : Program} {e : Env} {s : State} {m : MethodId} {below : List Frame} {meth : Method} {c : Code} {l : Launch} {b L : Nat} {xs : Nat → Int32} {cI cO : ClassId} {D : va_G} {aV aM : Nat → Nat} {cells slots : Nat} {tys : List (ClassId × FieldType)} (hL : L ≤ 2560) (C0 : lw_At p s m meth c b L xs) (ht : tys[0]? = some (cI, .int)) (ht1 : tys[1]? = some (cO, .object "VectorRounds$Holder")) (hK : va_K D vwCl tys s) (hD : ∀ σ τ, va_D (lawA s) (p_V cI cO aV σ ++ p_M cI aM τ)) (hcs : cells ≤ 600000 ∧ slots ≤ 7302250) {Rel : qM → qM → Prop} (hS1 : S_turn Rel) {i : Nat} (hi : i + 5 ≤ L) (kk : ∀ (σ τ : qM) (H : Heap) (locs : List Loc) (ls : Array Slot), Rel σ τ → va_P D vwCl (p_V cI cO aV σ ++ p_M cI aM τ) H → va_S (lawA s) s.heap H locs → lv_has ls 4 [(3, .int (nI i)), (2, .ref (aM 0)), (1, .ref (aV 0)), (0, .ref b)] → W p l e room_1 s m #[Value.ref b] below meth c H locs cells slots (lw_Z below #[Value.ref b] s) (F0 m 1081 ls [])) (σ τ : qM) (H : Heap) (locs : List Loc) (ls : Array Slot) (hR : Rel σ τ) (hP : va_P D vwCl (p_V cI cO aV σ ++ p_M cI aM τ) H) (hS : va_S (lawA s) s.heap H locs) (hl : lv_has ls 4 [(3, .int (nI i)), (2, .ref (aM 0)), (1, .ref (aV 0)), (0, .ref b)]) : W p l e room_1 s m #[Value.ref b] below meth c H locs cells slots (lw_Z below #[Value.ref b] s) (F0 m 220 ls []) := by
  obtain ⟨hx, hb, hr, hml, hown, hts, hX, hbl, hlocks, hgv⟩ := id C0
  have hown : s.vm.findClass RL = some m.cls := hown
  have hts : ∀ w ∈ wsL_law, w.before #[Value.ref b] s = true := fun w h => hts w (wsL_law_in w h)
  have hA : ∀ q : Nat, s.heap.size ≤ q → lawA s q := fun _ h => h
  have hbA : ¬ lawA s b := Nat.not_le.mpr hbl
  have hi1 : vp_in (nI i + 1) L := law_in (j := 1) (by omega) hL rfl
  have hi2 : vp_in (nI i + 2) L := law_in (j := 2) (by omega) hL rfl
  obtain ⟨r9, σ1, τ1, e1, e2, hR⟩ := hS1 σ τ (xs (nI i + 1).toNatClampNeg) (xs (nI i + 2).toNatClampNeg) hR
  refine lv_aload_n hx hb dL_law_220 rfl (lv_at hl 2 rfl) ?_
  refine lv_aload_n hx hb dL_law_221 rfl (lv_at hl 3 rfl) ?_
  refine lv_iload_n hx hb dL_law_222 rfl (lv_at hl 0 rfl) ?_
  refine lv_iconst (v := 1) hx hb dL_law_223 (by decide +kernel) ?_
  refine lv_iadd hx hb dL_law_224 ?_
  refine va_sld hx hb hX hbl hbA hS hi1 dL_law_225 ?_
  refine lv_aload_n hx hb dL_law_226 rfl (lv_at hl 3 rfl) ?_
  refine lv_iload_n hx hb dL_law_227 rfl (lv_at hl 0 rfl) ?_
  refine lv_iconst (v := 2) hx hb dL_law_228 (by decide +kernel) ?_
  refine lv_iadd hx hb dL_law_229 ?_
  refine va_sld hx hb hX hbl hbA hS hi2 dL_law_230 ?_
  refine x_cVi (lawV cI cO aV aM τ) (p_V cI cO aV) (fun σ1 => σ1) [] [.int (xs (nI i + 1).toNatClampNeg), .int (xs (nI i + 2).toNatClampNeg)] (σ := σ) (σC := σ) (K := fun z s1 => some (z, s1)) (r0 := (r9, σ1)) hx hb hml hl.1 hown hts hK hP (fun σ1 => hD σ1 τ) hS hA rfl (c_X7_turn l D cI cO tys ht ht1 aV σ (xs (nI i + 1).toNatClampNeg) (xs (nI i + 2).toNatClampNeg)) gL_law_X7_turn rfl ⟨rfl, rfl⟩ i_X7_turn ⟨Nat.le_of_ble_eq_true rfl, Nat.le_of_ble_eq_true rfl⟩ (law_frV cI cO aV aM σ τ) (g_V_0 cI cO aV σ) rfl rfl (Nat.le_of_ble_eq_true rfl) hcs dL_law_231 (by rw [e1]; rfl) (fun z9 H locs s9 hP hS h => ?_)
  obtain ⟨rfl, rfl⟩ := Prod.mk.inj (Option.some.inj h)
  have hP : va_P D vwCl (lawM cI cO aV aM s9 τ) H := hP
  refine lv_aload_n hx hb dL_law_234 rfl (lv_at hl 1 rfl) ?_
  refine lv_aload_n hx hb dL_law_235 rfl (lv_at hl 3 rfl) ?_
  refine lv_iload_n hx hb dL_law_236 rfl (lv_at hl 0 rfl) ?_
  refine lv_iconst (v := 1) hx hb dL_law_237 (by decide +kernel) ?_
  refine lv_iadd hx hb dL_law_238 ?_
  refine va_sld hx hb hX hbl hbA hS hi1 dL_law_239 ?_
  refine lv_aload_n hx hb dL_law_240 rfl (lv_at hl 3 rfl) ?_
  refine lv_iload_n hx hb dL_law_241 rfl (lv_at hl 0 rfl) ?_
  refine lv_iconst (v := 2) hx hb dL_law_242 (by decide +kernel) ?_
  refine lv_iadd hx hb dL_law_243 ?_
  refine va_sld hx hb hX hbl hbA hS hi2 dL_law_244 ?_
  refine x_cVi (lawM cI cO aV aM s9) (p_M cI aM) (fun σ1 => σ1) [.int z9] [.int (xs (nI i + 1).toNatClampNeg), .int (xs (nI i + 2).toNatClampNeg)] (σ := τ) (σC := τ) (K := fun z s1 => some (z, s1)) (r0 := (z9, τ1)) hx hb hml hl.1 hown hts hK hP (fun τ1 => hD s9 τ1) hS hA rfl (c_X8_turn l D cI tys ht aM τ (xs (nI i + 1).toNatClampNeg) (xs (nI i + 2).toNatClampNeg)) gL_law_X8_turn rfl ⟨rfl, rfl⟩ i_X8_turn ⟨Nat.le_of_ble_eq_true rfl, Nat.le_of_ble_eq_true rfl⟩ (law_frM cI cO aV aM s9 τ) (g_M_0 cI aM τ) rfl rfl (Nat.le_of_ble_eq_true rfl) hcs dL_law_245 (by rw [e2]; rfl) (fun y9 H locs t9 hP hS h => ?_)
  obtain ⟨rfl, rfl⟩ := Prod.mk.inj (Option.some.inj h)
  refine lv_icmp_eq (tgt := 1081) hx hb dL_law_248 (by decide) (fun _ => ?_) (fun c9 => absurd rfl c9)
  exact kk _ _ _ _ _ hR hP hS hl
set_option maxHeartbeats 4000000 in
set_option maxRecDepth 100000 in
theorem law_c3 {p : Program} {e : Env} {s : State} {m : MethodId} {below : List Frame} {meth : Method} {c : Code} {l : Launch} {b L : Nat} {xs : Nat → Int32} {cI cO : ClassId} {D : va_G} {aV aM : Nat → Nat} {cells slots : Nat} {tys : List (ClassId × FieldType)} (hL : L ≤ 2560) (C0 : lw_At p s m meth c b L xs) (ht : tys[0]? = some (cI, .int)) (ht1 : tys[1]? = some (cO, .object "VectorRounds$Holder")) (hK : va_K D vwCl tys s) (hD : ∀ σ τ, va_D (lawA s) (p_V cI cO aV σ ++ p_M cI aM τ)) (hcs : cells ≤ 600000 ∧ slots ≤ 7302250) {Rel : qM → qM → Prop} (hS1 : S_cost Rel) {i : Nat} (hi : i + 5 ≤ L) (kk : ∀ (σ τ : qM) (H : Heap) (locs : List Loc) (ls : Array Slot), Rel σ τ → va_P D vwCl (p_V cI cO aV σ ++ p_M cI aM τ) H → va_S (lawA s) s.heap H locs → lv_has ls 4 [(3, .int (nI i)), (2, .ref (aM 0)), (1, .ref (aV 0)), (0, .ref b)] → W p l e room_1 s m #[Value.ref b] below meth c H locs cells slots (lw_Z below #[Value.ref b] s) (F0 m 1081 ls [])) (σ τ : qM) (H : Heap) (locs : List Loc) (ls : Array Slot) (hR : Rel σ τ) (hP : va_P D vwCl (p_V cI cO aV σ ++ p_M cI aM τ) H) (hS : va_S (lawA s) s.heap H locs) (hl : lv_has ls 4 [(3, .int (nI i)), (2, .ref (aM 0)), (1, .ref (aV 0)), (0, .ref b)]) : W p l e room_1 s m #[Value.ref b] below meth c H locs cells slots (lw_Z below #[Value.ref b] s) (F0 m 253 ls []) := by
  obtain ⟨hx, hb, hr, hml, hown, hts, hX, hbl, hlocks, hgv⟩ := id C0
  have hown : s.vm.findClass RL = some m.cls := hown
  have hts : ∀ w ∈ wsL_law, w.before #[Value.ref b] s = true := fun w h => hts w (wsL_law_in w h)
  have hA : ∀ q : Nat, s.heap.size ≤ q → lawA s q := fun _ h => h
  have hbA : ¬ lawA s b := Nat.not_le.mpr hbl
  have hi1 : vp_in (nI i + 1) L := law_in (j := 1) (by omega) hL rfl
  have hi2 : vp_in (nI i + 2) L := law_in (j := 2) (by omega) hL rfl
  obtain ⟨r9, σ1, τ1, e1, e2, hR⟩ := hS1 σ τ (xs (nI i + 1).toNatClampNeg) (xs (nI i + 2).toNatClampNeg) hR
  refine lv_aload_n hx hb dL_law_253 rfl (lv_at hl 2 rfl) ?_
  refine lv_aload_n hx hb dL_law_254 rfl (lv_at hl 3 rfl) ?_
  refine lv_iload_n hx hb dL_law_255 rfl (lv_at hl 0 rfl) ?_
  refine lv_iconst (v := 1) hx hb dL_law_256 (by decide +kernel) ?_
  refine lv_iadd hx hb dL_law_257 ?_
  refine va_sld hx hb hX hbl hbA hS hi1 dL_law_258 ?_
  refine lv_aload_n hx hb dL_law_259 rfl (lv_at hl 3 rfl) ?_
  refine lv_iload_n hx hb dL_law_260 rfl (lv_at hl 0 rfl) ?_
  refine lv_iconst (v := 2) hx hb dL_law_261 (by decide +kernel) ?_
  refine lv_iadd hx hb dL_law_262 ?_
  refine va_sld hx hb hX hbl hbA hS hi2 dL_law_263 ?_
  refine x_cVi (lawV cI cO aV aM τ) (p_V cI cO aV) (fun σ1 => σ1) [] [.int (xs (nI i + 1).toNatClampNeg), .int (xs (nI i + 2).toNatClampNeg)] (σ := σ) (σC := σ) (K := fun z s1 => some (z, s1)) (r0 := (r9, σ1)) hx hb hml hl.1 hown hts hK hP (fun σ1 => hD σ1 τ) hS hA rfl (c_X7_cost l D cI cO tys ht ht1 aV σ (xs (nI i + 1).toNatClampNeg) (xs (nI i + 2).toNatClampNeg)) gL_law_X7_cost rfl ⟨rfl, rfl⟩ i_X7_cost ⟨Nat.le_of_ble_eq_true rfl, Nat.le_of_ble_eq_true rfl⟩ (law_frV cI cO aV aM σ τ) (g_V_0 cI cO aV σ) rfl rfl (Nat.le_of_ble_eq_true rfl) hcs dL_law_264 (by rw [e1]; rfl) (fun z9 H locs s9 hP hS h => ?_)
  obtain ⟨rfl, rfl⟩ := Prod.mk.inj (Option.some.inj h)
  have hP : va_P D vwCl (lawM cI cO aV aM s9 τ) H := hP
  refine lv_aload_n hx hb dL_law_267 rfl (lv_at hl 1 rfl) ?_
  refine lv_aload_n hx hb dL_law_268 rfl (lv_at hl 3 rfl) ?_
  refine lv_iload_n hx hb dL_law_269 rfl (lv_at hl 0 rfl) ?_
  refine lv_iconst (v := 1) hx hb dL_law_270 (by decide +kernel) ?_
  refine lv_iadd hx hb dL_law_271 ?_
  refine va_sld hx hb hX hbl hbA hS hi1 dL_law_272 ?_
  refine lv_aload_n hx hb dL_law_273 rfl (lv_at hl 3 rfl) ?_
  refine lv_iload_n hx hb dL_law_274 rfl (lv_at hl 0 rfl) ?_
  refine lv_iconst (v := 2) hx hb dL_law_275 (by decide +kernel) ?_
  refine lv_iadd hx hb dL_law_276 ?_
  refine va_sld hx hb hX hbl hbA hS hi2 dL_law_277 ?_
  refine x_cVi (lawM cI cO aV aM s9) (p_M cI aM) (fun σ1 => σ1) [.int z9] [.int (xs (nI i + 1).toNatClampNeg), .int (xs (nI i + 2).toNatClampNeg)] (σ := τ) (σC := τ) (K := fun z s1 => some (z, s1)) (r0 := (z9, τ1)) hx hb hml hl.1 hown hts hK hP (fun τ1 => hD s9 τ1) hS hA rfl (c_X8_cost l D cI tys ht aM τ (xs (nI i + 1).toNatClampNeg) (xs (nI i + 2).toNatClampNeg)) gL_law_X8_cost rfl ⟨rfl, rfl⟩ i_X8_cost ⟨Nat.le_of_ble_eq_true rfl, Nat.le_of_ble_eq_true rfl⟩ (law_frM cI cO aV aM s9 τ) (g_M_0 cI aM τ) rfl rfl (Nat.le_of_ble_eq_true rfl) hcs dL_law_278 (by rw [e2]; rfl) (fun y9 H locs t9 hP hS h => ?_)
  obtain ⟨rfl, rfl⟩ := Prod.mk.inj (Option.some.inj h)
  refine lv_icmp_eq (tgt := 1081) hx hb dL_law_281 (by decide) (fun _ => ?_) (fun c9 => absurd rfl c9)
  exact kk _ _ _ _ _ hR hP hS hl
set_option maxHeartbeats 4000000 in
set_option maxRecDepth 100000 in
theorem law_c4 {p : Program} {e : Env} {s : State} {m : MethodId} {below : List Frame} {meth : Method} {c : Code} {l : Launch} {b L : Nat} {xs : Nat → Int32} {cI cO : ClassId} {D : va_G} {aV aM : Nat → Nat} {cells slots : Nat} {tys : List (ClassId × FieldType)} (hL : L ≤ 2560) (C0 : lw_At p s m meth c b L xs) (ht : tys[0]? = some (cI, .int)) (ht1 : tys[1]? = some (cO, .object "VectorRounds$Holder")) (hK : va_K D vwCl tys s) (hD : ∀ σ τ, va_D (lawA s) (p_V cI cO aV σ ++ p_M cI aM τ)) (hcs : cells ≤ 600000 ∧ slots ≤ 7302250) {Rel : qM → qM → Prop} (hS1 : S_rule Rel) {i : Nat} (hi : i + 5 ≤ L) (kk : ∀ (σ τ : qM) (H : Heap) (locs : List Loc) (ls : Array Slot), Rel σ τ → va_P D vwCl (p_V cI cO aV σ ++ p_M cI aM τ) H → va_S (lawA s) s.heap H locs → lv_has ls 4 [(3, .int (nI i)), (2, .ref (aM 0)), (1, .ref (aV 0)), (0, .ref b)] → W p l e room_1 s m #[Value.ref b] below meth c H locs cells slots (lw_Z below #[Value.ref b] s) (F0 m 1081 ls [])) (σ τ : qM) (H : Heap) (locs : List Loc) (ls : Array Slot) (hR : Rel σ τ) (hP : va_P D vwCl (p_V cI cO aV σ ++ p_M cI aM τ) H) (hS : va_S (lawA s) s.heap H locs) (hl : lv_has ls 4 [(3, .int (nI i)), (2, .ref (aM 0)), (1, .ref (aV 0)), (0, .ref b)]) : W p l e room_1 s m #[Value.ref b] below meth c H locs cells slots (lw_Z below #[Value.ref b] s) (F0 m 286 ls []) := by
  obtain ⟨hx, hb, hr, hml, hown, hts, hX, hbl, hlocks, hgv⟩ := id C0
  have hown : s.vm.findClass RL = some m.cls := hown
  have hts : ∀ w ∈ wsL_law, w.before #[Value.ref b] s = true := fun w h => hts w (wsL_law_in w h)
  have hA : ∀ q : Nat, s.heap.size ≤ q → lawA s q := fun _ h => h
  have hbA : ¬ lawA s b := Nat.not_le.mpr hbl
  have hi1 : vp_in (nI i + 1) L := law_in (j := 1) (by omega) hL rfl
  have hi2 : vp_in (nI i + 2) L := law_in (j := 2) (by omega) hL rfl
  obtain ⟨r9, σ1, τ1, e1, e2, hR⟩ := hS1 σ τ (xs (nI i + 1).toNatClampNeg) (xs (nI i + 2).toNatClampNeg) hR
  refine lv_aload_n hx hb dL_law_286 rfl (lv_at hl 2 rfl) ?_
  refine lv_aload_n hx hb dL_law_287 rfl (lv_at hl 3 rfl) ?_
  refine lv_iload_n hx hb dL_law_288 rfl (lv_at hl 0 rfl) ?_
  refine lv_iconst (v := 1) hx hb dL_law_289 (by decide +kernel) ?_
  refine lv_iadd hx hb dL_law_290 ?_
  refine va_sld hx hb hX hbl hbA hS hi1 dL_law_291 ?_
  refine lv_aload_n hx hb dL_law_292 rfl (lv_at hl 3 rfl) ?_
  refine lv_iload_n hx hb dL_law_293 rfl (lv_at hl 0 rfl) ?_
  refine lv_iconst (v := 2) hx hb dL_law_294 (by decide +kernel) ?_
  refine lv_iadd hx hb dL_law_295 ?_
  refine va_sld hx hb hX hbl hbA hS hi2 dL_law_296 ?_
  refine x_cVi (lawV cI cO aV aM τ) (p_V cI cO aV) (fun σ1 => σ1) [] [.int (xs (nI i + 1).toNatClampNeg), .int (xs (nI i + 2).toNatClampNeg)] (σ := σ) (σC := σ) (K := fun z s1 => some (z, s1)) (r0 := (r9, σ1)) hx hb hml hl.1 hown hts hK hP (fun σ1 => hD σ1 τ) hS hA rfl (c_X7_rule l D cI cO tys ht ht1 aV σ (xs (nI i + 1).toNatClampNeg) (xs (nI i + 2).toNatClampNeg)) gL_law_X7_rule rfl ⟨rfl, rfl⟩ i_X7_rule ⟨Nat.le_of_ble_eq_true rfl, Nat.le_of_ble_eq_true rfl⟩ (law_frV cI cO aV aM σ τ) (g_V_0 cI cO aV σ) rfl rfl (Nat.le_of_ble_eq_true rfl) hcs dL_law_297 (by rw [e1]; rfl) (fun z9 H locs s9 hP hS h => ?_)
  obtain ⟨rfl, rfl⟩ := Prod.mk.inj (Option.some.inj h)
  have hP : va_P D vwCl (lawM cI cO aV aM s9 τ) H := hP
  refine lv_aload_n hx hb dL_law_300 rfl (lv_at hl 1 rfl) ?_
  refine lv_aload_n hx hb dL_law_301 rfl (lv_at hl 3 rfl) ?_
  refine lv_iload_n hx hb dL_law_302 rfl (lv_at hl 0 rfl) ?_
  refine lv_iconst (v := 1) hx hb dL_law_303 (by decide +kernel) ?_
  refine lv_iadd hx hb dL_law_304 ?_
  refine va_sld hx hb hX hbl hbA hS hi1 dL_law_305 ?_
  refine lv_aload_n hx hb dL_law_306 rfl (lv_at hl 3 rfl) ?_
  refine lv_iload_n hx hb dL_law_307 rfl (lv_at hl 0 rfl) ?_
  refine lv_iconst (v := 2) hx hb dL_law_308 (by decide +kernel) ?_
  refine lv_iadd hx hb dL_law_309 ?_
  refine va_sld hx hb hX hbl hbA hS hi2 dL_law_310 ?_
  refine x_cVi (lawM cI cO aV aM s9) (p_M cI aM) (fun σ1 => σ1) [.int z9] [.int (xs (nI i + 1).toNatClampNeg), .int (xs (nI i + 2).toNatClampNeg)] (σ := τ) (σC := τ) (K := fun z s1 => some (z, s1)) (r0 := (z9, τ1)) hx hb hml hl.1 hown hts hK hP (fun τ1 => hD s9 τ1) hS hA rfl (c_X8_rule l D cI tys ht aM τ (xs (nI i + 1).toNatClampNeg) (xs (nI i + 2).toNatClampNeg)) gL_law_X8_rule rfl ⟨rfl, rfl⟩ i_X8_rule ⟨Nat.le_of_ble_eq_true rfl, Nat.le_of_ble_eq_true rfl⟩ (law_frM cI cO aV aM s9 τ) (g_M_0 cI aM τ) rfl rfl (Nat.le_of_ble_eq_true rfl) hcs dL_law_311 (by rw [e2]; rfl) (fun y9 H locs t9 hP hS h => ?_)
  obtain ⟨rfl, rfl⟩ := Prod.mk.inj (Option.some.inj h)
  refine lv_icmp_eq (tgt := 1081) hx hb dL_law_314 (by decide) (fun _ => ?_) (fun c9 => absurd rfl c9)
  exact kk _ _ _ _ _ hR hP hS hl
set_option maxHeartbeats 4000000 in
set_option maxRecDepth 100000 in
theorem law_c5 {p : Program} {e : Env} {s : State} {m : MethodId} {below : List Frame} {meth : Method} {c : Code} {l : Launch} {b L : Nat} {xs : Nat → Int32} {cI cO : ClassId} {D : va_G} {aV aM : Nat → Nat} {cells slots : Nat} {tys : List (ClassId × FieldType)} (hL : L ≤ 2560) (C0 : lw_At p s m meth c b L xs) (ht : tys[0]? = some (cI, .int)) (ht1 : tys[1]? = some (cO, .object "VectorRounds$Holder")) (hK : va_K D vwCl tys s) (hD : ∀ σ τ, va_D (lawA s) (p_V cI cO aV σ ++ p_M cI aM τ)) (hcs : cells ≤ 600000 ∧ slots ≤ 7302250) {Rel : qM → qM → Prop} (hS1 : S_of Rel) {i : Nat} (hi : i + 5 ≤ L) (kk : ∀ (σ τ : qM) (H : Heap) (locs : List Loc) (ls : Array Slot), Rel σ τ → va_P D vwCl (p_V cI cO aV σ ++ p_M cI aM τ) H → va_S (lawA s) s.heap H locs → lv_has ls 4 [(3, .int (nI i)), (2, .ref (aM 0)), (1, .ref (aV 0)), (0, .ref b)] → W p l e room_1 s m #[Value.ref b] below meth c H locs cells slots (lw_Z below #[Value.ref b] s) (F0 m 1081 ls [])) (σ τ : qM) (H : Heap) (locs : List Loc) (ls : Array Slot) (hR : Rel σ τ) (hP : va_P D vwCl (p_V cI cO aV σ ++ p_M cI aM τ) H) (hS : va_S (lawA s) s.heap H locs) (hl : lv_has ls 4 [(3, .int (nI i)), (2, .ref (aM 0)), (1, .ref (aV 0)), (0, .ref b)]) : W p l e room_1 s m #[Value.ref b] below meth c H locs cells slots (lw_Z below #[Value.ref b] s) (F0 m 319 ls []) := by
  obtain ⟨hx, hb, hr, hml, hown, hts, hX, hbl, hlocks, hgv⟩ := id C0
  have hown : s.vm.findClass RL = some m.cls := hown
  have hts : ∀ w ∈ wsL_law, w.before #[Value.ref b] s = true := fun w h => hts w (wsL_law_in w h)
  have hA : ∀ q : Nat, s.heap.size ≤ q → lawA s q := fun _ h => h
  have hbA : ¬ lawA s b := Nat.not_le.mpr hbl
  have hi1 : vp_in (nI i + 1) L := law_in (j := 1) (by omega) hL rfl
  have hi2 : vp_in (nI i + 2) L := law_in (j := 2) (by omega) hL rfl
  obtain ⟨r9, σ1, τ1, e1, e2, hR⟩ := hS1 σ τ (xs (nI i + 1).toNatClampNeg) (xs (nI i + 2).toNatClampNeg) hR
  refine lv_aload_n hx hb dL_law_319 rfl (lv_at hl 2 rfl) ?_
  refine lv_aload_n hx hb dL_law_320 rfl (lv_at hl 3 rfl) ?_
  refine lv_iload_n hx hb dL_law_321 rfl (lv_at hl 0 rfl) ?_
  refine lv_iconst (v := 1) hx hb dL_law_322 (by decide +kernel) ?_
  refine lv_iadd hx hb dL_law_323 ?_
  refine va_sld hx hb hX hbl hbA hS hi1 dL_law_324 ?_
  refine lv_aload_n hx hb dL_law_325 rfl (lv_at hl 3 rfl) ?_
  refine lv_iload_n hx hb dL_law_326 rfl (lv_at hl 0 rfl) ?_
  refine lv_iconst (v := 2) hx hb dL_law_327 (by decide +kernel) ?_
  refine lv_iadd hx hb dL_law_328 ?_
  refine va_sld hx hb hX hbl hbA hS hi2 dL_law_329 ?_
  refine x_cVi (lawV cI cO aV aM τ) (p_V cI cO aV) (fun σ1 => σ1) [] [.int (xs (nI i + 1).toNatClampNeg), .int (xs (nI i + 2).toNatClampNeg)] (σ := σ) (σC := σ) (K := fun z s1 => some (z, s1)) (r0 := (r9, σ1)) hx hb hml hl.1 hown hts hK hP (fun σ1 => hD σ1 τ) hS hA rfl (c_X7_of l D cI cO tys ht ht1 aV σ (xs (nI i + 1).toNatClampNeg) (xs (nI i + 2).toNatClampNeg)) gL_law_X7_of rfl ⟨rfl, rfl⟩ i_X7_of ⟨Nat.le_of_ble_eq_true rfl, Nat.le_of_ble_eq_true rfl⟩ (law_frV cI cO aV aM σ τ) (g_V_0 cI cO aV σ) rfl rfl (Nat.le_of_ble_eq_true rfl) hcs dL_law_330 (by rw [e1]; rfl) (fun z9 H locs s9 hP hS h => ?_)
  obtain ⟨rfl, rfl⟩ := Prod.mk.inj (Option.some.inj h)
  have hP : va_P D vwCl (lawM cI cO aV aM s9 τ) H := hP
  refine lv_aload_n hx hb dL_law_333 rfl (lv_at hl 1 rfl) ?_
  refine lv_aload_n hx hb dL_law_334 rfl (lv_at hl 3 rfl) ?_
  refine lv_iload_n hx hb dL_law_335 rfl (lv_at hl 0 rfl) ?_
  refine lv_iconst (v := 1) hx hb dL_law_336 (by decide +kernel) ?_
  refine lv_iadd hx hb dL_law_337 ?_
  refine va_sld hx hb hX hbl hbA hS hi1 dL_law_338 ?_
  refine lv_aload_n hx hb dL_law_339 rfl (lv_at hl 3 rfl) ?_
  refine lv_iload_n hx hb dL_law_340 rfl (lv_at hl 0 rfl) ?_
  refine lv_iconst (v := 2) hx hb dL_law_341 (by decide +kernel) ?_
  refine lv_iadd hx hb dL_law_342 ?_
  refine va_sld hx hb hX hbl hbA hS hi2 dL_law_343 ?_
  refine x_cVi (lawM cI cO aV aM s9) (p_M cI aM) (fun σ1 => σ1) [.int z9] [.int (xs (nI i + 1).toNatClampNeg), .int (xs (nI i + 2).toNatClampNeg)] (σ := τ) (σC := τ) (K := fun z s1 => some (z, s1)) (r0 := (z9, τ1)) hx hb hml hl.1 hown hts hK hP (fun τ1 => hD s9 τ1) hS hA rfl (c_X8_of l D cI tys ht aM τ (xs (nI i + 1).toNatClampNeg) (xs (nI i + 2).toNatClampNeg)) gL_law_X8_of rfl ⟨rfl, rfl⟩ i_X8_of ⟨Nat.le_of_ble_eq_true rfl, Nat.le_of_ble_eq_true rfl⟩ (law_frM cI cO aV aM s9 τ) (g_M_0 cI aM τ) rfl rfl (Nat.le_of_ble_eq_true rfl) hcs dL_law_344 (by rw [e2]; rfl) (fun y9 H locs t9 hP hS h => ?_)
  obtain ⟨rfl, rfl⟩ := Prod.mk.inj (Option.some.inj h)
  refine lv_icmp_eq (tgt := 1081) hx hb dL_law_347 (by decide) (fun _ => ?_) (fun c9 => absurd rfl c9)
  exact kk _ _ _ _ _ hR hP hS hl
set_option maxHeartbeats 4000000 in
set_option maxRecDepth 100000 in
theorem law_c6 {p : Program} {e : Env} {s : State} {m : MethodId} {below : List Frame} {meth : Method} {c : Code} {l : Launch} {b L : Nat} {xs : Nat → Int32} {cI cO : ClassId} {D : va_G} {aV aM : Nat → Nat} {cells slots : Nat} {tys : List (ClassId × FieldType)} (hL : L ≤ 2560) (C0 : lw_At p s m meth c b L xs) (ht : tys[0]? = some (cI, .int)) (ht1 : tys[1]? = some (cO, .object "VectorRounds$Holder")) (hK : va_K D vwCl tys s) (hD : ∀ σ τ, va_D (lawA s) (p_V cI cO aV σ ++ p_M cI aM τ)) (hcs : cells ≤ 600000 ∧ slots ≤ 7302250) {Rel : qM → qM → Prop} (hS1 : S_between Rel) {i : Nat} (hi : i + 5 ≤ L) (kk : ∀ (σ τ : qM) (H : Heap) (locs : List Loc) (ls : Array Slot), Rel σ τ → va_P D vwCl (p_V cI cO aV σ ++ p_M cI aM τ) H → va_S (lawA s) s.heap H locs → lv_has ls 4 [(3, .int (nI i)), (2, .ref (aM 0)), (1, .ref (aV 0)), (0, .ref b)] → W p l e room_1 s m #[Value.ref b] below meth c H locs cells slots (lw_Z below #[Value.ref b] s) (F0 m 1081 ls [])) (σ τ : qM) (H : Heap) (locs : List Loc) (ls : Array Slot) (hR : Rel σ τ) (hP : va_P D vwCl (p_V cI cO aV σ ++ p_M cI aM τ) H) (hS : va_S (lawA s) s.heap H locs) (hl : lv_has ls 4 [(3, .int (nI i)), (2, .ref (aM 0)), (1, .ref (aV 0)), (0, .ref b)]) : W p l e room_1 s m #[Value.ref b] below meth c H locs cells slots (lw_Z below #[Value.ref b] s) (F0 m 352 ls []) := by
  obtain ⟨hx, hb, hr, hml, hown, hts, hX, hbl, hlocks, hgv⟩ := id C0
  have hown : s.vm.findClass RL = some m.cls := hown
  have hts : ∀ w ∈ wsL_law, w.before #[Value.ref b] s = true := fun w h => hts w (wsL_law_in w h)
  have hA : ∀ q : Nat, s.heap.size ≤ q → lawA s q := fun _ h => h
  have hbA : ¬ lawA s b := Nat.not_le.mpr hbl
  have hi1 : vp_in (nI i + 1) L := law_in (j := 1) (by omega) hL rfl
  have hi2 : vp_in (nI i + 2) L := law_in (j := 2) (by omega) hL rfl
  obtain ⟨r9, σ1, τ1, e1, e2, hR⟩ := hS1 σ τ (xs (nI i + 1).toNatClampNeg) (xs (nI i + 2).toNatClampNeg) hR
  refine lv_aload_n hx hb dL_law_352 rfl (lv_at hl 2 rfl) ?_
  refine lv_aload_n hx hb dL_law_353 rfl (lv_at hl 3 rfl) ?_
  refine lv_iload_n hx hb dL_law_354 rfl (lv_at hl 0 rfl) ?_
  refine lv_iconst (v := 1) hx hb dL_law_355 (by decide +kernel) ?_
  refine lv_iadd hx hb dL_law_356 ?_
  refine va_sld hx hb hX hbl hbA hS hi1 dL_law_357 ?_
  refine lv_aload_n hx hb dL_law_358 rfl (lv_at hl 3 rfl) ?_
  refine lv_iload_n hx hb dL_law_359 rfl (lv_at hl 0 rfl) ?_
  refine lv_iconst (v := 2) hx hb dL_law_360 (by decide +kernel) ?_
  refine lv_iadd hx hb dL_law_361 ?_
  refine va_sld hx hb hX hbl hbA hS hi2 dL_law_362 ?_
  refine x_cVi (lawV cI cO aV aM τ) (p_V cI cO aV) (fun σ1 => σ1) [] [.int (xs (nI i + 1).toNatClampNeg), .int (xs (nI i + 2).toNatClampNeg)] (σ := σ) (σC := σ) (K := fun z s1 => some (z, s1)) (r0 := (r9, σ1)) hx hb hml hl.1 hown hts hK hP (fun σ1 => hD σ1 τ) hS hA rfl (c_X7_between l D cI cO tys ht ht1 aV σ (xs (nI i + 1).toNatClampNeg) (xs (nI i + 2).toNatClampNeg)) gL_law_X7_between rfl ⟨rfl, rfl⟩ i_X7_between ⟨Nat.le_of_ble_eq_true rfl, Nat.le_of_ble_eq_true rfl⟩ (law_frV cI cO aV aM σ τ) (g_V_0 cI cO aV σ) rfl rfl (Nat.le_of_ble_eq_true rfl) hcs dL_law_363 (by rw [e1]; rfl) (fun z9 H locs s9 hP hS h => ?_)
  obtain ⟨rfl, rfl⟩ := Prod.mk.inj (Option.some.inj h)
  have hP : va_P D vwCl (lawM cI cO aV aM s9 τ) H := hP
  refine lv_aload_n hx hb dL_law_366 rfl (lv_at hl 1 rfl) ?_
  refine lv_aload_n hx hb dL_law_367 rfl (lv_at hl 3 rfl) ?_
  refine lv_iload_n hx hb dL_law_368 rfl (lv_at hl 0 rfl) ?_
  refine lv_iconst (v := 1) hx hb dL_law_369 (by decide +kernel) ?_
  refine lv_iadd hx hb dL_law_370 ?_
  refine va_sld hx hb hX hbl hbA hS hi1 dL_law_371 ?_
  refine lv_aload_n hx hb dL_law_372 rfl (lv_at hl 3 rfl) ?_
  refine lv_iload_n hx hb dL_law_373 rfl (lv_at hl 0 rfl) ?_
  refine lv_iconst (v := 2) hx hb dL_law_374 (by decide +kernel) ?_
  refine lv_iadd hx hb dL_law_375 ?_
  refine va_sld hx hb hX hbl hbA hS hi2 dL_law_376 ?_
  refine x_cVi (lawM cI cO aV aM s9) (p_M cI aM) (fun σ1 => σ1) [.int z9] [.int (xs (nI i + 1).toNatClampNeg), .int (xs (nI i + 2).toNatClampNeg)] (σ := τ) (σC := τ) (K := fun z s1 => some (z, s1)) (r0 := (z9, τ1)) hx hb hml hl.1 hown hts hK hP (fun τ1 => hD s9 τ1) hS hA rfl (c_X8_between l D cI tys ht aM τ (xs (nI i + 1).toNatClampNeg) (xs (nI i + 2).toNatClampNeg)) gL_law_X8_between rfl ⟨rfl, rfl⟩ i_X8_between ⟨Nat.le_of_ble_eq_true rfl, Nat.le_of_ble_eq_true rfl⟩ (law_frM cI cO aV aM s9 τ) (g_M_0 cI aM τ) rfl rfl (Nat.le_of_ble_eq_true rfl) hcs dL_law_377 (by rw [e2]; rfl) (fun y9 H locs t9 hP hS h => ?_)
  obtain ⟨rfl, rfl⟩ := Prod.mk.inj (Option.some.inj h)
  refine lv_icmp_eq (tgt := 1081) hx hb dL_law_380 (by decide) (fun _ => ?_) (fun c9 => absurd rfl c9)
  exact kk _ _ _ _ _ hR hP hS hl
set_option maxHeartbeats 4000000 in
set_option maxRecDepth 100000 in
theorem law_c7 {p : Program} {e : Env} {s : State} {m : MethodId} {below : List Frame} {meth : Method} {c : Code} {l : Launch} {b L : Nat} {xs : Nat → Int32} {cI cO : ClassId} {D : va_G} {aV aM : Nat → Nat} {cells slots : Nat} {tys : List (ClassId × FieldType)} (hL : L ≤ 2560) (C0 : lw_At p s m meth c b L xs) (ht : tys[0]? = some (cI, .int)) (ht1 : tys[1]? = some (cO, .object "VectorRounds$Holder")) (hK : va_K D vwCl tys s) (hD : ∀ σ τ, va_D (lawA s) (p_V cI cO aV σ ++ p_M cI aM τ)) (hcs : cells ≤ 600000 ∧ slots ≤ 7302250) {Rel : qM → qM → Prop} (hS1 : S_rounds Rel) {i : Nat} (hi : i + 5 ≤ L) (kk : ∀ (σ τ : qM) (H : Heap) (locs : List Loc) (ls : Array Slot), Rel σ τ → va_P D vwCl (p_V cI cO aV σ ++ p_M cI aM τ) H → va_S (lawA s) s.heap H locs → lv_has ls 4 [(3, .int (nI i)), (2, .ref (aM 0)), (1, .ref (aV 0)), (0, .ref b)] → W p l e room_1 s m #[Value.ref b] below meth c H locs cells slots (lw_Z below #[Value.ref b] s) (F0 m 1081 ls [])) (σ τ : qM) (H : Heap) (locs : List Loc) (ls : Array Slot) (hR : Rel σ τ) (hP : va_P D vwCl (p_V cI cO aV σ ++ p_M cI aM τ) H) (hS : va_S (lawA s) s.heap H locs) (hl : lv_has ls 4 [(3, .int (nI i)), (2, .ref (aM 0)), (1, .ref (aV 0)), (0, .ref b)]) : W p l e room_1 s m #[Value.ref b] below meth c H locs cells slots (lw_Z below #[Value.ref b] s) (F0 m 385 ls []) := by
  obtain ⟨hx, hb, hr, hml, hown, hts, hX, hbl, hlocks, hgv⟩ := id C0
  have hown : s.vm.findClass RL = some m.cls := hown
  have hts : ∀ w ∈ wsL_law, w.before #[Value.ref b] s = true := fun w h => hts w (wsL_law_in w h)
  have hA : ∀ q : Nat, s.heap.size ≤ q → lawA s q := fun _ h => h
  have hbA : ¬ lawA s b := Nat.not_le.mpr hbl
  have hi1 : vp_in (nI i + 1) L := law_in (j := 1) (by omega) hL rfl
  obtain ⟨r9, σ1, τ1, e1, e2, hR⟩ := hS1 σ τ (xs (nI i + 1).toNatClampNeg) hR
  refine lv_aload_n hx hb dL_law_385 rfl (lv_at hl 2 rfl) ?_
  refine lv_aload_n hx hb dL_law_386 rfl (lv_at hl 3 rfl) ?_
  refine lv_iload_n hx hb dL_law_387 rfl (lv_at hl 0 rfl) ?_
  refine lv_iconst (v := 1) hx hb dL_law_388 (by decide +kernel) ?_
  refine lv_iadd hx hb dL_law_389 ?_
  refine va_sld hx hb hX hbl hbA hS hi1 dL_law_390 ?_
  refine x_cVi (lawV cI cO aV aM τ) (p_V cI cO aV) (fun σ1 => σ1) [] [.int (xs (nI i + 1).toNatClampNeg)] (σ := σ) (σC := σ) (K := fun z s1 => some (z, s1)) (r0 := (r9, σ1)) hx hb hml hl.1 hown hts hK hP (fun σ1 => hD σ1 τ) hS hA rfl (c_X7_rounds l D cI cO tys ht ht1 aV σ (xs (nI i + 1).toNatClampNeg)) gL_law_X7_rounds rfl ⟨rfl, rfl⟩ i_X7_rounds ⟨Nat.le_of_ble_eq_true rfl, Nat.le_of_ble_eq_true rfl⟩ (law_frV cI cO aV aM σ τ) (g_V_0 cI cO aV σ) rfl rfl (Nat.le_of_ble_eq_true rfl) hcs dL_law_391 (by rw [e1]; rfl) (fun z9 H locs s9 hP hS h => ?_)
  obtain ⟨rfl, rfl⟩ := Prod.mk.inj (Option.some.inj h)
  have hP : va_P D vwCl (lawM cI cO aV aM s9 τ) H := hP
  refine lv_aload_n hx hb dL_law_394 rfl (lv_at hl 1 rfl) ?_
  refine lv_aload_n hx hb dL_law_395 rfl (lv_at hl 3 rfl) ?_
  refine lv_iload_n hx hb dL_law_396 rfl (lv_at hl 0 rfl) ?_
  refine lv_iconst (v := 1) hx hb dL_law_397 (by decide +kernel) ?_
  refine lv_iadd hx hb dL_law_398 ?_
  refine va_sld hx hb hX hbl hbA hS hi1 dL_law_399 ?_
  refine x_cVi (lawM cI cO aV aM s9) (p_M cI aM) (fun σ1 => σ1) [.int z9] [.int (xs (nI i + 1).toNatClampNeg)] (σ := τ) (σC := τ) (K := fun z s1 => some (z, s1)) (r0 := (z9, τ1)) hx hb hml hl.1 hown hts hK hP (fun τ1 => hD s9 τ1) hS hA rfl (c_X8_rounds l D cI tys ht aM τ (xs (nI i + 1).toNatClampNeg)) gL_law_X8_rounds rfl ⟨rfl, rfl⟩ i_X8_rounds ⟨Nat.le_of_ble_eq_true rfl, Nat.le_of_ble_eq_true rfl⟩ (law_frM cI cO aV aM s9 τ) (g_M_0 cI aM τ) rfl rfl (Nat.le_of_ble_eq_true rfl) hcs dL_law_400 (by rw [e2]; rfl) (fun y9 H locs t9 hP hS h => ?_)
  obtain ⟨rfl, rfl⟩ := Prod.mk.inj (Option.some.inj h)
  refine lv_icmp_eq (tgt := 1081) hx hb dL_law_403 (by decide) (fun _ => ?_) (fun c9 => absurd rfl c9)
  exact kk _ _ _ _ _ hR hP hS hl
set_option maxHeartbeats 4000000 in
set_option maxRecDepth 100000 in
theorem law_c8 {p : Program} {e : Env} {s : State} {m : MethodId} {below : List Frame} {meth : Method} {c : Code} {l : Launch} {b L : Nat} {xs : Nat → Int32} {cI cO : ClassId} {D : va_G} {aV aM : Nat → Nat} {cells slots : Nat} {tys : List (ClassId × FieldType)} (hL : L ≤ 2560) (C0 : lw_At p s m meth c b L xs) (ht : tys[0]? = some (cI, .int)) (ht1 : tys[1]? = some (cO, .object "VectorRounds$Holder")) (hK : va_K D vwCl tys s) (hD : ∀ σ τ, va_D (lawA s) (p_V cI cO aV σ ++ p_M cI aM τ)) (hcs : cells ≤ 600000 ∧ slots ≤ 7302250) {Rel : qM → qM → Prop} (hS1 : S_entry Rel) {i : Nat} (hi : i + 5 ≤ L) (kk : ∀ (σ τ : qM) (H : Heap) (locs : List Loc) (ls : Array Slot), Rel σ τ → va_P D vwCl (p_V cI cO aV σ ++ p_M cI aM τ) H → va_S (lawA s) s.heap H locs → lv_has ls 4 [(3, .int (nI i)), (2, .ref (aM 0)), (1, .ref (aV 0)), (0, .ref b)] → W p l e room_1 s m #[Value.ref b] below meth c H locs cells slots (lw_Z below #[Value.ref b] s) (F0 m 1081 ls [])) (σ τ : qM) (H : Heap) (locs : List Loc) (ls : Array Slot) (hR : Rel σ τ) (hP : va_P D vwCl (p_V cI cO aV σ ++ p_M cI aM τ) H) (hS : va_S (lawA s) s.heap H locs) (hl : lv_has ls 4 [(3, .int (nI i)), (2, .ref (aM 0)), (1, .ref (aV 0)), (0, .ref b)]) : W p l e room_1 s m #[Value.ref b] below meth c H locs cells slots (lw_Z below #[Value.ref b] s) (F0 m 408 ls []) := by
  obtain ⟨hx, hb, hr, hml, hown, hts, hX, hbl, hlocks, hgv⟩ := id C0
  have hown : s.vm.findClass RL = some m.cls := hown
  have hts : ∀ w ∈ wsL_law, w.before #[Value.ref b] s = true := fun w h => hts w (wsL_law_in w h)
  have hA : ∀ q : Nat, s.heap.size ≤ q → lawA s q := fun _ h => h
  have hbA : ¬ lawA s b := Nat.not_le.mpr hbl
  have hi1 : vp_in (nI i + 1) L := law_in (j := 1) (by omega) hL rfl
  have hi2 : vp_in (nI i + 2) L := law_in (j := 2) (by omega) hL rfl
  have hi3 : vp_in (nI i + 3) L := law_in (j := 3) (by omega) hL rfl
  obtain ⟨r9, σ1, τ1, e1, e2, hR⟩ := hS1 σ τ (xs (nI i + 1).toNatClampNeg) (xs (nI i + 2).toNatClampNeg) (xs (nI i + 3).toNatClampNeg) hR
  refine lv_aload_n hx hb dL_law_408 rfl (lv_at hl 2 rfl) ?_
  refine lv_aload_n hx hb dL_law_409 rfl (lv_at hl 3 rfl) ?_
  refine lv_iload_n hx hb dL_law_410 rfl (lv_at hl 0 rfl) ?_
  refine lv_iconst (v := 1) hx hb dL_law_411 (by decide +kernel) ?_
  refine lv_iadd hx hb dL_law_412 ?_
  refine va_sld hx hb hX hbl hbA hS hi1 dL_law_413 ?_
  refine lv_aload_n hx hb dL_law_414 rfl (lv_at hl 3 rfl) ?_
  refine lv_iload_n hx hb dL_law_415 rfl (lv_at hl 0 rfl) ?_
  refine lv_iconst (v := 2) hx hb dL_law_416 (by decide +kernel) ?_
  refine lv_iadd hx hb dL_law_417 ?_
  refine va_sld hx hb hX hbl hbA hS hi2 dL_law_418 ?_
  refine lv_aload_n hx hb dL_law_419 rfl (lv_at hl 3 rfl) ?_
  refine lv_iload_n hx hb dL_law_420 rfl (lv_at hl 0 rfl) ?_
  refine lv_iconst (v := 3) hx hb dL_law_421 (by decide +kernel) ?_
  refine lv_iadd hx hb dL_law_422 ?_
  refine va_sld hx hb hX hbl hbA hS hi3 dL_law_423 ?_
  refine x_cVi (lawV cI cO aV aM τ) (p_V cI cO aV) (fun σ1 => σ1) [] [.int (xs (nI i + 1).toNatClampNeg), .int (xs (nI i + 2).toNatClampNeg), .int (xs (nI i + 3).toNatClampNeg)] (σ := σ) (σC := σ) (K := fun z s1 => some (z, s1)) (r0 := (r9, σ1)) hx hb hml hl.1 hown hts hK hP (fun σ1 => hD σ1 τ) hS hA rfl (c_X7_entry l D cI cO tys ht ht1 aV σ (xs (nI i + 1).toNatClampNeg) (xs (nI i + 2).toNatClampNeg) (xs (nI i + 3).toNatClampNeg)) gL_law_X7_entry rfl ⟨rfl, rfl⟩ i_X7_entry ⟨Nat.le_of_ble_eq_true rfl, Nat.le_of_ble_eq_true rfl⟩ (law_frV cI cO aV aM σ τ) (g_V_0 cI cO aV σ) rfl rfl (Nat.le_of_ble_eq_true rfl) hcs dL_law_424 (by rw [e1]; rfl) (fun z9 H locs s9 hP hS h => ?_)
  obtain ⟨rfl, rfl⟩ := Prod.mk.inj (Option.some.inj h)
  have hP : va_P D vwCl (lawM cI cO aV aM s9 τ) H := hP
  refine lv_aload_n hx hb dL_law_427 rfl (lv_at hl 1 rfl) ?_
  refine lv_aload_n hx hb dL_law_428 rfl (lv_at hl 3 rfl) ?_
  refine lv_iload_n hx hb dL_law_429 rfl (lv_at hl 0 rfl) ?_
  refine lv_iconst (v := 1) hx hb dL_law_430 (by decide +kernel) ?_
  refine lv_iadd hx hb dL_law_431 ?_
  refine va_sld hx hb hX hbl hbA hS hi1 dL_law_432 ?_
  refine lv_aload_n hx hb dL_law_433 rfl (lv_at hl 3 rfl) ?_
  refine lv_iload_n hx hb dL_law_434 rfl (lv_at hl 0 rfl) ?_
  refine lv_iconst (v := 2) hx hb dL_law_435 (by decide +kernel) ?_
  refine lv_iadd hx hb dL_law_436 ?_
  refine va_sld hx hb hX hbl hbA hS hi2 dL_law_437 ?_
  refine lv_aload_n hx hb dL_law_438 rfl (lv_at hl 3 rfl) ?_
  refine lv_iload_n hx hb dL_law_439 rfl (lv_at hl 0 rfl) ?_
  refine lv_iconst (v := 3) hx hb dL_law_440 (by decide +kernel) ?_
  refine lv_iadd hx hb dL_law_441 ?_
  refine va_sld hx hb hX hbl hbA hS hi3 dL_law_442 ?_
  refine x_cVi (lawM cI cO aV aM s9) (p_M cI aM) (fun σ1 => σ1) [.int z9] [.int (xs (nI i + 1).toNatClampNeg), .int (xs (nI i + 2).toNatClampNeg), .int (xs (nI i + 3).toNatClampNeg)] (σ := τ) (σC := τ) (K := fun z s1 => some (z, s1)) (r0 := (z9, τ1)) hx hb hml hl.1 hown hts hK hP (fun τ1 => hD s9 τ1) hS hA rfl (c_X8_entry l D cI tys ht aM τ (xs (nI i + 1).toNatClampNeg) (xs (nI i + 2).toNatClampNeg) (xs (nI i + 3).toNatClampNeg)) gL_law_X8_entry rfl ⟨rfl, rfl⟩ i_X8_entry ⟨Nat.le_of_ble_eq_true rfl, Nat.le_of_ble_eq_true rfl⟩ (law_frM cI cO aV aM s9 τ) (g_M_0 cI aM τ) rfl rfl (Nat.le_of_ble_eq_true rfl) hcs dL_law_443 (by rw [e2]; rfl) (fun y9 H locs t9 hP hS h => ?_)
  obtain ⟨rfl, rfl⟩ := Prod.mk.inj (Option.some.inj h)
  refine lv_icmp_eq (tgt := 1081) hx hb dL_law_446 (by decide) (fun _ => ?_) (fun c9 => absurd rfl c9)
  exact kk _ _ _ _ _ hR hP hS hl
set_option maxHeartbeats 4000000 in
set_option maxRecDepth 100000 in
theorem law_c9 {p : Program} {e : Env} {s : State} {m : MethodId} {below : List Frame} {meth : Method} {c : Code} {l : Launch} {b L : Nat} {xs : Nat → Int32} {cI cO : ClassId} {D : va_G} {aV aM : Nat → Nat} {cells slots : Nat} {tys : List (ClassId × FieldType)} (hL : L ≤ 2560) (C0 : lw_At p s m meth c b L xs) (ht : tys[0]? = some (cI, .int)) (ht1 : tys[1]? = some (cO, .object "VectorRounds$Holder")) (hK : va_K D vwCl tys s) (hD : ∀ σ τ, va_D (lawA s) (p_V cI cO aV σ ++ p_M cI aM τ)) (hcs : cells ≤ 600000 ∧ slots ≤ 7302250) {Rel : qM → qM → Prop} (hS1 : S_known Rel) {i : Nat} (hi : i + 5 ≤ L) (kk : ∀ (σ τ : qM) (H : Heap) (locs : List Loc) (ls : Array Slot), Rel σ τ → va_P D vwCl (p_V cI cO aV σ ++ p_M cI aM τ) H → va_S (lawA s) s.heap H locs → lv_has ls 4 [(3, .int (nI i)), (2, .ref (aM 0)), (1, .ref (aV 0)), (0, .ref b)] → W p l e room_1 s m #[Value.ref b] below meth c H locs cells slots (lw_Z below #[Value.ref b] s) (F0 m 1081 ls [])) (σ τ : qM) (H : Heap) (locs : List Loc) (ls : Array Slot) (hR : Rel σ τ) (hP : va_P D vwCl (p_V cI cO aV σ ++ p_M cI aM τ) H) (hS : va_S (lawA s) s.heap H locs) (hl : lv_has ls 4 [(3, .int (nI i)), (2, .ref (aM 0)), (1, .ref (aV 0)), (0, .ref b)]) : W p l e room_1 s m #[Value.ref b] below meth c H locs cells slots (lw_Z below #[Value.ref b] s) (F0 m 451 ls []) := by
  obtain ⟨hx, hb, hr, hml, hown, hts, hX, hbl, hlocks, hgv⟩ := id C0
  have hown : s.vm.findClass RL = some m.cls := hown
  have hts : ∀ w ∈ wsL_law, w.before #[Value.ref b] s = true := fun w h => hts w (wsL_law_in w h)
  have hA : ∀ q : Nat, s.heap.size ≤ q → lawA s q := fun _ h => h
  have hbA : ¬ lawA s b := Nat.not_le.mpr hbl
  have hi1 : vp_in (nI i + 1) L := law_in (j := 1) (by omega) hL rfl
  have hi2 : vp_in (nI i + 2) L := law_in (j := 2) (by omega) hL rfl
  obtain ⟨r9, σ1, τ1, e1, e2, hR⟩ := hS1 σ τ (xs (nI i + 1).toNatClampNeg) (xs (nI i + 2).toNatClampNeg) hR
  refine lv_aload_n hx hb dL_law_451 rfl (lv_at hl 2 rfl) ?_
  refine lv_aload_n hx hb dL_law_452 rfl (lv_at hl 3 rfl) ?_
  refine lv_iload_n hx hb dL_law_453 rfl (lv_at hl 0 rfl) ?_
  refine lv_iconst (v := 1) hx hb dL_law_454 (by decide +kernel) ?_
  refine lv_iadd hx hb dL_law_455 ?_
  refine va_sld hx hb hX hbl hbA hS hi1 dL_law_456 ?_
  refine lv_aload_n hx hb dL_law_457 rfl (lv_at hl 3 rfl) ?_
  refine lv_iload_n hx hb dL_law_458 rfl (lv_at hl 0 rfl) ?_
  refine lv_iconst (v := 2) hx hb dL_law_459 (by decide +kernel) ?_
  refine lv_iadd hx hb dL_law_460 ?_
  refine va_sld hx hb hX hbl hbA hS hi2 dL_law_461 ?_
  refine x_cVi (lawV cI cO aV aM τ) (p_V cI cO aV) (fun σ1 => σ1) [] [.int (xs (nI i + 1).toNatClampNeg), .int (xs (nI i + 2).toNatClampNeg)] (σ := σ) (σC := σ) (K := fun z s1 => some (z, s1)) (r0 := (r9, σ1)) hx hb hml hl.1 hown hts hK hP (fun σ1 => hD σ1 τ) hS hA rfl (c_X7_known l D cI cO tys ht ht1 aV σ (xs (nI i + 1).toNatClampNeg) (xs (nI i + 2).toNatClampNeg)) gL_law_X7_known rfl ⟨rfl, rfl⟩ i_X7_known ⟨Nat.le_of_ble_eq_true rfl, Nat.le_of_ble_eq_true rfl⟩ (law_frV cI cO aV aM σ τ) (g_V_0 cI cO aV σ) rfl rfl (Nat.le_of_ble_eq_true rfl) hcs dL_law_462 (by rw [e1]; rfl) (fun z9 H locs s9 hP hS h => ?_)
  obtain ⟨rfl, rfl⟩ := Prod.mk.inj (Option.some.inj h)
  have hP : va_P D vwCl (lawM cI cO aV aM s9 τ) H := hP
  refine lv_aload_n hx hb dL_law_465 rfl (lv_at hl 1 rfl) ?_
  refine lv_aload_n hx hb dL_law_466 rfl (lv_at hl 3 rfl) ?_
  refine lv_iload_n hx hb dL_law_467 rfl (lv_at hl 0 rfl) ?_
  refine lv_iconst (v := 1) hx hb dL_law_468 (by decide +kernel) ?_
  refine lv_iadd hx hb dL_law_469 ?_
  refine va_sld hx hb hX hbl hbA hS hi1 dL_law_470 ?_
  refine lv_aload_n hx hb dL_law_471 rfl (lv_at hl 3 rfl) ?_
  refine lv_iload_n hx hb dL_law_472 rfl (lv_at hl 0 rfl) ?_
  refine lv_iconst (v := 2) hx hb dL_law_473 (by decide +kernel) ?_
  refine lv_iadd hx hb dL_law_474 ?_
  refine va_sld hx hb hX hbl hbA hS hi2 dL_law_475 ?_
  refine x_cVi (lawM cI cO aV aM s9) (p_M cI aM) (fun σ1 => σ1) [.int z9] [.int (xs (nI i + 1).toNatClampNeg), .int (xs (nI i + 2).toNatClampNeg)] (σ := τ) (σC := τ) (K := fun z s1 => some (z, s1)) (r0 := (z9, τ1)) hx hb hml hl.1 hown hts hK hP (fun τ1 => hD s9 τ1) hS hA rfl (c_X8_known l D cI tys ht aM τ (xs (nI i + 1).toNatClampNeg) (xs (nI i + 2).toNatClampNeg)) gL_law_X8_known rfl ⟨rfl, rfl⟩ i_X8_known ⟨Nat.le_of_ble_eq_true rfl, Nat.le_of_ble_eq_true rfl⟩ (law_frM cI cO aV aM s9 τ) (g_M_0 cI aM τ) rfl rfl (Nat.le_of_ble_eq_true rfl) hcs dL_law_476 (by rw [e2]; rfl) (fun y9 H locs t9 hP hS h => ?_)
  obtain ⟨rfl, rfl⟩ := Prod.mk.inj (Option.some.inj h)
  refine lv_icmp_eq (tgt := 1081) hx hb dL_law_479 (by decide) (fun _ => ?_) (fun c9 => absurd rfl c9)
  exact kk _ _ _ _ _ hR hP hS hl
set_option maxHeartbeats 4000000 in
set_option maxRecDepth 100000 in
theorem law_c10 {p : Program} {e : Env} {s : State} {m : MethodId} {below : List Frame} {meth : Method} {c : Code} {l : Launch} {b L : Nat} {xs : Nat → Int32} {cI cO : ClassId} {D : va_G} {aV aM : Nat → Nat} {cells slots : Nat} {tys : List (ClassId × FieldType)} (hL : L ≤ 2560) (C0 : lw_At p s m meth c b L xs) (ht : tys[0]? = some (cI, .int)) (ht1 : tys[1]? = some (cO, .object "VectorRounds$Holder")) (hK : va_K D vwCl tys s) (hD : ∀ σ τ, va_D (lawA s) (p_V cI cO aV σ ++ p_M cI aM τ)) (hcs : cells ≤ 600000 ∧ slots ≤ 7302250) {Rel : qM → qM → Prop} (hS1 : S_told Rel) {i : Nat} (hi : i + 5 ≤ L) (kk : ∀ (σ τ : qM) (H : Heap) (locs : List Loc) (ls : Array Slot), Rel σ τ → va_P D vwCl (p_V cI cO aV σ ++ p_M cI aM τ) H → va_S (lawA s) s.heap H locs → lv_has ls 4 [(3, .int (nI i)), (2, .ref (aM 0)), (1, .ref (aV 0)), (0, .ref b)] → W p l e room_1 s m #[Value.ref b] below meth c H locs cells slots (lw_Z below #[Value.ref b] s) (F0 m 1081 ls [])) (σ τ : qM) (H : Heap) (locs : List Loc) (ls : Array Slot) (hR : Rel σ τ) (hP : va_P D vwCl (p_V cI cO aV σ ++ p_M cI aM τ) H) (hS : va_S (lawA s) s.heap H locs) (hl : lv_has ls 4 [(3, .int (nI i)), (2, .ref (aM 0)), (1, .ref (aV 0)), (0, .ref b)]) : W p l e room_1 s m #[Value.ref b] below meth c H locs cells slots (lw_Z below #[Value.ref b] s) (F0 m 484 ls []) := by
  obtain ⟨hx, hb, hr, hml, hown, hts, hX, hbl, hlocks, hgv⟩ := id C0
  have hown : s.vm.findClass RL = some m.cls := hown
  have hts : ∀ w ∈ wsL_law, w.before #[Value.ref b] s = true := fun w h => hts w (wsL_law_in w h)
  have hA : ∀ q : Nat, s.heap.size ≤ q → lawA s q := fun _ h => h
  have hbA : ¬ lawA s b := Nat.not_le.mpr hbl
  have hi1 : vp_in (nI i + 1) L := law_in (j := 1) (by omega) hL rfl
  obtain ⟨r9, σ1, τ1, e1, e2, hR⟩ := hS1 σ τ (xs (nI i + 1).toNatClampNeg) hR
  refine lv_aload_n hx hb dL_law_484 rfl (lv_at hl 2 rfl) ?_
  refine lv_aload_n hx hb dL_law_485 rfl (lv_at hl 3 rfl) ?_
  refine lv_iload_n hx hb dL_law_486 rfl (lv_at hl 0 rfl) ?_
  refine lv_iconst (v := 1) hx hb dL_law_487 (by decide +kernel) ?_
  refine lv_iadd hx hb dL_law_488 ?_
  refine va_sld hx hb hX hbl hbA hS hi1 dL_law_489 ?_
  refine x_cVi (lawV cI cO aV aM τ) (p_V cI cO aV) (fun σ1 => σ1) [] [.int (xs (nI i + 1).toNatClampNeg)] (σ := σ) (σC := σ) (K := fun z s1 => some (z, s1)) (r0 := (r9, σ1)) hx hb hml hl.1 hown hts hK hP (fun σ1 => hD σ1 τ) hS hA rfl (c_X7_told l D cI cO tys ht ht1 aV σ (xs (nI i + 1).toNatClampNeg)) gL_law_X7_told rfl ⟨rfl, rfl⟩ i_X7_told ⟨Nat.le_of_ble_eq_true rfl, Nat.le_of_ble_eq_true rfl⟩ (law_frV cI cO aV aM σ τ) (g_V_0 cI cO aV σ) rfl rfl (Nat.le_of_ble_eq_true rfl) hcs dL_law_490 (by rw [e1]; rfl) (fun z9 H locs s9 hP hS h => ?_)
  obtain ⟨rfl, rfl⟩ := Prod.mk.inj (Option.some.inj h)
  have hP : va_P D vwCl (lawM cI cO aV aM s9 τ) H := hP
  refine lv_aload_n hx hb dL_law_493 rfl (lv_at hl 1 rfl) ?_
  refine lv_aload_n hx hb dL_law_494 rfl (lv_at hl 3 rfl) ?_
  refine lv_iload_n hx hb dL_law_495 rfl (lv_at hl 0 rfl) ?_
  refine lv_iconst (v := 1) hx hb dL_law_496 (by decide +kernel) ?_
  refine lv_iadd hx hb dL_law_497 ?_
  refine va_sld hx hb hX hbl hbA hS hi1 dL_law_498 ?_
  refine x_cVi (lawM cI cO aV aM s9) (p_M cI aM) (fun σ1 => σ1) [.int z9] [.int (xs (nI i + 1).toNatClampNeg)] (σ := τ) (σC := τ) (K := fun z s1 => some (z, s1)) (r0 := (z9, τ1)) hx hb hml hl.1 hown hts hK hP (fun τ1 => hD s9 τ1) hS hA rfl (c_X8_told l D cI tys ht aM τ (xs (nI i + 1).toNatClampNeg)) gL_law_X8_told rfl ⟨rfl, rfl⟩ i_X8_told ⟨Nat.le_of_ble_eq_true rfl, Nat.le_of_ble_eq_true rfl⟩ (law_frM cI cO aV aM s9 τ) (g_M_0 cI aM τ) rfl rfl (Nat.le_of_ble_eq_true rfl) hcs dL_law_499 (by rw [e2]; rfl) (fun y9 H locs t9 hP hS h => ?_)
  obtain ⟨rfl, rfl⟩ := Prod.mk.inj (Option.some.inj h)
  refine lv_icmp_eq (tgt := 1081) hx hb dL_law_502 (by decide) (fun _ => ?_) (fun c9 => absurd rfl c9)
  exact kk _ _ _ _ _ hR hP hS hl
set_option maxHeartbeats 4000000 in
set_option maxRecDepth 100000 in
theorem law_c11 {p : Program} {e : Env} {s : State} {m : MethodId} {below : List Frame} {meth : Method} {c : Code} {l : Launch} {b L : Nat} {xs : Nat → Int32} {cI cO : ClassId} {D : va_G} {aV aM : Nat → Nat} {cells slots : Nat} {tys : List (ClassId × FieldType)} (hL : L ≤ 2560) (C0 : lw_At p s m meth c b L xs) (ht : tys[0]? = some (cI, .int)) (ht1 : tys[1]? = some (cO, .object "VectorRounds$Holder")) (hK : va_K D vwCl tys s) (hD : ∀ σ τ, va_D (lawA s) (p_V cI cO aV σ ++ p_M cI aM τ)) (hcs : cells ≤ 600000 ∧ slots ≤ 7302250) {Rel : qM → qM → Prop} (hS1 : S_then Rel) {i : Nat} (hi : i + 5 ≤ L) (kk : ∀ (σ τ : qM) (H : Heap) (locs : List Loc) (ls : Array Slot), Rel σ τ → va_P D vwCl (p_V cI cO aV σ ++ p_M cI aM τ) H → va_S (lawA s) s.heap H locs → lv_has ls 4 [(3, .int (nI i)), (2, .ref (aM 0)), (1, .ref (aV 0)), (0, .ref b)] → W p l e room_1 s m #[Value.ref b] below meth c H locs cells slots (lw_Z below #[Value.ref b] s) (F0 m 1081 ls [])) (σ τ : qM) (H : Heap) (locs : List Loc) (ls : Array Slot) (hR : Rel σ τ) (hP : va_P D vwCl (p_V cI cO aV σ ++ p_M cI aM τ) H) (hS : va_S (lawA s) s.heap H locs) (hl : lv_has ls 4 [(3, .int (nI i)), (2, .ref (aM 0)), (1, .ref (aV 0)), (0, .ref b)]) : W p l e room_1 s m #[Value.ref b] below meth c H locs cells slots (lw_Z below #[Value.ref b] s) (F0 m 507 ls []) := by
  obtain ⟨hx, hb, hr, hml, hown, hts, hX, hbl, hlocks, hgv⟩ := id C0
  have hown : s.vm.findClass RL = some m.cls := hown
  have hts : ∀ w ∈ wsL_law, w.before #[Value.ref b] s = true := fun w h => hts w (wsL_law_in w h)
  have hA : ∀ q : Nat, s.heap.size ≤ q → lawA s q := fun _ h => h
  have hbA : ¬ lawA s b := Nat.not_le.mpr hbl
  have hi1 : vp_in (nI i + 1) L := law_in (j := 1) (by omega) hL rfl
  have hi2 : vp_in (nI i + 2) L := law_in (j := 2) (by omega) hL rfl
  have hi3 : vp_in (nI i + 3) L := law_in (j := 3) (by omega) hL rfl
  have hi4 : vp_in (nI i + 4) L := law_in (j := 4) (by omega) hL rfl
  obtain ⟨r9, σ1, τ1, e1, e2, hR⟩ := hS1 σ τ (xs (nI i + 1).toNatClampNeg) (xs (nI i + 2).toNatClampNeg) (xs (nI i + 3).toNatClampNeg) (xs (nI i + 4).toNatClampNeg) hR
  refine lv_aload_n hx hb dL_law_507 rfl (lv_at hl 2 rfl) ?_
  refine lv_aload_n hx hb dL_law_508 rfl (lv_at hl 3 rfl) ?_
  refine lv_iload_n hx hb dL_law_509 rfl (lv_at hl 0 rfl) ?_
  refine lv_iconst (v := 1) hx hb dL_law_510 (by decide +kernel) ?_
  refine lv_iadd hx hb dL_law_511 ?_
  refine va_sld hx hb hX hbl hbA hS hi1 dL_law_512 ?_
  refine lv_aload_n hx hb dL_law_513 rfl (lv_at hl 3 rfl) ?_
  refine lv_iload_n hx hb dL_law_514 rfl (lv_at hl 0 rfl) ?_
  refine lv_iconst (v := 2) hx hb dL_law_515 (by decide +kernel) ?_
  refine lv_iadd hx hb dL_law_516 ?_
  refine va_sld hx hb hX hbl hbA hS hi2 dL_law_517 ?_
  refine lv_aload_n hx hb dL_law_518 rfl (lv_at hl 3 rfl) ?_
  refine lv_iload_n hx hb dL_law_519 rfl (lv_at hl 0 rfl) ?_
  refine lv_iconst (v := 3) hx hb dL_law_520 (by decide +kernel) ?_
  refine lv_iadd hx hb dL_law_521 ?_
  refine va_sld hx hb hX hbl hbA hS hi3 dL_law_522 ?_
  refine lv_aload_n hx hb dL_law_523 rfl (lv_at hl 3 rfl) ?_
  refine lv_iload_n hx hb dL_law_524 rfl (lv_at hl 0 rfl) ?_
  refine lv_iconst (v := 4) hx hb dL_law_525 (by decide +kernel) ?_
  refine lv_iadd hx hb dL_law_526 ?_
  refine va_sld hx hb hX hbl hbA hS hi4 dL_law_527 ?_
  refine x_cVi (lawV cI cO aV aM τ) (p_V cI cO aV) (fun σ1 => σ1) [] [.int (xs (nI i + 1).toNatClampNeg), .int (xs (nI i + 2).toNatClampNeg), .int (xs (nI i + 3).toNatClampNeg), .int (xs (nI i + 4).toNatClampNeg)] (σ := σ) (σC := σ) (K := fun z s1 => some (z, s1)) (r0 := (r9, σ1)) hx hb hml hl.1 hown hts hK hP (fun σ1 => hD σ1 τ) hS hA rfl (c_X7_then l D cI cO tys ht ht1 aV σ (xs (nI i + 1).toNatClampNeg) (xs (nI i + 2).toNatClampNeg) (xs (nI i + 3).toNatClampNeg) (xs (nI i + 4).toNatClampNeg)) gL_law_X7_then rfl ⟨rfl, rfl⟩ i_X7_then ⟨Nat.le_of_ble_eq_true rfl, Nat.le_of_ble_eq_true rfl⟩ (law_frV cI cO aV aM σ τ) (g_V_0 cI cO aV σ) rfl rfl (Nat.le_of_ble_eq_true rfl) hcs dL_law_528 (by rw [e1]; rfl) (fun z9 H locs s9 hP hS h => ?_)
  obtain ⟨rfl, rfl⟩ := Prod.mk.inj (Option.some.inj h)
  have hP : va_P D vwCl (lawM cI cO aV aM s9 τ) H := hP
  refine lv_aload_n hx hb dL_law_531 rfl (lv_at hl 1 rfl) ?_
  refine lv_aload_n hx hb dL_law_532 rfl (lv_at hl 3 rfl) ?_
  refine lv_iload_n hx hb dL_law_533 rfl (lv_at hl 0 rfl) ?_
  refine lv_iconst (v := 1) hx hb dL_law_534 (by decide +kernel) ?_
  refine lv_iadd hx hb dL_law_535 ?_
  refine va_sld hx hb hX hbl hbA hS hi1 dL_law_536 ?_
  refine lv_aload_n hx hb dL_law_537 rfl (lv_at hl 3 rfl) ?_
  refine lv_iload_n hx hb dL_law_538 rfl (lv_at hl 0 rfl) ?_
  refine lv_iconst (v := 2) hx hb dL_law_539 (by decide +kernel) ?_
  refine lv_iadd hx hb dL_law_540 ?_
  refine va_sld hx hb hX hbl hbA hS hi2 dL_law_541 ?_
  refine lv_aload_n hx hb dL_law_542 rfl (lv_at hl 3 rfl) ?_
  refine lv_iload_n hx hb dL_law_543 rfl (lv_at hl 0 rfl) ?_
  refine lv_iconst (v := 3) hx hb dL_law_544 (by decide +kernel) ?_
  refine lv_iadd hx hb dL_law_545 ?_
  refine va_sld hx hb hX hbl hbA hS hi3 dL_law_546 ?_
  refine lv_aload_n hx hb dL_law_547 rfl (lv_at hl 3 rfl) ?_
  refine lv_iload_n hx hb dL_law_548 rfl (lv_at hl 0 rfl) ?_
  refine lv_iconst (v := 4) hx hb dL_law_549 (by decide +kernel) ?_
  refine lv_iadd hx hb dL_law_550 ?_
  refine va_sld hx hb hX hbl hbA hS hi4 dL_law_551 ?_
  refine x_cVi (lawM cI cO aV aM s9) (p_M cI aM) (fun σ1 => σ1) [.int z9] [.int (xs (nI i + 1).toNatClampNeg), .int (xs (nI i + 2).toNatClampNeg), .int (xs (nI i + 3).toNatClampNeg), .int (xs (nI i + 4).toNatClampNeg)] (σ := τ) (σC := τ) (K := fun z s1 => some (z, s1)) (r0 := (z9, τ1)) hx hb hml hl.1 hown hts hK hP (fun τ1 => hD s9 τ1) hS hA rfl (c_X8_then l D cI tys ht aM τ (xs (nI i + 1).toNatClampNeg) (xs (nI i + 2).toNatClampNeg) (xs (nI i + 3).toNatClampNeg) (xs (nI i + 4).toNatClampNeg)) gL_law_X8_then rfl ⟨rfl, rfl⟩ i_X8_then ⟨Nat.le_of_ble_eq_true rfl, Nat.le_of_ble_eq_true rfl⟩ (law_frM cI cO aV aM s9 τ) (g_M_0 cI aM τ) rfl rfl (Nat.le_of_ble_eq_true rfl) hcs dL_law_552 (by rw [e2]; rfl) (fun y9 H locs t9 hP hS h => ?_)
  obtain ⟨rfl, rfl⟩ := Prod.mk.inj (Option.some.inj h)
  refine lv_icmp_eq (tgt := 1081) hx hb dL_law_555 (by decide) (fun _ => ?_) (fun c9 => absurd rfl c9)
  exact kk _ _ _ _ _ hR hP hS hl
set_option maxHeartbeats 4000000 in
set_option maxRecDepth 100000 in
theorem law_c12 {p : Program} {e : Env} {s : State} {m : MethodId} {below : List Frame} {meth : Method} {c : Code} {l : Launch} {b L : Nat} {xs : Nat → Int32} {cI cO : ClassId} {D : va_G} {aV aM : Nat → Nat} {cells slots : Nat} {tys : List (ClassId × FieldType)} (hL : L ≤ 2560) (C0 : lw_At p s m meth c b L xs) (ht : tys[0]? = some (cI, .int)) (ht1 : tys[1]? = some (cO, .object "VectorRounds$Holder")) (hK : va_K D vwCl tys s) (hD : ∀ σ τ, va_D (lawA s) (p_V cI cO aV σ ++ p_M cI aM τ)) (hcs : cells ≤ 600000 ∧ slots ≤ 7302250) {Rel : qM → qM → Prop} (hS1 : S_way Rel) {i : Nat} (hi : i + 5 ≤ L) (kk : ∀ (σ τ : qM) (H : Heap) (locs : List Loc) (ls : Array Slot), Rel σ τ → va_P D vwCl (p_V cI cO aV σ ++ p_M cI aM τ) H → va_S (lawA s) s.heap H locs → lv_has ls 4 [(3, .int (nI i)), (2, .ref (aM 0)), (1, .ref (aV 0)), (0, .ref b)] → W p l e room_1 s m #[Value.ref b] below meth c H locs cells slots (lw_Z below #[Value.ref b] s) (F0 m 1081 ls [])) (σ τ : qM) (H : Heap) (locs : List Loc) (ls : Array Slot) (hR : Rel σ τ) (hP : va_P D vwCl (p_V cI cO aV σ ++ p_M cI aM τ) H) (hS : va_S (lawA s) s.heap H locs) (hl : lv_has ls 4 [(3, .int (nI i)), (2, .ref (aM 0)), (1, .ref (aV 0)), (0, .ref b)]) : W p l e room_1 s m #[Value.ref b] below meth c H locs cells slots (lw_Z below #[Value.ref b] s) (F0 m 560 ls []) := by
  obtain ⟨hx, hb, hr, hml, hown, hts, hX, hbl, hlocks, hgv⟩ := id C0
  have hown : s.vm.findClass RL = some m.cls := hown
  have hts : ∀ w ∈ wsL_law, w.before #[Value.ref b] s = true := fun w h => hts w (wsL_law_in w h)
  have hA : ∀ q : Nat, s.heap.size ≤ q → lawA s q := fun _ h => h
  have hbA : ¬ lawA s b := Nat.not_le.mpr hbl
  have hi1 : vp_in (nI i + 1) L := law_in (j := 1) (by omega) hL rfl
  have hi2 : vp_in (nI i + 2) L := law_in (j := 2) (by omega) hL rfl
  have hi3 : vp_in (nI i + 3) L := law_in (j := 3) (by omega) hL rfl
  obtain ⟨r9, σ1, τ1, e1, e2, hR⟩ := hS1 σ τ (xs (nI i + 1).toNatClampNeg) (xs (nI i + 2).toNatClampNeg) (xs (nI i + 3).toNatClampNeg) hR
  refine lv_aload_n hx hb dL_law_560 rfl (lv_at hl 2 rfl) ?_
  refine lv_aload_n hx hb dL_law_561 rfl (lv_at hl 3 rfl) ?_
  refine lv_iload_n hx hb dL_law_562 rfl (lv_at hl 0 rfl) ?_
  refine lv_iconst (v := 1) hx hb dL_law_563 (by decide +kernel) ?_
  refine lv_iadd hx hb dL_law_564 ?_
  refine va_sld hx hb hX hbl hbA hS hi1 dL_law_565 ?_
  refine lv_aload_n hx hb dL_law_566 rfl (lv_at hl 3 rfl) ?_
  refine lv_iload_n hx hb dL_law_567 rfl (lv_at hl 0 rfl) ?_
  refine lv_iconst (v := 2) hx hb dL_law_568 (by decide +kernel) ?_
  refine lv_iadd hx hb dL_law_569 ?_
  refine va_sld hx hb hX hbl hbA hS hi2 dL_law_570 ?_
  refine lv_aload_n hx hb dL_law_571 rfl (lv_at hl 3 rfl) ?_
  refine lv_iload_n hx hb dL_law_572 rfl (lv_at hl 0 rfl) ?_
  refine lv_iconst (v := 3) hx hb dL_law_573 (by decide +kernel) ?_
  refine lv_iadd hx hb dL_law_574 ?_
  refine va_sld hx hb hX hbl hbA hS hi3 dL_law_575 ?_
  refine x_cVi (lawV cI cO aV aM τ) (p_V cI cO aV) (fun σ1 => σ1) [] [.int (xs (nI i + 1).toNatClampNeg), .int (xs (nI i + 2).toNatClampNeg), .int (xs (nI i + 3).toNatClampNeg)] (σ := σ) (σC := σ) (K := fun z s1 => some (z, s1)) (r0 := (r9, σ1)) hx hb hml hl.1 hown hts hK hP (fun σ1 => hD σ1 τ) hS hA rfl (c_X7_way l D cI cO tys ht ht1 aV σ (xs (nI i + 1).toNatClampNeg) (xs (nI i + 2).toNatClampNeg) (xs (nI i + 3).toNatClampNeg)) gL_law_X7_way rfl ⟨rfl, rfl⟩ i_X7_way ⟨Nat.le_of_ble_eq_true rfl, Nat.le_of_ble_eq_true rfl⟩ (law_frV cI cO aV aM σ τ) (g_V_0 cI cO aV σ) rfl rfl (Nat.le_of_ble_eq_true rfl) hcs dL_law_576 (by rw [e1]; rfl) (fun z9 H locs s9 hP hS h => ?_)
  obtain ⟨rfl, rfl⟩ := Prod.mk.inj (Option.some.inj h)
  have hP : va_P D vwCl (lawM cI cO aV aM s9 τ) H := hP
  refine lv_aload_n hx hb dL_law_579 rfl (lv_at hl 1 rfl) ?_
  refine lv_aload_n hx hb dL_law_580 rfl (lv_at hl 3 rfl) ?_
  refine lv_iload_n hx hb dL_law_581 rfl (lv_at hl 0 rfl) ?_
  refine lv_iconst (v := 1) hx hb dL_law_582 (by decide +kernel) ?_
  refine lv_iadd hx hb dL_law_583 ?_
  refine va_sld hx hb hX hbl hbA hS hi1 dL_law_584 ?_
  refine lv_aload_n hx hb dL_law_585 rfl (lv_at hl 3 rfl) ?_
  refine lv_iload_n hx hb dL_law_586 rfl (lv_at hl 0 rfl) ?_
  refine lv_iconst (v := 2) hx hb dL_law_587 (by decide +kernel) ?_
  refine lv_iadd hx hb dL_law_588 ?_
  refine va_sld hx hb hX hbl hbA hS hi2 dL_law_589 ?_
  refine lv_aload_n hx hb dL_law_590 rfl (lv_at hl 3 rfl) ?_
  refine lv_iload_n hx hb dL_law_591 rfl (lv_at hl 0 rfl) ?_
  refine lv_iconst (v := 3) hx hb dL_law_592 (by decide +kernel) ?_
  refine lv_iadd hx hb dL_law_593 ?_
  refine va_sld hx hb hX hbl hbA hS hi3 dL_law_594 ?_
  refine x_cVi (lawM cI cO aV aM s9) (p_M cI aM) (fun σ1 => σ1) [.int z9] [.int (xs (nI i + 1).toNatClampNeg), .int (xs (nI i + 2).toNatClampNeg), .int (xs (nI i + 3).toNatClampNeg)] (σ := τ) (σC := τ) (K := fun z s1 => some (z, s1)) (r0 := (z9, τ1)) hx hb hml hl.1 hown hts hK hP (fun τ1 => hD s9 τ1) hS hA rfl (c_X8_way l D cI tys ht aM τ (xs (nI i + 1).toNatClampNeg) (xs (nI i + 2).toNatClampNeg) (xs (nI i + 3).toNatClampNeg)) gL_law_X8_way rfl ⟨rfl, rfl⟩ i_X8_way ⟨Nat.le_of_ble_eq_true rfl, Nat.le_of_ble_eq_true rfl⟩ (law_frM cI cO aV aM s9 τ) (g_M_0 cI aM τ) rfl rfl (Nat.le_of_ble_eq_true rfl) hcs dL_law_595 (by rw [e2]; rfl) (fun y9 H locs t9 hP hS h => ?_)
  obtain ⟨rfl, rfl⟩ := Prod.mk.inj (Option.some.inj h)
  refine lv_icmp_eq (tgt := 1081) hx hb dL_law_598 (by decide) (fun _ => ?_) (fun c9 => absurd rfl c9)
  exact kk _ _ _ _ _ hR hP hS hl
set_option maxHeartbeats 4000000 in
set_option maxRecDepth 100000 in
theorem law_c13 {p : Program} {e : Env} {s : State} {m : MethodId} {below : List Frame} {meth : Method} {c : Code} {l : Launch} {b L : Nat} {xs : Nat → Int32} {cI cO : ClassId} {D : va_G} {aV aM : Nat → Nat} {cells slots : Nat} {tys : List (ClassId × FieldType)} (hL : L ≤ 2560) (C0 : lw_At p s m meth c b L xs) (ht : tys[0]? = some (cI, .int)) (ht1 : tys[1]? = some (cO, .object "VectorRounds$Holder")) (hK : va_K D vwCl tys s) (hD : ∀ σ τ, va_D (lawA s) (p_V cI cO aV σ ++ p_M cI aM τ)) (hcs : cells ≤ 600000 ∧ slots ≤ 7302250) {Rel : qM → qM → Prop} (hS1 : S_ends Rel) {i : Nat} (hi : i + 5 ≤ L) (kk : ∀ (σ τ : qM) (H : Heap) (locs : List Loc) (ls : Array Slot), Rel σ τ → va_P D vwCl (p_V cI cO aV σ ++ p_M cI aM τ) H → va_S (lawA s) s.heap H locs → lv_has ls 4 [(3, .int (nI i)), (2, .ref (aM 0)), (1, .ref (aV 0)), (0, .ref b)] → W p l e room_1 s m #[Value.ref b] below meth c H locs cells slots (lw_Z below #[Value.ref b] s) (F0 m 1081 ls [])) (σ τ : qM) (H : Heap) (locs : List Loc) (ls : Array Slot) (hR : Rel σ τ) (hP : va_P D vwCl (p_V cI cO aV σ ++ p_M cI aM τ) H) (hS : va_S (lawA s) s.heap H locs) (hl : lv_has ls 4 [(3, .int (nI i)), (2, .ref (aM 0)), (1, .ref (aV 0)), (0, .ref b)]) : W p l e room_1 s m #[Value.ref b] below meth c H locs cells slots (lw_Z below #[Value.ref b] s) (F0 m 603 ls []) := by
  obtain ⟨hx, hb, hr, hml, hown, hts, hX, hbl, hlocks, hgv⟩ := id C0
  have hown : s.vm.findClass RL = some m.cls := hown
  have hts : ∀ w ∈ wsL_law, w.before #[Value.ref b] s = true := fun w h => hts w (wsL_law_in w h)
  have hA : ∀ q : Nat, s.heap.size ≤ q → lawA s q := fun _ h => h
  have hbA : ¬ lawA s b := Nat.not_le.mpr hbl
  have hi1 : vp_in (nI i + 1) L := law_in (j := 1) (by omega) hL rfl
  have hi2 : vp_in (nI i + 2) L := law_in (j := 2) (by omega) hL rfl
  obtain ⟨r9, σ1, τ1, e1, e2, hR⟩ := hS1 σ τ (xs (nI i + 1).toNatClampNeg) (xs (nI i + 2).toNatClampNeg) hR
  refine lv_aload_n hx hb dL_law_603 rfl (lv_at hl 2 rfl) ?_
  refine lv_aload_n hx hb dL_law_604 rfl (lv_at hl 3 rfl) ?_
  refine lv_iload_n hx hb dL_law_605 rfl (lv_at hl 0 rfl) ?_
  refine lv_iconst (v := 1) hx hb dL_law_606 (by decide +kernel) ?_
  refine lv_iadd hx hb dL_law_607 ?_
  refine va_sld hx hb hX hbl hbA hS hi1 dL_law_608 ?_
  refine lv_aload_n hx hb dL_law_609 rfl (lv_at hl 3 rfl) ?_
  refine lv_iload_n hx hb dL_law_610 rfl (lv_at hl 0 rfl) ?_
  refine lv_iconst (v := 2) hx hb dL_law_611 (by decide +kernel) ?_
  refine lv_iadd hx hb dL_law_612 ?_
  refine va_sld hx hb hX hbl hbA hS hi2 dL_law_613 ?_
  refine x_cVi (lawV cI cO aV aM τ) (p_V cI cO aV) (fun σ1 => σ1) [] [.int (xs (nI i + 1).toNatClampNeg), .int (xs (nI i + 2).toNatClampNeg)] (σ := σ) (σC := σ) (K := fun z s1 => some (z, s1)) (r0 := (r9, σ1)) hx hb hml hl.1 hown hts hK hP (fun σ1 => hD σ1 τ) hS hA rfl (c_X7_ends l D cI cO tys ht ht1 aV σ (xs (nI i + 1).toNatClampNeg) (xs (nI i + 2).toNatClampNeg)) gL_law_X7_ends rfl ⟨rfl, rfl⟩ i_X7_ends ⟨Nat.le_of_ble_eq_true rfl, Nat.le_of_ble_eq_true rfl⟩ (law_frV cI cO aV aM σ τ) (g_V_0 cI cO aV σ) rfl rfl (Nat.le_of_ble_eq_true rfl) hcs dL_law_614 (by rw [e1]; rfl) (fun z9 H locs s9 hP hS h => ?_)
  obtain ⟨rfl, rfl⟩ := Prod.mk.inj (Option.some.inj h)
  have hP : va_P D vwCl (lawM cI cO aV aM s9 τ) H := hP
  refine lv_aload_n hx hb dL_law_617 rfl (lv_at hl 1 rfl) ?_
  refine lv_aload_n hx hb dL_law_618 rfl (lv_at hl 3 rfl) ?_
  refine lv_iload_n hx hb dL_law_619 rfl (lv_at hl 0 rfl) ?_
  refine lv_iconst (v := 1) hx hb dL_law_620 (by decide +kernel) ?_
  refine lv_iadd hx hb dL_law_621 ?_
  refine va_sld hx hb hX hbl hbA hS hi1 dL_law_622 ?_
  refine lv_aload_n hx hb dL_law_623 rfl (lv_at hl 3 rfl) ?_
  refine lv_iload_n hx hb dL_law_624 rfl (lv_at hl 0 rfl) ?_
  refine lv_iconst (v := 2) hx hb dL_law_625 (by decide +kernel) ?_
  refine lv_iadd hx hb dL_law_626 ?_
  refine va_sld hx hb hX hbl hbA hS hi2 dL_law_627 ?_
  refine x_cVi (lawM cI cO aV aM s9) (p_M cI aM) (fun σ1 => σ1) [.int z9] [.int (xs (nI i + 1).toNatClampNeg), .int (xs (nI i + 2).toNatClampNeg)] (σ := τ) (σC := τ) (K := fun z s1 => some (z, s1)) (r0 := (z9, τ1)) hx hb hml hl.1 hown hts hK hP (fun τ1 => hD s9 τ1) hS hA rfl (c_X8_ends l D cI tys ht aM τ (xs (nI i + 1).toNatClampNeg) (xs (nI i + 2).toNatClampNeg)) gL_law_X8_ends rfl ⟨rfl, rfl⟩ i_X8_ends ⟨Nat.le_of_ble_eq_true rfl, Nat.le_of_ble_eq_true rfl⟩ (law_frM cI cO aV aM s9 τ) (g_M_0 cI aM τ) rfl rfl (Nat.le_of_ble_eq_true rfl) hcs dL_law_628 (by rw [e2]; rfl) (fun y9 H locs t9 hP hS h => ?_)
  obtain ⟨rfl, rfl⟩ := Prod.mk.inj (Option.some.inj h)
  refine lv_icmp_eq (tgt := 1081) hx hb dL_law_631 (by decide) (fun _ => ?_) (fun c9 => absurd rfl c9)
  exact kk _ _ _ _ _ hR hP hS hl
set_option maxHeartbeats 4000000 in
set_option maxRecDepth 100000 in
theorem law_c14 {p : Program} {e : Env} {s : State} {m : MethodId} {below : List Frame} {meth : Method} {c : Code} {l : Launch} {b L : Nat} {xs : Nat → Int32} {cI cO : ClassId} {D : va_G} {aV aM : Nat → Nat} {cells slots : Nat} {tys : List (ClassId × FieldType)} (hL : L ≤ 2560) (C0 : lw_At p s m meth c b L xs) (ht : tys[0]? = some (cI, .int)) (ht1 : tys[1]? = some (cO, .object "VectorRounds$Holder")) (hK : va_K D vwCl tys s) (hD : ∀ σ τ, va_D (lawA s) (p_V cI cO aV σ ++ p_M cI aM τ)) (hcs : cells ≤ 600000 ∧ slots ≤ 7302250) {Rel : qM → qM → Prop} (hS1 : S_shortest Rel) {i : Nat} (hi : i + 5 ≤ L) (kk : ∀ (σ τ : qM) (H : Heap) (locs : List Loc) (ls : Array Slot), Rel σ τ → va_P D vwCl (p_V cI cO aV σ ++ p_M cI aM τ) H → va_S (lawA s) s.heap H locs → lv_has ls 4 [(3, .int (nI i)), (2, .ref (aM 0)), (1, .ref (aV 0)), (0, .ref b)] → W p l e room_1 s m #[Value.ref b] below meth c H locs cells slots (lw_Z below #[Value.ref b] s) (F0 m 1081 ls [])) (σ τ : qM) (H : Heap) (locs : List Loc) (ls : Array Slot) (hR : Rel σ τ) (hP : va_P D vwCl (p_V cI cO aV σ ++ p_M cI aM τ) H) (hS : va_S (lawA s) s.heap H locs) (hl : lv_has ls 4 [(3, .int (nI i)), (2, .ref (aM 0)), (1, .ref (aV 0)), (0, .ref b)]) : W p l e room_1 s m #[Value.ref b] below meth c H locs cells slots (lw_Z below #[Value.ref b] s) (F0 m 636 ls []) := by
  obtain ⟨hx, hb, hr, hml, hown, hts, hX, hbl, hlocks, hgv⟩ := id C0
  have hown : s.vm.findClass RL = some m.cls := hown
  have hts : ∀ w ∈ wsL_law, w.before #[Value.ref b] s = true := fun w h => hts w (wsL_law_in w h)
  have hA : ∀ q : Nat, s.heap.size ≤ q → lawA s q := fun _ h => h
  have hbA : ¬ lawA s b := Nat.not_le.mpr hbl
  have hi1 : vp_in (nI i + 1) L := law_in (j := 1) (by omega) hL rfl
  have hi2 : vp_in (nI i + 2) L := law_in (j := 2) (by omega) hL rfl
  obtain ⟨r9, σ1, τ1, e1, e2, hR⟩ := hS1 σ τ (xs (nI i + 1).toNatClampNeg) (xs (nI i + 2).toNatClampNeg) hR
  refine lv_aload_n hx hb dL_law_636 rfl (lv_at hl 2 rfl) ?_
  refine lv_aload_n hx hb dL_law_637 rfl (lv_at hl 3 rfl) ?_
  refine lv_iload_n hx hb dL_law_638 rfl (lv_at hl 0 rfl) ?_
  refine lv_iconst (v := 1) hx hb dL_law_639 (by decide +kernel) ?_
  refine lv_iadd hx hb dL_law_640 ?_
  refine va_sld hx hb hX hbl hbA hS hi1 dL_law_641 ?_
  refine lv_aload_n hx hb dL_law_642 rfl (lv_at hl 3 rfl) ?_
  refine lv_iload_n hx hb dL_law_643 rfl (lv_at hl 0 rfl) ?_
  refine lv_iconst (v := 2) hx hb dL_law_644 (by decide +kernel) ?_
  refine lv_iadd hx hb dL_law_645 ?_
  refine va_sld hx hb hX hbl hbA hS hi2 dL_law_646 ?_
  refine x_cVi (lawV cI cO aV aM τ) (p_V cI cO aV) (fun σ1 => σ1) [] [.int (xs (nI i + 1).toNatClampNeg), .int (xs (nI i + 2).toNatClampNeg)] (σ := σ) (σC := σ) (K := fun z s1 => some (z, s1)) (r0 := (r9, σ1)) hx hb hml hl.1 hown hts hK hP (fun σ1 => hD σ1 τ) hS hA rfl (c_X7_shortest l D cI cO tys ht ht1 aV σ (xs (nI i + 1).toNatClampNeg) (xs (nI i + 2).toNatClampNeg)) gL_law_X7_shortest rfl ⟨rfl, rfl⟩ i_X7_shortest ⟨Nat.le_of_ble_eq_true rfl, Nat.le_of_ble_eq_true rfl⟩ (law_frV cI cO aV aM σ τ) (g_V_0 cI cO aV σ) rfl rfl (Nat.le_of_ble_eq_true rfl) hcs dL_law_647 (by rw [e1]; rfl) (fun z9 H locs s9 hP hS h => ?_)
  obtain ⟨rfl, rfl⟩ := Prod.mk.inj (Option.some.inj h)
  have hP : va_P D vwCl (lawM cI cO aV aM s9 τ) H := hP
  refine lv_aload_n hx hb dL_law_650 rfl (lv_at hl 1 rfl) ?_
  refine lv_aload_n hx hb dL_law_651 rfl (lv_at hl 3 rfl) ?_
  refine lv_iload_n hx hb dL_law_652 rfl (lv_at hl 0 rfl) ?_
  refine lv_iconst (v := 1) hx hb dL_law_653 (by decide +kernel) ?_
  refine lv_iadd hx hb dL_law_654 ?_
  refine va_sld hx hb hX hbl hbA hS hi1 dL_law_655 ?_
  refine lv_aload_n hx hb dL_law_656 rfl (lv_at hl 3 rfl) ?_
  refine lv_iload_n hx hb dL_law_657 rfl (lv_at hl 0 rfl) ?_
  refine lv_iconst (v := 2) hx hb dL_law_658 (by decide +kernel) ?_
  refine lv_iadd hx hb dL_law_659 ?_
  refine va_sld hx hb hX hbl hbA hS hi2 dL_law_660 ?_
  refine x_cVi (lawM cI cO aV aM s9) (p_M cI aM) (fun σ1 => σ1) [.int z9] [.int (xs (nI i + 1).toNatClampNeg), .int (xs (nI i + 2).toNatClampNeg)] (σ := τ) (σC := τ) (K := fun z s1 => some (z, s1)) (r0 := (z9, τ1)) hx hb hml hl.1 hown hts hK hP (fun τ1 => hD s9 τ1) hS hA rfl (c_X8_shortest l D cI tys ht aM τ (xs (nI i + 1).toNatClampNeg) (xs (nI i + 2).toNatClampNeg)) gL_law_X8_shortest rfl ⟨rfl, rfl⟩ i_X8_shortest ⟨Nat.le_of_ble_eq_true rfl, Nat.le_of_ble_eq_true rfl⟩ (law_frM cI cO aV aM s9 τ) (g_M_0 cI aM τ) rfl rfl (Nat.le_of_ble_eq_true rfl) hcs dL_law_661 (by rw [e2]; rfl) (fun y9 H locs t9 hP hS h => ?_)
  obtain ⟨rfl, rfl⟩ := Prod.mk.inj (Option.some.inj h)
  refine lv_icmp_eq (tgt := 1081) hx hb dL_law_664 (by decide) (fun _ => ?_) (fun c9 => absurd rfl c9)
  exact kk _ _ _ _ _ hR hP hS hl
set_option maxHeartbeats 4000000 in
set_option maxRecDepth 100000 in
theorem law_c15 {p : Program} {e : Env} {s : State} {m : MethodId} {below : List Frame} {meth : Method} {c : Code} {l : Launch} {b L : Nat} {xs : Nat → Int32} {cI cO : ClassId} {D : va_G} {aV aM : Nat → Nat} {cells slots : Nat} {tys : List (ClassId × FieldType)} (hL : L ≤ 2560) (C0 : lw_At p s m meth c b L xs) (ht : tys[0]? = some (cI, .int)) (ht1 : tys[1]? = some (cO, .object "VectorRounds$Holder")) (hK : va_K D vwCl tys s) (hD : ∀ σ τ, va_D (lawA s) (p_V cI cO aV σ ++ p_M cI aM τ)) (hcs : cells ≤ 600000 ∧ slots ≤ 7302250) {Rel : qM → qM → Prop} (hS1 : S_counts Rel) {i : Nat} (hi : i + 5 ≤ L) (kk : ∀ (σ τ : qM) (H : Heap) (locs : List Loc) (ls : Array Slot), Rel σ τ → va_P D vwCl (p_V cI cO aV σ ++ p_M cI aM τ) H → va_S (lawA s) s.heap H locs → lv_has ls 4 [(3, .int (nI i)), (2, .ref (aM 0)), (1, .ref (aV 0)), (0, .ref b)] → W p l e room_1 s m #[Value.ref b] below meth c H locs cells slots (lw_Z below #[Value.ref b] s) (F0 m 1081 ls [])) (σ τ : qM) (H : Heap) (locs : List Loc) (ls : Array Slot) (hR : Rel σ τ) (hP : va_P D vwCl (p_V cI cO aV σ ++ p_M cI aM τ) H) (hS : va_S (lawA s) s.heap H locs) (hl : lv_has ls 4 [(3, .int (nI i)), (2, .ref (aM 0)), (1, .ref (aV 0)), (0, .ref b)]) : W p l e room_1 s m #[Value.ref b] below meth c H locs cells slots (lw_Z below #[Value.ref b] s) (F0 m 669 ls []) := by
  obtain ⟨hx, hb, hr, hml, hown, hts, hX, hbl, hlocks, hgv⟩ := id C0
  have hown : s.vm.findClass RL = some m.cls := hown
  have hts : ∀ w ∈ wsL_law, w.before #[Value.ref b] s = true := fun w h => hts w (wsL_law_in w h)
  have hA : ∀ q : Nat, s.heap.size ≤ q → lawA s q := fun _ h => h
  have hbA : ¬ lawA s b := Nat.not_le.mpr hbl
  have hi1 : vp_in (nI i + 1) L := law_in (j := 1) (by omega) hL rfl
  have hi2 : vp_in (nI i + 2) L := law_in (j := 2) (by omega) hL rfl
  obtain ⟨r9, σ1, τ1, e1, e2, hR⟩ := hS1 σ τ (xs (nI i + 1).toNatClampNeg) (xs (nI i + 2).toNatClampNeg) hR
  refine lv_aload_n hx hb dL_law_669 rfl (lv_at hl 2 rfl) ?_
  refine lv_aload_n hx hb dL_law_670 rfl (lv_at hl 3 rfl) ?_
  refine lv_iload_n hx hb dL_law_671 rfl (lv_at hl 0 rfl) ?_
  refine lv_iconst (v := 1) hx hb dL_law_672 (by decide +kernel) ?_
  refine lv_iadd hx hb dL_law_673 ?_
  refine va_sld hx hb hX hbl hbA hS hi1 dL_law_674 ?_
  refine lv_aload_n hx hb dL_law_675 rfl (lv_at hl 3 rfl) ?_
  refine lv_iload_n hx hb dL_law_676 rfl (lv_at hl 0 rfl) ?_
  refine lv_iconst (v := 2) hx hb dL_law_677 (by decide +kernel) ?_
  refine lv_iadd hx hb dL_law_678 ?_
  refine va_sld hx hb hX hbl hbA hS hi2 dL_law_679 ?_
  refine x_cVi (lawV cI cO aV aM τ) (p_V cI cO aV) (fun σ1 => σ1) [] [.int (xs (nI i + 1).toNatClampNeg), .int (xs (nI i + 2).toNatClampNeg)] (σ := σ) (σC := σ) (K := fun z s1 => some (z, s1)) (r0 := (r9, σ1)) hx hb hml hl.1 hown hts hK hP (fun σ1 => hD σ1 τ) hS hA rfl (c_X7_counts l D cI cO tys ht ht1 aV σ (xs (nI i + 1).toNatClampNeg) (xs (nI i + 2).toNatClampNeg)) gL_law_X7_counts rfl ⟨rfl, rfl⟩ i_X7_counts ⟨Nat.le_of_ble_eq_true rfl, Nat.le_of_ble_eq_true rfl⟩ (law_frV cI cO aV aM σ τ) (g_V_0 cI cO aV σ) rfl rfl (Nat.le_of_ble_eq_true rfl) hcs dL_law_680 (by rw [e1]; rfl) (fun z9 H locs s9 hP hS h => ?_)
  obtain ⟨rfl, rfl⟩ := Prod.mk.inj (Option.some.inj h)
  have hP : va_P D vwCl (lawM cI cO aV aM s9 τ) H := hP
  refine lv_aload_n hx hb dL_law_683 rfl (lv_at hl 1 rfl) ?_
  refine lv_aload_n hx hb dL_law_684 rfl (lv_at hl 3 rfl) ?_
  refine lv_iload_n hx hb dL_law_685 rfl (lv_at hl 0 rfl) ?_
  refine lv_iconst (v := 1) hx hb dL_law_686 (by decide +kernel) ?_
  refine lv_iadd hx hb dL_law_687 ?_
  refine va_sld hx hb hX hbl hbA hS hi1 dL_law_688 ?_
  refine lv_aload_n hx hb dL_law_689 rfl (lv_at hl 3 rfl) ?_
  refine lv_iload_n hx hb dL_law_690 rfl (lv_at hl 0 rfl) ?_
  refine lv_iconst (v := 2) hx hb dL_law_691 (by decide +kernel) ?_
  refine lv_iadd hx hb dL_law_692 ?_
  refine va_sld hx hb hX hbl hbA hS hi2 dL_law_693 ?_
  refine x_cVi (lawM cI cO aV aM s9) (p_M cI aM) (fun σ1 => σ1) [.int z9] [.int (xs (nI i + 1).toNatClampNeg), .int (xs (nI i + 2).toNatClampNeg)] (σ := τ) (σC := τ) (K := fun z s1 => some (z, s1)) (r0 := (z9, τ1)) hx hb hml hl.1 hown hts hK hP (fun τ1 => hD s9 τ1) hS hA rfl (c_X8_counts l D cI tys ht aM τ (xs (nI i + 1).toNatClampNeg) (xs (nI i + 2).toNatClampNeg)) gL_law_X8_counts rfl ⟨rfl, rfl⟩ i_X8_counts ⟨Nat.le_of_ble_eq_true rfl, Nat.le_of_ble_eq_true rfl⟩ (law_frM cI cO aV aM s9 τ) (g_M_0 cI aM τ) rfl rfl (Nat.le_of_ble_eq_true rfl) hcs dL_law_694 (by rw [e2]; rfl) (fun y9 H locs t9 hP hS h => ?_)
  obtain ⟨rfl, rfl⟩ := Prod.mk.inj (Option.some.inj h)
  refine lv_icmp_eq (tgt := 1081) hx hb dL_law_697 (by decide) (fun _ => ?_) (fun c9 => absurd rfl c9)
  exact kk _ _ _ _ _ hR hP hS hl
set_option maxHeartbeats 4000000 in
set_option maxRecDepth 100000 in
theorem law_c16 {p : Program} {e : Env} {s : State} {m : MethodId} {below : List Frame} {meth : Method} {c : Code} {l : Launch} {b L : Nat} {xs : Nat → Int32} {cI cO : ClassId} {D : va_G} {aV aM : Nat → Nat} {cells slots : Nat} {tys : List (ClassId × FieldType)} (hL : L ≤ 2560) (C0 : lw_At p s m meth c b L xs) (ht : tys[0]? = some (cI, .int)) (ht1 : tys[1]? = some (cO, .object "VectorRounds$Holder")) (hK : va_K D vwCl tys s) (hD : ∀ σ τ, va_D (lawA s) (p_V cI cO aV σ ++ p_M cI aM τ)) (hcs : cells ≤ 600000 ∧ slots ≤ 7302250) {Rel : qM → qM → Prop} (hS1 : S_packet Rel) {i : Nat} (hi : i + 5 ≤ L) (kk : ∀ (σ τ : qM) (H : Heap) (locs : List Loc) (ls : Array Slot), Rel σ τ → va_P D vwCl (p_V cI cO aV σ ++ p_M cI aM τ) H → va_S (lawA s) s.heap H locs → lv_has ls 4 [(3, .int (nI i)), (2, .ref (aM 0)), (1, .ref (aV 0)), (0, .ref b)] → W p l e room_1 s m #[Value.ref b] below meth c H locs cells slots (lw_Z below #[Value.ref b] s) (F0 m 1081 ls [])) (σ τ : qM) (H : Heap) (locs : List Loc) (ls : Array Slot) (hR : Rel σ τ) (hP : va_P D vwCl (p_V cI cO aV σ ++ p_M cI aM τ) H) (hS : va_S (lawA s) s.heap H locs) (hl : lv_has ls 4 [(3, .int (nI i)), (2, .ref (aM 0)), (1, .ref (aV 0)), (0, .ref b)]) : W p l e room_1 s m #[Value.ref b] below meth c H locs cells slots (lw_Z below #[Value.ref b] s) (F0 m 702 ls []) := by
  obtain ⟨hx, hb, hr, hml, hown, hts, hX, hbl, hlocks, hgv⟩ := id C0
  have hown : s.vm.findClass RL = some m.cls := hown
  have hts : ∀ w ∈ wsL_law, w.before #[Value.ref b] s = true := fun w h => hts w (wsL_law_in w h)
  have hA : ∀ q : Nat, s.heap.size ≤ q → lawA s q := fun _ h => h
  have hbA : ¬ lawA s b := Nat.not_le.mpr hbl
  have hi1 : vp_in (nI i + 1) L := law_in (j := 1) (by omega) hL rfl
  have hi2 : vp_in (nI i + 2) L := law_in (j := 2) (by omega) hL rfl
  have hi3 : vp_in (nI i + 3) L := law_in (j := 3) (by omega) hL rfl
  have hi4 : vp_in (nI i + 4) L := law_in (j := 4) (by omega) hL rfl
  obtain ⟨r9, σ1, τ1, e1, e2, hR⟩ := hS1 σ τ (xs (nI i + 1).toNatClampNeg) (xs (nI i + 2).toNatClampNeg) (xs (nI i + 3).toNatClampNeg) (xs (nI i + 4).toNatClampNeg) hR
  refine lv_aload_n hx hb dL_law_702 rfl (lv_at hl 2 rfl) ?_
  refine lv_aload_n hx hb dL_law_703 rfl (lv_at hl 3 rfl) ?_
  refine lv_iload_n hx hb dL_law_704 rfl (lv_at hl 0 rfl) ?_
  refine lv_iconst (v := 1) hx hb dL_law_705 (by decide +kernel) ?_
  refine lv_iadd hx hb dL_law_706 ?_
  refine va_sld hx hb hX hbl hbA hS hi1 dL_law_707 ?_
  refine lv_aload_n hx hb dL_law_708 rfl (lv_at hl 3 rfl) ?_
  refine lv_iload_n hx hb dL_law_709 rfl (lv_at hl 0 rfl) ?_
  refine lv_iconst (v := 2) hx hb dL_law_710 (by decide +kernel) ?_
  refine lv_iadd hx hb dL_law_711 ?_
  refine va_sld hx hb hX hbl hbA hS hi2 dL_law_712 ?_
  refine lv_aload_n hx hb dL_law_713 rfl (lv_at hl 3 rfl) ?_
  refine lv_iload_n hx hb dL_law_714 rfl (lv_at hl 0 rfl) ?_
  refine lv_iconst (v := 3) hx hb dL_law_715 (by decide +kernel) ?_
  refine lv_iadd hx hb dL_law_716 ?_
  refine va_sld hx hb hX hbl hbA hS hi3 dL_law_717 ?_
  refine lv_aload_n hx hb dL_law_718 rfl (lv_at hl 3 rfl) ?_
  refine lv_iload_n hx hb dL_law_719 rfl (lv_at hl 0 rfl) ?_
  refine lv_iconst (v := 4) hx hb dL_law_720 (by decide +kernel) ?_
  refine lv_iadd hx hb dL_law_721 ?_
  refine va_sld hx hb hX hbl hbA hS hi4 dL_law_722 ?_
  refine x_cVi (lawV cI cO aV aM τ) (p_V cI cO aV) (fun σ1 => σ1) [] [.int (xs (nI i + 1).toNatClampNeg), .int (xs (nI i + 2).toNatClampNeg), .int (xs (nI i + 3).toNatClampNeg), .int (xs (nI i + 4).toNatClampNeg)] (σ := σ) (σC := σ) (K := fun z s1 => some (z, s1)) (r0 := (r9, σ1)) hx hb hml hl.1 hown hts hK hP (fun σ1 => hD σ1 τ) hS hA rfl (c_X7_packet l D cI cO tys ht ht1 aV σ (xs (nI i + 1).toNatClampNeg) (xs (nI i + 2).toNatClampNeg) (xs (nI i + 3).toNatClampNeg) (xs (nI i + 4).toNatClampNeg)) gL_law_X7_packet rfl ⟨rfl, rfl⟩ i_X7_packet ⟨Nat.le_of_ble_eq_true rfl, Nat.le_of_ble_eq_true rfl⟩ (law_frV cI cO aV aM σ τ) (g_V_0 cI cO aV σ) rfl rfl (Nat.le_of_ble_eq_true rfl) hcs dL_law_723 (by rw [e1]; rfl) (fun z9 H locs s9 hP hS h => ?_)
  obtain ⟨rfl, rfl⟩ := Prod.mk.inj (Option.some.inj h)
  have hP : va_P D vwCl (lawM cI cO aV aM s9 τ) H := hP
  refine lv_aload_n hx hb dL_law_726 rfl (lv_at hl 1 rfl) ?_
  refine lv_aload_n hx hb dL_law_727 rfl (lv_at hl 3 rfl) ?_
  refine lv_iload_n hx hb dL_law_728 rfl (lv_at hl 0 rfl) ?_
  refine lv_iconst (v := 1) hx hb dL_law_729 (by decide +kernel) ?_
  refine lv_iadd hx hb dL_law_730 ?_
  refine va_sld hx hb hX hbl hbA hS hi1 dL_law_731 ?_
  refine lv_aload_n hx hb dL_law_732 rfl (lv_at hl 3 rfl) ?_
  refine lv_iload_n hx hb dL_law_733 rfl (lv_at hl 0 rfl) ?_
  refine lv_iconst (v := 2) hx hb dL_law_734 (by decide +kernel) ?_
  refine lv_iadd hx hb dL_law_735 ?_
  refine va_sld hx hb hX hbl hbA hS hi2 dL_law_736 ?_
  refine lv_aload_n hx hb dL_law_737 rfl (lv_at hl 3 rfl) ?_
  refine lv_iload_n hx hb dL_law_738 rfl (lv_at hl 0 rfl) ?_
  refine lv_iconst (v := 3) hx hb dL_law_739 (by decide +kernel) ?_
  refine lv_iadd hx hb dL_law_740 ?_
  refine va_sld hx hb hX hbl hbA hS hi3 dL_law_741 ?_
  refine lv_aload_n hx hb dL_law_742 rfl (lv_at hl 3 rfl) ?_
  refine lv_iload_n hx hb dL_law_743 rfl (lv_at hl 0 rfl) ?_
  refine lv_iconst (v := 4) hx hb dL_law_744 (by decide +kernel) ?_
  refine lv_iadd hx hb dL_law_745 ?_
  refine va_sld hx hb hX hbl hbA hS hi4 dL_law_746 ?_
  refine x_cVi (lawM cI cO aV aM s9) (p_M cI aM) (fun σ1 => σ1) [.int z9] [.int (xs (nI i + 1).toNatClampNeg), .int (xs (nI i + 2).toNatClampNeg), .int (xs (nI i + 3).toNatClampNeg), .int (xs (nI i + 4).toNatClampNeg)] (σ := τ) (σC := τ) (K := fun z s1 => some (z, s1)) (r0 := (z9, τ1)) hx hb hml hl.1 hown hts hK hP (fun τ1 => hD s9 τ1) hS hA rfl (c_X8_packet l D cI tys ht aM τ (xs (nI i + 1).toNatClampNeg) (xs (nI i + 2).toNatClampNeg) (xs (nI i + 3).toNatClampNeg) (xs (nI i + 4).toNatClampNeg)) gL_law_X8_packet rfl ⟨rfl, rfl⟩ i_X8_packet ⟨Nat.le_of_ble_eq_true rfl, Nat.le_of_ble_eq_true rfl⟩ (law_frM cI cO aV aM s9 τ) (g_M_0 cI aM τ) rfl rfl (Nat.le_of_ble_eq_true rfl) hcs dL_law_747 (by rw [e2]; rfl) (fun y9 H locs t9 hP hS h => ?_)
  obtain ⟨rfl, rfl⟩ := Prod.mk.inj (Option.some.inj h)
  refine lv_icmp_eq (tgt := 1081) hx hb dL_law_750 (by decide) (fun _ => ?_) (fun c9 => absurd rfl c9)
  exact kk _ _ _ _ _ hR hP hS hl
set_option maxHeartbeats 4000000 in
set_option maxRecDepth 100000 in
theorem law_c17 {p : Program} {e : Env} {s : State} {m : MethodId} {below : List Frame} {meth : Method} {c : Code} {l : Launch} {b L : Nat} {xs : Nat → Int32} {cI cO : ClassId} {D : va_G} {aV aM : Nat → Nat} {cells slots : Nat} {tys : List (ClassId × FieldType)} (hL : L ≤ 2560) (C0 : lw_At p s m meth c b L xs) (ht : tys[0]? = some (cI, .int)) (ht1 : tys[1]? = some (cO, .object "VectorRounds$Holder")) (hK : va_K D vwCl tys s) (hD : ∀ σ τ, va_D (lawA s) (p_V cI cO aV σ ++ p_M cI aM τ)) (hcs : cells ≤ 600000 ∧ slots ≤ 7302250) {Rel : qM → qM → Prop} (hS1 : S_tried Rel) {i : Nat} (hi : i + 5 ≤ L) (kk : ∀ (σ τ : qM) (H : Heap) (locs : List Loc) (ls : Array Slot), Rel σ τ → va_P D vwCl (p_V cI cO aV σ ++ p_M cI aM τ) H → va_S (lawA s) s.heap H locs → lv_has ls 4 [(3, .int (nI i)), (2, .ref (aM 0)), (1, .ref (aV 0)), (0, .ref b)] → W p l e room_1 s m #[Value.ref b] below meth c H locs cells slots (lw_Z below #[Value.ref b] s) (F0 m 1081 ls [])) (σ τ : qM) (H : Heap) (locs : List Loc) (ls : Array Slot) (hR : Rel σ τ) (hP : va_P D vwCl (p_V cI cO aV σ ++ p_M cI aM τ) H) (hS : va_S (lawA s) s.heap H locs) (hl : lv_has ls 4 [(3, .int (nI i)), (2, .ref (aM 0)), (1, .ref (aV 0)), (0, .ref b)]) : W p l e room_1 s m #[Value.ref b] below meth c H locs cells slots (lw_Z below #[Value.ref b] s) (F0 m 755 ls []) := by
  obtain ⟨hx, hb, hr, hml, hown, hts, hX, hbl, hlocks, hgv⟩ := id C0
  have hown : s.vm.findClass RL = some m.cls := hown
  have hts : ∀ w ∈ wsL_law, w.before #[Value.ref b] s = true := fun w h => hts w (wsL_law_in w h)
  have hA : ∀ q : Nat, s.heap.size ≤ q → lawA s q := fun _ h => h
  have hbA : ¬ lawA s b := Nat.not_le.mpr hbl
  have hi1 : vp_in (nI i + 1) L := law_in (j := 1) (by omega) hL rfl
  obtain ⟨r9, σ1, τ1, e1, e2, hR⟩ := hS1 σ τ (xs (nI i + 1).toNatClampNeg) hR
  refine lv_aload_n hx hb dL_law_755 rfl (lv_at hl 2 rfl) ?_
  refine lv_aload_n hx hb dL_law_756 rfl (lv_at hl 3 rfl) ?_
  refine lv_iload_n hx hb dL_law_757 rfl (lv_at hl 0 rfl) ?_
  refine lv_iconst (v := 1) hx hb dL_law_758 (by decide +kernel) ?_
  refine lv_iadd hx hb dL_law_759 ?_
  refine va_sld hx hb hX hbl hbA hS hi1 dL_law_760 ?_
  refine x_cVi (lawV cI cO aV aM τ) (p_V cI cO aV) (fun σ1 => σ1) [] [.int (xs (nI i + 1).toNatClampNeg)] (σ := σ) (σC := σ) (K := fun z s1 => some (z, s1)) (r0 := (r9, σ1)) hx hb hml hl.1 hown hts hK hP (fun σ1 => hD σ1 τ) hS hA rfl (c_X7_tried l D cI cO tys ht ht1 aV σ (xs (nI i + 1).toNatClampNeg)) gL_law_X7_tried rfl ⟨rfl, rfl⟩ i_X7_tried ⟨Nat.le_of_ble_eq_true rfl, Nat.le_of_ble_eq_true rfl⟩ (law_frV cI cO aV aM σ τ) (g_V_0 cI cO aV σ) rfl rfl (Nat.le_of_ble_eq_true rfl) hcs dL_law_761 (by rw [e1]; rfl) (fun z9 H locs s9 hP hS h => ?_)
  obtain ⟨rfl, rfl⟩ := Prod.mk.inj (Option.some.inj h)
  have hP : va_P D vwCl (lawM cI cO aV aM s9 τ) H := hP
  refine lv_aload_n hx hb dL_law_764 rfl (lv_at hl 1 rfl) ?_
  refine lv_aload_n hx hb dL_law_765 rfl (lv_at hl 3 rfl) ?_
  refine lv_iload_n hx hb dL_law_766 rfl (lv_at hl 0 rfl) ?_
  refine lv_iconst (v := 1) hx hb dL_law_767 (by decide +kernel) ?_
  refine lv_iadd hx hb dL_law_768 ?_
  refine va_sld hx hb hX hbl hbA hS hi1 dL_law_769 ?_
  refine x_cVi (lawM cI cO aV aM s9) (p_M cI aM) (fun σ1 => σ1) [.int z9] [.int (xs (nI i + 1).toNatClampNeg)] (σ := τ) (σC := τ) (K := fun z s1 => some (z, s1)) (r0 := (z9, τ1)) hx hb hml hl.1 hown hts hK hP (fun τ1 => hD s9 τ1) hS hA rfl (c_X8_tried l D cI tys ht aM τ (xs (nI i + 1).toNatClampNeg)) gL_law_X8_tried rfl ⟨rfl, rfl⟩ i_X8_tried ⟨Nat.le_of_ble_eq_true rfl, Nat.le_of_ble_eq_true rfl⟩ (law_frM cI cO aV aM s9 τ) (g_M_0 cI aM τ) rfl rfl (Nat.le_of_ble_eq_true rfl) hcs dL_law_770 (by rw [e2]; rfl) (fun y9 H locs t9 hP hS h => ?_)
  obtain ⟨rfl, rfl⟩ := Prod.mk.inj (Option.some.inj h)
  refine lv_icmp_eq (tgt := 1081) hx hb dL_law_773 (by decide) (fun _ => ?_) (fun c9 => absurd rfl c9)
  exact kk _ _ _ _ _ hR hP hS hl
set_option maxHeartbeats 4000000 in
set_option maxRecDepth 100000 in
theorem law_c18 {p : Program} {e : Env} {s : State} {m : MethodId} {below : List Frame} {meth : Method} {c : Code} {l : Launch} {b L : Nat} {xs : Nat → Int32} {cI cO : ClassId} {D : va_G} {aV aM : Nat → Nat} {cells slots : Nat} {tys : List (ClassId × FieldType)} (hL : L ≤ 2560) (C0 : lw_At p s m meth c b L xs) (ht : tys[0]? = some (cI, .int)) (ht1 : tys[1]? = some (cO, .object "VectorRounds$Holder")) (hK : va_K D vwCl tys s) (hD : ∀ σ τ, va_D (lawA s) (p_V cI cO aV σ ++ p_M cI aM τ)) (hcs : cells ≤ 600000 ∧ slots ≤ 7302250) {Rel : qM → qM → Prop} (hS1 : S_judge Rel) {i : Nat} (hi : i + 5 ≤ L) (kk : ∀ (σ τ : qM) (H : Heap) (locs : List Loc) (ls : Array Slot), Rel σ τ → va_P D vwCl (p_V cI cO aV σ ++ p_M cI aM τ) H → va_S (lawA s) s.heap H locs → lv_has ls 4 [(3, .int (nI i)), (2, .ref (aM 0)), (1, .ref (aV 0)), (0, .ref b)] → W p l e room_1 s m #[Value.ref b] below meth c H locs cells slots (lw_Z below #[Value.ref b] s) (F0 m 1081 ls [])) (σ τ : qM) (H : Heap) (locs : List Loc) (ls : Array Slot) (hR : Rel σ τ) (hP : va_P D vwCl (p_V cI cO aV σ ++ p_M cI aM τ) H) (hS : va_S (lawA s) s.heap H locs) (hl : lv_has ls 4 [(3, .int (nI i)), (2, .ref (aM 0)), (1, .ref (aV 0)), (0, .ref b)]) : W p l e room_1 s m #[Value.ref b] below meth c H locs cells slots (lw_Z below #[Value.ref b] s) (F0 m 778 ls []) := by
  obtain ⟨hx, hb, hr, hml, hown, hts, hX, hbl, hlocks, hgv⟩ := id C0
  have hown : s.vm.findClass RL = some m.cls := hown
  have hts : ∀ w ∈ wsL_law, w.before #[Value.ref b] s = true := fun w h => hts w (wsL_law_in w h)
  have hA : ∀ q : Nat, s.heap.size ≤ q → lawA s q := fun _ h => h
  have hbA : ¬ lawA s b := Nat.not_le.mpr hbl
  have hi1 : vp_in (nI i + 1) L := law_in (j := 1) (by omega) hL rfl
  have hi2 : vp_in (nI i + 2) L := law_in (j := 2) (by omega) hL rfl
  obtain ⟨r9, σ1, τ1, e1, e2, hR⟩ := hS1 σ τ (xs (nI i + 1).toNatClampNeg) (xs (nI i + 2).toNatClampNeg) hR
  refine lv_aload_n hx hb dL_law_778 rfl (lv_at hl 2 rfl) ?_
  refine lv_aload_n hx hb dL_law_779 rfl (lv_at hl 3 rfl) ?_
  refine lv_iload_n hx hb dL_law_780 rfl (lv_at hl 0 rfl) ?_
  refine lv_iconst (v := 1) hx hb dL_law_781 (by decide +kernel) ?_
  refine lv_iadd hx hb dL_law_782 ?_
  refine va_sld hx hb hX hbl hbA hS hi1 dL_law_783 ?_
  refine lv_aload_n hx hb dL_law_784 rfl (lv_at hl 3 rfl) ?_
  refine lv_iload_n hx hb dL_law_785 rfl (lv_at hl 0 rfl) ?_
  refine lv_iconst (v := 2) hx hb dL_law_786 (by decide +kernel) ?_
  refine lv_iadd hx hb dL_law_787 ?_
  refine va_sld hx hb hX hbl hbA hS hi2 dL_law_788 ?_
  refine x_cVi (lawV cI cO aV aM τ) (p_V cI cO aV) (fun σ1 => σ1) [] [.int (xs (nI i + 1).toNatClampNeg), .int (xs (nI i + 2).toNatClampNeg)] (σ := σ) (σC := σ) (K := fun z s1 => some (z, s1)) (r0 := (r9, σ1)) hx hb hml hl.1 hown hts hK hP (fun σ1 => hD σ1 τ) hS hA rfl (c_X7_judge l D cI cO tys ht ht1 aV σ (xs (nI i + 1).toNatClampNeg) (xs (nI i + 2).toNatClampNeg)) gL_law_X7_judge rfl ⟨rfl, rfl⟩ i_X7_judge ⟨Nat.le_of_ble_eq_true rfl, Nat.le_of_ble_eq_true rfl⟩ (law_frV cI cO aV aM σ τ) (g_V_0 cI cO aV σ) rfl rfl (Nat.le_of_ble_eq_true rfl) hcs dL_law_789 (by rw [e1]; rfl) (fun z9 H locs s9 hP hS h => ?_)
  obtain ⟨rfl, rfl⟩ := Prod.mk.inj (Option.some.inj h)
  have hP : va_P D vwCl (lawM cI cO aV aM s9 τ) H := hP
  refine lv_aload_n hx hb dL_law_792 rfl (lv_at hl 1 rfl) ?_
  refine lv_aload_n hx hb dL_law_793 rfl (lv_at hl 3 rfl) ?_
  refine lv_iload_n hx hb dL_law_794 rfl (lv_at hl 0 rfl) ?_
  refine lv_iconst (v := 1) hx hb dL_law_795 (by decide +kernel) ?_
  refine lv_iadd hx hb dL_law_796 ?_
  refine va_sld hx hb hX hbl hbA hS hi1 dL_law_797 ?_
  refine lv_aload_n hx hb dL_law_798 rfl (lv_at hl 3 rfl) ?_
  refine lv_iload_n hx hb dL_law_799 rfl (lv_at hl 0 rfl) ?_
  refine lv_iconst (v := 2) hx hb dL_law_800 (by decide +kernel) ?_
  refine lv_iadd hx hb dL_law_801 ?_
  refine va_sld hx hb hX hbl hbA hS hi2 dL_law_802 ?_
  refine x_cVi (lawM cI cO aV aM s9) (p_M cI aM) (fun σ1 => σ1) [.int z9] [.int (xs (nI i + 1).toNatClampNeg), .int (xs (nI i + 2).toNatClampNeg)] (σ := τ) (σC := τ) (K := fun z s1 => some (z, s1)) (r0 := (z9, τ1)) hx hb hml hl.1 hown hts hK hP (fun τ1 => hD s9 τ1) hS hA rfl (c_X8_judge l D cI tys ht aM τ (xs (nI i + 1).toNatClampNeg) (xs (nI i + 2).toNatClampNeg)) gL_law_X8_judge rfl ⟨rfl, rfl⟩ i_X8_judge ⟨Nat.le_of_ble_eq_true rfl, Nat.le_of_ble_eq_true rfl⟩ (law_frM cI cO aV aM s9 τ) (g_M_0 cI aM τ) rfl rfl (Nat.le_of_ble_eq_true rfl) hcs dL_law_803 (by rw [e2]; rfl) (fun y9 H locs t9 hP hS h => ?_)
  obtain ⟨rfl, rfl⟩ := Prod.mk.inj (Option.some.inj h)
  refine lv_icmp_eq (tgt := 1081) hx hb dL_law_806 (by decide) (fun _ => ?_) (fun c9 => absurd rfl c9)
  exact kk _ _ _ _ _ hR hP hS hl
set_option maxHeartbeats 4000000 in
set_option maxRecDepth 100000 in
theorem law_c19 {p : Program} {e : Env} {s : State} {m : MethodId} {below : List Frame} {meth : Method} {c : Code} {l : Launch} {b L : Nat} {xs : Nat → Int32} {cI cO : ClassId} {D : va_G} {aV aM : Nat → Nat} {cells slots : Nat} {tys : List (ClassId × FieldType)} (hL : L ≤ 2560) (C0 : lw_At p s m meth c b L xs) (ht : tys[0]? = some (cI, .int)) (ht1 : tys[1]? = some (cO, .object "VectorRounds$Holder")) (hK : va_K D vwCl tys s) (hD : ∀ σ τ, va_D (lawA s) (p_V cI cO aV σ ++ p_M cI aM τ)) (hcs : cells ≤ 600000 ∧ slots ≤ 7302250) {Rel : qM → qM → Prop} (hS1 : S_drawn Rel) {i : Nat} (hi : i + 5 ≤ L) (kk : ∀ (σ τ : qM) (H : Heap) (locs : List Loc) (ls : Array Slot), Rel σ τ → va_P D vwCl (p_V cI cO aV σ ++ p_M cI aM τ) H → va_S (lawA s) s.heap H locs → lv_has ls 4 [(3, .int (nI i)), (2, .ref (aM 0)), (1, .ref (aV 0)), (0, .ref b)] → W p l e room_1 s m #[Value.ref b] below meth c H locs cells slots (lw_Z below #[Value.ref b] s) (F0 m 1081 ls [])) (σ τ : qM) (H : Heap) (locs : List Loc) (ls : Array Slot) (hR : Rel σ τ) (hP : va_P D vwCl (p_V cI cO aV σ ++ p_M cI aM τ) H) (hS : va_S (lawA s) s.heap H locs) (hl : lv_has ls 4 [(3, .int (nI i)), (2, .ref (aM 0)), (1, .ref (aV 0)), (0, .ref b)]) : W p l e room_1 s m #[Value.ref b] below meth c H locs cells slots (lw_Z below #[Value.ref b] s) (F0 m 811 ls []) := by
  obtain ⟨hx, hb, hr, hml, hown, hts, hX, hbl, hlocks, hgv⟩ := id C0
  have hown : s.vm.findClass RL = some m.cls := hown
  have hts : ∀ w ∈ wsL_law, w.before #[Value.ref b] s = true := fun w h => hts w (wsL_law_in w h)
  have hA : ∀ q : Nat, s.heap.size ≤ q → lawA s q := fun _ h => h
  have hbA : ¬ lawA s b := Nat.not_le.mpr hbl
  have hi1 : vp_in (nI i + 1) L := law_in (j := 1) (by omega) hL rfl
  have hi2 : vp_in (nI i + 2) L := law_in (j := 2) (by omega) hL rfl
  obtain ⟨r9, σ1, τ1, e1, e2, hR⟩ := hS1 σ τ (xs (nI i + 1).toNatClampNeg) (xs (nI i + 2).toNatClampNeg) hR
  refine lv_aload_n hx hb dL_law_811 rfl (lv_at hl 2 rfl) ?_
  refine lv_aload_n hx hb dL_law_812 rfl (lv_at hl 3 rfl) ?_
  refine lv_iload_n hx hb dL_law_813 rfl (lv_at hl 0 rfl) ?_
  refine lv_iconst (v := 1) hx hb dL_law_814 (by decide +kernel) ?_
  refine lv_iadd hx hb dL_law_815 ?_
  refine va_sld hx hb hX hbl hbA hS hi1 dL_law_816 ?_
  refine lv_aload_n hx hb dL_law_817 rfl (lv_at hl 3 rfl) ?_
  refine lv_iload_n hx hb dL_law_818 rfl (lv_at hl 0 rfl) ?_
  refine lv_iconst (v := 2) hx hb dL_law_819 (by decide +kernel) ?_
  refine lv_iadd hx hb dL_law_820 ?_
  refine va_sld hx hb hX hbl hbA hS hi2 dL_law_821 ?_
  refine x_cVi (lawV cI cO aV aM τ) (p_V cI cO aV) (fun σ1 => σ1) [] [.int (xs (nI i + 1).toNatClampNeg), .int (xs (nI i + 2).toNatClampNeg)] (σ := σ) (σC := σ) (K := fun z s1 => some (z, s1)) (r0 := (r9, σ1)) hx hb hml hl.1 hown hts hK hP (fun σ1 => hD σ1 τ) hS hA rfl (c_X7_drawn l D cI cO tys ht ht1 aV σ (xs (nI i + 1).toNatClampNeg) (xs (nI i + 2).toNatClampNeg)) gL_law_X7_drawn rfl ⟨rfl, rfl⟩ i_X7_drawn ⟨Nat.le_of_ble_eq_true rfl, Nat.le_of_ble_eq_true rfl⟩ (law_frV cI cO aV aM σ τ) (g_V_0 cI cO aV σ) rfl rfl (Nat.le_of_ble_eq_true rfl) hcs dL_law_822 (by rw [e1]; rfl) (fun z9 H locs s9 hP hS h => ?_)
  obtain ⟨rfl, rfl⟩ := Prod.mk.inj (Option.some.inj h)
  have hP : va_P D vwCl (lawM cI cO aV aM s9 τ) H := hP
  refine lv_aload_n hx hb dL_law_825 rfl (lv_at hl 1 rfl) ?_
  refine lv_aload_n hx hb dL_law_826 rfl (lv_at hl 3 rfl) ?_
  refine lv_iload_n hx hb dL_law_827 rfl (lv_at hl 0 rfl) ?_
  refine lv_iconst (v := 1) hx hb dL_law_828 (by decide +kernel) ?_
  refine lv_iadd hx hb dL_law_829 ?_
  refine va_sld hx hb hX hbl hbA hS hi1 dL_law_830 ?_
  refine lv_aload_n hx hb dL_law_831 rfl (lv_at hl 3 rfl) ?_
  refine lv_iload_n hx hb dL_law_832 rfl (lv_at hl 0 rfl) ?_
  refine lv_iconst (v := 2) hx hb dL_law_833 (by decide +kernel) ?_
  refine lv_iadd hx hb dL_law_834 ?_
  refine va_sld hx hb hX hbl hbA hS hi2 dL_law_835 ?_
  refine x_cVi (lawM cI cO aV aM s9) (p_M cI aM) (fun σ1 => σ1) [.int z9] [.int (xs (nI i + 1).toNatClampNeg), .int (xs (nI i + 2).toNatClampNeg)] (σ := τ) (σC := τ) (K := fun z s1 => some (z, s1)) (r0 := (z9, τ1)) hx hb hml hl.1 hown hts hK hP (fun τ1 => hD s9 τ1) hS hA rfl (c_X8_drawn l D cI tys ht aM τ (xs (nI i + 1).toNatClampNeg) (xs (nI i + 2).toNatClampNeg)) gL_law_X8_drawn rfl ⟨rfl, rfl⟩ i_X8_drawn ⟨Nat.le_of_ble_eq_true rfl, Nat.le_of_ble_eq_true rfl⟩ (law_frM cI cO aV aM s9 τ) (g_M_0 cI aM τ) rfl rfl (Nat.le_of_ble_eq_true rfl) hcs dL_law_836 (by rw [e2]; rfl) (fun y9 H locs t9 hP hS h => ?_)
  obtain ⟨rfl, rfl⟩ := Prod.mk.inj (Option.some.inj h)
  refine lv_icmp_eq (tgt := 1081) hx hb dL_law_839 (by decide) (fun _ => ?_) (fun c9 => absurd rfl c9)
  exact kk _ _ _ _ _ hR hP hS hl
set_option maxHeartbeats 4000000 in
set_option maxRecDepth 100000 in
theorem law_c20 {p : Program} {e : Env} {s : State} {m : MethodId} {below : List Frame} {meth : Method} {c : Code} {l : Launch} {b L : Nat} {xs : Nat → Int32} {cI cO : ClassId} {D : va_G} {aV aM : Nat → Nat} {cells slots : Nat} {tys : List (ClassId × FieldType)} (hL : L ≤ 2560) (C0 : lw_At p s m meth c b L xs) (ht : tys[0]? = some (cI, .int)) (ht1 : tys[1]? = some (cO, .object "VectorRounds$Holder")) (hK : va_K D vwCl tys s) (hD : ∀ σ τ, va_D (lawA s) (p_V cI cO aV σ ++ p_M cI aM τ)) (hcs : cells ≤ 600000 ∧ slots ≤ 7302250) {Rel : qM → qM → Prop} (hS1 : S_feed Rel) {i : Nat} (hi : i + 5 ≤ L) (kk : ∀ (σ τ : qM) (H : Heap) (locs : List Loc) (ls : Array Slot), Rel σ τ → va_P D vwCl (p_V cI cO aV σ ++ p_M cI aM τ) H → va_S (lawA s) s.heap H locs → lv_has ls 4 [(3, .int (nI i)), (2, .ref (aM 0)), (1, .ref (aV 0)), (0, .ref b)] → W p l e room_1 s m #[Value.ref b] below meth c H locs cells slots (lw_Z below #[Value.ref b] s) (F0 m 1081 ls [])) (σ τ : qM) (H : Heap) (locs : List Loc) (ls : Array Slot) (hR : Rel σ τ) (hP : va_P D vwCl (p_V cI cO aV σ ++ p_M cI aM τ) H) (hS : va_S (lawA s) s.heap H locs) (hl : lv_has ls 4 [(3, .int (nI i)), (2, .ref (aM 0)), (1, .ref (aV 0)), (0, .ref b)]) : W p l e room_1 s m #[Value.ref b] below meth c H locs cells slots (lw_Z below #[Value.ref b] s) (F0 m 844 ls []) := by
  obtain ⟨hx, hb, hr, hml, hown, hts, hX, hbl, hlocks, hgv⟩ := id C0
  have hown : s.vm.findClass RL = some m.cls := hown
  have hts : ∀ w ∈ wsL_law, w.before #[Value.ref b] s = true := fun w h => hts w (wsL_law_in w h)
  have hA : ∀ q : Nat, s.heap.size ≤ q → lawA s q := fun _ h => h
  have hbA : ¬ lawA s b := Nat.not_le.mpr hbl
  have hi1 : vp_in (nI i + 1) L := law_in (j := 1) (by omega) hL rfl
  obtain ⟨r9, σ1, τ1, e1, e2, hR⟩ := hS1 σ τ (xs (nI i + 1).toNatClampNeg) hR
  refine lv_aload_n hx hb dL_law_844 rfl (lv_at hl 2 rfl) ?_
  refine lv_aload_n hx hb dL_law_845 rfl (lv_at hl 3 rfl) ?_
  refine lv_iload_n hx hb dL_law_846 rfl (lv_at hl 0 rfl) ?_
  refine lv_iconst (v := 1) hx hb dL_law_847 (by decide +kernel) ?_
  refine lv_iadd hx hb dL_law_848 ?_
  refine va_sld hx hb hX hbl hbA hS hi1 dL_law_849 ?_
  refine x_cVi (lawV cI cO aV aM τ) (p_V cI cO aV) (fun σ1 => σ1) [] [.int (xs (nI i + 1).toNatClampNeg)] (σ := σ) (σC := σ) (K := fun z s1 => some (z, s1)) (r0 := (r9, σ1)) hx hb hml hl.1 hown hts hK hP (fun σ1 => hD σ1 τ) hS hA rfl (c_X7_feed l D cI cO tys ht ht1 aV σ (xs (nI i + 1).toNatClampNeg)) gL_law_X7_feed rfl ⟨rfl, rfl⟩ i_X7_feed ⟨Nat.le_of_ble_eq_true rfl, Nat.le_of_ble_eq_true rfl⟩ (law_frV cI cO aV aM σ τ) (g_V_0 cI cO aV σ) rfl rfl (Nat.le_of_ble_eq_true rfl) hcs dL_law_850 (by rw [e1]; rfl) (fun z9 H locs s9 hP hS h => ?_)
  obtain ⟨rfl, rfl⟩ := Prod.mk.inj (Option.some.inj h)
  have hP : va_P D vwCl (lawM cI cO aV aM s9 τ) H := hP
  refine lv_aload_n hx hb dL_law_853 rfl (lv_at hl 1 rfl) ?_
  refine lv_aload_n hx hb dL_law_854 rfl (lv_at hl 3 rfl) ?_
  refine lv_iload_n hx hb dL_law_855 rfl (lv_at hl 0 rfl) ?_
  refine lv_iconst (v := 1) hx hb dL_law_856 (by decide +kernel) ?_
  refine lv_iadd hx hb dL_law_857 ?_
  refine va_sld hx hb hX hbl hbA hS hi1 dL_law_858 ?_
  refine x_cVi (lawM cI cO aV aM s9) (p_M cI aM) (fun σ1 => σ1) [.int z9] [.int (xs (nI i + 1).toNatClampNeg)] (σ := τ) (σC := τ) (K := fun z s1 => some (z, s1)) (r0 := (z9, τ1)) hx hb hml hl.1 hown hts hK hP (fun τ1 => hD s9 τ1) hS hA rfl (c_X8_feed l D cI tys ht aM τ (xs (nI i + 1).toNatClampNeg)) gL_law_X8_feed rfl ⟨rfl, rfl⟩ i_X8_feed ⟨Nat.le_of_ble_eq_true rfl, Nat.le_of_ble_eq_true rfl⟩ (law_frM cI cO aV aM s9 τ) (g_M_0 cI aM τ) rfl rfl (Nat.le_of_ble_eq_true rfl) hcs dL_law_859 (by rw [e2]; rfl) (fun y9 H locs t9 hP hS h => ?_)
  obtain ⟨rfl, rfl⟩ := Prod.mk.inj (Option.some.inj h)
  refine lv_icmp_eq (tgt := 1081) hx hb dL_law_862 (by decide) (fun _ => ?_) (fun c9 => absurd rfl c9)
  exact kk _ _ _ _ _ hR hP hS hl
set_option maxHeartbeats 4000000 in
set_option maxRecDepth 100000 in
theorem law_c21 {p : Program} {e : Env} {s : State} {m : MethodId} {below : List Frame} {meth : Method} {c : Code} {l : Launch} {b L : Nat} {xs : Nat → Int32} {cI cO : ClassId} {D : va_G} {aV aM : Nat → Nat} {cells slots : Nat} {tys : List (ClassId × FieldType)} (hL : L ≤ 2560) (C0 : lw_At p s m meth c b L xs) (ht : tys[0]? = some (cI, .int)) (ht1 : tys[1]? = some (cO, .object "VectorRounds$Holder")) (hK : va_K D vwCl tys s) (hD : ∀ σ τ, va_D (lawA s) (p_V cI cO aV σ ++ p_M cI aM τ)) (hcs : cells ≤ 600000 ∧ slots ≤ 7302250) {Rel : qM → qM → Prop} (hS1 : S_script Rel) {i : Nat} (hi : i + 5 ≤ L) (kk : ∀ (σ τ : qM) (H : Heap) (locs : List Loc) (ls : Array Slot), Rel σ τ → va_P D vwCl (p_V cI cO aV σ ++ p_M cI aM τ) H → va_S (lawA s) s.heap H locs → lv_has ls 4 [(3, .int (nI i)), (2, .ref (aM 0)), (1, .ref (aV 0)), (0, .ref b)] → W p l e room_1 s m #[Value.ref b] below meth c H locs cells slots (lw_Z below #[Value.ref b] s) (F0 m 1081 ls [])) (σ τ : qM) (H : Heap) (locs : List Loc) (ls : Array Slot) (hR : Rel σ τ) (hP : va_P D vwCl (p_V cI cO aV σ ++ p_M cI aM τ) H) (hS : va_S (lawA s) s.heap H locs) (hl : lv_has ls 4 [(3, .int (nI i)), (2, .ref (aM 0)), (1, .ref (aV 0)), (0, .ref b)]) : W p l e room_1 s m #[Value.ref b] below meth c H locs cells slots (lw_Z below #[Value.ref b] s) (F0 m 867 ls []) := by
  obtain ⟨hx, hb, hr, hml, hown, hts, hX, hbl, hlocks, hgv⟩ := id C0
  have hown : s.vm.findClass RL = some m.cls := hown
  have hts : ∀ w ∈ wsL_law, w.before #[Value.ref b] s = true := fun w h => hts w (wsL_law_in w h)
  have hA : ∀ q : Nat, s.heap.size ≤ q → lawA s q := fun _ h => h
  have hbA : ¬ lawA s b := Nat.not_le.mpr hbl
  obtain ⟨r9, σ1, τ1, e1, e2, hR⟩ := hS1 σ τ hR
  refine lv_aload_n hx hb dL_law_867 rfl (lv_at hl 2 rfl) ?_
  refine x_cVi (lawV cI cO aV aM τ) (p_V cI cO aV) (fun σ1 => σ1) [] [] (σ := σ) (σC := σ) (K := fun z s1 => some (z, s1)) (r0 := (r9, σ1)) hx hb hml hl.1 hown hts hK hP (fun σ1 => hD σ1 τ) hS hA rfl (c_X7_script l D cI cO tys ht ht1 aV σ) gL_law_X7_script rfl ⟨rfl, rfl⟩ i_X7_script ⟨Nat.le_of_ble_eq_true rfl, Nat.le_of_ble_eq_true rfl⟩ (law_frV cI cO aV aM σ τ) (g_V_0 cI cO aV σ) rfl rfl (Nat.le_of_ble_eq_true rfl) hcs dL_law_868 (by rw [e1]; rfl) (fun z9 H locs s9 hP hS h => ?_)
  obtain ⟨rfl, rfl⟩ := Prod.mk.inj (Option.some.inj h)
  have hP : va_P D vwCl (lawM cI cO aV aM s9 τ) H := hP
  refine lv_aload_n hx hb dL_law_871 rfl (lv_at hl 1 rfl) ?_
  refine x_cVi (lawM cI cO aV aM s9) (p_M cI aM) (fun σ1 => σ1) [.int z9] [] (σ := τ) (σC := τ) (K := fun z s1 => some (z, s1)) (r0 := (z9, τ1)) hx hb hml hl.1 hown hts hK hP (fun τ1 => hD s9 τ1) hS hA rfl (c_X8_script l D cI tys ht aM τ) gL_law_X8_script rfl ⟨rfl, rfl⟩ i_X8_script ⟨Nat.le_of_ble_eq_true rfl, Nat.le_of_ble_eq_true rfl⟩ (law_frM cI cO aV aM s9 τ) (g_M_0 cI aM τ) rfl rfl (Nat.le_of_ble_eq_true rfl) hcs dL_law_872 (by rw [e2]; rfl) (fun y9 H locs t9 hP hS h => ?_)
  obtain ⟨rfl, rfl⟩ := Prod.mk.inj (Option.some.inj h)
  refine lv_icmp_eq (tgt := 1081) hx hb dL_law_875 (by decide) (fun _ => ?_) (fun c9 => absurd rfl c9)
  exact kk _ _ _ _ _ hR hP hS hl
set_option maxHeartbeats 4000000 in
set_option maxRecDepth 100000 in
theorem law_c22 {p : Program} {e : Env} {s : State} {m : MethodId} {below : List Frame} {meth : Method} {c : Code} {l : Launch} {b L : Nat} {xs : Nat → Int32} {cI cO : ClassId} {D : va_G} {aV aM : Nat → Nat} {cells slots : Nat} {tys : List (ClassId × FieldType)} (hL : L ≤ 2560) (C0 : lw_At p s m meth c b L xs) (ht : tys[0]? = some (cI, .int)) (ht1 : tys[1]? = some (cO, .object "VectorRounds$Holder")) (hK : va_K D vwCl tys s) (hD : ∀ σ τ, va_D (lawA s) (p_V cI cO aV σ ++ p_M cI aM τ)) (hcs : cells ≤ 600000 ∧ slots ≤ 7302250) {Rel : qM → qM → Prop} (hS1 : S_image Rel) {i : Nat} (hi : i + 5 ≤ L) (kk : ∀ (σ τ : qM) (H : Heap) (locs : List Loc) (ls : Array Slot), Rel σ τ → va_P D vwCl (p_V cI cO aV σ ++ p_M cI aM τ) H → va_S (lawA s) s.heap H locs → lv_has ls 4 [(3, .int (nI i)), (2, .ref (aM 0)), (1, .ref (aV 0)), (0, .ref b)] → W p l e room_1 s m #[Value.ref b] below meth c H locs cells slots (lw_Z below #[Value.ref b] s) (F0 m 1081 ls [])) (σ τ : qM) (H : Heap) (locs : List Loc) (ls : Array Slot) (hR : Rel σ τ) (hP : va_P D vwCl (p_V cI cO aV σ ++ p_M cI aM τ) H) (hS : va_S (lawA s) s.heap H locs) (hl : lv_has ls 4 [(3, .int (nI i)), (2, .ref (aM 0)), (1, .ref (aV 0)), (0, .ref b)]) : W p l e room_1 s m #[Value.ref b] below meth c H locs cells slots (lw_Z below #[Value.ref b] s) (F0 m 880 ls []) := by
  obtain ⟨hx, hb, hr, hml, hown, hts, hX, hbl, hlocks, hgv⟩ := id C0
  have hown : s.vm.findClass RL = some m.cls := hown
  have hts : ∀ w ∈ wsL_law, w.before #[Value.ref b] s = true := fun w h => hts w (wsL_law_in w h)
  have hA : ∀ q : Nat, s.heap.size ≤ q → lawA s q := fun _ h => h
  have hbA : ¬ lawA s b := Nat.not_le.mpr hbl
  obtain ⟨r9, σ1, τ1, e1, e2, hR⟩ := hS1 σ τ hR
  refine lv_aload_n hx hb dL_law_880 rfl (lv_at hl 2 rfl) ?_
  refine x_cVi (lawV cI cO aV aM τ) (p_V cI cO aV) (fun σ1 => σ1) [] [] (σ := σ) (σC := σ) (K := fun z s1 => some (z, s1)) (r0 := (r9, σ1)) hx hb hml hl.1 hown hts hK hP (fun σ1 => hD σ1 τ) hS hA rfl (c_X7_image l D cI cO tys ht ht1 aV σ) gL_law_X7_image rfl ⟨rfl, rfl⟩ i_X7_image ⟨Nat.le_of_ble_eq_true rfl, Nat.le_of_ble_eq_true rfl⟩ (law_frV cI cO aV aM σ τ) (g_V_0 cI cO aV σ) rfl rfl (Nat.le_of_ble_eq_true rfl) hcs dL_law_881 (by rw [e1]; rfl) (fun z9 H locs s9 hP hS h => ?_)
  obtain ⟨rfl, rfl⟩ := Prod.mk.inj (Option.some.inj h)
  have hP : va_P D vwCl (lawM cI cO aV aM s9 τ) H := hP
  refine lv_aload_n hx hb dL_law_884 rfl (lv_at hl 1 rfl) ?_
  refine x_cVi (lawM cI cO aV aM s9) (p_M cI aM) (fun σ1 => σ1) [.int z9] [] (σ := τ) (σC := τ) (K := fun z s1 => some (z, s1)) (r0 := (z9, τ1)) hx hb hml hl.1 hown hts hK hP (fun τ1 => hD s9 τ1) hS hA rfl (c_X8_image l D cI tys ht aM τ) gL_law_X8_image rfl ⟨rfl, rfl⟩ i_X8_image ⟨Nat.le_of_ble_eq_true rfl, Nat.le_of_ble_eq_true rfl⟩ (law_frM cI cO aV aM s9 τ) (g_M_0 cI aM τ) rfl rfl (Nat.le_of_ble_eq_true rfl) hcs dL_law_885 (by rw [e2]; rfl) (fun y9 H locs t9 hP hS h => ?_)
  obtain ⟨rfl, rfl⟩ := Prod.mk.inj (Option.some.inj h)
  refine lv_icmp_eq (tgt := 1081) hx hb dL_law_888 (by decide) (fun _ => ?_) (fun c9 => absurd rfl c9)
  exact kk _ _ _ _ _ hR hP hS hl
set_option maxHeartbeats 4000000 in
set_option maxRecDepth 100000 in
theorem law_c23 {p : Program} {e : Env} {s : State} {m : MethodId} {below : List Frame} {meth : Method} {c : Code} {l : Launch} {b L : Nat} {xs : Nat → Int32} {cI cO : ClassId} {D : va_G} {aV aM : Nat → Nat} {cells slots : Nat} {tys : List (ClassId × FieldType)} (hL : L ≤ 2560) (C0 : lw_At p s m meth c b L xs) (ht : tys[0]? = some (cI, .int)) (ht1 : tys[1]? = some (cO, .object "VectorRounds$Holder")) (hK : va_K D vwCl tys s) (hD : ∀ σ τ, va_D (lawA s) (p_V cI cO aV σ ++ p_M cI aM τ)) (hcs : cells ≤ 600000 ∧ slots ≤ 7302250) {Rel : qM → qM → Prop} (hS1 : S_back Rel) {i : Nat} (hi : i + 5 ≤ L) (kk : ∀ (σ τ : qM) (H : Heap) (locs : List Loc) (ls : Array Slot), Rel σ τ → va_P D vwCl (p_V cI cO aV σ ++ p_M cI aM τ) H → va_S (lawA s) s.heap H locs → lv_has ls 4 [(3, .int (nI i)), (2, .ref (aM 0)), (1, .ref (aV 0)), (0, .ref b)] → W p l e room_1 s m #[Value.ref b] below meth c H locs cells slots (lw_Z below #[Value.ref b] s) (F0 m 1081 ls [])) (σ τ : qM) (H : Heap) (locs : List Loc) (ls : Array Slot) (hR : Rel σ τ) (hP : va_P D vwCl (p_V cI cO aV σ ++ p_M cI aM τ) H) (hS : va_S (lawA s) s.heap H locs) (hl : lv_has ls 4 [(3, .int (nI i)), (2, .ref (aM 0)), (1, .ref (aV 0)), (0, .ref b)]) : W p l e room_1 s m #[Value.ref b] below meth c H locs cells slots (lw_Z below #[Value.ref b] s) (F0 m 893 ls []) := by
  obtain ⟨hx, hb, hr, hml, hown, hts, hX, hbl, hlocks, hgv⟩ := id C0
  have hown : s.vm.findClass RL = some m.cls := hown
  have hts : ∀ w ∈ wsL_law, w.before #[Value.ref b] s = true := fun w h => hts w (wsL_law_in w h)
  have hA : ∀ q : Nat, s.heap.size ≤ q → lawA s q := fun _ h => h
  have hbA : ¬ lawA s b := Nat.not_le.mpr hbl
  obtain ⟨r9, σ1, τ1, e1, e2, hR⟩ := hS1 σ τ hR
  refine lv_aload_n hx hb dL_law_893 rfl (lv_at hl 2 rfl) ?_
  refine x_cVi (lawV cI cO aV aM τ) (p_V cI cO aV) (fun σ1 => σ1) [] [] (σ := σ) (σC := σ) (K := fun z s1 => some (z, s1)) (r0 := (r9, σ1)) hx hb hml hl.1 hown hts hK hP (fun σ1 => hD σ1 τ) hS hA rfl (c_X7_back l D cI cO tys ht ht1 aV σ) gL_law_X7_back rfl ⟨rfl, rfl⟩ i_X7_back ⟨Nat.le_of_ble_eq_true rfl, Nat.le_of_ble_eq_true rfl⟩ (law_frV cI cO aV aM σ τ) (g_V_0 cI cO aV σ) rfl rfl (Nat.le_of_ble_eq_true rfl) hcs dL_law_894 (by rw [e1]; rfl) (fun z9 H locs s9 hP hS h => ?_)
  obtain ⟨rfl, rfl⟩ := Prod.mk.inj (Option.some.inj h)
  have hP : va_P D vwCl (lawM cI cO aV aM s9 τ) H := hP
  refine lv_aload_n hx hb dL_law_897 rfl (lv_at hl 1 rfl) ?_
  refine x_cVi (lawM cI cO aV aM s9) (p_M cI aM) (fun σ1 => σ1) [.int z9] [] (σ := τ) (σC := τ) (K := fun z s1 => some (z, s1)) (r0 := (z9, τ1)) hx hb hml hl.1 hown hts hK hP (fun τ1 => hD s9 τ1) hS hA rfl (c_X8_back l D cI tys ht aM τ) gL_law_X8_back rfl ⟨rfl, rfl⟩ i_X8_back ⟨Nat.le_of_ble_eq_true rfl, Nat.le_of_ble_eq_true rfl⟩ (law_frM cI cO aV aM s9 τ) (g_M_0 cI aM τ) rfl rfl (Nat.le_of_ble_eq_true rfl) hcs dL_law_898 (by rw [e2]; rfl) (fun y9 H locs t9 hP hS h => ?_)
  obtain ⟨rfl, rfl⟩ := Prod.mk.inj (Option.some.inj h)
  refine lv_icmp_eq (tgt := 1081) hx hb dL_law_901 (by decide) (fun _ => ?_) (fun c9 => absurd rfl c9)
  exact kk _ _ _ _ _ hR hP hS hl
set_option maxHeartbeats 4000000 in
set_option maxRecDepth 100000 in
theorem law_c24 {p : Program} {e : Env} {s : State} {m : MethodId} {below : List Frame} {meth : Method} {c : Code} {l : Launch} {b L : Nat} {xs : Nat → Int32} {cI cO : ClassId} {D : va_G} {aV aM : Nat → Nat} {cells slots : Nat} {tys : List (ClassId × FieldType)} (hL : L ≤ 2560) (C0 : lw_At p s m meth c b L xs) (ht : tys[0]? = some (cI, .int)) (ht1 : tys[1]? = some (cO, .object "VectorRounds$Holder")) (hK : va_K D vwCl tys s) (hD : ∀ σ τ, va_D (lawA s) (p_V cI cO aV σ ++ p_M cI aM τ)) (hcs : cells ≤ 600000 ∧ slots ≤ 7302250) {Rel : qM → qM → Prop} (hS1 : S_hold Rel) {i : Nat} (hi : i + 5 ≤ L) (kk : ∀ (σ τ : qM) (H : Heap) (locs : List Loc) (ls : Array Slot), Rel σ τ → va_P D vwCl (p_V cI cO aV σ ++ p_M cI aM τ) H → va_S (lawA s) s.heap H locs → lv_has ls 4 [(3, .int (nI i)), (2, .ref (aM 0)), (1, .ref (aV 0)), (0, .ref b)] → W p l e room_1 s m #[Value.ref b] below meth c H locs cells slots (lw_Z below #[Value.ref b] s) (F0 m 1081 ls [])) (σ τ : qM) (H : Heap) (locs : List Loc) (ls : Array Slot) (hR : Rel σ τ) (hP : va_P D vwCl (p_V cI cO aV σ ++ p_M cI aM τ) H) (hS : va_S (lawA s) s.heap H locs) (hl : lv_has ls 4 [(3, .int (nI i)), (2, .ref (aM 0)), (1, .ref (aV 0)), (0, .ref b)]) : W p l e room_1 s m #[Value.ref b] below meth c H locs cells slots (lw_Z below #[Value.ref b] s) (F0 m 906 ls []) := by
  obtain ⟨hx, hb, hr, hml, hown, hts, hX, hbl, hlocks, hgv⟩ := id C0
  have hown : s.vm.findClass RL = some m.cls := hown
  have hts : ∀ w ∈ wsL_law, w.before #[Value.ref b] s = true := fun w h => hts w (wsL_law_in w h)
  have hA : ∀ q : Nat, s.heap.size ≤ q → lawA s q := fun _ h => h
  have hbA : ¬ lawA s b := Nat.not_le.mpr hbl
  have hi1 : vp_in (nI i + 1) L := law_in (j := 1) (by omega) hL rfl
  have hi2 : vp_in (nI i + 2) L := law_in (j := 2) (by omega) hL rfl
  have hi3 : vp_in (nI i + 3) L := law_in (j := 3) (by omega) hL rfl
  obtain ⟨r9, σ1, τ1, e1, e2, hR⟩ := hS1 σ τ (xs (nI i + 1).toNatClampNeg) (xs (nI i + 2).toNatClampNeg) (xs (nI i + 3).toNatClampNeg) hR
  refine lv_aload_n hx hb dL_law_906 rfl (lv_at hl 2 rfl) ?_
  refine lv_aload_n hx hb dL_law_907 rfl (lv_at hl 3 rfl) ?_
  refine lv_iload_n hx hb dL_law_908 rfl (lv_at hl 0 rfl) ?_
  refine lv_iconst (v := 1) hx hb dL_law_909 (by decide +kernel) ?_
  refine lv_iadd hx hb dL_law_910 ?_
  refine va_sld hx hb hX hbl hbA hS hi1 dL_law_911 ?_
  refine lv_aload_n hx hb dL_law_912 rfl (lv_at hl 3 rfl) ?_
  refine lv_iload_n hx hb dL_law_913 rfl (lv_at hl 0 rfl) ?_
  refine lv_iconst (v := 2) hx hb dL_law_914 (by decide +kernel) ?_
  refine lv_iadd hx hb dL_law_915 ?_
  refine va_sld hx hb hX hbl hbA hS hi2 dL_law_916 ?_
  refine lv_aload_n hx hb dL_law_917 rfl (lv_at hl 3 rfl) ?_
  refine lv_iload_n hx hb dL_law_918 rfl (lv_at hl 0 rfl) ?_
  refine lv_iconst (v := 3) hx hb dL_law_919 (by decide +kernel) ?_
  refine lv_iadd hx hb dL_law_920 ?_
  refine va_sld hx hb hX hbl hbA hS hi3 dL_law_921 ?_
  refine x_cVi (lawV cI cO aV aM τ) (p_V cI cO aV) (fun σ1 => σ1) [] [.int (xs (nI i + 1).toNatClampNeg), .int (xs (nI i + 2).toNatClampNeg), .int (xs (nI i + 3).toNatClampNeg)] (σ := σ) (σC := σ) (K := fun z s1 => some (z, s1)) (r0 := (r9, σ1)) hx hb hml hl.1 hown hts hK hP (fun σ1 => hD σ1 τ) hS hA rfl (c_X7_hold l D cI cO tys ht ht1 aV σ (xs (nI i + 1).toNatClampNeg) (xs (nI i + 2).toNatClampNeg) (xs (nI i + 3).toNatClampNeg)) gL_law_X7_hold rfl ⟨rfl, rfl⟩ i_X7_hold ⟨Nat.le_of_ble_eq_true rfl, Nat.le_of_ble_eq_true rfl⟩ (law_frV cI cO aV aM σ τ) (g_V_0 cI cO aV σ) rfl rfl (Nat.le_of_ble_eq_true rfl) hcs dL_law_922 (by rw [e1]; rfl) (fun z9 H locs s9 hP hS h => ?_)
  obtain ⟨rfl, rfl⟩ := Prod.mk.inj (Option.some.inj h)
  have hP : va_P D vwCl (lawM cI cO aV aM s9 τ) H := hP
  refine lv_aload_n hx hb dL_law_925 rfl (lv_at hl 1 rfl) ?_
  refine lv_aload_n hx hb dL_law_926 rfl (lv_at hl 3 rfl) ?_
  refine lv_iload_n hx hb dL_law_927 rfl (lv_at hl 0 rfl) ?_
  refine lv_iconst (v := 1) hx hb dL_law_928 (by decide +kernel) ?_
  refine lv_iadd hx hb dL_law_929 ?_
  refine va_sld hx hb hX hbl hbA hS hi1 dL_law_930 ?_
  refine lv_aload_n hx hb dL_law_931 rfl (lv_at hl 3 rfl) ?_
  refine lv_iload_n hx hb dL_law_932 rfl (lv_at hl 0 rfl) ?_
  refine lv_iconst (v := 2) hx hb dL_law_933 (by decide +kernel) ?_
  refine lv_iadd hx hb dL_law_934 ?_
  refine va_sld hx hb hX hbl hbA hS hi2 dL_law_935 ?_
  refine lv_aload_n hx hb dL_law_936 rfl (lv_at hl 3 rfl) ?_
  refine lv_iload_n hx hb dL_law_937 rfl (lv_at hl 0 rfl) ?_
  refine lv_iconst (v := 3) hx hb dL_law_938 (by decide +kernel) ?_
  refine lv_iadd hx hb dL_law_939 ?_
  refine va_sld hx hb hX hbl hbA hS hi3 dL_law_940 ?_
  refine x_cVi (lawM cI cO aV aM s9) (p_M cI aM) (fun σ1 => σ1) [.int z9] [.int (xs (nI i + 1).toNatClampNeg), .int (xs (nI i + 2).toNatClampNeg), .int (xs (nI i + 3).toNatClampNeg)] (σ := τ) (σC := τ) (K := fun z s1 => some (z, s1)) (r0 := (z9, τ1)) hx hb hml hl.1 hown hts hK hP (fun τ1 => hD s9 τ1) hS hA rfl (c_X8_hold l D cI tys ht aM τ (xs (nI i + 1).toNatClampNeg) (xs (nI i + 2).toNatClampNeg) (xs (nI i + 3).toNatClampNeg)) gL_law_X8_hold rfl ⟨rfl, rfl⟩ i_X8_hold ⟨Nat.le_of_ble_eq_true rfl, Nat.le_of_ble_eq_true rfl⟩ (law_frM cI cO aV aM s9 τ) (g_M_0 cI aM τ) rfl rfl (Nat.le_of_ble_eq_true rfl) hcs dL_law_941 (by rw [e2]; rfl) (fun y9 H locs t9 hP hS h => ?_)
  obtain ⟨rfl, rfl⟩ := Prod.mk.inj (Option.some.inj h)
  refine lv_icmp_eq (tgt := 1081) hx hb dL_law_944 (by decide) (fun _ => ?_) (fun c9 => absurd rfl c9)
  exact kk _ _ _ _ _ hR hP hS hl
set_option maxHeartbeats 4000000 in
set_option maxRecDepth 100000 in
theorem law_c25 {p : Program} {e : Env} {s : State} {m : MethodId} {below : List Frame} {meth : Method} {c : Code} {l : Launch} {b L : Nat} {xs : Nat → Int32} {cI cO : ClassId} {D : va_G} {aV aM : Nat → Nat} {cells slots : Nat} {tys : List (ClassId × FieldType)} (hL : L ≤ 2560) (C0 : lw_At p s m meth c b L xs) (ht : tys[0]? = some (cI, .int)) (ht1 : tys[1]? = some (cO, .object "VectorRounds$Holder")) (hK : va_K D vwCl tys s) (hD : ∀ σ τ, va_D (lawA s) (p_V cI cO aV σ ++ p_M cI aM τ)) (hcs : cells ≤ 600000 ∧ slots ≤ 7302250) {Rel : qM → qM → Prop} (hS1 : S_row Rel) {i : Nat} (hi : i + 5 ≤ L) (kk : ∀ (σ τ : qM) (H : Heap) (locs : List Loc) (ls : Array Slot), Rel σ τ → va_P D vwCl (p_V cI cO aV σ ++ p_M cI aM τ) H → va_S (lawA s) s.heap H locs → lv_has ls 4 [(3, .int (nI i)), (2, .ref (aM 0)), (1, .ref (aV 0)), (0, .ref b)] → W p l e room_1 s m #[Value.ref b] below meth c H locs cells slots (lw_Z below #[Value.ref b] s) (F0 m 1081 ls [])) (σ τ : qM) (H : Heap) (locs : List Loc) (ls : Array Slot) (hR : Rel σ τ) (hP : va_P D vwCl (p_V cI cO aV σ ++ p_M cI aM τ) H) (hS : va_S (lawA s) s.heap H locs) (hl : lv_has ls 4 [(3, .int (nI i)), (2, .ref (aM 0)), (1, .ref (aV 0)), (0, .ref b)]) : W p l e room_1 s m #[Value.ref b] below meth c H locs cells slots (lw_Z below #[Value.ref b] s) (F0 m 949 ls []) := by
  obtain ⟨hx, hb, hr, hml, hown, hts, hX, hbl, hlocks, hgv⟩ := id C0
  have hown : s.vm.findClass RL = some m.cls := hown
  have hts : ∀ w ∈ wsL_law, w.before #[Value.ref b] s = true := fun w h => hts w (wsL_law_in w h)
  have hA : ∀ q : Nat, s.heap.size ≤ q → lawA s q := fun _ h => h
  have hbA : ¬ lawA s b := Nat.not_le.mpr hbl
  have hi1 : vp_in (nI i + 1) L := law_in (j := 1) (by omega) hL rfl
  have hi2 : vp_in (nI i + 2) L := law_in (j := 2) (by omega) hL rfl
  obtain ⟨r9, σ1, τ1, e1, e2, hR⟩ := hS1 σ τ (xs (nI i + 1).toNatClampNeg) (xs (nI i + 2).toNatClampNeg) hR
  refine lv_aload_n hx hb dL_law_949 rfl (lv_at hl 2 rfl) ?_
  refine lv_aload_n hx hb dL_law_950 rfl (lv_at hl 3 rfl) ?_
  refine lv_iload_n hx hb dL_law_951 rfl (lv_at hl 0 rfl) ?_
  refine lv_iconst (v := 1) hx hb dL_law_952 (by decide +kernel) ?_
  refine lv_iadd hx hb dL_law_953 ?_
  refine va_sld hx hb hX hbl hbA hS hi1 dL_law_954 ?_
  refine lv_aload_n hx hb dL_law_955 rfl (lv_at hl 3 rfl) ?_
  refine lv_iload_n hx hb dL_law_956 rfl (lv_at hl 0 rfl) ?_
  refine lv_iconst (v := 2) hx hb dL_law_957 (by decide +kernel) ?_
  refine lv_iadd hx hb dL_law_958 ?_
  refine va_sld hx hb hX hbl hbA hS hi2 dL_law_959 ?_
  refine x_cVi (lawV cI cO aV aM τ) (p_V cI cO aV) (fun σ1 => σ1) [] [.int (xs (nI i + 1).toNatClampNeg), .int (xs (nI i + 2).toNatClampNeg)] (σ := σ) (σC := σ) (K := fun z s1 => some (z, s1)) (r0 := (r9, σ1)) hx hb hml hl.1 hown hts hK hP (fun σ1 => hD σ1 τ) hS hA rfl (c_X7_row l D cI cO tys ht ht1 aV σ (xs (nI i + 1).toNatClampNeg) (xs (nI i + 2).toNatClampNeg)) gL_law_X7_row rfl ⟨rfl, rfl⟩ i_X7_row ⟨Nat.le_of_ble_eq_true rfl, Nat.le_of_ble_eq_true rfl⟩ (law_frV cI cO aV aM σ τ) (g_V_0 cI cO aV σ) rfl rfl (Nat.le_of_ble_eq_true rfl) hcs dL_law_960 (by rw [e1]; rfl) (fun z9 H locs s9 hP hS h => ?_)
  obtain ⟨rfl, rfl⟩ := Prod.mk.inj (Option.some.inj h)
  have hP : va_P D vwCl (lawM cI cO aV aM s9 τ) H := hP
  refine lv_aload_n hx hb dL_law_963 rfl (lv_at hl 1 rfl) ?_
  refine lv_aload_n hx hb dL_law_964 rfl (lv_at hl 3 rfl) ?_
  refine lv_iload_n hx hb dL_law_965 rfl (lv_at hl 0 rfl) ?_
  refine lv_iconst (v := 1) hx hb dL_law_966 (by decide +kernel) ?_
  refine lv_iadd hx hb dL_law_967 ?_
  refine va_sld hx hb hX hbl hbA hS hi1 dL_law_968 ?_
  refine lv_aload_n hx hb dL_law_969 rfl (lv_at hl 3 rfl) ?_
  refine lv_iload_n hx hb dL_law_970 rfl (lv_at hl 0 rfl) ?_
  refine lv_iconst (v := 2) hx hb dL_law_971 (by decide +kernel) ?_
  refine lv_iadd hx hb dL_law_972 ?_
  refine va_sld hx hb hX hbl hbA hS hi2 dL_law_973 ?_
  refine x_cVi (lawM cI cO aV aM s9) (p_M cI aM) (fun σ1 => σ1) [.int z9] [.int (xs (nI i + 1).toNatClampNeg), .int (xs (nI i + 2).toNatClampNeg)] (σ := τ) (σC := τ) (K := fun z s1 => some (z, s1)) (r0 := (z9, τ1)) hx hb hml hl.1 hown hts hK hP (fun τ1 => hD s9 τ1) hS hA rfl (c_X8_row l D cI tys ht aM τ (xs (nI i + 1).toNatClampNeg) (xs (nI i + 2).toNatClampNeg)) gL_law_X8_row rfl ⟨rfl, rfl⟩ i_X8_row ⟨Nat.le_of_ble_eq_true rfl, Nat.le_of_ble_eq_true rfl⟩ (law_frM cI cO aV aM s9 τ) (g_M_0 cI aM τ) rfl rfl (Nat.le_of_ble_eq_true rfl) hcs dL_law_974 (by rw [e2]; rfl) (fun y9 H locs t9 hP hS h => ?_)
  obtain ⟨rfl, rfl⟩ := Prod.mk.inj (Option.some.inj h)
  refine lv_icmp_eq (tgt := 1081) hx hb dL_law_977 (by decide) (fun _ => ?_) (fun c9 => absurd rfl c9)
  exact kk _ _ _ _ _ hR hP hS hl
set_option maxHeartbeats 4000000 in
set_option maxRecDepth 100000 in
theorem law_c26 {p : Program} {e : Env} {s : State} {m : MethodId} {below : List Frame} {meth : Method} {c : Code} {l : Launch} {b L : Nat} {xs : Nat → Int32} {cI cO : ClassId} {D : va_G} {aV aM : Nat → Nat} {cells slots : Nat} {tys : List (ClassId × FieldType)} (hL : L ≤ 2560) (C0 : lw_At p s m meth c b L xs) (ht : tys[0]? = some (cI, .int)) (ht1 : tys[1]? = some (cO, .object "VectorRounds$Holder")) (hK : va_K D vwCl tys s) (hD : ∀ σ τ, va_D (lawA s) (p_V cI cO aV σ ++ p_M cI aM τ)) (hcs : cells ≤ 600000 ∧ slots ≤ 7302250) {Rel : qM → qM → Prop} (hS1 : S_put Rel) {i : Nat} (hi : i + 5 ≤ L) (kk : ∀ (σ τ : qM) (H : Heap) (locs : List Loc) (ls : Array Slot), Rel σ τ → va_P D vwCl (p_V cI cO aV σ ++ p_M cI aM τ) H → va_S (lawA s) s.heap H locs → lv_has ls 4 [(3, .int (nI i)), (2, .ref (aM 0)), (1, .ref (aV 0)), (0, .ref b)] → W p l e room_1 s m #[Value.ref b] below meth c H locs cells slots (lw_Z below #[Value.ref b] s) (F0 m 1081 ls [])) (σ τ : qM) (H : Heap) (locs : List Loc) (ls : Array Slot) (hR : Rel σ τ) (hP : va_P D vwCl (p_V cI cO aV σ ++ p_M cI aM τ) H) (hS : va_S (lawA s) s.heap H locs) (hl : lv_has ls 4 [(3, .int (nI i)), (2, .ref (aM 0)), (1, .ref (aV 0)), (0, .ref b)]) : W p l e room_1 s m #[Value.ref b] below meth c H locs cells slots (lw_Z below #[Value.ref b] s) (F0 m 982 ls []) := by
  obtain ⟨hx, hb, hr, hml, hown, hts, hX, hbl, hlocks, hgv⟩ := id C0
  have hown : s.vm.findClass RL = some m.cls := hown
  have hts : ∀ w ∈ wsL_law, w.before #[Value.ref b] s = true := fun w h => hts w (wsL_law_in w h)
  have hA : ∀ q : Nat, s.heap.size ≤ q → lawA s q := fun _ h => h
  have hbA : ¬ lawA s b := Nat.not_le.mpr hbl
  have hi1 : vp_in (nI i + 1) L := law_in (j := 1) (by omega) hL rfl
  have hi2 : vp_in (nI i + 2) L := law_in (j := 2) (by omega) hL rfl
  have hi3 : vp_in (nI i + 3) L := law_in (j := 3) (by omega) hL rfl
  obtain ⟨r9, σ1, τ1, e1, e2, hR⟩ := hS1 σ τ (xs (nI i + 1).toNatClampNeg) (xs (nI i + 2).toNatClampNeg) (xs (nI i + 3).toNatClampNeg) hR
  refine lv_aload_n hx hb dL_law_982 rfl (lv_at hl 2 rfl) ?_
  refine lv_aload_n hx hb dL_law_983 rfl (lv_at hl 3 rfl) ?_
  refine lv_iload_n hx hb dL_law_984 rfl (lv_at hl 0 rfl) ?_
  refine lv_iconst (v := 1) hx hb dL_law_985 (by decide +kernel) ?_
  refine lv_iadd hx hb dL_law_986 ?_
  refine va_sld hx hb hX hbl hbA hS hi1 dL_law_987 ?_
  refine lv_aload_n hx hb dL_law_988 rfl (lv_at hl 3 rfl) ?_
  refine lv_iload_n hx hb dL_law_989 rfl (lv_at hl 0 rfl) ?_
  refine lv_iconst (v := 2) hx hb dL_law_990 (by decide +kernel) ?_
  refine lv_iadd hx hb dL_law_991 ?_
  refine va_sld hx hb hX hbl hbA hS hi2 dL_law_992 ?_
  refine lv_aload_n hx hb dL_law_993 rfl (lv_at hl 3 rfl) ?_
  refine lv_iload_n hx hb dL_law_994 rfl (lv_at hl 0 rfl) ?_
  refine lv_iconst (v := 3) hx hb dL_law_995 (by decide +kernel) ?_
  refine lv_iadd hx hb dL_law_996 ?_
  refine va_sld hx hb hX hbl hbA hS hi3 dL_law_997 ?_
  refine x_cVi (lawV cI cO aV aM τ) (p_V cI cO aV) (fun σ1 => σ1) [] [.int (xs (nI i + 1).toNatClampNeg), .int (xs (nI i + 2).toNatClampNeg), .int (xs (nI i + 3).toNatClampNeg)] (σ := σ) (σC := σ) (K := fun z s1 => some (z, s1)) (r0 := (r9, σ1)) hx hb hml hl.1 hown hts hK hP (fun σ1 => hD σ1 τ) hS hA rfl (c_X7_put l D cI cO tys ht ht1 aV σ (xs (nI i + 1).toNatClampNeg) (xs (nI i + 2).toNatClampNeg) (xs (nI i + 3).toNatClampNeg)) gL_law_X7_put rfl ⟨rfl, rfl⟩ i_X7_put ⟨Nat.le_of_ble_eq_true rfl, Nat.le_of_ble_eq_true rfl⟩ (law_frV cI cO aV aM σ τ) (g_V_0 cI cO aV σ) rfl rfl (Nat.le_of_ble_eq_true rfl) hcs dL_law_998 (by rw [e1]; rfl) (fun z9 H locs s9 hP hS h => ?_)
  obtain ⟨rfl, rfl⟩ := Prod.mk.inj (Option.some.inj h)
  have hP : va_P D vwCl (lawM cI cO aV aM s9 τ) H := hP
  refine lv_aload_n hx hb dL_law_1001 rfl (lv_at hl 1 rfl) ?_
  refine lv_aload_n hx hb dL_law_1002 rfl (lv_at hl 3 rfl) ?_
  refine lv_iload_n hx hb dL_law_1003 rfl (lv_at hl 0 rfl) ?_
  refine lv_iconst (v := 1) hx hb dL_law_1004 (by decide +kernel) ?_
  refine lv_iadd hx hb dL_law_1005 ?_
  refine va_sld hx hb hX hbl hbA hS hi1 dL_law_1006 ?_
  refine lv_aload_n hx hb dL_law_1007 rfl (lv_at hl 3 rfl) ?_
  refine lv_iload_n hx hb dL_law_1008 rfl (lv_at hl 0 rfl) ?_
  refine lv_iconst (v := 2) hx hb dL_law_1009 (by decide +kernel) ?_
  refine lv_iadd hx hb dL_law_1010 ?_
  refine va_sld hx hb hX hbl hbA hS hi2 dL_law_1011 ?_
  refine lv_aload_n hx hb dL_law_1012 rfl (lv_at hl 3 rfl) ?_
  refine lv_iload_n hx hb dL_law_1013 rfl (lv_at hl 0 rfl) ?_
  refine lv_iconst (v := 3) hx hb dL_law_1014 (by decide +kernel) ?_
  refine lv_iadd hx hb dL_law_1015 ?_
  refine va_sld hx hb hX hbl hbA hS hi3 dL_law_1016 ?_
  refine x_cVi (lawM cI cO aV aM s9) (p_M cI aM) (fun σ1 => σ1) [.int z9] [.int (xs (nI i + 1).toNatClampNeg), .int (xs (nI i + 2).toNatClampNeg), .int (xs (nI i + 3).toNatClampNeg)] (σ := τ) (σC := τ) (K := fun z s1 => some (z, s1)) (r0 := (z9, τ1)) hx hb hml hl.1 hown hts hK hP (fun τ1 => hD s9 τ1) hS hA rfl (c_X8_put l D cI tys ht aM τ (xs (nI i + 1).toNatClampNeg) (xs (nI i + 2).toNatClampNeg) (xs (nI i + 3).toNatClampNeg)) gL_law_X8_put rfl ⟨rfl, rfl⟩ i_X8_put ⟨Nat.le_of_ble_eq_true rfl, Nat.le_of_ble_eq_true rfl⟩ (law_frM cI cO aV aM s9 τ) (g_M_0 cI aM τ) rfl rfl (Nat.le_of_ble_eq_true rfl) hcs dL_law_1017 (by rw [e2]; rfl) (fun y9 H locs t9 hP hS h => ?_)
  obtain ⟨rfl, rfl⟩ := Prod.mk.inj (Option.some.inj h)
  refine lv_icmp_eq (tgt := 1081) hx hb dL_law_1020 (by decide) (fun _ => ?_) (fun c9 => absurd rfl c9)
  exact kk _ _ _ _ _ hR hP hS hl
set_option maxHeartbeats 4000000 in
set_option maxRecDepth 100000 in
theorem law_c27 {p : Program} {e : Env} {s : State} {m : MethodId} {below : List Frame} {meth : Method} {c : Code} {l : Launch} {b L : Nat} {xs : Nat → Int32} {cI cO : ClassId} {D : va_G} {aV aM : Nat → Nat} {cells slots : Nat} {tys : List (ClassId × FieldType)} (hL : L ≤ 2560) (C0 : lw_At p s m meth c b L xs) (ht : tys[0]? = some (cI, .int)) (ht1 : tys[1]? = some (cO, .object "VectorRounds$Holder")) (hK : va_K D vwCl tys s) (hD : ∀ σ τ, va_D (lawA s) (p_V cI cO aV σ ++ p_M cI aM τ)) (hcs : cells ≤ 600000 ∧ slots ≤ 7302250) {Rel : qM → qM → Prop} (hS1 : S_tells Rel) {i : Nat} (hi : i + 5 ≤ L) (kk : ∀ (σ τ : qM) (H : Heap) (locs : List Loc) (ls : Array Slot), Rel σ τ → va_P D vwCl (p_V cI cO aV σ ++ p_M cI aM τ) H → va_S (lawA s) s.heap H locs → lv_has ls 4 [(3, .int (nI i)), (2, .ref (aM 0)), (1, .ref (aV 0)), (0, .ref b)] → W p l e room_1 s m #[Value.ref b] below meth c H locs cells slots (lw_Z below #[Value.ref b] s) (F0 m 1081 ls [])) (σ τ : qM) (H : Heap) (locs : List Loc) (ls : Array Slot) (hR : Rel σ τ) (hP : va_P D vwCl (p_V cI cO aV σ ++ p_M cI aM τ) H) (hS : va_S (lawA s) s.heap H locs) (hl : lv_has ls 4 [(3, .int (nI i)), (2, .ref (aM 0)), (1, .ref (aV 0)), (0, .ref b)]) : W p l e room_1 s m #[Value.ref b] below meth c H locs cells slots (lw_Z below #[Value.ref b] s) (F0 m 1025 ls []) := by
  obtain ⟨hx, hb, hr, hml, hown, hts, hX, hbl, hlocks, hgv⟩ := id C0
  have hown : s.vm.findClass RL = some m.cls := hown
  have hts : ∀ w ∈ wsL_law, w.before #[Value.ref b] s = true := fun w h => hts w (wsL_law_in w h)
  have hA : ∀ q : Nat, s.heap.size ≤ q → lawA s q := fun _ h => h
  have hbA : ¬ lawA s b := Nat.not_le.mpr hbl
  have hi1 : vp_in (nI i + 1) L := law_in (j := 1) (by omega) hL rfl
  have hi2 : vp_in (nI i + 2) L := law_in (j := 2) (by omega) hL rfl
  obtain ⟨r9, σ1, τ1, e1, e2, hR⟩ := hS1 σ τ (xs (nI i + 1).toNatClampNeg) (xs (nI i + 2).toNatClampNeg) hR
  refine lv_aload_n hx hb dL_law_1025 rfl (lv_at hl 2 rfl) ?_
  refine lv_aload_n hx hb dL_law_1026 rfl (lv_at hl 3 rfl) ?_
  refine lv_iload_n hx hb dL_law_1027 rfl (lv_at hl 0 rfl) ?_
  refine lv_iconst (v := 1) hx hb dL_law_1028 (by decide +kernel) ?_
  refine lv_iadd hx hb dL_law_1029 ?_
  refine va_sld hx hb hX hbl hbA hS hi1 dL_law_1030 ?_
  refine lv_aload_n hx hb dL_law_1031 rfl (lv_at hl 3 rfl) ?_
  refine lv_iload_n hx hb dL_law_1032 rfl (lv_at hl 0 rfl) ?_
  refine lv_iconst (v := 2) hx hb dL_law_1033 (by decide +kernel) ?_
  refine lv_iadd hx hb dL_law_1034 ?_
  refine va_sld hx hb hX hbl hbA hS hi2 dL_law_1035 ?_
  refine x_cVi (lawV cI cO aV aM τ) (p_V cI cO aV) (fun σ1 => σ1) [] [.int (xs (nI i + 1).toNatClampNeg), .int (xs (nI i + 2).toNatClampNeg)] (σ := σ) (σC := σ) (K := fun z s1 => some (z, s1)) (r0 := (r9, σ1)) hx hb hml hl.1 hown hts hK hP (fun σ1 => hD σ1 τ) hS hA rfl (c_X7_tells l D cI cO tys ht ht1 aV σ (xs (nI i + 1).toNatClampNeg) (xs (nI i + 2).toNatClampNeg)) gL_law_X7_tells rfl ⟨rfl, rfl⟩ i_X7_tells ⟨Nat.le_of_ble_eq_true rfl, Nat.le_of_ble_eq_true rfl⟩ (law_frV cI cO aV aM σ τ) (g_V_0 cI cO aV σ) rfl rfl (Nat.le_of_ble_eq_true rfl) hcs dL_law_1036 (by rw [e1]; rfl) (fun z9 H locs s9 hP hS h => ?_)
  obtain ⟨rfl, rfl⟩ := Prod.mk.inj (Option.some.inj h)
  have hP : va_P D vwCl (lawM cI cO aV aM s9 τ) H := hP
  refine lv_aload_n hx hb dL_law_1039 rfl (lv_at hl 1 rfl) ?_
  refine lv_aload_n hx hb dL_law_1040 rfl (lv_at hl 3 rfl) ?_
  refine lv_iload_n hx hb dL_law_1041 rfl (lv_at hl 0 rfl) ?_
  refine lv_iconst (v := 1) hx hb dL_law_1042 (by decide +kernel) ?_
  refine lv_iadd hx hb dL_law_1043 ?_
  refine va_sld hx hb hX hbl hbA hS hi1 dL_law_1044 ?_
  refine lv_aload_n hx hb dL_law_1045 rfl (lv_at hl 3 rfl) ?_
  refine lv_iload_n hx hb dL_law_1046 rfl (lv_at hl 0 rfl) ?_
  refine lv_iconst (v := 2) hx hb dL_law_1047 (by decide +kernel) ?_
  refine lv_iadd hx hb dL_law_1048 ?_
  refine va_sld hx hb hX hbl hbA hS hi2 dL_law_1049 ?_
  refine x_cVi (lawM cI cO aV aM s9) (p_M cI aM) (fun σ1 => σ1) [.int z9] [.int (xs (nI i + 1).toNatClampNeg), .int (xs (nI i + 2).toNatClampNeg)] (σ := τ) (σC := τ) (K := fun z s1 => some (z, s1)) (r0 := (z9, τ1)) hx hb hml hl.1 hown hts hK hP (fun τ1 => hD s9 τ1) hS hA rfl (c_X8_tells l D cI tys ht aM τ (xs (nI i + 1).toNatClampNeg) (xs (nI i + 2).toNatClampNeg)) gL_law_X8_tells rfl ⟨rfl, rfl⟩ i_X8_tells ⟨Nat.le_of_ble_eq_true rfl, Nat.le_of_ble_eq_true rfl⟩ (law_frM cI cO aV aM s9 τ) (g_M_0 cI aM τ) rfl rfl (Nat.le_of_ble_eq_true rfl) hcs dL_law_1050 (by rw [e2]; rfl) (fun y9 H locs t9 hP hS h => ?_)
  obtain ⟨rfl, rfl⟩ := Prod.mk.inj (Option.some.inj h)
  refine lv_icmp_eq (tgt := 1081) hx hb dL_law_1053 (by decide) (fun _ => ?_) (fun c9 => absurd rfl c9)
  exact kk _ _ _ _ _ hR hP hS hl
set_option maxHeartbeats 4000000 in
set_option maxRecDepth 100000 in
theorem law_c28 {p : Program} {e : Env} {s : State} {m : MethodId} {below : List Frame} {meth : Method} {c : Code} {l : Launch} {b L : Nat} {xs : Nat → Int32} {cI cO : ClassId} {D : va_G} {aV aM : Nat → Nat} {cells slots : Nat} {tys : List (ClassId × FieldType)} (hL : L ≤ 2560) (C0 : lw_At p s m meth c b L xs) (ht : tys[0]? = some (cI, .int)) (ht1 : tys[1]? = some (cO, .object "VectorRounds$Holder")) (hK : va_K D vwCl tys s) (hD : ∀ σ τ, va_D (lawA s) (p_V cI cO aV σ ++ p_M cI aM τ)) (hcs : cells ≤ 600000 ∧ slots ≤ 7302250) {Rel : qM → qM → Prop} (hS1 : S_count Rel) {i : Nat} (hi : i + 5 ≤ L) (kk : ∀ (σ τ : qM) (H : Heap) (locs : List Loc) (ls : Array Slot), Rel σ τ → va_P D vwCl (p_V cI cO aV σ ++ p_M cI aM τ) H → va_S (lawA s) s.heap H locs → lv_has ls 4 [(3, .int (nI i)), (2, .ref (aM 0)), (1, .ref (aV 0)), (0, .ref b)] → W p l e room_1 s m #[Value.ref b] below meth c H locs cells slots (lw_Z below #[Value.ref b] s) (F0 m 1081 ls [])) (σ τ : qM) (H : Heap) (locs : List Loc) (ls : Array Slot) (hR : Rel σ τ) (hP : va_P D vwCl (p_V cI cO aV σ ++ p_M cI aM τ) H) (hS : va_S (lawA s) s.heap H locs) (hl : lv_has ls 4 [(3, .int (nI i)), (2, .ref (aM 0)), (1, .ref (aV 0)), (0, .ref b)]) : W p l e room_1 s m #[Value.ref b] below meth c H locs cells slots (lw_Z below #[Value.ref b] s) (F0 m 1058 ls []) := by
  obtain ⟨hx, hb, hr, hml, hown, hts, hX, hbl, hlocks, hgv⟩ := id C0
  have hown : s.vm.findClass RL = some m.cls := hown
  have hts : ∀ w ∈ wsL_law, w.before #[Value.ref b] s = true := fun w h => hts w (wsL_law_in w h)
  have hA : ∀ q : Nat, s.heap.size ≤ q → lawA s q := fun _ h => h
  have hbA : ¬ lawA s b := Nat.not_le.mpr hbl
  have hi1 : vp_in (nI i + 1) L := law_in (j := 1) (by omega) hL rfl
  obtain ⟨r9, σ1, τ1, e1, e2, hR⟩ := hS1 σ τ (xs (nI i + 1).toNatClampNeg) hR
  refine lv_aload_n hx hb dL_law_1058 rfl (lv_at hl 2 rfl) ?_
  refine lv_aload_n hx hb dL_law_1059 rfl (lv_at hl 3 rfl) ?_
  refine lv_iload_n hx hb dL_law_1060 rfl (lv_at hl 0 rfl) ?_
  refine lv_iconst (v := 1) hx hb dL_law_1061 (by decide +kernel) ?_
  refine lv_iadd hx hb dL_law_1062 ?_
  refine va_sld hx hb hX hbl hbA hS hi1 dL_law_1063 ?_
  refine x_cVi (lawV cI cO aV aM τ) (p_V cI cO aV) (fun σ1 => σ1) [] [.int (xs (nI i + 1).toNatClampNeg)] (σ := σ) (σC := σ) (K := fun z s1 => some (z, s1)) (r0 := (r9, σ1)) hx hb hml hl.1 hown hts hK hP (fun σ1 => hD σ1 τ) hS hA rfl (c_X7_count l D cI cO tys ht ht1 aV σ (xs (nI i + 1).toNatClampNeg)) gL_law_X7_count rfl ⟨rfl, rfl⟩ i_X7_count ⟨Nat.le_of_ble_eq_true rfl, Nat.le_of_ble_eq_true rfl⟩ (law_frV cI cO aV aM σ τ) (g_V_0 cI cO aV σ) rfl rfl (Nat.le_of_ble_eq_true rfl) hcs dL_law_1064 (by rw [e1]; rfl) (fun z9 H locs s9 hP hS h => ?_)
  obtain ⟨rfl, rfl⟩ := Prod.mk.inj (Option.some.inj h)
  have hP : va_P D vwCl (lawM cI cO aV aM s9 τ) H := hP
  refine lv_aload_n hx hb dL_law_1067 rfl (lv_at hl 1 rfl) ?_
  refine lv_aload_n hx hb dL_law_1068 rfl (lv_at hl 3 rfl) ?_
  refine lv_iload_n hx hb dL_law_1069 rfl (lv_at hl 0 rfl) ?_
  refine lv_iconst (v := 1) hx hb dL_law_1070 (by decide +kernel) ?_
  refine lv_iadd hx hb dL_law_1071 ?_
  refine va_sld hx hb hX hbl hbA hS hi1 dL_law_1072 ?_
  refine x_cVi (lawM cI cO aV aM s9) (p_M cI aM) (fun σ1 => σ1) [.int z9] [.int (xs (nI i + 1).toNatClampNeg)] (σ := τ) (σC := τ) (K := fun z s1 => some (z, s1)) (r0 := (z9, τ1)) hx hb hml hl.1 hown hts hK hP (fun τ1 => hD s9 τ1) hS hA rfl (c_X8_count l D cI tys ht aM τ (xs (nI i + 1).toNatClampNeg)) gL_law_X8_count rfl ⟨rfl, rfl⟩ i_X8_count ⟨Nat.le_of_ble_eq_true rfl, Nat.le_of_ble_eq_true rfl⟩ (law_frM cI cO aV aM s9 τ) (g_M_0 cI aM τ) rfl rfl (Nat.le_of_ble_eq_true rfl) hcs dL_law_1073 (by rw [e2]; rfl) (fun y9 H locs t9 hP hS h => ?_)
  obtain ⟨rfl, rfl⟩ := Prod.mk.inj (Option.some.inj h)
  refine lv_icmp_eq (tgt := 1081) hx hb dL_law_1076 (by decide) (fun _ => ?_) (fun c9 => absurd rfl c9)
  exact kk _ _ _ _ _ hR hP hS hl
set_option maxHeartbeats 4000000 in
set_option maxRecDepth 100000 in
theorem law_loop {p : Program} {e : Env} {s : State} {m : MethodId} {below : List Frame} {meth : Method} {c : Code} {l : Launch} {b L : Nat} {xs : Nat → Int32} {cI cO : ClassId} {D : va_G} {aV aM : Nat → Nat} {cells slots : Nat} {tys : List (ClassId × FieldType)} (hL : L ≤ 2560) (C0 : lw_At p s m meth c b L xs) (ht : tys[0]? = some (cI, .int)) (ht1 : tys[1]? = some (cO, .object "VectorRounds$Holder")) (hK : va_K D vwCl tys s) (hD : ∀ σ τ, va_D (lawA s) (p_V cI cO aV σ ++ p_M cI aM τ)) (hcs : cells ≤ 600000 ∧ slots ≤ 7302250) {Rel : qM → qM → Prop} (hSS : law_S Rel) : ∀ (n i : Nat), L < i + n → i ≤ 2600 → ∀ (σ τ : qM) (H : Heap) (locs : List Loc) (ls : Array Slot), Rel σ τ → va_P D vwCl (p_V cI cO aV σ ++ p_M cI aM τ) H → va_S (lawA s) s.heap H locs → lv_has ls 4 [(3, .int (nI i)), (2, .ref (aM 0)), (1, .ref (aV 0)), (0, .ref b)] → W p l e room_1 s m #[Value.ref b] below meth c H locs cells slots (lw_Z below #[Value.ref b] s) (F0 m 18 ls []) := by
  obtain ⟨q0, q1, q2, q3, q4, q5, q6, q7, q8, q9, q10, q11, q12, q13, q14, q15, q16, q17, q18, q19, q20, q21, q22, q23, q24, q25, q26, q27, q28⟩ := hSS
  obtain ⟨hx, hb, hr, hml, hown, hts, hX, hbl, hlocks, hgv⟩ := id C0
  have hown : s.vm.findClass RL = some m.cls := hown
  have hts : ∀ w ∈ wsL_law, w.before #[Value.ref b] s = true := fun w h => hts w (wsL_law_in w h)
  have hA : ∀ q : Nat, s.heap.size ≤ q → lawA s q := fun _ h => h
  have hbA : ¬ lawA s b := Nat.not_le.mpr hbl
  intro n
  induction n with
  | zero =>
    intro i hn hi σ τ H locs ls hR hP hS hl
    refine lv_iload_n hx hb dL_law_18 rfl (lv_at hl 0 rfl) ?_
    refine lv_aload_n hx hb dL_law_19 rfl (lv_at hl 3 rfl) ?_
    refine va_slen hx hb hX hbl hbA hS dL_law_20 ?_
    refine lv_iconst (v := 5) hx hb dL_law_21 (by decide +kernel) ?_
    refine lv_isub hx hb dL_law_22 ?_
    refine lv_icmp_gt (tgt := 1087) hx hb dL_law_23 (by decide) (fun c1 => ?_) (fun c1 => ?_)
    · refine lv_iconst (v := 1) hx hb dL_law_1087 (by decide +kernel) ?_
      refine va_forget (fun q hq => hS.2.2 q hq) ?_
      refine W.widen hcs.1 hcs.2 ?_
      exact lw_ret hx hb hr hlocks dL_law_1088
    · exact absurd ((law_gt hi hL).mpr (by omega)) c1
  | succ n ih =>
    intro i hn hi σ τ H locs ls hR hP hS hl
    refine lv_iload_n hx hb dL_law_18 rfl (lv_at hl 0 rfl) ?_
    refine lv_aload_n hx hb dL_law_19 rfl (lv_at hl 3 rfl) ?_
    refine va_slen hx hb hX hbl hbA hS dL_law_20 ?_
    refine lv_iconst (v := 5) hx hb dL_law_21 (by decide +kernel) ?_
    refine lv_isub hx hb dL_law_22 ?_
    refine lv_icmp_gt (tgt := 1087) hx hb dL_law_23 (by decide) (fun c1 => ?_) (fun c1 => ?_)
    · refine lv_iconst (v := 1) hx hb dL_law_1087 (by decide +kernel) ?_
      refine va_forget (fun q hq => hS.2.2 q hq) ?_
      refine W.widen hcs.1 hcs.2 ?_
      exact lw_ret hx hb hr hlocks dL_law_1088
    have hi5 : i + 5 ≤ L := by
      have h1 : ¬ L < i + 5 := fun h => c1 ((law_gt hi hL).mpr h)
      omega
    have hi0 : vp_in (nI i) L := vp_in_nI (by omega) (by omega)
    have kk : ∀ (σ τ : qM) (H : Heap) (locs : List Loc) (ls : Array Slot), Rel σ τ → va_P D vwCl (p_V cI cO aV σ ++ p_M cI aM τ) H → va_S (lawA s) s.heap H locs → lv_has ls 4 [(3, .int (nI i)), (2, .ref (aM 0)), (1, .ref (aV 0)), (0, .ref b)] → W p l e room_1 s m #[Value.ref b] below meth c H locs cells slots (lw_Z below #[Value.ref b] s) (F0 m 1081 ls []) := by
      intro σ τ H locs ls hR hP hS hl
      refine lv_iinc (v := nI (i + 5)) (lv' := [(3, .int (nI (i + 5))), (2, .ref (aM 0)), (1, .ref (aV 0)), (0, .ref b)]) (k := 0) hx hb dL_law_1081 hl rfl (by rw [show Int32.ofInt 5 = nI 5 from rfl, nI_add]) (by decide) rfl (fun ls hl => ?_)
      refine lv_goto (tgt := 18) hx hb dL_law_1084 (by decide) ?_
      exact ih (i + 5) (by omega) (by omega) σ τ H locs ls hR hP hS hl
    refine lv_aload_n hx hb dL_law_26 rfl (lv_at hl 3 rfl) ?_
    refine lv_iload_n hx hb dL_law_27 rfl (lv_at hl 0 rfl) ?_
    refine va_sld hx hb hX hbl hbA hS hi0 dL_law_28 ?_
    refine lv_bipush (v := 31) hx hb dL_law_29 (by decide +kernel) ?_
    refine lv_iand hx hb dL_law_31 ?_
    refine lv_topi (fun x9 e9 => ?_)
    by_cases c09 : x9 = 0
    · refine x_tsw_in (v := 0) (off := 132) (tgt := 164) hx hb dL_law_32 c09 (by decide +kernel) ?_
      exact law_c0 hL C0 ht ht1 hK hD hcs q0 hi5 kk σ τ _ _ _ hR hP hS hl
    by_cases c19 : x9 = 1
    · refine x_tsw_in (v := 1) (off := 145) (tgt := 177) hx hb dL_law_32 c19 (by decide +kernel) ?_
      exact law_c1 hL C0 ht ht1 hK hD hcs q1 hi5 kk σ τ _ _ _ hR hP hS hl
    by_cases c29 : x9 = 2
    · refine x_tsw_in (v := 2) (off := 188) (tgt := 220) hx hb dL_law_32 c29 (by decide +kernel) ?_
      exact law_c2 hL C0 ht ht1 hK hD hcs q2 hi5 kk σ τ _ _ _ hR hP hS hl
    by_cases c39 : x9 = 3
    · refine x_tsw_in (v := 3) (off := 221) (tgt := 253) hx hb dL_law_32 c39 (by decide +kernel) ?_
      exact law_c3 hL C0 ht ht1 hK hD hcs q3 hi5 kk σ τ _ _ _ hR hP hS hl
    by_cases c49 : x9 = 4
    · refine x_tsw_in (v := 4) (off := 254) (tgt := 286) hx hb dL_law_32 c49 (by decide +kernel) ?_
      exact law_c4 hL C0 ht ht1 hK hD hcs q4 hi5 kk σ τ _ _ _ hR hP hS hl
    by_cases c59 : x9 = 5
    · refine x_tsw_in (v := 5) (off := 287) (tgt := 319) hx hb dL_law_32 c59 (by decide +kernel) ?_
      exact law_c5 hL C0 ht ht1 hK hD hcs q5 hi5 kk σ τ _ _ _ hR hP hS hl
    by_cases c69 : x9 = 6
    · refine x_tsw_in (v := 6) (off := 320) (tgt := 352) hx hb dL_law_32 c69 (by decide +kernel) ?_
      exact law_c6 hL C0 ht ht1 hK hD hcs q6 hi5 kk σ τ _ _ _ hR hP hS hl
    by_cases c79 : x9 = 7
    · refine x_tsw_in (v := 7) (off := 353) (tgt := 385) hx hb dL_law_32 c79 (by decide +kernel) ?_
      exact law_c7 hL C0 ht ht1 hK hD hcs q7 hi5 kk σ τ _ _ _ hR hP hS hl
    by_cases c89 : x9 = 8
    · refine x_tsw_in (v := 8) (off := 376) (tgt := 408) hx hb dL_law_32 c89 (by decide +kernel) ?_
      exact law_c8 hL C0 ht ht1 hK hD hcs q8 hi5 kk σ τ _ _ _ hR hP hS hl
    by_cases c99 : x9 = 9
    · refine x_tsw_in (v := 9) (off := 419) (tgt := 451) hx hb dL_law_32 c99 (by decide +kernel) ?_
      exact law_c9 hL C0 ht ht1 hK hD hcs q9 hi5 kk σ τ _ _ _ hR hP hS hl
    by_cases c109 : x9 = 10
    · refine x_tsw_in (v := 10) (off := 452) (tgt := 484) hx hb dL_law_32 c109 (by decide +kernel) ?_
      exact law_c10 hL C0 ht ht1 hK hD hcs q10 hi5 kk σ τ _ _ _ hR hP hS hl
    by_cases c119 : x9 = 11
    · refine x_tsw_in (v := 11) (off := 475) (tgt := 507) hx hb dL_law_32 c119 (by decide +kernel) ?_
      exact law_c11 hL C0 ht ht1 hK hD hcs q11 hi5 kk σ τ _ _ _ hR hP hS hl
    by_cases c129 : x9 = 12
    · refine x_tsw_in (v := 12) (off := 528) (tgt := 560) hx hb dL_law_32 c129 (by decide +kernel) ?_
      exact law_c12 hL C0 ht ht1 hK hD hcs q12 hi5 kk σ τ _ _ _ hR hP hS hl
    by_cases c139 : x9 = 13
    · refine x_tsw_in (v := 13) (off := 571) (tgt := 603) hx hb dL_law_32 c139 (by decide +kernel) ?_
      exact law_c13 hL C0 ht ht1 hK hD hcs q13 hi5 kk σ τ _ _ _ hR hP hS hl
    by_cases c149 : x9 = 14
    · refine x_tsw_in (v := 14) (off := 604) (tgt := 636) hx hb dL_law_32 c149 (by decide +kernel) ?_
      exact law_c14 hL C0 ht ht1 hK hD hcs q14 hi5 kk σ τ _ _ _ hR hP hS hl
    by_cases c159 : x9 = 15
    · refine x_tsw_in (v := 15) (off := 637) (tgt := 669) hx hb dL_law_32 c159 (by decide +kernel) ?_
      exact law_c15 hL C0 ht ht1 hK hD hcs q15 hi5 kk σ τ _ _ _ hR hP hS hl
    by_cases c169 : x9 = 16
    · refine x_tsw_in (v := 16) (off := 670) (tgt := 702) hx hb dL_law_32 c169 (by decide +kernel) ?_
      exact law_c16 hL C0 ht ht1 hK hD hcs q16 hi5 kk σ τ _ _ _ hR hP hS hl
    by_cases c179 : x9 = 17
    · refine x_tsw_in (v := 17) (off := 723) (tgt := 755) hx hb dL_law_32 c179 (by decide +kernel) ?_
      exact law_c17 hL C0 ht ht1 hK hD hcs q17 hi5 kk σ τ _ _ _ hR hP hS hl
    by_cases c189 : x9 = 18
    · refine x_tsw_in (v := 18) (off := 746) (tgt := 778) hx hb dL_law_32 c189 (by decide +kernel) ?_
      exact law_c18 hL C0 ht ht1 hK hD hcs q18 hi5 kk σ τ _ _ _ hR hP hS hl
    by_cases c199 : x9 = 19
    · refine x_tsw_in (v := 19) (off := 779) (tgt := 811) hx hb dL_law_32 c199 (by decide +kernel) ?_
      exact law_c19 hL C0 ht ht1 hK hD hcs q19 hi5 kk σ τ _ _ _ hR hP hS hl
    by_cases c209 : x9 = 20
    · refine x_tsw_in (v := 20) (off := 812) (tgt := 844) hx hb dL_law_32 c209 (by decide +kernel) ?_
      exact law_c20 hL C0 ht ht1 hK hD hcs q20 hi5 kk σ τ _ _ _ hR hP hS hl
    by_cases c219 : x9 = 21
    · refine x_tsw_in (v := 21) (off := 835) (tgt := 867) hx hb dL_law_32 c219 (by decide +kernel) ?_
      exact law_c21 hL C0 ht ht1 hK hD hcs q21 hi5 kk σ τ _ _ _ hR hP hS hl
    by_cases c229 : x9 = 22
    · refine x_tsw_in (v := 22) (off := 848) (tgt := 880) hx hb dL_law_32 c229 (by decide +kernel) ?_
      exact law_c22 hL C0 ht ht1 hK hD hcs q22 hi5 kk σ τ _ _ _ hR hP hS hl
    by_cases c239 : x9 = 23
    · refine x_tsw_in (v := 23) (off := 861) (tgt := 893) hx hb dL_law_32 c239 (by decide +kernel) ?_
      exact law_c23 hL C0 ht ht1 hK hD hcs q23 hi5 kk σ τ _ _ _ hR hP hS hl
    by_cases c249 : x9 = 24
    · refine x_tsw_in (v := 24) (off := 874) (tgt := 906) hx hb dL_law_32 c249 (by decide +kernel) ?_
      exact law_c24 hL C0 ht ht1 hK hD hcs q24 hi5 kk σ τ _ _ _ hR hP hS hl
    by_cases c259 : x9 = 25
    · refine x_tsw_in (v := 25) (off := 917) (tgt := 949) hx hb dL_law_32 c259 (by decide +kernel) ?_
      exact law_c25 hL C0 ht ht1 hK hD hcs q25 hi5 kk σ τ _ _ _ hR hP hS hl
    by_cases c269 : x9 = 26
    · refine x_tsw_in (v := 26) (off := 950) (tgt := 982) hx hb dL_law_32 c269 (by decide +kernel) ?_
      exact law_c26 hL C0 ht ht1 hK hD hcs q26 hi5 kk σ τ _ _ _ hR hP hS hl
    by_cases c279 : x9 = 27
    · refine x_tsw_in (v := 27) (off := 993) (tgt := 1025) hx hb dL_law_32 c279 (by decide +kernel) ?_
      exact law_c27 hL C0 ht ht1 hK hD hcs q27 hi5 kk σ τ _ _ _ hR hP hS hl
    by_cases c289 : x9 = 28
    · refine x_tsw_in (v := 28) (off := 1026) (tgt := 1058) hx hb dL_law_32 c289 (by decide +kernel) ?_
      exact law_c28 hL C0 ht ht1 hK hD hcs q28 hi5 kk σ τ _ _ _ hR hP hS hl
    refine x_tsw_out (tgt := 1081) hx hb dL_law_32 29 (by decide) (fun k9 hk9 => ?_) (by decide) ?_
    · rcases (show k9 = 0 ∨ k9 = 1 ∨ k9 = 2 ∨ k9 = 3 ∨ k9 = 4 ∨ k9 = 5 ∨ k9 = 6 ∨ k9 = 7 ∨ k9 = 8 ∨ k9 = 9 ∨ k9 = 10 ∨ k9 = 11 ∨ k9 = 12 ∨ k9 = 13 ∨ k9 = 14 ∨ k9 = 15 ∨ k9 = 16 ∨ k9 = 17 ∨ k9 = 18 ∨ k9 = 19 ∨ k9 = 20 ∨ k9 = 21 ∨ k9 = 22 ∨ k9 = 23 ∨ k9 = 24 ∨ k9 = 25 ∨ k9 = 26 ∨ k9 = 27 ∨ k9 = 28 by omega) with rfl | rfl | rfl | rfl | rfl | rfl | rfl | rfl | rfl | rfl | rfl | rfl | rfl | rfl | rfl | rfl | rfl | rfl | rfl | rfl | rfl | rfl | rfl | rfl | rfl | rfl | rfl | rfl | rfl
      · exact fun h9 => c09 (h9.trans (by decide +kernel))
      · exact fun h9 => c19 (h9.trans (by decide +kernel))
      · exact fun h9 => c29 (h9.trans (by decide +kernel))
      · exact fun h9 => c39 (h9.trans (by decide +kernel))
      · exact fun h9 => c49 (h9.trans (by decide +kernel))
      · exact fun h9 => c59 (h9.trans (by decide +kernel))
      · exact fun h9 => c69 (h9.trans (by decide +kernel))
      · exact fun h9 => c79 (h9.trans (by decide +kernel))
      · exact fun h9 => c89 (h9.trans (by decide +kernel))
      · exact fun h9 => c99 (h9.trans (by decide +kernel))
      · exact fun h9 => c109 (h9.trans (by decide +kernel))
      · exact fun h9 => c119 (h9.trans (by decide +kernel))
      · exact fun h9 => c129 (h9.trans (by decide +kernel))
      · exact fun h9 => c139 (h9.trans (by decide +kernel))
      · exact fun h9 => c149 (h9.trans (by decide +kernel))
      · exact fun h9 => c159 (h9.trans (by decide +kernel))
      · exact fun h9 => c169 (h9.trans (by decide +kernel))
      · exact fun h9 => c179 (h9.trans (by decide +kernel))
      · exact fun h9 => c189 (h9.trans (by decide +kernel))
      · exact fun h9 => c199 (h9.trans (by decide +kernel))
      · exact fun h9 => c209 (h9.trans (by decide +kernel))
      · exact fun h9 => c219 (h9.trans (by decide +kernel))
      · exact fun h9 => c229 (h9.trans (by decide +kernel))
      · exact fun h9 => c239 (h9.trans (by decide +kernel))
      · exact fun h9 => c249 (h9.trans (by decide +kernel))
      · exact fun h9 => c259 (h9.trans (by decide +kernel))
      · exact fun h9 => c269 (h9.trans (by decide +kernel))
      · exact fun h9 => c279 (h9.trans (by decide +kernel))
      · exact fun h9 => c289 (h9.trans (by decide +kernel))
    exact kk σ τ _ _ _ hR hP hS hl
