/-! ProofKernel: the rules, hypotheses and conclusions. By wip/whole/m_k3.py -/
def sBnd (Tm : List (List Nat)) (h v : Nat) : Bool := (List.range Tm.length).any (fun t => h.testBit t && decide (v ∈ Tm.getD t []))
theorem sBnd_t {Tm : List (List Nat)} {h v t : Nat} {row : List Nat} (ht : Tm[t]? = some row) (h1 : h.testBit t = true) (h2 : v ∈ row) : sBnd Tm h v = true := by
  unfold sBnd
  rw [List.any_eq_true]
  exact ⟨t, List.mem_range.mpr (List.getElem?_eq_some_iff.mp ht).1, by rw [List.getD_eq_getElem?_getD, ht]; simp [h1, h2]⟩
theorem sBnd_f {Tm : List (List Nat)} {h v : Nat} (g : ∀ t, t < Tm.length → ∀ row, Tm[t]? = some row → ¬ (h.testBit t = true ∧ v ∈ row)) : sBnd Tm h v = false := by
  unfold sBnd
  rw [List.any_eq_false]
  intro t ht
  have hl := List.mem_range.mp ht
  have := g t hl _ (List.getElem?_eq_getElem hl)
  rw [List.getD_eq_getElem?_getD, List.getElem?_eq_getElem hl]
  simpa using this
theorem bits60 {h : Nat} (g : ∀ t : Nat, h.testBit t = true → t < 60) : h < 2 ^ 60 := Nat.lt_pow_two_of_testBit h (fun t ht => by
  cases e : h.testBit t with
  | false => rfl
  | true => exact absurd (g t e) (by omega))
set_option maxRecDepth 100000 in
set_option maxHeartbeats 4000000 in
theorem c_K_binds_0 {τ : Nat × Nat} {a : Nat → Nat} {i : Nat → Int32} {r : Nat → Nat → Int32} {L : Nat → Int64} {wr : pW} (x y : Int32) : pC m_K_bindsWhatIsAssumed τ [.ref (a 0), .int (nI 0), .int x, .int y] (wX a i r L ++ wr) (fun rr w2 => rr = some (.int (bI false)) ∧ w2 = wX a i r L ++ wr) := by
  refine pC.of rfl (Nat.le_of_ble_eq_true rfl) ?_
  show pG m_K_bindsWhatIsAssumed τ _ 0 0 0 [(0, _), (1, _), (2, _), (3, _)] [] _
  refine g_iload_n (pc := 0) d_K_bindsWhatIsAssumed_0 rfl ?_
  refine g_iconst (pc := 1) (v := nI 4) d_K_bindsWhatIsAssumed_1 (by decide) ?_
  refine g_nicmp_eq (pc := 2) (tgt := 13) d_K_bindsWhatIsAssumed_2 (by decide) (by omega) (by omega) (fun h => absurd h (by decide)) (fun h2 => ?_)
  refine g_iload_n (pc := 5) d_K_bindsWhatIsAssumed_5 rfl ?_
  refine g_bipush (pc := 6) (v := nI 10) d_K_bindsWhatIsAssumed_6 (by decide) ?_
  refine g_nicmp_eq (pc := 8) (tgt := 13) d_K_bindsWhatIsAssumed_8 (by decide) (by omega) (by omega) (fun h => absurd h (by decide)) (fun h8 => ?_)
  refine g_iconst (pc := 11) (v := nI 0) d_K_bindsWhatIsAssumed_11 (by decide) ?_
  refine g_zret (pc := 12) d_K_bindsWhatIsAssumed_12 rfl (by decide) (Nat.le_refl _) (Nat.le_refl _) ?_
  exact ⟨rfl, rfl⟩
set_option maxRecDepth 100000 in
set_option maxHeartbeats 4000000 in
theorem c_K_binds_1 {τ : Nat × Nat} {a : Nat → Nat} {i : Nat → Int32} {r : Nat → Nat → Int32} {L : Nat → Int64} {wr : pW} (x y : Int32) : pC m_K_bindsWhatIsAssumed τ [.ref (a 0), .int (nI 1), .int x, .int y] (wX a i r L ++ wr) (fun rr w2 => rr = some (.int (bI false)) ∧ w2 = wX a i r L ++ wr) := by
  refine pC.of rfl (Nat.le_of_ble_eq_true rfl) ?_
  show pG m_K_bindsWhatIsAssumed τ _ 0 0 0 [(0, _), (1, _), (2, _), (3, _)] [] _
  refine g_iload_n (pc := 0) d_K_bindsWhatIsAssumed_0 rfl ?_
  refine g_iconst (pc := 1) (v := nI 4) d_K_bindsWhatIsAssumed_1 (by decide) ?_
  refine g_nicmp_eq (pc := 2) (tgt := 13) d_K_bindsWhatIsAssumed_2 (by decide) (by omega) (by omega) (fun h => absurd h (by decide)) (fun h2 => ?_)
  refine g_iload_n (pc := 5) d_K_bindsWhatIsAssumed_5 rfl ?_
  refine g_bipush (pc := 6) (v := nI 10) d_K_bindsWhatIsAssumed_6 (by decide) ?_
  refine g_nicmp_eq (pc := 8) (tgt := 13) d_K_bindsWhatIsAssumed_8 (by decide) (by omega) (by omega) (fun h => absurd h (by decide)) (fun h8 => ?_)
  refine g_iconst (pc := 11) (v := nI 0) d_K_bindsWhatIsAssumed_11 (by decide) ?_
  refine g_zret (pc := 12) d_K_bindsWhatIsAssumed_12 rfl (by decide) (Nat.le_refl _) (Nat.le_refl _) ?_
  exact ⟨rfl, rfl⟩
set_option maxRecDepth 100000 in
set_option maxHeartbeats 4000000 in
theorem c_K_binds_2 {τ : Nat × Nat} {a : Nat → Nat} {i : Nat → Int32} {r : Nat → Nat → Int32} {L : Nat → Int64} {wr : pW} (x y : Int32) : pC m_K_bindsWhatIsAssumed τ [.ref (a 0), .int (nI 2), .int x, .int y] (wX a i r L ++ wr) (fun rr w2 => rr = some (.int (bI false)) ∧ w2 = wX a i r L ++ wr) := by
  refine pC.of rfl (Nat.le_of_ble_eq_true rfl) ?_
  show pG m_K_bindsWhatIsAssumed τ _ 0 0 0 [(0, _), (1, _), (2, _), (3, _)] [] _
  refine g_iload_n (pc := 0) d_K_bindsWhatIsAssumed_0 rfl ?_
  refine g_iconst (pc := 1) (v := nI 4) d_K_bindsWhatIsAssumed_1 (by decide) ?_
  refine g_nicmp_eq (pc := 2) (tgt := 13) d_K_bindsWhatIsAssumed_2 (by decide) (by omega) (by omega) (fun h => absurd h (by decide)) (fun h2 => ?_)
  refine g_iload_n (pc := 5) d_K_bindsWhatIsAssumed_5 rfl ?_
  refine g_bipush (pc := 6) (v := nI 10) d_K_bindsWhatIsAssumed_6 (by decide) ?_
  refine g_nicmp_eq (pc := 8) (tgt := 13) d_K_bindsWhatIsAssumed_8 (by decide) (by omega) (by omega) (fun h => absurd h (by decide)) (fun h8 => ?_)
  refine g_iconst (pc := 11) (v := nI 0) d_K_bindsWhatIsAssumed_11 (by decide) ?_
  refine g_zret (pc := 12) d_K_bindsWhatIsAssumed_12 rfl (by decide) (Nat.le_refl _) (Nat.le_refl _) ?_
  exact ⟨rfl, rfl⟩
set_option maxRecDepth 100000 in
set_option maxHeartbeats 4000000 in
theorem c_K_binds_3 {τ : Nat × Nat} {a : Nat → Nat} {i : Nat → Int32} {r : Nat → Nat → Int32} {L : Nat → Int64} {wr : pW} (x y : Int32) : pC m_K_bindsWhatIsAssumed τ [.ref (a 0), .int (nI 3), .int x, .int y] (wX a i r L ++ wr) (fun rr w2 => rr = some (.int (bI false)) ∧ w2 = wX a i r L ++ wr) := by
  refine pC.of rfl (Nat.le_of_ble_eq_true rfl) ?_
  show pG m_K_bindsWhatIsAssumed τ _ 0 0 0 [(0, _), (1, _), (2, _), (3, _)] [] _
  refine g_iload_n (pc := 0) d_K_bindsWhatIsAssumed_0 rfl ?_
  refine g_iconst (pc := 1) (v := nI 4) d_K_bindsWhatIsAssumed_1 (by decide) ?_
  refine g_nicmp_eq (pc := 2) (tgt := 13) d_K_bindsWhatIsAssumed_2 (by decide) (by omega) (by omega) (fun h => absurd h (by decide)) (fun h2 => ?_)
  refine g_iload_n (pc := 5) d_K_bindsWhatIsAssumed_5 rfl ?_
  refine g_bipush (pc := 6) (v := nI 10) d_K_bindsWhatIsAssumed_6 (by decide) ?_
  refine g_nicmp_eq (pc := 8) (tgt := 13) d_K_bindsWhatIsAssumed_8 (by decide) (by omega) (by omega) (fun h => absurd h (by decide)) (fun h8 => ?_)
  refine g_iconst (pc := 11) (v := nI 0) d_K_bindsWhatIsAssumed_11 (by decide) ?_
  refine g_zret (pc := 12) d_K_bindsWhatIsAssumed_12 rfl (by decide) (Nat.le_refl _) (Nat.le_refl _) ?_
  exact ⟨rfl, rfl⟩
set_option maxRecDepth 100000 in
set_option maxHeartbeats 4000000 in
theorem c_K_binds_5 {τ : Nat × Nat} {a : Nat → Nat} {i : Nat → Int32} {r : Nat → Nat → Int32} {L : Nat → Int64} {wr : pW} (x y : Int32) : pC m_K_bindsWhatIsAssumed τ [.ref (a 0), .int (nI 5), .int x, .int y] (wX a i r L ++ wr) (fun rr w2 => rr = some (.int (bI false)) ∧ w2 = wX a i r L ++ wr) := by
  refine pC.of rfl (Nat.le_of_ble_eq_true rfl) ?_
  show pG m_K_bindsWhatIsAssumed τ _ 0 0 0 [(0, _), (1, _), (2, _), (3, _)] [] _
  refine g_iload_n (pc := 0) d_K_bindsWhatIsAssumed_0 rfl ?_
  refine g_iconst (pc := 1) (v := nI 4) d_K_bindsWhatIsAssumed_1 (by decide) ?_
  refine g_nicmp_eq (pc := 2) (tgt := 13) d_K_bindsWhatIsAssumed_2 (by decide) (by omega) (by omega) (fun h => absurd h (by decide)) (fun h2 => ?_)
  refine g_iload_n (pc := 5) d_K_bindsWhatIsAssumed_5 rfl ?_
  refine g_bipush (pc := 6) (v := nI 10) d_K_bindsWhatIsAssumed_6 (by decide) ?_
  refine g_nicmp_eq (pc := 8) (tgt := 13) d_K_bindsWhatIsAssumed_8 (by decide) (by omega) (by omega) (fun h => absurd h (by decide)) (fun h8 => ?_)
  refine g_iconst (pc := 11) (v := nI 0) d_K_bindsWhatIsAssumed_11 (by decide) ?_
  refine g_zret (pc := 12) d_K_bindsWhatIsAssumed_12 rfl (by decide) (Nat.le_refl _) (Nat.le_refl _) ?_
  exact ⟨rfl, rfl⟩
set_option maxRecDepth 100000 in
set_option maxHeartbeats 4000000 in
theorem c_K_binds_6 {τ : Nat × Nat} {a : Nat → Nat} {i : Nat → Int32} {r : Nat → Nat → Int32} {L : Nat → Int64} {wr : pW} (x y : Int32) : pC m_K_bindsWhatIsAssumed τ [.ref (a 0), .int (nI 6), .int x, .int y] (wX a i r L ++ wr) (fun rr w2 => rr = some (.int (bI false)) ∧ w2 = wX a i r L ++ wr) := by
  refine pC.of rfl (Nat.le_of_ble_eq_true rfl) ?_
  show pG m_K_bindsWhatIsAssumed τ _ 0 0 0 [(0, _), (1, _), (2, _), (3, _)] [] _
  refine g_iload_n (pc := 0) d_K_bindsWhatIsAssumed_0 rfl ?_
  refine g_iconst (pc := 1) (v := nI 4) d_K_bindsWhatIsAssumed_1 (by decide) ?_
  refine g_nicmp_eq (pc := 2) (tgt := 13) d_K_bindsWhatIsAssumed_2 (by decide) (by omega) (by omega) (fun h => absurd h (by decide)) (fun h2 => ?_)
  refine g_iload_n (pc := 5) d_K_bindsWhatIsAssumed_5 rfl ?_
  refine g_bipush (pc := 6) (v := nI 10) d_K_bindsWhatIsAssumed_6 (by decide) ?_
  refine g_nicmp_eq (pc := 8) (tgt := 13) d_K_bindsWhatIsAssumed_8 (by decide) (by omega) (by omega) (fun h => absurd h (by decide)) (fun h8 => ?_)
  refine g_iconst (pc := 11) (v := nI 0) d_K_bindsWhatIsAssumed_11 (by decide) ?_
  refine g_zret (pc := 12) d_K_bindsWhatIsAssumed_12 rfl (by decide) (Nat.le_refl _) (Nat.le_refl _) ?_
  exact ⟨rfl, rfl⟩
set_option maxRecDepth 100000 in
set_option maxHeartbeats 4000000 in
theorem c_K_binds_7 {τ : Nat × Nat} {a : Nat → Nat} {i : Nat → Int32} {r : Nat → Nat → Int32} {L : Nat → Int64} {wr : pW} (x y : Int32) : pC m_K_bindsWhatIsAssumed τ [.ref (a 0), .int (nI 7), .int x, .int y] (wX a i r L ++ wr) (fun rr w2 => rr = some (.int (bI false)) ∧ w2 = wX a i r L ++ wr) := by
  refine pC.of rfl (Nat.le_of_ble_eq_true rfl) ?_
  show pG m_K_bindsWhatIsAssumed τ _ 0 0 0 [(0, _), (1, _), (2, _), (3, _)] [] _
  refine g_iload_n (pc := 0) d_K_bindsWhatIsAssumed_0 rfl ?_
  refine g_iconst (pc := 1) (v := nI 4) d_K_bindsWhatIsAssumed_1 (by decide) ?_
  refine g_nicmp_eq (pc := 2) (tgt := 13) d_K_bindsWhatIsAssumed_2 (by decide) (by omega) (by omega) (fun h => absurd h (by decide)) (fun h2 => ?_)
  refine g_iload_n (pc := 5) d_K_bindsWhatIsAssumed_5 rfl ?_
  refine g_bipush (pc := 6) (v := nI 10) d_K_bindsWhatIsAssumed_6 (by decide) ?_
  refine g_nicmp_eq (pc := 8) (tgt := 13) d_K_bindsWhatIsAssumed_8 (by decide) (by omega) (by omega) (fun h => absurd h (by decide)) (fun h8 => ?_)
  refine g_iconst (pc := 11) (v := nI 0) d_K_bindsWhatIsAssumed_11 (by decide) ?_
  refine g_zret (pc := 12) d_K_bindsWhatIsAssumed_12 rfl (by decide) (Nat.le_refl _) (Nat.le_refl _) ?_
  exact ⟨rfl, rfl⟩
set_option maxRecDepth 100000 in
set_option maxHeartbeats 4000000 in
theorem c_K_binds_8 {τ : Nat × Nat} {a : Nat → Nat} {i : Nat → Int32} {r : Nat → Nat → Int32} {L : Nat → Int64} {wr : pW} (x y : Int32) : pC m_K_bindsWhatIsAssumed τ [.ref (a 0), .int (nI 8), .int x, .int y] (wX a i r L ++ wr) (fun rr w2 => rr = some (.int (bI false)) ∧ w2 = wX a i r L ++ wr) := by
  refine pC.of rfl (Nat.le_of_ble_eq_true rfl) ?_
  show pG m_K_bindsWhatIsAssumed τ _ 0 0 0 [(0, _), (1, _), (2, _), (3, _)] [] _
  refine g_iload_n (pc := 0) d_K_bindsWhatIsAssumed_0 rfl ?_
  refine g_iconst (pc := 1) (v := nI 4) d_K_bindsWhatIsAssumed_1 (by decide) ?_
  refine g_nicmp_eq (pc := 2) (tgt := 13) d_K_bindsWhatIsAssumed_2 (by decide) (by omega) (by omega) (fun h => absurd h (by decide)) (fun h2 => ?_)
  refine g_iload_n (pc := 5) d_K_bindsWhatIsAssumed_5 rfl ?_
  refine g_bipush (pc := 6) (v := nI 10) d_K_bindsWhatIsAssumed_6 (by decide) ?_
  refine g_nicmp_eq (pc := 8) (tgt := 13) d_K_bindsWhatIsAssumed_8 (by decide) (by omega) (by omega) (fun h => absurd h (by decide)) (fun h8 => ?_)
  refine g_iconst (pc := 11) (v := nI 0) d_K_bindsWhatIsAssumed_11 (by decide) ?_
  refine g_zret (pc := 12) d_K_bindsWhatIsAssumed_12 rfl (by decide) (Nat.le_refl _) (Nat.le_refl _) ?_
  exact ⟨rfl, rfl⟩
set_option maxRecDepth 100000 in
set_option maxHeartbeats 4000000 in
theorem c_K_binds_9 {τ : Nat × Nat} {a : Nat → Nat} {i : Nat → Int32} {r : Nat → Nat → Int32} {L : Nat → Int64} {wr : pW} (x y : Int32) : pC m_K_bindsWhatIsAssumed τ [.ref (a 0), .int (nI 9), .int x, .int y] (wX a i r L ++ wr) (fun rr w2 => rr = some (.int (bI false)) ∧ w2 = wX a i r L ++ wr) := by
  refine pC.of rfl (Nat.le_of_ble_eq_true rfl) ?_
  show pG m_K_bindsWhatIsAssumed τ _ 0 0 0 [(0, _), (1, _), (2, _), (3, _)] [] _
  refine g_iload_n (pc := 0) d_K_bindsWhatIsAssumed_0 rfl ?_
  refine g_iconst (pc := 1) (v := nI 4) d_K_bindsWhatIsAssumed_1 (by decide) ?_
  refine g_nicmp_eq (pc := 2) (tgt := 13) d_K_bindsWhatIsAssumed_2 (by decide) (by omega) (by omega) (fun h => absurd h (by decide)) (fun h2 => ?_)
  refine g_iload_n (pc := 5) d_K_bindsWhatIsAssumed_5 rfl ?_
  refine g_bipush (pc := 6) (v := nI 10) d_K_bindsWhatIsAssumed_6 (by decide) ?_
  refine g_nicmp_eq (pc := 8) (tgt := 13) d_K_bindsWhatIsAssumed_8 (by decide) (by omega) (by omega) (fun h => absurd h (by decide)) (fun h8 => ?_)
  refine g_iconst (pc := 11) (v := nI 0) d_K_bindsWhatIsAssumed_11 (by decide) ?_
  refine g_zret (pc := 12) d_K_bindsWhatIsAssumed_12 rfl (by decide) (Nat.le_refl _) (Nat.le_refl _) ?_
  exact ⟨rfl, rfl⟩
set_option maxRecDepth 100000 in
set_option maxHeartbeats 4000000 in
theorem c_K_binds_11 {τ : Nat × Nat} {a : Nat → Nat} {i : Nat → Int32} {r : Nat → Nat → Int32} {L : Nat → Int64} {wr : pW} (x y : Int32) : pC m_K_bindsWhatIsAssumed τ [.ref (a 0), .int (nI 11), .int x, .int y] (wX a i r L ++ wr) (fun rr w2 => rr = some (.int (bI false)) ∧ w2 = wX a i r L ++ wr) := by
  refine pC.of rfl (Nat.le_of_ble_eq_true rfl) ?_
  show pG m_K_bindsWhatIsAssumed τ _ 0 0 0 [(0, _), (1, _), (2, _), (3, _)] [] _
  refine g_iload_n (pc := 0) d_K_bindsWhatIsAssumed_0 rfl ?_
  refine g_iconst (pc := 1) (v := nI 4) d_K_bindsWhatIsAssumed_1 (by decide) ?_
  refine g_nicmp_eq (pc := 2) (tgt := 13) d_K_bindsWhatIsAssumed_2 (by decide) (by omega) (by omega) (fun h => absurd h (by decide)) (fun h2 => ?_)
  refine g_iload_n (pc := 5) d_K_bindsWhatIsAssumed_5 rfl ?_
  refine g_bipush (pc := 6) (v := nI 10) d_K_bindsWhatIsAssumed_6 (by decide) ?_
  refine g_nicmp_eq (pc := 8) (tgt := 13) d_K_bindsWhatIsAssumed_8 (by decide) (by omega) (by omega) (fun h => absurd h (by decide)) (fun h8 => ?_)
  refine g_iconst (pc := 11) (v := nI 0) d_K_bindsWhatIsAssumed_11 (by decide) ?_
  refine g_zret (pc := 12) d_K_bindsWhatIsAssumed_12 rfl (by decide) (Nat.le_refl _) (Nat.le_refl _) ?_
  exact ⟨rfl, rfl⟩
set_option maxRecDepth 100000 in
set_option maxHeartbeats 4000000 in
theorem c_K_binds_12 {τ : Nat × Nat} {a : Nat → Nat} {i : Nat → Int32} {r : Nat → Nat → Int32} {L : Nat → Int64} {wr : pW} (x y : Int32) : pC m_K_bindsWhatIsAssumed τ [.ref (a 0), .int (nI 12), .int x, .int y] (wX a i r L ++ wr) (fun rr w2 => rr = some (.int (bI false)) ∧ w2 = wX a i r L ++ wr) := by
  refine pC.of rfl (Nat.le_of_ble_eq_true rfl) ?_
  show pG m_K_bindsWhatIsAssumed τ _ 0 0 0 [(0, _), (1, _), (2, _), (3, _)] [] _
  refine g_iload_n (pc := 0) d_K_bindsWhatIsAssumed_0 rfl ?_
  refine g_iconst (pc := 1) (v := nI 4) d_K_bindsWhatIsAssumed_1 (by decide) ?_
  refine g_nicmp_eq (pc := 2) (tgt := 13) d_K_bindsWhatIsAssumed_2 (by decide) (by omega) (by omega) (fun h => absurd h (by decide)) (fun h2 => ?_)
  refine g_iload_n (pc := 5) d_K_bindsWhatIsAssumed_5 rfl ?_
  refine g_bipush (pc := 6) (v := nI 10) d_K_bindsWhatIsAssumed_6 (by decide) ?_
  refine g_nicmp_eq (pc := 8) (tgt := 13) d_K_bindsWhatIsAssumed_8 (by decide) (by omega) (by omega) (fun h => absurd h (by decide)) (fun h8 => ?_)
  refine g_iconst (pc := 11) (v := nI 0) d_K_bindsWhatIsAssumed_11 (by decide) ?_
  refine g_zret (pc := 12) d_K_bindsWhatIsAssumed_12 rfl (by decide) (Nat.le_refl _) (Nat.le_refl _) ?_
  exact ⟨rfl, rfl⟩
set_option maxRecDepth 100000 in
set_option maxHeartbeats 4000000 in
theorem c_K_binds_13 {τ : Nat × Nat} {a : Nat → Nat} {i : Nat → Int32} {r : Nat → Nat → Int32} {L : Nat → Int64} {wr : pW} (x y : Int32) : pC m_K_bindsWhatIsAssumed τ [.ref (a 0), .int (nI 13), .int x, .int y] (wX a i r L ++ wr) (fun rr w2 => rr = some (.int (bI false)) ∧ w2 = wX a i r L ++ wr) := by
  refine pC.of rfl (Nat.le_of_ble_eq_true rfl) ?_
  show pG m_K_bindsWhatIsAssumed τ _ 0 0 0 [(0, _), (1, _), (2, _), (3, _)] [] _
  refine g_iload_n (pc := 0) d_K_bindsWhatIsAssumed_0 rfl ?_
  refine g_iconst (pc := 1) (v := nI 4) d_K_bindsWhatIsAssumed_1 (by decide) ?_
  refine g_nicmp_eq (pc := 2) (tgt := 13) d_K_bindsWhatIsAssumed_2 (by decide) (by omega) (by omega) (fun h => absurd h (by decide)) (fun h2 => ?_)
  refine g_iload_n (pc := 5) d_K_bindsWhatIsAssumed_5 rfl ?_
  refine g_bipush (pc := 6) (v := nI 10) d_K_bindsWhatIsAssumed_6 (by decide) ?_
  refine g_nicmp_eq (pc := 8) (tgt := 13) d_K_bindsWhatIsAssumed_8 (by decide) (by omega) (by omega) (fun h => absurd h (by decide)) (fun h8 => ?_)
  refine g_iconst (pc := 11) (v := nI 0) d_K_bindsWhatIsAssumed_11 (by decide) ?_
  refine g_zret (pc := 12) d_K_bindsWhatIsAssumed_12 rfl (by decide) (Nat.le_refl _) (Nat.le_refl _) ?_
  exact ⟨rfl, rfl⟩
set_option maxRecDepth 100000 in
set_option maxHeartbeats 4000000 in
theorem c_K_binds_4 {τ : Nat × Nat} {a : Nat → Nat} {i : Nat → Int32} {r : Nat → Nat → Int32} {L : Nat → Int64} {wr : pW} (Ty : List (Nat × Nat)) (Tm : List (List Nat)) (x y h : Nat) (B : List Nat) (hS : XS Tm i r) (ok : TmOk Ty Tm) (hB : PA (r 2) (30 * y) B) (hx : x < 40) (hh : L x = lN h) (h60 : h < 2 ^ 60) : pC m_K_bindsWhatIsAssumed τ [.ref (a 0), .int (nI 4), .int (nI x), .int (nI y)] (wX a i r L ++ wr) ((fun rr w2 => rr = some (.int (bI (sBnd Tm h (hdt B)))) ∧ w2 = wX a i r L ++ wr)) := by
  have hc := hS.1
  have hT60 := hS.2.1
  have key : ∀ m z : Nat, Tm.length - z = m → z ≤ Tm.length → (∀ t, t < z → ∀ row, Tm[t]? = some row → ¬ (h.testBit t = true ∧ hdt B ∈ row)) → pG m_K_bindsWhatIsAssumed τ (fun rr w2 => rr = some (.int (bI (sBnd Tm h (hdt B)))) ∧ w2 = wX a i r L ++ wr) 0 0 33 [(5, .int (nI z)), (4, .int (nI (hdt B))), (0, .ref (a 0)), (1, .int (nI 4)), (2, .int (nI x)), (3, .int (nI y))] [] (wX a i r L ++ wr) := by
    intro m
    induction m with
    | zero =>
      intro z hm hz ag
      refine g_iload (pc := 33) d_K_bindsWhatIsAssumed_33 rfl ?_
      refine g_aload_n (pc := 35) d_K_bindsWhatIsAssumed_35 rfl ?_
      refine gx_K_shelf (pc := 36) d_K_bindsWhatIsAssumed_36 lf_K_19 ?_
      refine g_callV (M' := m_S_count) (pc := 39) (q := 2) d_K_bindsWhatIsAssumed_39 lm_K_131 (c_S_count) v_S_count rfl rfl rfl (by decide) rfl (Nat.le_of_ble_eq_true rfl) ?_
      rintro _ _ ⟨rfl, rfl⟩
      show pG m_K_bindsWhatIsAssumed τ _ 0 0 42 _ (.int _ :: _) _
      rw [hc]
      refine g_nicmp_ge (pc := 42) (tgt := 83) d_K_bindsWhatIsAssumed_42 (by decide) (by omega) (by omega) (fun h42 => ?_) (fun h => absurd h (by omega))
      refine g_iconst (pc := 83) (v := nI 0) d_K_bindsWhatIsAssumed_83 (by decide) ?_
      refine g_zret (pc := 84) d_K_bindsWhatIsAssumed_84 rfl (by decide) (Nat.le_refl _) (Nat.le_refl _) ?_
      refine ⟨congrArg (fun v => some (Value.int v)) ?_, rfl⟩
      exact bI_0 (sBnd_f (fun t ht => ag t (by omega)))
    | succ m ih =>
      intro z hm hz ag
      obtain ⟨row, hrow⟩ := get_of (show z < Tm.length by omega)
      have hpa := hS.pa ok hrow
      refine g_iload (pc := 33) d_K_bindsWhatIsAssumed_33 rfl ?_
      refine g_aload_n (pc := 35) d_K_bindsWhatIsAssumed_35 rfl ?_
      refine gx_K_shelf (pc := 36) d_K_bindsWhatIsAssumed_36 lf_K_19 ?_
      refine g_callV (M' := m_S_count) (pc := 39) (q := 2) d_K_bindsWhatIsAssumed_39 lm_K_131 (c_S_count) v_S_count rfl rfl rfl (by decide) rfl (Nat.le_of_ble_eq_true rfl) ?_
      rintro _ _ ⟨rfl, rfl⟩
      show pG m_K_bindsWhatIsAssumed τ _ 0 0 42 _ (.int _ :: _) _
      rw [hc]
      refine g_nicmp_ge (pc := 42) (tgt := 83) d_K_bindsWhatIsAssumed_42 (by decide) (by omega) (by omega) (fun h => absurd h (by omega)) (fun h42 => ?_)
      refine g_aload_n (pc := 45) d_K_bindsWhatIsAssumed_45 rfl ?_
      refine gx_K_book (pc := 46) d_K_bindsWhatIsAssumed_46 lf_K_35 ?_
      refine g_iload_n (pc := 49) d_K_bindsWhatIsAssumed_49 rfl ?_
      refine g_callV (M' := m_B_hypothesesOf) (pc := 50) (q := 4) d_K_bindsWhatIsAssumed_50 lm_K_152 (c_B_hypothesesOf x hx) v_B_hypothesesOf rfl rfl rfl (by decide) rfl (Nat.le_of_ble_eq_true rfl) ?_
      rintro _ _ ⟨rfl, rfl⟩
      show pG m_K_bindsWhatIsAssumed τ _ 0 0 53 _ (.long _ :: _) _
      rw [hh]
      refine g_iload (pc := 53) d_K_bindsWhatIsAssumed_53 rfl ?_
      refine g_callS (M' := m_K_isIn) (pc := 55) d_K_bindsWhatIsAssumed_55 lm_K_194 (c_K_isIn h z (by omega) (by omega)) v_K_isIn rfl (by decide) rfl (Nat.le_of_ble_eq_true rfl) ?_
      rintro _ _ ⟨rfl, rfl⟩
      show pG m_K_bindsWhatIsAssumed τ _ 0 0 58 _ (.int _ :: _) _
      refine g_ifb_eq (pc := 58) (tgt := 77) d_K_bindsWhatIsAssumed_58 (by decide) (fun h58 => ?_) (fun h58 => ?_)
      · refine g_niinc (pc := 77) (d := 1) [(5, _), (4, _), (0, _), (1, _), (2, _), (3, _)] d_K_bindsWhatIsAssumed_77 rfl (by decide) rfl ?_
        refine g_goto (pc := 80) (tgt := 33) d_K_bindsWhatIsAssumed_80 (by decide) ?_
        exact ih (z + 1) (by omega) (by omega) (lt_s ag (fun ro hro => by
          rw [hrow] at hro
          have e := Option.some.inj hro
          subst e
          first | exact fun q => by rw [h58] at q; exact Bool.noConfusion q.1 | exact fun q => of_decide_eq_false h72 q.2))
      · refine g_aload_n (pc := 61) d_K_bindsWhatIsAssumed_61 rfl ?_
        refine gx_K_shelf (pc := 62) d_K_bindsWhatIsAssumed_62 lf_K_19 ?_
        refine g_iload (pc := 65) d_K_bindsWhatIsAssumed_65 rfl ?_
        refine g_iload (pc := 67) d_K_bindsWhatIsAssumed_67 rfl ?_
        refine g_callV (M' := m_S_holds) (pc := 69) (q := 2) d_K_bindsWhatIsAssumed_69 lm_K_136 (c_S_holds z (hdt B) row (by omega) hB.hd.2.2 hpa.1 hpa.2.2.2 (hS.2.2 z row hrow).2.1) v_S_holds rfl rfl rfl (by decide) rfl (Nat.le_of_ble_eq_true rfl) ?_
        rintro _ _ ⟨rfl, rfl⟩
        show pG m_K_bindsWhatIsAssumed τ _ 0 0 72 _ (.int _ :: _) _
        refine g_ifb_eq (pc := 72) (tgt := 77) d_K_bindsWhatIsAssumed_72 (by decide) (fun h72 => ?_) (fun h72 => ?_)
        · refine g_niinc (pc := 77) (d := 1) [(5, _), (4, _), (0, _), (1, _), (2, _), (3, _)] d_K_bindsWhatIsAssumed_77 rfl (by decide) rfl ?_
          refine g_goto (pc := 80) (tgt := 33) d_K_bindsWhatIsAssumed_80 (by decide) ?_
          exact ih (z + 1) (by omega) (by omega) (lt_s ag (fun ro hro => by
            rw [hrow] at hro
            have e := Option.some.inj hro
            subst e
            first | exact fun q => by rw [h58] at q; exact Bool.noConfusion q.1 | exact fun q => of_decide_eq_false h72 q.2))
        · refine g_iconst (pc := 75) (v := nI 1) d_K_bindsWhatIsAssumed_75 (by decide) ?_
          refine g_zret (pc := 76) d_K_bindsWhatIsAssumed_76 rfl (by decide) (Nat.le_refl _) (Nat.le_refl _) ?_
          refine ⟨congrArg (fun v => some (Value.int v)) ?_, rfl⟩
          exact bI_1 (sBnd_t hrow h58 (of_decide_eq_true h72))
  refine pC.of rfl (Nat.le_of_ble_eq_true rfl) ?_
  show pG m_K_bindsWhatIsAssumed τ _ 0 0 0 [(0, _), (1, _), (2, _), (3, _)] [] _
  refine g_iload_n (pc := 0) d_K_bindsWhatIsAssumed_0 rfl ?_
  refine g_iconst (pc := 1) (v := nI 4) d_K_bindsWhatIsAssumed_1 (by decide) ?_
  refine g_nicmp_eq (pc := 2) (tgt := 13) d_K_bindsWhatIsAssumed_2 (by decide) (by omega) (by omega) (fun h2 => ?_) (fun h => absurd h (by decide))
  refine g_aload_n (pc := 13) d_K_bindsWhatIsAssumed_13 rfl ?_
  refine gx_K_shelf (pc := 14) d_K_bindsWhatIsAssumed_14 lf_K_19 ?_
  refine g_aload_n (pc := 17) d_K_bindsWhatIsAssumed_17 rfl ?_
  refine gx_K_shelf (pc := 18) d_K_bindsWhatIsAssumed_18 lf_K_19 ?_
  refine g_iload_n (pc := 21) d_K_bindsWhatIsAssumed_21 rfl ?_
  refine g_callV (M' := m_S_start) (pc := 22) (q := 2) d_K_bindsWhatIsAssumed_22 lm_K_69 (c_S_start y) v_S_start rfl rfl rfl (by decide) rfl (Nat.le_of_ble_eq_true rfl) ?_
  rintro _ _ ⟨rfl, rfl⟩
  show pG m_K_bindsWhatIsAssumed τ _ 0 0 25 _ (.int _ :: _) _
  refine g_callV (M' := m_S_token) (pc := 25) (q := 2) d_K_bindsWhatIsAssumed_25 lm_K_90 (c_S_token (30 * y) (hdt B) hB.hd.1 hB.hd.2.1) v_S_token rfl rfl rfl (by decide) rfl (Nat.le_of_ble_eq_true rfl) ?_
  rintro _ _ ⟨rfl, rfl⟩
  show pG m_K_bindsWhatIsAssumed τ _ 0 0 28 _ (.int _ :: _) _
  refine g_istore (pc := 28) [(4, _), (0, _), (1, _), (2, _), (3, _)] d_K_bindsWhatIsAssumed_28 (by decide) rfl ?_
  refine g_iconst (pc := 30) (v := nI 0) d_K_bindsWhatIsAssumed_30 (by decide) ?_
  refine g_istore (pc := 31) [(5, _), (4, _), (0, _), (1, _), (2, _), (3, _)] d_K_bindsWhatIsAssumed_31 (by decide) rfl ?_
  exact key _ 0 rfl (Nat.zero_le _) (fun t ht => absurd ht (Nat.not_lt_zero t))
set_option maxRecDepth 100000 in
set_option maxHeartbeats 4000000 in
theorem c_K_binds_10 {τ : Nat × Nat} {a : Nat → Nat} {i : Nat → Int32} {r : Nat → Nat → Int32} {L : Nat → Int64} {wr : pW} (Ty : List (Nat × Nat)) (Tm : List (List Nat)) (x y h : Nat) (B : List Nat) (hS : XS Tm i r) (ok : TmOk Ty Tm) (hB : PA (r 2) (30 * y) B) (hx : x < 40) (hh : L x = lN h) (h60 : h < 2 ^ 60) : pC m_K_bindsWhatIsAssumed τ [.ref (a 0), .int (nI 10), .int (nI x), .int (nI y)] (wX a i r L ++ wr) ((fun rr w2 => rr = some (.int (bI (sBnd Tm h (hdt B)))) ∧ w2 = wX a i r L ++ wr)) := by
  have hc := hS.1
  have hT60 := hS.2.1
  have key : ∀ m z : Nat, Tm.length - z = m → z ≤ Tm.length → (∀ t, t < z → ∀ row, Tm[t]? = some row → ¬ (h.testBit t = true ∧ hdt B ∈ row)) → pG m_K_bindsWhatIsAssumed τ (fun rr w2 => rr = some (.int (bI (sBnd Tm h (hdt B)))) ∧ w2 = wX a i r L ++ wr) 0 0 33 [(5, .int (nI z)), (4, .int (nI (hdt B))), (0, .ref (a 0)), (1, .int (nI 10)), (2, .int (nI x)), (3, .int (nI y))] [] (wX a i r L ++ wr) := by
    intro m
    induction m with
    | zero =>
      intro z hm hz ag
      refine g_iload (pc := 33) d_K_bindsWhatIsAssumed_33 rfl ?_
      refine g_aload_n (pc := 35) d_K_bindsWhatIsAssumed_35 rfl ?_
      refine gx_K_shelf (pc := 36) d_K_bindsWhatIsAssumed_36 lf_K_19 ?_
      refine g_callV (M' := m_S_count) (pc := 39) (q := 2) d_K_bindsWhatIsAssumed_39 lm_K_131 (c_S_count) v_S_count rfl rfl rfl (by decide) rfl (Nat.le_of_ble_eq_true rfl) ?_
      rintro _ _ ⟨rfl, rfl⟩
      show pG m_K_bindsWhatIsAssumed τ _ 0 0 42 _ (.int _ :: _) _
      rw [hc]
      refine g_nicmp_ge (pc := 42) (tgt := 83) d_K_bindsWhatIsAssumed_42 (by decide) (by omega) (by omega) (fun h42 => ?_) (fun h => absurd h (by omega))
      refine g_iconst (pc := 83) (v := nI 0) d_K_bindsWhatIsAssumed_83 (by decide) ?_
      refine g_zret (pc := 84) d_K_bindsWhatIsAssumed_84 rfl (by decide) (Nat.le_refl _) (Nat.le_refl _) ?_
      refine ⟨congrArg (fun v => some (Value.int v)) ?_, rfl⟩
      exact bI_0 (sBnd_f (fun t ht => ag t (by omega)))
    | succ m ih =>
      intro z hm hz ag
      obtain ⟨row, hrow⟩ := get_of (show z < Tm.length by omega)
      have hpa := hS.pa ok hrow
      refine g_iload (pc := 33) d_K_bindsWhatIsAssumed_33 rfl ?_
      refine g_aload_n (pc := 35) d_K_bindsWhatIsAssumed_35 rfl ?_
      refine gx_K_shelf (pc := 36) d_K_bindsWhatIsAssumed_36 lf_K_19 ?_
      refine g_callV (M' := m_S_count) (pc := 39) (q := 2) d_K_bindsWhatIsAssumed_39 lm_K_131 (c_S_count) v_S_count rfl rfl rfl (by decide) rfl (Nat.le_of_ble_eq_true rfl) ?_
      rintro _ _ ⟨rfl, rfl⟩
      show pG m_K_bindsWhatIsAssumed τ _ 0 0 42 _ (.int _ :: _) _
      rw [hc]
      refine g_nicmp_ge (pc := 42) (tgt := 83) d_K_bindsWhatIsAssumed_42 (by decide) (by omega) (by omega) (fun h => absurd h (by omega)) (fun h42 => ?_)
      refine g_aload_n (pc := 45) d_K_bindsWhatIsAssumed_45 rfl ?_
      refine gx_K_book (pc := 46) d_K_bindsWhatIsAssumed_46 lf_K_35 ?_
      refine g_iload_n (pc := 49) d_K_bindsWhatIsAssumed_49 rfl ?_
      refine g_callV (M' := m_B_hypothesesOf) (pc := 50) (q := 4) d_K_bindsWhatIsAssumed_50 lm_K_152 (c_B_hypothesesOf x hx) v_B_hypothesesOf rfl rfl rfl (by decide) rfl (Nat.le_of_ble_eq_true rfl) ?_
      rintro _ _ ⟨rfl, rfl⟩
      show pG m_K_bindsWhatIsAssumed τ _ 0 0 53 _ (.long _ :: _) _
      rw [hh]
      refine g_iload (pc := 53) d_K_bindsWhatIsAssumed_53 rfl ?_
      refine g_callS (M' := m_K_isIn) (pc := 55) d_K_bindsWhatIsAssumed_55 lm_K_194 (c_K_isIn h z (by omega) (by omega)) v_K_isIn rfl (by decide) rfl (Nat.le_of_ble_eq_true rfl) ?_
      rintro _ _ ⟨rfl, rfl⟩
      show pG m_K_bindsWhatIsAssumed τ _ 0 0 58 _ (.int _ :: _) _
      refine g_ifb_eq (pc := 58) (tgt := 77) d_K_bindsWhatIsAssumed_58 (by decide) (fun h58 => ?_) (fun h58 => ?_)
      · refine g_niinc (pc := 77) (d := 1) [(5, _), (4, _), (0, _), (1, _), (2, _), (3, _)] d_K_bindsWhatIsAssumed_77 rfl (by decide) rfl ?_
        refine g_goto (pc := 80) (tgt := 33) d_K_bindsWhatIsAssumed_80 (by decide) ?_
        exact ih (z + 1) (by omega) (by omega) (lt_s ag (fun ro hro => by
          rw [hrow] at hro
          have e := Option.some.inj hro
          subst e
          first | exact fun q => by rw [h58] at q; exact Bool.noConfusion q.1 | exact fun q => of_decide_eq_false h72 q.2))
      · refine g_aload_n (pc := 61) d_K_bindsWhatIsAssumed_61 rfl ?_
        refine gx_K_shelf (pc := 62) d_K_bindsWhatIsAssumed_62 lf_K_19 ?_
        refine g_iload (pc := 65) d_K_bindsWhatIsAssumed_65 rfl ?_
        refine g_iload (pc := 67) d_K_bindsWhatIsAssumed_67 rfl ?_
        refine g_callV (M' := m_S_holds) (pc := 69) (q := 2) d_K_bindsWhatIsAssumed_69 lm_K_136 (c_S_holds z (hdt B) row (by omega) hB.hd.2.2 hpa.1 hpa.2.2.2 (hS.2.2 z row hrow).2.1) v_S_holds rfl rfl rfl (by decide) rfl (Nat.le_of_ble_eq_true rfl) ?_
        rintro _ _ ⟨rfl, rfl⟩
        show pG m_K_bindsWhatIsAssumed τ _ 0 0 72 _ (.int _ :: _) _
        refine g_ifb_eq (pc := 72) (tgt := 77) d_K_bindsWhatIsAssumed_72 (by decide) (fun h72 => ?_) (fun h72 => ?_)
        · refine g_niinc (pc := 77) (d := 1) [(5, _), (4, _), (0, _), (1, _), (2, _), (3, _)] d_K_bindsWhatIsAssumed_77 rfl (by decide) rfl ?_
          refine g_goto (pc := 80) (tgt := 33) d_K_bindsWhatIsAssumed_80 (by decide) ?_
          exact ih (z + 1) (by omega) (by omega) (lt_s ag (fun ro hro => by
            rw [hrow] at hro
            have e := Option.some.inj hro
            subst e
            first | exact fun q => by rw [h58] at q; exact Bool.noConfusion q.1 | exact fun q => of_decide_eq_false h72 q.2))
        · refine g_iconst (pc := 75) (v := nI 1) d_K_bindsWhatIsAssumed_75 (by decide) ?_
          refine g_zret (pc := 76) d_K_bindsWhatIsAssumed_76 rfl (by decide) (Nat.le_refl _) (Nat.le_refl _) ?_
          refine ⟨congrArg (fun v => some (Value.int v)) ?_, rfl⟩
          exact bI_1 (sBnd_t hrow h58 (of_decide_eq_true h72))
  refine pC.of rfl (Nat.le_of_ble_eq_true rfl) ?_
  show pG m_K_bindsWhatIsAssumed τ _ 0 0 0 [(0, _), (1, _), (2, _), (3, _)] [] _
  refine g_iload_n (pc := 0) d_K_bindsWhatIsAssumed_0 rfl ?_
  refine g_iconst (pc := 1) (v := nI 4) d_K_bindsWhatIsAssumed_1 (by decide) ?_
  refine g_nicmp_eq (pc := 2) (tgt := 13) d_K_bindsWhatIsAssumed_2 (by decide) (by omega) (by omega) (fun h => absurd h (by decide)) (fun h2 => ?_)
  refine g_iload_n (pc := 5) d_K_bindsWhatIsAssumed_5 rfl ?_
  refine g_bipush (pc := 6) (v := nI 10) d_K_bindsWhatIsAssumed_6 (by decide) ?_
  refine g_nicmp_eq (pc := 8) (tgt := 13) d_K_bindsWhatIsAssumed_8 (by decide) (by omega) (by omega) (fun h8 => ?_) (fun h => absurd h (by decide))
  refine g_aload_n (pc := 13) d_K_bindsWhatIsAssumed_13 rfl ?_
  refine gx_K_shelf (pc := 14) d_K_bindsWhatIsAssumed_14 lf_K_19 ?_
  refine g_aload_n (pc := 17) d_K_bindsWhatIsAssumed_17 rfl ?_
  refine gx_K_shelf (pc := 18) d_K_bindsWhatIsAssumed_18 lf_K_19 ?_
  refine g_iload_n (pc := 21) d_K_bindsWhatIsAssumed_21 rfl ?_
  refine g_callV (M' := m_S_start) (pc := 22) (q := 2) d_K_bindsWhatIsAssumed_22 lm_K_69 (c_S_start y) v_S_start rfl rfl rfl (by decide) rfl (Nat.le_of_ble_eq_true rfl) ?_
  rintro _ _ ⟨rfl, rfl⟩
  show pG m_K_bindsWhatIsAssumed τ _ 0 0 25 _ (.int _ :: _) _
  refine g_callV (M' := m_S_token) (pc := 25) (q := 2) d_K_bindsWhatIsAssumed_25 lm_K_90 (c_S_token (30 * y) (hdt B) hB.hd.1 hB.hd.2.1) v_S_token rfl rfl rfl (by decide) rfl (Nat.le_of_ble_eq_true rfl) ?_
  rintro _ _ ⟨rfl, rfl⟩
  show pG m_K_bindsWhatIsAssumed τ _ 0 0 28 _ (.int _ :: _) _
  refine g_istore (pc := 28) [(4, _), (0, _), (1, _), (2, _), (3, _)] d_K_bindsWhatIsAssumed_28 (by decide) rfl ?_
  refine g_iconst (pc := 30) (v := nI 0) d_K_bindsWhatIsAssumed_30 (by decide) ?_
  refine g_istore (pc := 31) [(5, _), (4, _), (0, _), (1, _), (2, _), (3, _)] d_K_bindsWhatIsAssumed_31 (by decide) rfl ?_
  exact key _ 0 rfl (Nat.zero_le _) (fun t ht => absurd ht (Nat.not_lt_zero t))
set_option maxRecDepth 100000 in
set_option maxHeartbeats 4000000 in
theorem c_K_joined_0 {τ : Nat × Nat} {a : Nat → Nat} {i : Nat → Int32} {r : Nat → Nat → Int32} {L : Nat → Int64} {wr : pW} (x : Nat) (y : Int32) : pC m_K_joinedHypotheses τ [.ref (a 0), .int (nI 0), .int (nI x), .int y] (wX a i r L ++ wr) (fun rr w2 => rr = some (.long (lN (0))) ∧ w2 = wX a i r L ++ wr) := by
  refine pC.of rfl (Nat.le_of_ble_eq_true rfl) ?_
  show pG m_K_joinedHypotheses τ _ 0 0 0 [(0, _), (1, _), (2, _), (3, _)] [] _
  refine g_lconst (pc := 0) (v := lN 0) d_K_joinedHypotheses_0 (by decide) ?_
  refine g_lstore (pc := 1) [(4, _), (0, _), (1, _), (2, _), (3, _)] d_K_joinedHypotheses_1 (by decide) rfl ?_
  refine g_getsX (pc := 3) d_K_joinedHypotheses_3 lf_K_107 ?_
  refine g_iload_n (pc := 6) d_K_joinedHypotheses_6 rfl ?_
  refine g_saldX (pc := 7) (v := nI 1) d_K_joinedHypotheses_7 (vp_in_nI (by decide) (by decide)) (by decide) ?_
  refine g_iconst (pc := 8) (v := nI 2) d_K_joinedHypotheses_8 (by decide) ?_
  refine g_nicmp_ne (pc := 9) (tgt := 25) d_K_joinedHypotheses_9 (by decide) (by omega) (by omega) (fun h9 => ?_) (fun h => absurd h (by decide))
  refine g_getsY (pc := 25) d_K_joinedHypotheses_25 lf_K_114 ?_
  refine g_iload_n (pc := 28) d_K_joinedHypotheses_28 rfl ?_
  refine g_saldY (pc := 29) (v := nI 0) d_K_joinedHypotheses_29 (vp_in_nI (by decide) (by decide)) (by decide) ?_
  refine g_iconst (pc := 30) (v := nI 2) d_K_joinedHypotheses_30 (by decide) ?_
  refine g_nicmp_ne (pc := 31) (tgt := 47) d_K_joinedHypotheses_31 (by decide) (by omega) (by omega) (fun h31 => ?_) (fun h => absurd h (by decide))
  refine g_iload_n (pc := 47) d_K_joinedHypotheses_47 rfl ?_
  refine g_iconst (pc := 48) (v := nI 1) d_K_joinedHypotheses_48 (by decide) ?_
  refine g_nicmp_ne (pc := 49) (tgt := 60) d_K_joinedHypotheses_49 (by decide) (by omega) (by omega) (fun h49 => ?_) (fun h => absurd h (by decide))
  refine g_iload_n (pc := 60) d_K_joinedHypotheses_60 rfl ?_
  refine g_iconst (pc := 61) (v := nI 2) d_K_joinedHypotheses_61 (by decide) ?_
  refine g_nicmp_ne (pc := 62) (tgt := 77) d_K_joinedHypotheses_62 (by decide) (by omega) (by omega) (fun h62 => ?_) (fun h => absurd h (by decide))
  refine g_lload (pc := 77) d_K_joinedHypotheses_77 rfl ?_
  refine g_lret (pc := 79) d_K_joinedHypotheses_79 rfl (Nat.le_refl _) (Nat.le_refl _) ?_
  exact ⟨rfl, rfl⟩
set_option maxRecDepth 100000 in
set_option maxHeartbeats 4000000 in
theorem c_K_joined_1 {τ : Nat × Nat} {a : Nat → Nat} {i : Nat → Int32} {r : Nat → Nat → Int32} {L : Nat → Int64} {wr : pW} (x : Nat) (hx6 : x < 60) (y : Int32) : pC m_K_joinedHypotheses τ [.ref (a 0), .int (nI 1), .int (nI x), .int y] (wX a i r L ++ wr) (fun rr w2 => rr = some (.long (lN (2 ^ x))) ∧ w2 = wX a i r L ++ wr) := by
  refine pC.of rfl (Nat.le_of_ble_eq_true rfl) ?_
  show pG m_K_joinedHypotheses τ _ 0 0 0 [(0, _), (1, _), (2, _), (3, _)] [] _
  refine g_lconst (pc := 0) (v := lN 0) d_K_joinedHypotheses_0 (by decide) ?_
  refine g_lstore (pc := 1) [(4, _), (0, _), (1, _), (2, _), (3, _)] d_K_joinedHypotheses_1 (by decide) rfl ?_
  refine g_getsX (pc := 3) d_K_joinedHypotheses_3 lf_K_107 ?_
  refine g_iload_n (pc := 6) d_K_joinedHypotheses_6 rfl ?_
  refine g_saldX (pc := 7) (v := nI 1) d_K_joinedHypotheses_7 (vp_in_nI (by decide) (by decide)) (by decide) ?_
  refine g_iconst (pc := 8) (v := nI 2) d_K_joinedHypotheses_8 (by decide) ?_
  refine g_nicmp_ne (pc := 9) (tgt := 25) d_K_joinedHypotheses_9 (by decide) (by omega) (by omega) (fun h9 => ?_) (fun h => absurd h (by decide))
  refine g_getsY (pc := 25) d_K_joinedHypotheses_25 lf_K_114 ?_
  refine g_iload_n (pc := 28) d_K_joinedHypotheses_28 rfl ?_
  refine g_saldY (pc := 29) (v := nI 0) d_K_joinedHypotheses_29 (vp_in_nI (by decide) (by decide)) (by decide) ?_
  refine g_iconst (pc := 30) (v := nI 2) d_K_joinedHypotheses_30 (by decide) ?_
  refine g_nicmp_ne (pc := 31) (tgt := 47) d_K_joinedHypotheses_31 (by decide) (by omega) (by omega) (fun h31 => ?_) (fun h => absurd h (by decide))
  refine g_iload_n (pc := 47) d_K_joinedHypotheses_47 rfl ?_
  refine g_iconst (pc := 48) (v := nI 1) d_K_joinedHypotheses_48 (by decide) ?_
  refine g_nicmp_ne (pc := 49) (tgt := 60) d_K_joinedHypotheses_49 (by decide) (by omega) (by omega) (fun h => absurd rfl h) (fun h49 => ?_)
  refine g_lload (pc := 52) d_K_joinedHypotheses_52 rfl ?_
  refine g_lconst (pc := 54) (v := lN 1) d_K_joinedHypotheses_54 (by decide) ?_
  refine g_iload_n (pc := 55) d_K_joinedHypotheses_55 rfl ?_
  refine g_lshl (pc := 56) d_K_joinedHypotheses_56 ?_
  rw [lb_1 x (by omega)]
  refine g_lor (pc := 57) d_K_joinedHypotheses_57 ?_
  refine g_topl (lN (2 ^ x)) ((wb_or (by decide) (wb_lt2 (by omega))).trans (by rw [Nat.zero_or])) ?_
  refine g_lstore (pc := 58) [(4, _), (0, _), (1, _), (2, _), (3, _)] d_K_joinedHypotheses_58 (by decide) rfl ?_
  refine g_iload_n (pc := 60) d_K_joinedHypotheses_60 rfl ?_
  refine g_iconst (pc := 61) (v := nI 2) d_K_joinedHypotheses_61 (by decide) ?_
  refine g_nicmp_ne (pc := 62) (tgt := 77) d_K_joinedHypotheses_62 (by decide) (by omega) (by omega) (fun h62 => ?_) (fun h => absurd h (by decide))
  refine g_lload (pc := 77) d_K_joinedHypotheses_77 rfl ?_
  refine g_lret (pc := 79) d_K_joinedHypotheses_79 rfl (Nat.le_refl _) (Nat.le_refl _) ?_
  exact ⟨rfl, rfl⟩
set_option maxRecDepth 100000 in
set_option maxHeartbeats 4000000 in
theorem c_K_joined_2 {τ : Nat × Nat} {a : Nat → Nat} {i : Nat → Int32} {r : Nat → Nat → Int32} {L : Nat → Int64} {wr : pW} (x hx : Nat) (hx4 : x < 40) (hxh : L x = lN hx) (hx6 : hx < 2 ^ 60) (y : Nat) (hy6 : y < 60) : pC m_K_joinedHypotheses τ [.ref (a 0), .int (nI 2), .int (nI x), .int (nI y)] (wX a i r L ++ wr) (fun rr w2 => rr = some (.long (lN (clr hx y))) ∧ w2 = wX a i r L ++ wr) := by
  refine pC.of rfl (Nat.le_of_ble_eq_true rfl) ?_
  show pG m_K_joinedHypotheses τ _ 0 0 0 [(0, _), (1, _), (2, _), (3, _)] [] _
  refine g_lconst (pc := 0) (v := lN 0) d_K_joinedHypotheses_0 (by decide) ?_
  refine g_lstore (pc := 1) [(4, _), (0, _), (1, _), (2, _), (3, _)] d_K_joinedHypotheses_1 (by decide) rfl ?_
  refine g_getsX (pc := 3) d_K_joinedHypotheses_3 lf_K_107 ?_
  refine g_iload_n (pc := 6) d_K_joinedHypotheses_6 rfl ?_
  refine g_saldX (pc := 7) (v := nI 2) d_K_joinedHypotheses_7 (vp_in_nI (by decide) (by decide)) (by decide) ?_
  refine g_iconst (pc := 8) (v := nI 2) d_K_joinedHypotheses_8 (by decide) ?_
  refine g_nicmp_ne (pc := 9) (tgt := 25) d_K_joinedHypotheses_9 (by decide) (by omega) (by omega) (fun h => absurd rfl h) (fun h9 => ?_)
  refine g_lload (pc := 12) d_K_joinedHypotheses_12 rfl ?_
  refine g_aload_n (pc := 14) d_K_joinedHypotheses_14 rfl ?_
  refine gx_K_book (pc := 15) d_K_joinedHypotheses_15 lf_K_35 ?_
  refine g_iload_n (pc := 18) d_K_joinedHypotheses_18 rfl ?_
  refine g_callV (M' := m_B_hypothesesOf) (pc := 19) (q := 4) d_K_joinedHypotheses_19 lm_K_152 (c_B_hypothesesOf x hx4) v_B_hypothesesOf rfl rfl rfl (by decide) rfl (Nat.le_of_ble_eq_true rfl) ?_
  rintro _ _ ⟨rfl, rfl⟩
  show pG m_K_joinedHypotheses τ _ 0 0 22 _ (.long _ :: _) _
  rw [hxh]
  refine g_lor (pc := 22) d_K_joinedHypotheses_22 ?_
  refine g_topl (lN hx) ((wb_or (by decide) (by omega)).trans (by rw [Nat.zero_or])) ?_
  refine g_lstore (pc := 23) [(4, _), (0, _), (1, _), (2, _), (3, _)] d_K_joinedHypotheses_23 (by decide) rfl ?_
  refine g_getsY (pc := 25) d_K_joinedHypotheses_25 lf_K_114 ?_
  refine g_iload_n (pc := 28) d_K_joinedHypotheses_28 rfl ?_
  refine g_saldY (pc := 29) (v := nI 1) d_K_joinedHypotheses_29 (vp_in_nI (by decide) (by decide)) (by decide) ?_
  refine g_iconst (pc := 30) (v := nI 2) d_K_joinedHypotheses_30 (by decide) ?_
  refine g_nicmp_ne (pc := 31) (tgt := 47) d_K_joinedHypotheses_31 (by decide) (by omega) (by omega) (fun h31 => ?_) (fun h => absurd h (by decide))
  refine g_iload_n (pc := 47) d_K_joinedHypotheses_47 rfl ?_
  refine g_iconst (pc := 48) (v := nI 1) d_K_joinedHypotheses_48 (by decide) ?_
  refine g_nicmp_ne (pc := 49) (tgt := 60) d_K_joinedHypotheses_49 (by decide) (by omega) (by omega) (fun h49 => ?_) (fun h => absurd h (by decide))
  refine g_iload_n (pc := 60) d_K_joinedHypotheses_60 rfl ?_
  refine g_iconst (pc := 61) (v := nI 2) d_K_joinedHypotheses_61 (by decide) ?_
  refine g_nicmp_ne (pc := 62) (tgt := 77) d_K_joinedHypotheses_62 (by decide) (by omega) (by omega) (fun h => absurd rfl h) (fun h62 => ?_)
  refine g_lload (pc := 65) d_K_joinedHypotheses_65 rfl ?_
  refine g_lconst (pc := 67) (v := lN 1) d_K_joinedHypotheses_67 (by decide) ?_
  refine g_iload_n (pc := 68) d_K_joinedHypotheses_68 rfl ?_
  refine g_lshl (pc := 69) d_K_joinedHypotheses_69 ?_
  refine g_ldc2 (pc := 70) d_K_joinedHypotheses_70 lk_K_156 ?_
  refine g_lxor (pc := 73) d_K_joinedHypotheses_73 ?_
  refine g_land (pc := 74) d_K_joinedHypotheses_74 ?_
  refine g_topl (lN (clr hx y)) (lb_clr (by omega) (by omega)) ?_
  refine g_lstore (pc := 75) [(4, _), (0, _), (1, _), (2, _), (3, _)] d_K_joinedHypotheses_75 (by decide) rfl ?_
  refine g_lload (pc := 77) d_K_joinedHypotheses_77 rfl ?_
  refine g_lret (pc := 79) d_K_joinedHypotheses_79 rfl (Nat.le_refl _) (Nat.le_refl _) ?_
  exact ⟨rfl, rfl⟩
set_option maxRecDepth 100000 in
set_option maxHeartbeats 4000000 in
theorem c_K_joined_3 {τ : Nat × Nat} {a : Nat → Nat} {i : Nat → Int32} {r : Nat → Nat → Int32} {L : Nat → Int64} {wr : pW} (x hx : Nat) (hx4 : x < 40) (hxh : L x = lN hx) (hx6 : hx < 2 ^ 60) (y hy : Nat) (hy4 : y < 40) (hyh : L y = lN hy) (hy6 : hy < 2 ^ 60) : pC m_K_joinedHypotheses τ [.ref (a 0), .int (nI 3), .int (nI x), .int (nI y)] (wX a i r L ++ wr) (fun rr w2 => rr = some (.long (lN (hx ||| hy))) ∧ w2 = wX a i r L ++ wr) := by
  refine pC.of rfl (Nat.le_of_ble_eq_true rfl) ?_
  show pG m_K_joinedHypotheses τ _ 0 0 0 [(0, _), (1, _), (2, _), (3, _)] [] _
  refine g_lconst (pc := 0) (v := lN 0) d_K_joinedHypotheses_0 (by decide) ?_
  refine g_lstore (pc := 1) [(4, _), (0, _), (1, _), (2, _), (3, _)] d_K_joinedHypotheses_1 (by decide) rfl ?_
  refine g_getsX (pc := 3) d_K_joinedHypotheses_3 lf_K_107 ?_
  refine g_iload_n (pc := 6) d_K_joinedHypotheses_6 rfl ?_
  refine g_saldX (pc := 7) (v := nI 2) d_K_joinedHypotheses_7 (vp_in_nI (by decide) (by decide)) (by decide) ?_
  refine g_iconst (pc := 8) (v := nI 2) d_K_joinedHypotheses_8 (by decide) ?_
  refine g_nicmp_ne (pc := 9) (tgt := 25) d_K_joinedHypotheses_9 (by decide) (by omega) (by omega) (fun h => absurd rfl h) (fun h9 => ?_)
  refine g_lload (pc := 12) d_K_joinedHypotheses_12 rfl ?_
  refine g_aload_n (pc := 14) d_K_joinedHypotheses_14 rfl ?_
  refine gx_K_book (pc := 15) d_K_joinedHypotheses_15 lf_K_35 ?_
  refine g_iload_n (pc := 18) d_K_joinedHypotheses_18 rfl ?_
  refine g_callV (M' := m_B_hypothesesOf) (pc := 19) (q := 4) d_K_joinedHypotheses_19 lm_K_152 (c_B_hypothesesOf x hx4) v_B_hypothesesOf rfl rfl rfl (by decide) rfl (Nat.le_of_ble_eq_true rfl) ?_
  rintro _ _ ⟨rfl, rfl⟩
  show pG m_K_joinedHypotheses τ _ 0 0 22 _ (.long _ :: _) _
  rw [hxh]
  refine g_lor (pc := 22) d_K_joinedHypotheses_22 ?_
  refine g_topl (lN hx) ((wb_or (by decide) (by omega)).trans (by rw [Nat.zero_or])) ?_
  refine g_lstore (pc := 23) [(4, _), (0, _), (1, _), (2, _), (3, _)] d_K_joinedHypotheses_23 (by decide) rfl ?_
  refine g_getsY (pc := 25) d_K_joinedHypotheses_25 lf_K_114 ?_
  refine g_iload_n (pc := 28) d_K_joinedHypotheses_28 rfl ?_
  refine g_saldY (pc := 29) (v := nI 2) d_K_joinedHypotheses_29 (vp_in_nI (by decide) (by decide)) (by decide) ?_
  refine g_iconst (pc := 30) (v := nI 2) d_K_joinedHypotheses_30 (by decide) ?_
  refine g_nicmp_ne (pc := 31) (tgt := 47) d_K_joinedHypotheses_31 (by decide) (by omega) (by omega) (fun h => absurd rfl h) (fun h31 => ?_)
  refine g_lload (pc := 34) d_K_joinedHypotheses_34 rfl ?_
  refine g_aload_n (pc := 36) d_K_joinedHypotheses_36 rfl ?_
  refine gx_K_book (pc := 37) d_K_joinedHypotheses_37 lf_K_35 ?_
  refine g_iload_n (pc := 40) d_K_joinedHypotheses_40 rfl ?_
  refine g_callV (M' := m_B_hypothesesOf) (pc := 41) (q := 4) d_K_joinedHypotheses_41 lm_K_152 (c_B_hypothesesOf y hy4) v_B_hypothesesOf rfl rfl rfl (by decide) rfl (Nat.le_of_ble_eq_true rfl) ?_
  rintro _ _ ⟨rfl, rfl⟩
  show pG m_K_joinedHypotheses τ _ 0 0 44 _ (.long _ :: _) _
  rw [hyh]
  refine g_lor (pc := 44) d_K_joinedHypotheses_44 ?_
  refine g_topl (lN (hx ||| hy)) (wb_or (by omega) (by omega)) ?_
  refine g_lstore (pc := 45) [(4, _), (0, _), (1, _), (2, _), (3, _)] d_K_joinedHypotheses_45 (by decide) rfl ?_
  refine g_iload_n (pc := 47) d_K_joinedHypotheses_47 rfl ?_
  refine g_iconst (pc := 48) (v := nI 1) d_K_joinedHypotheses_48 (by decide) ?_
  refine g_nicmp_ne (pc := 49) (tgt := 60) d_K_joinedHypotheses_49 (by decide) (by omega) (by omega) (fun h49 => ?_) (fun h => absurd h (by decide))
  refine g_iload_n (pc := 60) d_K_joinedHypotheses_60 rfl ?_
  refine g_iconst (pc := 61) (v := nI 2) d_K_joinedHypotheses_61 (by decide) ?_
  refine g_nicmp_ne (pc := 62) (tgt := 77) d_K_joinedHypotheses_62 (by decide) (by omega) (by omega) (fun h62 => ?_) (fun h => absurd h (by decide))
  refine g_lload (pc := 77) d_K_joinedHypotheses_77 rfl ?_
  refine g_lret (pc := 79) d_K_joinedHypotheses_79 rfl (Nat.le_refl _) (Nat.le_refl _) ?_
  exact ⟨rfl, rfl⟩
set_option maxRecDepth 100000 in
set_option maxHeartbeats 4000000 in
theorem c_K_joined_4 {τ : Nat × Nat} {a : Nat → Nat} {i : Nat → Int32} {r : Nat → Nat → Int32} {L : Nat → Int64} {wr : pW} (x hx : Nat) (hx4 : x < 40) (hxh : L x = lN hx) (hx6 : hx < 2 ^ 60) (y : Int32) : pC m_K_joinedHypotheses τ [.ref (a 0), .int (nI 4), .int (nI x), .int y] (wX a i r L ++ wr) (fun rr w2 => rr = some (.long (lN (hx))) ∧ w2 = wX a i r L ++ wr) := by
  refine pC.of rfl (Nat.le_of_ble_eq_true rfl) ?_
  show pG m_K_joinedHypotheses τ _ 0 0 0 [(0, _), (1, _), (2, _), (3, _)] [] _
  refine g_lconst (pc := 0) (v := lN 0) d_K_joinedHypotheses_0 (by decide) ?_
  refine g_lstore (pc := 1) [(4, _), (0, _), (1, _), (2, _), (3, _)] d_K_joinedHypotheses_1 (by decide) rfl ?_
  refine g_getsX (pc := 3) d_K_joinedHypotheses_3 lf_K_107 ?_
  refine g_iload_n (pc := 6) d_K_joinedHypotheses_6 rfl ?_
  refine g_saldX (pc := 7) (v := nI 2) d_K_joinedHypotheses_7 (vp_in_nI (by decide) (by decide)) (by decide) ?_
  refine g_iconst (pc := 8) (v := nI 2) d_K_joinedHypotheses_8 (by decide) ?_
  refine g_nicmp_ne (pc := 9) (tgt := 25) d_K_joinedHypotheses_9 (by decide) (by omega) (by omega) (fun h => absurd rfl h) (fun h9 => ?_)
  refine g_lload (pc := 12) d_K_joinedHypotheses_12 rfl ?_
  refine g_aload_n (pc := 14) d_K_joinedHypotheses_14 rfl ?_
  refine gx_K_book (pc := 15) d_K_joinedHypotheses_15 lf_K_35 ?_
  refine g_iload_n (pc := 18) d_K_joinedHypotheses_18 rfl ?_
  refine g_callV (M' := m_B_hypothesesOf) (pc := 19) (q := 4) d_K_joinedHypotheses_19 lm_K_152 (c_B_hypothesesOf x hx4) v_B_hypothesesOf rfl rfl rfl (by decide) rfl (Nat.le_of_ble_eq_true rfl) ?_
  rintro _ _ ⟨rfl, rfl⟩
  show pG m_K_joinedHypotheses τ _ 0 0 22 _ (.long _ :: _) _
  rw [hxh]
  refine g_lor (pc := 22) d_K_joinedHypotheses_22 ?_
  refine g_topl (lN hx) ((wb_or (by decide) (by omega)).trans (by rw [Nat.zero_or])) ?_
  refine g_lstore (pc := 23) [(4, _), (0, _), (1, _), (2, _), (3, _)] d_K_joinedHypotheses_23 (by decide) rfl ?_
  refine g_getsY (pc := 25) d_K_joinedHypotheses_25 lf_K_114 ?_
  refine g_iload_n (pc := 28) d_K_joinedHypotheses_28 rfl ?_
  refine g_saldY (pc := 29) (v := nI 1) d_K_joinedHypotheses_29 (vp_in_nI (by decide) (by decide)) (by decide) ?_
  refine g_iconst (pc := 30) (v := nI 2) d_K_joinedHypotheses_30 (by decide) ?_
  refine g_nicmp_ne (pc := 31) (tgt := 47) d_K_joinedHypotheses_31 (by decide) (by omega) (by omega) (fun h31 => ?_) (fun h => absurd h (by decide))
  refine g_iload_n (pc := 47) d_K_joinedHypotheses_47 rfl ?_
  refine g_iconst (pc := 48) (v := nI 1) d_K_joinedHypotheses_48 (by decide) ?_
  refine g_nicmp_ne (pc := 49) (tgt := 60) d_K_joinedHypotheses_49 (by decide) (by omega) (by omega) (fun h49 => ?_) (fun h => absurd h (by decide))
  refine g_iload_n (pc := 60) d_K_joinedHypotheses_60 rfl ?_
  refine g_iconst (pc := 61) (v := nI 2) d_K_joinedHypotheses_61 (by decide) ?_
  refine g_nicmp_ne (pc := 62) (tgt := 77) d_K_joinedHypotheses_62 (by decide) (by omega) (by omega) (fun h62 => ?_) (fun h => absurd h (by decide))
  refine g_lload (pc := 77) d_K_joinedHypotheses_77 rfl ?_
  refine g_lret (pc := 79) d_K_joinedHypotheses_79 rfl (Nat.le_refl _) (Nat.le_refl _) ?_
  exact ⟨rfl, rfl⟩
set_option maxRecDepth 100000 in
set_option maxHeartbeats 4000000 in
theorem c_K_joined_5 {τ : Nat × Nat} {a : Nat → Nat} {i : Nat → Int32} {r : Nat → Nat → Int32} {L : Nat → Int64} {wr : pW} (x hx : Nat) (hx4 : x < 40) (hxh : L x = lN hx) (hx6 : hx < 2 ^ 60) (y : Int32) : pC m_K_joinedHypotheses τ [.ref (a 0), .int (nI 5), .int (nI x), .int y] (wX a i r L ++ wr) (fun rr w2 => rr = some (.long (lN (hx))) ∧ w2 = wX a i r L ++ wr) := by
  refine pC.of rfl (Nat.le_of_ble_eq_true rfl) ?_
  show pG m_K_joinedHypotheses τ _ 0 0 0 [(0, _), (1, _), (2, _), (3, _)] [] _
  refine g_lconst (pc := 0) (v := lN 0) d_K_joinedHypotheses_0 (by decide) ?_
  refine g_lstore (pc := 1) [(4, _), (0, _), (1, _), (2, _), (3, _)] d_K_joinedHypotheses_1 (by decide) rfl ?_
  refine g_getsX (pc := 3) d_K_joinedHypotheses_3 lf_K_107 ?_
  refine g_iload_n (pc := 6) d_K_joinedHypotheses_6 rfl ?_
  refine g_saldX (pc := 7) (v := nI 2) d_K_joinedHypotheses_7 (vp_in_nI (by decide) (by decide)) (by decide) ?_
  refine g_iconst (pc := 8) (v := nI 2) d_K_joinedHypotheses_8 (by decide) ?_
  refine g_nicmp_ne (pc := 9) (tgt := 25) d_K_joinedHypotheses_9 (by decide) (by omega) (by omega) (fun h => absurd rfl h) (fun h9 => ?_)
  refine g_lload (pc := 12) d_K_joinedHypotheses_12 rfl ?_
  refine g_aload_n (pc := 14) d_K_joinedHypotheses_14 rfl ?_
  refine gx_K_book (pc := 15) d_K_joinedHypotheses_15 lf_K_35 ?_
  refine g_iload_n (pc := 18) d_K_joinedHypotheses_18 rfl ?_
  refine g_callV (M' := m_B_hypothesesOf) (pc := 19) (q := 4) d_K_joinedHypotheses_19 lm_K_152 (c_B_hypothesesOf x hx4) v_B_hypothesesOf rfl rfl rfl (by decide) rfl (Nat.le_of_ble_eq_true rfl) ?_
  rintro _ _ ⟨rfl, rfl⟩
  show pG m_K_joinedHypotheses τ _ 0 0 22 _ (.long _ :: _) _
  rw [hxh]
  refine g_lor (pc := 22) d_K_joinedHypotheses_22 ?_
  refine g_topl (lN hx) ((wb_or (by decide) (by omega)).trans (by rw [Nat.zero_or])) ?_
  refine g_lstore (pc := 23) [(4, _), (0, _), (1, _), (2, _), (3, _)] d_K_joinedHypotheses_23 (by decide) rfl ?_
  refine g_getsY (pc := 25) d_K_joinedHypotheses_25 lf_K_114 ?_
  refine g_iload_n (pc := 28) d_K_joinedHypotheses_28 rfl ?_
  refine g_saldY (pc := 29) (v := nI 1) d_K_joinedHypotheses_29 (vp_in_nI (by decide) (by decide)) (by decide) ?_
  refine g_iconst (pc := 30) (v := nI 2) d_K_joinedHypotheses_30 (by decide) ?_
  refine g_nicmp_ne (pc := 31) (tgt := 47) d_K_joinedHypotheses_31 (by decide) (by omega) (by omega) (fun h31 => ?_) (fun h => absurd h (by decide))
  refine g_iload_n (pc := 47) d_K_joinedHypotheses_47 rfl ?_
  refine g_iconst (pc := 48) (v := nI 1) d_K_joinedHypotheses_48 (by decide) ?_
  refine g_nicmp_ne (pc := 49) (tgt := 60) d_K_joinedHypotheses_49 (by decide) (by omega) (by omega) (fun h49 => ?_) (fun h => absurd h (by decide))
  refine g_iload_n (pc := 60) d_K_joinedHypotheses_60 rfl ?_
  refine g_iconst (pc := 61) (v := nI 2) d_K_joinedHypotheses_61 (by decide) ?_
  refine g_nicmp_ne (pc := 62) (tgt := 77) d_K_joinedHypotheses_62 (by decide) (by omega) (by omega) (fun h62 => ?_) (fun h => absurd h (by decide))
  refine g_lload (pc := 77) d_K_joinedHypotheses_77 rfl ?_
  refine g_lret (pc := 79) d_K_joinedHypotheses_79 rfl (Nat.le_refl _) (Nat.le_refl _) ?_
  exact ⟨rfl, rfl⟩
set_option maxRecDepth 100000 in
set_option maxHeartbeats 4000000 in
theorem c_K_joined_6 {τ : Nat × Nat} {a : Nat → Nat} {i : Nat → Int32} {r : Nat → Nat → Int32} {L : Nat → Int64} {wr : pW} (x : Nat) (y : Int32) : pC m_K_joinedHypotheses τ [.ref (a 0), .int (nI 6), .int (nI x), .int y] (wX a i r L ++ wr) (fun rr w2 => rr = some (.long (lN (0))) ∧ w2 = wX a i r L ++ wr) := by
  refine pC.of rfl (Nat.le_of_ble_eq_true rfl) ?_
  show pG m_K_joinedHypotheses τ _ 0 0 0 [(0, _), (1, _), (2, _), (3, _)] [] _
  refine g_lconst (pc := 0) (v := lN 0) d_K_joinedHypotheses_0 (by decide) ?_
  refine g_lstore (pc := 1) [(4, _), (0, _), (1, _), (2, _), (3, _)] d_K_joinedHypotheses_1 (by decide) rfl ?_
  refine g_getsX (pc := 3) d_K_joinedHypotheses_3 lf_K_107 ?_
  refine g_iload_n (pc := 6) d_K_joinedHypotheses_6 rfl ?_
  refine g_saldX (pc := 7) (v := nI 1) d_K_joinedHypotheses_7 (vp_in_nI (by decide) (by decide)) (by decide) ?_
  refine g_iconst (pc := 8) (v := nI 2) d_K_joinedHypotheses_8 (by decide) ?_
  refine g_nicmp_ne (pc := 9) (tgt := 25) d_K_joinedHypotheses_9 (by decide) (by omega) (by omega) (fun h9 => ?_) (fun h => absurd h (by decide))
  refine g_getsY (pc := 25) d_K_joinedHypotheses_25 lf_K_114 ?_
  refine g_iload_n (pc := 28) d_K_joinedHypotheses_28 rfl ?_
  refine g_saldY (pc := 29) (v := nI 0) d_K_joinedHypotheses_29 (vp_in_nI (by decide) (by decide)) (by decide) ?_
  refine g_iconst (pc := 30) (v := nI 2) d_K_joinedHypotheses_30 (by decide) ?_
  refine g_nicmp_ne (pc := 31) (tgt := 47) d_K_joinedHypotheses_31 (by decide) (by omega) (by omega) (fun h31 => ?_) (fun h => absurd h (by decide))
  refine g_iload_n (pc := 47) d_K_joinedHypotheses_47 rfl ?_
  refine g_iconst (pc := 48) (v := nI 1) d_K_joinedHypotheses_48 (by decide) ?_
  refine g_nicmp_ne (pc := 49) (tgt := 60) d_K_joinedHypotheses_49 (by decide) (by omega) (by omega) (fun h49 => ?_) (fun h => absurd h (by decide))
  refine g_iload_n (pc := 60) d_K_joinedHypotheses_60 rfl ?_
  refine g_iconst (pc := 61) (v := nI 2) d_K_joinedHypotheses_61 (by decide) ?_
  refine g_nicmp_ne (pc := 62) (tgt := 77) d_K_joinedHypotheses_62 (by decide) (by omega) (by omega) (fun h62 => ?_) (fun h => absurd h (by decide))
  refine g_lload (pc := 77) d_K_joinedHypotheses_77 rfl ?_
  refine g_lret (pc := 79) d_K_joinedHypotheses_79 rfl (Nat.le_refl _) (Nat.le_refl _) ?_
  exact ⟨rfl, rfl⟩
set_option maxRecDepth 100000 in
set_option maxHeartbeats 4000000 in
theorem c_K_joined_7 {τ : Nat × Nat} {a : Nat → Nat} {i : Nat → Int32} {r : Nat → Nat → Int32} {L : Nat → Int64} {wr : pW} (x hx : Nat) (hx4 : x < 40) (hxh : L x = lN hx) (hx6 : hx < 2 ^ 60) (y : Int32) : pC m_K_joinedHypotheses τ [.ref (a 0), .int (nI 7), .int (nI x), .int y] (wX a i r L ++ wr) (fun rr w2 => rr = some (.long (lN (hx))) ∧ w2 = wX a i r L ++ wr) := by
  refine pC.of rfl (Nat.le_of_ble_eq_true rfl) ?_
  show pG m_K_joinedHypotheses τ _ 0 0 0 [(0, _), (1, _), (2, _), (3, _)] [] _
  refine g_lconst (pc := 0) (v := lN 0) d_K_joinedHypotheses_0 (by decide) ?_
  refine g_lstore (pc := 1) [(4, _), (0, _), (1, _), (2, _), (3, _)] d_K_joinedHypotheses_1 (by decide) rfl ?_
  refine g_getsX (pc := 3) d_K_joinedHypotheses_3 lf_K_107 ?_
  refine g_iload_n (pc := 6) d_K_joinedHypotheses_6 rfl ?_
  refine g_saldX (pc := 7) (v := nI 2) d_K_joinedHypotheses_7 (vp_in_nI (by decide) (by decide)) (by decide) ?_
  refine g_iconst (pc := 8) (v := nI 2) d_K_joinedHypotheses_8 (by decide) ?_
  refine g_nicmp_ne (pc := 9) (tgt := 25) d_K_joinedHypotheses_9 (by decide) (by omega) (by omega) (fun h => absurd rfl h) (fun h9 => ?_)
  refine g_lload (pc := 12) d_K_joinedHypotheses_12 rfl ?_
  refine g_aload_n (pc := 14) d_K_joinedHypotheses_14 rfl ?_
  refine gx_K_book (pc := 15) d_K_joinedHypotheses_15 lf_K_35 ?_
  refine g_iload_n (pc := 18) d_K_joinedHypotheses_18 rfl ?_
  refine g_callV (M' := m_B_hypothesesOf) (pc := 19) (q := 4) d_K_joinedHypotheses_19 lm_K_152 (c_B_hypothesesOf x hx4) v_B_hypothesesOf rfl rfl rfl (by decide) rfl (Nat.le_of_ble_eq_true rfl) ?_
  rintro _ _ ⟨rfl, rfl⟩
  show pG m_K_joinedHypotheses τ _ 0 0 22 _ (.long _ :: _) _
  rw [hxh]
  refine g_lor (pc := 22) d_K_joinedHypotheses_22 ?_
  refine g_topl (lN hx) ((wb_or (by decide) (by omega)).trans (by rw [Nat.zero_or])) ?_
  refine g_lstore (pc := 23) [(4, _), (0, _), (1, _), (2, _), (3, _)] d_K_joinedHypotheses_23 (by decide) rfl ?_
  refine g_getsY (pc := 25) d_K_joinedHypotheses_25 lf_K_114 ?_
  refine g_iload_n (pc := 28) d_K_joinedHypotheses_28 rfl ?_
  refine g_saldY (pc := 29) (v := nI 0) d_K_joinedHypotheses_29 (vp_in_nI (by decide) (by decide)) (by decide) ?_
  refine g_iconst (pc := 30) (v := nI 2) d_K_joinedHypotheses_30 (by decide) ?_
  refine g_nicmp_ne (pc := 31) (tgt := 47) d_K_joinedHypotheses_31 (by decide) (by omega) (by omega) (fun h31 => ?_) (fun h => absurd h (by decide))
  refine g_iload_n (pc := 47) d_K_joinedHypotheses_47 rfl ?_
  refine g_iconst (pc := 48) (v := nI 1) d_K_joinedHypotheses_48 (by decide) ?_
  refine g_nicmp_ne (pc := 49) (tgt := 60) d_K_joinedHypotheses_49 (by decide) (by omega) (by omega) (fun h49 => ?_) (fun h => absurd h (by decide))
  refine g_iload_n (pc := 60) d_K_joinedHypotheses_60 rfl ?_
  refine g_iconst (pc := 61) (v := nI 2) d_K_joinedHypotheses_61 (by decide) ?_
  refine g_nicmp_ne (pc := 62) (tgt := 77) d_K_joinedHypotheses_62 (by decide) (by omega) (by omega) (fun h62 => ?_) (fun h => absurd h (by decide))
  refine g_lload (pc := 77) d_K_joinedHypotheses_77 rfl ?_
  refine g_lret (pc := 79) d_K_joinedHypotheses_79 rfl (Nat.le_refl _) (Nat.le_refl _) ?_
  exact ⟨rfl, rfl⟩
set_option maxRecDepth 100000 in
set_option maxHeartbeats 4000000 in
theorem c_K_joined_8 {τ : Nat × Nat} {a : Nat → Nat} {i : Nat → Int32} {r : Nat → Nat → Int32} {L : Nat → Int64} {wr : pW} (x hx : Nat) (hx4 : x < 40) (hxh : L x = lN hx) (hx6 : hx < 2 ^ 60) (y hy : Nat) (hy4 : y < 40) (hyh : L y = lN hy) (hy6 : hy < 2 ^ 60) : pC m_K_joinedHypotheses τ [.ref (a 0), .int (nI 8), .int (nI x), .int (nI y)] (wX a i r L ++ wr) (fun rr w2 => rr = some (.long (lN (hx ||| hy))) ∧ w2 = wX a i r L ++ wr) := by
  refine pC.of rfl (Nat.le_of_ble_eq_true rfl) ?_
  show pG m_K_joinedHypotheses τ _ 0 0 0 [(0, _), (1, _), (2, _), (3, _)] [] _
  refine g_lconst (pc := 0) (v := lN 0) d_K_joinedHypotheses_0 (by decide) ?_
  refine g_lstore (pc := 1) [(4, _), (0, _), (1, _), (2, _), (3, _)] d_K_joinedHypotheses_1 (by decide) rfl ?_
  refine g_getsX (pc := 3) d_K_joinedHypotheses_3 lf_K_107 ?_
  refine g_iload_n (pc := 6) d_K_joinedHypotheses_6 rfl ?_
  refine g_saldX (pc := 7) (v := nI 2) d_K_joinedHypotheses_7 (vp_in_nI (by decide) (by decide)) (by decide) ?_
  refine g_iconst (pc := 8) (v := nI 2) d_K_joinedHypotheses_8 (by decide) ?_
  refine g_nicmp_ne (pc := 9) (tgt := 25) d_K_joinedHypotheses_9 (by decide) (by omega) (by omega) (fun h => absurd rfl h) (fun h9 => ?_)
  refine g_lload (pc := 12) d_K_joinedHypotheses_12 rfl ?_
  refine g_aload_n (pc := 14) d_K_joinedHypotheses_14 rfl ?_
  refine gx_K_book (pc := 15) d_K_joinedHypotheses_15 lf_K_35 ?_
  refine g_iload_n (pc := 18) d_K_joinedHypotheses_18 rfl ?_
  refine g_callV (M' := m_B_hypothesesOf) (pc := 19) (q := 4) d_K_joinedHypotheses_19 lm_K_152 (c_B_hypothesesOf x hx4) v_B_hypothesesOf rfl rfl rfl (by decide) rfl (Nat.le_of_ble_eq_true rfl) ?_
  rintro _ _ ⟨rfl, rfl⟩
  show pG m_K_joinedHypotheses τ _ 0 0 22 _ (.long _ :: _) _
  rw [hxh]
  refine g_lor (pc := 22) d_K_joinedHypotheses_22 ?_
  refine g_topl (lN hx) ((wb_or (by decide) (by omega)).trans (by rw [Nat.zero_or])) ?_
  refine g_lstore (pc := 23) [(4, _), (0, _), (1, _), (2, _), (3, _)] d_K_joinedHypotheses_23 (by decide) rfl ?_
  refine g_getsY (pc := 25) d_K_joinedHypotheses_25 lf_K_114 ?_
  refine g_iload_n (pc := 28) d_K_joinedHypotheses_28 rfl ?_
  refine g_saldY (pc := 29) (v := nI 2) d_K_joinedHypotheses_29 (vp_in_nI (by decide) (by decide)) (by decide) ?_
  refine g_iconst (pc := 30) (v := nI 2) d_K_joinedHypotheses_30 (by decide) ?_
  refine g_nicmp_ne (pc := 31) (tgt := 47) d_K_joinedHypotheses_31 (by decide) (by omega) (by omega) (fun h => absurd rfl h) (fun h31 => ?_)
  refine g_lload (pc := 34) d_K_joinedHypotheses_34 rfl ?_
  refine g_aload_n (pc := 36) d_K_joinedHypotheses_36 rfl ?_
  refine gx_K_book (pc := 37) d_K_joinedHypotheses_37 lf_K_35 ?_
  refine g_iload_n (pc := 40) d_K_joinedHypotheses_40 rfl ?_
  refine g_callV (M' := m_B_hypothesesOf) (pc := 41) (q := 4) d_K_joinedHypotheses_41 lm_K_152 (c_B_hypothesesOf y hy4) v_B_hypothesesOf rfl rfl rfl (by decide) rfl (Nat.le_of_ble_eq_true rfl) ?_
  rintro _ _ ⟨rfl, rfl⟩
  show pG m_K_joinedHypotheses τ _ 0 0 44 _ (.long _ :: _) _
  rw [hyh]
  refine g_lor (pc := 44) d_K_joinedHypotheses_44 ?_
  refine g_topl (lN (hx ||| hy)) (wb_or (by omega) (by omega)) ?_
  refine g_lstore (pc := 45) [(4, _), (0, _), (1, _), (2, _), (3, _)] d_K_joinedHypotheses_45 (by decide) rfl ?_
  refine g_iload_n (pc := 47) d_K_joinedHypotheses_47 rfl ?_
  refine g_iconst (pc := 48) (v := nI 1) d_K_joinedHypotheses_48 (by decide) ?_
  refine g_nicmp_ne (pc := 49) (tgt := 60) d_K_joinedHypotheses_49 (by decide) (by omega) (by omega) (fun h49 => ?_) (fun h => absurd h (by decide))
  refine g_iload_n (pc := 60) d_K_joinedHypotheses_60 rfl ?_
  refine g_iconst (pc := 61) (v := nI 2) d_K_joinedHypotheses_61 (by decide) ?_
  refine g_nicmp_ne (pc := 62) (tgt := 77) d_K_joinedHypotheses_62 (by decide) (by omega) (by omega) (fun h62 => ?_) (fun h => absurd h (by decide))
  refine g_lload (pc := 77) d_K_joinedHypotheses_77 rfl ?_
  refine g_lret (pc := 79) d_K_joinedHypotheses_79 rfl (Nat.le_refl _) (Nat.le_refl _) ?_
  exact ⟨rfl, rfl⟩
set_option maxRecDepth 100000 in
set_option maxHeartbeats 4000000 in
theorem c_K_joined_9 {τ : Nat × Nat} {a : Nat → Nat} {i : Nat → Int32} {r : Nat → Nat → Int32} {L : Nat → Int64} {wr : pW} (x hx : Nat) (hx4 : x < 40) (hxh : L x = lN hx) (hx6 : hx < 2 ^ 60) (y hy : Nat) (hy4 : y < 40) (hyh : L y = lN hy) (hy6 : hy < 2 ^ 60) : pC m_K_joinedHypotheses τ [.ref (a 0), .int (nI 9), .int (nI x), .int (nI y)] (wX a i r L ++ wr) (fun rr w2 => rr = some (.long (lN (hx ||| hy))) ∧ w2 = wX a i r L ++ wr) := by
  refine pC.of rfl (Nat.le_of_ble_eq_true rfl) ?_
  show pG m_K_joinedHypotheses τ _ 0 0 0 [(0, _), (1, _), (2, _), (3, _)] [] _
  refine g_lconst (pc := 0) (v := lN 0) d_K_joinedHypotheses_0 (by decide) ?_
  refine g_lstore (pc := 1) [(4, _), (0, _), (1, _), (2, _), (3, _)] d_K_joinedHypotheses_1 (by decide) rfl ?_
  refine g_getsX (pc := 3) d_K_joinedHypotheses_3 lf_K_107 ?_
  refine g_iload_n (pc := 6) d_K_joinedHypotheses_6 rfl ?_
  refine g_saldX (pc := 7) (v := nI 2) d_K_joinedHypotheses_7 (vp_in_nI (by decide) (by decide)) (by decide) ?_
  refine g_iconst (pc := 8) (v := nI 2) d_K_joinedHypotheses_8 (by decide) ?_
  refine g_nicmp_ne (pc := 9) (tgt := 25) d_K_joinedHypotheses_9 (by decide) (by omega) (by omega) (fun h => absurd rfl h) (fun h9 => ?_)
  refine g_lload (pc := 12) d_K_joinedHypotheses_12 rfl ?_
  refine g_aload_n (pc := 14) d_K_joinedHypotheses_14 rfl ?_
  refine gx_K_book (pc := 15) d_K_joinedHypotheses_15 lf_K_35 ?_
  refine g_iload_n (pc := 18) d_K_joinedHypotheses_18 rfl ?_
  refine g_callV (M' := m_B_hypothesesOf) (pc := 19) (q := 4) d_K_joinedHypotheses_19 lm_K_152 (c_B_hypothesesOf x hx4) v_B_hypothesesOf rfl rfl rfl (by decide) rfl (Nat.le_of_ble_eq_true rfl) ?_
  rintro _ _ ⟨rfl, rfl⟩
  show pG m_K_joinedHypotheses τ _ 0 0 22 _ (.long _ :: _) _
  rw [hxh]
  refine g_lor (pc := 22) d_K_joinedHypotheses_22 ?_
  refine g_topl (lN hx) ((wb_or (by decide) (by omega)).trans (by rw [Nat.zero_or])) ?_
  refine g_lstore (pc := 23) [(4, _), (0, _), (1, _), (2, _), (3, _)] d_K_joinedHypotheses_23 (by decide) rfl ?_
  refine g_getsY (pc := 25) d_K_joinedHypotheses_25 lf_K_114 ?_
  refine g_iload_n (pc := 28) d_K_joinedHypotheses_28 rfl ?_
  refine g_saldY (pc := 29) (v := nI 2) d_K_joinedHypotheses_29 (vp_in_nI (by decide) (by decide)) (by decide) ?_
  refine g_iconst (pc := 30) (v := nI 2) d_K_joinedHypotheses_30 (by decide) ?_
  refine g_nicmp_ne (pc := 31) (tgt := 47) d_K_joinedHypotheses_31 (by decide) (by omega) (by omega) (fun h => absurd rfl h) (fun h31 => ?_)
  refine g_lload (pc := 34) d_K_joinedHypotheses_34 rfl ?_
  refine g_aload_n (pc := 36) d_K_joinedHypotheses_36 rfl ?_
  refine gx_K_book (pc := 37) d_K_joinedHypotheses_37 lf_K_35 ?_
  refine g_iload_n (pc := 40) d_K_joinedHypotheses_40 rfl ?_
  refine g_callV (M' := m_B_hypothesesOf) (pc := 41) (q := 4) d_K_joinedHypotheses_41 lm_K_152 (c_B_hypothesesOf y hy4) v_B_hypothesesOf rfl rfl rfl (by decide) rfl (Nat.le_of_ble_eq_true rfl) ?_
  rintro _ _ ⟨rfl, rfl⟩
  show pG m_K_joinedHypotheses τ _ 0 0 44 _ (.long _ :: _) _
  rw [hyh]
  refine g_lor (pc := 44) d_K_joinedHypotheses_44 ?_
  refine g_topl (lN (hx ||| hy)) (wb_or (by omega) (by omega)) ?_
  refine g_lstore (pc := 45) [(4, _), (0, _), (1, _), (2, _), (3, _)] d_K_joinedHypotheses_45 (by decide) rfl ?_
  refine g_iload_n (pc := 47) d_K_joinedHypotheses_47 rfl ?_
  refine g_iconst (pc := 48) (v := nI 1) d_K_joinedHypotheses_48 (by decide) ?_
  refine g_nicmp_ne (pc := 49) (tgt := 60) d_K_joinedHypotheses_49 (by decide) (by omega) (by omega) (fun h49 => ?_) (fun h => absurd h (by decide))
  refine g_iload_n (pc := 60) d_K_joinedHypotheses_60 rfl ?_
  refine g_iconst (pc := 61) (v := nI 2) d_K_joinedHypotheses_61 (by decide) ?_
  refine g_nicmp_ne (pc := 62) (tgt := 77) d_K_joinedHypotheses_62 (by decide) (by omega) (by omega) (fun h62 => ?_) (fun h => absurd h (by decide))
  refine g_lload (pc := 77) d_K_joinedHypotheses_77 rfl ?_
  refine g_lret (pc := 79) d_K_joinedHypotheses_79 rfl (Nat.le_refl _) (Nat.le_refl _) ?_
  exact ⟨rfl, rfl⟩
set_option maxRecDepth 100000 in
set_option maxHeartbeats 4000000 in
theorem c_K_joined_10 {τ : Nat × Nat} {a : Nat → Nat} {i : Nat → Int32} {r : Nat → Nat → Int32} {L : Nat → Int64} {wr : pW} (x hx : Nat) (hx4 : x < 40) (hxh : L x = lN hx) (hx6 : hx < 2 ^ 60) (y : Int32) : pC m_K_joinedHypotheses τ [.ref (a 0), .int (nI 10), .int (nI x), .int y] (wX a i r L ++ wr) (fun rr w2 => rr = some (.long (lN (hx))) ∧ w2 = wX a i r L ++ wr) := by
  refine pC.of rfl (Nat.le_of_ble_eq_true rfl) ?_
  show pG m_K_joinedHypotheses τ _ 0 0 0 [(0, _), (1, _), (2, _), (3, _)] [] _
  refine g_lconst (pc := 0) (v := lN 0) d_K_joinedHypotheses_0 (by decide) ?_
  refine g_lstore (pc := 1) [(4, _), (0, _), (1, _), (2, _), (3, _)] d_K_joinedHypotheses_1 (by decide) rfl ?_
  refine g_getsX (pc := 3) d_K_joinedHypotheses_3 lf_K_107 ?_
  refine g_iload_n (pc := 6) d_K_joinedHypotheses_6 rfl ?_
  refine g_saldX (pc := 7) (v := nI 2) d_K_joinedHypotheses_7 (vp_in_nI (by decide) (by decide)) (by decide) ?_
  refine g_iconst (pc := 8) (v := nI 2) d_K_joinedHypotheses_8 (by decide) ?_
  refine g_nicmp_ne (pc := 9) (tgt := 25) d_K_joinedHypotheses_9 (by decide) (by omega) (by omega) (fun h => absurd rfl h) (fun h9 => ?_)
  refine g_lload (pc := 12) d_K_joinedHypotheses_12 rfl ?_
  refine g_aload_n (pc := 14) d_K_joinedHypotheses_14 rfl ?_
  refine gx_K_book (pc := 15) d_K_joinedHypotheses_15 lf_K_35 ?_
  refine g_iload_n (pc := 18) d_K_joinedHypotheses_18 rfl ?_
  refine g_callV (M' := m_B_hypothesesOf) (pc := 19) (q := 4) d_K_joinedHypotheses_19 lm_K_152 (c_B_hypothesesOf x hx4) v_B_hypothesesOf rfl rfl rfl (by decide) rfl (Nat.le_of_ble_eq_true rfl) ?_
  rintro _ _ ⟨rfl, rfl⟩
  show pG m_K_joinedHypotheses τ _ 0 0 22 _ (.long _ :: _) _
  rw [hxh]
  refine g_lor (pc := 22) d_K_joinedHypotheses_22 ?_
  refine g_topl (lN hx) ((wb_or (by decide) (by omega)).trans (by rw [Nat.zero_or])) ?_
  refine g_lstore (pc := 23) [(4, _), (0, _), (1, _), (2, _), (3, _)] d_K_joinedHypotheses_23 (by decide) rfl ?_
  refine g_getsY (pc := 25) d_K_joinedHypotheses_25 lf_K_114 ?_
  refine g_iload_n (pc := 28) d_K_joinedHypotheses_28 rfl ?_
  refine g_saldY (pc := 29) (v := nI 1) d_K_joinedHypotheses_29 (vp_in_nI (by decide) (by decide)) (by decide) ?_
  refine g_iconst (pc := 30) (v := nI 2) d_K_joinedHypotheses_30 (by decide) ?_
  refine g_nicmp_ne (pc := 31) (tgt := 47) d_K_joinedHypotheses_31 (by decide) (by omega) (by omega) (fun h31 => ?_) (fun h => absurd h (by decide))
  refine g_iload_n (pc := 47) d_K_joinedHypotheses_47 rfl ?_
  refine g_iconst (pc := 48) (v := nI 1) d_K_joinedHypotheses_48 (by decide) ?_
  refine g_nicmp_ne (pc := 49) (tgt := 60) d_K_joinedHypotheses_49 (by decide) (by omega) (by omega) (fun h49 => ?_) (fun h => absurd h (by decide))
  refine g_iload_n (pc := 60) d_K_joinedHypotheses_60 rfl ?_
  refine g_iconst (pc := 61) (v := nI 2) d_K_joinedHypotheses_61 (by decide) ?_
  refine g_nicmp_ne (pc := 62) (tgt := 77) d_K_joinedHypotheses_62 (by decide) (by omega) (by omega) (fun h62 => ?_) (fun h => absurd h (by decide))
  refine g_lload (pc := 77) d_K_joinedHypotheses_77 rfl ?_
  refine g_lret (pc := 79) d_K_joinedHypotheses_79 rfl (Nat.le_refl _) (Nat.le_refl _) ?_
  exact ⟨rfl, rfl⟩
set_option maxRecDepth 100000 in
set_option maxHeartbeats 4000000 in
theorem c_K_joined_11 {τ : Nat × Nat} {a : Nat → Nat} {i : Nat → Int32} {r : Nat → Nat → Int32} {L : Nat → Int64} {wr : pW} (x : Nat) (y : Int32) : pC m_K_joinedHypotheses τ [.ref (a 0), .int (nI 11), .int (nI x), .int y] (wX a i r L ++ wr) (fun rr w2 => rr = some (.long (lN (0))) ∧ w2 = wX a i r L ++ wr) := by
  refine pC.of rfl (Nat.le_of_ble_eq_true rfl) ?_
  show pG m_K_joinedHypotheses τ _ 0 0 0 [(0, _), (1, _), (2, _), (3, _)] [] _
  refine g_lconst (pc := 0) (v := lN 0) d_K_joinedHypotheses_0 (by decide) ?_
  refine g_lstore (pc := 1) [(4, _), (0, _), (1, _), (2, _), (3, _)] d_K_joinedHypotheses_1 (by decide) rfl ?_
  refine g_getsX (pc := 3) d_K_joinedHypotheses_3 lf_K_107 ?_
  refine g_iload_n (pc := 6) d_K_joinedHypotheses_6 rfl ?_
  refine g_saldX (pc := 7) (v := nI 1) d_K_joinedHypotheses_7 (vp_in_nI (by decide) (by decide)) (by decide) ?_
  refine g_iconst (pc := 8) (v := nI 2) d_K_joinedHypotheses_8 (by decide) ?_
  refine g_nicmp_ne (pc := 9) (tgt := 25) d_K_joinedHypotheses_9 (by decide) (by omega) (by omega) (fun h9 => ?_) (fun h => absurd h (by decide))
  refine g_getsY (pc := 25) d_K_joinedHypotheses_25 lf_K_114 ?_
  refine g_iload_n (pc := 28) d_K_joinedHypotheses_28 rfl ?_
  refine g_saldY (pc := 29) (v := nI 0) d_K_joinedHypotheses_29 (vp_in_nI (by decide) (by decide)) (by decide) ?_
  refine g_iconst (pc := 30) (v := nI 2) d_K_joinedHypotheses_30 (by decide) ?_
  refine g_nicmp_ne (pc := 31) (tgt := 47) d_K_joinedHypotheses_31 (by decide) (by omega) (by omega) (fun h31 => ?_) (fun h => absurd h (by decide))
  refine g_iload_n (pc := 47) d_K_joinedHypotheses_47 rfl ?_
  refine g_iconst (pc := 48) (v := nI 1) d_K_joinedHypotheses_48 (by decide) ?_
  refine g_nicmp_ne (pc := 49) (tgt := 60) d_K_joinedHypotheses_49 (by decide) (by omega) (by omega) (fun h49 => ?_) (fun h => absurd h (by decide))
  refine g_iload_n (pc := 60) d_K_joinedHypotheses_60 rfl ?_
  refine g_iconst (pc := 61) (v := nI 2) d_K_joinedHypotheses_61 (by decide) ?_
  refine g_nicmp_ne (pc := 62) (tgt := 77) d_K_joinedHypotheses_62 (by decide) (by omega) (by omega) (fun h62 => ?_) (fun h => absurd h (by decide))
  refine g_lload (pc := 77) d_K_joinedHypotheses_77 rfl ?_
  refine g_lret (pc := 79) d_K_joinedHypotheses_79 rfl (Nat.le_refl _) (Nat.le_refl _) ?_
  exact ⟨rfl, rfl⟩
set_option maxRecDepth 100000 in
set_option maxHeartbeats 4000000 in
theorem c_K_joined_12 {τ : Nat × Nat} {a : Nat → Nat} {i : Nat → Int32} {r : Nat → Nat → Int32} {L : Nat → Int64} {wr : pW} (x hx : Nat) (hx4 : x < 40) (hxh : L x = lN hx) (hx6 : hx < 2 ^ 60) (y hy : Nat) (hy4 : y < 40) (hyh : L y = lN hy) (hy6 : hy < 2 ^ 60) : pC m_K_joinedHypotheses τ [.ref (a 0), .int (nI 12), .int (nI x), .int (nI y)] (wX a i r L ++ wr) (fun rr w2 => rr = some (.long (lN (hx ||| hy))) ∧ w2 = wX a i r L ++ wr) := by
  refine pC.of rfl (Nat.le_of_ble_eq_true rfl) ?_
  show pG m_K_joinedHypotheses τ _ 0 0 0 [(0, _), (1, _), (2, _), (3, _)] [] _
  refine g_lconst (pc := 0) (v := lN 0) d_K_joinedHypotheses_0 (by decide) ?_
  refine g_lstore (pc := 1) [(4, _), (0, _), (1, _), (2, _), (3, _)] d_K_joinedHypotheses_1 (by decide) rfl ?_
  refine g_getsX (pc := 3) d_K_joinedHypotheses_3 lf_K_107 ?_
  refine g_iload_n (pc := 6) d_K_joinedHypotheses_6 rfl ?_
  refine g_saldX (pc := 7) (v := nI 2) d_K_joinedHypotheses_7 (vp_in_nI (by decide) (by decide)) (by decide) ?_
  refine g_iconst (pc := 8) (v := nI 2) d_K_joinedHypotheses_8 (by decide) ?_
  refine g_nicmp_ne (pc := 9) (tgt := 25) d_K_joinedHypotheses_9 (by decide) (by omega) (by omega) (fun h => absurd rfl h) (fun h9 => ?_)
  refine g_lload (pc := 12) d_K_joinedHypotheses_12 rfl ?_
  refine g_aload_n (pc := 14) d_K_joinedHypotheses_14 rfl ?_
  refine gx_K_book (pc := 15) d_K_joinedHypotheses_15 lf_K_35 ?_
  refine g_iload_n (pc := 18) d_K_joinedHypotheses_18 rfl ?_
  refine g_callV (M' := m_B_hypothesesOf) (pc := 19) (q := 4) d_K_joinedHypotheses_19 lm_K_152 (c_B_hypothesesOf x hx4) v_B_hypothesesOf rfl rfl rfl (by decide) rfl (Nat.le_of_ble_eq_true rfl) ?_
  rintro _ _ ⟨rfl, rfl⟩
  show pG m_K_joinedHypotheses τ _ 0 0 22 _ (.long _ :: _) _
  rw [hxh]
  refine g_lor (pc := 22) d_K_joinedHypotheses_22 ?_
  refine g_topl (lN hx) ((wb_or (by decide) (by omega)).trans (by rw [Nat.zero_or])) ?_
  refine g_lstore (pc := 23) [(4, _), (0, _), (1, _), (2, _), (3, _)] d_K_joinedHypotheses_23 (by decide) rfl ?_
  refine g_getsY (pc := 25) d_K_joinedHypotheses_25 lf_K_114 ?_
  refine g_iload_n (pc := 28) d_K_joinedHypotheses_28 rfl ?_
  refine g_saldY (pc := 29) (v := nI 2) d_K_joinedHypotheses_29 (vp_in_nI (by decide) (by decide)) (by decide) ?_
  refine g_iconst (pc := 30) (v := nI 2) d_K_joinedHypotheses_30 (by decide) ?_
  refine g_nicmp_ne (pc := 31) (tgt := 47) d_K_joinedHypotheses_31 (by decide) (by omega) (by omega) (fun h => absurd rfl h) (fun h31 => ?_)
  refine g_lload (pc := 34) d_K_joinedHypotheses_34 rfl ?_
  refine g_aload_n (pc := 36) d_K_joinedHypotheses_36 rfl ?_
  refine gx_K_book (pc := 37) d_K_joinedHypotheses_37 lf_K_35 ?_
  refine g_iload_n (pc := 40) d_K_joinedHypotheses_40 rfl ?_
  refine g_callV (M' := m_B_hypothesesOf) (pc := 41) (q := 4) d_K_joinedHypotheses_41 lm_K_152 (c_B_hypothesesOf y hy4) v_B_hypothesesOf rfl rfl rfl (by decide) rfl (Nat.le_of_ble_eq_true rfl) ?_
  rintro _ _ ⟨rfl, rfl⟩
  show pG m_K_joinedHypotheses τ _ 0 0 44 _ (.long _ :: _) _
  rw [hyh]
  refine g_lor (pc := 44) d_K_joinedHypotheses_44 ?_
  refine g_topl (lN (hx ||| hy)) (wb_or (by omega) (by omega)) ?_
  refine g_lstore (pc := 45) [(4, _), (0, _), (1, _), (2, _), (3, _)] d_K_joinedHypotheses_45 (by decide) rfl ?_
  refine g_iload_n (pc := 47) d_K_joinedHypotheses_47 rfl ?_
  refine g_iconst (pc := 48) (v := nI 1) d_K_joinedHypotheses_48 (by decide) ?_
  refine g_nicmp_ne (pc := 49) (tgt := 60) d_K_joinedHypotheses_49 (by decide) (by omega) (by omega) (fun h49 => ?_) (fun h => absurd h (by decide))
  refine g_iload_n (pc := 60) d_K_joinedHypotheses_60 rfl ?_
  refine g_iconst (pc := 61) (v := nI 2) d_K_joinedHypotheses_61 (by decide) ?_
  refine g_nicmp_ne (pc := 62) (tgt := 77) d_K_joinedHypotheses_62 (by decide) (by omega) (by omega) (fun h62 => ?_) (fun h => absurd h (by decide))
  refine g_lload (pc := 77) d_K_joinedHypotheses_77 rfl ?_
  refine g_lret (pc := 79) d_K_joinedHypotheses_79 rfl (Nat.le_refl _) (Nat.le_refl _) ?_
  exact ⟨rfl, rfl⟩
theorem fil_lt {f : List Nat} (hf : ∀ x, x ∈ f → x < 4096) : ∀ {row s : List Nat}, (∀ x, x ∈ row → x < 4096) → ∀ x, x ∈ fil f s row → x < 4096
  | [], s, _, x, h => by cases s <;> simp [fil] at h
  | t :: row, [], _, x, h => by simp [fil] at h
  | t :: row, dd :: s, h1, x, h => by
    rcases List.mem_append.mp (show x ∈ _ ++ _ from h) with e | e
    · split at e
      · exact hf x e
      · rw [List.mem_singleton.mp e]
        exact h1 t List.mem_cons_self
    · exact fil_lt hf (fun y hy => h1 y (List.mem_cons_of_mem _ hy)) x e
theorem fil_len {f : List Nat} (hf : f.length ≤ 30) : ∀ {row s : List Nat}, (fil f s row).length ≤ 30 * row.length
  | [], s => by cases s <;> simp [fil]
  | t :: row, [] => by simp [fil]
  | t :: row, dd :: s => by
    have := fil_len hf (row := row) (s := nxt t dd s)
    have e : fil f (dd :: s) (t :: row) = (if t / 512 = 2 ∧ t / 16 % 32 = dd then f else [t]) ++ fil f (nxt t dd s) row := rfl
    rw [e, List.length_append, List.length_cons]
    have : (if t / 512 = 2 ∧ t / 16 % 32 = dd then f else [t]).length ≤ 30 := by
      split
      · exact hf
      · simp
    omega
theorem rpl_lt {v : Nat} {f : List Nat} (hf : ∀ x, x ∈ f → x < 4096) : ∀ {row : List Nat}, (∀ x, x ∈ row → x < 4096) → ∀ x, x ∈ rpl v f row → x < 4096
  | [], _, x, h => by simp [rpl] at h
  | t :: row, h1, x, h => by
    rcases List.mem_append.mp (show x ∈ _ ++ _ from h) with e | e
    · split at e
      · exact hf x e
      · rw [List.mem_singleton.mp e]
        exact h1 t List.mem_cons_self
    · exact rpl_lt hf (fun y hy => h1 y (List.mem_cons_of_mem _ hy)) x e
theorem rpl_len {v : Nat} {f : List Nat} (hf : f.length ≤ 30) : ∀ {row : List Nat}, (rpl v f row).length ≤ 30 * row.length
  | [] => by simp [rpl]
  | t :: row => by
    have := rpl_len (v := v) hf (row := row)
    have e : rpl v f (t :: row) = (if t = v then f else [t]) ++ rpl v f row := rfl
    rw [e, List.length_append, List.length_cons]
    have : (if t = v then f else [t]).length ≤ 30 := by
      split
      · exact hf
      · simp
    omega
set_option maxRecDepth 100000 in
set_option maxHeartbeats 4000000 in
theorem c_K_draftSubstituted {τ : Nat × Nat} {a : Nat → Nat} {i : Nat → Int32} {r : Nat → Nat → Int32} {L : Nat → Int64} {wr : pW} (d : List Nat) (k q : Nat) (row B C : List Nat) (hq : q < 2 ^ 31) (hd : XD d i r) (hr : PA (r 2) k row) (hB : PA (r 2) (30 * (q / 64)) B) (hC : PA (r 2) (30 * (q % 64)) C) (hb : d.length + 900 < 100000) : pC m_K_draftSubstituted τ [.ref (a 0), .int (nI k), .int (nI q)] (wX a i r L ++ wr) ((fun rr w2 => ∃ i2 r2, rr = none ∧ w2 = wX a i2 r2 L ++ wr ∧ XD (d ++ rpl (hdt B) C row) i2 r2 ∧ DK i r i2 r2)) := by
  refine pC.of rfl (Nat.le_of_ble_eq_true rfl) ?_
  show pG m_K_draftSubstituted τ _ 0 0 0 [(0, _), (1, _), (2, _)] [] _
  refine g_aload_n (pc := 0) d_K_draftSubstituted_0 rfl ?_
  refine gx_K_shelf (pc := 1) d_K_draftSubstituted_1 lf_K_19 ?_
  refine g_aload_n (pc := 4) d_K_draftSubstituted_4 rfl ?_
  refine gx_K_shelf (pc := 5) d_K_draftSubstituted_5 lf_K_19 ?_
  refine g_iload_n (pc := 8) d_K_draftSubstituted_8 rfl ?_
  refine g_bipush (pc := 9) (v := nI 64) d_K_draftSubstituted_9 (by decide) ?_
  refine g_ndiv (pc := 11) d_K_draftSubstituted_11 (by omega) (by decide) (by decide) ?_
  refine g_callV (M' := m_S_start) (pc := 12) (q := 2) d_K_draftSubstituted_12 lm_K_69 (c_S_start (q / 64)) v_S_start rfl rfl rfl (by decide) rfl (Nat.le_of_ble_eq_true rfl) ?_
  rintro _ _ ⟨rfl, rfl⟩
  show pG m_K_draftSubstituted τ _ 0 0 15 _ (.int _ :: _) _
  refine g_callV (M' := m_S_token) (pc := 15) (q := 2) d_K_draftSubstituted_15 lm_K_90 (c_S_token (30 * (q / 64)) (hdt B) hB.hd.1 hB.hd.2.1) v_S_token rfl rfl rfl (by decide) rfl (Nat.le_of_ble_eq_true rfl) ?_
  rintro _ _ ⟨rfl, rfl⟩
  show pG m_K_draftSubstituted τ _ 0 0 18 _ (.int _ :: _) _
  refine g_istore_n (pc := 18) [(3, _), (0, _), (1, _), (2, _)] d_K_draftSubstituted_18 (by decide) rfl ?_
  refine g_aload_n (pc := 19) d_K_draftSubstituted_19 rfl ?_
  refine gx_K_draft (pc := 20) d_K_draftSubstituted_20 lf_K_28 ?_
  refine g_iload_n (pc := 23) d_K_draftSubstituted_23 rfl ?_
  refine g_iload_n (pc := 24) d_K_draftSubstituted_24 rfl ?_
  refine g_aload_n (pc := 25) d_K_draftSubstituted_25 rfl ?_
  refine gx_K_shelf (pc := 26) d_K_draftSubstituted_26 lf_K_19 ?_
  refine g_iload_n (pc := 29) d_K_draftSubstituted_29 rfl ?_
  refine g_bipush (pc := 30) (v := nI 64) d_K_draftSubstituted_30 (by decide) ?_
  refine g_nrem (pc := 32) d_K_draftSubstituted_32 (by omega) (by decide) (by decide) ?_
  refine g_callV (M' := m_S_start) (pc := 33) (q := 2) d_K_draftSubstituted_33 lm_K_69 (c_S_start (q % 64)) v_S_start rfl rfl rfl (by decide) rfl (Nat.le_of_ble_eq_true rfl) ?_
  rintro _ _ ⟨rfl, rfl⟩
  show pG m_K_draftSubstituted τ _ 0 0 36 _ (.int _ :: _) _
  refine g_callV (M' := m_D_addReplacing) (pc := 36) (q := 3) d_K_draftSubstituted_36 lm_K_218 (c_D_addReplacing d k (hdt B) (30 * (q % 64)) row C hB.hd.2.2 hd hr.1 hr.2.1 hr.2.2.1 hr.2.2.2 hC.1 hC.2.1 hC.2.2.1 hC.2.2.2 (by omega)) v_D_addReplacing rfl rfl rfl (by decide) rfl (Nat.le_of_ble_eq_true rfl) ?_
  rintro _ _ ⟨i2, r2, rfl, rfl, hx2, hk2⟩
  show pG m_K_draftSubstituted τ _ 0 0 39 _ _ _
  refine g_vret (pc := 39) d_K_draftSubstituted_39 rfl (Nat.le_refl _) (Nat.le_refl _) ?_
  exact ⟨i2, r2, rfl, rfl, hx2, hk2⟩
set_option maxRecDepth 100000 in
set_option maxHeartbeats 4000000 in
theorem c_K_conc_0 {τ : Nat × Nat} {a : Nat → Nat} {i : Nat → Int32} {r : Nat → Nat → Int32} {L : Nat → Int64} {wr : pW} (x : Nat) (y : Int32) (A : List Nat) (hA : PA (r 2) (30 * x) A) (hd : XD [] i r) : pC m_K_draftConclusion τ [.ref (a 0), .int (nI 0), .int (nI x), .int y] (wX a i r L ++ wr) ((fun rr w2 => ∃ i2 r2, rr = none ∧ w2 = wX a i2 r2 L ++ wr ∧ XD (A) i2 r2 ∧ DW i r i2 r2)) := by
  refine pC.of rfl (Nat.le_of_ble_eq_true rfl) ?_
  show pG m_K_draftConclusion τ _ 0 0 0 [(0, _), (1, _), (2, _), (3, _)] [] _
  refine g_aload_n (pc := 0) d_K_draftConclusion_0 rfl ?_
  refine g_getsX (pc := 1) d_K_draftConclusion_1 lf_K_107 ?_
  refine g_iload_n (pc := 4) d_K_draftConclusion_4 rfl ?_
  refine g_saldX (pc := 5) (v := nI 1) d_K_draftConclusion_5 (vp_in_nI (by decide) (by decide)) (by decide) ?_
  refine g_iload_n (pc := 6) d_K_draftConclusion_6 rfl ?_
  refine g_callV (M' := m_K_startOf) (pc := 7) (q := 0) d_K_draftConclusion_7 lm_K_182 (c_K_startOf_1 x) v_K_startOf rfl rfl rfl (by decide) rfl (Nat.le_of_ble_eq_true rfl) ?_
  rintro _ _ ⟨rfl, rfl⟩
  show pG m_K_draftConclusion τ _ 0 0 10 _ (.int _ :: _) _
  refine g_istore (pc := 10) [(4, _), (0, _), (1, _), (2, _), (3, _)] d_K_draftConclusion_10 (by decide) rfl ?_
  refine g_aload_n (pc := 12) d_K_draftConclusion_12 rfl ?_
  refine g_getsY (pc := 13) d_K_draftConclusion_13 lf_K_114 ?_
  refine g_iload_n (pc := 16) d_K_draftConclusion_16 rfl ?_
  refine g_saldY (pc := 17) (v := nI 0) d_K_draftConclusion_17 (vp_in_nI (by decide) (by decide)) (by decide) ?_
  refine g_iload_n (pc := 18) d_K_draftConclusion_18 rfl ?_
  refine g_callV (M' := m_K_startOf) (pc := 19) (q := 0) d_K_draftConclusion_19 lm_K_182 (c_K_startOf_0 y) v_K_startOf rfl rfl rfl (by decide) rfl (Nat.le_of_ble_eq_true rfl) ?_
  rintro _ _ ⟨rfl, rfl⟩
  show pG m_K_draftConclusion τ _ 0 0 22 _ (.int _ :: _) _
  refine g_istore (pc := 22) [(5, _), (4, _), (0, _), (1, _), (2, _), (3, _)] d_K_draftConclusion_22 (by decide) rfl ?_
  refine g_iload_n (pc := 24) d_K_draftConclusion_24 rfl ?_
  refine g_tableOut (pc := 25) (tgt := 407) d_K_draftConclusion_25 (by decide) (by decide) ?_
  refine g_aload_n (pc := 407) d_K_draftConclusion_407 rfl ?_
  refine gx_K_draft (pc := 408) d_K_draftConclusion_408 lf_K_28 ?_
  refine g_iload (pc := 411) d_K_draftConclusion_411 rfl ?_
  refine g_callV (M' := m_D_addPart) (pc := 413) (q := 3) d_K_draftConclusion_413 lm_K_176 (c_D_addPart [] _ A hd hA.1 hA.2.1 hA.2.2.1 (by have := hA.2.2.2; simp; omega)) v_D_addPart rfl rfl rfl (by decide) rfl (Nat.le_of_ble_eq_true rfl) ?_
  rintro _ _ ⟨i2, r2, rfl, rfl, hx2, hk2⟩
  show pG m_K_draftConclusion τ _ 0 0 416 _ _ _
  refine g_vret (pc := 416) d_K_draftConclusion_416 rfl (Nat.le_refl _) (Nat.le_refl _) ?_
  refine ⟨i2, r2, rfl, rfl, ?_, hk2.w⟩
  exact hx2
set_option maxRecDepth 100000 in
set_option maxHeartbeats 4000000 in
theorem c_K_conc_1 {τ : Nat × Nat} {a : Nat → Nat} {i : Nat → Int32} {r : Nat → Nat → Int32} {L : Nat → Int64} {wr : pW} (x : Nat) (y : Int32) (A : List Nat) (hA : PA (r 2) (30 * x) A) (hd : XD [] i r) : pC m_K_draftConclusion τ [.ref (a 0), .int (nI 1), .int (nI x), .int y] (wX a i r L ++ wr) ((fun rr w2 => ∃ i2 r2, rr = none ∧ w2 = wX a i2 r2 L ++ wr ∧ XD (A) i2 r2 ∧ DW i r i2 r2)) := by
  refine pC.of rfl (Nat.le_of_ble_eq_true rfl) ?_
  show pG m_K_draftConclusion τ _ 0 0 0 [(0, _), (1, _), (2, _), (3, _)] [] _
  refine g_aload_n (pc := 0) d_K_draftConclusion_0 rfl ?_
  refine g_getsX (pc := 1) d_K_draftConclusion_1 lf_K_107 ?_
  refine g_iload_n (pc := 4) d_K_draftConclusion_4 rfl ?_
  refine g_saldX (pc := 5) (v := nI 1) d_K_draftConclusion_5 (vp_in_nI (by decide) (by decide)) (by decide) ?_
  refine g_iload_n (pc := 6) d_K_draftConclusion_6 rfl ?_
  refine g_callV (M' := m_K_startOf) (pc := 7) (q := 0) d_K_draftConclusion_7 lm_K_182 (c_K_startOf_1 x) v_K_startOf rfl rfl rfl (by decide) rfl (Nat.le_of_ble_eq_true rfl) ?_
  rintro _ _ ⟨rfl, rfl⟩
  show pG m_K_draftConclusion τ _ 0 0 10 _ (.int _ :: _) _
  refine g_istore (pc := 10) [(4, _), (0, _), (1, _), (2, _), (3, _)] d_K_draftConclusion_10 (by decide) rfl ?_
  refine g_aload_n (pc := 12) d_K_draftConclusion_12 rfl ?_
  refine g_getsY (pc := 13) d_K_draftConclusion_13 lf_K_114 ?_
  refine g_iload_n (pc := 16) d_K_draftConclusion_16 rfl ?_
  refine g_saldY (pc := 17) (v := nI 0) d_K_draftConclusion_17 (vp_in_nI (by decide) (by decide)) (by decide) ?_
  refine g_iload_n (pc := 18) d_K_draftConclusion_18 rfl ?_
  refine g_callV (M' := m_K_startOf) (pc := 19) (q := 0) d_K_draftConclusion_19 lm_K_182 (c_K_startOf_0 y) v_K_startOf rfl rfl rfl (by decide) rfl (Nat.le_of_ble_eq_true rfl) ?_
  rintro _ _ ⟨rfl, rfl⟩
  show pG m_K_draftConclusion τ _ 0 0 22 _ (.int _ :: _) _
  refine g_istore (pc := 22) [(5, _), (4, _), (0, _), (1, _), (2, _), (3, _)] d_K_draftConclusion_22 (by decide) rfl ?_
  refine g_iload_n (pc := 24) d_K_draftConclusion_24 rfl ?_
  refine g_tableOut (pc := 25) (tgt := 407) d_K_draftConclusion_25 (by decide) (by decide) ?_
  refine g_aload_n (pc := 407) d_K_draftConclusion_407 rfl ?_
  refine gx_K_draft (pc := 408) d_K_draftConclusion_408 lf_K_28 ?_
  refine g_iload (pc := 411) d_K_draftConclusion_411 rfl ?_
  refine g_callV (M' := m_D_addPart) (pc := 413) (q := 3) d_K_draftConclusion_413 lm_K_176 (c_D_addPart [] _ A hd hA.1 hA.2.1 hA.2.2.1 (by have := hA.2.2.2; simp; omega)) v_D_addPart rfl rfl rfl (by decide) rfl (Nat.le_of_ble_eq_true rfl) ?_
  rintro _ _ ⟨i2, r2, rfl, rfl, hx2, hk2⟩
  show pG m_K_draftConclusion τ _ 0 0 416 _ _ _
  refine g_vret (pc := 416) d_K_draftConclusion_416 rfl (Nat.le_refl _) (Nat.le_refl _) ?_
  refine ⟨i2, r2, rfl, rfl, ?_, hk2.w⟩
  exact hx2
set_option maxRecDepth 100000 in
set_option maxHeartbeats 4000000 in
theorem c_K_conc_2 {τ : Nat × Nat} {a : Nat → Nat} {i : Nat → Int32} {r : Nat → Nat → Int32} {L : Nat → Int64} {wr : pW} (x cx : Nat) (hx4 : x < 40) (hxc : r 6 x = nI cx) (y : Nat) (A : List Nat) (hA : PA (r 2) (30 * cx) A) (B : List Nat) (hB : PA (r 2) (30 * y) B) (hd : XD [] i r) : pC m_K_draftConclusion τ [.ref (a 0), .int (nI 2), .int (nI x), .int (nI y)] (wX a i r L ++ wr) ((fun rr w2 => ∃ i2 r2, rr = none ∧ w2 = wX a i2 r2 L ++ wr ∧ XD (sJn 6 B A) i2 r2 ∧ DW i r i2 r2)) := by
  refine pC.of rfl (Nat.le_of_ble_eq_true rfl) ?_
  show pG m_K_draftConclusion τ _ 0 0 0 [(0, _), (1, _), (2, _), (3, _)] [] _
  refine g_aload_n (pc := 0) d_K_draftConclusion_0 rfl ?_
  refine g_getsX (pc := 1) d_K_draftConclusion_1 lf_K_107 ?_
  refine g_iload_n (pc := 4) d_K_draftConclusion_4 rfl ?_
  refine g_saldX (pc := 5) (v := nI 2) d_K_draftConclusion_5 (vp_in_nI (by decide) (by decide)) (by decide) ?_
  refine g_iload_n (pc := 6) d_K_draftConclusion_6 rfl ?_
  refine g_callV (M' := m_K_startOf) (pc := 7) (q := 0) d_K_draftConclusion_7 lm_K_182 (c_K_startOf_2 x cx hx4 hxc) v_K_startOf rfl rfl rfl (by decide) rfl (Nat.le_of_ble_eq_true rfl) ?_
  rintro _ _ ⟨rfl, rfl⟩
  show pG m_K_draftConclusion τ _ 0 0 10 _ (.int _ :: _) _
  refine g_istore (pc := 10) [(4, _), (0, _), (1, _), (2, _), (3, _)] d_K_draftConclusion_10 (by decide) rfl ?_
  refine g_aload_n (pc := 12) d_K_draftConclusion_12 rfl ?_
  refine g_getsY (pc := 13) d_K_draftConclusion_13 lf_K_114 ?_
  refine g_iload_n (pc := 16) d_K_draftConclusion_16 rfl ?_
  refine g_saldY (pc := 17) (v := nI 1) d_K_draftConclusion_17 (vp_in_nI (by decide) (by decide)) (by decide) ?_
  refine g_iload_n (pc := 18) d_K_draftConclusion_18 rfl ?_
  refine g_callV (M' := m_K_startOf) (pc := 19) (q := 0) d_K_draftConclusion_19 lm_K_182 (c_K_startOf_1 y) v_K_startOf rfl rfl rfl (by decide) rfl (Nat.le_of_ble_eq_true rfl) ?_
  rintro _ _ ⟨rfl, rfl⟩
  show pG m_K_draftConclusion τ _ 0 0 22 _ (.int _ :: _) _
  refine g_istore (pc := 22) [(5, _), (4, _), (0, _), (1, _), (2, _), (3, _)] d_K_draftConclusion_22 (by decide) rfl ?_
  refine g_iload_n (pc := 24) d_K_draftConclusion_24 rfl ?_
  refine g_tableIn (pc := 25) (tgt := 88) d_K_draftConclusion_25 (by decide) (by decide) rfl (by decide) ?_
  refine g_aload_n (pc := 88) d_K_draftConclusion_88 rfl ?_
  refine g_bipush (pc := 89) (v := nI 6) d_K_draftConclusion_89 (by decide) ?_
  refine g_iload (pc := 91) d_K_draftConclusion_91 rfl ?_
  refine g_iload (pc := 93) d_K_draftConclusion_93 rfl ?_
  refine g_callV (M' := m_K_draftJoint) (pc := 95) (q := 0) d_K_draftConclusion_95 lm_K_103 (c_K_draftJoint 6 _ _ B A (by decide) hd hB hA (by simp)) v_K_draftJoint rfl rfl rfl (by decide) rfl (Nat.le_of_ble_eq_true rfl) ?_
  rintro _ _ ⟨i2, r2, rfl, rfl, hx2, hk2⟩
  show pG m_K_draftConclusion τ _ 0 0 98 _ _ _
  refine g_goto (pc := 98) (tgt := 416) d_K_draftConclusion_98 (by decide) ?_
  refine g_vret (pc := 416) d_K_draftConclusion_416 rfl (Nat.le_refl _) (Nat.le_refl _) ?_
  refine ⟨i2, r2, rfl, rfl, ?_, hk2.w⟩
  exact hx2
set_option maxRecDepth 100000 in
set_option maxHeartbeats 4000000 in
theorem c_K_conc_3 {τ : Nat × Nat} {a : Nat → Nat} {i : Nat → Int32} {r : Nat → Nat → Int32} {L : Nat → Int64} {wr : pW} (x cx : Nat) (hx4 : x < 40) (hxc : r 6 x = nI cx) (y cy : Nat) (hy4 : y < 40) (hyc : r 6 y = nI cy) (A : List Nat) (hA : PA (r 2) (30 * cx) A) (B : List Nat) (hB : PA (r 2) (30 * cy) B) (hd : XD [] i r) (hk : tgR A = 6) : pC m_K_draftConclusion τ [.ref (a 0), .int (nI 3), .int (nI x), .int (nI y)] (wX a i r L ++ wr) ((fun rr w2 => ∃ i2 r2, rr = none ∧ w2 = wX a i2 r2 L ++ wr ∧ XD (p2 A) i2 r2 ∧ DW i r i2 r2)) := by
  refine pC.of rfl (Nat.le_of_ble_eq_true rfl) ?_
  show pG m_K_draftConclusion τ _ 0 0 0 [(0, _), (1, _), (2, _), (3, _)] [] _
  refine g_aload_n (pc := 0) d_K_draftConclusion_0 rfl ?_
  refine g_getsX (pc := 1) d_K_draftConclusion_1 lf_K_107 ?_
  refine g_iload_n (pc := 4) d_K_draftConclusion_4 rfl ?_
  refine g_saldX (pc := 5) (v := nI 2) d_K_draftConclusion_5 (vp_in_nI (by decide) (by decide)) (by decide) ?_
  refine g_iload_n (pc := 6) d_K_draftConclusion_6 rfl ?_
  refine g_callV (M' := m_K_startOf) (pc := 7) (q := 0) d_K_draftConclusion_7 lm_K_182 (c_K_startOf_2 x cx hx4 hxc) v_K_startOf rfl rfl rfl (by decide) rfl (Nat.le_of_ble_eq_true rfl) ?_
  rintro _ _ ⟨rfl, rfl⟩
  show pG m_K_draftConclusion τ _ 0 0 10 _ (.int _ :: _) _
  refine g_istore (pc := 10) [(4, _), (0, _), (1, _), (2, _), (3, _)] d_K_draftConclusion_10 (by decide) rfl ?_
  refine g_aload_n (pc := 12) d_K_draftConclusion_12 rfl ?_
  refine g_getsY (pc := 13) d_K_draftConclusion_13 lf_K_114 ?_
  refine g_iload_n (pc := 16) d_K_draftConclusion_16 rfl ?_
  refine g_saldY (pc := 17) (v := nI 2) d_K_draftConclusion_17 (vp_in_nI (by decide) (by decide)) (by decide) ?_
  refine g_iload_n (pc := 18) d_K_draftConclusion_18 rfl ?_
  refine g_callV (M' := m_K_startOf) (pc := 19) (q := 0) d_K_draftConclusion_19 lm_K_182 (c_K_startOf_2 y cy hy4 hyc) v_K_startOf rfl rfl rfl (by decide) rfl (Nat.le_of_ble_eq_true rfl) ?_
  rintro _ _ ⟨rfl, rfl⟩
  show pG m_K_draftConclusion τ _ 0 0 22 _ (.int _ :: _) _
  refine g_istore (pc := 22) [(5, _), (4, _), (0, _), (1, _), (2, _), (3, _)] d_K_draftConclusion_22 (by decide) rfl ?_
  refine g_iload_n (pc := 24) d_K_draftConclusion_24 rfl ?_
  refine g_tableIn (pc := 25) (tgt := 101) d_K_draftConclusion_25 (by decide) (by decide) rfl (by decide) ?_
  obtain ⟨X, Y, hAe, hX, hY, hpA1, hpA2⟩ := hA.two (kPt_2 (show 5 ≤ tgR _ by rw [hk]; decide))
  refine g_aload_n (pc := 101) d_K_draftConclusion_101 rfl ?_
  refine gx_K_draft (pc := 102) d_K_draftConclusion_102 lf_K_28 ?_
  refine g_aload_n (pc := 105) d_K_draftConclusion_105 rfl ?_
  refine gx_K_shelf (pc := 106) d_K_draftConclusion_106 lf_K_19 ?_
  refine g_iload (pc := 109) d_K_draftConclusion_109 rfl ?_
  refine g_callV (M' := m_S_secondPart) (pc := 111) (q := 2) d_K_draftConclusion_111 lm_K_191 (c_S_secondPart _ X hX.1 hX.2.1 hX.2.2.1) v_S_secondPart rfl rfl rfl (by decide) rfl (Nat.le_of_ble_eq_true rfl) ?_
  rintro _ _ ⟨rfl, rfl⟩
  show pG m_K_draftConclusion τ _ 0 0 114 _ (.int _ :: _) _
  refine g_callV (M' := m_D_addPart) (pc := 114) (q := 3) d_K_draftConclusion_114 lm_K_176 (c_D_addPart [] _ Y hd hY.1 hY.2.1 hY.2.2.1 (by have := hY.2.2.2; simp; omega)) v_D_addPart rfl rfl rfl (by decide) rfl (Nat.le_of_ble_eq_true rfl) ?_
  rintro _ _ ⟨i2, r2, rfl, rfl, hx2, hk2⟩
  show pG m_K_draftConclusion τ _ 0 0 117 _ _ _
  refine g_goto (pc := 117) (tgt := 416) d_K_draftConclusion_117 (by decide) ?_
  refine g_vret (pc := 416) d_K_draftConclusion_416 rfl (Nat.le_refl _) (Nat.le_refl _) ?_
  refine ⟨i2, r2, rfl, rfl, ?_, hk2.w⟩
  rw [hpA2]
  exact hx2
set_option maxRecDepth 100000 in
set_option maxHeartbeats 4000000 in
theorem c_K_conc_4 {τ : Nat × Nat} {a : Nat → Nat} {i : Nat → Int32} {r : Nat → Nat → Int32} {L : Nat → Int64} {wr : pW} (x cx : Nat) (hx4 : x < 40) (hxc : r 6 x = nI cx) (y : Nat) (A : List Nat) (hA : PA (r 2) (30 * cx) A) (B : List Nat) (hB : PA (r 2) (30 * y) B) (hd : XD [] i r) : pC m_K_draftConclusion τ [.ref (a 0), .int (nI 4), .int (nI x), .int (nI y)] (wX a i r L ++ wr) ((fun rr w2 => ∃ i2 r2, rr = none ∧ w2 = wX a i2 r2 L ++ wr ∧ XD (sBd 4 0 (hdt B) A) i2 r2 ∧ DW i r i2 r2)) := by
  refine pC.of rfl (Nat.le_of_ble_eq_true rfl) ?_
  show pG m_K_draftConclusion τ _ 0 0 0 [(0, _), (1, _), (2, _), (3, _)] [] _
  refine g_aload_n (pc := 0) d_K_draftConclusion_0 rfl ?_
  refine g_getsX (pc := 1) d_K_draftConclusion_1 lf_K_107 ?_
  refine g_iload_n (pc := 4) d_K_draftConclusion_4 rfl ?_
  refine g_saldX (pc := 5) (v := nI 2) d_K_draftConclusion_5 (vp_in_nI (by decide) (by decide)) (by decide) ?_
  refine g_iload_n (pc := 6) d_K_draftConclusion_6 rfl ?_
  refine g_callV (M' := m_K_startOf) (pc := 7) (q := 0) d_K_draftConclusion_7 lm_K_182 (c_K_startOf_2 x cx hx4 hxc) v_K_startOf rfl rfl rfl (by decide) rfl (Nat.le_of_ble_eq_true rfl) ?_
  rintro _ _ ⟨rfl, rfl⟩
  show pG m_K_draftConclusion τ _ 0 0 10 _ (.int _ :: _) _
  refine g_istore (pc := 10) [(4, _), (0, _), (1, _), (2, _), (3, _)] d_K_draftConclusion_10 (by decide) rfl ?_
  refine g_aload_n (pc := 12) d_K_draftConclusion_12 rfl ?_
  refine g_getsY (pc := 13) d_K_draftConclusion_13 lf_K_114 ?_
  refine g_iload_n (pc := 16) d_K_draftConclusion_16 rfl ?_
  refine g_saldY (pc := 17) (v := nI 1) d_K_draftConclusion_17 (vp_in_nI (by decide) (by decide)) (by decide) ?_
  refine g_iload_n (pc := 18) d_K_draftConclusion_18 rfl ?_
  refine g_callV (M' := m_K_startOf) (pc := 19) (q := 0) d_K_draftConclusion_19 lm_K_182 (c_K_startOf_1 y) v_K_startOf rfl rfl rfl (by decide) rfl (Nat.le_of_ble_eq_true rfl) ?_
  rintro _ _ ⟨rfl, rfl⟩
  show pG m_K_draftConclusion τ _ 0 0 22 _ (.int _ :: _) _
  refine g_istore (pc := 22) [(5, _), (4, _), (0, _), (1, _), (2, _), (3, _)] d_K_draftConclusion_22 (by decide) rfl ?_
  refine g_iload_n (pc := 24) d_K_draftConclusion_24 rfl ?_
  refine g_tableIn (pc := 25) (tgt := 120) d_K_draftConclusion_25 (by decide) (by decide) rfl (by decide) ?_
  refine g_aload_n (pc := 120) d_K_draftConclusion_120 rfl ?_
  refine gx_K_draft (pc := 121) d_K_draftConclusion_121 lf_K_28 ?_
  refine g_iconst (pc := 124) (v := nI 4) d_K_draftConclusion_124 (by decide) ?_
  refine g_iconst (pc := 125) (v := nI 0) d_K_draftConclusion_125 (by decide) ?_
  refine g_aload_n (pc := 126) d_K_draftConclusion_126 rfl ?_
  refine gx_K_shelf (pc := 127) d_K_draftConclusion_127 lf_K_19 ?_
  refine g_iload (pc := 130) d_K_draftConclusion_130 rfl ?_
  refine g_callV (M' := m_S_token) (pc := 132) (q := 2) d_K_draftConclusion_132 lm_K_90 (c_S_token (30 * y) (hdt B) hB.hd.1 hB.hd.2.1) v_S_token rfl rfl rfl (by decide) rfl (Nat.le_of_ble_eq_true rfl) ?_
  rintro _ _ ⟨rfl, rfl⟩
  show pG m_K_draftConclusion τ _ 0 0 135 _ (.int _ :: _) _
  refine g_iload (pc := 135) d_K_draftConclusion_135 rfl ?_
  refine g_callV (M' := m_D_addBinder) (pc := 137) (q := 3) d_K_draftConclusion_137 lm_K_93 (c_D_addBinder [] 4 0 (hdt B) (30 * cx) A (by decide) (by decide) hB.hd.2.2 hd hA.1 hA.2.1 hA.2.2.1 hA.2.2.2 (by simp)) v_D_addBinder rfl rfl rfl (by decide) rfl (Nat.le_of_ble_eq_true rfl) ?_
  rintro _ _ ⟨i2, r2, rfl, rfl, hx2, hk2⟩
  show pG m_K_draftConclusion τ _ 0 0 140 _ _ _
  refine g_goto (pc := 140) (tgt := 416) d_K_draftConclusion_140 (by decide) ?_
  refine g_vret (pc := 416) d_K_draftConclusion_416 rfl (Nat.le_refl _) (Nat.le_refl _) ?_
  refine ⟨i2, r2, rfl, rfl, ?_, hk2⟩
  exact hx2
set_option maxRecDepth 100000 in
set_option maxHeartbeats 4000000 in
theorem c_K_conc_5 {τ : Nat × Nat} {a : Nat → Nat} {i : Nat → Int32} {r : Nat → Nat → Int32} {L : Nat → Int64} {wr : pW} (x cx : Nat) (hx4 : x < 40) (hxc : r 6 x = nI cx) (y : Nat) (A : List Nat) (hA : PA (r 2) (30 * cx) A) (B : List Nat) (hB : PA (r 2) (30 * y) B) (hd : XD [] i r) (hk : tgR A = 4) : pC m_K_draftConclusion τ [.ref (a 0), .int (nI 5), .int (nI x), .int (nI y)] (wX a i r L ++ wr) ((fun rr w2 => ∃ i2 r2, rr = none ∧ w2 = wX a i2 r2 L ++ wr ∧ XD (fil B [0] (p1 A)) i2 r2 ∧ DW i r i2 r2)) := by
  refine pC.of rfl (Nat.le_of_ble_eq_true rfl) ?_
  show pG m_K_draftConclusion τ _ 0 0 0 [(0, _), (1, _), (2, _), (3, _)] [] _
  refine g_aload_n (pc := 0) d_K_draftConclusion_0 rfl ?_
  refine g_getsX (pc := 1) d_K_draftConclusion_1 lf_K_107 ?_
  refine g_iload_n (pc := 4) d_K_draftConclusion_4 rfl ?_
  refine g_saldX (pc := 5) (v := nI 2) d_K_draftConclusion_5 (vp_in_nI (by decide) (by decide)) (by decide) ?_
  refine g_iload_n (pc := 6) d_K_draftConclusion_6 rfl ?_
  refine g_callV (M' := m_K_startOf) (pc := 7) (q := 0) d_K_draftConclusion_7 lm_K_182 (c_K_startOf_2 x cx hx4 hxc) v_K_startOf rfl rfl rfl (by decide) rfl (Nat.le_of_ble_eq_true rfl) ?_
  rintro _ _ ⟨rfl, rfl⟩
  show pG m_K_draftConclusion τ _ 0 0 10 _ (.int _ :: _) _
  refine g_istore (pc := 10) [(4, _), (0, _), (1, _), (2, _), (3, _)] d_K_draftConclusion_10 (by decide) rfl ?_
  refine g_aload_n (pc := 12) d_K_draftConclusion_12 rfl ?_
  refine g_getsY (pc := 13) d_K_draftConclusion_13 lf_K_114 ?_
  refine g_iload_n (pc := 16) d_K_draftConclusion_16 rfl ?_
  refine g_saldY (pc := 17) (v := nI 1) d_K_draftConclusion_17 (vp_in_nI (by decide) (by decide)) (by decide) ?_
  refine g_iload_n (pc := 18) d_K_draftConclusion_18 rfl ?_
  refine g_callV (M' := m_K_startOf) (pc := 19) (q := 0) d_K_draftConclusion_19 lm_K_182 (c_K_startOf_1 y) v_K_startOf rfl rfl rfl (by decide) rfl (Nat.le_of_ble_eq_true rfl) ?_
  rintro _ _ ⟨rfl, rfl⟩
  show pG m_K_draftConclusion τ _ 0 0 22 _ (.int _ :: _) _
  refine g_istore (pc := 22) [(5, _), (4, _), (0, _), (1, _), (2, _), (3, _)] d_K_draftConclusion_22 (by decide) rfl ?_
  refine g_iload_n (pc := 24) d_K_draftConclusion_24 rfl ?_
  refine g_tableIn (pc := 25) (tgt := 143) d_K_draftConclusion_25 (by decide) (by decide) rfl (by decide) ?_
  obtain ⟨X, hAe, hX, hpA1⟩ := hA.one (kPt_1 (Or.inr hk))
  refine g_aload_n (pc := 143) d_K_draftConclusion_143 rfl ?_
  refine gx_K_draft (pc := 144) d_K_draftConclusion_144 lf_K_28 ?_
  refine g_aload_n (pc := 147) d_K_draftConclusion_147 rfl ?_
  refine gx_K_shelf (pc := 148) d_K_draftConclusion_148 lf_K_19 ?_
  refine g_iload (pc := 151) d_K_draftConclusion_151 rfl ?_
  refine g_callV (M' := m_S_firstPart) (pc := 153) (q := 2) d_K_draftConclusion_153 lm_K_185 (c_S_firstPart _) v_S_firstPart rfl rfl rfl (by decide) rfl (Nat.le_of_ble_eq_true rfl) ?_
  rintro _ _ ⟨rfl, rfl⟩
  show pG m_K_draftConclusion τ _ 0 0 156 _ (.int _ :: _) _
  refine g_iload (pc := 156) d_K_draftConclusion_156 rfl ?_
  refine g_callV (M' := m_D_addFilling) (pc := 158) (q := 3) d_K_draftConclusion_158 lm_K_221 (c_D_addFilling [] _ (30 * y) X B hd hX.1 hX.2.1 hX.2.2.1 hX.2.2.2 hB.1 hB.2.1 hB.2.2.1 hB.2.2.2 (by simp)) v_D_addFilling rfl rfl rfl (by decide) rfl (Nat.le_of_ble_eq_true rfl) ?_
  rintro _ _ ⟨i2, r2, rfl, rfl, hx2, hk2⟩
  show pG m_K_draftConclusion τ _ 0 0 161 _ _ _
  refine g_goto (pc := 161) (tgt := 416) d_K_draftConclusion_161 (by decide) ?_
  refine g_vret (pc := 416) d_K_draftConclusion_416 rfl (Nat.le_refl _) (Nat.le_refl _) ?_
  refine ⟨i2, r2, rfl, rfl, ?_, hk2⟩
  rw [hpA1]
  exact hx2
set_option maxRecDepth 100000 in
set_option maxHeartbeats 4000000 in
theorem c_K_conc_6 {τ : Nat × Nat} {a : Nat → Nat} {i : Nat → Int32} {r : Nat → Nat → Int32} {L : Nat → Int64} {wr : pW} (x : Nat) (y : Int32) (A : List Nat) (hA : PA (r 2) (30 * x) A) (hd : XD [] i r) : pC m_K_draftConclusion τ [.ref (a 0), .int (nI 6), .int (nI x), .int y] (wX a i r L ++ wr) ((fun rr w2 => ∃ i2 r2, rr = none ∧ w2 = wX a i2 r2 L ++ wr ∧ XD (sJn 7 A A) i2 r2 ∧ DW i r i2 r2)) := by
  refine pC.of rfl (Nat.le_of_ble_eq_true rfl) ?_
  show pG m_K_draftConclusion τ _ 0 0 0 [(0, _), (1, _), (2, _), (3, _)] [] _
  refine g_aload_n (pc := 0) d_K_draftConclusion_0 rfl ?_
  refine g_getsX (pc := 1) d_K_draftConclusion_1 lf_K_107 ?_
  refine g_iload_n (pc := 4) d_K_draftConclusion_4 rfl ?_
  refine g_saldX (pc := 5) (v := nI 1) d_K_draftConclusion_5 (vp_in_nI (by decide) (by decide)) (by decide) ?_
  refine g_iload_n (pc := 6) d_K_draftConclusion_6 rfl ?_
  refine g_callV (M' := m_K_startOf) (pc := 7) (q := 0) d_K_draftConclusion_7 lm_K_182 (c_K_startOf_1 x) v_K_startOf rfl rfl rfl (by decide) rfl (Nat.le_of_ble_eq_true rfl) ?_
  rintro _ _ ⟨rfl, rfl⟩
  show pG m_K_draftConclusion τ _ 0 0 10 _ (.int _ :: _) _
  refine g_istore (pc := 10) [(4, _), (0, _), (1, _), (2, _), (3, _)] d_K_draftConclusion_10 (by decide) rfl ?_
  refine g_aload_n (pc := 12) d_K_draftConclusion_12 rfl ?_
  refine g_getsY (pc := 13) d_K_draftConclusion_13 lf_K_114 ?_
  refine g_iload_n (pc := 16) d_K_draftConclusion_16 rfl ?_
  refine g_saldY (pc := 17) (v := nI 0) d_K_draftConclusion_17 (vp_in_nI (by decide) (by decide)) (by decide) ?_
  refine g_iload_n (pc := 18) d_K_draftConclusion_18 rfl ?_
  refine g_callV (M' := m_K_startOf) (pc := 19) (q := 0) d_K_draftConclusion_19 lm_K_182 (c_K_startOf_0 y) v_K_startOf rfl rfl rfl (by decide) rfl (Nat.le_of_ble_eq_true rfl) ?_
  rintro _ _ ⟨rfl, rfl⟩
  show pG m_K_draftConclusion τ _ 0 0 22 _ (.int _ :: _) _
  refine g_istore (pc := 22) [(5, _), (4, _), (0, _), (1, _), (2, _), (3, _)] d_K_draftConclusion_22 (by decide) rfl ?_
  refine g_iload_n (pc := 24) d_K_draftConclusion_24 rfl ?_
  refine g_tableIn (pc := 25) (tgt := 164) d_K_draftConclusion_25 (by decide) (by decide) rfl (by decide) ?_
  refine g_aload_n (pc := 164) d_K_draftConclusion_164 rfl ?_
  refine g_bipush (pc := 165) (v := nI 7) d_K_draftConclusion_165 (by decide) ?_
  refine g_iload (pc := 167) d_K_draftConclusion_167 rfl ?_
  refine g_iload (pc := 169) d_K_draftConclusion_169 rfl ?_
  refine g_callV (M' := m_K_draftJoint) (pc := 171) (q := 0) d_K_draftConclusion_171 lm_K_103 (c_K_draftJoint 7 _ _ A A (by decide) hd hA hA (by simp)) v_K_draftJoint rfl rfl rfl (by decide) rfl (Nat.le_of_ble_eq_true rfl) ?_
  rintro _ _ ⟨i2, r2, rfl, rfl, hx2, hk2⟩
  show pG m_K_draftConclusion τ _ 0 0 174 _ _ _
  refine g_goto (pc := 174) (tgt := 416) d_K_draftConclusion_174 (by decide) ?_
  refine g_vret (pc := 416) d_K_draftConclusion_416 rfl (Nat.le_refl _) (Nat.le_refl _) ?_
  refine ⟨i2, r2, rfl, rfl, ?_, hk2.w⟩
  exact hx2
set_option maxRecDepth 100000 in
set_option maxHeartbeats 4000000 in
theorem c_K_conc_7 {τ : Nat × Nat} {a : Nat → Nat} {i : Nat → Int32} {r : Nat → Nat → Int32} {L : Nat → Int64} {wr : pW} (x cx : Nat) (hx4 : x < 40) (hxc : r 6 x = nI cx) (y : Int32) (A : List Nat) (hA : PA (r 2) (30 * cx) A) (hd : XD [] i r) (hk : tgR A = 7) : pC m_K_draftConclusion τ [.ref (a 0), .int (nI 7), .int (nI x), .int y] (wX a i r L ++ wr) ((fun rr w2 => ∃ i2 r2, rr = none ∧ w2 = wX a i2 r2 L ++ wr ∧ XD (sJn 7 (p2 A) (p1 A)) i2 r2 ∧ DW i r i2 r2)) := by
  refine pC.of rfl (Nat.le_of_ble_eq_true rfl) ?_
  show pG m_K_draftConclusion τ _ 0 0 0 [(0, _), (1, _), (2, _), (3, _)] [] _
  refine g_aload_n (pc := 0) d_K_draftConclusion_0 rfl ?_
  refine g_getsX (pc := 1) d_K_draftConclusion_1 lf_K_107 ?_
  refine g_iload_n (pc := 4) d_K_draftConclusion_4 rfl ?_
  refine g_saldX (pc := 5) (v := nI 2) d_K_draftConclusion_5 (vp_in_nI (by decide) (by decide)) (by decide) ?_
  refine g_iload_n (pc := 6) d_K_draftConclusion_6 rfl ?_
  refine g_callV (M' := m_K_startOf) (pc := 7) (q := 0) d_K_draftConclusion_7 lm_K_182 (c_K_startOf_2 x cx hx4 hxc) v_K_startOf rfl rfl rfl (by decide) rfl (Nat.le_of_ble_eq_true rfl) ?_
  rintro _ _ ⟨rfl, rfl⟩
  show pG m_K_draftConclusion τ _ 0 0 10 _ (.int _ :: _) _
  refine g_istore (pc := 10) [(4, _), (0, _), (1, _), (2, _), (3, _)] d_K_draftConclusion_10 (by decide) rfl ?_
  refine g_aload_n (pc := 12) d_K_draftConclusion_12 rfl ?_
  refine g_getsY (pc := 13) d_K_draftConclusion_13 lf_K_114 ?_
  refine g_iload_n (pc := 16) d_K_draftConclusion_16 rfl ?_
  refine g_saldY (pc := 17) (v := nI 0) d_K_draftConclusion_17 (vp_in_nI (by decide) (by decide)) (by decide) ?_
  refine g_iload_n (pc := 18) d_K_draftConclusion_18 rfl ?_
  refine g_callV (M' := m_K_startOf) (pc := 19) (q := 0) d_K_draftConclusion_19 lm_K_182 (c_K_startOf_0 y) v_K_startOf rfl rfl rfl (by decide) rfl (Nat.le_of_ble_eq_true rfl) ?_
  rintro _ _ ⟨rfl, rfl⟩
  show pG m_K_draftConclusion τ _ 0 0 22 _ (.int _ :: _) _
  refine g_istore (pc := 22) [(5, _), (4, _), (0, _), (1, _), (2, _), (3, _)] d_K_draftConclusion_22 (by decide) rfl ?_
  refine g_iload_n (pc := 24) d_K_draftConclusion_24 rfl ?_
  refine g_tableIn (pc := 25) (tgt := 177) d_K_draftConclusion_25 (by decide) (by decide) rfl (by decide) ?_
  obtain ⟨X, Y, hAe, hX, hY, hpA1, hpA2⟩ := hA.two (kPt_2 (show 5 ≤ tgR _ by rw [hk]; decide))
  refine g_aload_n (pc := 177) d_K_draftConclusion_177 rfl ?_
  refine g_bipush (pc := 178) (v := nI 7) d_K_draftConclusion_178 (by decide) ?_
  refine g_aload_n (pc := 180) d_K_draftConclusion_180 rfl ?_
  refine gx_K_shelf (pc := 181) d_K_draftConclusion_181 lf_K_19 ?_
  refine g_iload (pc := 184) d_K_draftConclusion_184 rfl ?_
  refine g_callV (M' := m_S_secondPart) (pc := 186) (q := 2) d_K_draftConclusion_186 lm_K_191 (c_S_secondPart _ X hX.1 hX.2.1 hX.2.2.1) v_S_secondPart rfl rfl rfl (by decide) rfl (Nat.le_of_ble_eq_true rfl) ?_
  rintro _ _ ⟨rfl, rfl⟩
  show pG m_K_draftConclusion τ _ 0 0 189 _ (.int _ :: _) _
  refine g_aload_n (pc := 189) d_K_draftConclusion_189 rfl ?_
  refine gx_K_shelf (pc := 190) d_K_draftConclusion_190 lf_K_19 ?_
  refine g_iload (pc := 193) d_K_draftConclusion_193 rfl ?_
  refine g_callV (M' := m_S_firstPart) (pc := 195) (q := 2) d_K_draftConclusion_195 lm_K_185 (c_S_firstPart _) v_S_firstPart rfl rfl rfl (by decide) rfl (Nat.le_of_ble_eq_true rfl) ?_
  rintro _ _ ⟨rfl, rfl⟩
  show pG m_K_draftConclusion τ _ 0 0 198 _ (.int _ :: _) _
  refine g_callV (M' := m_K_draftJoint) (pc := 198) (q := 0) d_K_draftConclusion_198 lm_K_103 (c_K_draftJoint 7 _ _ Y X (by decide) hd hY hX (by simp)) v_K_draftJoint rfl rfl rfl (by decide) rfl (Nat.le_of_ble_eq_true rfl) ?_
  rintro _ _ ⟨i2, r2, rfl, rfl, hx2, hk2⟩
  show pG m_K_draftConclusion τ _ 0 0 201 _ _ _
  refine g_goto (pc := 201) (tgt := 416) d_K_draftConclusion_201 (by decide) ?_
  refine g_vret (pc := 416) d_K_draftConclusion_416 rfl (Nat.le_refl _) (Nat.le_refl _) ?_
  refine ⟨i2, r2, rfl, rfl, ?_, hk2.w⟩
  rw [hpA1, hpA2]
  exact hx2
set_option maxRecDepth 100000 in
set_option maxHeartbeats 4000000 in
theorem c_K_conc_8 {τ : Nat × Nat} {a : Nat → Nat} {i : Nat → Int32} {r : Nat → Nat → Int32} {L : Nat → Int64} {wr : pW} (x cx : Nat) (hx4 : x < 40) (hxc : r 6 x = nI cx) (y cy : Nat) (hy4 : y < 40) (hyc : r 6 y = nI cy) (A : List Nat) (hA : PA (r 2) (30 * cx) A) (B : List Nat) (hB : PA (r 2) (30 * cy) B) (hd : XD [] i r) (hk : tgR A = 7) (hk2 : tgR B = 7) : pC m_K_draftConclusion τ [.ref (a 0), .int (nI 8), .int (nI x), .int (nI y)] (wX a i r L ++ wr) ((fun rr w2 => ∃ i2 r2, rr = none ∧ w2 = wX a i2 r2 L ++ wr ∧ XD (sJn 7 (p1 A) (p2 B)) i2 r2 ∧ DW i r i2 r2)) := by
  refine pC.of rfl (Nat.le_of_ble_eq_true rfl) ?_
  show pG m_K_draftConclusion τ _ 0 0 0 [(0, _), (1, _), (2, _), (3, _)] [] _
  refine g_aload_n (pc := 0) d_K_draftConclusion_0 rfl ?_
  refine g_getsX (pc := 1) d_K_draftConclusion_1 lf_K_107 ?_
  refine g_iload_n (pc := 4) d_K_draftConclusion_4 rfl ?_
  refine g_saldX (pc := 5) (v := nI 2) d_K_draftConclusion_5 (vp_in_nI (by decide) (by decide)) (by decide) ?_
  refine g_iload_n (pc := 6) d_K_draftConclusion_6 rfl ?_
  refine g_callV (M' := m_K_startOf) (pc := 7) (q := 0) d_K_draftConclusion_7 lm_K_182 (c_K_startOf_2 x cx hx4 hxc) v_K_startOf rfl rfl rfl (by decide) rfl (Nat.le_of_ble_eq_true rfl) ?_
  rintro _ _ ⟨rfl, rfl⟩
  show pG m_K_draftConclusion τ _ 0 0 10 _ (.int _ :: _) _
  refine g_istore (pc := 10) [(4, _), (0, _), (1, _), (2, _), (3, _)] d_K_draftConclusion_10 (by decide) rfl ?_
  refine g_aload_n (pc := 12) d_K_draftConclusion_12 rfl ?_
  refine g_getsY (pc := 13) d_K_draftConclusion_13 lf_K_114 ?_
  refine g_iload_n (pc := 16) d_K_draftConclusion_16 rfl ?_
  refine g_saldY (pc := 17) (v := nI 2) d_K_draftConclusion_17 (vp_in_nI (by decide) (by decide)) (by decide) ?_
  refine g_iload_n (pc := 18) d_K_draftConclusion_18 rfl ?_
  refine g_callV (M' := m_K_startOf) (pc := 19) (q := 0) d_K_draftConclusion_19 lm_K_182 (c_K_startOf_2 y cy hy4 hyc) v_K_startOf rfl rfl rfl (by decide) rfl (Nat.le_of_ble_eq_true rfl) ?_
  rintro _ _ ⟨rfl, rfl⟩
  show pG m_K_draftConclusion τ _ 0 0 22 _ (.int _ :: _) _
  refine g_istore (pc := 22) [(5, _), (4, _), (0, _), (1, _), (2, _), (3, _)] d_K_draftConclusion_22 (by decide) rfl ?_
  refine g_iload_n (pc := 24) d_K_draftConclusion_24 rfl ?_
  refine g_tableIn (pc := 25) (tgt := 204) d_K_draftConclusion_25 (by decide) (by decide) rfl (by decide) ?_
  obtain ⟨X, Y, hAe, hX, hY, hpA1, hpA2⟩ := hA.two (kPt_2 (show 5 ≤ tgR _ by rw [hk]; decide))
  obtain ⟨Z, U, hBe, hZ, hU, hpB1, hpB2⟩ := hB.two (kPt_2 (show 5 ≤ tgR _ by rw [hk2]; decide))
  refine g_aload_n (pc := 204) d_K_draftConclusion_204 rfl ?_
  refine g_bipush (pc := 205) (v := nI 7) d_K_draftConclusion_205 (by decide) ?_
  refine g_aload_n (pc := 207) d_K_draftConclusion_207 rfl ?_
  refine gx_K_shelf (pc := 208) d_K_draftConclusion_208 lf_K_19 ?_
  refine g_iload (pc := 211) d_K_draftConclusion_211 rfl ?_
  refine g_callV (M' := m_S_firstPart) (pc := 213) (q := 2) d_K_draftConclusion_213 lm_K_185 (c_S_firstPart _) v_S_firstPart rfl rfl rfl (by decide) rfl (Nat.le_of_ble_eq_true rfl) ?_
  rintro _ _ ⟨rfl, rfl⟩
  show pG m_K_draftConclusion τ _ 0 0 216 _ (.int _ :: _) _
  refine g_aload_n (pc := 216) d_K_draftConclusion_216 rfl ?_
  refine gx_K_shelf (pc := 217) d_K_draftConclusion_217 lf_K_19 ?_
  refine g_iload (pc := 220) d_K_draftConclusion_220 rfl ?_
  refine g_callV (M' := m_S_secondPart) (pc := 222) (q := 2) d_K_draftConclusion_222 lm_K_191 (c_S_secondPart _ Z hZ.1 hZ.2.1 hZ.2.2.1) v_S_secondPart rfl rfl rfl (by decide) rfl (Nat.le_of_ble_eq_true rfl) ?_
  rintro _ _ ⟨rfl, rfl⟩
  show pG m_K_draftConclusion τ _ 0 0 225 _ (.int _ :: _) _
  refine g_callV (M' := m_K_draftJoint) (pc := 225) (q := 0) d_K_draftConclusion_225 lm_K_103 (c_K_draftJoint 7 _ _ X U (by decide) hd hX hU (by simp)) v_K_draftJoint rfl rfl rfl (by decide) rfl (Nat.le_of_ble_eq_true rfl) ?_
  rintro _ _ ⟨i3, r3, rfl, rfl, hx3, hk3⟩
  show pG m_K_draftConclusion τ _ 0 0 228 _ _ _
  refine g_goto (pc := 228) (tgt := 416) d_K_draftConclusion_228 (by decide) ?_
  refine g_vret (pc := 416) d_K_draftConclusion_416 rfl (Nat.le_refl _) (Nat.le_refl _) ?_
  refine ⟨i3, r3, rfl, rfl, ?_, hk3.w⟩
  rw [hpA1, hpB2]
  exact hx3
set_option maxRecDepth 100000 in
set_option maxHeartbeats 4000000 in
theorem c_K_conc_9 {τ : Nat × Nat} {a : Nat → Nat} {i : Nat → Int32} {r : Nat → Nat → Int32} {L : Nat → Int64} {wr : pW} (x cx : Nat) (hx4 : x < 40) (hxc : r 6 x = nI cx) (y cy : Nat) (hy4 : y < 40) (hyc : r 6 y = nI cy) (A : List Nat) (hA : PA (r 2) (30 * cx) A) (B : List Nat) (hB : PA (r 2) (30 * cy) B) (hd : XD [] i r) (Ty : List (Nat × Nat)) (hT : XT Ty i r) (hk : tgR A = 7) (hk2 : tgR B = 7) (ht : tks Ty (tyR (p1 A)) (tyR (p1 B)) = true) (hEq : tyR (p2 A) = tyR (p1 A)) : pC m_K_draftConclusion τ [.ref (a 0), .int (nI 9), .int (nI x), .int (nI y)] (wX a i r L ++ wr) ((fun rr w2 => ∃ i2 r2, rr = none ∧ w2 = wX a i2 r2 L ++ wr ∧ XD (tok 7 0 0 :: (sAp Ty (p1 A) (p1 B) ++ sAp Ty (p2 A) (p2 B))) i2 r2 ∧ DW i r i2 r2)) := by
  refine pC.of rfl (Nat.le_of_ble_eq_true rfl) ?_
  show pG m_K_draftConclusion τ _ 0 0 0 [(0, _), (1, _), (2, _), (3, _)] [] _
  refine g_aload_n (pc := 0) d_K_draftConclusion_0 rfl ?_
  refine g_getsX (pc := 1) d_K_draftConclusion_1 lf_K_107 ?_
  refine g_iload_n (pc := 4) d_K_draftConclusion_4 rfl ?_
  refine g_saldX (pc := 5) (v := nI 2) d_K_draftConclusion_5 (vp_in_nI (by decide) (by decide)) (by decide) ?_
  refine g_iload_n (pc := 6) d_K_draftConclusion_6 rfl ?_
  refine g_callV (M' := m_K_startOf) (pc := 7) (q := 0) d_K_draftConclusion_7 lm_K_182 (c_K_startOf_2 x cx hx4 hxc) v_K_startOf rfl rfl rfl (by decide) rfl (Nat.le_of_ble_eq_true rfl) ?_
  rintro _ _ ⟨rfl, rfl⟩
  show pG m_K_draftConclusion τ _ 0 0 10 _ (.int _ :: _) _
  refine g_istore (pc := 10) [(4, _), (0, _), (1, _), (2, _), (3, _)] d_K_draftConclusion_10 (by decide) rfl ?_
  refine g_aload_n (pc := 12) d_K_draftConclusion_12 rfl ?_
  refine g_getsY (pc := 13) d_K_draftConclusion_13 lf_K_114 ?_
  refine g_iload_n (pc := 16) d_K_draftConclusion_16 rfl ?_
  refine g_saldY (pc := 17) (v := nI 2) d_K_draftConclusion_17 (vp_in_nI (by decide) (by decide)) (by decide) ?_
  refine g_iload_n (pc := 18) d_K_draftConclusion_18 rfl ?_
  refine g_callV (M' := m_K_startOf) (pc := 19) (q := 0) d_K_draftConclusion_19 lm_K_182 (c_K_startOf_2 y cy hy4 hyc) v_K_startOf rfl rfl rfl (by decide) rfl (Nat.le_of_ble_eq_true rfl) ?_
  rintro _ _ ⟨rfl, rfl⟩
  show pG m_K_draftConclusion τ _ 0 0 22 _ (.int _ :: _) _
  refine g_istore (pc := 22) [(5, _), (4, _), (0, _), (1, _), (2, _), (3, _)] d_K_draftConclusion_22 (by decide) rfl ?_
  refine g_iload_n (pc := 24) d_K_draftConclusion_24 rfl ?_
  refine g_tableIn (pc := 25) (tgt := 231) d_K_draftConclusion_25 (by decide) (by decide) rfl (by decide) ?_
  obtain ⟨X, Y, hAe, hX, hY, hpA1, hpA2⟩ := hA.two (kPt_2 (show 5 ≤ tgR _ by rw [hk]; decide))
  obtain ⟨Z, U, hBe, hZ, hU, hpB1, hpB2⟩ := hB.two (kPt_2 (show 5 ≤ tgR _ by rw [hk2]; decide))
  rw [hpA1, hpB1] at ht
  rw [hpA1, hpA2] at hEq
  refine g_aload_n (pc := 231) d_K_draftConclusion_231 rfl ?_
  refine gx_K_draft (pc := 232) d_K_draftConclusion_232 lf_K_28 ?_
  refine g_bipush (pc := 235) (v := nI 7) d_K_draftConclusion_235 (by decide) ?_
  refine g_iconst (pc := 237) (v := nI 0) d_K_draftConclusion_237 (by decide) ?_
  refine g_iconst (pc := 238) (v := nI 0) d_K_draftConclusion_238 (by decide) ?_
  refine g_callS (M' := m_O_of) (pc := 239) d_K_draftConclusion_239 lm_K_50 (c_O_of 7 0 0 (by decide) (by decide) (by decide)) v_O_of rfl (by decide) rfl (Nat.le_of_ble_eq_true rfl) ?_
  rintro _ _ ⟨rfl, rfl⟩
  show pG m_K_draftConclusion τ _ 0 0 242 _ (.int _ :: _) _
  refine g_callV (M' := m_D_add) (pc := 242) (q := 3) d_K_draftConclusion_242 lm_K_56 (c_D_add [] _ hd (by simp)) v_D_add rfl rfl rfl (by decide) rfl (Nat.le_of_ble_eq_true rfl) ?_
  rintro _ _ ⟨i3, r3, rfl, rfl, hx3, hk3⟩
  show pG m_K_draftConclusion τ _ 0 0 245 _ _ _
  refine g_aload_n (pc := 245) d_K_draftConclusion_245 rfl ?_
  refine g_aload_n (pc := 246) d_K_draftConclusion_246 rfl ?_
  refine gx_K_shelf (pc := 247) d_K_draftConclusion_247 lf_K_19 ?_
  refine g_iload (pc := 250) d_K_draftConclusion_250 rfl ?_
  refine g_callV (M' := m_S_firstPart) (pc := 252) (q := 2) d_K_draftConclusion_252 lm_K_185 (c_S_firstPart _) v_S_firstPart rfl rfl rfl (by decide) rfl (Nat.le_of_ble_eq_true rfl) ?_
  rintro _ _ ⟨rfl, rfl⟩
  show pG m_K_draftConclusion τ _ 0 0 255 _ (.int _ :: _) _
  refine g_aload_n (pc := 255) d_K_draftConclusion_255 rfl ?_
  refine gx_K_shelf (pc := 256) d_K_draftConclusion_256 lf_K_19 ?_
  refine g_iload (pc := 259) d_K_draftConclusion_259 rfl ?_
  refine g_callV (M' := m_S_firstPart) (pc := 261) (q := 2) d_K_draftConclusion_261 lm_K_185 (c_S_firstPart _) v_S_firstPart rfl rfl rfl (by decide) rfl (Nat.le_of_ble_eq_true rfl) ?_
  rintro _ _ ⟨rfl, rfl⟩
  show pG m_K_draftConclusion τ _ 0 0 264 _ (.int _ :: _) _
  refine g_callV (M' := m_K_draftApplication) (pc := 264) (q := 0) d_K_draftConclusion_264 lm_K_79 (c_K_draftApplication Ty _ _ (tyR Z) X Z (hT.mv (hk3.1 0 (by decide)) (hk3.2 0 (by decide)) (hk3.2 1 (by decide))) ht hx3 (hX.mv (hk3.2 2 (by decide))) (hZ.mv (hk3.2 2 (by decide))) (by simp)) v_K_draftApplication rfl rfl rfl (by decide) rfl (Nat.le_of_ble_eq_true rfl) ?_
  rintro _ _ ⟨i4, r4, rfl, rfl, hx4, hk4⟩
  show pG m_K_draftConclusion τ _ 0 0 267 _ _ _
  refine g_aload_n (pc := 267) d_K_draftConclusion_267 rfl ?_
  refine g_aload_n (pc := 268) d_K_draftConclusion_268 rfl ?_
  refine gx_K_shelf (pc := 269) d_K_draftConclusion_269 lf_K_19 ?_
  refine g_iload (pc := 272) d_K_draftConclusion_272 rfl ?_
  refine g_callV (M' := m_S_secondPart) (pc := 274) (q := 2) d_K_draftConclusion_274 lm_K_191 (c_S_secondPart _ X (hX.mv ((hk3.tr hk4).2 2 (by decide))).1 hX.2.1 hX.2.2.1) v_S_secondPart rfl rfl rfl (by decide) rfl (Nat.le_of_ble_eq_true rfl) ?_
  rintro _ _ ⟨rfl, rfl⟩
  show pG m_K_draftConclusion τ _ 0 0 277 _ (.int _ :: _) _
  refine g_aload_n (pc := 277) d_K_draftConclusion_277 rfl ?_
  refine gx_K_shelf (pc := 278) d_K_draftConclusion_278 lf_K_19 ?_
  refine g_iload (pc := 281) d_K_draftConclusion_281 rfl ?_
  refine g_callV (M' := m_S_secondPart) (pc := 283) (q := 2) d_K_draftConclusion_283 lm_K_191 (c_S_secondPart _ Z (hZ.mv ((hk3.tr hk4).2 2 (by decide))).1 hZ.2.1 hZ.2.2.1) v_S_secondPart rfl rfl rfl (by decide) rfl (Nat.le_of_ble_eq_true rfl) ?_
  rintro _ _ ⟨rfl, rfl⟩
  show pG m_K_draftConclusion τ _ 0 0 286 _ (.int _ :: _) _
  refine g_callV (M' := m_K_draftApplication) (pc := 286) (q := 0) d_K_draftConclusion_286 lm_K_79 (c_K_draftApplication Ty _ _ (tyR Z) Y U (hT.mv ((hk3.tr hk4).1 0 (by decide)) ((hk3.tr hk4).2 0 (by decide)) ((hk3.tr hk4).2 1 (by decide))) (by rw [hEq]; exact ht) hx4 (hY.mv ((hk3.tr hk4).2 2 (by decide))) (hU.mv ((hk3.tr hk4).2 2 (by decide))) (by have := hX.2.2.2; have := hZ.2.2.2; simp [sAp]; omega)) v_K_draftApplication rfl rfl rfl (by decide) rfl (Nat.le_of_ble_eq_true rfl) ?_
  rintro _ _ ⟨i5, r5, rfl, rfl, hx5, hk5⟩
  show pG m_K_draftConclusion τ _ 0 0 289 _ _ _
  refine g_goto (pc := 289) (tgt := 416) d_K_draftConclusion_289 (by decide) ?_
  refine g_vret (pc := 416) d_K_draftConclusion_416 rfl (Nat.le_refl _) (Nat.le_refl _) ?_
  refine ⟨i5, r5, rfl, rfl, ?_, ((hk3.tr hk4).tr hk5).w⟩
  rw [hpA1, hpA2, hpB1, hpB2]
  have := hx5
  simpa [sAp] using this
def sAb2 (Ty : List (Nat × Nat)) (v : Nat) (A : List Nat) : List (Nat × Nat) × List Nat := sAb (sAb Ty [tok 7 0 0] v (p1 A)).1 (sAb Ty [tok 7 0 0] v (p1 A)).2 v (p2 A)
theorem sAb_len {Ty : List (Nat × Nat)} {d row : List Nat} {v : Nat} (h : row.length ≤ 30) : (sAb Ty d v row).2.length ≤ d.length + 31 := by
  unfold sAb
  split
  · simp
  · have := @cls_len v row [0]
    simp [sBd]
    omega
set_option maxRecDepth 100000 in
set_option maxHeartbeats 4000000 in
theorem c_K_conc_10 {τ : Nat × Nat} {a : Nat → Nat} {i : Nat → Int32} {r : Nat → Nat → Int32} {L : Nat → Int64} {wr : pW} (x cx : Nat) (hx4 : x < 40) (hxc : r 6 x = nI cx) (y : Nat) (A : List Nat) (hA : PA (r 2) (30 * cx) A) (B : List Nat) (hB : PA (r 2) (30 * y) B) (hd : XD [] i r) (Ty : List (Nat × Nat)) (hT : XT Ty i r) (hk : tgR A = 7) : pC m_K_draftConclusion τ [.ref (a 0), .int (nI 10), .int (nI x), .int (nI y)] (wX a i r L ++ wr) ((fun rr w2 => ∃ i2 r2, rr = none ∧ w2 = wX a i2 r2 L ++ wr ∧ XT (sAb2 Ty (hdt B) A).1 i2 r2 ∧ XD (sAb2 Ty (hdt B) A).2 i2 r2 ∧ TW i r i2 r2)) := by
  refine pC.of rfl (Nat.le_of_ble_eq_true rfl) ?_
  show pG m_K_draftConclusion τ _ 0 0 0 [(0, _), (1, _), (2, _), (3, _)] [] _
  refine g_aload_n (pc := 0) d_K_draftConclusion_0 rfl ?_
  refine g_getsX (pc := 1) d_K_draftConclusion_1 lf_K_107 ?_
  refine g_iload_n (pc := 4) d_K_draftConclusion_4 rfl ?_
  refine g_saldX (pc := 5) (v := nI 2) d_K_draftConclusion_5 (vp_in_nI (by decide) (by decide)) (by decide) ?_
  refine g_iload_n (pc := 6) d_K_draftConclusion_6 rfl ?_
  refine g_callV (M' := m_K_startOf) (pc := 7) (q := 0) d_K_draftConclusion_7 lm_K_182 (c_K_startOf_2 x cx hx4 hxc) v_K_startOf rfl rfl rfl (by decide) rfl (Nat.le_of_ble_eq_true rfl) ?_
  rintro _ _ ⟨rfl, rfl⟩
  show pG m_K_draftConclusion τ _ 0 0 10 _ (.int _ :: _) _
  refine g_istore (pc := 10) [(4, _), (0, _), (1, _), (2, _), (3, _)] d_K_draftConclusion_10 (by decide) rfl ?_
  refine g_aload_n (pc := 12) d_K_draftConclusion_12 rfl ?_
  refine g_getsY (pc := 13) d_K_draftConclusion_13 lf_K_114 ?_
  refine g_iload_n (pc := 16) d_K_draftConclusion_16 rfl ?_
  refine g_saldY (pc := 17) (v := nI 1) d_K_draftConclusion_17 (vp_in_nI (by decide) (by decide)) (by decide) ?_
  refine g_iload_n (pc := 18) d_K_draftConclusion_18 rfl ?_
  refine g_callV (M' := m_K_startOf) (pc := 19) (q := 0) d_K_draftConclusion_19 lm_K_182 (c_K_startOf_1 y) v_K_startOf rfl rfl rfl (by decide) rfl (Nat.le_of_ble_eq_true rfl) ?_
  rintro _ _ ⟨rfl, rfl⟩
  show pG m_K_draftConclusion τ _ 0 0 22 _ (.int _ :: _) _
  refine g_istore (pc := 22) [(5, _), (4, _), (0, _), (1, _), (2, _), (3, _)] d_K_draftConclusion_22 (by decide) rfl ?_
  refine g_iload_n (pc := 24) d_K_draftConclusion_24 rfl ?_
  refine g_tableIn (pc := 25) (tgt := 292) d_K_draftConclusion_25 (by decide) (by decide) rfl (by decide) ?_
  obtain ⟨X, Y, hAe, hX, hY, hpA1, hpA2⟩ := hA.two (kPt_2 (show 5 ≤ tgR _ by rw [hk]; decide))
  refine g_aload_n (pc := 292) d_K_draftConclusion_292 rfl ?_
  refine gx_K_draft (pc := 293) d_K_draftConclusion_293 lf_K_28 ?_
  refine g_bipush (pc := 296) (v := nI 7) d_K_draftConclusion_296 (by decide) ?_
  refine g_iconst (pc := 298) (v := nI 0) d_K_draftConclusion_298 (by decide) ?_
  refine g_iconst (pc := 299) (v := nI 0) d_K_draftConclusion_299 (by decide) ?_
  refine g_callS (M' := m_O_of) (pc := 300) d_K_draftConclusion_300 lm_K_50 (c_O_of 7 0 0 (by decide) (by decide) (by decide)) v_O_of rfl (by decide) rfl (Nat.le_of_ble_eq_true rfl) ?_
  rintro _ _ ⟨rfl, rfl⟩
  show pG m_K_draftConclusion τ _ 0 0 303 _ (.int _ :: _) _
  refine g_callV (M' := m_D_add) (pc := 303) (q := 3) d_K_draftConclusion_303 lm_K_56 (c_D_add [] _ hd (by simp)) v_D_add rfl rfl rfl (by decide) rfl (Nat.le_of_ble_eq_true rfl) ?_
  rintro _ _ ⟨i3, r3, rfl, rfl, hx3, hk3⟩
  show pG m_K_draftConclusion τ _ 0 0 306 _ _ _
  refine g_aload_n (pc := 306) d_K_draftConclusion_306 rfl ?_
  refine g_iload (pc := 307) d_K_draftConclusion_307 rfl ?_
  refine g_aload_n (pc := 309) d_K_draftConclusion_309 rfl ?_
  refine gx_K_shelf (pc := 310) d_K_draftConclusion_310 lf_K_19 ?_
  refine g_iload (pc := 313) d_K_draftConclusion_313 rfl ?_
  refine g_callV (M' := m_S_firstPart) (pc := 315) (q := 2) d_K_draftConclusion_315 lm_K_185 (c_S_firstPart _) v_S_firstPart rfl rfl rfl (by decide) rfl (Nat.le_of_ble_eq_true rfl) ?_
  rintro _ _ ⟨rfl, rfl⟩
  show pG m_K_draftConclusion τ _ 0 0 318 _ (.int _ :: _) _
  refine g_callV (M' := m_K_draftAbstraction) (pc := 318) (q := 0) d_K_draftConclusion_318 lm_K_97 (c_K_draftAbstraction Ty _ _ B X (hT.mv (hk3.1 0 (by decide)) (hk3.2 0 (by decide)) (hk3.2 1 (by decide))) hx3 (hB.mv (hk3.2 2 (by decide))) (hX.mv (hk3.2 2 (by decide))) (by simp)) v_K_draftAbstraction rfl rfl rfl (by decide) rfl (Nat.le_of_ble_eq_true rfl) ?_
  rintro _ _ ⟨i4, r4, rfl, rfl, hT4, hx4, hk4⟩
  show pG m_K_draftConclusion τ _ 0 0 321 _ _ _
  refine g_aload_n (pc := 321) d_K_draftConclusion_321 rfl ?_
  refine g_iload (pc := 322) d_K_draftConclusion_322 rfl ?_
  refine g_aload_n (pc := 324) d_K_draftConclusion_324 rfl ?_
  refine gx_K_shelf (pc := 325) d_K_draftConclusion_325 lf_K_19 ?_
  refine g_iload (pc := 328) d_K_draftConclusion_328 rfl ?_
  refine g_callV (M' := m_S_secondPart) (pc := 330) (q := 2) d_K_draftConclusion_330 lm_K_191 (c_S_secondPart _ X (hX.mv ((hk3.w.t.tr hk4).2 2 (by decide) (by decide) (by decide) (by decide))).1 hX.2.1 hX.2.2.1) v_S_secondPart rfl rfl rfl (by decide) rfl (Nat.le_of_ble_eq_true rfl) ?_
  rintro _ _ ⟨rfl, rfl⟩
  show pG m_K_draftConclusion τ _ 0 0 333 _ (.int _ :: _) _
  refine g_callV (M' := m_K_draftAbstraction) (pc := 333) (q := 0) d_K_draftConclusion_333 lm_K_97 (c_K_draftAbstraction _ _ _ B Y hT4 hx4 (hB.mv ((hk3.w.t.tr hk4).2 2 (by decide) (by decide) (by decide) (by decide))) (hY.mv ((hk3.w.t.tr hk4).2 2 (by decide) (by decide) (by decide) (by decide))) (by have := sAb_len (Ty := Ty) (d := [] ++ [tok 7 0 0]) (v := hdt B) hX.2.2.2; rw [show ([] ++ [tok 7 0 0] : List Nat).length = 1 from rfl] at this; omega)) v_K_draftAbstraction rfl rfl rfl (by decide) rfl (Nat.le_of_ble_eq_true rfl) ?_
  rintro _ _ ⟨i5, r5, rfl, rfl, hT5, hx5, hk5⟩
  show pG m_K_draftConclusion τ _ 0 0 336 _ _ _
  refine g_goto (pc := 336) (tgt := 416) d_K_draftConclusion_336 (by decide) ?_
  refine g_vret (pc := 416) d_K_draftConclusion_416 rfl (Nat.le_refl _) (Nat.le_refl _) ?_
  refine ⟨i5, r5, rfl, rfl, ?_, ?_, (hk3.w.t.tr hk4).tr hk5⟩
  · rw [sAb2, hpA1, hpA2]; exact hT5
  · rw [sAb2, hpA1, hpA2]; exact hx5
set_option maxRecDepth 100000 in
set_option maxHeartbeats 4000000 in
theorem c_K_conc_11 {τ : Nat × Nat} {a : Nat → Nat} {i : Nat → Int32} {r : Nat → Nat → Int32} {L : Nat → Int64} {wr : pW} (x : Nat) (y : Int32) (A : List Nat) (hA : PA (r 2) (30 * x) A) (hd : XD [] i r) (hk : tgR A = 5) (hk2 : tgR (p1 A) = 3) : pC m_K_draftConclusion τ [.ref (a 0), .int (nI 11), .int (nI x), .int y] (wX a i r L ++ wr) ((fun rr w2 => ∃ i2 r2, rr = none ∧ w2 = wX a i2 r2 L ++ wr ∧ XD (tok 7 0 0 :: (A ++ fil (p2 A) [0] (p1 (p1 A)))) i2 r2 ∧ DW i r i2 r2)) := by
  refine pC.of rfl (Nat.le_of_ble_eq_true rfl) ?_
  show pG m_K_draftConclusion τ _ 0 0 0 [(0, _), (1, _), (2, _), (3, _)] [] _
  refine g_aload_n (pc := 0) d_K_draftConclusion_0 rfl ?_
  refine g_getsX (pc := 1) d_K_draftConclusion_1 lf_K_107 ?_
  refine g_iload_n (pc := 4) d_K_draftConclusion_4 rfl ?_
  refine g_saldX (pc := 5) (v := nI 1) d_K_draftConclusion_5 (vp_in_nI (by decide) (by decide)) (by decide) ?_
  refine g_iload_n (pc := 6) d_K_draftConclusion_6 rfl ?_
  refine g_callV (M' := m_K_startOf) (pc := 7) (q := 0) d_K_draftConclusion_7 lm_K_182 (c_K_startOf_1 x) v_K_startOf rfl rfl rfl (by decide) rfl (Nat.le_of_ble_eq_true rfl) ?_
  rintro _ _ ⟨rfl, rfl⟩
  show pG m_K_draftConclusion τ _ 0 0 10 _ (.int _ :: _) _
  refine g_istore (pc := 10) [(4, _), (0, _), (1, _), (2, _), (3, _)] d_K_draftConclusion_10 (by decide) rfl ?_
  refine g_aload_n (pc := 12) d_K_draftConclusion_12 rfl ?_
  refine g_getsY (pc := 13) d_K_draftConclusion_13 lf_K_114 ?_
  refine g_iload_n (pc := 16) d_K_draftConclusion_16 rfl ?_
  refine g_saldY (pc := 17) (v := nI 0) d_K_draftConclusion_17 (vp_in_nI (by decide) (by decide)) (by decide) ?_
  refine g_iload_n (pc := 18) d_K_draftConclusion_18 rfl ?_
  refine g_callV (M' := m_K_startOf) (pc := 19) (q := 0) d_K_draftConclusion_19 lm_K_182 (c_K_startOf_0 y) v_K_startOf rfl rfl rfl (by decide) rfl (Nat.le_of_ble_eq_true rfl) ?_
  rintro _ _ ⟨rfl, rfl⟩
  show pG m_K_draftConclusion τ _ 0 0 22 _ (.int _ :: _) _
  refine g_istore (pc := 22) [(5, _), (4, _), (0, _), (1, _), (2, _), (3, _)] d_K_draftConclusion_22 (by decide) rfl ?_
  refine g_iload_n (pc := 24) d_K_draftConclusion_24 rfl ?_
  refine g_tableIn (pc := 25) (tgt := 339) d_K_draftConclusion_25 (by decide) (by decide) rfl (by decide) ?_
  obtain ⟨X, Y, hAe, hX, hY, hpA1, hpA2⟩ := hA.two (kPt_2 (show 5 ≤ tgR _ by rw [hk]; decide))
  rw [hpA1] at hk2
  obtain ⟨Z, hXe, hZ, hpX1⟩ := hX.one (kPt_1 (Or.inl hk2))
  refine g_aload_n (pc := 339) d_K_draftConclusion_339 rfl ?_
  refine gx_K_draft (pc := 340) d_K_draftConclusion_340 lf_K_28 ?_
  refine g_bipush (pc := 343) (v := nI 7) d_K_draftConclusion_343 (by decide) ?_
  refine g_iconst (pc := 345) (v := nI 0) d_K_draftConclusion_345 (by decide) ?_
  refine g_iconst (pc := 346) (v := nI 0) d_K_draftConclusion_346 (by decide) ?_
  refine g_callS (M' := m_O_of) (pc := 347) d_K_draftConclusion_347 lm_K_50 (c_O_of 7 0 0 (by decide) (by decide) (by decide)) v_O_of rfl (by decide) rfl (Nat.le_of_ble_eq_true rfl) ?_
  rintro _ _ ⟨rfl, rfl⟩
  show pG m_K_draftConclusion τ _ 0 0 350 _ (.int _ :: _) _
  refine g_callV (M' := m_D_add) (pc := 350) (q := 3) d_K_draftConclusion_350 lm_K_56 (c_D_add [] _ hd (by simp)) v_D_add rfl rfl rfl (by decide) rfl (Nat.le_of_ble_eq_true rfl) ?_
  rintro _ _ ⟨i3, r3, rfl, rfl, hx3, hk3⟩
  show pG m_K_draftConclusion τ _ 0 0 353 _ _ _
  refine g_aload_n (pc := 353) d_K_draftConclusion_353 rfl ?_
  refine gx_K_draft (pc := 354) d_K_draftConclusion_354 lf_K_28 ?_
  refine g_iload (pc := 357) d_K_draftConclusion_357 rfl ?_
  refine g_callV (M' := m_D_addPart) (pc := 359) (q := 3) d_K_draftConclusion_359 lm_K_176 (c_D_addPart _ _ A hx3 (hA.mv (hk3.2 2 (by decide))).1 hA.2.1 hA.2.2.1 (by have := hA.2.2.2; simp; omega)) v_D_addPart rfl rfl rfl (by decide) rfl (Nat.le_of_ble_eq_true rfl) ?_
  rintro _ _ ⟨i4, r4, rfl, rfl, hx4, hk4⟩
  show pG m_K_draftConclusion τ _ 0 0 362 _ _ _
  refine g_aload_n (pc := 362) d_K_draftConclusion_362 rfl ?_
  refine gx_K_draft (pc := 363) d_K_draftConclusion_363 lf_K_28 ?_
  refine g_aload_n (pc := 366) d_K_draftConclusion_366 rfl ?_
  refine gx_K_shelf (pc := 367) d_K_draftConclusion_367 lf_K_19 ?_
  refine g_aload_n (pc := 370) d_K_draftConclusion_370 rfl ?_
  refine gx_K_shelf (pc := 371) d_K_draftConclusion_371 lf_K_19 ?_
  refine g_iload (pc := 374) d_K_draftConclusion_374 rfl ?_
  refine g_callV (M' := m_S_firstPart) (pc := 376) (q := 2) d_K_draftConclusion_376 lm_K_185 (c_S_firstPart _) v_S_firstPart rfl rfl rfl (by decide) rfl (Nat.le_of_ble_eq_true rfl) ?_
  rintro _ _ ⟨rfl, rfl⟩
  show pG m_K_draftConclusion τ _ 0 0 379 _ (.int _ :: _) _
  refine g_callV (M' := m_S_firstPart) (pc := 379) (q := 2) d_K_draftConclusion_379 lm_K_185 (c_S_firstPart _) v_S_firstPart rfl rfl rfl (by decide) rfl (Nat.le_of_ble_eq_true rfl) ?_
  rintro _ _ ⟨rfl, rfl⟩
  show pG m_K_draftConclusion τ _ 0 0 382 _ (.int _ :: _) _
  refine g_aload_n (pc := 382) d_K_draftConclusion_382 rfl ?_
  refine gx_K_shelf (pc := 383) d_K_draftConclusion_383 lf_K_19 ?_
  refine g_iload (pc := 386) d_K_draftConclusion_386 rfl ?_
  refine g_callV (M' := m_S_secondPart) (pc := 388) (q := 2) d_K_draftConclusion_388 lm_K_191 (c_S_secondPart _ X (hX.mv ((hk3.tr hk4).2 2 (by decide))).1 hX.2.1 hX.2.2.1) v_S_secondPart rfl rfl rfl (by decide) rfl (Nat.le_of_ble_eq_true rfl) ?_
  rintro _ _ ⟨rfl, rfl⟩
  show pG m_K_draftConclusion τ _ 0 0 391 _ (.int _ :: _) _
  refine g_callV (M' := m_D_addFilling) (pc := 391) (q := 3) d_K_draftConclusion_391 lm_K_221 (c_D_addFilling _ _ _ Z Y hx4 (hZ.mv ((hk3.tr hk4).2 2 (by decide))).1 hZ.2.1 hZ.2.2.1 hZ.2.2.2 (hY.mv ((hk3.tr hk4).2 2 (by decide))).1 hY.2.1 hY.2.2.1 hY.2.2.2 (by have := hA.2.2.2; simp; omega)) v_D_addFilling rfl rfl rfl (by decide) rfl (Nat.le_of_ble_eq_true rfl) ?_
  rintro _ _ ⟨i5, r5, rfl, rfl, hx5, hk5⟩
  show pG m_K_draftConclusion τ _ 0 0 394 _ _ _
  refine g_goto (pc := 394) (tgt := 416) d_K_draftConclusion_394 (by decide) ?_
  refine g_vret (pc := 416) d_K_draftConclusion_416 rfl (Nat.le_refl _) (Nat.le_refl _) ?_
  refine ⟨i5, r5, rfl, rfl, ?_, (hk3.tr hk4).w.tr hk5⟩
  rw [hpA2, hpA1, hpX1]
  have := hx5
  simpa using this
set_option maxRecDepth 100000 in
set_option maxHeartbeats 4000000 in
theorem c_K_conc_12 {τ : Nat × Nat} {a : Nat → Nat} {i : Nat → Int32} {r : Nat → Nat → Int32} {L : Nat → Int64} {wr : pW} (x cx : Nat) (hx4 : x < 40) (hxc : r 6 x = nI cx) (y cy : Nat) (hy4 : y < 40) (hyc : r 6 y = nI cy) (A : List Nat) (hA : PA (r 2) (30 * cx) A) (B : List Nat) (hB : PA (r 2) (30 * cy) B) (hd : XD [] i r) (hk : tgR A = 7) : pC m_K_draftConclusion τ [.ref (a 0), .int (nI 12), .int (nI x), .int (nI y)] (wX a i r L ++ wr) ((fun rr w2 => ∃ i2 r2, rr = none ∧ w2 = wX a i2 r2 L ++ wr ∧ XD (p2 A) i2 r2 ∧ DW i r i2 r2)) := by
  refine pC.of rfl (Nat.le_of_ble_eq_true rfl) ?_
  show pG m_K_draftConclusion τ _ 0 0 0 [(0, _), (1, _), (2, _), (3, _)] [] _
  refine g_aload_n (pc := 0) d_K_draftConclusion_0 rfl ?_
  refine g_getsX (pc := 1) d_K_draftConclusion_1 lf_K_107 ?_
  refine g_iload_n (pc := 4) d_K_draftConclusion_4 rfl ?_
  refine g_saldX (pc := 5) (v := nI 2) d_K_draftConclusion_5 (vp_in_nI (by decide) (by decide)) (by decide) ?_
  refine g_iload_n (pc := 6) d_K_draftConclusion_6 rfl ?_
  refine g_callV (M' := m_K_startOf) (pc := 7) (q := 0) d_K_draftConclusion_7 lm_K_182 (c_K_startOf_2 x cx hx4 hxc) v_K_startOf rfl rfl rfl (by decide) rfl (Nat.le_of_ble_eq_true rfl) ?_
  rintro _ _ ⟨rfl, rfl⟩
  show pG m_K_draftConclusion τ _ 0 0 10 _ (.int _ :: _) _
  refine g_istore (pc := 10) [(4, _), (0, _), (1, _), (2, _), (3, _)] d_K_draftConclusion_10 (by decide) rfl ?_
  refine g_aload_n (pc := 12) d_K_draftConclusion_12 rfl ?_
  refine g_getsY (pc := 13) d_K_draftConclusion_13 lf_K_114 ?_
  refine g_iload_n (pc := 16) d_K_draftConclusion_16 rfl ?_
  refine g_saldY (pc := 17) (v := nI 2) d_K_draftConclusion_17 (vp_in_nI (by decide) (by decide)) (by decide) ?_
  refine g_iload_n (pc := 18) d_K_draftConclusion_18 rfl ?_
  refine g_callV (M' := m_K_startOf) (pc := 19) (q := 0) d_K_draftConclusion_19 lm_K_182 (c_K_startOf_2 y cy hy4 hyc) v_K_startOf rfl rfl rfl (by decide) rfl (Nat.le_of_ble_eq_true rfl) ?_
  rintro _ _ ⟨rfl, rfl⟩
  show pG m_K_draftConclusion τ _ 0 0 22 _ (.int _ :: _) _
  refine g_istore (pc := 22) [(5, _), (4, _), (0, _), (1, _), (2, _), (3, _)] d_K_draftConclusion_22 (by decide) rfl ?_
  refine g_iload_n (pc := 24) d_K_draftConclusion_24 rfl ?_
  refine g_tableIn (pc := 25) (tgt := 101) d_K_draftConclusion_25 (by decide) (by decide) rfl (by decide) ?_
  obtain ⟨X, Y, hAe, hX, hY, hpA1, hpA2⟩ := hA.two (kPt_2 (show 5 ≤ tgR _ by rw [hk]; decide))
  refine g_aload_n (pc := 101) d_K_draftConclusion_101 rfl ?_
  refine gx_K_draft (pc := 102) d_K_draftConclusion_102 lf_K_28 ?_
  refine g_aload_n (pc := 105) d_K_draftConclusion_105 rfl ?_
  refine gx_K_shelf (pc := 106) d_K_draftConclusion_106 lf_K_19 ?_
  refine g_iload (pc := 109) d_K_draftConclusion_109 rfl ?_
  refine g_callV (M' := m_S_secondPart) (pc := 111) (q := 2) d_K_draftConclusion_111 lm_K_191 (c_S_secondPart _ X hX.1 hX.2.1 hX.2.2.1) v_S_secondPart rfl rfl rfl (by decide) rfl (Nat.le_of_ble_eq_true rfl) ?_
  rintro _ _ ⟨rfl, rfl⟩
  show pG m_K_draftConclusion τ _ 0 0 114 _ (.int _ :: _) _
  refine g_callV (M' := m_D_addPart) (pc := 114) (q := 3) d_K_draftConclusion_114 lm_K_176 (c_D_addPart [] _ Y hd hY.1 hY.2.1 hY.2.2.1 (by have := hY.2.2.2; simp; omega)) v_D_addPart rfl rfl rfl (by decide) rfl (Nat.le_of_ble_eq_true rfl) ?_
  rintro _ _ ⟨i2, r2, rfl, rfl, hx2, hk2⟩
  show pG m_K_draftConclusion τ _ 0 0 117 _ _ _
  refine g_goto (pc := 117) (tgt := 416) d_K_draftConclusion_117 (by decide) ?_
  refine g_vret (pc := 416) d_K_draftConclusion_416 rfl (Nat.le_refl _) (Nat.le_refl _) ?_
  refine ⟨i2, r2, rfl, rfl, ?_, hk2.w⟩
  rw [hpA2]
  exact hx2
set_option maxRecDepth 100000 in
set_option maxHeartbeats 4000000 in
theorem c_K_conc_13 {τ : Nat × Nat} {a : Nat → Nat} {i : Nat → Int32} {r : Nat → Nat → Int32} {L : Nat → Int64} {wr : pW} (x cx : Nat) (hx4 : x < 40) (hxc : r 6 x = nI cx) (y : Nat) (hyq : y < 2 ^ 31) (A : List Nat) (hA : PA (r 2) (30 * cx) A) (B : List Nat) (hB : PA (r 2) (30 * (y / 64)) B) (C : List Nat) (hC : PA (r 2) (30 * (y % 64)) C) (hd : XD [] i r) : pC m_K_draftConclusion τ [.ref (a 0), .int (nI 13), .int (nI x), .int (nI y)] (wX a i r L ++ wr) ((fun rr w2 => ∃ i2 r2, rr = none ∧ w2 = wX a i2 r2 L ++ wr ∧ XD (rpl (hdt B) C A) i2 r2 ∧ DW i r i2 r2)) := by
  refine pC.of rfl (Nat.le_of_ble_eq_true rfl) ?_
  show pG m_K_draftConclusion τ _ 0 0 0 [(0, _), (1, _), (2, _), (3, _)] [] _
  refine g_aload_n (pc := 0) d_K_draftConclusion_0 rfl ?_
  refine g_getsX (pc := 1) d_K_draftConclusion_1 lf_K_107 ?_
  refine g_iload_n (pc := 4) d_K_draftConclusion_4 rfl ?_
  refine g_saldX (pc := 5) (v := nI 2) d_K_draftConclusion_5 (vp_in_nI (by decide) (by decide)) (by decide) ?_
  refine g_iload_n (pc := 6) d_K_draftConclusion_6 rfl ?_
  refine g_callV (M' := m_K_startOf) (pc := 7) (q := 0) d_K_draftConclusion_7 lm_K_182 (c_K_startOf_2 x cx hx4 hxc) v_K_startOf rfl rfl rfl (by decide) rfl (Nat.le_of_ble_eq_true rfl) ?_
  rintro _ _ ⟨rfl, rfl⟩
  show pG m_K_draftConclusion τ _ 0 0 10 _ (.int _ :: _) _
  refine g_istore (pc := 10) [(4, _), (0, _), (1, _), (2, _), (3, _)] d_K_draftConclusion_10 (by decide) rfl ?_
  refine g_aload_n (pc := 12) d_K_draftConclusion_12 rfl ?_
  refine g_getsY (pc := 13) d_K_draftConclusion_13 lf_K_114 ?_
  refine g_iload_n (pc := 16) d_K_draftConclusion_16 rfl ?_
  refine g_saldY (pc := 17) (v := nI 3) d_K_draftConclusion_17 (vp_in_nI (by decide) (by decide)) (by decide) ?_
  refine g_iload_n (pc := 18) d_K_draftConclusion_18 rfl ?_
  refine g_callV (M' := m_K_startOf) (pc := 19) (q := 0) d_K_draftConclusion_19 lm_K_182 (c_K_startOf_3 y hyq) v_K_startOf rfl rfl rfl (by decide) rfl (Nat.le_of_ble_eq_true rfl) ?_
  rintro _ _ ⟨rfl, rfl⟩
  show pG m_K_draftConclusion τ _ 0 0 22 _ (.int _ :: _) _
  refine g_istore (pc := 22) [(5, _), (4, _), (0, _), (1, _), (2, _), (3, _)] d_K_draftConclusion_22 (by decide) rfl ?_
  refine g_iload_n (pc := 24) d_K_draftConclusion_24 rfl ?_
  refine g_tableIn (pc := 25) (tgt := 397) d_K_draftConclusion_25 (by decide) (by decide) rfl (by decide) ?_
  refine g_aload_n (pc := 397) d_K_draftConclusion_397 rfl ?_
  refine g_iload (pc := 398) d_K_draftConclusion_398 rfl ?_
  refine g_iload_n (pc := 400) d_K_draftConclusion_400 rfl ?_
  refine g_callV (M' := m_K_draftSubstituted) (pc := 401) (q := 0) d_K_draftConclusion_401 lm_K_215 (c_K_draftSubstituted [] _ y A B C hyq hd hA hB hC (by simp)) v_K_draftSubstituted rfl rfl rfl (by decide) rfl (Nat.le_of_ble_eq_true rfl) ?_
  rintro _ _ ⟨i2, r2, rfl, rfl, hx2, hk2⟩
  show pG m_K_draftConclusion τ _ 0 0 404 _ _ _
  refine g_goto (pc := 404) (tgt := 416) d_K_draftConclusion_404 (by decide) ?_
  refine g_vret (pc := 416) d_K_draftConclusion_416 rfl (Nat.le_refl _) (Nat.le_refl _) ?_
  refine ⟨i2, r2, rfl, rfl, ?_, hk2.w⟩
  exact hx2
