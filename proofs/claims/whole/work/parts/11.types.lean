/-! Types: contracts. By wip/whole/m_types.py -/
set_option maxRecDepth 100000 in
set_option maxHeartbeats 4000000 in
theorem c_T_has {τ : Nat × Nat} {a : Nat → Nat} {i : Nat → Int32} {r : Nat → Nat → Int32} {L : Nat → Int64} {wr : pW} (c : Nat) (hc : i 0 = nI c) (hb : c < 2 ^ 31) (x : Int32) : pC m_T_has τ [.ref (a 1), .int x] (wX a i r L ++ wr) (fun rr w2 => rr = some (.int (bI (ixB x c))) ∧ w2 = wX a i r L ++ wr) := by
  refine pC.of rfl (Nat.le_of_ble_eq_true rfl) ?_
  show pG m_T_has τ _ 0 0 0 [(0, _), (1, _)] [] _
  refine g_iload_n (pc := 0) d_T_has_0 rfl ?_
  refine g_if_lt (pc := 1) (tgt := 16) d_T_has_1 (by decide) (fun h1 => ?_) (fun h1 => ?_)
  · refine g_iconst (pc := 16) (v := nI 0) d_T_has_16 (by decide) ?_
    refine g_zret (pc := 17) d_T_has_17 rfl (by decide) (Nat.le_refl _) (Nat.le_refl _) ?_
    refine ⟨congrArg (fun v => some (Value.int v)) ?_, rfl⟩
    first | exact bI_0 (ixB_neg (by assumption)) | exact bI_0 (ixB_big hb (by assumption)) | exact bI_1 (ixB_in hb (by assumption) (by assumption))
  · refine g_iload_n (pc := 4) d_T_has_4 rfl ?_
    refine g_aload_n (pc := 5) d_T_has_5 rfl ?_
    refine gx_T_count (pc := 6) d_T_has_6 lf_T_18 ?_
    rw [hc]
    refine g_icmp_ge (pc := 9) (tgt := 16) d_T_has_9 (by decide) (fun h9 => ?_) (fun h9 => ?_)
    · refine g_iconst (pc := 16) (v := nI 0) d_T_has_16 (by decide) ?_
      refine g_zret (pc := 17) d_T_has_17 rfl (by decide) (Nat.le_refl _) (Nat.le_refl _) ?_
      refine ⟨congrArg (fun v => some (Value.int v)) ?_, rfl⟩
      first | exact bI_0 (ixB_neg (by assumption)) | exact bI_0 (ixB_big hb (by assumption)) | exact bI_1 (ixB_in hb (by assumption) (by assumption))
    · refine g_iconst (pc := 12) (v := nI 1) d_T_has_12 (by decide) ?_
      refine g_goto (pc := 13) (tgt := 17) d_T_has_13 (by decide) ?_
      refine g_zret (pc := 17) d_T_has_17 rfl (by decide) (Nat.le_refl _) (Nat.le_refl _) ?_
      refine ⟨congrArg (fun v => some (Value.int v)) ?_, rfl⟩
      first | exact bI_0 (ixB_neg (by assumption)) | exact bI_0 (ixB_big hb (by assumption)) | exact bI_1 (ixB_in hb (by assumption) (by assumption))
set_option maxRecDepth 100000 in
set_option maxHeartbeats 4000000 in
theorem c_T_count {τ : Nat × Nat} {a : Nat → Nat} {i : Nat → Int32} {r : Nat → Nat → Int32} {L : Nat → Int64} {wr : pW}  : pC m_T_count τ [.ref (a 1)] (wX a i r L ++ wr) (fun rr w2 => rr = some (.int (i 0)) ∧ w2 = wX a i r L ++ wr) := by
  refine pC.of rfl (Nat.le_of_ble_eq_true rfl) ?_
  show pG m_T_count τ _ 0 0 0 [(0, _)] [] _
  refine g_aload_n (pc := 0) d_T_count_0 rfl ?_
  refine gx_T_count (pc := 1) d_T_count_1 lf_T_18 ?_
  refine g_iret (pc := 4) d_T_count_4 rfl (Nat.le_refl _) (Nat.le_refl _) ?_
  exact ⟨rfl, rfl⟩
set_option maxRecDepth 100000 in
set_option maxHeartbeats 4000000 in
theorem c_T_takes {τ : Nat × Nat} {a : Nat → Nat} {i : Nat → Int32} {r : Nat → Nat → Int32} {L : Nat → Int64} {wr : pW} (f x : Nat) (hf : f < 16) : pC m_T_takes τ [.ref (a 1), .int (nI f), .int (nI x)] (wX a i r L ++ wr) (fun rr w2 => rr = some (.int (bI (decide (r 0 f = nI x)))) ∧ w2 = wX a i r L ++ wr) := by
  refine pC.of rfl (Nat.le_of_ble_eq_true rfl) ?_
  show pG m_T_takes τ _ 0 0 0 [(0, _), (1, _), (2, _)] [] _
  refine g_aload_n (pc := 0) d_T_takes_0 rfl ?_
  refine gx_T_from (pc := 1) d_T_takes_1 lf_T_9 ?_
  refine g_iload_n (pc := 4) d_T_takes_4 rfl ?_
  refine glx_T_from (pc := 5) d_T_takes_5 (vp_in_nI hf (by decide)) rfl ?_
  refine g_iload_n (pc := 6) d_T_takes_6 rfl ?_
  refine g_icmp_ne (pc := 7) (tgt := 14) d_T_takes_7 (by decide) (fun h7 => ?_) (fun h7 => ?_)
  · refine g_iconst (pc := 14) (v := nI 0) d_T_takes_14 (by decide) ?_
    refine g_zret (pc := 15) d_T_takes_15 rfl (by decide) (Nat.le_refl _) (Nat.le_refl _) ?_
    refine ⟨congrArg (fun v => some (Value.int v)) ?_, rfl⟩
    rw [nI_clamp (by omega)] at *
    simp_all [bI]
  · refine g_iconst (pc := 10) (v := nI 1) d_T_takes_10 (by decide) ?_
    refine g_goto (pc := 11) (tgt := 15) d_T_takes_11 (by decide) ?_
    refine g_zret (pc := 15) d_T_takes_15 rfl (by decide) (Nat.le_refl _) (Nat.le_refl _) ?_
    refine ⟨congrArg (fun v => some (Value.int v)) ?_, rfl⟩
    rw [nI_clamp (by omega)] at *
    simp_all [bI]
set_option maxRecDepth 100000 in
set_option maxHeartbeats 4000000 in
theorem c_T_result {τ : Nat × Nat} {a : Nat → Nat} {i : Nat → Int32} {r : Nat → Nat → Int32} {L : Nat → Int64} {wr : pW} (f : Nat) (hf : f < 16) : pC m_T_result τ [.ref (a 1), .int (nI f)] (wX a i r L ++ wr) (fun rr w2 => rr = some (.int (r 1 f)) ∧ w2 = wX a i r L ++ wr) := by
  refine pC.of rfl (Nat.le_of_ble_eq_true rfl) ?_
  show pG m_T_result τ _ 0 0 0 [(0, _), (1, _)] [] _
  refine g_aload_n (pc := 0) d_T_result_0 rfl ?_
  refine gx_T_to (pc := 1) d_T_result_1 lf_T_15 ?_
  refine g_iload_n (pc := 4) d_T_result_4 rfl ?_
  refine glx_T_to (pc := 5) d_T_result_5 (vp_in_nI hf (by decide)) rfl ?_
  refine g_iret (pc := 6) d_T_result_6 rfl (Nat.le_refl _) (Nat.le_refl _) ?_
  exact ⟨by rw [nI_clamp (by omega)], rfl⟩
set_option maxRecDepth 100000 in
set_option maxHeartbeats 4000000 in
theorem c_T_cutTo {τ : Nat × Nat} {a : Nat → Nat} {i : Nat → Int32} {r : Nat → Nat → Int32} {L : Nat → Int64} {wr : pW} (x : Int32) : pC m_T_cutTo τ [.ref (a 1), .int x] (wX a i r L ++ wr) (fun rr w2 => rr = none ∧ w2 = wX a (upd i 0 x) r L ++ wr) := by
  refine pC.of rfl (Nat.le_of_ble_eq_true rfl) ?_
  show pG m_T_cutTo τ _ 0 0 0 [(0, _), (1, _)] [] _
  refine g_aload_n (pc := 0) d_T_cutTo_0 rfl ?_
  refine g_iload_n (pc := 1) d_T_cutTo_1 rfl ?_
  refine gx_T_count_p (pc := 2) d_T_cutTo_2 lf_T_18 ?_
  refine g_vret (pc := 5) d_T_cutTo_5 rfl (Nat.le_refl _) (Nat.le_refl _) ?_
  exact ⟨rfl, rfl⟩
