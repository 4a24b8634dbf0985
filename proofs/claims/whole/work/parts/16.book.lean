/-! Book, and ProofKernel.isIn: contracts. By wip/whole/m_book.py -/
set_option maxRecDepth 100000 in
set_option maxHeartbeats 4000000 in
theorem c_K_isIn {τ : Nat × Nat} {w : pW} (h t : Nat) (hh : h < 2 ^ 62) (ht : t < 62) : pC m_K_isIn τ [.long (lN h), .int (nI t)] w (fun r w2 => r = some (.int (bI (h.testBit t))) ∧ w2 = w) := by
  refine pC.of rfl (Nat.le_of_ble_eq_true rfl) ?_
  show pG m_K_isIn τ _ 0 0 0 [(0, _), (2, _)] [] _
  refine g_lload_n (pc := 0) d_K_isIn_0 rfl ?_
  refine g_iload_n (pc := 1) d_K_isIn_1 rfl ?_
  refine g_lshr (pc := 2) d_K_isIn_2 ?_
  refine g_lconst (pc := 3) (v := lN 1) d_K_isIn_3 (by decide) ?_
  refine g_land (pc := 4) d_K_isIn_4 ?_
  refine g_topl (lN (h / 2 ^ t % 2)) (lb_bit hh ht) ?_
  refine g_lconst (pc := 5) (v := lN 0) d_K_isIn_5 (by decide) ?_
  refine g_lcmp (pc := 6) d_K_isIn_6 ?_
  refine g_if_eq (pc := 7) (tgt := 14) d_K_isIn_7 (by decide) (fun h7 => ?_) (fun h7 => ?_)
  · refine g_iconst (pc := 14) (v := nI 0) d_K_isIn_14 (by decide) ?_
    refine g_zret (pc := 15) d_K_isIn_15 rfl (by decide) (Nat.le_refl _) (Nat.le_refl _) ?_
    refine ⟨congrArg (fun v => some (Value.int v)) ?_, rfl⟩
    rw [lb_cmp0 (by omega), lb_tb] at h7
    first | exact bI_1 (by cases e : h.testBit t <;> simp_all) | exact bI_0 (by cases e : h.testBit t <;> simp_all)
  · refine g_iconst (pc := 10) (v := nI 1) d_K_isIn_10 (by decide) ?_
    refine g_goto (pc := 11) (tgt := 15) d_K_isIn_11 (by decide) ?_
    refine g_zret (pc := 15) d_K_isIn_15 rfl (by decide) (Nat.le_refl _) (Nat.le_refl _) ?_
    refine ⟨congrArg (fun v => some (Value.int v)) ?_, rfl⟩
    rw [lb_cmp0 (by omega), lb_tb] at h7
    first | exact bI_1 (by cases e : h.testBit t <;> simp_all) | exact bI_0 (by cases e : h.testBit t <;> simp_all)
set_option maxRecDepth 100000 in
set_option maxHeartbeats 4000000 in
theorem c_B_count {τ : Nat × Nat} {a : Nat → Nat} {i : Nat → Int32} {r : Nat → Nat → Int32} {L : Nat → Int64} {wr : pW}  : pC m_B_count τ [.ref (a 4)] (wX a i r L ++ wr) (fun rr w2 => rr = some (.int (i 4)) ∧ w2 = wX a i r L ++ wr) := by
  refine pC.of rfl (Nat.le_of_ble_eq_true rfl) ?_
  show pG m_B_count τ _ 0 0 0 [(0, _)] [] _
  refine g_aload_n (pc := 0) d_B_count_0 rfl ?_
  refine gx_B_count (pc := 1) d_B_count_1 lf_B_31 ?_
  refine g_iret (pc := 4) d_B_count_4 rfl (Nat.le_refl _) (Nat.le_refl _) ?_
  exact ⟨rfl, rfl⟩
set_option maxRecDepth 100000 in
set_option maxHeartbeats 4000000 in
theorem c_B_has {τ : Nat × Nat} {a : Nat → Nat} {i : Nat → Int32} {r : Nat → Nat → Int32} {L : Nat → Int64} {wr : pW} (c : Nat) (hc : i 4 = nI c) (hb : c < 2 ^ 31) (x : Int32) : pC m_B_has τ [.ref (a 4), .int x] (wX a i r L ++ wr) (fun rr w2 => rr = some (.int (bI (ixB x c))) ∧ w2 = wX a i r L ++ wr) := by
  refine pC.of rfl (Nat.le_of_ble_eq_true rfl) ?_
  show pG m_B_has τ _ 0 0 0 [(0, _), (1, _)] [] _
  refine g_iload_n (pc := 0) d_B_has_0 rfl ?_
  refine g_if_lt (pc := 1) (tgt := 16) d_B_has_1 (by decide) (fun h1 => ?_) (fun h1 => ?_)
  · refine g_iconst (pc := 16) (v := nI 0) d_B_has_16 (by decide) ?_
    refine g_zret (pc := 17) d_B_has_17 rfl (by decide) (Nat.le_refl _) (Nat.le_refl _) ?_
    refine ⟨congrArg (fun v => some (Value.int v)) ?_, rfl⟩
    first | exact bI_0 (ixB_neg (by assumption)) | exact bI_0 (ixB_big hb (by assumption)) | exact bI_1 (ixB_in hb (by assumption) (by assumption))
  · refine g_iload_n (pc := 4) d_B_has_4 rfl ?_
    refine g_aload_n (pc := 5) d_B_has_5 rfl ?_
    refine gx_B_count (pc := 6) d_B_has_6 lf_B_31 ?_
    rw [hc]
    refine g_icmp_ge (pc := 9) (tgt := 16) d_B_has_9 (by decide) (fun h9 => ?_) (fun h9 => ?_)
    · refine g_iconst (pc := 16) (v := nI 0) d_B_has_16 (by decide) ?_
      refine g_zret (pc := 17) d_B_has_17 rfl (by decide) (Nat.le_refl _) (Nat.le_refl _) ?_
      refine ⟨congrArg (fun v => some (Value.int v)) ?_, rfl⟩
      first | exact bI_0 (ixB_neg (by assumption)) | exact bI_0 (ixB_big hb (by assumption)) | exact bI_1 (ixB_in hb (by assumption) (by assumption))
    · refine g_iconst (pc := 12) (v := nI 1) d_B_has_12 (by decide) ?_
      refine g_goto (pc := 13) (tgt := 17) d_B_has_13 (by decide) ?_
      refine g_zret (pc := 17) d_B_has_17 rfl (by decide) (Nat.le_refl _) (Nat.le_refl _) ?_
      refine ⟨congrArg (fun v => some (Value.int v)) ?_, rfl⟩
      first | exact bI_0 (ixB_neg (by assumption)) | exact bI_0 (ixB_big hb (by assumption)) | exact bI_1 (ixB_in hb (by assumption) (by assumption))
set_option maxRecDepth 100000 in
set_option maxHeartbeats 4000000 in
theorem c_B_isFull {τ : Nat × Nat} {a : Nat → Nat} {i : Nat → Int32} {r : Nat → Nat → Int32} {L : Nat → Int64} {wr : pW} (c : Nat) (hc : i 4 = nI c) (hb : c < 2 ^ 31) : pC m_B_isFull τ [.ref (a 4)] (wX a i r L ++ wr) (fun rr w2 => rr = some (.int (bI (decide (c = 40)))) ∧ w2 = wX a i r L ++ wr) := by
  refine pC.of rfl (Nat.le_of_ble_eq_true rfl) ?_
  show pG m_B_isFull τ _ 0 0 0 [(0, _)] [] _
  refine g_aload_n (pc := 0) d_B_isFull_0 rfl ?_
  refine gx_B_count (pc := 1) d_B_isFull_1 lf_B_31 ?_
  rw [hc]
  refine g_bipush (pc := 4) (v := nI 40) d_B_isFull_4 (by decide) ?_
  refine g_nicmp_ne (pc := 6) (tgt := 13) d_B_isFull_6 (by decide) (by omega) (by omega) (fun h6 => ?_) (fun h6 => ?_)
  · refine g_iconst (pc := 13) (v := nI 0) d_B_isFull_13 (by decide) ?_
    refine g_zret (pc := 14) d_B_isFull_14 rfl (by decide) (Nat.le_refl _) (Nat.le_refl _) ?_
    refine ⟨congrArg (fun v => some (Value.int v)) ?_, rfl⟩
    first | exact bI_1 (by rw [decide_eq_true_eq]; omega) | exact bI_0 (by rw [decide_eq_false_iff_not]; omega)
  · refine g_iconst (pc := 9) (v := nI 1) d_B_isFull_9 (by decide) ?_
    refine g_goto (pc := 10) (tgt := 14) d_B_isFull_10 (by decide) ?_
    refine g_zret (pc := 14) d_B_isFull_14 rfl (by decide) (Nat.le_refl _) (Nat.le_refl _) ?_
    refine ⟨congrArg (fun v => some (Value.int v)) ?_, rfl⟩
    first | exact bI_1 (by rw [decide_eq_true_eq]; omega) | exact bI_0 (by rw [decide_eq_false_iff_not]; omega)
set_option maxRecDepth 100000 in
set_option maxHeartbeats 4000000 in
theorem c_B_hypothesesOf {τ : Nat × Nat} {a : Nat → Nat} {i : Nat → Int32} {r : Nat → Nat → Int32} {L : Nat → Int64} {wr : pW} (k : Nat) (hk : k < 40) : pC m_B_hypothesesOf τ [.ref (a 4), .int (nI k)] (wX a i r L ++ wr) (fun rr w2 => rr = some (.long (L k)) ∧ w2 = wX a i r L ++ wr) := by
  refine pC.of rfl (Nat.le_of_ble_eq_true rfl) ?_
  show pG m_B_hypothesesOf τ _ 0 0 0 [(0, _), (1, _)] [] _
  refine g_aload_n (pc := 0) d_B_hypothesesOf_0 rfl ?_
  refine gx_B_assumed (pc := 1) d_B_hypothesesOf_1 lf_B_9 ?_
  refine g_iload_n (pc := 4) d_B_hypothesesOf_4 rfl ?_
  refine glx_B_assumed (pc := 5) d_B_hypothesesOf_5 (vp_in_nI hk (by decide)) rfl ?_
  refine g_lret (pc := 6) d_B_hypothesesOf_6 rfl (Nat.le_refl _) (Nat.le_refl _) ?_
  exact ⟨by rw [nI_clamp (by omega)], rfl⟩
set_option maxRecDepth 100000 in
set_option maxHeartbeats 4000000 in
theorem c_B_conclusionOf {τ : Nat × Nat} {a : Nat → Nat} {i : Nat → Int32} {r : Nat → Nat → Int32} {L : Nat → Int64} {wr : pW} (k : Nat) (hk : k < 40) : pC m_B_conclusionOf τ [.ref (a 4), .int (nI k)] (wX a i r L ++ wr) (fun rr w2 => rr = some (.int (r 6 k)) ∧ w2 = wX a i r L ++ wr) := by
  refine pC.of rfl (Nat.le_of_ble_eq_true rfl) ?_
  show pG m_B_conclusionOf τ _ 0 0 0 [(0, _), (1, _)] [] _
  refine g_aload_n (pc := 0) d_B_conclusionOf_0 rfl ?_
  refine gx_B_conclusions (pc := 1) d_B_conclusionOf_1 lf_B_15 ?_
  refine g_iload_n (pc := 4) d_B_conclusionOf_4 rfl ?_
  refine glx_B_conclusions (pc := 5) d_B_conclusionOf_5 (vp_in_nI hk (by decide)) rfl ?_
  refine g_iret (pc := 6) d_B_conclusionOf_6 rfl (Nat.le_refl _) (Nat.le_refl _) ?_
  exact ⟨by rw [nI_clamp (by omega)], rfl⟩
set_option maxRecDepth 100000 in
set_option maxHeartbeats 4000000 in
theorem c_B_firstPremise {τ : Nat × Nat} {a : Nat → Nat} {i : Nat → Int32} {r : Nat → Nat → Int32} {L : Nat → Int64} {wr : pW} (k rl x : Nat) (hk : k < 40) (h7 : r 7 k = nI rl) (hr : rl < 14) (hx : nbx rl = nI 2 → r 8 k = nI x) : pC m_B_firstPremise τ [.ref (a 4), .int (nI k)] (wX a i r L ++ wr) (fun rr w2 => rr = some (.int (if nbx rl = nI 2 then nI x else -1)) ∧ w2 = wX a i r L ++ wr) := by
  refine pC.of rfl (Nat.le_of_ble_eq_true rfl) ?_
  show pG m_B_firstPremise τ _ 0 0 0 [(0, _), (1, _)] [] _
  refine g_getsXN (pc := 0) d_B_firstPremise_0 rfl ?_
  refine g_aload_n (pc := 3) d_B_firstPremise_3 rfl ?_
  refine gx_B_rules (pc := 4) d_B_firstPremise_4 lf_B_19 ?_
  refine g_iload_n (pc := 7) d_B_firstPremise_7 rfl ?_
  refine glx_B_rules (pc := 8) (v := nI rl) d_B_firstPremise_8 (vp_in_nI (by omega) (by decide)) (by rw [nI_clamp (by omega)]; exact h7) ?_
  refine g_saldX (pc := 9) d_B_firstPremise_9 (vp_in_nI (by omega) (by decide)) rfl ?_
  refine g_iconst (pc := 10) (v := nI 2) d_B_firstPremise_10 (by decide) ?_
  refine g_icmp_ne (pc := 11) (tgt := 23) d_B_firstPremise_11 (by decide) (fun h11 => ?_) (fun h11 => ?_)
  · refine g_iconst (pc := 23) (v := -1) d_B_firstPremise_23 (by decide) ?_
    refine g_iret (pc := 24) d_B_firstPremise_24 rfl (Nat.le_refl _) (Nat.le_refl _) ?_
    refine ⟨congrArg (fun v => some (Value.int v)) ?_, rfl⟩
    rw [nI_clamp (by omega)] at h11
    first | rw [if_pos h11] | rw [if_neg h11]
  · refine g_aload_n (pc := 14) d_B_firstPremise_14 rfl ?_
    refine gx_B_namedByX (pc := 15) d_B_firstPremise_15 lf_B_22 ?_
    refine g_iload_n (pc := 18) d_B_firstPremise_18 rfl ?_
    refine glx_B_namedByX (pc := 19) (v := nI x) d_B_firstPremise_19 (vp_in_nI (by omega) (by decide)) (by rw [nI_clamp (by omega)]; exact hx (by rw [nI_clamp (by omega)] at h11; exact h11)) ?_
    refine g_goto (pc := 20) (tgt := 24) d_B_firstPremise_20 (by decide) ?_
    refine g_iret (pc := 24) d_B_firstPremise_24 rfl (Nat.le_refl _) (Nat.le_refl _) ?_
    refine ⟨congrArg (fun v => some (Value.int v)) ?_, rfl⟩
    rw [nI_clamp (by omega)] at h11
    first | rw [if_pos h11] | rw [if_neg h11]
set_option maxRecDepth 100000 in
set_option maxHeartbeats 4000000 in
theorem c_B_secondPremise {τ : Nat × Nat} {a : Nat → Nat} {i : Nat → Int32} {r : Nat → Nat → Int32} {L : Nat → Int64} {wr : pW} (k rl x : Nat) (hk : k < 40) (h7 : r 7 k = nI rl) (hr : rl < 14) (hx : nby rl = nI 2 → r 9 k = nI x) : pC m_B_secondPremise τ [.ref (a 4), .int (nI k)] (wX a i r L ++ wr) (fun rr w2 => rr = some (.int (if nby rl = nI 2 then nI x else -1)) ∧ w2 = wX a i r L ++ wr) := by
  refine pC.of rfl (Nat.le_of_ble_eq_true rfl) ?_
  show pG m_B_secondPremise τ _ 0 0 0 [(0, _), (1, _)] [] _
  refine g_getsYN (pc := 0) d_B_secondPremise_0 rfl ?_
  refine g_aload_n (pc := 3) d_B_secondPremise_3 rfl ?_
  refine gx_B_rules (pc := 4) d_B_secondPremise_4 lf_B_19 ?_
  refine g_iload_n (pc := 7) d_B_secondPremise_7 rfl ?_
  refine glx_B_rules (pc := 8) (v := nI rl) d_B_secondPremise_8 (vp_in_nI (by omega) (by decide)) (by rw [nI_clamp (by omega)]; exact h7) ?_
  refine g_saldY (pc := 9) d_B_secondPremise_9 (vp_in_nI (by omega) (by decide)) rfl ?_
  refine g_iconst (pc := 10) (v := nI 2) d_B_secondPremise_10 (by decide) ?_
  refine g_icmp_ne (pc := 11) (tgt := 23) d_B_secondPremise_11 (by decide) (fun h11 => ?_) (fun h11 => ?_)
  · refine g_iconst (pc := 23) (v := -1) d_B_secondPremise_23 (by decide) ?_
    refine g_iret (pc := 24) d_B_secondPremise_24 rfl (Nat.le_refl _) (Nat.le_refl _) ?_
    refine ⟨congrArg (fun v => some (Value.int v)) ?_, rfl⟩
    rw [nI_clamp (by omega)] at h11
    first | rw [if_pos h11] | rw [if_neg h11]
  · refine g_aload_n (pc := 14) d_B_secondPremise_14 rfl ?_
    refine gx_B_namedByY (pc := 15) d_B_secondPremise_15 lf_B_25 ?_
    refine g_iload_n (pc := 18) d_B_secondPremise_18 rfl ?_
    refine glx_B_namedByY (pc := 19) (v := nI x) d_B_secondPremise_19 (vp_in_nI (by omega) (by decide)) (by rw [nI_clamp (by omega)]; exact hx (by rw [nI_clamp (by omega)] at h11; exact h11)) ?_
    refine g_goto (pc := 20) (tgt := 24) d_B_secondPremise_20 (by decide) ?_
    refine g_iret (pc := 24) d_B_secondPremise_24 rfl (Nat.le_refl _) (Nat.le_refl _) ?_
    refine ⟨congrArg (fun v => some (Value.int v)) ?_, rfl⟩
    rw [nI_clamp (by omega)] at h11
    first | rw [if_pos h11] | rw [if_neg h11]
set_option maxRecDepth 100000 in
set_option maxHeartbeats 4000000 in
theorem c_B_stepsBefore_0 {τ : Nat × Nat} {a : Nat → Nat} {i : Nat → Int32} {r : Nat → Nat → Int32} {L : Nat → Int64} {wr : pW}  : pC m_B_stepsBefore τ [.ref (a 4), .int (-1)] (wX a i r L ++ wr) (fun rr w2 => rr = some (.int (nI 0)) ∧ w2 = wX a i r L ++ wr) := by
  refine pC.of rfl (Nat.le_of_ble_eq_true rfl) ?_
  show pG m_B_stepsBefore τ _ 0 0 0 [(0, _), (1, _)] [] _
  refine g_iload_n (pc := 0) d_B_stepsBefore_0 rfl ?_
  refine g_iconst (pc := 1) (v := -1) d_B_stepsBefore_1 (by decide) ?_
  refine g_icmp_ne (pc := 2) (tgt := 9) d_B_stepsBefore_2 (by decide) (fun h => absurd rfl h) (fun h2 => ?_)
  refine g_iconst (pc := 5) (v := nI 0) d_B_stepsBefore_5 (by decide) ?_
  refine g_goto (pc := 6) (tgt := 15) d_B_stepsBefore_6 (by decide) ?_
  refine g_iret (pc := 15) d_B_stepsBefore_15 rfl (Nat.le_refl _) (Nat.le_refl _) ?_
  exact ⟨rfl, rfl⟩
set_option maxRecDepth 100000 in
set_option maxHeartbeats 4000000 in
theorem c_B_stepsBefore_1 {τ : Nat × Nat} {a : Nat → Nat} {i : Nat → Int32} {r : Nat → Nat → Int32} {L : Nat → Int64} {wr : pW} (k : Nat) (hk : k < 40) : pC m_B_stepsBefore τ [.ref (a 4), .int (nI k)] (wX a i r L ++ wr) (fun rr w2 => rr = some (.int (r 10 k)) ∧ w2 = wX a i r L ++ wr) := by
  refine pC.of rfl (Nat.le_of_ble_eq_true rfl) ?_
  show pG m_B_stepsBefore τ _ 0 0 0 [(0, _), (1, _)] [] _
  refine g_iload_n (pc := 0) d_B_stepsBefore_0 rfl ?_
  refine g_iconst (pc := 1) (v := -1) d_B_stepsBefore_1 (by decide) ?_
  refine g_icmp_ne (pc := 2) (tgt := 9) d_B_stepsBefore_2 (by decide) (fun h2 => ?_) (fun h => absurd h (nI_m1 (by omega)))
  refine g_aload_n (pc := 9) d_B_stepsBefore_9 rfl ?_
  refine gx_B_stepsUpTo (pc := 10) d_B_stepsBefore_10 lf_B_28 ?_
  refine g_iload_n (pc := 13) d_B_stepsBefore_13 rfl ?_
  refine glx_B_stepsUpTo (pc := 14) d_B_stepsBefore_14 (vp_in_nI hk (by decide)) rfl ?_
  refine g_iret (pc := 15) d_B_stepsBefore_15 rfl (Nat.le_refl _) (Nat.le_refl _) ?_
  exact ⟨by rw [nI_clamp (by omega)], rfl⟩
set_option maxRecDepth 100000 in
set_option maxHeartbeats 4000000 in
theorem c_B_setOf_0 {τ : Nat × Nat} {w : pW}  : pC m_B_setOf τ [.int (-1)] w (fun rr w2 => rr = some (.long (lN 0)) ∧ w2 = w) := by
  refine pC.of rfl (Nat.le_of_ble_eq_true rfl) ?_
  show pG m_B_setOf τ _ 0 0 0 [(0, _)] [] _
  refine g_iload_n (pc := 0) d_B_setOf_0 rfl ?_
  refine g_iconst (pc := 1) (v := -1) d_B_setOf_1 (by decide) ?_
  refine g_icmp_ne (pc := 2) (tgt := 9) d_B_setOf_2 (by decide) (fun h => absurd rfl h) (fun h2 => ?_)
  refine g_lconst (pc := 5) (v := lN 0) d_B_setOf_5 (by decide) ?_
  refine g_goto (pc := 6) (tgt := 12) d_B_setOf_6 (by decide) ?_
  refine g_lret (pc := 12) d_B_setOf_12 rfl (Nat.le_refl _) (Nat.le_refl _) ?_
  exact ⟨rfl, rfl⟩
set_option maxRecDepth 100000 in
set_option maxHeartbeats 4000000 in
theorem c_B_setOf_1 {τ : Nat × Nat} {w : pW} (k : Nat) (hk : k < 40) : pC m_B_setOf τ [.int (nI k)] w (fun rr w2 => rr = some (.long (lN (2 ^ k))) ∧ w2 = w) := by
  refine pC.of rfl (Nat.le_of_ble_eq_true rfl) ?_
  show pG m_B_setOf τ _ 0 0 0 [(0, _)] [] _
  refine g_iload_n (pc := 0) d_B_setOf_0 rfl ?_
  refine g_iconst (pc := 1) (v := -1) d_B_setOf_1 (by decide) ?_
  refine g_icmp_ne (pc := 2) (tgt := 9) d_B_setOf_2 (by decide) (fun h2 => ?_) (fun h => absurd h (nI_m1 (by omega)))
  refine g_lconst (pc := 9) (v := lN 1) d_B_setOf_9 (by decide) ?_
  refine g_iload_n (pc := 10) d_B_setOf_10 rfl ?_
  refine g_lshl (pc := 11) d_B_setOf_11 ?_
  refine g_lret (pc := 12) d_B_setOf_12 rfl (Nat.le_refl _) (Nat.le_refl _) ?_
  exact ⟨by rw [lb_1 k (by omega)], rfl⟩
theorem XB_add {Th : List Thm} {i i2 : Nat → Int32} {r r2 : Nat → Nat → Int32} {L L2 : Nat → Int64} {rl x y h c : Nat} {X Y : Int32} (hb : XB Th i r L) (hf : Th.length ≠ 40) (hr : rl < 14) (hX : nbx rl = 2 → X = nI x ∧ x < Th.length) (hY : nby rl = 2 → Y = nI y ∧ y < Th.length) (e4 : i2 4 = nI (Th.length + 1)) (e6 : r2 6 = upd (r 6) Th.length (nI c)) (e7 : r2 7 = upd (r 7) Th.length (nI rl)) (e8 : r2 8 = upd (r 8) Th.length X) (e9 : r2 9 = upd (r 9) Th.length Y) (eL : L2 = vp_updL L Th.length (lN h)) : XB (Th ++ [(rl, x, y, h, c)]) i2 r2 L2 := by
  obtain ⟨b1, b2, b3⟩ := hb
  refine ⟨by rw [e4]; simp, by simp; omega, fun k rl' x' y' h' c' hk => ?_⟩
  by_cases q : k < Th.length
  · rw [List.getElem?_append_left q] at hk
    obtain ⟨d1, d2, d3, d4, d5⟩ := b3 k rl' x' y' h' c' hk
    rw [e6, e7, e8, e9, eL, pk_un (by omega), pk_un (by omega), pk_un (by omega), pk_un (by omega), pk_uLn (by omega)]
    exact ⟨d1, d2, d3, d4, d5⟩
  · rw [List.getElem?_append_right (by omega)] at hk
    have hz : k - Th.length < 1 := (List.getElem?_eq_some_iff.mp hk).1
    have hk2 : k = Th.length := by omega
    subst hk2
    simp at hk
    obtain ⟨rfl, rfl, rfl, rfl, rfl⟩ := hk
    rw [e6, e7, e8, e9, eL, pk_us, pk_us, pk_us, pk_us, pk_uLs]
    exact ⟨⟨rfl, hr⟩, hX, hY, rfl, rfl⟩
/-- only the theorems have changed -/
def BKp (i : Nat → Int32) (r : Nat → Nat → Int32) (i2 : Nat → Int32) (r2 : Nat → Nat → Int32) : Prop := (∀ j, j ≠ 4 → i2 j = i j) ∧ ∀ j, j < 6 → r2 j = r j
set_option maxRecDepth 100000 in
set_option maxHeartbeats 4000000 in
theorem c_B_add {τ : Nat × Nat} {a : Nat → Nat} {i : Nat → Int32} {r : Nat → Nat → Int32} {L : Nat → Int64} {wr : pW} (Th : List Thm) (rl x y h c : Nat) (X Y : Int32) (hb : XB Th i r L) (hf : Th.length ≠ 40) (hr : rl < 14) (hX : nbx rl = 2 → X = nI x ∧ x < Th.length) (hY : nby rl = 2 → Y = nI y ∧ y < Th.length) : pC m_B_add τ [.ref (a 4), .int (nI rl), .int X, .int Y, .long (lN h), .int (nI c)] (wX a i r L ++ wr) ((fun rr w2 => ∃ i2 r2 L2, rr = some (.int (nI Th.length)) ∧ w2 = wX a i2 r2 L2 ++ wr ∧ XB (Th ++ [(rl, x, y, h, c)]) i2 r2 L2 ∧ BKp i r i2 r2)) := by
  refine pC.of rfl (Nat.le_of_ble_eq_true rfl) ?_
  show pG m_B_add τ _ 0 0 0 [(0, _), (1, _), (2, _), (3, _), (4, _), (6, _)] [] _
  have hc := hb.1
  have h40 := hb.2.1
  refine g_aload_n (pc := 0) d_B_add_0 rfl ?_
  refine gx_B_assumed (pc := 1) d_B_add_1 lf_B_9 ?_
  refine g_aload_n (pc := 4) d_B_add_4 rfl ?_
  refine gx_B_count (pc := 5) d_B_add_5 lf_B_31 ?_
  rw [hc]
  refine g_lload (pc := 8) d_B_add_8 rfl ?_
  refine gsx_B_assumed (pc := 10) d_B_add_10 (vp_in_nI (by omega) (by decide)) ?_
  refine g_aload_n (pc := 11) d_B_add_11 rfl ?_
  refine gx_B_conclusions (pc := 12) d_B_add_12 lf_B_15 ?_
  refine g_aload_n (pc := 15) d_B_add_15 rfl ?_
  refine gx_B_count (pc := 16) d_B_add_16 lf_B_31 ?_
  rw [hc]
  refine g_iload (pc := 19) d_B_add_19 rfl ?_
  refine gsx_B_conclusions (pc := 21) d_B_add_21 (vp_in_nI (by omega) (by decide)) ?_
  refine g_aload_n (pc := 22) d_B_add_22 rfl ?_
  refine gx_B_rules (pc := 23) d_B_add_23 lf_B_19 ?_
  refine g_aload_n (pc := 26) d_B_add_26 rfl ?_
  refine gx_B_count (pc := 27) d_B_add_27 lf_B_31 ?_
  rw [hc]
  refine g_iload_n (pc := 30) d_B_add_30 rfl ?_
  refine gsx_B_rules (pc := 31) d_B_add_31 (vp_in_nI (by omega) (by decide)) ?_
  refine g_aload_n (pc := 32) d_B_add_32 rfl ?_
  refine gx_B_namedByX (pc := 33) d_B_add_33 lf_B_22 ?_
  refine g_aload_n (pc := 36) d_B_add_36 rfl ?_
  refine gx_B_count (pc := 37) d_B_add_37 lf_B_31 ?_
  rw [hc]
  refine g_iload_n (pc := 40) d_B_add_40 rfl ?_
  refine gsx_B_namedByX (pc := 41) d_B_add_41 (vp_in_nI (by omega) (by decide)) ?_
  refine g_aload_n (pc := 42) d_B_add_42 rfl ?_
  refine gx_B_namedByY (pc := 43) d_B_add_43 lf_B_25 ?_
  refine g_aload_n (pc := 46) d_B_add_46 rfl ?_
  refine gx_B_count (pc := 47) d_B_add_47 lf_B_31 ?_
  rw [hc]
  refine g_iload_n (pc := 50) d_B_add_50 rfl ?_
  refine gsx_B_namedByY (pc := 51) d_B_add_51 (vp_in_nI (by omega) (by decide)) ?_
  refine g_aload_n (pc := 52) d_B_add_52 rfl ?_
  refine g_dup (pc := 53) d_B_add_53 rfl ?_
  refine gx_B_count (pc := 54) d_B_add_54 lf_B_31 ?_
  rw [hc]
  refine g_iconst (pc := 57) (v := nI 1) d_B_add_57 (by decide) ?_
  refine g_nadd (pc := 58) d_B_add_58 ?_
  refine gx_B_count_p (pc := 59) d_B_add_59 lf_B_31 ?_
  refine g_aload_n (pc := 62) d_B_add_62 rfl ?_
  refine gx_B_count (pc := 63) d_B_add_63 lf_B_31 ?_
  rw [pk_us]
  refine g_iconst (pc := 66) (v := nI 1) d_B_add_66 (by decide) ?_
  refine g_nsub (pc := 67) d_B_add_67 (by omega) ?_
  refine g_iret (pc := 68) d_B_add_68 rfl (Nat.le_refl _) (Nat.le_refl _) ?_
  refine ⟨_, _, _, rfl, rfl, XB_add hb hf hr hX hY (by rw [pk_us]) ?_ ?_ ?_ ?_ ?_, fun j hj => pk_un hj, fun j hj => ?_⟩
  · rw [up_n (by decide), up_n (by decide), up_n (by decide), up_s, nI_clamp (by omega)]
  · rw [up_n (by decide), up_n (by decide), up_s, up_n (by decide), nI_clamp (by omega)]
  · rw [up_n (by decide), up_s, up_n (by decide), up_n (by decide), nI_clamp (by omega)]
  · rw [up_s, up_n (by decide), up_n (by decide), up_n (by decide), nI_clamp (by omega)]
  · rw [nI_clamp (by omega)]
  · rw [up_n (by omega), up_n (by omega), up_n (by omega), up_n (by omega)]
