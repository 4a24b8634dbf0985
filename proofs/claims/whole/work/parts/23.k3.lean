/-! ProofKernel: the rules, helpers. By wip/whole/m_k3.py -/
set_option maxRecDepth 100000 in
set_option maxHeartbeats 4000000 in
theorem c_K_isAs_0 {τ : Nat × Nat} {a : Nat → Nat} {i : Nat → Int32} {r : Nat → Nat → Int32} {L : Nat → Int64} {wr : pW} (x : Nat) (y : Int32) (A : List Nat) (hA : PA (r 2) (30 * x) A) : pC m_K_isAsTheRuleSays τ [.ref (a 0), .int (nI 0), .int (nI x), .int y] (wX a i r L ++ wr) (fun rr w2 => rr = some (.int (bI (decide (tyR A = 0)))) ∧ w2 = wX a i r L ++ wr) := by
  refine pC.of rfl (Nat.le_of_ble_eq_true rfl) ?_
  show pG m_K_isAsTheRuleSays τ _ 0 0 0 [(0, _), (1, _), (2, _), (3, _)] [] _
  refine g_aload_n (pc := 0) d_K_isAsTheRuleSays_0 rfl ?_
  refine g_getsX (pc := 1) d_K_isAsTheRuleSays_1 lf_K_107 ?_
  refine g_iload_n (pc := 4) d_K_isAsTheRuleSays_4 rfl ?_
  refine g_saldX (pc := 5) (v := nI 1) d_K_isAsTheRuleSays_5 (vp_in_nI (by decide) (by decide)) (by decide) ?_
  refine g_iload_n (pc := 6) d_K_isAsTheRuleSays_6 rfl ?_
  refine g_callV (M' := m_K_startOf) (pc := 7) (q := 0) d_K_isAsTheRuleSays_7 lm_K_182 (c_K_startOf_1 x) v_K_startOf rfl rfl rfl (by decide) rfl (Nat.le_of_ble_eq_true rfl) ?_
  rintro _ _ ⟨rfl, rfl⟩
  show pG m_K_isAsTheRuleSays τ _ 0 0 10 _ (.int _ :: _) _
  refine g_istore (pc := 10) [(4, _), (0, _), (1, _), (2, _), (3, _)] d_K_isAsTheRuleSays_10 (by decide) rfl ?_
  refine g_aload_n (pc := 12) d_K_isAsTheRuleSays_12 rfl ?_
  refine g_getsY (pc := 13) d_K_isAsTheRuleSays_13 lf_K_114 ?_
  refine g_iload_n (pc := 16) d_K_isAsTheRuleSays_16 rfl ?_
  refine g_saldY (pc := 17) (v := nI 0) d_K_isAsTheRuleSays_17 (vp_in_nI (by decide) (by decide)) (by decide) ?_
  refine g_iload_n (pc := 18) d_K_isAsTheRuleSays_18 rfl ?_
  refine g_callV (M' := m_K_startOf) (pc := 19) (q := 0) d_K_isAsTheRuleSays_19 lm_K_182 (c_K_startOf_0 y) v_K_startOf rfl rfl rfl (by decide) rfl (Nat.le_of_ble_eq_true rfl) ?_
  rintro _ _ ⟨rfl, rfl⟩
  show pG m_K_isAsTheRuleSays τ _ 0 0 22 _ (.int _ :: _) _
  refine g_istore (pc := 22) [(5, _), (4, _), (0, _), (1, _), (2, _), (3, _)] d_K_isAsTheRuleSays_22 (by decide) rfl ?_
  refine g_iload_n (pc := 24) d_K_isAsTheRuleSays_24 rfl ?_
  refine g_tableIn (pc := 25) (tgt := 96) d_K_isAsTheRuleSays_25 (by decide) (by decide) rfl (by decide) ?_
  refine g_aload_n (pc := 96) d_K_isAsTheRuleSays_96 rfl ?_
  refine g_iload (pc := 97) d_K_isAsTheRuleSays_97 rfl ?_
  refine g_callV (M' := m_K_typeAt) (pc := 99) (q := 0) d_K_isAsTheRuleSays_99 lm_K_72 (c_K_typeAt (30 * x) A hA) v_K_typeAt rfl rfl rfl (by decide) rfl (Nat.le_of_ble_eq_true rfl) ?_
  rintro _ _ ⟨rfl, rfl⟩
  show pG m_K_isAsTheRuleSays τ _ 0 0 102 _ (.int _ :: _) _
  have tA := tyR_lt A
  refine g_nif_ne (pc := 102) (tgt := 109) d_K_isAsTheRuleSays_102 (by decide) (by omega) (fun h102 => ?_) (fun h102 => ?_)
  · refine g_iconst (pc := 109) (v := nI 0) d_K_isAsTheRuleSays_109 (by decide) ?_
    refine g_zret (pc := 110) d_K_isAsTheRuleSays_110 rfl (by decide) (Nat.le_refl _) (Nat.le_refl _) ?_
    first | exact ⟨congrArg (fun v => some (Value.int v)) (bI_1 (decide_eq_true h102)), rfl⟩ | exact ⟨congrArg (fun v => some (Value.int v)) (bI_0 (decide_eq_false h102)), rfl⟩
  · refine g_iconst (pc := 105) (v := nI 1) d_K_isAsTheRuleSays_105 (by decide) ?_
    refine g_goto (pc := 106) (tgt := 110) d_K_isAsTheRuleSays_106 (by decide) ?_
    refine g_zret (pc := 110) d_K_isAsTheRuleSays_110 rfl (by decide) (Nat.le_refl _) (Nat.le_refl _) ?_
    first | exact ⟨congrArg (fun v => some (Value.int v)) (bI_1 (decide_eq_true h102)), rfl⟩ | exact ⟨congrArg (fun v => some (Value.int v)) (bI_0 (decide_eq_false h102)), rfl⟩
set_option maxRecDepth 100000 in
set_option maxHeartbeats 4000000 in
theorem c_K_isAs_1 {τ : Nat × Nat} {a : Nat → Nat} {i : Nat → Int32} {r : Nat → Nat → Int32} {L : Nat → Int64} {wr : pW} (x : Nat) (y : Int32) (A : List Nat) (hA : PA (r 2) (30 * x) A) : pC m_K_isAsTheRuleSays τ [.ref (a 0), .int (nI 1), .int (nI x), .int y] (wX a i r L ++ wr) (fun rr w2 => rr = some (.int (bI (decide (tyR A = 0)))) ∧ w2 = wX a i r L ++ wr) := by
  refine pC.of rfl (Nat.le_of_ble_eq_true rfl) ?_
  show pG m_K_isAsTheRuleSays τ _ 0 0 0 [(0, _), (1, _), (2, _), (3, _)] [] _
  refine g_aload_n (pc := 0) d_K_isAsTheRuleSays_0 rfl ?_
  refine g_getsX (pc := 1) d_K_isAsTheRuleSays_1 lf_K_107 ?_
  refine g_iload_n (pc := 4) d_K_isAsTheRuleSays_4 rfl ?_
  refine g_saldX (pc := 5) (v := nI 1) d_K_isAsTheRuleSays_5 (vp_in_nI (by decide) (by decide)) (by decide) ?_
  refine g_iload_n (pc := 6) d_K_isAsTheRuleSays_6 rfl ?_
  refine g_callV (M' := m_K_startOf) (pc := 7) (q := 0) d_K_isAsTheRuleSays_7 lm_K_182 (c_K_startOf_1 x) v_K_startOf rfl rfl rfl (by decide) rfl (Nat.le_of_ble_eq_true rfl) ?_
  rintro _ _ ⟨rfl, rfl⟩
  show pG m_K_isAsTheRuleSays τ _ 0 0 10 _ (.int _ :: _) _
  refine g_istore (pc := 10) [(4, _), (0, _), (1, _), (2, _), (3, _)] d_K_isAsTheRuleSays_10 (by decide) rfl ?_
  refine g_aload_n (pc := 12) d_K_isAsTheRuleSays_12 rfl ?_
  refine g_getsY (pc := 13) d_K_isAsTheRuleSays_13 lf_K_114 ?_
  refine g_iload_n (pc := 16) d_K_isAsTheRuleSays_16 rfl ?_
  refine g_saldY (pc := 17) (v := nI 0) d_K_isAsTheRuleSays_17 (vp_in_nI (by decide) (by decide)) (by decide) ?_
  refine g_iload_n (pc := 18) d_K_isAsTheRuleSays_18 rfl ?_
  refine g_callV (M' := m_K_startOf) (pc := 19) (q := 0) d_K_isAsTheRuleSays_19 lm_K_182 (c_K_startOf_0 y) v_K_startOf rfl rfl rfl (by decide) rfl (Nat.le_of_ble_eq_true rfl) ?_
  rintro _ _ ⟨rfl, rfl⟩
  show pG m_K_isAsTheRuleSays τ _ 0 0 22 _ (.int _ :: _) _
  refine g_istore (pc := 22) [(5, _), (4, _), (0, _), (1, _), (2, _), (3, _)] d_K_isAsTheRuleSays_22 (by decide) rfl ?_
  refine g_iload_n (pc := 24) d_K_isAsTheRuleSays_24 rfl ?_
  refine g_tableIn (pc := 25) (tgt := 96) d_K_isAsTheRuleSays_25 (by decide) (by decide) rfl (by decide) ?_
  refine g_aload_n (pc := 96) d_K_isAsTheRuleSays_96 rfl ?_
  refine g_iload (pc := 97) d_K_isAsTheRuleSays_97 rfl ?_
  refine g_callV (M' := m_K_typeAt) (pc := 99) (q := 0) d_K_isAsTheRuleSays_99 lm_K_72 (c_K_typeAt (30 * x) A hA) v_K_typeAt rfl rfl rfl (by decide) rfl (Nat.le_of_ble_eq_true rfl) ?_
  rintro _ _ ⟨rfl, rfl⟩
  show pG m_K_isAsTheRuleSays τ _ 0 0 102 _ (.int _ :: _) _
  have tA := tyR_lt A
  refine g_nif_ne (pc := 102) (tgt := 109) d_K_isAsTheRuleSays_102 (by decide) (by omega) (fun h102 => ?_) (fun h102 => ?_)
  · refine g_iconst (pc := 109) (v := nI 0) d_K_isAsTheRuleSays_109 (by decide) ?_
    refine g_zret (pc := 110) d_K_isAsTheRuleSays_110 rfl (by decide) (Nat.le_refl _) (Nat.le_refl _) ?_
    first | exact ⟨congrArg (fun v => some (Value.int v)) (bI_1 (decide_eq_true h102)), rfl⟩ | exact ⟨congrArg (fun v => some (Value.int v)) (bI_0 (decide_eq_false h102)), rfl⟩
  · refine g_iconst (pc := 105) (v := nI 1) d_K_isAsTheRuleSays_105 (by decide) ?_
    refine g_goto (pc := 106) (tgt := 110) d_K_isAsTheRuleSays_106 (by decide) ?_
    refine g_zret (pc := 110) d_K_isAsTheRuleSays_110 rfl (by decide) (Nat.le_refl _) (Nat.le_refl _) ?_
    first | exact ⟨congrArg (fun v => some (Value.int v)) (bI_1 (decide_eq_true h102)), rfl⟩ | exact ⟨congrArg (fun v => some (Value.int v)) (bI_0 (decide_eq_false h102)), rfl⟩
set_option maxRecDepth 100000 in
set_option maxHeartbeats 4000000 in
theorem c_K_isAs_2 {τ : Nat × Nat} {a : Nat → Nat} {i : Nat → Int32} {r : Nat → Nat → Int32} {L : Nat → Int64} {wr : pW} (x cx : Nat) (hx4 : x < 40) (hxc : r 6 x = nI cx) (y : Nat) (A : List Nat) (hA : PA (r 2) (30 * cx) A) (B : List Nat) (hB : PA (r 2) (30 * y) B) : pC m_K_isAsTheRuleSays τ [.ref (a 0), .int (nI 2), .int (nI x), .int (nI y)] (wX a i r L ++ wr) (fun rr w2 => rr = some (.int (bI (decide (tyR B = 0)))) ∧ w2 = wX a i r L ++ wr) := by
  refine pC.of rfl (Nat.le_of_ble_eq_true rfl) ?_
  show pG m_K_isAsTheRuleSays τ _ 0 0 0 [(0, _), (1, _), (2, _), (3, _)] [] _
  refine g_aload_n (pc := 0) d_K_isAsTheRuleSays_0 rfl ?_
  refine g_getsX (pc := 1) d_K_isAsTheRuleSays_1 lf_K_107 ?_
  refine g_iload_n (pc := 4) d_K_isAsTheRuleSays_4 rfl ?_
  refine g_saldX (pc := 5) (v := nI 2) d_K_isAsTheRuleSays_5 (vp_in_nI (by decide) (by decide)) (by decide) ?_
  refine g_iload_n (pc := 6) d_K_isAsTheRuleSays_6 rfl ?_
  refine g_callV (M' := m_K_startOf) (pc := 7) (q := 0) d_K_isAsTheRuleSays_7 lm_K_182 (c_K_startOf_2 x cx hx4 hxc) v_K_startOf rfl rfl rfl (by decide) rfl (Nat.le_of_ble_eq_true rfl) ?_
  rintro _ _ ⟨rfl, rfl⟩
  show pG m_K_isAsTheRuleSays τ _ 0 0 10 _ (.int _ :: _) _
  refine g_istore (pc := 10) [(4, _), (0, _), (1, _), (2, _), (3, _)] d_K_isAsTheRuleSays_10 (by decide) rfl ?_
  refine g_aload_n (pc := 12) d_K_isAsTheRuleSays_12 rfl ?_
  refine g_getsY (pc := 13) d_K_isAsTheRuleSays_13 lf_K_114 ?_
  refine g_iload_n (pc := 16) d_K_isAsTheRuleSays_16 rfl ?_
  refine g_saldY (pc := 17) (v := nI 1) d_K_isAsTheRuleSays_17 (vp_in_nI (by decide) (by decide)) (by decide) ?_
  refine g_iload_n (pc := 18) d_K_isAsTheRuleSays_18 rfl ?_
  refine g_callV (M' := m_K_startOf) (pc := 19) (q := 0) d_K_isAsTheRuleSays_19 lm_K_182 (c_K_startOf_1 y) v_K_startOf rfl rfl rfl (by decide) rfl (Nat.le_of_ble_eq_true rfl) ?_
  rintro _ _ ⟨rfl, rfl⟩
  show pG m_K_isAsTheRuleSays τ _ 0 0 22 _ (.int _ :: _) _
  refine g_istore (pc := 22) [(5, _), (4, _), (0, _), (1, _), (2, _), (3, _)] d_K_isAsTheRuleSays_22 (by decide) rfl ?_
  refine g_iload_n (pc := 24) d_K_isAsTheRuleSays_24 rfl ?_
  refine g_tableIn (pc := 25) (tgt := 111) d_K_isAsTheRuleSays_25 (by decide) (by decide) rfl (by decide) ?_
  refine g_aload_n (pc := 111) d_K_isAsTheRuleSays_111 rfl ?_
  refine g_iload (pc := 112) d_K_isAsTheRuleSays_112 rfl ?_
  refine g_callV (M' := m_K_typeAt) (pc := 114) (q := 0) d_K_isAsTheRuleSays_114 lm_K_72 (c_K_typeAt (30 * y) B hB) v_K_typeAt rfl rfl rfl (by decide) rfl (Nat.le_of_ble_eq_true rfl) ?_
  rintro _ _ ⟨rfl, rfl⟩
  show pG m_K_isAsTheRuleSays τ _ 0 0 117 _ (.int _ :: _) _
  have tB := tyR_lt B
  refine g_nif_ne (pc := 117) (tgt := 124) d_K_isAsTheRuleSays_117 (by decide) (by omega) (fun h117 => ?_) (fun h117 => ?_)
  · refine g_iconst (pc := 124) (v := nI 0) d_K_isAsTheRuleSays_124 (by decide) ?_
    refine g_zret (pc := 125) d_K_isAsTheRuleSays_125 rfl (by decide) (Nat.le_refl _) (Nat.le_refl _) ?_
    first | exact ⟨congrArg (fun v => some (Value.int v)) (bI_1 (decide_eq_true h117)), rfl⟩ | exact ⟨congrArg (fun v => some (Value.int v)) (bI_0 (decide_eq_false h117)), rfl⟩
  · refine g_iconst (pc := 120) (v := nI 1) d_K_isAsTheRuleSays_120 (by decide) ?_
    refine g_goto (pc := 121) (tgt := 125) d_K_isAsTheRuleSays_121 (by decide) ?_
    refine g_zret (pc := 125) d_K_isAsTheRuleSays_125 rfl (by decide) (Nat.le_refl _) (Nat.le_refl _) ?_
    first | exact ⟨congrArg (fun v => some (Value.int v)) (bI_1 (decide_eq_true h117)), rfl⟩ | exact ⟨congrArg (fun v => some (Value.int v)) (bI_0 (decide_eq_false h117)), rfl⟩
set_option maxRecDepth 100000 in
set_option maxHeartbeats 4000000 in
theorem c_K_isAs_3 {τ : Nat × Nat} {a : Nat → Nat} {i : Nat → Int32} {r : Nat → Nat → Int32} {L : Nat → Int64} {wr : pW} (x cx : Nat) (hx4 : x < 40) (hxc : r 6 x = nI cx) (y cy : Nat) (hy4 : y < 40) (hyc : r 6 y = nI cy) (A : List Nat) (hA : PA (r 2) (30 * cx) A) (B : List Nat) (hB : PA (r 2) (30 * cy) B) : pC m_K_isAsTheRuleSays τ [.ref (a 0), .int (nI 3), .int (nI x), .int (nI y)] (wX a i r L ++ wr) (fun rr w2 => rr = some (.int (bI (decide (tgR A = 6 ∧ p1 A = B)))) ∧ w2 = wX a i r L ++ wr) := by
  refine pC.of rfl (Nat.le_of_ble_eq_true rfl) ?_
  show pG m_K_isAsTheRuleSays τ _ 0 0 0 [(0, _), (1, _), (2, _), (3, _)] [] _
  refine g_aload_n (pc := 0) d_K_isAsTheRuleSays_0 rfl ?_
  refine g_getsX (pc := 1) d_K_isAsTheRuleSays_1 lf_K_107 ?_
  refine g_iload_n (pc := 4) d_K_isAsTheRuleSays_4 rfl ?_
  refine g_saldX (pc := 5) (v := nI 2) d_K_isAsTheRuleSays_5 (vp_in_nI (by decide) (by decide)) (by decide) ?_
  refine g_iload_n (pc := 6) d_K_isAsTheRuleSays_6 rfl ?_
  refine g_callV (M' := m_K_startOf) (pc := 7) (q := 0) d_K_isAsTheRuleSays_7 lm_K_182 (c_K_startOf_2 x cx hx4 hxc) v_K_startOf rfl rfl rfl (by decide) rfl (Nat.le_of_ble_eq_true rfl) ?_
  rintro _ _ ⟨rfl, rfl⟩
  show pG m_K_isAsTheRuleSays τ _ 0 0 10 _ (.int _ :: _) _
  refine g_istore (pc := 10) [(4, _), (0, _), (1, _), (2, _), (3, _)] d_K_isAsTheRuleSays_10 (by decide) rfl ?_
  refine g_aload_n (pc := 12) d_K_isAsTheRuleSays_12 rfl ?_
  refine g_getsY (pc := 13) d_K_isAsTheRuleSays_13 lf_K_114 ?_
  refine g_iload_n (pc := 16) d_K_isAsTheRuleSays_16 rfl ?_
  refine g_saldY (pc := 17) (v := nI 2) d_K_isAsTheRuleSays_17 (vp_in_nI (by decide) (by decide)) (by decide) ?_
  refine g_iload_n (pc := 18) d_K_isAsTheRuleSays_18 rfl ?_
  refine g_callV (M' := m_K_startOf) (pc := 19) (q := 0) d_K_isAsTheRuleSays_19 lm_K_182 (c_K_startOf_2 y cy hy4 hyc) v_K_startOf rfl rfl rfl (by decide) rfl (Nat.le_of_ble_eq_true rfl) ?_
  rintro _ _ ⟨rfl, rfl⟩
  show pG m_K_isAsTheRuleSays τ _ 0 0 22 _ (.int _ :: _) _
  refine g_istore (pc := 22) [(5, _), (4, _), (0, _), (1, _), (2, _), (3, _)] d_K_isAsTheRuleSays_22 (by decide) rfl ?_
  refine g_iload_n (pc := 24) d_K_isAsTheRuleSays_24 rfl ?_
  refine g_tableIn (pc := 25) (tgt := 126) d_K_isAsTheRuleSays_25 (by decide) (by decide) rfl (by decide) ?_
  refine g_aload_n (pc := 126) d_K_isAsTheRuleSays_126 rfl ?_
  refine g_bipush (pc := 127) (v := nI 6) d_K_isAsTheRuleSays_127 (by decide) ?_
  refine g_iload (pc := 129) d_K_isAsTheRuleSays_129 rfl ?_
  refine g_callV (M' := m_K_isA) (pc := 131) (q := 0) d_K_isAsTheRuleSays_131 lm_K_83 (c_K_isA 6 (30 * cx) A (by decide) hA) v_K_isA rfl rfl rfl (by decide) rfl (Nat.le_of_ble_eq_true rfl) ?_
  rintro _ _ ⟨rfl, rfl⟩
  show pG m_K_isAsTheRuleSays τ _ 0 0 134 _ (.int _ :: _) _
  refine g_ifb_eq (pc := 134) (tgt := 162) d_K_isAsTheRuleSays_134 (by decide) (fun h134 => ?_) (fun h134 => ?_)
  · refine g_iconst (pc := 162) (v := nI 0) d_K_isAsTheRuleSays_162 (by decide) ?_
    refine g_zret (pc := 163) d_K_isAsTheRuleSays_163 rfl (by decide) (Nat.le_refl _) (Nat.le_refl _) ?_
    first | exact ⟨congrArg (fun v => some (Value.int v)) (bI_1 (decide_eq_true ⟨of_decide_eq_true h134, by rw [hpA1]; exact of_decide_eq_true h155⟩)), rfl⟩ | exact ⟨congrArg (fun v => some (Value.int v)) (bI_0 (decide_eq_false (fun q => of_decide_eq_false h134 q.1))), rfl⟩ | exact ⟨congrArg (fun v => some (Value.int v)) (bI_0 (decide_eq_false (fun q => of_decide_eq_false h155 (by rw [← hpA1]; exact q.2)))), rfl⟩
  · obtain ⟨X, Y, hAe, hX, hY, hpA1, hpA2⟩ := hA.two (kPt_2 (show 5 ≤ tgR _ by rw [of_decide_eq_true h134]; decide))
    refine g_aload_n (pc := 137) d_K_isAsTheRuleSays_137 rfl ?_
    refine gx_K_shelf (pc := 138) d_K_isAsTheRuleSays_138 lf_K_19 ?_
    refine g_aload_n (pc := 141) d_K_isAsTheRuleSays_141 rfl ?_
    refine gx_K_shelf (pc := 142) d_K_isAsTheRuleSays_142 lf_K_19 ?_
    refine g_iload (pc := 145) d_K_isAsTheRuleSays_145 rfl ?_
    refine g_callV (M' := m_S_firstPart) (pc := 147) (q := 2) d_K_isAsTheRuleSays_147 lm_K_185 (c_S_firstPart _) v_S_firstPart rfl rfl rfl (by decide) rfl (Nat.le_of_ble_eq_true rfl) ?_
    rintro _ _ ⟨rfl, rfl⟩
    show pG m_K_isAsTheRuleSays τ _ 0 0 150 _ (.int _ :: _) _
    refine g_iload (pc := 150) d_K_isAsTheRuleSays_150 rfl ?_
    refine g_callV (M' := m_S_same) (pc := 152) (q := 2) d_K_isAsTheRuleSays_152 lm_K_188 (c_S_same _ _ X B hX.1 hX.2.1 hX.2.2.1 hB.1 hB.2.1 hB.2.2.1) v_S_same rfl rfl rfl (by decide) rfl (Nat.le_of_ble_eq_true rfl) ?_
    rintro _ _ ⟨rfl, rfl⟩
    show pG m_K_isAsTheRuleSays τ _ 0 0 155 _ (.int _ :: _) _
    refine g_ifb_eq (pc := 155) (tgt := 162) d_K_isAsTheRuleSays_155 (by decide) (fun h155 => ?_) (fun h155 => ?_)
    · refine g_iconst (pc := 162) (v := nI 0) d_K_isAsTheRuleSays_162 (by decide) ?_
      refine g_zret (pc := 163) d_K_isAsTheRuleSays_163 rfl (by decide) (Nat.le_refl _) (Nat.le_refl _) ?_
      first | exact ⟨congrArg (fun v => some (Value.int v)) (bI_1 (decide_eq_true ⟨of_decide_eq_true h134, by rw [hpA1]; exact of_decide_eq_true h155⟩)), rfl⟩ | exact ⟨congrArg (fun v => some (Value.int v)) (bI_0 (decide_eq_false (fun q => of_decide_eq_false h134 q.1))), rfl⟩ | exact ⟨congrArg (fun v => some (Value.int v)) (bI_0 (decide_eq_false (fun q => of_decide_eq_false h155 (by rw [← hpA1]; exact q.2)))), rfl⟩
    · refine g_iconst (pc := 158) (v := nI 1) d_K_isAsTheRuleSays_158 (by decide) ?_
      refine g_goto (pc := 159) (tgt := 163) d_K_isAsTheRuleSays_159 (by decide) ?_
      refine g_zret (pc := 163) d_K_isAsTheRuleSays_163 rfl (by decide) (Nat.le_refl _) (Nat.le_refl _) ?_
      first | exact ⟨congrArg (fun v => some (Value.int v)) (bI_1 (decide_eq_true ⟨of_decide_eq_true h134, by rw [hpA1]; exact of_decide_eq_true h155⟩)), rfl⟩ | exact ⟨congrArg (fun v => some (Value.int v)) (bI_0 (decide_eq_false (fun q => of_decide_eq_false h134 q.1))), rfl⟩ | exact ⟨congrArg (fun v => some (Value.int v)) (bI_0 (decide_eq_false (fun q => of_decide_eq_false h155 (by rw [← hpA1]; exact q.2)))), rfl⟩
set_option maxRecDepth 100000 in
set_option maxHeartbeats 4000000 in
theorem c_K_isAs_4 {τ : Nat × Nat} {a : Nat → Nat} {i : Nat → Int32} {r : Nat → Nat → Int32} {L : Nat → Int64} {wr : pW} (x cx : Nat) (hx4 : x < 40) (hxc : r 6 x = nI cx) (y : Nat) (A : List Nat) (hA : PA (r 2) (30 * cx) A) (B : List Nat) (hB : PA (r 2) (30 * y) B) : pC m_K_isAsTheRuleSays τ [.ref (a 0), .int (nI 4), .int (nI x), .int (nI y)] (wX a i r L ++ wr) (fun rr w2 => rr = some (.int (bI (decide (tgR B = 0)))) ∧ w2 = wX a i r L ++ wr) := by
  refine pC.of rfl (Nat.le_of_ble_eq_true rfl) ?_
  show pG m_K_isAsTheRuleSays τ _ 0 0 0 [(0, _), (1, _), (2, _), (3, _)] [] _
  refine g_aload_n (pc := 0) d_K_isAsTheRuleSays_0 rfl ?_
  refine g_getsX (pc := 1) d_K_isAsTheRuleSays_1 lf_K_107 ?_
  refine g_iload_n (pc := 4) d_K_isAsTheRuleSays_4 rfl ?_
  refine g_saldX (pc := 5) (v := nI 2) d_K_isAsTheRuleSays_5 (vp_in_nI (by decide) (by decide)) (by decide) ?_
  refine g_iload_n (pc := 6) d_K_isAsTheRuleSays_6 rfl ?_
  refine g_callV (M' := m_K_startOf) (pc := 7) (q := 0) d_K_isAsTheRuleSays_7 lm_K_182 (c_K_startOf_2 x cx hx4 hxc) v_K_startOf rfl rfl rfl (by decide) rfl (Nat.le_of_ble_eq_true rfl) ?_
  rintro _ _ ⟨rfl, rfl⟩
  show pG m_K_isAsTheRuleSays τ _ 0 0 10 _ (.int _ :: _) _
  refine g_istore (pc := 10) [(4, _), (0, _), (1, _), (2, _), (3, _)] d_K_isAsTheRuleSays_10 (by decide) rfl ?_
  refine g_aload_n (pc := 12) d_K_isAsTheRuleSays_12 rfl ?_
  refine g_getsY (pc := 13) d_K_isAsTheRuleSays_13 lf_K_114 ?_
  refine g_iload_n (pc := 16) d_K_isAsTheRuleSays_16 rfl ?_
  refine g_saldY (pc := 17) (v := nI 1) d_K_isAsTheRuleSays_17 (vp_in_nI (by decide) (by decide)) (by decide) ?_
  refine g_iload_n (pc := 18) d_K_isAsTheRuleSays_18 rfl ?_
  refine g_callV (M' := m_K_startOf) (pc := 19) (q := 0) d_K_isAsTheRuleSays_19 lm_K_182 (c_K_startOf_1 y) v_K_startOf rfl rfl rfl (by decide) rfl (Nat.le_of_ble_eq_true rfl) ?_
  rintro _ _ ⟨rfl, rfl⟩
  show pG m_K_isAsTheRuleSays τ _ 0 0 22 _ (.int _ :: _) _
  refine g_istore (pc := 22) [(5, _), (4, _), (0, _), (1, _), (2, _), (3, _)] d_K_isAsTheRuleSays_22 (by decide) rfl ?_
  refine g_iload_n (pc := 24) d_K_isAsTheRuleSays_24 rfl ?_
  refine g_tableIn (pc := 25) (tgt := 164) d_K_isAsTheRuleSays_25 (by decide) (by decide) rfl (by decide) ?_
  refine g_aload_n (pc := 164) d_K_isAsTheRuleSays_164 rfl ?_
  refine g_iconst (pc := 165) (v := nI 0) d_K_isAsTheRuleSays_165 (by decide) ?_
  refine g_iload (pc := 166) d_K_isAsTheRuleSays_166 rfl ?_
  refine g_callV (M' := m_K_isA) (pc := 168) (q := 0) d_K_isAsTheRuleSays_168 lm_K_83 (c_K_isA 0 (30 * y) B (by decide) hB) v_K_isA rfl rfl rfl (by decide) rfl (Nat.le_of_ble_eq_true rfl) ?_
  rintro _ _ ⟨rfl, rfl⟩
  show pG m_K_isAsTheRuleSays τ _ 0 0 171 _ (.int _ :: _) _
  refine g_zret (pc := 171) d_K_isAsTheRuleSays_171 rfl (narrow_bI _) (Nat.le_refl _) (Nat.le_refl _) ?_
  exact ⟨rfl, rfl⟩
set_option maxRecDepth 100000 in
set_option maxHeartbeats 4000000 in
theorem c_K_isAs_5 {τ : Nat × Nat} {a : Nat → Nat} {i : Nat → Int32} {r : Nat → Nat → Int32} {L : Nat → Int64} {wr : pW} (x cx : Nat) (hx4 : x < 40) (hxc : r 6 x = nI cx) (y : Nat) (A : List Nat) (hA : PA (r 2) (30 * cx) A) (B : List Nat) (hB : PA (r 2) (30 * y) B) : pC m_K_isAsTheRuleSays τ [.ref (a 0), .int (nI 5), .int (nI x), .int (nI y)] (wX a i r L ++ wr) (fun rr w2 => rr = some (.int (bI (decide (tgR A = 4 ∧ inR A = tyR B)))) ∧ w2 = wX a i r L ++ wr) := by
  refine pC.of rfl (Nat.le_of_ble_eq_true rfl) ?_
  show pG m_K_isAsTheRuleSays τ _ 0 0 0 [(0, _), (1, _), (2, _), (3, _)] [] _
  refine g_aload_n (pc := 0) d_K_isAsTheRuleSays_0 rfl ?_
  refine g_getsX (pc := 1) d_K_isAsTheRuleSays_1 lf_K_107 ?_
  refine g_iload_n (pc := 4) d_K_isAsTheRuleSays_4 rfl ?_
  refine g_saldX (pc := 5) (v := nI 2) d_K_isAsTheRuleSays_5 (vp_in_nI (by decide) (by decide)) (by decide) ?_
  refine g_iload_n (pc := 6) d_K_isAsTheRuleSays_6 rfl ?_
  refine g_callV (M' := m_K_startOf) (pc := 7) (q := 0) d_K_isAsTheRuleSays_7 lm_K_182 (c_K_startOf_2 x cx hx4 hxc) v_K_startOf rfl rfl rfl (by decide) rfl (Nat.le_of_ble_eq_true rfl) ?_
  rintro _ _ ⟨rfl, rfl⟩
  show pG m_K_isAsTheRuleSays τ _ 0 0 10 _ (.int _ :: _) _
  refine g_istore (pc := 10) [(4, _), (0, _), (1, _), (2, _), (3, _)] d_K_isAsTheRuleSays_10 (by decide) rfl ?_
  refine g_aload_n (pc := 12) d_K_isAsTheRuleSays_12 rfl ?_
  refine g_getsY (pc := 13) d_K_isAsTheRuleSays_13 lf_K_114 ?_
  refine g_iload_n (pc := 16) d_K_isAsTheRuleSays_16 rfl ?_
  refine g_saldY (pc := 17) (v := nI 1) d_K_isAsTheRuleSays_17 (vp_in_nI (by decide) (by decide)) (by decide) ?_
  refine g_iload_n (pc := 18) d_K_isAsTheRuleSays_18 rfl ?_
  refine g_callV (M' := m_K_startOf) (pc := 19) (q := 0) d_K_isAsTheRuleSays_19 lm_K_182 (c_K_startOf_1 y) v_K_startOf rfl rfl rfl (by decide) rfl (Nat.le_of_ble_eq_true rfl) ?_
  rintro _ _ ⟨rfl, rfl⟩
  show pG m_K_isAsTheRuleSays τ _ 0 0 22 _ (.int _ :: _) _
  refine g_istore (pc := 22) [(5, _), (4, _), (0, _), (1, _), (2, _), (3, _)] d_K_isAsTheRuleSays_22 (by decide) rfl ?_
  refine g_iload_n (pc := 24) d_K_isAsTheRuleSays_24 rfl ?_
  refine g_tableIn (pc := 25) (tgt := 172) d_K_isAsTheRuleSays_25 (by decide) (by decide) rfl (by decide) ?_
  refine g_aload_n (pc := 172) d_K_isAsTheRuleSays_172 rfl ?_
  refine g_iconst (pc := 173) (v := nI 4) d_K_isAsTheRuleSays_173 (by decide) ?_
  refine g_iload (pc := 174) d_K_isAsTheRuleSays_174 rfl ?_
  refine g_callV (M' := m_K_isA) (pc := 176) (q := 0) d_K_isAsTheRuleSays_176 lm_K_83 (c_K_isA 4 (30 * cx) A (by decide) hA) v_K_isA rfl rfl rfl (by decide) rfl (Nat.le_of_ble_eq_true rfl) ?_
  rintro _ _ ⟨rfl, rfl⟩
  show pG m_K_isAsTheRuleSays τ _ 0 0 179 _ (.int _ :: _) _
  refine g_ifb_eq (pc := 179) (tgt := 207) d_K_isAsTheRuleSays_179 (by decide) (fun h179 => ?_) (fun h179 => ?_)
  · refine g_iconst (pc := 207) (v := nI 0) d_K_isAsTheRuleSays_207 (by decide) ?_
    refine g_zret (pc := 208) d_K_isAsTheRuleSays_208 rfl (by decide) (Nat.le_refl _) (Nat.le_refl _) ?_
    first | exact ⟨congrArg (fun v => some (Value.int v)) (bI_1 (decide_eq_true ⟨of_decide_eq_true h179, h200⟩)), rfl⟩ | exact ⟨congrArg (fun v => some (Value.int v)) (bI_0 (decide_eq_false (fun q => of_decide_eq_false h179 q.1))), rfl⟩ | exact ⟨congrArg (fun v => some (Value.int v)) (bI_0 (decide_eq_false (fun q => h200 q.2))), rfl⟩
  · refine g_aload_n (pc := 182) d_K_isAsTheRuleSays_182 rfl ?_
    refine gx_K_shelf (pc := 183) d_K_isAsTheRuleSays_183 lf_K_19 ?_
    refine g_iload (pc := 186) d_K_isAsTheRuleSays_186 rfl ?_
    refine g_callV (M' := m_S_token) (pc := 188) (q := 2) d_K_isAsTheRuleSays_188 lm_K_90 (c_S_token (30 * cx) (hdt A) hA.hd.1 hA.hd.2.1) v_S_token rfl rfl rfl (by decide) rfl (Nat.le_of_ble_eq_true rfl) ?_
    rintro _ _ ⟨rfl, rfl⟩
    show pG m_K_isAsTheRuleSays τ _ 0 0 191 _ (.int _ :: _) _
    refine g_callS (M' := m_O_info) (pc := 191) d_K_isAsTheRuleSays_191 lm_K_170 (c_O_info (hdt A) hA.hd.2.2) v_O_info rfl (by decide) rfl (Nat.le_of_ble_eq_true rfl) ?_
    rintro _ _ ⟨rfl, rfl⟩
    show pG m_K_isAsTheRuleSays τ _ 0 0 194 _ (.int _ :: _) _
    refine g_aload_n (pc := 194) d_K_isAsTheRuleSays_194 rfl ?_
    refine g_iload (pc := 195) d_K_isAsTheRuleSays_195 rfl ?_
    refine g_callV (M' := m_K_typeAt) (pc := 197) (q := 0) d_K_isAsTheRuleSays_197 lm_K_72 (c_K_typeAt (30 * y) B hB) v_K_typeAt rfl rfl rfl (by decide) rfl (Nat.le_of_ble_eq_true rfl) ?_
    rintro _ _ ⟨rfl, rfl⟩
    show pG m_K_isAsTheRuleSays τ _ 0 0 200 _ (.int _ :: _) _
    have tB := tyR_lt B
    refine g_nicmp_ne (pc := 200) (tgt := 207) d_K_isAsTheRuleSays_200 (by decide) (by omega) (by omega) (fun h200 => ?_) (fun h200 => ?_)
    · refine g_iconst (pc := 207) (v := nI 0) d_K_isAsTheRuleSays_207 (by decide) ?_
      refine g_zret (pc := 208) d_K_isAsTheRuleSays_208 rfl (by decide) (Nat.le_refl _) (Nat.le_refl _) ?_
      first | exact ⟨congrArg (fun v => some (Value.int v)) (bI_1 (decide_eq_true ⟨of_decide_eq_true h179, h200⟩)), rfl⟩ | exact ⟨congrArg (fun v => some (Value.int v)) (bI_0 (decide_eq_false (fun q => of_decide_eq_false h179 q.1))), rfl⟩ | exact ⟨congrArg (fun v => some (Value.int v)) (bI_0 (decide_eq_false (fun q => h200 q.2))), rfl⟩
    · refine g_iconst (pc := 203) (v := nI 1) d_K_isAsTheRuleSays_203 (by decide) ?_
      refine g_goto (pc := 204) (tgt := 208) d_K_isAsTheRuleSays_204 (by decide) ?_
      refine g_zret (pc := 208) d_K_isAsTheRuleSays_208 rfl (by decide) (Nat.le_refl _) (Nat.le_refl _) ?_
      first | exact ⟨congrArg (fun v => some (Value.int v)) (bI_1 (decide_eq_true ⟨of_decide_eq_true h179, h200⟩)), rfl⟩ | exact ⟨congrArg (fun v => some (Value.int v)) (bI_0 (decide_eq_false (fun q => of_decide_eq_false h179 q.1))), rfl⟩ | exact ⟨congrArg (fun v => some (Value.int v)) (bI_0 (decide_eq_false (fun q => h200 q.2))), rfl⟩
set_option maxRecDepth 100000 in
set_option maxHeartbeats 4000000 in
theorem c_K_isAs_6 {τ : Nat × Nat} {a : Nat → Nat} {i : Nat → Int32} {r : Nat → Nat → Int32} {L : Nat → Int64} {wr : pW} (x : Nat) (y : Int32) (A : List Nat) (hA : PA (r 2) (30 * x) A) : pC m_K_isAsTheRuleSays τ [.ref (a 0), .int (nI 6), .int (nI x), .int y] (wX a i r L ++ wr) (fun rr w2 => rr = some (.int (bI (decide (True)))) ∧ w2 = wX a i r L ++ wr) := by
  refine pC.of rfl (Nat.le_of_ble_eq_true rfl) ?_
  show pG m_K_isAsTheRuleSays τ _ 0 0 0 [(0, _), (1, _), (2, _), (3, _)] [] _
  refine g_aload_n (pc := 0) d_K_isAsTheRuleSays_0 rfl ?_
  refine g_getsX (pc := 1) d_K_isAsTheRuleSays_1 lf_K_107 ?_
  refine g_iload_n (pc := 4) d_K_isAsTheRuleSays_4 rfl ?_
  refine g_saldX (pc := 5) (v := nI 1) d_K_isAsTheRuleSays_5 (vp_in_nI (by decide) (by decide)) (by decide) ?_
  refine g_iload_n (pc := 6) d_K_isAsTheRuleSays_6 rfl ?_
  refine g_callV (M' := m_K_startOf) (pc := 7) (q := 0) d_K_isAsTheRuleSays_7 lm_K_182 (c_K_startOf_1 x) v_K_startOf rfl rfl rfl (by decide) rfl (Nat.le_of_ble_eq_true rfl) ?_
  rintro _ _ ⟨rfl, rfl⟩
  show pG m_K_isAsTheRuleSays τ _ 0 0 10 _ (.int _ :: _) _
  refine g_istore (pc := 10) [(4, _), (0, _), (1, _), (2, _), (3, _)] d_K_isAsTheRuleSays_10 (by decide) rfl ?_
  refine g_aload_n (pc := 12) d_K_isAsTheRuleSays_12 rfl ?_
  refine g_getsY (pc := 13) d_K_isAsTheRuleSays_13 lf_K_114 ?_
  refine g_iload_n (pc := 16) d_K_isAsTheRuleSays_16 rfl ?_
  refine g_saldY (pc := 17) (v := nI 0) d_K_isAsTheRuleSays_17 (vp_in_nI (by decide) (by decide)) (by decide) ?_
  refine g_iload_n (pc := 18) d_K_isAsTheRuleSays_18 rfl ?_
  refine g_callV (M' := m_K_startOf) (pc := 19) (q := 0) d_K_isAsTheRuleSays_19 lm_K_182 (c_K_startOf_0 y) v_K_startOf rfl rfl rfl (by decide) rfl (Nat.le_of_ble_eq_true rfl) ?_
  rintro _ _ ⟨rfl, rfl⟩
  show pG m_K_isAsTheRuleSays τ _ 0 0 22 _ (.int _ :: _) _
  refine g_istore (pc := 22) [(5, _), (4, _), (0, _), (1, _), (2, _), (3, _)] d_K_isAsTheRuleSays_22 (by decide) rfl ?_
  refine g_iload_n (pc := 24) d_K_isAsTheRuleSays_24 rfl ?_
  refine g_tableIn (pc := 25) (tgt := 476) d_K_isAsTheRuleSays_25 (by decide) (by decide) rfl (by decide) ?_
  refine g_iconst (pc := 476) (v := nI 1) d_K_isAsTheRuleSays_476 (by decide) ?_
  refine g_zret (pc := 477) d_K_isAsTheRuleSays_477 rfl (by decide) (Nat.le_refl _) (Nat.le_refl _) ?_
  exact ⟨congrArg (fun v => some (Value.int v)) (bI_1 (decide_eq_true trivial)), rfl⟩
set_option maxRecDepth 100000 in
set_option maxHeartbeats 4000000 in
theorem c_K_isAs_7 {τ : Nat × Nat} {a : Nat → Nat} {i : Nat → Int32} {r : Nat → Nat → Int32} {L : Nat → Int64} {wr : pW} (x cx : Nat) (hx4 : x < 40) (hxc : r 6 x = nI cx) (y : Int32) (A : List Nat) (hA : PA (r 2) (30 * cx) A) : pC m_K_isAsTheRuleSays τ [.ref (a 0), .int (nI 7), .int (nI x), .int y] (wX a i r L ++ wr) (fun rr w2 => rr = some (.int (bI (decide (tgR A = 7)))) ∧ w2 = wX a i r L ++ wr) := by
  refine pC.of rfl (Nat.le_of_ble_eq_true rfl) ?_
  show pG m_K_isAsTheRuleSays τ _ 0 0 0 [(0, _), (1, _), (2, _), (3, _)] [] _
  refine g_aload_n (pc := 0) d_K_isAsTheRuleSays_0 rfl ?_
  refine g_getsX (pc := 1) d_K_isAsTheRuleSays_1 lf_K_107 ?_
  refine g_iload_n (pc := 4) d_K_isAsTheRuleSays_4 rfl ?_
  refine g_saldX (pc := 5) (v := nI 2) d_K_isAsTheRuleSays_5 (vp_in_nI (by decide) (by decide)) (by decide) ?_
  refine g_iload_n (pc := 6) d_K_isAsTheRuleSays_6 rfl ?_
  refine g_callV (M' := m_K_startOf) (pc := 7) (q := 0) d_K_isAsTheRuleSays_7 lm_K_182 (c_K_startOf_2 x cx hx4 hxc) v_K_startOf rfl rfl rfl (by decide) rfl (Nat.le_of_ble_eq_true rfl) ?_
  rintro _ _ ⟨rfl, rfl⟩
  show pG m_K_isAsTheRuleSays τ _ 0 0 10 _ (.int _ :: _) _
  refine g_istore (pc := 10) [(4, _), (0, _), (1, _), (2, _), (3, _)] d_K_isAsTheRuleSays_10 (by decide) rfl ?_
  refine g_aload_n (pc := 12) d_K_isAsTheRuleSays_12 rfl ?_
  refine g_getsY (pc := 13) d_K_isAsTheRuleSays_13 lf_K_114 ?_
  refine g_iload_n (pc := 16) d_K_isAsTheRuleSays_16 rfl ?_
  refine g_saldY (pc := 17) (v := nI 0) d_K_isAsTheRuleSays_17 (vp_in_nI (by decide) (by decide)) (by decide) ?_
  refine g_iload_n (pc := 18) d_K_isAsTheRuleSays_18 rfl ?_
  refine g_callV (M' := m_K_startOf) (pc := 19) (q := 0) d_K_isAsTheRuleSays_19 lm_K_182 (c_K_startOf_0 y) v_K_startOf rfl rfl rfl (by decide) rfl (Nat.le_of_ble_eq_true rfl) ?_
  rintro _ _ ⟨rfl, rfl⟩
  show pG m_K_isAsTheRuleSays τ _ 0 0 22 _ (.int _ :: _) _
  refine g_istore (pc := 22) [(5, _), (4, _), (0, _), (1, _), (2, _), (3, _)] d_K_isAsTheRuleSays_22 (by decide) rfl ?_
  refine g_iload_n (pc := 24) d_K_isAsTheRuleSays_24 rfl ?_
  refine g_tableIn (pc := 25) (tgt := 209) d_K_isAsTheRuleSays_25 (by decide) (by decide) rfl (by decide) ?_
  refine g_aload_n (pc := 209) d_K_isAsTheRuleSays_209 rfl ?_
  refine g_bipush (pc := 210) (v := nI 7) d_K_isAsTheRuleSays_210 (by decide) ?_
  refine g_iload (pc := 212) d_K_isAsTheRuleSays_212 rfl ?_
  refine g_callV (M' := m_K_isA) (pc := 214) (q := 0) d_K_isAsTheRuleSays_214 lm_K_83 (c_K_isA 7 (30 * cx) A (by decide) hA) v_K_isA rfl rfl rfl (by decide) rfl (Nat.le_of_ble_eq_true rfl) ?_
  rintro _ _ ⟨rfl, rfl⟩
  show pG m_K_isAsTheRuleSays τ _ 0 0 217 _ (.int _ :: _) _
  refine g_zret (pc := 217) d_K_isAsTheRuleSays_217 rfl (narrow_bI _) (Nat.le_refl _) (Nat.le_refl _) ?_
  exact ⟨rfl, rfl⟩
set_option maxRecDepth 100000 in
set_option maxHeartbeats 4000000 in
theorem c_K_isAs_8 {τ : Nat × Nat} {a : Nat → Nat} {i : Nat → Int32} {r : Nat → Nat → Int32} {L : Nat → Int64} {wr : pW} (x cx : Nat) (hx4 : x < 40) (hxc : r 6 x = nI cx) (y cy : Nat) (hy4 : y < 40) (hyc : r 6 y = nI cy) (A : List Nat) (hA : PA (r 2) (30 * cx) A) (B : List Nat) (hB : PA (r 2) (30 * cy) B) : pC m_K_isAsTheRuleSays τ [.ref (a 0), .int (nI 8), .int (nI x), .int (nI y)] (wX a i r L ++ wr) (fun rr w2 => rr = some (.int (bI (decide (tgR A = 7 ∧ tgR B = 7 ∧ p2 A = p1 B)))) ∧ w2 = wX a i r L ++ wr) := by
  refine pC.of rfl (Nat.le_of_ble_eq_true rfl) ?_
  show pG m_K_isAsTheRuleSays τ _ 0 0 0 [(0, _), (1, _), (2, _), (3, _)] [] _
  refine g_aload_n (pc := 0) d_K_isAsTheRuleSays_0 rfl ?_
  refine g_getsX (pc := 1) d_K_isAsTheRuleSays_1 lf_K_107 ?_
  refine g_iload_n (pc := 4) d_K_isAsTheRuleSays_4 rfl ?_
  refine g_saldX (pc := 5) (v := nI 2) d_K_isAsTheRuleSays_5 (vp_in_nI (by decide) (by decide)) (by decide) ?_
  refine g_iload_n (pc := 6) d_K_isAsTheRuleSays_6 rfl ?_
  refine g_callV (M' := m_K_startOf) (pc := 7) (q := 0) d_K_isAsTheRuleSays_7 lm_K_182 (c_K_startOf_2 x cx hx4 hxc) v_K_startOf rfl rfl rfl (by decide) rfl (Nat.le_of_ble_eq_true rfl) ?_
  rintro _ _ ⟨rfl, rfl⟩
  show pG m_K_isAsTheRuleSays τ _ 0 0 10 _ (.int _ :: _) _
  refine g_istore (pc := 10) [(4, _), (0, _), (1, _), (2, _), (3, _)] d_K_isAsTheRuleSays_10 (by decide) rfl ?_
  refine g_aload_n (pc := 12) d_K_isAsTheRuleSays_12 rfl ?_
  refine g_getsY (pc := 13) d_K_isAsTheRuleSays_13 lf_K_114 ?_
  refine g_iload_n (pc := 16) d_K_isAsTheRuleSays_16 rfl ?_
  refine g_saldY (pc := 17) (v := nI 2) d_K_isAsTheRuleSays_17 (vp_in_nI (by decide) (by decide)) (by decide) ?_
  refine g_iload_n (pc := 18) d_K_isAsTheRuleSays_18 rfl ?_
  refine g_callV (M' := m_K_startOf) (pc := 19) (q := 0) d_K_isAsTheRuleSays_19 lm_K_182 (c_K_startOf_2 y cy hy4 hyc) v_K_startOf rfl rfl rfl (by decide) rfl (Nat.le_of_ble_eq_true rfl) ?_
  rintro _ _ ⟨rfl, rfl⟩
  show pG m_K_isAsTheRuleSays τ _ 0 0 22 _ (.int _ :: _) _
  refine g_istore (pc := 22) [(5, _), (4, _), (0, _), (1, _), (2, _), (3, _)] d_K_isAsTheRuleSays_22 (by decide) rfl ?_
  refine g_iload_n (pc := 24) d_K_isAsTheRuleSays_24 rfl ?_
  refine g_tableIn (pc := 25) (tgt := 218) d_K_isAsTheRuleSays_25 (by decide) (by decide) rfl (by decide) ?_
  refine g_aload_n (pc := 218) d_K_isAsTheRuleSays_218 rfl ?_
  refine g_bipush (pc := 219) (v := nI 7) d_K_isAsTheRuleSays_219 (by decide) ?_
  refine g_iload (pc := 221) d_K_isAsTheRuleSays_221 rfl ?_
  refine g_callV (M' := m_K_isA) (pc := 223) (q := 0) d_K_isAsTheRuleSays_223 lm_K_83 (c_K_isA 7 (30 * cx) A (by decide) hA) v_K_isA rfl rfl rfl (by decide) rfl (Nat.le_of_ble_eq_true rfl) ?_
  rintro _ _ ⟨rfl, rfl⟩
  show pG m_K_isAsTheRuleSays τ _ 0 0 226 _ (.int _ :: _) _
  refine g_ifb_eq (pc := 226) (tgt := 272) d_K_isAsTheRuleSays_226 (by decide) (fun h226 => ?_) (fun h226 => ?_)
  · refine g_iconst (pc := 272) (v := nI 0) d_K_isAsTheRuleSays_272 (by decide) ?_
    refine g_zret (pc := 273) d_K_isAsTheRuleSays_273 rfl (by decide) (Nat.le_refl _) (Nat.le_refl _) ?_
    first | exact ⟨congrArg (fun v => some (Value.int v)) (bI_1 (decide_eq_true ⟨of_decide_eq_true h226, of_decide_eq_true h237, by rw [hpA2, hpB1]; exact of_decide_eq_true h265⟩)), rfl⟩ | exact ⟨congrArg (fun v => some (Value.int v)) (bI_0 (decide_eq_false (fun q => of_decide_eq_false h226 q.1))), rfl⟩ | exact ⟨congrArg (fun v => some (Value.int v)) (bI_0 (decide_eq_false (fun q => of_decide_eq_false h237 q.2.1))), rfl⟩ | exact ⟨congrArg (fun v => some (Value.int v)) (bI_0 (decide_eq_false (fun q => of_decide_eq_false h265 (by rw [← hpA2, ← hpB1]; exact q.2.2)))), rfl⟩
  · refine g_aload_n (pc := 229) d_K_isAsTheRuleSays_229 rfl ?_
    refine g_bipush (pc := 230) (v := nI 7) d_K_isAsTheRuleSays_230 (by decide) ?_
    refine g_iload (pc := 232) d_K_isAsTheRuleSays_232 rfl ?_
    refine g_callV (M' := m_K_isA) (pc := 234) (q := 0) d_K_isAsTheRuleSays_234 lm_K_83 (c_K_isA 7 (30 * cy) B (by decide) hB) v_K_isA rfl rfl rfl (by decide) rfl (Nat.le_of_ble_eq_true rfl) ?_
    rintro _ _ ⟨rfl, rfl⟩
    show pG m_K_isAsTheRuleSays τ _ 0 0 237 _ (.int _ :: _) _
    refine g_ifb_eq (pc := 237) (tgt := 272) d_K_isAsTheRuleSays_237 (by decide) (fun h237 => ?_) (fun h237 => ?_)
    · refine g_iconst (pc := 272) (v := nI 0) d_K_isAsTheRuleSays_272 (by decide) ?_
      refine g_zret (pc := 273) d_K_isAsTheRuleSays_273 rfl (by decide) (Nat.le_refl _) (Nat.le_refl _) ?_
      first | exact ⟨congrArg (fun v => some (Value.int v)) (bI_1 (decide_eq_true ⟨of_decide_eq_true h226, of_decide_eq_true h237, by rw [hpA2, hpB1]; exact of_decide_eq_true h265⟩)), rfl⟩ | exact ⟨congrArg (fun v => some (Value.int v)) (bI_0 (decide_eq_false (fun q => of_decide_eq_false h226 q.1))), rfl⟩ | exact ⟨congrArg (fun v => some (Value.int v)) (bI_0 (decide_eq_false (fun q => of_decide_eq_false h237 q.2.1))), rfl⟩ | exact ⟨congrArg (fun v => some (Value.int v)) (bI_0 (decide_eq_false (fun q => of_decide_eq_false h265 (by rw [← hpA2, ← hpB1]; exact q.2.2)))), rfl⟩
    · obtain ⟨X, Y, hAe, hX, hY, hpA1, hpA2⟩ := hA.two (kPt_2 (show 5 ≤ tgR _ by rw [of_decide_eq_true h226]; decide))
      obtain ⟨Z, U, hBe, hZ, hU, hpB1, hpB2⟩ := hB.two (kPt_2 (show 5 ≤ tgR _ by rw [of_decide_eq_true h237]; decide))
      refine g_aload_n (pc := 240) d_K_isAsTheRuleSays_240 rfl ?_
      refine gx_K_shelf (pc := 241) d_K_isAsTheRuleSays_241 lf_K_19 ?_
      refine g_aload_n (pc := 244) d_K_isAsTheRuleSays_244 rfl ?_
      refine gx_K_shelf (pc := 245) d_K_isAsTheRuleSays_245 lf_K_19 ?_
      refine g_iload (pc := 248) d_K_isAsTheRuleSays_248 rfl ?_
      refine g_callV (M' := m_S_secondPart) (pc := 250) (q := 2) d_K_isAsTheRuleSays_250 lm_K_191 (c_S_secondPart _ X hX.1 hX.2.1 hX.2.2.1) v_S_secondPart rfl rfl rfl (by decide) rfl (Nat.le_of_ble_eq_true rfl) ?_
      rintro _ _ ⟨rfl, rfl⟩
      show pG m_K_isAsTheRuleSays τ _ 0 0 253 _ (.int _ :: _) _
      refine g_aload_n (pc := 253) d_K_isAsTheRuleSays_253 rfl ?_
      refine gx_K_shelf (pc := 254) d_K_isAsTheRuleSays_254 lf_K_19 ?_
      refine g_iload (pc := 257) d_K_isAsTheRuleSays_257 rfl ?_
      refine g_callV (M' := m_S_firstPart) (pc := 259) (q := 2) d_K_isAsTheRuleSays_259 lm_K_185 (c_S_firstPart _) v_S_firstPart rfl rfl rfl (by decide) rfl (Nat.le_of_ble_eq_true rfl) ?_
      rintro _ _ ⟨rfl, rfl⟩
      show pG m_K_isAsTheRuleSays τ _ 0 0 262 _ (.int _ :: _) _
      refine g_callV (M' := m_S_same) (pc := 262) (q := 2) d_K_isAsTheRuleSays_262 lm_K_188 (c_S_same _ _ Y Z hY.1 hY.2.1 hY.2.2.1 hZ.1 hZ.2.1 hZ.2.2.1) v_S_same rfl rfl rfl (by decide) rfl (Nat.le_of_ble_eq_true rfl) ?_
      rintro _ _ ⟨rfl, rfl⟩
      show pG m_K_isAsTheRuleSays τ _ 0 0 265 _ (.int _ :: _) _
      refine g_ifb_eq (pc := 265) (tgt := 272) d_K_isAsTheRuleSays_265 (by decide) (fun h265 => ?_) (fun h265 => ?_)
      · refine g_iconst (pc := 272) (v := nI 0) d_K_isAsTheRuleSays_272 (by decide) ?_
        refine g_zret (pc := 273) d_K_isAsTheRuleSays_273 rfl (by decide) (Nat.le_refl _) (Nat.le_refl _) ?_
        first | exact ⟨congrArg (fun v => some (Value.int v)) (bI_1 (decide_eq_true ⟨of_decide_eq_true h226, of_decide_eq_true h237, by rw [hpA2, hpB1]; exact of_decide_eq_true h265⟩)), rfl⟩ | exact ⟨congrArg (fun v => some (Value.int v)) (bI_0 (decide_eq_false (fun q => of_decide_eq_false h226 q.1))), rfl⟩ | exact ⟨congrArg (fun v => some (Value.int v)) (bI_0 (decide_eq_false (fun q => of_decide_eq_false h237 q.2.1))), rfl⟩ | exact ⟨congrArg (fun v => some (Value.int v)) (bI_0 (decide_eq_false (fun q => of_decide_eq_false h265 (by rw [← hpA2, ← hpB1]; exact q.2.2)))), rfl⟩
      · refine g_iconst (pc := 268) (v := nI 1) d_K_isAsTheRuleSays_268 (by decide) ?_
        refine g_goto (pc := 269) (tgt := 273) d_K_isAsTheRuleSays_269 (by decide) ?_
        refine g_zret (pc := 273) d_K_isAsTheRuleSays_273 rfl (by decide) (Nat.le_refl _) (Nat.le_refl _) ?_
        first | exact ⟨congrArg (fun v => some (Value.int v)) (bI_1 (decide_eq_true ⟨of_decide_eq_true h226, of_decide_eq_true h237, by rw [hpA2, hpB1]; exact of_decide_eq_true h265⟩)), rfl⟩ | exact ⟨congrArg (fun v => some (Value.int v)) (bI_0 (decide_eq_false (fun q => of_decide_eq_false h226 q.1))), rfl⟩ | exact ⟨congrArg (fun v => some (Value.int v)) (bI_0 (decide_eq_false (fun q => of_decide_eq_false h237 q.2.1))), rfl⟩ | exact ⟨congrArg (fun v => some (Value.int v)) (bI_0 (decide_eq_false (fun q => of_decide_eq_false h265 (by rw [← hpA2, ← hpB1]; exact q.2.2)))), rfl⟩
set_option maxRecDepth 100000 in
set_option maxHeartbeats 4000000 in
theorem c_K_isAs_9 {τ : Nat × Nat} {a : Nat → Nat} {i : Nat → Int32} {r : Nat → Nat → Int32} {L : Nat → Int64} {wr : pW} (x cx : Nat) (hx4 : x < 40) (hxc : r 6 x = nI cx) (y cy : Nat) (hy4 : y < 40) (hyc : r 6 y = nI cy) (A : List Nat) (hA : PA (r 2) (30 * cx) A) (B : List Nat) (hB : PA (r 2) (30 * cy) B) (Ty : List (Nat × Nat)) (hT : XT Ty i r) (hFt : tyR (p1 A) < 3 + Ty.length) : pC m_K_isAsTheRuleSays τ [.ref (a 0), .int (nI 9), .int (nI x), .int (nI y)] (wX a i r L ++ wr) (fun rr w2 => rr = some (.int (bI (decide (tgR A = 7 ∧ tgR B = 7 ∧ tks Ty (tyR (p1 A)) (tyR (p1 B)) = true)))) ∧ w2 = wX a i r L ++ wr) := by
  refine pC.of rfl (Nat.le_of_ble_eq_true rfl) ?_
  show pG m_K_isAsTheRuleSays τ _ 0 0 0 [(0, _), (1, _), (2, _), (3, _)] [] _
  refine g_aload_n (pc := 0) d_K_isAsTheRuleSays_0 rfl ?_
  refine g_getsX (pc := 1) d_K_isAsTheRuleSays_1 lf_K_107 ?_
  refine g_iload_n (pc := 4) d_K_isAsTheRuleSays_4 rfl ?_
  refine g_saldX (pc := 5) (v := nI 2) d_K_isAsTheRuleSays_5 (vp_in_nI (by decide) (by decide)) (by decide) ?_
  refine g_iload_n (pc := 6) d_K_isAsTheRuleSays_6 rfl ?_
  refine g_callV (M' := m_K_startOf) (pc := 7) (q := 0) d_K_isAsTheRuleSays_7 lm_K_182 (c_K_startOf_2 x cx hx4 hxc) v_K_startOf rfl rfl rfl (by decide) rfl (Nat.le_of_ble_eq_true rfl) ?_
  rintro _ _ ⟨rfl, rfl⟩
  show pG m_K_isAsTheRuleSays τ _ 0 0 10 _ (.int _ :: _) _
  refine g_istore (pc := 10) [(4, _), (0, _), (1, _), (2, _), (3, _)] d_K_isAsTheRuleSays_10 (by decide) rfl ?_
  refine g_aload_n (pc := 12) d_K_isAsTheRuleSays_12 rfl ?_
  refine g_getsY (pc := 13) d_K_isAsTheRuleSays_13 lf_K_114 ?_
  refine g_iload_n (pc := 16) d_K_isAsTheRuleSays_16 rfl ?_
  refine g_saldY (pc := 17) (v := nI 2) d_K_isAsTheRuleSays_17 (vp_in_nI (by decide) (by decide)) (by decide) ?_
  refine g_iload_n (pc := 18) d_K_isAsTheRuleSays_18 rfl ?_
  refine g_callV (M' := m_K_startOf) (pc := 19) (q := 0) d_K_isAsTheRuleSays_19 lm_K_182 (c_K_startOf_2 y cy hy4 hyc) v_K_startOf rfl rfl rfl (by decide) rfl (Nat.le_of_ble_eq_true rfl) ?_
  rintro _ _ ⟨rfl, rfl⟩
  show pG m_K_isAsTheRuleSays τ _ 0 0 22 _ (.int _ :: _) _
  refine g_istore (pc := 22) [(5, _), (4, _), (0, _), (1, _), (2, _), (3, _)] d_K_isAsTheRuleSays_22 (by decide) rfl ?_
  refine g_iload_n (pc := 24) d_K_isAsTheRuleSays_24 rfl ?_
  refine g_tableIn (pc := 25) (tgt := 274) d_K_isAsTheRuleSays_25 (by decide) (by decide) rfl (by decide) ?_
  refine g_aload_n (pc := 274) d_K_isAsTheRuleSays_274 rfl ?_
  refine g_bipush (pc := 275) (v := nI 7) d_K_isAsTheRuleSays_275 (by decide) ?_
  refine g_iload (pc := 277) d_K_isAsTheRuleSays_277 rfl ?_
  refine g_callV (M' := m_K_isA) (pc := 279) (q := 0) d_K_isAsTheRuleSays_279 lm_K_83 (c_K_isA 7 (30 * cx) A (by decide) hA) v_K_isA rfl rfl rfl (by decide) rfl (Nat.le_of_ble_eq_true rfl) ?_
  rintro _ _ ⟨rfl, rfl⟩
  show pG m_K_isAsTheRuleSays τ _ 0 0 282 _ (.int _ :: _) _
  refine g_ifb_eq (pc := 282) (tgt := 336) d_K_isAsTheRuleSays_282 (by decide) (fun h282 => ?_) (fun h282 => ?_)
  · refine g_iconst (pc := 336) (v := nI 0) d_K_isAsTheRuleSays_336 (by decide) ?_
    refine g_zret (pc := 337) d_K_isAsTheRuleSays_337 rfl (by decide) (Nat.le_refl _) (Nat.le_refl _) ?_
    first | exact ⟨congrArg (fun v => some (Value.int v)) (bI_1 (decide_eq_true ⟨of_decide_eq_true h282, of_decide_eq_true h293, by rw [hpA1, hpB1]; exact h329⟩)), rfl⟩ | exact ⟨congrArg (fun v => some (Value.int v)) (bI_0 (decide_eq_false (fun q => of_decide_eq_false h282 q.1))), rfl⟩ | exact ⟨congrArg (fun v => some (Value.int v)) (bI_0 (decide_eq_false (fun q => of_decide_eq_false h293 q.2.1))), rfl⟩ | exact ⟨congrArg (fun v => some (Value.int v)) (bI_0 (decide_eq_false (fun q => by have := q.2.2; rw [hpA1, hpB1, h329] at this; cases this))), rfl⟩
  · refine g_aload_n (pc := 285) d_K_isAsTheRuleSays_285 rfl ?_
    refine g_bipush (pc := 286) (v := nI 7) d_K_isAsTheRuleSays_286 (by decide) ?_
    refine g_iload (pc := 288) d_K_isAsTheRuleSays_288 rfl ?_
    refine g_callV (M' := m_K_isA) (pc := 290) (q := 0) d_K_isAsTheRuleSays_290 lm_K_83 (c_K_isA 7 (30 * cy) B (by decide) hB) v_K_isA rfl rfl rfl (by decide) rfl (Nat.le_of_ble_eq_true rfl) ?_
    rintro _ _ ⟨rfl, rfl⟩
    show pG m_K_isAsTheRuleSays τ _ 0 0 293 _ (.int _ :: _) _
    refine g_ifb_eq (pc := 293) (tgt := 336) d_K_isAsTheRuleSays_293 (by decide) (fun h293 => ?_) (fun h293 => ?_)
    · refine g_iconst (pc := 336) (v := nI 0) d_K_isAsTheRuleSays_336 (by decide) ?_
      refine g_zret (pc := 337) d_K_isAsTheRuleSays_337 rfl (by decide) (Nat.le_refl _) (Nat.le_refl _) ?_
      first | exact ⟨congrArg (fun v => some (Value.int v)) (bI_1 (decide_eq_true ⟨of_decide_eq_true h282, of_decide_eq_true h293, by rw [hpA1, hpB1]; exact h329⟩)), rfl⟩ | exact ⟨congrArg (fun v => some (Value.int v)) (bI_0 (decide_eq_false (fun q => of_decide_eq_false h282 q.1))), rfl⟩ | exact ⟨congrArg (fun v => some (Value.int v)) (bI_0 (decide_eq_false (fun q => of_decide_eq_false h293 q.2.1))), rfl⟩ | exact ⟨congrArg (fun v => some (Value.int v)) (bI_0 (decide_eq_false (fun q => by have := q.2.2; rw [hpA1, hpB1, h329] at this; cases this))), rfl⟩
    · obtain ⟨X, Y, hAe, hX, hY, hpA1, hpA2⟩ := hA.two (kPt_2 (show 5 ≤ tgR _ by rw [of_decide_eq_true h282]; decide))
      obtain ⟨Z, U, hBe, hZ, hU, hpB1, hpB2⟩ := hB.two (kPt_2 (show 5 ≤ tgR _ by rw [of_decide_eq_true h293]; decide))
      refine g_aload_n (pc := 296) d_K_isAsTheRuleSays_296 rfl ?_
      refine gx_K_types (pc := 297) d_K_isAsTheRuleSays_297 lf_K_10 ?_
      refine g_aload_n (pc := 300) d_K_isAsTheRuleSays_300 rfl ?_
      refine g_aload_n (pc := 301) d_K_isAsTheRuleSays_301 rfl ?_
      refine gx_K_shelf (pc := 302) d_K_isAsTheRuleSays_302 lf_K_19 ?_
      refine g_iload (pc := 305) d_K_isAsTheRuleSays_305 rfl ?_
      refine g_callV (M' := m_S_firstPart) (pc := 307) (q := 2) d_K_isAsTheRuleSays_307 lm_K_185 (c_S_firstPart _) v_S_firstPart rfl rfl rfl (by decide) rfl (Nat.le_of_ble_eq_true rfl) ?_
      rintro _ _ ⟨rfl, rfl⟩
      show pG m_K_isAsTheRuleSays τ _ 0 0 310 _ (.int _ :: _) _
      refine g_callV (M' := m_K_typeAt) (pc := 310) (q := 0) d_K_isAsTheRuleSays_310 lm_K_72 (c_K_typeAt _ X hX) v_K_typeAt rfl rfl rfl (by decide) rfl (Nat.le_of_ble_eq_true rfl) ?_
      rintro _ _ ⟨rfl, rfl⟩
      show pG m_K_isAsTheRuleSays τ _ 0 0 313 _ (.int _ :: _) _
      refine g_aload_n (pc := 313) d_K_isAsTheRuleSays_313 rfl ?_
      refine g_aload_n (pc := 314) d_K_isAsTheRuleSays_314 rfl ?_
      refine gx_K_shelf (pc := 315) d_K_isAsTheRuleSays_315 lf_K_19 ?_
      refine g_iload (pc := 318) d_K_isAsTheRuleSays_318 rfl ?_
      refine g_callV (M' := m_S_firstPart) (pc := 320) (q := 2) d_K_isAsTheRuleSays_320 lm_K_185 (c_S_firstPart _) v_S_firstPart rfl rfl rfl (by decide) rfl (Nat.le_of_ble_eq_true rfl) ?_
      rintro _ _ ⟨rfl, rfl⟩
      show pG m_K_isAsTheRuleSays τ _ 0 0 323 _ (.int _ :: _) _
      refine g_callV (M' := m_K_typeAt) (pc := 323) (q := 0) d_K_isAsTheRuleSays_323 lm_K_72 (c_K_typeAt _ Z hZ) v_K_typeAt rfl rfl rfl (by decide) rfl (Nat.le_of_ble_eq_true rfl) ?_
      rintro _ _ ⟨rfl, rfl⟩
      show pG m_K_isAsTheRuleSays τ _ 0 0 326 _ (.int _ :: _) _
      refine g_callV (M' := m_T_takes) (pc := 326) (q := 1) d_K_isAsTheRuleSays_326 lm_K_75 (c_T_takes (tyR X) (tyR Z) (tyR_lt X)) v_T_takes rfl rfl rfl (by decide) rfl (Nat.le_of_ble_eq_true rfl) ?_
      rintro _ _ ⟨rfl, rfl⟩
      show pG m_K_isAsTheRuleSays τ _ 0 0 329 _ (.int _ :: _) _
      rw [tks_iff hT (by rw [← hpA1]; exact hFt) (tyR_lt Z)]
      refine g_ifb_eq (pc := 329) (tgt := 336) d_K_isAsTheRuleSays_329 (by decide) (fun h329 => ?_) (fun h329 => ?_)
      · refine g_iconst (pc := 336) (v := nI 0) d_K_isAsTheRuleSays_336 (by decide) ?_
        refine g_zret (pc := 337) d_K_isAsTheRuleSays_337 rfl (by decide) (Nat.le_refl _) (Nat.le_refl _) ?_
        first | exact ⟨congrArg (fun v => some (Value.int v)) (bI_1 (decide_eq_true ⟨of_decide_eq_true h282, of_decide_eq_true h293, by rw [hpA1, hpB1]; exact h329⟩)), rfl⟩ | exact ⟨congrArg (fun v => some (Value.int v)) (bI_0 (decide_eq_false (fun q => of_decide_eq_false h282 q.1))), rfl⟩ | exact ⟨congrArg (fun v => some (Value.int v)) (bI_0 (decide_eq_false (fun q => of_decide_eq_false h293 q.2.1))), rfl⟩ | exact ⟨congrArg (fun v => some (Value.int v)) (bI_0 (decide_eq_false (fun q => by have := q.2.2; rw [hpA1, hpB1, h329] at this; cases this))), rfl⟩
      · refine g_iconst (pc := 332) (v := nI 1) d_K_isAsTheRuleSays_332 (by decide) ?_
        refine g_goto (pc := 333) (tgt := 337) d_K_isAsTheRuleSays_333 (by decide) ?_
        refine g_zret (pc := 337) d_K_isAsTheRuleSays_337 rfl (by decide) (Nat.le_refl _) (Nat.le_refl _) ?_
        first | exact ⟨congrArg (fun v => some (Value.int v)) (bI_1 (decide_eq_true ⟨of_decide_eq_true h282, of_decide_eq_true h293, by rw [hpA1, hpB1]; exact h329⟩)), rfl⟩ | exact ⟨congrArg (fun v => some (Value.int v)) (bI_0 (decide_eq_false (fun q => of_decide_eq_false h282 q.1))), rfl⟩ | exact ⟨congrArg (fun v => some (Value.int v)) (bI_0 (decide_eq_false (fun q => of_decide_eq_false h293 q.2.1))), rfl⟩ | exact ⟨congrArg (fun v => some (Value.int v)) (bI_0 (decide_eq_false (fun q => by have := q.2.2; rw [hpA1, hpB1, h329] at this; cases this))), rfl⟩
set_option maxRecDepth 100000 in
set_option maxHeartbeats 4000000 in
theorem c_K_isAs_10 {τ : Nat × Nat} {a : Nat → Nat} {i : Nat → Int32} {r : Nat → Nat → Int32} {L : Nat → Int64} {wr : pW} (x cx : Nat) (hx4 : x < 40) (hxc : r 6 x = nI cx) (y : Nat) (A : List Nat) (hA : PA (r 2) (30 * cx) A) (B : List Nat) (hB : PA (r 2) (30 * y) B) : pC m_K_isAsTheRuleSays τ [.ref (a 0), .int (nI 10), .int (nI x), .int (nI y)] (wX a i r L ++ wr) (fun rr w2 => rr = some (.int (bI (decide (tgR A = 7 ∧ tgR B = 0)))) ∧ w2 = wX a i r L ++ wr) := by
  refine pC.of rfl (Nat.le_of_ble_eq_true rfl) ?_
  show pG m_K_isAsTheRuleSays τ _ 0 0 0 [(0, _), (1, _), (2, _), (3, _)] [] _
  refine g_aload_n (pc := 0) d_K_isAsTheRuleSays_0 rfl ?_
  refine g_getsX (pc := 1) d_K_isAsTheRuleSays_1 lf_K_107 ?_
  refine g_iload_n (pc := 4) d_K_isAsTheRuleSays_4 rfl ?_
  refine g_saldX (pc := 5) (v := nI 2) d_K_isAsTheRuleSays_5 (vp_in_nI (by decide) (by decide)) (by decide) ?_
  refine g_iload_n (pc := 6) d_K_isAsTheRuleSays_6 rfl ?_
  refine g_callV (M' := m_K_startOf) (pc := 7) (q := 0) d_K_isAsTheRuleSays_7 lm_K_182 (c_K_startOf_2 x cx hx4 hxc) v_K_startOf rfl rfl rfl (by decide) rfl (Nat.le_of_ble_eq_true rfl) ?_
  rintro _ _ ⟨rfl, rfl⟩
  show pG m_K_isAsTheRuleSays τ _ 0 0 10 _ (.int _ :: _) _
  refine g_istore (pc := 10) [(4, _), (0, _), (1, _), (2, _), (3, _)] d_K_isAsTheRuleSays_10 (by decide) rfl ?_
  refine g_aload_n (pc := 12) d_K_isAsTheRuleSays_12 rfl ?_
  refine g_getsY (pc := 13) d_K_isAsTheRuleSays_13 lf_K_114 ?_
  refine g_iload_n (pc := 16) d_K_isAsTheRuleSays_16 rfl ?_
  refine g_saldY (pc := 17) (v := nI 1) d_K_isAsTheRuleSays_17 (vp_in_nI (by decide) (by decide)) (by decide) ?_
  refine g_iload_n (pc := 18) d_K_isAsTheRuleSays_18 rfl ?_
  refine g_callV (M' := m_K_startOf) (pc := 19) (q := 0) d_K_isAsTheRuleSays_19 lm_K_182 (c_K_startOf_1 y) v_K_startOf rfl rfl rfl (by decide) rfl (Nat.le_of_ble_eq_true rfl) ?_
  rintro _ _ ⟨rfl, rfl⟩
  show pG m_K_isAsTheRuleSays τ _ 0 0 22 _ (.int _ :: _) _
  refine g_istore (pc := 22) [(5, _), (4, _), (0, _), (1, _), (2, _), (3, _)] d_K_isAsTheRuleSays_22 (by decide) rfl ?_
  refine g_iload_n (pc := 24) d_K_isAsTheRuleSays_24 rfl ?_
  refine g_tableIn (pc := 25) (tgt := 338) d_K_isAsTheRuleSays_25 (by decide) (by decide) rfl (by decide) ?_
  refine g_aload_n (pc := 338) d_K_isAsTheRuleSays_338 rfl ?_
  refine g_bipush (pc := 339) (v := nI 7) d_K_isAsTheRuleSays_339 (by decide) ?_
  refine g_iload (pc := 341) d_K_isAsTheRuleSays_341 rfl ?_
  refine g_callV (M' := m_K_isA) (pc := 343) (q := 0) d_K_isAsTheRuleSays_343 lm_K_83 (c_K_isA 7 (30 * cx) A (by decide) hA) v_K_isA rfl rfl rfl (by decide) rfl (Nat.le_of_ble_eq_true rfl) ?_
  rintro _ _ ⟨rfl, rfl⟩
  show pG m_K_isAsTheRuleSays τ _ 0 0 346 _ (.int _ :: _) _
  refine g_ifb_eq (pc := 346) (tgt := 363) d_K_isAsTheRuleSays_346 (by decide) (fun h346 => ?_) (fun h346 => ?_)
  · refine g_iconst (pc := 363) (v := nI 0) d_K_isAsTheRuleSays_363 (by decide) ?_
    refine g_zret (pc := 364) d_K_isAsTheRuleSays_364 rfl (by decide) (Nat.le_refl _) (Nat.le_refl _) ?_
    first | exact ⟨congrArg (fun v => some (Value.int v)) (bI_1 (decide_eq_true ⟨of_decide_eq_true h346, of_decide_eq_true h356⟩)), rfl⟩ | exact ⟨congrArg (fun v => some (Value.int v)) (bI_0 (decide_eq_false (fun q => of_decide_eq_false h346 q.1))), rfl⟩ | exact ⟨congrArg (fun v => some (Value.int v)) (bI_0 (decide_eq_false (fun q => of_decide_eq_false h356 q.2))), rfl⟩
  · refine g_aload_n (pc := 349) d_K_isAsTheRuleSays_349 rfl ?_
    refine g_iconst (pc := 350) (v := nI 0) d_K_isAsTheRuleSays_350 (by decide) ?_
    refine g_iload (pc := 351) d_K_isAsTheRuleSays_351 rfl ?_
    refine g_callV (M' := m_K_isA) (pc := 353) (q := 0) d_K_isAsTheRuleSays_353 lm_K_83 (c_K_isA 0 (30 * y) B (by decide) hB) v_K_isA rfl rfl rfl (by decide) rfl (Nat.le_of_ble_eq_true rfl) ?_
    rintro _ _ ⟨rfl, rfl⟩
    show pG m_K_isAsTheRuleSays τ _ 0 0 356 _ (.int _ :: _) _
    refine g_ifb_eq (pc := 356) (tgt := 363) d_K_isAsTheRuleSays_356 (by decide) (fun h356 => ?_) (fun h356 => ?_)
    · refine g_iconst (pc := 363) (v := nI 0) d_K_isAsTheRuleSays_363 (by decide) ?_
      refine g_zret (pc := 364) d_K_isAsTheRuleSays_364 rfl (by decide) (Nat.le_refl _) (Nat.le_refl _) ?_
      first | exact ⟨congrArg (fun v => some (Value.int v)) (bI_1 (decide_eq_true ⟨of_decide_eq_true h346, of_decide_eq_true h356⟩)), rfl⟩ | exact ⟨congrArg (fun v => some (Value.int v)) (bI_0 (decide_eq_false (fun q => of_decide_eq_false h346 q.1))), rfl⟩ | exact ⟨congrArg (fun v => some (Value.int v)) (bI_0 (decide_eq_false (fun q => of_decide_eq_false h356 q.2))), rfl⟩
    · refine g_iconst (pc := 359) (v := nI 1) d_K_isAsTheRuleSays_359 (by decide) ?_
      refine g_goto (pc := 360) (tgt := 364) d_K_isAsTheRuleSays_360 (by decide) ?_
      refine g_zret (pc := 364) d_K_isAsTheRuleSays_364 rfl (by decide) (Nat.le_refl _) (Nat.le_refl _) ?_
      first | exact ⟨congrArg (fun v => some (Value.int v)) (bI_1 (decide_eq_true ⟨of_decide_eq_true h346, of_decide_eq_true h356⟩)), rfl⟩ | exact ⟨congrArg (fun v => some (Value.int v)) (bI_0 (decide_eq_false (fun q => of_decide_eq_false h346 q.1))), rfl⟩ | exact ⟨congrArg (fun v => some (Value.int v)) (bI_0 (decide_eq_false (fun q => of_decide_eq_false h356 q.2))), rfl⟩
set_option maxRecDepth 100000 in
set_option maxHeartbeats 4000000 in
theorem c_K_isAs_11 {τ : Nat × Nat} {a : Nat → Nat} {i : Nat → Int32} {r : Nat → Nat → Int32} {L : Nat → Int64} {wr : pW} (x : Nat) (y : Int32) (A : List Nat) (hA : PA (r 2) (30 * x) A) : pC m_K_isAsTheRuleSays τ [.ref (a 0), .int (nI 11), .int (nI x), .int y] (wX a i r L ++ wr) (fun rr w2 => rr = some (.int (bI (decide (tgR A = 5 ∧ tgR (p1 A) = 3)))) ∧ w2 = wX a i r L ++ wr) := by
  refine pC.of rfl (Nat.le_of_ble_eq_true rfl) ?_
  show pG m_K_isAsTheRuleSays τ _ 0 0 0 [(0, _), (1, _), (2, _), (3, _)] [] _
  refine g_aload_n (pc := 0) d_K_isAsTheRuleSays_0 rfl ?_
  refine g_getsX (pc := 1) d_K_isAsTheRuleSays_1 lf_K_107 ?_
  refine g_iload_n (pc := 4) d_K_isAsTheRuleSays_4 rfl ?_
  refine g_saldX (pc := 5) (v := nI 1) d_K_isAsTheRuleSays_5 (vp_in_nI (by decide) (by decide)) (by decide) ?_
  refine g_iload_n (pc := 6) d_K_isAsTheRuleSays_6 rfl ?_
  refine g_callV (M' := m_K_startOf) (pc := 7) (q := 0) d_K_isAsTheRuleSays_7 lm_K_182 (c_K_startOf_1 x) v_K_startOf rfl rfl rfl (by decide) rfl (Nat.le_of_ble_eq_true rfl) ?_
  rintro _ _ ⟨rfl, rfl⟩
  show pG m_K_isAsTheRuleSays τ _ 0 0 10 _ (.int _ :: _) _
  refine g_istore (pc := 10) [(4, _), (0, _), (1, _), (2, _), (3, _)] d_K_isAsTheRuleSays_10 (by decide) rfl ?_
  refine g_aload_n (pc := 12) d_K_isAsTheRuleSays_12 rfl ?_
  refine g_getsY (pc := 13) d_K_isAsTheRuleSays_13 lf_K_114 ?_
  refine g_iload_n (pc := 16) d_K_isAsTheRuleSays_16 rfl ?_
  refine g_saldY (pc := 17) (v := nI 0) d_K_isAsTheRuleSays_17 (vp_in_nI (by decide) (by decide)) (by decide) ?_
  refine g_iload_n (pc := 18) d_K_isAsTheRuleSays_18 rfl ?_
  refine g_callV (M' := m_K_startOf) (pc := 19) (q := 0) d_K_isAsTheRuleSays_19 lm_K_182 (c_K_startOf_0 y) v_K_startOf rfl rfl rfl (by decide) rfl (Nat.le_of_ble_eq_true rfl) ?_
  rintro _ _ ⟨rfl, rfl⟩
  show pG m_K_isAsTheRuleSays τ _ 0 0 22 _ (.int _ :: _) _
  refine g_istore (pc := 22) [(5, _), (4, _), (0, _), (1, _), (2, _), (3, _)] d_K_isAsTheRuleSays_22 (by decide) rfl ?_
  refine g_iload_n (pc := 24) d_K_isAsTheRuleSays_24 rfl ?_
  refine g_tableIn (pc := 25) (tgt := 365) d_K_isAsTheRuleSays_25 (by decide) (by decide) rfl (by decide) ?_
  refine g_aload_n (pc := 365) d_K_isAsTheRuleSays_365 rfl ?_
  refine g_iconst (pc := 366) (v := nI 5) d_K_isAsTheRuleSays_366 (by decide) ?_
  refine g_iload (pc := 367) d_K_isAsTheRuleSays_367 rfl ?_
  refine g_callV (M' := m_K_isA) (pc := 369) (q := 0) d_K_isAsTheRuleSays_369 lm_K_83 (c_K_isA 5 (30 * x) A (by decide) hA) v_K_isA rfl rfl rfl (by decide) rfl (Nat.le_of_ble_eq_true rfl) ?_
  rintro _ _ ⟨rfl, rfl⟩
  show pG m_K_isAsTheRuleSays τ _ 0 0 372 _ (.int _ :: _) _
  refine g_ifb_eq (pc := 372) (tgt := 396) d_K_isAsTheRuleSays_372 (by decide) (fun h372 => ?_) (fun h372 => ?_)
  · refine g_iconst (pc := 396) (v := nI 0) d_K_isAsTheRuleSays_396 (by decide) ?_
    refine g_zret (pc := 397) d_K_isAsTheRuleSays_397 rfl (by decide) (Nat.le_refl _) (Nat.le_refl _) ?_
    first | exact ⟨congrArg (fun v => some (Value.int v)) (bI_1 (decide_eq_true ⟨of_decide_eq_true h372, by rw [hpA1]; exact of_decide_eq_true h389⟩)), rfl⟩ | exact ⟨congrArg (fun v => some (Value.int v)) (bI_0 (decide_eq_false (fun q => of_decide_eq_false h372 q.1))), rfl⟩ | exact ⟨congrArg (fun v => some (Value.int v)) (bI_0 (decide_eq_false (fun q => of_decide_eq_false h389 (by rw [← hpA1]; exact q.2)))), rfl⟩
  · obtain ⟨X, Y, hAe, hX, hY, hpA1, hpA2⟩ := hA.two (kPt_2 (show 5 ≤ tgR _ by rw [of_decide_eq_true h372]; decide))
    refine g_aload_n (pc := 375) d_K_isAsTheRuleSays_375 rfl ?_
    refine g_iconst (pc := 376) (v := nI 3) d_K_isAsTheRuleSays_376 (by decide) ?_
    refine g_aload_n (pc := 377) d_K_isAsTheRuleSays_377 rfl ?_
    refine gx_K_shelf (pc := 378) d_K_isAsTheRuleSays_378 lf_K_19 ?_
    refine g_iload (pc := 381) d_K_isAsTheRuleSays_381 rfl ?_
    refine g_callV (M' := m_S_firstPart) (pc := 383) (q := 2) d_K_isAsTheRuleSays_383 lm_K_185 (c_S_firstPart _) v_S_firstPart rfl rfl rfl (by decide) rfl (Nat.le_of_ble_eq_true rfl) ?_
    rintro _ _ ⟨rfl, rfl⟩
    show pG m_K_isAsTheRuleSays τ _ 0 0 386 _ (.int _ :: _) _
    refine g_callV (M' := m_K_isA) (pc := 386) (q := 0) d_K_isAsTheRuleSays_386 lm_K_83 (c_K_isA 3 _ X (by decide) hX) v_K_isA rfl rfl rfl (by decide) rfl (Nat.le_of_ble_eq_true rfl) ?_
    rintro _ _ ⟨rfl, rfl⟩
    show pG m_K_isAsTheRuleSays τ _ 0 0 389 _ (.int _ :: _) _
    refine g_ifb_eq (pc := 389) (tgt := 396) d_K_isAsTheRuleSays_389 (by decide) (fun h389 => ?_) (fun h389 => ?_)
    · refine g_iconst (pc := 396) (v := nI 0) d_K_isAsTheRuleSays_396 (by decide) ?_
      refine g_zret (pc := 397) d_K_isAsTheRuleSays_397 rfl (by decide) (Nat.le_refl _) (Nat.le_refl _) ?_
      first | exact ⟨congrArg (fun v => some (Value.int v)) (bI_1 (decide_eq_true ⟨of_decide_eq_true h372, by rw [hpA1]; exact of_decide_eq_true h389⟩)), rfl⟩ | exact ⟨congrArg (fun v => some (Value.int v)) (bI_0 (decide_eq_false (fun q => of_decide_eq_false h372 q.1))), rfl⟩ | exact ⟨congrArg (fun v => some (Value.int v)) (bI_0 (decide_eq_false (fun q => of_decide_eq_false h389 (by rw [← hpA1]; exact q.2)))), rfl⟩
    · refine g_iconst (pc := 392) (v := nI 1) d_K_isAsTheRuleSays_392 (by decide) ?_
      refine g_goto (pc := 393) (tgt := 397) d_K_isAsTheRuleSays_393 (by decide) ?_
      refine g_zret (pc := 397) d_K_isAsTheRuleSays_397 rfl (by decide) (Nat.le_refl _) (Nat.le_refl _) ?_
      first | exact ⟨congrArg (fun v => some (Value.int v)) (bI_1 (decide_eq_true ⟨of_decide_eq_true h372, by rw [hpA1]; exact of_decide_eq_true h389⟩)), rfl⟩ | exact ⟨congrArg (fun v => some (Value.int v)) (bI_0 (decide_eq_false (fun q => of_decide_eq_false h372 q.1))), rfl⟩ | exact ⟨congrArg (fun v => some (Value.int v)) (bI_0 (decide_eq_false (fun q => of_decide_eq_false h389 (by rw [← hpA1]; exact q.2)))), rfl⟩
set_option maxRecDepth 100000 in
set_option maxHeartbeats 4000000 in
theorem c_K_isAs_12 {τ : Nat × Nat} {a : Nat → Nat} {i : Nat → Int32} {r : Nat → Nat → Int32} {L : Nat → Int64} {wr : pW} (x cx : Nat) (hx4 : x < 40) (hxc : r 6 x = nI cx) (y cy : Nat) (hy4 : y < 40) (hyc : r 6 y = nI cy) (A : List Nat) (hA : PA (r 2) (30 * cx) A) (B : List Nat) (hB : PA (r 2) (30 * cy) B) : pC m_K_isAsTheRuleSays τ [.ref (a 0), .int (nI 12), .int (nI x), .int (nI y)] (wX a i r L ++ wr) (fun rr w2 => rr = some (.int (bI (decide (tgR A = 7 ∧ p1 A = B)))) ∧ w2 = wX a i r L ++ wr) := by
  refine pC.of rfl (Nat.le_of_ble_eq_true rfl) ?_
  show pG m_K_isAsTheRuleSays τ _ 0 0 0 [(0, _), (1, _), (2, _), (3, _)] [] _
  refine g_aload_n (pc := 0) d_K_isAsTheRuleSays_0 rfl ?_
  refine g_getsX (pc := 1) d_K_isAsTheRuleSays_1 lf_K_107 ?_
  refine g_iload_n (pc := 4) d_K_isAsTheRuleSays_4 rfl ?_
  refine g_saldX (pc := 5) (v := nI 2) d_K_isAsTheRuleSays_5 (vp_in_nI (by decide) (by decide)) (by decide) ?_
  refine g_iload_n (pc := 6) d_K_isAsTheRuleSays_6 rfl ?_
  refine g_callV (M' := m_K_startOf) (pc := 7) (q := 0) d_K_isAsTheRuleSays_7 lm_K_182 (c_K_startOf_2 x cx hx4 hxc) v_K_startOf rfl rfl rfl (by decide) rfl (Nat.le_of_ble_eq_true rfl) ?_
  rintro _ _ ⟨rfl, rfl⟩
  show pG m_K_isAsTheRuleSays τ _ 0 0 10 _ (.int _ :: _) _
  refine g_istore (pc := 10) [(4, _), (0, _), (1, _), (2, _), (3, _)] d_K_isAsTheRuleSays_10 (by decide) rfl ?_
  refine g_aload_n (pc := 12) d_K_isAsTheRuleSays_12 rfl ?_
  refine g_getsY (pc := 13) d_K_isAsTheRuleSays_13 lf_K_114 ?_
  refine g_iload_n (pc := 16) d_K_isAsTheRuleSays_16 rfl ?_
  refine g_saldY (pc := 17) (v := nI 2) d_K_isAsTheRuleSays_17 (vp_in_nI (by decide) (by decide)) (by decide) ?_
  refine g_iload_n (pc := 18) d_K_isAsTheRuleSays_18 rfl ?_
  refine g_callV (M' := m_K_startOf) (pc := 19) (q := 0) d_K_isAsTheRuleSays_19 lm_K_182 (c_K_startOf_2 y cy hy4 hyc) v_K_startOf rfl rfl rfl (by decide) rfl (Nat.le_of_ble_eq_true rfl) ?_
  rintro _ _ ⟨rfl, rfl⟩
  show pG m_K_isAsTheRuleSays τ _ 0 0 22 _ (.int _ :: _) _
  refine g_istore (pc := 22) [(5, _), (4, _), (0, _), (1, _), (2, _), (3, _)] d_K_isAsTheRuleSays_22 (by decide) rfl ?_
  refine g_iload_n (pc := 24) d_K_isAsTheRuleSays_24 rfl ?_
  refine g_tableIn (pc := 25) (tgt := 398) d_K_isAsTheRuleSays_25 (by decide) (by decide) rfl (by decide) ?_
  refine g_aload_n (pc := 398) d_K_isAsTheRuleSays_398 rfl ?_
  refine g_bipush (pc := 399) (v := nI 7) d_K_isAsTheRuleSays_399 (by decide) ?_
  refine g_iload (pc := 401) d_K_isAsTheRuleSays_401 rfl ?_
  refine g_callV (M' := m_K_isA) (pc := 403) (q := 0) d_K_isAsTheRuleSays_403 lm_K_83 (c_K_isA 7 (30 * cx) A (by decide) hA) v_K_isA rfl rfl rfl (by decide) rfl (Nat.le_of_ble_eq_true rfl) ?_
  rintro _ _ ⟨rfl, rfl⟩
  show pG m_K_isAsTheRuleSays τ _ 0 0 406 _ (.int _ :: _) _
  refine g_ifb_eq (pc := 406) (tgt := 434) d_K_isAsTheRuleSays_406 (by decide) (fun h406 => ?_) (fun h406 => ?_)
  · refine g_iconst (pc := 434) (v := nI 0) d_K_isAsTheRuleSays_434 (by decide) ?_
    refine g_zret (pc := 435) d_K_isAsTheRuleSays_435 rfl (by decide) (Nat.le_refl _) (Nat.le_refl _) ?_
    first | exact ⟨congrArg (fun v => some (Value.int v)) (bI_1 (decide_eq_true ⟨of_decide_eq_true h406, by rw [hpA1]; exact of_decide_eq_true h427⟩)), rfl⟩ | exact ⟨congrArg (fun v => some (Value.int v)) (bI_0 (decide_eq_false (fun q => of_decide_eq_false h406 q.1))), rfl⟩ | exact ⟨congrArg (fun v => some (Value.int v)) (bI_0 (decide_eq_false (fun q => of_decide_eq_false h427 (by rw [← hpA1]; exact q.2)))), rfl⟩
  · obtain ⟨X, Y, hAe, hX, hY, hpA1, hpA2⟩ := hA.two (kPt_2 (show 5 ≤ tgR _ by rw [of_decide_eq_true h406]; decide))
    refine g_aload_n (pc := 409) d_K_isAsTheRuleSays_409 rfl ?_
    refine gx_K_shelf (pc := 410) d_K_isAsTheRuleSays_410 lf_K_19 ?_
    refine g_aload_n (pc := 413) d_K_isAsTheRuleSays_413 rfl ?_
    refine gx_K_shelf (pc := 414) d_K_isAsTheRuleSays_414 lf_K_19 ?_
    refine g_iload (pc := 417) d_K_isAsTheRuleSays_417 rfl ?_
    refine g_callV (M' := m_S_firstPart) (pc := 419) (q := 2) d_K_isAsTheRuleSays_419 lm_K_185 (c_S_firstPart _) v_S_firstPart rfl rfl rfl (by decide) rfl (Nat.le_of_ble_eq_true rfl) ?_
    rintro _ _ ⟨rfl, rfl⟩
    show pG m_K_isAsTheRuleSays τ _ 0 0 422 _ (.int _ :: _) _
    refine g_iload (pc := 422) d_K_isAsTheRuleSays_422 rfl ?_
    refine g_callV (M' := m_S_same) (pc := 424) (q := 2) d_K_isAsTheRuleSays_424 lm_K_188 (c_S_same _ _ X B hX.1 hX.2.1 hX.2.2.1 hB.1 hB.2.1 hB.2.2.1) v_S_same rfl rfl rfl (by decide) rfl (Nat.le_of_ble_eq_true rfl) ?_
    rintro _ _ ⟨rfl, rfl⟩
    show pG m_K_isAsTheRuleSays τ _ 0 0 427 _ (.int _ :: _) _
    refine g_ifb_eq (pc := 427) (tgt := 434) d_K_isAsTheRuleSays_427 (by decide) (fun h427 => ?_) (fun h427 => ?_)
    · refine g_iconst (pc := 434) (v := nI 0) d_K_isAsTheRuleSays_434 (by decide) ?_
      refine g_zret (pc := 435) d_K_isAsTheRuleSays_435 rfl (by decide) (Nat.le_refl _) (Nat.le_refl _) ?_
      first | exact ⟨congrArg (fun v => some (Value.int v)) (bI_1 (decide_eq_true ⟨of_decide_eq_true h406, by rw [hpA1]; exact of_decide_eq_true h427⟩)), rfl⟩ | exact ⟨congrArg (fun v => some (Value.int v)) (bI_0 (decide_eq_false (fun q => of_decide_eq_false h406 q.1))), rfl⟩ | exact ⟨congrArg (fun v => some (Value.int v)) (bI_0 (decide_eq_false (fun q => of_decide_eq_false h427 (by rw [← hpA1]; exact q.2)))), rfl⟩
    · refine g_iconst (pc := 430) (v := nI 1) d_K_isAsTheRuleSays_430 (by decide) ?_
      refine g_goto (pc := 431) (tgt := 435) d_K_isAsTheRuleSays_431 (by decide) ?_
      refine g_zret (pc := 435) d_K_isAsTheRuleSays_435 rfl (by decide) (Nat.le_refl _) (Nat.le_refl _) ?_
      first | exact ⟨congrArg (fun v => some (Value.int v)) (bI_1 (decide_eq_true ⟨of_decide_eq_true h406, by rw [hpA1]; exact of_decide_eq_true h427⟩)), rfl⟩ | exact ⟨congrArg (fun v => some (Value.int v)) (bI_0 (decide_eq_false (fun q => of_decide_eq_false h406 q.1))), rfl⟩ | exact ⟨congrArg (fun v => some (Value.int v)) (bI_0 (decide_eq_false (fun q => of_decide_eq_false h427 (by rw [← hpA1]; exact q.2)))), rfl⟩
set_option maxRecDepth 100000 in
set_option maxHeartbeats 4000000 in
theorem c_K_isAs_13 {τ : Nat × Nat} {a : Nat → Nat} {i : Nat → Int32} {r : Nat → Nat → Int32} {L : Nat → Int64} {wr : pW} (x cx : Nat) (hx4 : x < 40) (hxc : r 6 x = nI cx) (y : Nat) (hyq : y < 2 ^ 31) (A : List Nat) (hA : PA (r 2) (30 * cx) A) (B : List Nat) (hB : PA (r 2) (30 * (y / 64)) B) (C : List Nat) (hC : PA (r 2) (30 * (y % 64)) C) : pC m_K_isAsTheRuleSays τ [.ref (a 0), .int (nI 13), .int (nI x), .int (nI y)] (wX a i r L ++ wr) (fun rr w2 => rr = some (.int (bI (decide (tgR B = 0 ∧ tyR B = tyR C)))) ∧ w2 = wX a i r L ++ wr) := by
  refine pC.of rfl (Nat.le_of_ble_eq_true rfl) ?_
  show pG m_K_isAsTheRuleSays τ _ 0 0 0 [(0, _), (1, _), (2, _), (3, _)] [] _
  refine g_aload_n (pc := 0) d_K_isAsTheRuleSays_0 rfl ?_
  refine g_getsX (pc := 1) d_K_isAsTheRuleSays_1 lf_K_107 ?_
  refine g_iload_n (pc := 4) d_K_isAsTheRuleSays_4 rfl ?_
  refine g_saldX (pc := 5) (v := nI 2) d_K_isAsTheRuleSays_5 (vp_in_nI (by decide) (by decide)) (by decide) ?_
  refine g_iload_n (pc := 6) d_K_isAsTheRuleSays_6 rfl ?_
  refine g_callV (M' := m_K_startOf) (pc := 7) (q := 0) d_K_isAsTheRuleSays_7 lm_K_182 (c_K_startOf_2 x cx hx4 hxc) v_K_startOf rfl rfl rfl (by decide) rfl (Nat.le_of_ble_eq_true rfl) ?_
  rintro _ _ ⟨rfl, rfl⟩
  show pG m_K_isAsTheRuleSays τ _ 0 0 10 _ (.int _ :: _) _
  refine g_istore (pc := 10) [(4, _), (0, _), (1, _), (2, _), (3, _)] d_K_isAsTheRuleSays_10 (by decide) rfl ?_
  refine g_aload_n (pc := 12) d_K_isAsTheRuleSays_12 rfl ?_
  refine g_getsY (pc := 13) d_K_isAsTheRuleSays_13 lf_K_114 ?_
  refine g_iload_n (pc := 16) d_K_isAsTheRuleSays_16 rfl ?_
  refine g_saldY (pc := 17) (v := nI 3) d_K_isAsTheRuleSays_17 (vp_in_nI (by decide) (by decide)) (by decide) ?_
  refine g_iload_n (pc := 18) d_K_isAsTheRuleSays_18 rfl ?_
  refine g_callV (M' := m_K_startOf) (pc := 19) (q := 0) d_K_isAsTheRuleSays_19 lm_K_182 (c_K_startOf_3 y hyq) v_K_startOf rfl rfl rfl (by decide) rfl (Nat.le_of_ble_eq_true rfl) ?_
  rintro _ _ ⟨rfl, rfl⟩
  show pG m_K_isAsTheRuleSays τ _ 0 0 22 _ (.int _ :: _) _
  refine g_istore (pc := 22) [(5, _), (4, _), (0, _), (1, _), (2, _), (3, _)] d_K_isAsTheRuleSays_22 (by decide) rfl ?_
  refine g_iload_n (pc := 24) d_K_isAsTheRuleSays_24 rfl ?_
  refine g_tableIn (pc := 25) (tgt := 436) d_K_isAsTheRuleSays_25 (by decide) (by decide) rfl (by decide) ?_
  refine g_aload_n (pc := 436) d_K_isAsTheRuleSays_436 rfl ?_
  refine g_iconst (pc := 437) (v := nI 0) d_K_isAsTheRuleSays_437 (by decide) ?_
  refine g_iload (pc := 438) d_K_isAsTheRuleSays_438 rfl ?_
  refine g_callV (M' := m_K_isA) (pc := 440) (q := 0) d_K_isAsTheRuleSays_440 lm_K_83 (c_K_isA 0 (30 * (y / 64)) B (by decide) hB) v_K_isA rfl rfl rfl (by decide) rfl (Nat.le_of_ble_eq_true rfl) ?_
  rintro _ _ ⟨rfl, rfl⟩
  show pG m_K_isAsTheRuleSays τ _ 0 0 443 _ (.int _ :: _) _
  refine g_ifb_eq (pc := 443) (tgt := 474) d_K_isAsTheRuleSays_443 (by decide) (fun h443 => ?_) (fun h443 => ?_)
  · refine g_iconst (pc := 474) (v := nI 0) d_K_isAsTheRuleSays_474 (by decide) ?_
    refine g_zret (pc := 475) d_K_isAsTheRuleSays_475 rfl (by decide) (Nat.le_refl _) (Nat.le_refl _) ?_
    first | exact ⟨congrArg (fun v => some (Value.int v)) (bI_1 (decide_eq_true ⟨of_decide_eq_true h443, h467⟩)), rfl⟩ | exact ⟨congrArg (fun v => some (Value.int v)) (bI_0 (decide_eq_false (fun q => of_decide_eq_false h443 q.1))), rfl⟩ | exact ⟨congrArg (fun v => some (Value.int v)) (bI_0 (decide_eq_false (fun q => h467 q.2))), rfl⟩
  · refine g_aload_n (pc := 446) d_K_isAsTheRuleSays_446 rfl ?_
    refine g_iload (pc := 447) d_K_isAsTheRuleSays_447 rfl ?_
    refine g_callV (M' := m_K_typeAt) (pc := 449) (q := 0) d_K_isAsTheRuleSays_449 lm_K_72 (c_K_typeAt (30 * (y / 64)) B hB) v_K_typeAt rfl rfl rfl (by decide) rfl (Nat.le_of_ble_eq_true rfl) ?_
    rintro _ _ ⟨rfl, rfl⟩
    show pG m_K_isAsTheRuleSays τ _ 0 0 452 _ (.int _ :: _) _
    refine g_aload_n (pc := 452) d_K_isAsTheRuleSays_452 rfl ?_
    refine g_aload_n (pc := 453) d_K_isAsTheRuleSays_453 rfl ?_
    refine gx_K_shelf (pc := 454) d_K_isAsTheRuleSays_454 lf_K_19 ?_
    refine g_iload_n (pc := 457) d_K_isAsTheRuleSays_457 rfl ?_
    refine g_bipush (pc := 458) (v := nI 64) d_K_isAsTheRuleSays_458 (by decide) ?_
    refine g_nrem (pc := 460) d_K_isAsTheRuleSays_460 (by omega) (by decide) (by decide) ?_
    refine g_callV (M' := m_S_start) (pc := 461) (q := 2) d_K_isAsTheRuleSays_461 lm_K_69 (c_S_start (y % 64)) v_S_start rfl rfl rfl (by decide) rfl (Nat.le_of_ble_eq_true rfl) ?_
    rintro _ _ ⟨rfl, rfl⟩
    show pG m_K_isAsTheRuleSays τ _ 0 0 464 _ (.int _ :: _) _
    refine g_callV (M' := m_K_typeAt) (pc := 464) (q := 0) d_K_isAsTheRuleSays_464 lm_K_72 (c_K_typeAt (30 * (y % 64)) C hC) v_K_typeAt rfl rfl rfl (by decide) rfl (Nat.le_of_ble_eq_true rfl) ?_
    rintro _ _ ⟨rfl, rfl⟩
    show pG m_K_isAsTheRuleSays τ _ 0 0 467 _ (.int _ :: _) _
    have tB := tyR_lt B
    have tC := tyR_lt C
    refine g_nicmp_ne (pc := 467) (tgt := 474) d_K_isAsTheRuleSays_467 (by decide) (by omega) (by omega) (fun h467 => ?_) (fun h467 => ?_)
    · refine g_iconst (pc := 474) (v := nI 0) d_K_isAsTheRuleSays_474 (by decide) ?_
      refine g_zret (pc := 475) d_K_isAsTheRuleSays_475 rfl (by decide) (Nat.le_refl _) (Nat.le_refl _) ?_
      first | exact ⟨congrArg (fun v => some (Value.int v)) (bI_1 (decide_eq_true ⟨of_decide_eq_true h443, h467⟩)), rfl⟩ | exact ⟨congrArg (fun v => some (Value.int v)) (bI_0 (decide_eq_false (fun q => of_decide_eq_false h443 q.1))), rfl⟩ | exact ⟨congrArg (fun v => some (Value.int v)) (bI_0 (decide_eq_false (fun q => h467 q.2))), rfl⟩
    · refine g_iconst (pc := 470) (v := nI 1) d_K_isAsTheRuleSays_470 (by decide) ?_
      refine g_goto (pc := 471) (tgt := 475) d_K_isAsTheRuleSays_471 (by decide) ?_
      refine g_zret (pc := 475) d_K_isAsTheRuleSays_475 rfl (by decide) (Nat.le_refl _) (Nat.le_refl _) ?_
      first | exact ⟨congrArg (fun v => some (Value.int v)) (bI_1 (decide_eq_true ⟨of_decide_eq_true h443, h467⟩)), rfl⟩ | exact ⟨congrArg (fun v => some (Value.int v)) (bI_0 (decide_eq_false (fun q => of_decide_eq_false h443 q.1))), rfl⟩ | exact ⟨congrArg (fun v => some (Value.int v)) (bI_0 (decide_eq_false (fun q => h467 q.2))), rfl⟩
