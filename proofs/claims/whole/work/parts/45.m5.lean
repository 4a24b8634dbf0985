/-! The reference: the queries. By wip/whole/m_m5.py -/
set_option maxRecDepth 100000 in
set_option maxHeartbeats 4000000 in
theorem c_M_isIn {τ : Nat × Nat} {a : Nat → Nat} {i : Nat → Int32} {r : Nat → Nat → Int32} {L : Nat → Nat → Int64} {z : Int64} {wr : pW} (t v : Nat) (row : List Nat) (ht : t < 60) (hl : r 1 t = nI row.length) (h : MA (r 0) (32 * t) row) (hv : GT v) (hv0 : v / 512 = 0) : pC m_M_isIn τ [.ref (a 0), .int (nI (mu v)), .int (nI t)] (wM a i r L z ++ wr) ((fun rr w2 => rr = some (.int (bI (decide (v ∈ row)))) ∧ w2 = wM a i r L z ++ wr)) := by
  have h30 := h.2.2.2.2
  have hmv := mu_lt v
  have key : ∀ (m k : Nat) (b : Bool), row.length - k = m → k ≤ row.length → (b = true → v ∈ row) → (b = false → ∀ y, y < k → row[y]? ≠ some v) → pG m_M_isIn τ (fun rr w2 => rr = some (.int (bI (decide (v ∈ row)))) ∧ w2 = wM a i r L z ++ wr) 0 0 5 [(4, .int (nI k)), (3, .int (bI b)), (0, .ref (a 0)), (1, .int (nI (mu v))), (2, .int (nI t))] [] (wM a i r L z ++ wr) := by
    intro m
    induction m with
    | zero =>
      intro k b hm hk ht1 hf
      refine g_iload (pc := 5) d_M_isIn_5 rfl ?_
      refine g_aload_n (pc := 7) d_M_isIn_7 rfl ?_
      refine gm_length (pc := 8) d_M_isIn_8 lf_M_13 ?_
      refine g_iload_n (pc := 11) d_M_isIn_11 rfl ?_
      refine glm_length (pc := 12) (v := nI row.length) d_M_isIn_12 (vp_in_nI (by omega) (by decide)) (by rw [nI_clamp (by omega)]; exact hl) ?_
      refine g_nicmp_ge (pc := 13) (tgt := 48) d_M_isIn_13 (by decide) (by omega) (by omega) (fun h13 => ?_) (fun h => absurd h (by omega))
      refine g_iload_n (pc := 48) d_M_isIn_48 rfl ?_
      refine g_zret (pc := 49) d_M_isIn_49 rfl (narrow_bI _) (Nat.le_refl _) (Nat.le_refl _) ?_
      refine ⟨congrArg (fun v => some (Value.int v)) ?_, rfl⟩
      cases hb : b with
      | true => exact bI_1_ (ht1 hb)
      | false => exact bI_0_ (fun q => by
          obtain ⟨y, hy⟩ := List.mem_iff_getElem?.mp q
          exact hf hb y (by have := (List.getElem?_eq_some_iff.mp hy).1; omega) hy)
    | succ m ih =>
      intro k b hm hk ht1 hf
      obtain ⟨x, hx⟩ := get_of (show k < row.length by omega)
      obtain ⟨hx1, hx2, hx3, hx4⟩ := h.get hx
      refine g_iload (pc := 5) d_M_isIn_5 rfl ?_
      refine g_aload_n (pc := 7) d_M_isIn_7 rfl ?_
      refine gm_length (pc := 8) d_M_isIn_8 lf_M_13 ?_
      refine g_iload_n (pc := 11) d_M_isIn_11 rfl ?_
      refine glm_length (pc := 12) (v := nI row.length) d_M_isIn_12 (vp_in_nI (by omega) (by decide)) (by rw [nI_clamp (by omega)]; exact hl) ?_
      refine g_nicmp_ge (pc := 13) (tgt := 48) d_M_isIn_13 (by decide) (by omega) (by omega) (fun h => absurd h (by omega)) (fun h13 => ?_)
      refine g_iload_n (pc := 16) d_M_isIn_16 rfl ?_
      refine g_ifb_ne (pc := 17) (tgt := 36) d_M_isIn_17 (by decide) (fun h17 => ?_) (fun h17 => ?_)
      · refine g_iconst (pc := 36) (v := nI 1) d_M_isIn_36 (by decide) ?_
        refine g_goto (pc := 37) (tgt := 41) d_M_isIn_37 (by decide) ?_
        refine g_istore_n (pc := 41) [(3, _), (4, _), (0, _), (1, _), (2, _)] d_M_isIn_41 (by decide) rfl ?_
        refine g_niinc (pc := 42) (d := 1) [(4, _), (3, _), (0, _), (1, _), (2, _)] d_M_isIn_42 rfl (by decide) rfl ?_
        refine g_goto (pc := 45) (tgt := 5) d_M_isIn_45 (by decide) ?_
        refine g_pick [0, 1, 2, 3, 4] [(4, _), (3, _), (0, _), (1, _), (2, _)] rfl ?_
        first | exact ih (k + 1) true (by omega) (by omega) (fun _ => ht1 h17) (fun q => Bool.noConfusion q) | exact ih (k + 1) true (by omega) (by omega) (fun _ => by rw [← (mu_eq hx2 hv hv0).mp h33]; exact List.mem_of_getElem? hx) (fun q => Bool.noConfusion q) | exact ih (k + 1) false (by omega) (by omega) (fun q => Bool.noConfusion q) (fun _ => lt_s (hf h17) (by rw [hx]; intro q; exact h33 (by rw [Option.some.inj q])))
      · refine g_aload_n (pc := 20) d_M_isIn_20 rfl ?_
        refine gm_row (pc := 21) d_M_isIn_21 lf_M_7 ?_
        refine g_bipush (pc := 24) (v := nI 32) d_M_isIn_24 (by decide) ?_
        refine g_iload_n (pc := 26) d_M_isIn_26 rfl ?_
        refine g_nmul (pc := 27) d_M_isIn_27 ?_
        refine g_iload (pc := 28) d_M_isIn_28 rfl ?_
        refine g_nadd (pc := 30) d_M_isIn_30 ?_
        refine glm_row (pc := 31) (v := nI (mu x)) d_M_isIn_31 (vp_in_nI (by omega) (by decide)) (by rw [nI_clamp (by omega)]; exact hx1) ?_
        refine g_iload_n (pc := 32) d_M_isIn_32 rfl ?_
        refine g_nicmp_ne (pc := 33) (tgt := 40) d_M_isIn_33 (by decide) (by omega) (by omega) (fun h33 => ?_) (fun h33 => ?_)
        · refine g_iconst (pc := 40) (v := nI 0) d_M_isIn_40 (by decide) ?_
          refine g_istore_n (pc := 41) [(3, _), (4, _), (0, _), (1, _), (2, _)] d_M_isIn_41 (by decide) rfl ?_
          refine g_niinc (pc := 42) (d := 1) [(4, _), (3, _), (0, _), (1, _), (2, _)] d_M_isIn_42 rfl (by decide) rfl ?_
          refine g_goto (pc := 45) (tgt := 5) d_M_isIn_45 (by decide) ?_
          refine g_pick [0, 1, 2, 3, 4] [(4, _), (3, _), (0, _), (1, _), (2, _)] rfl ?_
          first | exact ih (k + 1) true (by omega) (by omega) (fun _ => ht1 h17) (fun q => Bool.noConfusion q) | exact ih (k + 1) true (by omega) (by omega) (fun _ => by rw [← (mu_eq hx2 hv hv0).mp h33]; exact List.mem_of_getElem? hx) (fun q => Bool.noConfusion q) | exact ih (k + 1) false (by omega) (by omega) (fun q => Bool.noConfusion q) (fun _ => lt_s (hf h17) (by rw [hx]; intro q; exact h33 (by rw [Option.some.inj q])))
        · refine g_iconst (pc := 36) (v := nI 1) d_M_isIn_36 (by decide) ?_
          refine g_goto (pc := 37) (tgt := 41) d_M_isIn_37 (by decide) ?_
          refine g_istore_n (pc := 41) [(3, _), (4, _), (0, _), (1, _), (2, _)] d_M_isIn_41 (by decide) rfl ?_
          refine g_niinc (pc := 42) (d := 1) [(4, _), (3, _), (0, _), (1, _), (2, _)] d_M_isIn_42 rfl (by decide) rfl ?_
          refine g_goto (pc := 45) (tgt := 5) d_M_isIn_45 (by decide) ?_
          refine g_pick [0, 1, 2, 3, 4] [(4, _), (3, _), (0, _), (1, _), (2, _)] rfl ?_
          first | exact ih (k + 1) true (by omega) (by omega) (fun _ => ht1 h17) (fun q => Bool.noConfusion q) | exact ih (k + 1) true (by omega) (by omega) (fun _ => by rw [← (mu_eq hx2 hv hv0).mp h33]; exact List.mem_of_getElem? hx) (fun q => Bool.noConfusion q) | exact ih (k + 1) false (by omega) (by omega) (fun q => Bool.noConfusion q) (fun _ => lt_s (hf h17) (by rw [hx]; intro q; exact h33 (by rw [Option.some.inj q])))
  refine pC.of rfl (Nat.le_of_ble_eq_true rfl) ?_
  show pG m_M_isIn τ _ 0 0 0 [(0, _), (1, _), (2, _)] [] _
  refine g_iconst (pc := 0) (v := nI 0) d_M_isIn_0 (by decide) ?_
  refine g_istore_n (pc := 1) [(3, _), (0, _), (1, _), (2, _)] d_M_isIn_1 (by decide) rfl ?_
  refine g_iconst (pc := 2) (v := nI 0) d_M_isIn_2 (by decide) ?_
  refine g_istore (pc := 3) [(4, _), (3, _), (0, _), (1, _), (2, _)] d_M_isIn_3 (by decide) rfl ?_
  exact key _ 0 false rfl (Nat.zero_le _) (fun q => Bool.noConfusion q) (fun _ => lt_0)
theorem lb_cmp1 {a : Nat} (ha : a < 2 ^ 62) : lg_cmp (lN a) (lN 1) = 0 ↔ a = 1 := by
  unfold lg_cmp
  have h1 : (lN 1 < lN a) ↔ 1 < a := pk_lLT (by decide) (by omega)
  have h2 : lN a = lN 1 ↔ a = 1 := pk_lEQ (by omega) (by decide)
  by_cases e : a = 1
  · subst e
    simp
  · simp only [gt_iff_lt, h1, h2, e, if_false]
    constructor
    · intro q
      split at q
      · exact absurd q (by decide)
      · exact absurd q (by decide)
    · intro q
      exact q.elim
set_option maxRecDepth 100000 in
set_option maxHeartbeats 4000000 in
theorem c_M_freeInSet {τ : Nat × Nat} {a : Nat → Nat} {i : Nat → Int32} {r : Nat → Nat → Int32} {L : Nat → Nat → Int64} {wr : pW} {Ty : List (Nat × Nat)} {Cn : Nat → Option Nat} (Tm : List (List Nat)) (h v : Nat) (hS : MS Tm i r) (wg : WG Ty Tm Cn) (hh : h < 2 ^ 60) (hv : GT v) (hv0 : v / 512 = 0) : pC m_M_freeInSet τ [.ref (a 0), .int (nI (mu v))] (wM a i r L (lN h) ++ wr) (fun rr w2 => rr = some (.int (bI (sBnd Tm h v))) ∧ w2 = wM a i r L (lN h) ++ wr) := by
  have b5 := hS.1
  have b2 := hS.2.1
  have key : ∀ (m t : Nat) (b : Bool), Tm.length - t = m → t ≤ Tm.length → b = (List.range t).any (fun t => h.testBit t && decide (v ∈ Tm.getD t [])) → pG m_M_freeInSet τ (fun rr w2 => rr = some (.int (bI (sBnd Tm h v))) ∧ w2 = wM a i r L (lN h) ++ wr) 0 0 4 [(3, .int (nI t)), (2, .int (bI b)), (0, .ref (a 0)), (1, .int (nI (mu v)))] [] (wM a i r L (lN h) ++ wr) := by
    intro m
    induction m with
    | zero =>
      intro t b hm ht hb
      have ht2 : t = Tm.length := by omega
      subst ht2
      refine g_iload_n (pc := 4) d_M_freeInSet_4 rfl ?_
      refine g_aload_n (pc := 5) d_M_freeInSet_5 rfl ?_
      refine gm_terms (pc := 6) d_M_freeInSet_6 lf_M_78 ?_
      rw [b5]
      refine g_nicmp_ge (pc := 9) (tgt := 50) d_M_freeInSet_9 (by decide) (by omega) (by omega) (fun h9 => ?_) (fun h => absurd h (by omega))
      refine g_iload_n (pc := 50) d_M_freeInSet_50 rfl ?_
      refine g_zret (pc := 51) d_M_freeInSet_51 rfl (narrow_bI _) (Nat.le_refl _) (Nat.le_refl _) ?_
      exact ⟨by rw [hb]; rfl, rfl⟩
    | succ m ih =>
      intro t b hm ht hb
      obtain ⟨row, hrow⟩ := get_of (show t < Tm.length by omega)
      obtain ⟨g1, g2, g3, g4, g5, g6⟩ := hS.mg wg hrow
      have hs : (List.range (t + 1)).any (fun t => h.testBit t && decide (v ∈ Tm.getD t [])) = (b || (h.testBit t && decide (v ∈ row))) := by
        rw [List.range_succ, List.any_append, ← hb]
        simp [getD_at hrow, hrow]
      refine g_iload_n (pc := 4) d_M_freeInSet_4 rfl ?_
      refine g_aload_n (pc := 5) d_M_freeInSet_5 rfl ?_
      refine gm_terms (pc := 6) d_M_freeInSet_6 lf_M_78 ?_
      rw [b5]
      refine g_nicmp_ge (pc := 9) (tgt := 50) d_M_freeInSet_9 (by decide) (by omega) (by omega) (fun h => absurd h (by omega)) (fun h9 => ?_)
      refine g_iload_n (pc := 12) d_M_freeInSet_12 rfl ?_
      refine g_ifb_ne (pc := 13) (tgt := 38) d_M_freeInSet_13 (by decide) (fun h13 => ?_) (fun h13 => ?_)
      · refine g_iconst (pc := 38) (v := nI 1) d_M_freeInSet_38 (by decide) ?_
        refine g_goto (pc := 39) (tgt := 43) d_M_freeInSet_39 (by decide) ?_
        refine g_istore_n (pc := 43) [(2, _), (3, _), (0, _), (1, _)] d_M_freeInSet_43 (by decide) rfl ?_
        refine g_niinc (pc := 44) (d := 1) [(3, _), (2, _), (0, _), (1, _)] d_M_freeInSet_44 rfl (by decide) rfl ?_
        refine g_goto (pc := 47) (tgt := 4) d_M_freeInSet_47 (by decide) ?_
        refine g_pick [0, 1, 2, 3] [(3, _), (2, _), (0, _), (1, _)] rfl ?_
        first | exact ih (t + 1) true (by omega) (by omega) (by rw [hs, h13]; rfl) | exact ih (t + 1) true (by omega) (by omega) (by rw [hs, hbt.mp h26, h35, Bool.and_self, Bool.or_true]) | exact ih (t + 1) false (by omega) (by omega) (by rw [hs, h13, h35, Bool.and_false]; rfl) | exact ih (t + 1) false (by omega) (by omega) (by rw [hs, h13, Bool.eq_false_iff.mpr (fun q => h26 (hbt.mpr q))]; rfl)
      · refine g_aload_n (pc := 16) d_M_freeInSet_16 rfl ?_
        refine gm_set (pc := 17) d_M_freeInSet_17 lf_M_118 ?_
        refine g_iload_n (pc := 20) d_M_freeInSet_20 rfl ?_
        refine g_lshr (pc := 21) d_M_freeInSet_21 ?_
        refine g_lconst (pc := 22) (v := lN 1) d_M_freeInSet_22 (by decide) ?_
        refine g_land (pc := 23) d_M_freeInSet_23 ?_
        rw [lb_bit (by omega) (by omega), lb_tb]
        refine g_lconst (pc := 24) (v := lN 1) d_M_freeInSet_24 (by decide) ?_
        refine g_lcmp (pc := 25) d_M_freeInSet_25 ?_
        have hbt : lg_cmp (lN (if h.testBit t then 1 else 0)) (lN 1) = 0 ↔ h.testBit t = true := by
          rw [lb_cmp1 (by split <;> decide)]
          cases h.testBit t <;> simp
        refine g_if_ne (pc := 26) (tgt := 42) d_M_freeInSet_26 (by decide) (fun h26 => ?_) (fun h26 => ?_)
        · refine g_iconst (pc := 42) (v := nI 0) d_M_freeInSet_42 (by decide) ?_
          refine g_istore_n (pc := 43) [(2, _), (3, _), (0, _), (1, _)] d_M_freeInSet_43 (by decide) rfl ?_
          refine g_niinc (pc := 44) (d := 1) [(3, _), (2, _), (0, _), (1, _)] d_M_freeInSet_44 rfl (by decide) rfl ?_
          refine g_goto (pc := 47) (tgt := 4) d_M_freeInSet_47 (by decide) ?_
          refine g_pick [0, 1, 2, 3] [(3, _), (2, _), (0, _), (1, _)] rfl ?_
          first | exact ih (t + 1) true (by omega) (by omega) (by rw [hs, h13]; rfl) | exact ih (t + 1) true (by omega) (by omega) (by rw [hs, hbt.mp h26, h35, Bool.and_self, Bool.or_true]) | exact ih (t + 1) false (by omega) (by omega) (by rw [hs, h13, h35, Bool.and_false]; rfl) | exact ih (t + 1) false (by omega) (by omega) (by rw [hs, h13, Bool.eq_false_iff.mpr (fun q => h26 (hbt.mpr q))]; rfl)
        · refine g_aload_n (pc := 29) d_M_freeInSet_29 rfl ?_
          refine g_iload_n (pc := 30) d_M_freeInSet_30 rfl ?_
          refine g_iload_n (pc := 31) d_M_freeInSet_31 rfl ?_
          refine g_callV (M' := m_M_isIn) (pc := 32) (q := 0) d_M_freeInSet_32 lm_M_122 (c_M_isIn t v row g3 g4 g1 hv hv0) v_M_isIn rfl rfl rfl (by decide) rfl (Nat.le_of_ble_eq_true rfl) ?_
          rintro _ _ ⟨rfl, rfl⟩
          show pG m_M_freeInSet τ _ 0 0 35 _ (.int _ :: _) _
          refine g_ifb_eq (pc := 35) (tgt := 42) d_M_freeInSet_35 (by decide) (fun h35 => ?_) (fun h35 => ?_)
          · refine g_iconst (pc := 42) (v := nI 0) d_M_freeInSet_42 (by decide) ?_
            refine g_istore_n (pc := 43) [(2, _), (3, _), (0, _), (1, _)] d_M_freeInSet_43 (by decide) rfl ?_
            refine g_niinc (pc := 44) (d := 1) [(3, _), (2, _), (0, _), (1, _)] d_M_freeInSet_44 rfl (by decide) rfl ?_
            refine g_goto (pc := 47) (tgt := 4) d_M_freeInSet_47 (by decide) ?_
            refine g_pick [0, 1, 2, 3] [(3, _), (2, _), (0, _), (1, _)] rfl ?_
            first | exact ih (t + 1) true (by omega) (by omega) (by rw [hs, h13]; rfl) | exact ih (t + 1) true (by omega) (by omega) (by rw [hs, hbt.mp h26, h35, Bool.and_self, Bool.or_true]) | exact ih (t + 1) false (by omega) (by omega) (by rw [hs, h13, h35, Bool.and_false]; rfl) | exact ih (t + 1) false (by omega) (by omega) (by rw [hs, h13, Bool.eq_false_iff.mpr (fun q => h26 (hbt.mpr q))]; rfl)
          · refine g_iconst (pc := 38) (v := nI 1) d_M_freeInSet_38 (by decide) ?_
            refine g_goto (pc := 39) (tgt := 43) d_M_freeInSet_39 (by decide) ?_
            refine g_istore_n (pc := 43) [(2, _), (3, _), (0, _), (1, _)] d_M_freeInSet_43 (by decide) rfl ?_
            refine g_niinc (pc := 44) (d := 1) [(3, _), (2, _), (0, _), (1, _)] d_M_freeInSet_44 rfl (by decide) rfl ?_
            refine g_goto (pc := 47) (tgt := 4) d_M_freeInSet_47 (by decide) ?_
            refine g_pick [0, 1, 2, 3] [(3, _), (2, _), (0, _), (1, _)] rfl ?_
            first | exact ih (t + 1) true (by omega) (by omega) (by rw [hs, h13]; rfl) | exact ih (t + 1) true (by omega) (by omega) (by rw [hs, hbt.mp h26, h35, Bool.and_self, Bool.or_true]) | exact ih (t + 1) false (by omega) (by omega) (by rw [hs, h13, h35, Bool.and_false]; rfl) | exact ih (t + 1) false (by omega) (by omega) (by rw [hs, h13, Bool.eq_false_iff.mpr (fun q => h26 (hbt.mpr q))]; rfl)
  refine pC.of rfl (Nat.le_of_ble_eq_true rfl) ?_
  show pG m_M_freeInSet τ _ 0 0 0 [(0, _), (1, _)] [] _
  refine g_iconst (pc := 0) (v := nI 0) d_M_freeInSet_0 (by decide) ?_
  refine g_istore_n (pc := 1) [(2, _), (0, _), (1, _)] d_M_freeInSet_1 (by decide) rfl ?_
  refine g_iconst (pc := 2) (v := nI 0) d_M_freeInSet_2 (by decide) ?_
  refine g_istore_n (pc := 3) [(3, _), (2, _), (0, _), (1, _)] d_M_freeInSet_3 (by decide) rfl ?_
  exact key _ 0 false rfl (Nat.zero_le _) rfl
set_option maxRecDepth 100000 in
set_option maxHeartbeats 4000000 in
theorem c_M_terms {τ : Nat × Nat} {a : Nat → Nat} {i : Nat → Int32} {r : Nat → Nat → Int32} {L : Nat → Nat → Int64} {z : Int64} {wr : pW} {Ty : List (Nat × Nat)} {Tm : List (List Nat)} {Th : List Thm} {d : List Nat} (hI : MI Ty Tm Th (dcl Tm) d i r L) (gs : GS Ty Tm Th) : pC m_M_terms τ [.ref (a 0)] (wM a i r L z ++ wr) (fun rr w2 => rr = some (.int (nI Tm.length)) ∧ w2 = wM a i r L z ++ wr) := by
  refine pC.of rfl (Nat.le_of_ble_eq_true rfl) ?_
  show pG m_M_terms τ _ 0 0 0 [(0, _)] [] _
  obtain ⟨b1, b2, b3, b4, b5, b6, b7⟩ := hI.b
  refine g_aload_n (pc := 0) d_M_terms_0 rfl ?_
  refine gm_terms (pc := 1) d_M_terms_1 lf_M_78 ?_
  refine g_iret (pc := 4) d_M_terms_4 rfl (Nat.le_refl _) (Nat.le_refl _) ?_
  exact ⟨by rw [b5], rfl⟩
set_option maxRecDepth 100000 in
set_option maxHeartbeats 4000000 in
theorem c_M_theorems {τ : Nat × Nat} {a : Nat → Nat} {i : Nat → Int32} {r : Nat → Nat → Int32} {L : Nat → Nat → Int64} {z : Int64} {wr : pW} {Ty : List (Nat × Nat)} {Tm : List (List Nat)} {Th : List Thm} {d : List Nat} (hI : MI Ty Tm Th (dcl Tm) d i r L) (gs : GS Ty Tm Th) : pC m_M_theorems τ [.ref (a 0)] (wM a i r L z ++ wr) (fun rr w2 => rr = some (.int (nI Th.length)) ∧ w2 = wM a i r L z ++ wr) := by
  refine pC.of rfl (Nat.le_of_ble_eq_true rfl) ?_
  show pG m_M_theorems τ _ 0 0 0 [(0, _)] [] _
  obtain ⟨b1, b2, b3, b4, b5, b6, b7⟩ := hI.b
  refine g_aload_n (pc := 0) d_M_theorems_0 rfl ?_
  refine gm_theorems (pc := 1) d_M_theorems_1 lf_M_115 ?_
  refine g_iret (pc := 4) d_M_theorems_4 rfl (Nat.le_refl _) (Nat.le_refl _) ?_
  exact ⟨by rw [b6], rfl⟩
set_option maxRecDepth 100000 in
set_option maxHeartbeats 4000000 in
theorem c_M_typeOf {τ : Nat × Nat} {a : Nat → Nat} {i : Nat → Int32} {r : Nat → Nat → Int32} {L : Nat → Nat → Int64} {z : Int64} {wr : pW} {Ty : List (Nat × Nat)} {Tm : List (List Nat)} {Th : List Thm} {d : List Nat} (t : Int32) (hI : MI Ty Tm Th (dcl Tm) d i r L) (gs : GS Ty Tm Th) : pC m_M_typeOf τ [.ref (a 0), .int t] (wM a i r L z ++ wr) (fun rr w2 => rr = some (.int (if ixB t Tm.length then nI (tyR (rwT Tm t)) else -1)) ∧ w2 = wM a i r L z ++ wr) := by
  refine pC.of rfl (Nat.le_of_ble_eq_true rfl) ?_
  show pG m_M_typeOf τ _ 0 0 0 [(0, _), (1, _)] [] _
  obtain ⟨b1, b2, b3, b4, b5, b6, b7⟩ := hI.b
  refine g_aload_n (pc := 0) d_M_typeOf_0 rfl ?_
  refine g_iload_n (pc := 1) d_M_typeOf_1 rfl ?_
  refine g_callV (M' := m_M_isTerm) (pc := 2) (q := 0) d_M_typeOf_2 lm_M_99 (c_M_isTerm Tm.length b5 (by omega) _) v_M_isTerm rfl rfl rfl (by decide) rfl (Nat.le_of_ble_eq_true rfl) ?_
  rintro _ _ ⟨rfl, rfl⟩
  show pG m_M_typeOf τ _ 0 0 5 _ (.int _ :: _) _
  refine g_ifb_eq (pc := 5) (tgt := 17) d_M_typeOf_5 (by decide) (fun h5 => ?_) (fun h5 => ?_)
  · refine g_iconst (pc := 17) (v := -1) d_M_typeOf_17 (by decide) ?_
    refine g_iret (pc := 18) d_M_typeOf_18 rfl (Nat.le_refl _) (Nat.le_refl _) ?_
    first | exact ⟨by rw [h5]; rfl, rfl⟩ | exact ⟨by rw [h5, eR]; rfl, rfl⟩
  · obtain ⟨t0, ht0, rfl⟩ := ixB_of h5 (by omega)
    obtain ⟨R, hR0⟩ := get_of ht0
    obtain ⟨p1, p2, p3, p4, p5, p6⟩ := hI.2.1.mg gs.1 hR0
    have eR := rwT_at hR0 b2
    refine g_aload_n (pc := 8) d_M_typeOf_8 rfl ?_
    refine gm_sort (pc := 9) d_M_typeOf_9 lf_M_16 ?_
    refine g_iload_n (pc := 12) d_M_typeOf_12 rfl ?_
    refine glm_sort (pc := 13) (v := nI (tyR R)) d_M_typeOf_13 (vp_in_nI (by omega) (by decide)) (by rw [nI_clamp (by omega)]; exact p5) ?_
    refine g_goto (pc := 14) (tgt := 18) d_M_typeOf_14 (by decide) ?_
    refine g_iret (pc := 18) d_M_typeOf_18 rfl (Nat.le_refl _) (Nat.le_refl _) ?_
    first | exact ⟨by rw [h5]; rfl, rfl⟩ | exact ⟨by rw [h5, eR]; rfl, rfl⟩
set_option maxRecDepth 100000 in
set_option maxHeartbeats 4000000 in
theorem c_M_size {τ : Nat × Nat} {a : Nat → Nat} {i : Nat → Int32} {r : Nat → Nat → Int32} {L : Nat → Nat → Int64} {z : Int64} {wr : pW} {Ty : List (Nat × Nat)} {Tm : List (List Nat)} {Th : List Thm} {d : List Nat} (t : Int32) (hI : MI Ty Tm Th (dcl Tm) d i r L) (gs : GS Ty Tm Th) : pC m_M_size τ [.ref (a 0), .int t] (wM a i r L z ++ wr) (fun rr w2 => rr = some (.int (if ixB t Tm.length then nI (rwT Tm t).length else -1)) ∧ w2 = wM a i r L z ++ wr) := by
  refine pC.of rfl (Nat.le_of_ble_eq_true rfl) ?_
  show pG m_M_size τ _ 0 0 0 [(0, _), (1, _)] [] _
  obtain ⟨b1, b2, b3, b4, b5, b6, b7⟩ := hI.b
  refine g_aload_n (pc := 0) d_M_size_0 rfl ?_
  refine g_iload_n (pc := 1) d_M_size_1 rfl ?_
  refine g_callV (M' := m_M_isTerm) (pc := 2) (q := 0) d_M_size_2 lm_M_99 (c_M_isTerm Tm.length b5 (by omega) _) v_M_isTerm rfl rfl rfl (by decide) rfl (Nat.le_of_ble_eq_true rfl) ?_
  rintro _ _ ⟨rfl, rfl⟩
  show pG m_M_size τ _ 0 0 5 _ (.int _ :: _) _
  refine g_ifb_eq (pc := 5) (tgt := 17) d_M_size_5 (by decide) (fun h5 => ?_) (fun h5 => ?_)
  · refine g_iconst (pc := 17) (v := -1) d_M_size_17 (by decide) ?_
    refine g_iret (pc := 18) d_M_size_18 rfl (Nat.le_refl _) (Nat.le_refl _) ?_
    first | exact ⟨by rw [h5]; rfl, rfl⟩ | exact ⟨by rw [h5, eR]; rfl, rfl⟩
  · obtain ⟨t0, ht0, rfl⟩ := ixB_of h5 (by omega)
    obtain ⟨R, hR0⟩ := get_of ht0
    obtain ⟨p1, p2, p3, p4, p5, p6⟩ := hI.2.1.mg gs.1 hR0
    have eR := rwT_at hR0 b2
    refine g_aload_n (pc := 8) d_M_size_8 rfl ?_
    refine gm_length (pc := 9) d_M_size_9 lf_M_13 ?_
    refine g_iload_n (pc := 12) d_M_size_12 rfl ?_
    refine glm_length (pc := 13) (v := nI R.length) d_M_size_13 (vp_in_nI (by omega) (by decide)) (by rw [nI_clamp (by omega)]; exact p4) ?_
    refine g_goto (pc := 14) (tgt := 18) d_M_size_14 (by decide) ?_
    refine g_iret (pc := 18) d_M_size_18 rfl (Nat.le_refl _) (Nat.le_refl _) ?_
    first | exact ⟨by rw [h5]; rfl, rfl⟩ | exact ⟨by rw [h5, eR]; rfl, rfl⟩
set_option maxRecDepth 100000 in
set_option maxHeartbeats 4000000 in
theorem c_M_conclusion {τ : Nat × Nat} {a : Nat → Nat} {i : Nat → Int32} {r : Nat → Nat → Int32} {L : Nat → Nat → Int64} {z : Int64} {wr : pW} {Ty : List (Nat × Nat)} {Tm : List (List Nat)} {Th : List Thm} {d : List Nat} (k : Int32) (hI : MI Ty Tm Th (dcl Tm) d i r L) (gs : GS Ty Tm Th) : pC m_M_conclusion τ [.ref (a 0), .int k] (wM a i r L z ++ wr) (fun rr w2 => rr = some (.int (if ixB k Th.length then nI (thG Th k).2.2.2.2 else -1)) ∧ w2 = wM a i r L z ++ wr) := by
  refine pC.of rfl (Nat.le_of_ble_eq_true rfl) ?_
  show pG m_M_conclusion τ _ 0 0 0 [(0, _), (1, _)] [] _
  obtain ⟨b1, b2, b3, b4, b5, b6, b7⟩ := hI.b
  refine g_aload_n (pc := 0) d_M_conclusion_0 rfl ?_
  refine g_iload_n (pc := 1) d_M_conclusion_1 rfl ?_
  refine g_callV (M' := m_M_isTheorem) (pc := 2) (q := 0) d_M_conclusion_2 lm_M_128 (c_M_isTheorem Th.length b6 (by omega) _) v_M_isTheorem rfl rfl rfl (by decide) rfl (Nat.le_of_ble_eq_true rfl) ?_
  rintro _ _ ⟨rfl, rfl⟩
  show pG m_M_conclusion τ _ 0 0 5 _ (.int _ :: _) _
  refine g_ifb_eq (pc := 5) (tgt := 17) d_M_conclusion_5 (by decide) (fun h5 => ?_) (fun h5 => ?_)
  · refine g_iconst (pc := 17) (v := -1) d_M_conclusion_17 (by decide) ?_
    refine g_iret (pc := 18) d_M_conclusion_18 rfl (Nat.le_refl _) (Nat.le_refl _) ?_
    first | exact ⟨by rw [h5]; rfl, rfl⟩ | exact ⟨by rw [h5, ek]; rfl, rfl⟩
  · obtain ⟨k0, hk0, rfl⟩ := ixB_of h5 (by omega)
    obtain ⟨⟨rl, x, y, h, c⟩, hT0⟩ := get_of hk0
    obtain ⟨m1, m2, m3, m4⟩ := hI.2.2.2.2.2.2 _ _ _ _ _ _ hT0
    have ekc : (nI k0).toNatClampNeg = k0 := nI_clamp (by omega)
    have ek : thG Th (nI k0) = (rl, x, y, h, c) := by rw [thG, ekc, List.getD_eq_getElem?_getD, hT0]; rfl
    refine g_aload_n (pc := 8) d_M_conclusion_8 rfl ?_
    refine gm_conclusion (pc := 9) d_M_conclusion_9 lf_M_39 ?_
    refine g_iload_n (pc := 12) d_M_conclusion_12 rfl ?_
    refine glm_conclusion (pc := 13) (v := nI c) d_M_conclusion_13 (vp_in_nI (by omega) (by decide)) (by rw [nI_clamp (by omega)]; exact m2) ?_
    refine g_goto (pc := 14) (tgt := 18) d_M_conclusion_14 (by decide) ?_
    refine g_iret (pc := 18) d_M_conclusion_18 rfl (Nat.le_refl _) (Nat.le_refl _) ?_
    first | exact ⟨by rw [h5]; rfl, rfl⟩ | exact ⟨by rw [h5, ek]; rfl, rfl⟩
set_option maxRecDepth 100000 in
set_option maxHeartbeats 4000000 in
theorem c_M_hypotheses {τ : Nat × Nat} {a : Nat → Nat} {i : Nat → Int32} {r : Nat → Nat → Int32} {L : Nat → Nat → Int64} {z : Int64} {wr : pW} {Ty : List (Nat × Nat)} {Tm : List (List Nat)} {Th : List Thm} {d : List Nat} (k : Int32) (hI : MI Ty Tm Th (dcl Tm) d i r L) (gs : GS Ty Tm Th) : pC m_M_hypotheses τ [.ref (a 0), .int k] (wM a i r L z ++ wr) (fun rr w2 => rr = some (.long (if ixB k Th.length then lN (thG Th k).2.2.2.1 else -1)) ∧ w2 = wM a i r L z ++ wr) := by
  refine pC.of rfl (Nat.le_of_ble_eq_true rfl) ?_
  show pG m_M_hypotheses τ _ 0 0 0 [(0, _), (1, _)] [] _
  obtain ⟨b1, b2, b3, b4, b5, b6, b7⟩ := hI.b
  refine g_aload_n (pc := 0) d_M_hypotheses_0 rfl ?_
  refine g_iload_n (pc := 1) d_M_hypotheses_1 rfl ?_
  refine g_callV (M' := m_M_isTheorem) (pc := 2) (q := 0) d_M_hypotheses_2 lm_M_128 (c_M_isTheorem Th.length b6 (by omega) _) v_M_isTheorem rfl rfl rfl (by decide) rfl (Nat.le_of_ble_eq_true rfl) ?_
  rintro _ _ ⟨rfl, rfl⟩
  show pG m_M_hypotheses τ _ 0 0 5 _ (.int _ :: _) _
  refine g_ifb_eq (pc := 5) (tgt := 17) d_M_hypotheses_5 (by decide) (fun h5 => ?_) (fun h5 => ?_)
  · refine g_ldc2 (pc := 17) d_M_hypotheses_17 lk_M_131 ?_
    refine g_lret (pc := 20) d_M_hypotheses_20 rfl (Nat.le_refl _) (Nat.le_refl _) ?_
    first | exact ⟨by rw [h5]; rfl, rfl⟩ | exact ⟨by rw [h5, ek]; rfl, rfl⟩
  · obtain ⟨k0, hk0, rfl⟩ := ixB_of h5 (by omega)
    obtain ⟨⟨rl, x, y, h, c⟩, hT0⟩ := get_of hk0
    obtain ⟨m1, m2, m3, m4⟩ := hI.2.2.2.2.2.2 _ _ _ _ _ _ hT0
    have ekc : (nI k0).toNatClampNeg = k0 := nI_clamp (by omega)
    have ek : thG Th (nI k0) = (rl, x, y, h, c) := by rw [thG, ekc, List.getD_eq_getElem?_getD, hT0]; rfl
    refine g_aload_n (pc := 8) d_M_hypotheses_8 rfl ?_
    refine gm_hypotheses (pc := 9) d_M_hypotheses_9 lf_M_35 ?_
    refine g_iload_n (pc := 12) d_M_hypotheses_12 rfl ?_
    refine glm_hypotheses (pc := 13) (v := lN h) d_M_hypotheses_13 (vp_in_nI (by omega) (by decide)) (by rw [nI_clamp (by omega)]; exact m1) ?_
    refine g_goto (pc := 14) (tgt := 20) d_M_hypotheses_14 (by decide) ?_
    refine g_lret (pc := 20) d_M_hypotheses_20 rfl (Nat.le_refl _) (Nat.le_refl _) ?_
    first | exact ⟨by rw [h5]; rfl, rfl⟩ | exact ⟨by rw [h5, ek]; rfl, rfl⟩
set_option maxRecDepth 100000 in
set_option maxHeartbeats 4000000 in
theorem c_M_axioms {τ : Nat × Nat} {a : Nat → Nat} {i : Nat → Int32} {r : Nat → Nat → Int32} {L : Nat → Nat → Int64} {z : Int64} {wr : pW} {Ty : List (Nat × Nat)} {Tm : List (List Nat)} {Th : List Thm} {d : List Nat} (k : Int32) (hI : MI Ty Tm Th (dcl Tm) d i r L) (gs : GS Ty Tm Th) : pC m_M_axioms τ [.ref (a 0), .int k] (wM a i r L z ++ wr) (fun rr w2 => rr = some (.long (if ixB k Th.length then lN (axv Th k.toNatClampNeg) else -1)) ∧ w2 = wM a i r L z ++ wr) := by
  refine pC.of rfl (Nat.le_of_ble_eq_true rfl) ?_
  show pG m_M_axioms τ _ 0 0 0 [(0, _), (1, _)] [] _
  obtain ⟨b1, b2, b3, b4, b5, b6, b7⟩ := hI.b
  refine g_aload_n (pc := 0) d_M_axioms_0 rfl ?_
  refine g_iload_n (pc := 1) d_M_axioms_1 rfl ?_
  refine g_callV (M' := m_M_isTheorem) (pc := 2) (q := 0) d_M_axioms_2 lm_M_128 (c_M_isTheorem Th.length b6 (by omega) _) v_M_isTheorem rfl rfl rfl (by decide) rfl (Nat.le_of_ble_eq_true rfl) ?_
  rintro _ _ ⟨rfl, rfl⟩
  show pG m_M_axioms τ _ 0 0 5 _ (.int _ :: _) _
  refine g_ifb_eq (pc := 5) (tgt := 17) d_M_axioms_5 (by decide) (fun h5 => ?_) (fun h5 => ?_)
  · refine g_ldc2 (pc := 17) d_M_axioms_17 lk_M_131 ?_
    refine g_lret (pc := 20) d_M_axioms_20 rfl (Nat.le_refl _) (Nat.le_refl _) ?_
    first | exact ⟨by rw [h5]; rfl, rfl⟩ | exact ⟨by rw [h5, ekc]; rfl, rfl⟩
  · obtain ⟨k0, hk0, rfl⟩ := ixB_of h5 (by omega)
    obtain ⟨⟨rl, x, y, h, c⟩, hT0⟩ := get_of hk0
    obtain ⟨m1, m2, m3, m4⟩ := hI.2.2.2.2.2.2 _ _ _ _ _ _ hT0
    have ekc : (nI k0).toNatClampNeg = k0 := nI_clamp (by omega)
    have ek : thG Th (nI k0) = (rl, x, y, h, c) := by rw [thG, ekc, List.getD_eq_getElem?_getD, hT0]; rfl
    refine g_aload_n (pc := 8) d_M_axioms_8 rfl ?_
    refine gm_axioms (pc := 9) d_M_axioms_9 lf_M_42 ?_
    refine g_iload_n (pc := 12) d_M_axioms_12 rfl ?_
    refine glm_axioms (pc := 13) (v := lN (axv Th k0)) d_M_axioms_13 (vp_in_nI (by omega) (by decide)) (by rw [nI_clamp (by omega)]; exact m3) ?_
    refine g_goto (pc := 14) (tgt := 20) d_M_axioms_14 (by decide) ?_
    refine g_lret (pc := 20) d_M_axioms_20 rfl (Nat.le_refl _) (Nat.le_refl _) ?_
    first | exact ⟨by rw [h5]; rfl, rfl⟩ | exact ⟨by rw [h5, ekc]; rfl, rfl⟩
set_option maxRecDepth 100000 in
set_option maxHeartbeats 4000000 in
theorem c_M_steps {τ : Nat × Nat} {a : Nat → Nat} {i : Nat → Int32} {r : Nat → Nat → Int32} {L : Nat → Nat → Int64} {z : Int64} {wr : pW} {Ty : List (Nat × Nat)} {Tm : List (List Nat)} {Th : List Thm} {d : List Nat} (k : Int32) (hI : MI Ty Tm Th (dcl Tm) d i r L) (gs : GS Ty Tm Th) : pC m_M_steps τ [.ref (a 0), .int k] (wM a i r L z ++ wr) (fun rr w2 => rr = some (.int (if ixB k Th.length then nI (stv Th k.toNatClampNeg) else -1)) ∧ w2 = wM a i r L z ++ wr) := by
  refine pC.of rfl (Nat.le_of_ble_eq_true rfl) ?_
  show pG m_M_steps τ _ 0 0 0 [(0, _), (1, _)] [] _
  obtain ⟨b1, b2, b3, b4, b5, b6, b7⟩ := hI.b
  refine g_aload_n (pc := 0) d_M_steps_0 rfl ?_
  refine g_iload_n (pc := 1) d_M_steps_1 rfl ?_
  refine g_callV (M' := m_M_isTheorem) (pc := 2) (q := 0) d_M_steps_2 lm_M_128 (c_M_isTheorem Th.length b6 (by omega) _) v_M_isTheorem rfl rfl rfl (by decide) rfl (Nat.le_of_ble_eq_true rfl) ?_
  rintro _ _ ⟨rfl, rfl⟩
  show pG m_M_steps τ _ 0 0 5 _ (.int _ :: _) _
  refine g_ifb_eq (pc := 5) (tgt := 17) d_M_steps_5 (by decide) (fun h5 => ?_) (fun h5 => ?_)
  · refine g_iconst (pc := 17) (v := -1) d_M_steps_17 (by decide) ?_
    refine g_iret (pc := 18) d_M_steps_18 rfl (Nat.le_refl _) (Nat.le_refl _) ?_
    first | exact ⟨by rw [h5]; rfl, rfl⟩ | exact ⟨by rw [h5, ekc]; rfl, rfl⟩
  · obtain ⟨k0, hk0, rfl⟩ := ixB_of h5 (by omega)
    obtain ⟨⟨rl, x, y, h, c⟩, hT0⟩ := get_of hk0
    obtain ⟨m1, m2, m3, m4⟩ := hI.2.2.2.2.2.2 _ _ _ _ _ _ hT0
    have ekc : (nI k0).toNatClampNeg = k0 := nI_clamp (by omega)
    have ek : thG Th (nI k0) = (rl, x, y, h, c) := by rw [thG, ekc, List.getD_eq_getElem?_getD, hT0]; rfl
    refine g_aload_n (pc := 8) d_M_steps_8 rfl ?_
    refine gm_steps (pc := 9) d_M_steps_9 lf_M_45 ?_
    refine g_iload_n (pc := 12) d_M_steps_12 rfl ?_
    refine glm_steps (pc := 13) (v := nI (stv Th k0)) d_M_steps_13 (vp_in_nI (by omega) (by decide)) (by rw [nI_clamp (by omega)]; exact m4) ?_
    refine g_goto (pc := 14) (tgt := 18) d_M_steps_14 (by decide) ?_
    refine g_iret (pc := 18) d_M_steps_18 rfl (Nat.le_refl _) (Nat.le_refl _) ?_
    first | exact ⟨by rw [h5]; rfl, rfl⟩ | exact ⟨by rw [h5, ekc]; rfl, rfl⟩
set_option maxRecDepth 100000 in
set_option maxHeartbeats 4000000 in
theorem c_M_free {τ : Nat × Nat} {a : Nat → Nat} {i : Nat → Int32} {r : Nat → Nat → Int32} {L : Nat → Nat → Int64} {z : Int64} {wr : pW} {Ty : List (Nat × Nat)} {Tm : List (List Nat)} {Th : List Thm} {d : List Nat} (v t : Int32) (hI : MI Ty Tm Th (dcl Tm) d i r L) (gs : GS Ty Tm Th) : pC m_M_free τ [.ref (a 0), .int v, .int t] (wM a i r L z ++ wr) (fun rr w2 => rr = some (.int (bI (sFree Tm v t))) ∧ w2 = wM a i r L z ++ wr) := by
  refine pC.of rfl (Nat.le_of_ble_eq_true rfl) ?_
  show pG m_M_free τ _ 0 0 0 [(0, _), (1, _), (2, _)] [] _
  obtain ⟨b1, b2, b3, b4, b5, b6, b7⟩ := hI.b
  refine g_aload_n (pc := 0) d_M_free_0 rfl ?_
  refine g_iload_n (pc := 1) d_M_free_1 rfl ?_
  refine g_callV (M' := m_M_isTerm) (pc := 2) (q := 0) d_M_free_2 lm_M_99 (c_M_isTerm Tm.length b5 (by omega) _) v_M_isTerm rfl rfl rfl (by decide) rfl (Nat.le_of_ble_eq_true rfl) ?_
  rintro _ _ ⟨rfl, rfl⟩
  show pG m_M_free τ _ 0 0 5 _ (.int _ :: _) _
  refine g_ifb_eq (pc := 5) (tgt := 45) d_M_free_5 (by decide) (fun h5 => ?_) (fun h5 => ?_)
  · refine g_iconst (pc := 45) (v := nI 0) d_M_free_45 (by decide) ?_
    refine g_zret (pc := 46) d_M_free_46 rfl (by decide) (Nat.le_refl _) (Nat.le_refl _) ?_
    refine ⟨congrArg (fun v => some (Value.int v)) ?_, rfl⟩
    first
    | exact bI_0 (by rw [sFree, h5]; rfl)
    | exact bI_0 (by rw [sFree, h5, h13]; rfl)
    | exact bI_0 (by rw [sFree, h5, h13, eV, eT, h21]; rfl)
    | exact bI_0 (by rw [sFree, h5, h13, eV, eT, h21, h38]; rfl)
    | exact bI_1 (by rw [sFree, h5, h13, eV, eT, h21, h38]; rfl)
  · refine g_aload_n (pc := 8) d_M_free_8 rfl ?_
    refine g_iload_n (pc := 9) d_M_free_9 rfl ?_
    refine g_callV (M' := m_M_isTerm) (pc := 10) (q := 0) d_M_free_10 lm_M_99 (c_M_isTerm Tm.length b5 (by omega) _) v_M_isTerm rfl rfl rfl (by decide) rfl (Nat.le_of_ble_eq_true rfl) ?_
    rintro _ _ ⟨rfl, rfl⟩
    show pG m_M_free τ _ 0 0 13 _ (.int _ :: _) _
    refine g_ifb_eq (pc := 13) (tgt := 45) d_M_free_13 (by decide) (fun h13 => ?_) (fun h13 => ?_)
    · refine g_iconst (pc := 45) (v := nI 0) d_M_free_45 (by decide) ?_
      refine g_zret (pc := 46) d_M_free_46 rfl (by decide) (Nat.le_refl _) (Nat.le_refl _) ?_
      refine ⟨congrArg (fun v => some (Value.int v)) ?_, rfl⟩
      first
      | exact bI_0 (by rw [sFree, h5]; rfl)
      | exact bI_0 (by rw [sFree, h5, h13]; rfl)
      | exact bI_0 (by rw [sFree, h5, h13, eV, eT, h21]; rfl)
      | exact bI_0 (by rw [sFree, h5, h13, eV, eT, h21, h38]; rfl)
      | exact bI_1 (by rw [sFree, h5, h13, eV, eT, h21, h38]; rfl)
    · obtain ⟨v0, hv0, rfl⟩ := ixB_of h5 (by omega)
      obtain ⟨t0, ht0, rfl⟩ := ixB_of h13 (by omega)
      obtain ⟨V, hV0_⟩ := get_of hv0
      obtain ⟨T, hT0_⟩ := get_of ht0
      obtain ⟨pV1, pV2, pV3, pV4, pV5, pV6⟩ := hI.2.1.mg gs.1 hV0_
      obtain ⟨pT1, pT2, pT3, pT4, pT5, pT6⟩ := hI.2.1.mg gs.1 hT0_
      have wV := gs.row hV0_
      have wT := gs.row hT0_
      have eV := rwT_at hV0_ b2
      have eT := rwT_at hT0_ b2
      have lV := tyR_lt V
      have lT := tyR_lt T
      refine g_aload_n (pc := 16) d_M_free_16 rfl ?_
      refine g_iload_n (pc := 17) d_M_free_17 rfl ?_
      refine g_callV (M' := m_M_isVariableTerm) (pc := 18) (q := 0) d_M_free_18 lm_M_105 (c_M_isVariableTerm v0 V pV3 pV4 pV1 (fun q => wV.len1 q)) v_M_isVariableTerm rfl rfl rfl (by decide) rfl (Nat.le_of_ble_eq_true rfl) ?_
      rintro _ _ ⟨rfl, rfl⟩
      show pG m_M_free τ _ 0 0 21 _ (.int _ :: _) _
      refine g_ifb_eq (pc := 21) (tgt := 45) d_M_free_21 (by decide) (fun h21 => ?_) (fun h21 => ?_)
      · refine g_iconst (pc := 45) (v := nI 0) d_M_free_45 (by decide) ?_
        refine g_zret (pc := 46) d_M_free_46 rfl (by decide) (Nat.le_refl _) (Nat.le_refl _) ?_
        refine ⟨congrArg (fun v => some (Value.int v)) ?_, rfl⟩
        first
        | exact bI_0 (by rw [sFree, h5]; rfl)
        | exact bI_0 (by rw [sFree, h5, h13]; rfl)
        | exact bI_0 (by rw [sFree, h5, h13, eV, eT, h21]; rfl)
        | exact bI_0 (by rw [sFree, h5, h13, eV, eT, h21, h38]; rfl)
        | exact bI_1 (by rw [sFree, h5, h13, eV, eT, h21, h38]; rfl)
      · refine g_aload_n (pc := 24) d_M_free_24 rfl ?_
        refine g_aload_n (pc := 25) d_M_free_25 rfl ?_
        refine gm_row (pc := 26) d_M_free_26 lf_M_7 ?_
        refine g_bipush (pc := 29) (v := nI 32) d_M_free_29 (by decide) ?_
        refine g_iload_n (pc := 31) d_M_free_31 rfl ?_
        refine g_nmul (pc := 32) d_M_free_32 ?_
        refine glm_row (pc := 33) (v := nI (mu (hdt V))) d_M_free_33 (vp_in_nI (by omega) (by decide)) (by rw [nI_clamp (by omega)]; exact pV1.hd.2.1) ?_
        refine g_iload_n (pc := 34) d_M_free_34 rfl ?_
        refine g_callV (M' := m_M_isIn) (pc := 35) (q := 0) d_M_free_35 lm_M_122 (c_M_isIn t0 (hdt V) T pT3 pT4 pT1 pV1.hd.2.2.1 (of_decide_eq_true h21)) v_M_isIn rfl rfl rfl (by decide) rfl (Nat.le_of_ble_eq_true rfl) ?_
        rintro _ _ ⟨rfl, rfl⟩
        show pG m_M_free τ _ 0 0 38 _ (.int _ :: _) _
        refine g_ifb_eq (pc := 38) (tgt := 45) d_M_free_38 (by decide) (fun h38 => ?_) (fun h38 => ?_)
        · refine g_iconst (pc := 45) (v := nI 0) d_M_free_45 (by decide) ?_
          refine g_zret (pc := 46) d_M_free_46 rfl (by decide) (Nat.le_refl _) (Nat.le_refl _) ?_
          refine ⟨congrArg (fun v => some (Value.int v)) ?_, rfl⟩
          first
          | exact bI_0 (by rw [sFree, h5]; rfl)
          | exact bI_0 (by rw [sFree, h5, h13]; rfl)
          | exact bI_0 (by rw [sFree, h5, h13, eV, eT, h21]; rfl)
          | exact bI_0 (by rw [sFree, h5, h13, eV, eT, h21, h38]; rfl)
          | exact bI_1 (by rw [sFree, h5, h13, eV, eT, h21, h38]; rfl)
        · refine g_iconst (pc := 41) (v := nI 1) d_M_free_41 (by decide) ?_
          refine g_goto (pc := 42) (tgt := 46) d_M_free_42 (by decide) ?_
          refine g_zret (pc := 46) d_M_free_46 rfl (by decide) (Nat.le_refl _) (Nat.le_refl _) ?_
          refine ⟨congrArg (fun v => some (Value.int v)) ?_, rfl⟩
          first
          | exact bI_0 (by rw [sFree, h5]; rfl)
          | exact bI_0 (by rw [sFree, h5, h13]; rfl)
          | exact bI_0 (by rw [sFree, h5, h13, eV, eT, h21]; rfl)
          | exact bI_0 (by rw [sFree, h5, h13, eV, eT, h21, h38]; rfl)
          | exact bI_1 (by rw [sFree, h5, h13, eV, eT, h21, h38]; rfl)
/-- the text -/
def MP (l : List Nat) (i : Nat → Int32) (r : Nat → Nat → Int32) : Prop := i 4 = nI l.length ∧ ∀ j x, l[j]? = some x → r 9 j = nI x
def PKp (i : Nat → Int32) (r : Nat → Nat → Int32) (i2 : Nat → Int32) (r2 : Nat → Nat → Int32) : Prop := (∀ j, j ≠ 4 → i2 j = i j) ∧ ∀ j, j ≠ 9 → r2 j = r j
theorem PKp.tr {i i2 i3 : Nat → Int32} {r r2 r3 : Nat → Nat → Int32} (h : PKp i r i2 r2) (g : PKp i2 r2 i3 r3) : PKp i r i3 r3 := ⟨fun j hj => (g.1 j hj).trans (h.1 j hj), fun j hj => (g.2 j hj).trans (h.2 j hj)⟩
theorem MP_add {l : List Nat} {c : Nat} {i i2 : Nat → Int32} {r r2 : Nat → Nat → Int32} (h : MP l i r) (hi : i2 4 = nI (l.length + 1)) (hr : r2 9 = upd (r 9) l.length (nI c)) : MP (l ++ [c]) i2 r2 := by
  refine ⟨by rw [hi]; simp, fun j x hj => ?_⟩
  rw [hr]
  by_cases q : j < l.length
  · rw [List.getElem?_append_left q] at hj
    rw [pk_un (by omega)]
    exact h.2 j x hj
  · rw [List.getElem?_append_right (by omega)] at hj
    have hz : j - l.length < 1 := (List.getElem?_eq_some_iff.mp hj).1
    have hj2 : j = l.length := by omega
    subst hj2
    simp at hj
    rw [pk_us, hj]
theorem MI.pk {Ty : List (Nat × Nat)} {Tm : List (List Nat)} {Th : List Thm} {Cn : Nat → Option Nat} {d : List Nat} {i i2 : Nat → Int32} {r r2 : Nat → Nat → Int32} {L : Nat → Nat → Int64} (h : MI Ty Tm Th Cn d i r L) (k : PKp i r i2 r2) : MI Ty Tm Th Cn d i2 r2 L :=
  ⟨h.1.mv (k.1 2 (by decide)) (k.2 4 (by decide)) (k.2 5 (by decide)), h.2.1.mv (k.1 1 (by decide)) (k.2 1 (by decide)) (k.2 2 (by decide)) (fun _ _ => by rw [k.2 0 (by decide)]), h.2.2.1.mv (k.2 6 (by decide)), ⟨by rw [k.1 0 (by decide)]; exact h.2.2.2.1.1, by rw [k.2 0 (by decide)]; exact h.2.2.2.1.2⟩, h.2.2.2.2.mv (k.1 3 (by decide)) (k.2 7 (by decide)) (k.2 8 (by decide))⟩
theorem prL_le : ∀ (R : List Nat), (prL R).length ≤ 2 * R.length
  | [] => Nat.le_refl _
  | t :: R => by
    have := prL_le R
    have e : prL (t :: R) = prC t ++ prL R := rfl
    have : (prC t).length ≤ 2 := by unfold prC; split <;> simp
    rw [e, List.length_append, List.length_cons]
    omega
theorem jm1 {j : Int32} (h : -1 ≤ j) (g : ¬ j = -1) : ¬ j < 0 := by
  have h1 := Int32.le_iff_toInt_le.mp h
  have e : (-1 : Int32).toInt = -1 := by decide
  rw [e] at h1
  intro q
  have h2 := Int32.lt_iff_toInt_lt.mp q
  rw [Int32.toInt_zero] at h2
  exact g (Int32.toInt_inj.mp (by rw [e]; omega))
theorem jm2 {j : Int32} (h : ¬ -1 ≤ j) : j < 0 ∧ ¬ j = -1 := by
  have e : (-1 : Int32).toInt = -1 := by decide
  have h1 : ¬ (-1 : Int) ≤ j.toInt := fun q => h (Int32.le_iff_toInt_le.mpr (by rw [e]; exact q))
  exact ⟨Int32.lt_iff_toInt_lt.mpr (by rw [Int32.toInt_zero]; omega), fun q => h1 (by rw [q, e]; omega)⟩
set_option maxRecDepth 100000 in
set_option maxHeartbeats 4000000 in
theorem c_M_say {τ : Nat × Nat} {a : Nat → Nat} {i : Nat → Int32} {r : Nat → Nat → Int32} {L : Nat → Nat → Int64} {z : Int64} {wr : pW} (l : List Nat) (c : Nat) (h : MP l i r) (hb : l.length < 64) : pC m_M_say τ [.ref (a 0), .int (nI c)] (wM a i r L z ++ wr) ((fun rr w2 => ∃ i2 r2, rr = none ∧ w2 = wM a i2 r2 L z ++ wr ∧ MP (l ++ [c]) i2 r2 ∧ PKp i r i2 r2)) := by
  refine pC.of rfl (Nat.le_of_ble_eq_true rfl) ?_
  show pG m_M_say τ _ 0 0 0 [(0, _), (1, _)] [] _
  refine g_aload_n (pc := 0) d_M_say_0 rfl ?_
  refine gm_text (pc := 1) d_M_say_1 lf_M_48 ?_
  refine g_aload_n (pc := 4) d_M_say_4 rfl ?_
  refine gm_size (pc := 5) d_M_say_5 lf_M_162 ?_
  rw [h.1]
  refine g_iload_n (pc := 8) d_M_say_8 rfl ?_
  refine gsm_text (pc := 9) d_M_say_9 (vp_in_nI (by omega) (by decide)) ?_
  refine g_aload_n (pc := 10) d_M_say_10 rfl ?_
  refine g_dup (pc := 11) d_M_say_11 rfl ?_
  refine gm_size (pc := 12) d_M_say_12 lf_M_162 ?_
  rw [h.1]
  refine g_iconst (pc := 15) (v := nI 1) d_M_say_15 (by decide) ?_
  refine g_nadd (pc := 16) d_M_say_16 ?_
  refine gm_size_p (pc := 17) d_M_say_17 lf_M_162 ?_
  refine g_vret (pc := 20) d_M_say_20 rfl (Nat.le_refl _) (Nat.le_refl _) ?_
  exact ⟨_, _, rfl, rfl, MP_add h (by rw [pk_us]) (by rw [up_s, nI_clamp (by omega)]), fun j hj => pk_un hj, fun j hj => up_n hj⟩
set_option maxRecDepth 100000 in
set_option maxHeartbeats 4000000 in
theorem c_M_printed_1 {τ : Nat × Nat} {a : Nat → Nat} {i : Nat → Int32} {r : Nat → Nat → Int32} {L : Nat → Nat → Int64} {z : Int64} {wr : pW} {Tm : List (List Nat)} (t0 : Nat) (R : List Nat) (j : Int32) (hb2 : Tm.length ≤ 60) (hR0 : Tm[t0]? = some R) (ht0 : t0 < 60) (hl : r 1 t0 = nI R.length) (hA : MA (r 0) (32 * t0) R) (h10 : -1 ≤ j) (Qf : Option Value → pW → Prop) (hQ : ∀ (i2 : Nat → Int32) (r2 : Nat → Nat → Int32), PKp i r i2 r2 → Qf (some (.int (sPrinted Tm (nI t0) j))) (wM a i2 r2 L z ++ wr)) : ∀ (rest pre : List Nat) (i1 : Nat → Int32) (r1 : Nat → Nat → Int32), R = pre ++ rest → MP (prL pre) i1 r1 → PKp i r i1 r1 → pG m_M_printed τ Qf 0 0 25 [(3, .int (nI (32 * t0 + pre.length))), (0, .ref (a 0)), (1, .int (nI t0)), (2, .int j)] [] (wM a i1 r1 L z ++ wr) := by
  have h30 := hA.2.2.2.2
  have hix : ixB (nI t0) Tm.length = true := by rw [ixB_nI (by omega), decide_eq_true_eq]; exact (List.getElem?_eq_some_iff.mp hR0).1
  have eR := rwT_at hR0 hb2
  have hlp := prL_le R
  intro rest
  induction rest with
  | nil =>
    intro pre i1 r1 hsp hP hk
    rw [List.append_nil] at hsp
    subst hsp
    have hl1 : r1 1 t0 = nI R.length := by rw [hk.2 1 (by decide)]; exact hl
    refine g_iload_n (pc := 25) d_M_printed_25 rfl ?_
    refine g_bipush (pc := 26) (v := nI 32) d_M_printed_26 (by decide) ?_
    refine g_iload_n (pc := 28) d_M_printed_28 rfl ?_
    refine g_nmul (pc := 29) d_M_printed_29 ?_
    refine g_aload_n (pc := 30) d_M_printed_30 rfl ?_
    refine gm_length (pc := 31) d_M_printed_31 lf_M_13 ?_
    refine g_iload_n (pc := 34) d_M_printed_34 rfl ?_
    refine glm_length (pc := 35) (v := nI R.length) d_M_printed_35 (vp_in_nI (by omega) (by decide)) (by rw [nI_clamp (by omega)]; exact hl1) ?_
    refine g_nadd (pc := 36) d_M_printed_36 ?_
    refine g_nicmp_ge (pc := 37) (tgt := 197) d_M_printed_37 (by decide) (by omega) (by omega) (fun h37 => ?_) (fun h => absurd h (by omega))
    refine g_iload_n (pc := 197) d_M_printed_197 rfl ?_
    refine g_iconst (pc := 198) (v := -1) d_M_printed_198 (by decide) ?_
    refine g_icmp_ne (pc := 199) (tgt := 209) d_M_printed_199 (by decide) (fun h199 => ?_) (fun h199 => ?_)
    · refine g_iload_n (pc := 209) d_M_printed_209 rfl ?_
      refine g_aload_n (pc := 210) d_M_printed_210 rfl ?_
      refine gm_size (pc := 211) d_M_printed_211 lf_M_162 ?_
      rw [hP.1]
      refine g_icmp_ge (pc := 214) (tgt := 226) d_M_printed_214 (by decide) (fun h214 => ?_) (fun h214 => ?_)
      · refine g_iconst (pc := 226) (v := -1) d_M_printed_226 (by decide) ?_
        refine g_iret (pc := 227) d_M_printed_227 rfl (Nat.le_refl _) (Nat.le_refl _) ?_
        refine Eq.mp (congrArg (fun v => Qf (some (Value.int v)) (wM a i1 r1 L z ++ wr)) ?_) (hQ i1 r1 hk)
        rw [sPrinted, eR]
        first
        | exact ((if_pos hix).trans (if_pos h199))
        | exact ((if_pos hix).trans ((if_neg h199).trans ((if_pos hin).trans (by rw [nI_clamp (by omega)]))))
        | exact ((if_pos hix).trans ((if_neg h199).trans (if_neg (by rw [ixB_big (by omega) h214]; decide))))
      · have hj0 := jm1 h10 h199
        have hin := ixB_in (n := (prL R).length) (by omega) hj0 h214
        obtain ⟨q, hq, rfl⟩ := ixB_of hin (by omega)
        refine g_aload_n (pc := 217) d_M_printed_217 rfl ?_
        refine gm_text (pc := 218) d_M_printed_218 lf_M_48 ?_
        refine g_iload_n (pc := 221) d_M_printed_221 rfl ?_
        refine glm_text (pc := 222) (v := nI ((prL R).getD q 0)) d_M_printed_222 (vp_in_nI (by omega) (by decide)) (by rw [nI_clamp (by omega)]; exact hP.2 q _ (by rw [List.getD_eq_getElem?_getD, List.getElem?_eq_getElem hq]; rfl)) ?_
        refine g_goto (pc := 223) (tgt := 227) d_M_printed_223 (by decide) ?_
        refine g_iret (pc := 227) d_M_printed_227 rfl (Nat.le_refl _) (Nat.le_refl _) ?_
        refine Eq.mp (congrArg (fun v => Qf (some (Value.int v)) (wM a i1 r1 L z ++ wr)) ?_) (hQ i1 r1 hk)
        rw [sPrinted, eR]
        first
        | exact ((if_pos hix).trans (if_pos h199))
        | exact ((if_pos hix).trans ((if_neg h199).trans ((if_pos hin).trans (by rw [nI_clamp (by omega)]))))
        | exact ((if_pos hix).trans ((if_neg h199).trans (if_neg (by rw [ixB_big (by omega) h214]; decide))))
    · refine g_aload_n (pc := 202) d_M_printed_202 rfl ?_
      refine gm_size (pc := 203) d_M_printed_203 lf_M_162 ?_
      rw [hP.1]
      refine g_goto (pc := 206) (tgt := 227) d_M_printed_206 (by decide) ?_
      refine g_iret (pc := 227) d_M_printed_227 rfl (Nat.le_refl _) (Nat.le_refl _) ?_
      refine Eq.mp (congrArg (fun v => Qf (some (Value.int v)) (wM a i1 r1 L z ++ wr)) ?_) (hQ i1 r1 hk)
      rw [sPrinted, eR]
      first
      | exact ((if_pos hix).trans (if_pos h199))
      | exact ((if_pos hix).trans ((if_neg h199).trans ((if_pos hin).trans (by rw [nI_clamp (by omega)]))))
      | exact ((if_pos hix).trans ((if_neg h199).trans (if_neg (by rw [ixB_big (by omega) h214]; decide))))
  | cons t rest ih =>
    intro pre i1 r1 hsp hP hk
    have hl1 : r1 1 t0 = nI R.length := by rw [hk.2 1 (by decide)]; exact hl
    have hpl : R.length = pre.length + 1 + rest.length := by rw [hsp]; simp; omega
    have htj : R[pre.length]? = some t := by rw [hsp]; simp
    have hA1 : MA (r1 0) (32 * t0) R := by rw [hk.2 0 (by decide)]; exact hA
    obtain ⟨ht1, ht2, ht3, ht4⟩ := hA1.get htj
    have hpr := prL_le pre
    have hpp : 32 * t0 + pre.length + 1 = 32 * t0 + (pre ++ [t]).length := by simp; omega
    have hPL : prL (pre ++ [t]) = prL pre ++ prC t := by rw [prL_app]; simp [prL]
    have g0 := ht2.1
    rcases tag8 g0 with c | c | c | c | c | c | c | c
    · have hmu : mu t = 64 + 16 * (t / 16 % 32) + t % 16 := by unfold mu; rw [c]; rfl
      have hkl : kLt t = 97 + t / 16 % 32 := by unfold kLt; rw [c]; rfl
      have hgi : t / 16 % 32 < 10 := ht2.2.1 c
      have hpc : prC t = [kLt t, 65 + t % 16] := by simp [prC, kSt, kTl, kBd, c]
      refine g_iload_n (pc := 25) d_M_printed_25 rfl ?_
      refine g_bipush (pc := 26) (v := nI 32) d_M_printed_26 (by decide) ?_
      refine g_iload_n (pc := 28) d_M_printed_28 rfl ?_
      refine g_nmul (pc := 29) d_M_printed_29 ?_
      refine g_aload_n (pc := 30) d_M_printed_30 rfl ?_
      refine gm_length (pc := 31) d_M_printed_31 lf_M_13 ?_
      refine g_iload_n (pc := 34) d_M_printed_34 rfl ?_
      refine glm_length (pc := 35) (v := nI R.length) d_M_printed_35 (vp_in_nI (by omega) (by decide)) (by rw [nI_clamp (by omega)]; exact hl1) ?_
      refine g_nadd (pc := 36) d_M_printed_36 ?_
      refine g_nicmp_ge (pc := 37) (tgt := 197) d_M_printed_37 (by decide) (by omega) (by omega) (fun h => absurd h (by omega)) (fun h37 => ?_)
      refine g_aload_n (pc := 40) d_M_printed_40 rfl ?_
      refine gm_row (pc := 41) d_M_printed_41 lf_M_7 ?_
      refine g_iload_n (pc := 44) d_M_printed_44 rfl ?_
      refine glm_row (pc := 45) (v := nI (mu t)) d_M_printed_45 (vp_in_nI (by omega) (by decide)) (by rw [nI_clamp (by omega)]; exact ht1) ?_
      refine g_istore (pc := 46) [(4, _), (3, _), (0, _), (1, _), (2, _)] d_M_printed_46 (by decide) rfl ?_
      refine g_iload (pc := 48) d_M_printed_48 rfl ?_
      refine g_iconst (pc := 50) (v := nI 1) d_M_printed_50 (by decide) ?_
      refine g_nicmp_ne (pc := 51) (tgt := 59) d_M_printed_51 (by decide) (by omega) (by omega) (fun h51 => ?_) (fun h => absurd h (by omega))
      refine g_iload (pc := 59) d_M_printed_59 rfl ?_
      refine g_iconst (pc := 61) (v := nI 2) d_M_printed_61 (by decide) ?_
      refine g_nicmp_ne (pc := 62) (tgt := 70) d_M_printed_62 (by decide) (by omega) (by omega) (fun h62 => ?_) (fun h => absurd h (by omega))
      refine g_iload (pc := 70) d_M_printed_70 rfl ?_
      refine g_iconst (pc := 72) (v := nI 3) d_M_printed_72 (by decide) ?_
      refine g_nicmp_ne (pc := 73) (tgt := 81) d_M_printed_73 (by decide) (by omega) (by omega) (fun h73 => ?_) (fun h => absurd h (by omega))
      refine g_iload (pc := 81) d_M_printed_81 rfl ?_
      refine g_bipush (pc := 83) (v := nI 32) d_M_printed_83 (by decide) ?_
      refine g_nicmp_ge (pc := 85) (tgt := 93) d_M_printed_85 (by decide) (by omega) (by omega) (fun h85 => ?_) (fun h => absurd h (by omega))
      refine g_iload (pc := 93) d_M_printed_93 rfl ?_
      refine g_bipush (pc := 95) (v := nI 64) d_M_printed_95 (by decide) ?_
      refine g_nicmp_ge (pc := 97) (tgt := 105) d_M_printed_97 (by decide) (by omega) (by omega) (fun h97 => ?_) (fun h => absurd h (by omega))
      refine g_iload (pc := 105) d_M_printed_105 rfl ?_
      refine g_sipush (pc := 107) (v := nI 240) d_M_printed_107 (by decide) ?_
      refine g_nicmp_ge (pc := 110) (tgt := 127) d_M_printed_110 (by decide) (by omega) (by omega) (fun h => absurd h (by omega)) (fun h110 => ?_)
      refine g_bipush (pc := 113) (v := nI 97) d_M_printed_113 (by decide) ?_
      refine g_iload (pc := 115) d_M_printed_115 rfl ?_
      refine g_bipush (pc := 117) (v := nI 64) d_M_printed_117 (by decide) ?_
      refine g_nsub (pc := 119) d_M_printed_119 (by omega) ?_
      refine g_bipush (pc := 120) (v := nI 16) d_M_printed_120 (by decide) ?_
      refine g_ndiv (pc := 122) d_M_printed_122 (by omega) (by decide) (by decide) ?_
      refine g_nadd (pc := 123) d_M_printed_123 ?_
      refine g_goto (pc := 124) (tgt := 156) d_M_printed_124 (by decide) ?_
      refine g_topi (nI (kLt t)) (congrArg nI (by omega)) ?_
      refine g_istore (pc := 156) [(5, _), (4, _), (3, _), (0, _), (1, _), (2, _)] d_M_printed_156 (by decide) rfl ?_
      refine g_aload_n (pc := 158) d_M_printed_158 rfl ?_
      refine g_iload (pc := 159) d_M_printed_159 rfl ?_
      refine g_callV (M' := m_M_say) (pc := 161) (q := 0) d_M_printed_161 lm_M_165 (c_M_say (prL pre) (kLt t) hP (by omega)) v_M_say rfl rfl rfl (by decide) rfl (Nat.le_of_ble_eq_true rfl) ?_
      rintro _ _ ⟨i2, r2, rfl, rfl, hP2, hk2⟩
      show pG m_M_printed τ _ 0 0 164 _ _ _
      refine g_iload (pc := 164) d_M_printed_164 rfl ?_
      refine g_bipush (pc := 166) (v := nI 16) d_M_printed_166 (by decide) ?_
      refine g_nicmp_lt (pc := 168) (tgt := 191) d_M_printed_168 (by decide) (by omega) (by omega) (fun h => absurd h (by omega)) (fun h168 => ?_)
      refine g_iload (pc := 171) d_M_printed_171 rfl ?_
      refine g_sipush (pc := 173) (v := nI 240) d_M_printed_173 (by decide) ?_
      refine g_nicmp_ge (pc := 176) (tgt := 191) d_M_printed_176 (by decide) (by omega) (by omega) (fun h => absurd h (by omega)) (fun h176 => ?_)
      refine g_aload_n (pc := 179) d_M_printed_179 rfl ?_
      refine g_bipush (pc := 180) (v := nI 65) d_M_printed_180 (by decide) ?_
      refine g_iload (pc := 182) d_M_printed_182 rfl ?_
      refine g_bipush (pc := 184) (v := nI 15) d_M_printed_184 (by decide) ?_
      refine g_iand (pc := 186) d_M_printed_186 ?_
      rw [pk_andN (by omega) 4 (by decide), show mu t % 2 ^ 4 = t % 16 by omega]
      refine g_nadd (pc := 187) d_M_printed_187 ?_
      refine g_callV (M' := m_M_say) (pc := 188) (q := 0) d_M_printed_188 lm_M_165 (c_M_say (prL pre ++ [kLt t]) (65 + t % 16) hP2 (by simp; omega)) v_M_say rfl rfl rfl (by decide) rfl (Nat.le_of_ble_eq_true rfl) ?_
      rintro _ _ ⟨i3, r3, rfl, rfl, hP3, hk3⟩
      rw [List.append_assoc] at hP3
      have hP3 : MP (prL pre ++ [kLt t, 65 + t % 16]) i3 r3 := hP3
      show pG m_M_printed τ _ 0 0 191 _ _ _
      refine g_niinc (pc := 191) (d := 1) [(3, _), (5, _), (4, _), (0, _), (1, _), (2, _)] d_M_printed_191 rfl (by decide) rfl ?_
      refine g_goto (pc := 194) (tgt := 25) d_M_printed_194 (by decide) ?_
      refine g_pick [0, 3, 4, 5] [(3, _), (0, _), (1, _), (2, _)] rfl ?_
      rw [hpp]
      exact ih (pre ++ [t]) i3 r3 (by rw [hsp]; simp) (by rw [hPL, hpc]; exact hP3) (hk.tr (hk2.tr hk3))
    · have hmu : mu t = 240 + t / 16 % 32 := by unfold mu; rw [c]; rfl
      have hkl : kLt t = 48 + t / 16 % 32 := by unfold kLt; rw [c]; rfl
      have hgi : t / 16 % 32 < 4 := ht2.2.2.1 c
      have hpc : prC t = [kLt t] := by simp [prC, kSt, kTl, kBd, c]
      refine g_iload_n (pc := 25) d_M_printed_25 rfl ?_
      refine g_bipush (pc := 26) (v := nI 32) d_M_printed_26 (by decide) ?_
      refine g_iload_n (pc := 28) d_M_printed_28 rfl ?_
      refine g_nmul (pc := 29) d_M_printed_29 ?_
      refine g_aload_n (pc := 30) d_M_printed_30 rfl ?_
      refine gm_length (pc := 31) d_M_printed_31 lf_M_13 ?_
      refine g_iload_n (pc := 34) d_M_printed_34 rfl ?_
      refine glm_length (pc := 35) (v := nI R.length) d_M_printed_35 (vp_in_nI (by omega) (by decide)) (by rw [nI_clamp (by omega)]; exact hl1) ?_
      refine g_nadd (pc := 36) d_M_printed_36 ?_
      refine g_nicmp_ge (pc := 37) (tgt := 197) d_M_printed_37 (by decide) (by omega) (by omega) (fun h => absurd h (by omega)) (fun h37 => ?_)
      refine g_aload_n (pc := 40) d_M_printed_40 rfl ?_
      refine gm_row (pc := 41) d_M_printed_41 lf_M_7 ?_
      refine g_iload_n (pc := 44) d_M_printed_44 rfl ?_
      refine glm_row (pc := 45) (v := nI (mu t)) d_M_printed_45 (vp_in_nI (by omega) (by decide)) (by rw [nI_clamp (by omega)]; exact ht1) ?_
      refine g_istore (pc := 46) [(4, _), (3, _), (0, _), (1, _), (2, _)] d_M_printed_46 (by decide) rfl ?_
      refine g_iload (pc := 48) d_M_printed_48 rfl ?_
      refine g_iconst (pc := 50) (v := nI 1) d_M_printed_50 (by decide) ?_
      refine g_nicmp_ne (pc := 51) (tgt := 59) d_M_printed_51 (by decide) (by omega) (by omega) (fun h51 => ?_) (fun h => absurd h (by omega))
      refine g_iload (pc := 59) d_M_printed_59 rfl ?_
      refine g_iconst (pc := 61) (v := nI 2) d_M_printed_61 (by decide) ?_
      refine g_nicmp_ne (pc := 62) (tgt := 70) d_M_printed_62 (by decide) (by omega) (by omega) (fun h62 => ?_) (fun h => absurd h (by omega))
      refine g_iload (pc := 70) d_M_printed_70 rfl ?_
      refine g_iconst (pc := 72) (v := nI 3) d_M_printed_72 (by decide) ?_
      refine g_nicmp_ne (pc := 73) (tgt := 81) d_M_printed_73 (by decide) (by omega) (by omega) (fun h73 => ?_) (fun h => absurd h (by omega))
      refine g_iload (pc := 81) d_M_printed_81 rfl ?_
      refine g_bipush (pc := 83) (v := nI 32) d_M_printed_83 (by decide) ?_
      refine g_nicmp_ge (pc := 85) (tgt := 93) d_M_printed_85 (by decide) (by omega) (by omega) (fun h85 => ?_) (fun h => absurd h (by omega))
      refine g_iload (pc := 93) d_M_printed_93 rfl ?_
      refine g_bipush (pc := 95) (v := nI 64) d_M_printed_95 (by decide) ?_
      refine g_nicmp_ge (pc := 97) (tgt := 105) d_M_printed_97 (by decide) (by omega) (by omega) (fun h97 => ?_) (fun h => absurd h (by omega))
      refine g_iload (pc := 105) d_M_printed_105 rfl ?_
      refine g_sipush (pc := 107) (v := nI 240) d_M_printed_107 (by decide) ?_
      refine g_nicmp_ge (pc := 110) (tgt := 127) d_M_printed_110 (by decide) (by omega) (by omega) (fun h110 => ?_) (fun h => absurd h (by omega))
      refine g_iload (pc := 127) d_M_printed_127 rfl ?_
      refine g_sipush (pc := 129) (v := nI 256) d_M_printed_129 (by decide) ?_
      refine g_nicmp_ge (pc := 132) (tgt := 147) d_M_printed_132 (by decide) (by omega) (by omega) (fun h => absurd h (by omega)) (fun h132 => ?_)
      refine g_bipush (pc := 135) (v := nI 48) d_M_printed_135 (by decide) ?_
      refine g_iload (pc := 137) d_M_printed_137 rfl ?_
      refine g_nadd (pc := 139) d_M_printed_139 ?_
      refine g_sipush (pc := 140) (v := nI 240) d_M_printed_140 (by decide) ?_
      refine g_nsub (pc := 143) d_M_printed_143 (by omega) ?_
      refine g_goto (pc := 144) (tgt := 156) d_M_printed_144 (by decide) ?_
      refine g_topi (nI (kLt t)) (congrArg nI (by omega)) ?_
      refine g_istore (pc := 156) [(5, _), (4, _), (3, _), (0, _), (1, _), (2, _)] d_M_printed_156 (by decide) rfl ?_
      refine g_aload_n (pc := 158) d_M_printed_158 rfl ?_
      refine g_iload (pc := 159) d_M_printed_159 rfl ?_
      refine g_callV (M' := m_M_say) (pc := 161) (q := 0) d_M_printed_161 lm_M_165 (c_M_say (prL pre) (kLt t) hP (by omega)) v_M_say rfl rfl rfl (by decide) rfl (Nat.le_of_ble_eq_true rfl) ?_
      rintro _ _ ⟨i2, r2, rfl, rfl, hP2, hk2⟩
      show pG m_M_printed τ _ 0 0 164 _ _ _
      refine g_iload (pc := 164) d_M_printed_164 rfl ?_
      refine g_bipush (pc := 166) (v := nI 16) d_M_printed_166 (by decide) ?_
      refine g_nicmp_lt (pc := 168) (tgt := 191) d_M_printed_168 (by decide) (by omega) (by omega) (fun h => absurd h (by omega)) (fun h168 => ?_)
      refine g_iload (pc := 171) d_M_printed_171 rfl ?_
      refine g_sipush (pc := 173) (v := nI 240) d_M_printed_173 (by decide) ?_
      refine g_nicmp_ge (pc := 176) (tgt := 191) d_M_printed_176 (by decide) (by omega) (by omega) (fun h176 => ?_) (fun h => absurd h (by omega))
      refine g_niinc (pc := 191) (d := 1) [(3, _), (5, _), (4, _), (0, _), (1, _), (2, _)] d_M_printed_191 rfl (by decide) rfl ?_
      refine g_goto (pc := 194) (tgt := 25) d_M_printed_194 (by decide) ?_
      refine g_pick [0, 3, 4, 5] [(3, _), (0, _), (1, _), (2, _)] rfl ?_
      rw [hpp]
      exact ih (pre ++ [t]) i2 r2 (by rw [hsp]; simp) (by rw [hPL, hpc]; exact hP2) (hk.tr hk2)
    · have hmu : mu t = 256 + t / 16 % 32 := by unfold mu; rw [c]; rfl
      have hkl : kLt t = 122 - t / 16 % 32 := by unfold kLt; rw [c]; rfl
      have hgi : t / 16 % 32 < 32 := by omega
      have hpc : prC t = [kLt t] := by simp [prC, kSt, kTl, kBd, c]
      refine g_iload_n (pc := 25) d_M_printed_25 rfl ?_
      refine g_bipush (pc := 26) (v := nI 32) d_M_printed_26 (by decide) ?_
      refine g_iload_n (pc := 28) d_M_printed_28 rfl ?_
      refine g_nmul (pc := 29) d_M_printed_29 ?_
      refine g_aload_n (pc := 30) d_M_printed_30 rfl ?_
      refine gm_length (pc := 31) d_M_printed_31 lf_M_13 ?_
      refine g_iload_n (pc := 34) d_M_printed_34 rfl ?_
      refine glm_length (pc := 35) (v := nI R.length) d_M_printed_35 (vp_in_nI (by omega) (by decide)) (by rw [nI_clamp (by omega)]; exact hl1) ?_
      refine g_nadd (pc := 36) d_M_printed_36 ?_
      refine g_nicmp_ge (pc := 37) (tgt := 197) d_M_printed_37 (by decide) (by omega) (by omega) (fun h => absurd h (by omega)) (fun h37 => ?_)
      refine g_aload_n (pc := 40) d_M_printed_40 rfl ?_
      refine gm_row (pc := 41) d_M_printed_41 lf_M_7 ?_
      refine g_iload_n (pc := 44) d_M_printed_44 rfl ?_
      refine glm_row (pc := 45) (v := nI (mu t)) d_M_printed_45 (vp_in_nI (by omega) (by decide)) (by rw [nI_clamp (by omega)]; exact ht1) ?_
      refine g_istore (pc := 46) [(4, _), (3, _), (0, _), (1, _), (2, _)] d_M_printed_46 (by decide) rfl ?_
      refine g_iload (pc := 48) d_M_printed_48 rfl ?_
      refine g_iconst (pc := 50) (v := nI 1) d_M_printed_50 (by decide) ?_
      refine g_nicmp_ne (pc := 51) (tgt := 59) d_M_printed_51 (by decide) (by omega) (by omega) (fun h51 => ?_) (fun h => absurd h (by omega))
      refine g_iload (pc := 59) d_M_printed_59 rfl ?_
      refine g_iconst (pc := 61) (v := nI 2) d_M_printed_61 (by decide) ?_
      refine g_nicmp_ne (pc := 62) (tgt := 70) d_M_printed_62 (by decide) (by omega) (by omega) (fun h62 => ?_) (fun h => absurd h (by omega))
      refine g_iload (pc := 70) d_M_printed_70 rfl ?_
      refine g_iconst (pc := 72) (v := nI 3) d_M_printed_72 (by decide) ?_
      refine g_nicmp_ne (pc := 73) (tgt := 81) d_M_printed_73 (by decide) (by omega) (by omega) (fun h73 => ?_) (fun h => absurd h (by omega))
      refine g_iload (pc := 81) d_M_printed_81 rfl ?_
      refine g_bipush (pc := 83) (v := nI 32) d_M_printed_83 (by decide) ?_
      refine g_nicmp_ge (pc := 85) (tgt := 93) d_M_printed_85 (by decide) (by omega) (by omega) (fun h85 => ?_) (fun h => absurd h (by omega))
      refine g_iload (pc := 93) d_M_printed_93 rfl ?_
      refine g_bipush (pc := 95) (v := nI 64) d_M_printed_95 (by decide) ?_
      refine g_nicmp_ge (pc := 97) (tgt := 105) d_M_printed_97 (by decide) (by omega) (by omega) (fun h97 => ?_) (fun h => absurd h (by omega))
      refine g_iload (pc := 105) d_M_printed_105 rfl ?_
      refine g_sipush (pc := 107) (v := nI 240) d_M_printed_107 (by decide) ?_
      refine g_nicmp_ge (pc := 110) (tgt := 127) d_M_printed_110 (by decide) (by omega) (by omega) (fun h110 => ?_) (fun h => absurd h (by omega))
      refine g_iload (pc := 127) d_M_printed_127 rfl ?_
      refine g_sipush (pc := 129) (v := nI 256) d_M_printed_129 (by decide) ?_
      refine g_nicmp_ge (pc := 132) (tgt := 147) d_M_printed_132 (by decide) (by omega) (by omega) (fun h132 => ?_) (fun h => absurd h (by omega))
      refine g_bipush (pc := 147) (v := nI 122) d_M_printed_147 (by decide) ?_
      refine g_iload (pc := 149) d_M_printed_149 rfl ?_
      refine g_sipush (pc := 151) (v := nI 256) d_M_printed_151 (by decide) ?_
      refine g_nsub (pc := 154) d_M_printed_154 (by omega) ?_
      refine g_nsub (pc := 155) d_M_printed_155 (by omega) ?_
      refine g_topi (nI (kLt t)) (congrArg nI (by omega)) ?_
      refine g_istore (pc := 156) [(5, _), (4, _), (3, _), (0, _), (1, _), (2, _)] d_M_printed_156 (by decide) rfl ?_
      refine g_aload_n (pc := 158) d_M_printed_158 rfl ?_
      refine g_iload (pc := 159) d_M_printed_159 rfl ?_
      refine g_callV (M' := m_M_say) (pc := 161) (q := 0) d_M_printed_161 lm_M_165 (c_M_say (prL pre) (kLt t) hP (by omega)) v_M_say rfl rfl rfl (by decide) rfl (Nat.le_of_ble_eq_true rfl) ?_
      rintro _ _ ⟨i2, r2, rfl, rfl, hP2, hk2⟩
      show pG m_M_printed τ _ 0 0 164 _ _ _
      refine g_iload (pc := 164) d_M_printed_164 rfl ?_
      refine g_bipush (pc := 166) (v := nI 16) d_M_printed_166 (by decide) ?_
      refine g_nicmp_lt (pc := 168) (tgt := 191) d_M_printed_168 (by decide) (by omega) (by omega) (fun h => absurd h (by omega)) (fun h168 => ?_)
      refine g_iload (pc := 171) d_M_printed_171 rfl ?_
      refine g_sipush (pc := 173) (v := nI 240) d_M_printed_173 (by decide) ?_
      refine g_nicmp_ge (pc := 176) (tgt := 191) d_M_printed_176 (by decide) (by omega) (by omega) (fun h176 => ?_) (fun h => absurd h (by omega))
      refine g_niinc (pc := 191) (d := 1) [(3, _), (5, _), (4, _), (0, _), (1, _), (2, _)] d_M_printed_191 rfl (by decide) rfl ?_
      refine g_goto (pc := 194) (tgt := 25) d_M_printed_194 (by decide) ?_
      refine g_pick [0, 3, 4, 5] [(3, _), (0, _), (1, _), (2, _)] rfl ?_
      rw [hpp]
      exact ih (pre ++ [t]) i2 r2 (by rw [hsp]; simp) (by rw [hPL, hpc]; exact hP2) (hk.tr hk2)
    · have hmu : mu t = 16 + t / 16 % 32 := by unfold mu; rw [c]; rfl
      have hkl : kLt t = 47 := by unfold kLt; rw [c]; rfl
      have hgi : t / 16 % 32 < 16 := ht2.2.2.2.1 (Or.inl c)
      have hpc : prC t = [kLt t, 65 + t / 16 % 32] := by simp [prC, kSt, kTl, kBd, c]
      refine g_iload_n (pc := 25) d_M_printed_25 rfl ?_
      refine g_bipush (pc := 26) (v := nI 32) d_M_printed_26 (by decide) ?_
      refine g_iload_n (pc := 28) d_M_printed_28 rfl ?_
      refine g_nmul (pc := 29) d_M_printed_29 ?_
      refine g_aload_n (pc := 30) d_M_printed_30 rfl ?_
      refine gm_length (pc := 31) d_M_printed_31 lf_M_13 ?_
      refine g_iload_n (pc := 34) d_M_printed_34 rfl ?_
      refine glm_length (pc := 35) (v := nI R.length) d_M_printed_35 (vp_in_nI (by omega) (by decide)) (by rw [nI_clamp (by omega)]; exact hl1) ?_
      refine g_nadd (pc := 36) d_M_printed_36 ?_
      refine g_nicmp_ge (pc := 37) (tgt := 197) d_M_printed_37 (by decide) (by omega) (by omega) (fun h => absurd h (by omega)) (fun h37 => ?_)
      refine g_aload_n (pc := 40) d_M_printed_40 rfl ?_
      refine gm_row (pc := 41) d_M_printed_41 lf_M_7 ?_
      refine g_iload_n (pc := 44) d_M_printed_44 rfl ?_
      refine glm_row (pc := 45) (v := nI (mu t)) d_M_printed_45 (vp_in_nI (by omega) (by decide)) (by rw [nI_clamp (by omega)]; exact ht1) ?_
      refine g_istore (pc := 46) [(4, _), (3, _), (0, _), (1, _), (2, _)] d_M_printed_46 (by decide) rfl ?_
      refine g_iload (pc := 48) d_M_printed_48 rfl ?_
      refine g_iconst (pc := 50) (v := nI 1) d_M_printed_50 (by decide) ?_
      refine g_nicmp_ne (pc := 51) (tgt := 59) d_M_printed_51 (by decide) (by omega) (by omega) (fun h51 => ?_) (fun h => absurd h (by omega))
      refine g_iload (pc := 59) d_M_printed_59 rfl ?_
      refine g_iconst (pc := 61) (v := nI 2) d_M_printed_61 (by decide) ?_
      refine g_nicmp_ne (pc := 62) (tgt := 70) d_M_printed_62 (by decide) (by omega) (by omega) (fun h62 => ?_) (fun h => absurd h (by omega))
      refine g_iload (pc := 70) d_M_printed_70 rfl ?_
      refine g_iconst (pc := 72) (v := nI 3) d_M_printed_72 (by decide) ?_
      refine g_nicmp_ne (pc := 73) (tgt := 81) d_M_printed_73 (by decide) (by omega) (by omega) (fun h73 => ?_) (fun h => absurd h (by omega))
      refine g_iload (pc := 81) d_M_printed_81 rfl ?_
      refine g_bipush (pc := 83) (v := nI 32) d_M_printed_83 (by decide) ?_
      refine g_nicmp_ge (pc := 85) (tgt := 93) d_M_printed_85 (by decide) (by omega) (by omega) (fun h => absurd h (by omega)) (fun h85 => ?_)
      refine g_bipush (pc := 88) (v := nI 47) d_M_printed_88 (by decide) ?_
      refine g_goto (pc := 90) (tgt := 156) d_M_printed_90 (by decide) ?_
      refine g_topi (nI (kLt t)) (congrArg nI (by omega)) ?_
      refine g_istore (pc := 156) [(5, _), (4, _), (3, _), (0, _), (1, _), (2, _)] d_M_printed_156 (by decide) rfl ?_
      refine g_aload_n (pc := 158) d_M_printed_158 rfl ?_
      refine g_iload (pc := 159) d_M_printed_159 rfl ?_
      refine g_callV (M' := m_M_say) (pc := 161) (q := 0) d_M_printed_161 lm_M_165 (c_M_say (prL pre) (kLt t) hP (by omega)) v_M_say rfl rfl rfl (by decide) rfl (Nat.le_of_ble_eq_true rfl) ?_
      rintro _ _ ⟨i2, r2, rfl, rfl, hP2, hk2⟩
      show pG m_M_printed τ _ 0 0 164 _ _ _
      refine g_iload (pc := 164) d_M_printed_164 rfl ?_
      refine g_bipush (pc := 166) (v := nI 16) d_M_printed_166 (by decide) ?_
      refine g_nicmp_lt (pc := 168) (tgt := 191) d_M_printed_168 (by decide) (by omega) (by omega) (fun h => absurd h (by omega)) (fun h168 => ?_)
      refine g_iload (pc := 171) d_M_printed_171 rfl ?_
      refine g_sipush (pc := 173) (v := nI 240) d_M_printed_173 (by decide) ?_
      refine g_nicmp_ge (pc := 176) (tgt := 191) d_M_printed_176 (by decide) (by omega) (by omega) (fun h => absurd h (by omega)) (fun h176 => ?_)
      refine g_aload_n (pc := 179) d_M_printed_179 rfl ?_
      refine g_bipush (pc := 180) (v := nI 65) d_M_printed_180 (by decide) ?_
      refine g_iload (pc := 182) d_M_printed_182 rfl ?_
      refine g_bipush (pc := 184) (v := nI 15) d_M_printed_184 (by decide) ?_
      refine g_iand (pc := 186) d_M_printed_186 ?_
      rw [pk_andN (by omega) 4 (by decide), show mu t % 2 ^ 4 = t / 16 % 32 by omega]
      refine g_nadd (pc := 187) d_M_printed_187 ?_
      refine g_callV (M' := m_M_say) (pc := 188) (q := 0) d_M_printed_188 lm_M_165 (c_M_say (prL pre ++ [kLt t]) (65 + t / 16 % 32) hP2 (by simp; omega)) v_M_say rfl rfl rfl (by decide) rfl (Nat.le_of_ble_eq_true rfl) ?_
      rintro _ _ ⟨i3, r3, rfl, rfl, hP3, hk3⟩
      rw [List.append_assoc] at hP3
      have hP3 : MP (prL pre ++ [kLt t, 65 + t / 16 % 32]) i3 r3 := hP3
      show pG m_M_printed τ _ 0 0 191 _ _ _
      refine g_niinc (pc := 191) (d := 1) [(3, _), (5, _), (4, _), (0, _), (1, _), (2, _)] d_M_printed_191 rfl (by decide) rfl ?_
      refine g_goto (pc := 194) (tgt := 25) d_M_printed_194 (by decide) ?_
      refine g_pick [0, 3, 4, 5] [(3, _), (0, _), (1, _), (2, _)] rfl ?_
      rw [hpp]
      exact ih (pre ++ [t]) i3 r3 (by rw [hsp]; simp) (by rw [hPL, hpc]; exact hP3) (hk.tr (hk2.tr hk3))
    · have hmu : mu t = 32 + t / 16 % 32 := by unfold mu; rw [c]; rfl
      have hkl : kLt t = 33 := by unfold kLt; rw [c]; rfl
      have hgi : t / 16 % 32 < 16 := ht2.2.2.2.1 (Or.inr c)
      have hpc : prC t = [kLt t, 65 + t / 16 % 32] := by simp [prC, kSt, kTl, kBd, c]
      refine g_iload_n (pc := 25) d_M_printed_25 rfl ?_
      refine g_bipush (pc := 26) (v := nI 32) d_M_printed_26 (by decide) ?_
      refine g_iload_n (pc := 28) d_M_printed_28 rfl ?_
      refine g_nmul (pc := 29) d_M_printed_29 ?_
      refine g_aload_n (pc := 30) d_M_printed_30 rfl ?_
      refine gm_length (pc := 31) d_M_printed_31 lf_M_13 ?_
      refine g_iload_n (pc := 34) d_M_printed_34 rfl ?_
      refine glm_length (pc := 35) (v := nI R.length) d_M_printed_35 (vp_in_nI (by omega) (by decide)) (by rw [nI_clamp (by omega)]; exact hl1) ?_
      refine g_nadd (pc := 36) d_M_printed_36 ?_
      refine g_nicmp_ge (pc := 37) (tgt := 197) d_M_printed_37 (by decide) (by omega) (by omega) (fun h => absurd h (by omega)) (fun h37 => ?_)
      refine g_aload_n (pc := 40) d_M_printed_40 rfl ?_
      refine gm_row (pc := 41) d_M_printed_41 lf_M_7 ?_
      refine g_iload_n (pc := 44) d_M_printed_44 rfl ?_
      refine glm_row (pc := 45) (v := nI (mu t)) d_M_printed_45 (vp_in_nI (by omega) (by decide)) (by rw [nI_clamp (by omega)]; exact ht1) ?_
      refine g_istore (pc := 46) [(4, _), (3, _), (0, _), (1, _), (2, _)] d_M_printed_46 (by decide) rfl ?_
      refine g_iload (pc := 48) d_M_printed_48 rfl ?_
      refine g_iconst (pc := 50) (v := nI 1) d_M_printed_50 (by decide) ?_
      refine g_nicmp_ne (pc := 51) (tgt := 59) d_M_printed_51 (by decide) (by omega) (by omega) (fun h51 => ?_) (fun h => absurd h (by omega))
      refine g_iload (pc := 59) d_M_printed_59 rfl ?_
      refine g_iconst (pc := 61) (v := nI 2) d_M_printed_61 (by decide) ?_
      refine g_nicmp_ne (pc := 62) (tgt := 70) d_M_printed_62 (by decide) (by omega) (by omega) (fun h62 => ?_) (fun h => absurd h (by omega))
      refine g_iload (pc := 70) d_M_printed_70 rfl ?_
      refine g_iconst (pc := 72) (v := nI 3) d_M_printed_72 (by decide) ?_
      refine g_nicmp_ne (pc := 73) (tgt := 81) d_M_printed_73 (by decide) (by omega) (by omega) (fun h73 => ?_) (fun h => absurd h (by omega))
      refine g_iload (pc := 81) d_M_printed_81 rfl ?_
      refine g_bipush (pc := 83) (v := nI 32) d_M_printed_83 (by decide) ?_
      refine g_nicmp_ge (pc := 85) (tgt := 93) d_M_printed_85 (by decide) (by omega) (by omega) (fun h85 => ?_) (fun h => absurd h (by omega))
      refine g_iload (pc := 93) d_M_printed_93 rfl ?_
      refine g_bipush (pc := 95) (v := nI 64) d_M_printed_95 (by decide) ?_
      refine g_nicmp_ge (pc := 97) (tgt := 105) d_M_printed_97 (by decide) (by omega) (by omega) (fun h => absurd h (by omega)) (fun h97 => ?_)
      refine g_bipush (pc := 100) (v := nI 33) d_M_printed_100 (by decide) ?_
      refine g_goto (pc := 102) (tgt := 156) d_M_printed_102 (by decide) ?_
      refine g_topi (nI (kLt t)) (congrArg nI (by omega)) ?_
      refine g_istore (pc := 156) [(5, _), (4, _), (3, _), (0, _), (1, _), (2, _)] d_M_printed_156 (by decide) rfl ?_
      refine g_aload_n (pc := 158) d_M_printed_158 rfl ?_
      refine g_iload (pc := 159) d_M_printed_159 rfl ?_
      refine g_callV (M' := m_M_say) (pc := 161) (q := 0) d_M_printed_161 lm_M_165 (c_M_say (prL pre) (kLt t) hP (by omega)) v_M_say rfl rfl rfl (by decide) rfl (Nat.le_of_ble_eq_true rfl) ?_
      rintro _ _ ⟨i2, r2, rfl, rfl, hP2, hk2⟩
      show pG m_M_printed τ _ 0 0 164 _ _ _
      refine g_iload (pc := 164) d_M_printed_164 rfl ?_
      refine g_bipush (pc := 166) (v := nI 16) d_M_printed_166 (by decide) ?_
      refine g_nicmp_lt (pc := 168) (tgt := 191) d_M_printed_168 (by decide) (by omega) (by omega) (fun h => absurd h (by omega)) (fun h168 => ?_)
      refine g_iload (pc := 171) d_M_printed_171 rfl ?_
      refine g_sipush (pc := 173) (v := nI 240) d_M_printed_173 (by decide) ?_
      refine g_nicmp_ge (pc := 176) (tgt := 191) d_M_printed_176 (by decide) (by omega) (by omega) (fun h => absurd h (by omega)) (fun h176 => ?_)
      refine g_aload_n (pc := 179) d_M_printed_179 rfl ?_
      refine g_bipush (pc := 180) (v := nI 65) d_M_printed_180 (by decide) ?_
      refine g_iload (pc := 182) d_M_printed_182 rfl ?_
      refine g_bipush (pc := 184) (v := nI 15) d_M_printed_184 (by decide) ?_
      refine g_iand (pc := 186) d_M_printed_186 ?_
      rw [pk_andN (by omega) 4 (by decide), show mu t % 2 ^ 4 = t / 16 % 32 by omega]
      refine g_nadd (pc := 187) d_M_printed_187 ?_
      refine g_callV (M' := m_M_say) (pc := 188) (q := 0) d_M_printed_188 lm_M_165 (c_M_say (prL pre ++ [kLt t]) (65 + t / 16 % 32) hP2 (by simp; omega)) v_M_say rfl rfl rfl (by decide) rfl (Nat.le_of_ble_eq_true rfl) ?_
      rintro _ _ ⟨i3, r3, rfl, rfl, hP3, hk3⟩
      rw [List.append_assoc] at hP3
      have hP3 : MP (prL pre ++ [kLt t, 65 + t / 16 % 32]) i3 r3 := hP3
      show pG m_M_printed τ _ 0 0 191 _ _ _
      refine g_niinc (pc := 191) (d := 1) [(3, _), (5, _), (4, _), (0, _), (1, _), (2, _)] d_M_printed_191 rfl (by decide) rfl ?_
      refine g_goto (pc := 194) (tgt := 25) d_M_printed_194 (by decide) ?_
      refine g_pick [0, 3, 4, 5] [(3, _), (0, _), (1, _), (2, _)] rfl ?_
      rw [hpp]
      exact ih (pre ++ [t]) i3 r3 (by rw [hsp]; simp) (by rw [hPL, hpc]; exact hP3) (hk.tr (hk2.tr hk3))
    · have hmu : mu t = 1 := by unfold mu; rw [c]; rfl
      have hkl : kLt t = 64 := by unfold kLt; rw [c]; rfl
      have hgi : t / 16 % 32 < 1 := by rw [ht2.2.2.2.2 (by omega)]; decide
      have hpc : prC t = [kLt t] := by simp [prC, kSt, kTl, kBd, c]
      refine g_iload_n (pc := 25) d_M_printed_25 rfl ?_
      refine g_bipush (pc := 26) (v := nI 32) d_M_printed_26 (by decide) ?_
      refine g_iload_n (pc := 28) d_M_printed_28 rfl ?_
      refine g_nmul (pc := 29) d_M_printed_29 ?_
      refine g_aload_n (pc := 30) d_M_printed_30 rfl ?_
      refine gm_length (pc := 31) d_M_printed_31 lf_M_13 ?_
      refine g_iload_n (pc := 34) d_M_printed_34 rfl ?_
      refine glm_length (pc := 35) (v := nI R.length) d_M_printed_35 (vp_in_nI (by omega) (by decide)) (by rw [nI_clamp (by omega)]; exact hl1) ?_
      refine g_nadd (pc := 36) d_M_printed_36 ?_
      refine g_nicmp_ge (pc := 37) (tgt := 197) d_M_printed_37 (by decide) (by omega) (by omega) (fun h => absurd h (by omega)) (fun h37 => ?_)
      refine g_aload_n (pc := 40) d_M_printed_40 rfl ?_
      refine gm_row (pc := 41) d_M_printed_41 lf_M_7 ?_
      refine g_iload_n (pc := 44) d_M_printed_44 rfl ?_
      refine glm_row (pc := 45) (v := nI (mu t)) d_M_printed_45 (vp_in_nI (by omega) (by decide)) (by rw [nI_clamp (by omega)]; exact ht1) ?_
      refine g_istore (pc := 46) [(4, _), (3, _), (0, _), (1, _), (2, _)] d_M_printed_46 (by decide) rfl ?_
      refine g_iload (pc := 48) d_M_printed_48 rfl ?_
      refine g_iconst (pc := 50) (v := nI 1) d_M_printed_50 (by decide) ?_
      refine g_nicmp_ne (pc := 51) (tgt := 59) d_M_printed_51 (by decide) (by omega) (by omega) (fun h => absurd h (by omega)) (fun h51 => ?_)
      refine g_bipush (pc := 54) (v := nI 64) d_M_printed_54 (by decide) ?_
      refine g_goto (pc := 56) (tgt := 156) d_M_printed_56 (by decide) ?_
      refine g_topi (nI (kLt t)) (congrArg nI (by omega)) ?_
      refine g_istore (pc := 156) [(5, _), (4, _), (3, _), (0, _), (1, _), (2, _)] d_M_printed_156 (by decide) rfl ?_
      refine g_aload_n (pc := 158) d_M_printed_158 rfl ?_
      refine g_iload (pc := 159) d_M_printed_159 rfl ?_
      refine g_callV (M' := m_M_say) (pc := 161) (q := 0) d_M_printed_161 lm_M_165 (c_M_say (prL pre) (kLt t) hP (by omega)) v_M_say rfl rfl rfl (by decide) rfl (Nat.le_of_ble_eq_true rfl) ?_
      rintro _ _ ⟨i2, r2, rfl, rfl, hP2, hk2⟩
      show pG m_M_printed τ _ 0 0 164 _ _ _
      refine g_iload (pc := 164) d_M_printed_164 rfl ?_
      refine g_bipush (pc := 166) (v := nI 16) d_M_printed_166 (by decide) ?_
      refine g_nicmp_lt (pc := 168) (tgt := 191) d_M_printed_168 (by decide) (by omega) (by omega) (fun h168 => ?_) (fun h => absurd h (by omega))
      refine g_niinc (pc := 191) (d := 1) [(3, _), (5, _), (4, _), (0, _), (1, _), (2, _)] d_M_printed_191 rfl (by decide) rfl ?_
      refine g_goto (pc := 194) (tgt := 25) d_M_printed_194 (by decide) ?_
      refine g_pick [0, 3, 4, 5] [(3, _), (0, _), (1, _), (2, _)] rfl ?_
      rw [hpp]
      exact ih (pre ++ [t]) i2 r2 (by rw [hsp]; simp) (by rw [hPL, hpc]; exact hP2) (hk.tr hk2)
    · have hmu : mu t = 2 := by unfold mu; rw [c]; rfl
      have hkl : kLt t = 62 := by unfold kLt; rw [c]; rfl
      have hgi : t / 16 % 32 < 1 := by rw [ht2.2.2.2.2 (by omega)]; decide
      have hpc : prC t = [kLt t] := by simp [prC, kSt, kTl, kBd, c]
      refine g_iload_n (pc := 25) d_M_printed_25 rfl ?_
      refine g_bipush (pc := 26) (v := nI 32) d_M_printed_26 (by decide) ?_
      refine g_iload_n (pc := 28) d_M_printed_28 rfl ?_
      refine g_nmul (pc := 29) d_M_printed_29 ?_
      refine g_aload_n (pc := 30) d_M_printed_30 rfl ?_
      refine gm_length (pc := 31) d_M_printed_31 lf_M_13 ?_
      refine g_iload_n (pc := 34) d_M_printed_34 rfl ?_
      refine glm_length (pc := 35) (v := nI R.length) d_M_printed_35 (vp_in_nI (by omega) (by decide)) (by rw [nI_clamp (by omega)]; exact hl1) ?_
      refine g_nadd (pc := 36) d_M_printed_36 ?_
      refine g_nicmp_ge (pc := 37) (tgt := 197) d_M_printed_37 (by decide) (by omega) (by omega) (fun h => absurd h (by omega)) (fun h37 => ?_)
      refine g_aload_n (pc := 40) d_M_printed_40 rfl ?_
      refine gm_row (pc := 41) d_M_printed_41 lf_M_7 ?_
      refine g_iload_n (pc := 44) d_M_printed_44 rfl ?_
      refine glm_row (pc := 45) (v := nI (mu t)) d_M_printed_45 (vp_in_nI (by omega) (by decide)) (by rw [nI_clamp (by omega)]; exact ht1) ?_
      refine g_istore (pc := 46) [(4, _), (3, _), (0, _), (1, _), (2, _)] d_M_printed_46 (by decide) rfl ?_
      refine g_iload (pc := 48) d_M_printed_48 rfl ?_
      refine g_iconst (pc := 50) (v := nI 1) d_M_printed_50 (by decide) ?_
      refine g_nicmp_ne (pc := 51) (tgt := 59) d_M_printed_51 (by decide) (by omega) (by omega) (fun h51 => ?_) (fun h => absurd h (by omega))
      refine g_iload (pc := 59) d_M_printed_59 rfl ?_
      refine g_iconst (pc := 61) (v := nI 2) d_M_printed_61 (by decide) ?_
      refine g_nicmp_ne (pc := 62) (tgt := 70) d_M_printed_62 (by decide) (by omega) (by omega) (fun h => absurd h (by omega)) (fun h62 => ?_)
      refine g_bipush (pc := 65) (v := nI 62) d_M_printed_65 (by decide) ?_
      refine g_goto (pc := 67) (tgt := 156) d_M_printed_67 (by decide) ?_
      refine g_topi (nI (kLt t)) (congrArg nI (by omega)) ?_
      refine g_istore (pc := 156) [(5, _), (4, _), (3, _), (0, _), (1, _), (2, _)] d_M_printed_156 (by decide) rfl ?_
      refine g_aload_n (pc := 158) d_M_printed_158 rfl ?_
      refine g_iload (pc := 159) d_M_printed_159 rfl ?_
      refine g_callV (M' := m_M_say) (pc := 161) (q := 0) d_M_printed_161 lm_M_165 (c_M_say (prL pre) (kLt t) hP (by omega)) v_M_say rfl rfl rfl (by decide) rfl (Nat.le_of_ble_eq_true rfl) ?_
      rintro _ _ ⟨i2, r2, rfl, rfl, hP2, hk2⟩
      show pG m_M_printed τ _ 0 0 164 _ _ _
      refine g_iload (pc := 164) d_M_printed_164 rfl ?_
      refine g_bipush (pc := 166) (v := nI 16) d_M_printed_166 (by decide) ?_
      refine g_nicmp_lt (pc := 168) (tgt := 191) d_M_printed_168 (by decide) (by omega) (by omega) (fun h168 => ?_) (fun h => absurd h (by omega))
      refine g_niinc (pc := 191) (d := 1) [(3, _), (5, _), (4, _), (0, _), (1, _), (2, _)] d_M_printed_191 rfl (by decide) rfl ?_
      refine g_goto (pc := 194) (tgt := 25) d_M_printed_194 (by decide) ?_
      refine g_pick [0, 3, 4, 5] [(3, _), (0, _), (1, _), (2, _)] rfl ?_
      rw [hpp]
      exact ih (pre ++ [t]) i2 r2 (by rw [hsp]; simp) (by rw [hPL, hpc]; exact hP2) (hk.tr hk2)
    · have hmu : mu t = 3 := by unfold mu; rw [c]; rfl
      have hkl : kLt t = 61 := by unfold kLt; rw [c]; rfl
      have hgi : t / 16 % 32 < 1 := by rw [ht2.2.2.2.2 (by omega)]; decide
      have hpc : prC t = [kLt t] := by simp [prC, kSt, kTl, kBd, c]
      refine g_iload_n (pc := 25) d_M_printed_25 rfl ?_
      refine g_bipush (pc := 26) (v := nI 32) d_M_printed_26 (by decide) ?_
      refine g_iload_n (pc := 28) d_M_printed_28 rfl ?_
      refine g_nmul (pc := 29) d_M_printed_29 ?_
      refine g_aload_n (pc := 30) d_M_printed_30 rfl ?_
      refine gm_length (pc := 31) d_M_printed_31 lf_M_13 ?_
      refine g_iload_n (pc := 34) d_M_printed_34 rfl ?_
      refine glm_length (pc := 35) (v := nI R.length) d_M_printed_35 (vp_in_nI (by omega) (by decide)) (by rw [nI_clamp (by omega)]; exact hl1) ?_
      refine g_nadd (pc := 36) d_M_printed_36 ?_
      refine g_nicmp_ge (pc := 37) (tgt := 197) d_M_printed_37 (by decide) (by omega) (by omega) (fun h => absurd h (by omega)) (fun h37 => ?_)
      refine g_aload_n (pc := 40) d_M_printed_40 rfl ?_
      refine gm_row (pc := 41) d_M_printed_41 lf_M_7 ?_
      refine g_iload_n (pc := 44) d_M_printed_44 rfl ?_
      refine glm_row (pc := 45) (v := nI (mu t)) d_M_printed_45 (vp_in_nI (by omega) (by decide)) (by rw [nI_clamp (by omega)]; exact ht1) ?_
      refine g_istore (pc := 46) [(4, _), (3, _), (0, _), (1, _), (2, _)] d_M_printed_46 (by decide) rfl ?_
      refine g_iload (pc := 48) d_M_printed_48 rfl ?_
      refine g_iconst (pc := 50) (v := nI 1) d_M_printed_50 (by decide) ?_
      refine g_nicmp_ne (pc := 51) (tgt := 59) d_M_printed_51 (by decide) (by omega) (by omega) (fun h51 => ?_) (fun h => absurd h (by omega))
      refine g_iload (pc := 59) d_M_printed_59 rfl ?_
      refine g_iconst (pc := 61) (v := nI 2) d_M_printed_61 (by decide) ?_
      refine g_nicmp_ne (pc := 62) (tgt := 70) d_M_printed_62 (by decide) (by omega) (by omega) (fun h62 => ?_) (fun h => absurd h (by omega))
      refine g_iload (pc := 70) d_M_printed_70 rfl ?_
      refine g_iconst (pc := 72) (v := nI 3) d_M_printed_72 (by decide) ?_
      refine g_nicmp_ne (pc := 73) (tgt := 81) d_M_printed_73 (by decide) (by omega) (by omega) (fun h => absurd h (by omega)) (fun h73 => ?_)
      refine g_bipush (pc := 76) (v := nI 61) d_M_printed_76 (by decide) ?_
      refine g_goto (pc := 78) (tgt := 156) d_M_printed_78 (by decide) ?_
      refine g_topi (nI (kLt t)) (congrArg nI (by omega)) ?_
      refine g_istore (pc := 156) [(5, _), (4, _), (3, _), (0, _), (1, _), (2, _)] d_M_printed_156 (by decide) rfl ?_
      refine g_aload_n (pc := 158) d_M_printed_158 rfl ?_
      refine g_iload (pc := 159) d_M_printed_159 rfl ?_
      refine g_callV (M' := m_M_say) (pc := 161) (q := 0) d_M_printed_161 lm_M_165 (c_M_say (prL pre) (kLt t) hP (by omega)) v_M_say rfl rfl rfl (by decide) rfl (Nat.le_of_ble_eq_true rfl) ?_
      rintro _ _ ⟨i2, r2, rfl, rfl, hP2, hk2⟩
      show pG m_M_printed τ _ 0 0 164 _ _ _
      refine g_iload (pc := 164) d_M_printed_164 rfl ?_
      refine g_bipush (pc := 166) (v := nI 16) d_M_printed_166 (by decide) ?_
      refine g_nicmp_lt (pc := 168) (tgt := 191) d_M_printed_168 (by decide) (by omega) (by omega) (fun h168 => ?_) (fun h => absurd h (by omega))
      refine g_niinc (pc := 191) (d := 1) [(3, _), (5, _), (4, _), (0, _), (1, _), (2, _)] d_M_printed_191 rfl (by decide) rfl ?_
      refine g_goto (pc := 194) (tgt := 25) d_M_printed_194 (by decide) ?_
      refine g_pick [0, 3, 4, 5] [(3, _), (0, _), (1, _), (2, _)] rfl ?_
      rw [hpp]
      exact ih (pre ++ [t]) i2 r2 (by rw [hsp]; simp) (by rw [hPL, hpc]; exact hP2) (hk.tr hk2)
set_option maxRecDepth 100000 in
set_option maxHeartbeats 4000000 in
theorem c_M_printed {τ : Nat × Nat} {a : Nat → Nat} {i : Nat → Int32} {r : Nat → Nat → Int32} {L : Nat → Nat → Int64} {z : Int64} {wr : pW} {Ty : List (Nat × Nat)} {Tm : List (List Nat)} {Th : List Thm} {d : List Nat} (t j : Int32) (hI : MI Ty Tm Th (dcl Tm) d i r L) (gs : GS Ty Tm Th) : pC m_M_printed τ [.ref (a 0), .int t, .int j] (wM a i r L z ++ wr) ((fun rr w2 => ∃ i2 r2 L2 z2 d2, rr = some (.int (sPrinted Tm t j)) ∧ w2 = wM a i2 r2 L2 z2 ++ wr ∧ MI (Ty) (Tm) (Th) (dcl (Tm)) d2 i2 r2 L2 ∧ GS (Ty) (Tm) (Th))) := by
  refine pC.of rfl (Nat.le_of_ble_eq_true rfl) ?_
  show pG m_M_printed τ _ 0 0 0 [(0, _), (1, _), (2, _)] [] _
  obtain ⟨b1, b2, b3, b4, b5, b6, b7⟩ := hI.b
  refine g_aload_n (pc := 0) d_M_printed_0 rfl ?_
  refine g_iload_n (pc := 1) d_M_printed_1 rfl ?_
  refine g_callV (M' := m_M_isTerm) (pc := 2) (q := 0) d_M_printed_2 lm_M_99 (c_M_isTerm Tm.length b5 (by omega) _) v_M_isTerm rfl rfl rfl (by decide) rfl (Nat.le_of_ble_eq_true rfl) ?_
  rintro _ _ ⟨rfl, rfl⟩
  show pG m_M_printed τ _ 0 0 5 _ (.int _ :: _) _
  refine g_ifb_eq (pc := 5) (tgt := 13) d_M_printed_5 (by decide) (fun h5 => ?_) (fun h5 => ?_)
  · refine g_iconst (pc := 13) (v := -1) d_M_printed_13 (by decide) ?_
    refine g_iret (pc := 14) d_M_printed_14 rfl (Nat.le_refl _) (Nat.le_refl _) ?_
    have e : sPrinted Tm t j = -1 := by
      rw [sPrinted]
      first
      | (rw [h5]; rfl)
      | exact (if_pos h5).trans ((if_neg (jm2 h10).2).trans (if_neg (by rw [ixB_neg (jm2 h10).1]; decide)))
    exact ⟨i, r, L, z, d, by rw [e], rfl, hI, gs⟩
  · refine g_iload_n (pc := 8) d_M_printed_8 rfl ?_
    refine g_iconst (pc := 9) (v := -1) d_M_printed_9 (by decide) ?_
    refine g_icmp_ge (pc := 10) (tgt := 15) d_M_printed_10 (by decide) (fun h10 => ?_) (fun h10 => ?_)
    · obtain ⟨t0, ht0, rfl⟩ := ixB_of h5 (by omega)
      obtain ⟨R, hR0⟩ := get_of ht0
      obtain ⟨p1, p2, p3, p4, p5, p6⟩ := hI.2.1.mg gs.1 hR0
      have eR := rwT_at hR0 b2
      refine g_aload_n (pc := 15) d_M_printed_15 rfl ?_
      refine g_iconst (pc := 16) (v := nI 0) d_M_printed_16 (by decide) ?_
      refine gm_size_p (pc := 17) d_M_printed_17 lf_M_162 ?_
      refine g_bipush (pc := 20) (v := nI 32) d_M_printed_20 (by decide) ?_
      refine g_iload_n (pc := 22) d_M_printed_22 rfl ?_
      refine g_nmul (pc := 23) d_M_printed_23 ?_
      refine g_istore_n (pc := 24) [(3, _), (0, _), (1, _), (2, _)] d_M_printed_24 (by decide) rfl ?_
      refine g_pick [0, 1, 2, 3] [(3, _), (0, _), (1, _), (2, _)] rfl ?_
      refine c_M_printed_1 t0 R j b2 hR0 p3 p4 p1 h10 _ ?_ R [] _ _ rfl ⟨pk_us, fun j x hj => by simp [prL] at hj⟩ ⟨fun _ _ => rfl, fun _ _ => rfl⟩
      intro i2 r2 hk
      have hk2 : PKp i r i2 r2 := PKp.tr ⟨fun j hj => pk_un hj, fun _ _ => rfl⟩ hk
      exact ⟨i2, r2, L, z, d, rfl, rfl, hI.pk hk2, gs⟩
    · refine g_iconst (pc := 13) (v := -1) d_M_printed_13 (by decide) ?_
      refine g_iret (pc := 14) d_M_printed_14 rfl (Nat.le_refl _) (Nat.le_refl _) ?_
      have e : sPrinted Tm t j = -1 := by
        rw [sPrinted]
        first
        | (rw [h5]; rfl)
        | exact (if_pos h5).trans ((if_neg (jm2 h10).2).trans (if_neg (by rw [ixB_neg (jm2 h10).1]; decide)))
      exact ⟨i, r, L, z, d, by rw [e], rfl, hI, gs⟩
