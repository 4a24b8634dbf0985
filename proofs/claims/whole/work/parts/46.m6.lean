/-! The reference: rule, its two ends. By wip/whole/m_m6.py -/
set_option maxRecDepth 100000 in
set_option maxHeartbeats 4000000 in
theorem c_M_named_0 {τ : Nat × Nat} {w : pW} : pC m_M_named τ [.int (nI 0)] w (fun r w2 => r = some (.int (nI 0)) ∧ w2 = w) := by
  refine pC.of rfl (Nat.le_of_ble_eq_true rfl) ?_
  show pG m_M_named τ _ 0 0 0 [(0, _)] [] _
  refine g_iload_n (pc := 0) d_M_named_0 rfl ?_
  refine g_nif_eq (pc := 1) (tgt := 21) d_M_named_1 (by decide) (by omega) (fun h1 => ?_) (fun h => absurd h (by decide))
  refine g_iconst (pc := 21) (v := nI 0) d_M_named_21 (by decide) ?_
  refine g_goto (pc := 22) (tgt := 53) d_M_named_22 (by decide) ?_
  refine g_iret (pc := 53) d_M_named_53 rfl (Nat.le_refl _) (Nat.le_refl _) ?_
  exact ⟨rfl, rfl⟩
set_option maxRecDepth 100000 in
set_option maxHeartbeats 4000000 in
theorem c_M_named_1 {τ : Nat × Nat} {w : pW} : pC m_M_named τ [.int (nI 1)] w (fun r w2 => r = some (.int (nI 0)) ∧ w2 = w) := by
  refine pC.of rfl (Nat.le_of_ble_eq_true rfl) ?_
  show pG m_M_named τ _ 0 0 0 [(0, _)] [] _
  refine g_iload_n (pc := 0) d_M_named_0 rfl ?_
  refine g_nif_eq (pc := 1) (tgt := 21) d_M_named_1 (by decide) (by omega) (fun h => absurd h (by decide)) (fun h1 => ?_)
  refine g_iload_n (pc := 4) d_M_named_4 rfl ?_
  refine g_iconst (pc := 5) (v := nI 1) d_M_named_5 (by decide) ?_
  refine g_nicmp_eq (pc := 6) (tgt := 21) d_M_named_6 (by decide) (by omega) (by omega) (fun h6 => ?_) (fun h => absurd h (by decide))
  refine g_iconst (pc := 21) (v := nI 0) d_M_named_21 (by decide) ?_
  refine g_goto (pc := 22) (tgt := 53) d_M_named_22 (by decide) ?_
  refine g_iret (pc := 53) d_M_named_53 rfl (Nat.le_refl _) (Nat.le_refl _) ?_
  exact ⟨rfl, rfl⟩
set_option maxRecDepth 100000 in
set_option maxHeartbeats 4000000 in
theorem c_M_named_2 {τ : Nat × Nat} {w : pW} : pC m_M_named τ [.int (nI 2)] w (fun r w2 => r = some (.int (nI 1)) ∧ w2 = w) := by
  refine pC.of rfl (Nat.le_of_ble_eq_true rfl) ?_
  show pG m_M_named τ _ 0 0 0 [(0, _)] [] _
  refine g_iload_n (pc := 0) d_M_named_0 rfl ?_
  refine g_nif_eq (pc := 1) (tgt := 21) d_M_named_1 (by decide) (by omega) (fun h => absurd h (by decide)) (fun h1 => ?_)
  refine g_iload_n (pc := 4) d_M_named_4 rfl ?_
  refine g_iconst (pc := 5) (v := nI 1) d_M_named_5 (by decide) ?_
  refine g_nicmp_eq (pc := 6) (tgt := 21) d_M_named_6 (by decide) (by omega) (by omega) (fun h => absurd h (by decide)) (fun h6 => ?_)
  refine g_iload_n (pc := 9) d_M_named_9 rfl ?_
  refine g_bipush (pc := 10) (v := nI 6) d_M_named_10 (by decide) ?_
  refine g_nicmp_eq (pc := 12) (tgt := 21) d_M_named_12 (by decide) (by omega) (by omega) (fun h => absurd h (by decide)) (fun h12 => ?_)
  refine g_iload_n (pc := 15) d_M_named_15 rfl ?_
  refine g_bipush (pc := 16) (v := nI 11) d_M_named_16 (by decide) ?_
  refine g_nicmp_ne (pc := 18) (tgt := 25) d_M_named_18 (by decide) (by omega) (by omega) (fun h18 => ?_) (fun h => absurd h (by decide))
  refine g_iload_n (pc := 25) d_M_named_25 rfl ?_
  refine g_iconst (pc := 26) (v := nI 3) d_M_named_26 (by decide) ?_
  refine g_nicmp_eq (pc := 27) (tgt := 48) d_M_named_27 (by decide) (by omega) (by omega) (fun h => absurd h (by decide)) (fun h27 => ?_)
  refine g_iload_n (pc := 30) d_M_named_30 rfl ?_
  refine g_bipush (pc := 31) (v := nI 8) d_M_named_31 (by decide) ?_
  refine g_nicmp_eq (pc := 33) (tgt := 48) d_M_named_33 (by decide) (by omega) (by omega) (fun h => absurd h (by decide)) (fun h33 => ?_)
  refine g_iload_n (pc := 36) d_M_named_36 rfl ?_
  refine g_bipush (pc := 37) (v := nI 9) d_M_named_37 (by decide) ?_
  refine g_nicmp_eq (pc := 39) (tgt := 48) d_M_named_39 (by decide) (by omega) (by omega) (fun h => absurd h (by decide)) (fun h39 => ?_)
  refine g_iload_n (pc := 42) d_M_named_42 rfl ?_
  refine g_bipush (pc := 43) (v := nI 12) d_M_named_43 (by decide) ?_
  refine g_nicmp_ne (pc := 45) (tgt := 52) d_M_named_45 (by decide) (by omega) (by omega) (fun h45 => ?_) (fun h => absurd h (by decide))
  refine g_iconst (pc := 52) (v := nI 1) d_M_named_52 (by decide) ?_
  refine g_iret (pc := 53) d_M_named_53 rfl (Nat.le_refl _) (Nat.le_refl _) ?_
  exact ⟨rfl, rfl⟩
set_option maxRecDepth 100000 in
set_option maxHeartbeats 4000000 in
theorem c_M_named_3 {τ : Nat × Nat} {w : pW} : pC m_M_named τ [.int (nI 3)] w (fun r w2 => r = some (.int (nI 2)) ∧ w2 = w) := by
  refine pC.of rfl (Nat.le_of_ble_eq_true rfl) ?_
  show pG m_M_named τ _ 0 0 0 [(0, _)] [] _
  refine g_iload_n (pc := 0) d_M_named_0 rfl ?_
  refine g_nif_eq (pc := 1) (tgt := 21) d_M_named_1 (by decide) (by omega) (fun h => absurd h (by decide)) (fun h1 => ?_)
  refine g_iload_n (pc := 4) d_M_named_4 rfl ?_
  refine g_iconst (pc := 5) (v := nI 1) d_M_named_5 (by decide) ?_
  refine g_nicmp_eq (pc := 6) (tgt := 21) d_M_named_6 (by decide) (by omega) (by omega) (fun h => absurd h (by decide)) (fun h6 => ?_)
  refine g_iload_n (pc := 9) d_M_named_9 rfl ?_
  refine g_bipush (pc := 10) (v := nI 6) d_M_named_10 (by decide) ?_
  refine g_nicmp_eq (pc := 12) (tgt := 21) d_M_named_12 (by decide) (by omega) (by omega) (fun h => absurd h (by decide)) (fun h12 => ?_)
  refine g_iload_n (pc := 15) d_M_named_15 rfl ?_
  refine g_bipush (pc := 16) (v := nI 11) d_M_named_16 (by decide) ?_
  refine g_nicmp_ne (pc := 18) (tgt := 25) d_M_named_18 (by decide) (by omega) (by omega) (fun h18 => ?_) (fun h => absurd h (by decide))
  refine g_iload_n (pc := 25) d_M_named_25 rfl ?_
  refine g_iconst (pc := 26) (v := nI 3) d_M_named_26 (by decide) ?_
  refine g_nicmp_eq (pc := 27) (tgt := 48) d_M_named_27 (by decide) (by omega) (by omega) (fun h27 => ?_) (fun h => absurd h (by decide))
  refine g_iconst (pc := 48) (v := nI 2) d_M_named_48 (by decide) ?_
  refine g_goto (pc := 49) (tgt := 53) d_M_named_49 (by decide) ?_
  refine g_iret (pc := 53) d_M_named_53 rfl (Nat.le_refl _) (Nat.le_refl _) ?_
  exact ⟨rfl, rfl⟩
set_option maxRecDepth 100000 in
set_option maxHeartbeats 4000000 in
theorem c_M_named_4 {τ : Nat × Nat} {w : pW} : pC m_M_named τ [.int (nI 4)] w (fun r w2 => r = some (.int (nI 1)) ∧ w2 = w) := by
  refine pC.of rfl (Nat.le_of_ble_eq_true rfl) ?_
  show pG m_M_named τ _ 0 0 0 [(0, _)] [] _
  refine g_iload_n (pc := 0) d_M_named_0 rfl ?_
  refine g_nif_eq (pc := 1) (tgt := 21) d_M_named_1 (by decide) (by omega) (fun h => absurd h (by decide)) (fun h1 => ?_)
  refine g_iload_n (pc := 4) d_M_named_4 rfl ?_
  refine g_iconst (pc := 5) (v := nI 1) d_M_named_5 (by decide) ?_
  refine g_nicmp_eq (pc := 6) (tgt := 21) d_M_named_6 (by decide) (by omega) (by omega) (fun h => absurd h (by decide)) (fun h6 => ?_)
  refine g_iload_n (pc := 9) d_M_named_9 rfl ?_
  refine g_bipush (pc := 10) (v := nI 6) d_M_named_10 (by decide) ?_
  refine g_nicmp_eq (pc := 12) (tgt := 21) d_M_named_12 (by decide) (by omega) (by omega) (fun h => absurd h (by decide)) (fun h12 => ?_)
  refine g_iload_n (pc := 15) d_M_named_15 rfl ?_
  refine g_bipush (pc := 16) (v := nI 11) d_M_named_16 (by decide) ?_
  refine g_nicmp_ne (pc := 18) (tgt := 25) d_M_named_18 (by decide) (by omega) (by omega) (fun h18 => ?_) (fun h => absurd h (by decide))
  refine g_iload_n (pc := 25) d_M_named_25 rfl ?_
  refine g_iconst (pc := 26) (v := nI 3) d_M_named_26 (by decide) ?_
  refine g_nicmp_eq (pc := 27) (tgt := 48) d_M_named_27 (by decide) (by omega) (by omega) (fun h => absurd h (by decide)) (fun h27 => ?_)
  refine g_iload_n (pc := 30) d_M_named_30 rfl ?_
  refine g_bipush (pc := 31) (v := nI 8) d_M_named_31 (by decide) ?_
  refine g_nicmp_eq (pc := 33) (tgt := 48) d_M_named_33 (by decide) (by omega) (by omega) (fun h => absurd h (by decide)) (fun h33 => ?_)
  refine g_iload_n (pc := 36) d_M_named_36 rfl ?_
  refine g_bipush (pc := 37) (v := nI 9) d_M_named_37 (by decide) ?_
  refine g_nicmp_eq (pc := 39) (tgt := 48) d_M_named_39 (by decide) (by omega) (by omega) (fun h => absurd h (by decide)) (fun h39 => ?_)
  refine g_iload_n (pc := 42) d_M_named_42 rfl ?_
  refine g_bipush (pc := 43) (v := nI 12) d_M_named_43 (by decide) ?_
  refine g_nicmp_ne (pc := 45) (tgt := 52) d_M_named_45 (by decide) (by omega) (by omega) (fun h45 => ?_) (fun h => absurd h (by decide))
  refine g_iconst (pc := 52) (v := nI 1) d_M_named_52 (by decide) ?_
  refine g_iret (pc := 53) d_M_named_53 rfl (Nat.le_refl _) (Nat.le_refl _) ?_
  exact ⟨rfl, rfl⟩
set_option maxRecDepth 100000 in
set_option maxHeartbeats 4000000 in
theorem c_M_named_5 {τ : Nat × Nat} {w : pW} : pC m_M_named τ [.int (nI 5)] w (fun r w2 => r = some (.int (nI 1)) ∧ w2 = w) := by
  refine pC.of rfl (Nat.le_of_ble_eq_true rfl) ?_
  show pG m_M_named τ _ 0 0 0 [(0, _)] [] _
  refine g_iload_n (pc := 0) d_M_named_0 rfl ?_
  refine g_nif_eq (pc := 1) (tgt := 21) d_M_named_1 (by decide) (by omega) (fun h => absurd h (by decide)) (fun h1 => ?_)
  refine g_iload_n (pc := 4) d_M_named_4 rfl ?_
  refine g_iconst (pc := 5) (v := nI 1) d_M_named_5 (by decide) ?_
  refine g_nicmp_eq (pc := 6) (tgt := 21) d_M_named_6 (by decide) (by omega) (by omega) (fun h => absurd h (by decide)) (fun h6 => ?_)
  refine g_iload_n (pc := 9) d_M_named_9 rfl ?_
  refine g_bipush (pc := 10) (v := nI 6) d_M_named_10 (by decide) ?_
  refine g_nicmp_eq (pc := 12) (tgt := 21) d_M_named_12 (by decide) (by omega) (by omega) (fun h => absurd h (by decide)) (fun h12 => ?_)
  refine g_iload_n (pc := 15) d_M_named_15 rfl ?_
  refine g_bipush (pc := 16) (v := nI 11) d_M_named_16 (by decide) ?_
  refine g_nicmp_ne (pc := 18) (tgt := 25) d_M_named_18 (by decide) (by omega) (by omega) (fun h18 => ?_) (fun h => absurd h (by decide))
  refine g_iload_n (pc := 25) d_M_named_25 rfl ?_
  refine g_iconst (pc := 26) (v := nI 3) d_M_named_26 (by decide) ?_
  refine g_nicmp_eq (pc := 27) (tgt := 48) d_M_named_27 (by decide) (by omega) (by omega) (fun h => absurd h (by decide)) (fun h27 => ?_)
  refine g_iload_n (pc := 30) d_M_named_30 rfl ?_
  refine g_bipush (pc := 31) (v := nI 8) d_M_named_31 (by decide) ?_
  refine g_nicmp_eq (pc := 33) (tgt := 48) d_M_named_33 (by decide) (by omega) (by omega) (fun h => absurd h (by decide)) (fun h33 => ?_)
  refine g_iload_n (pc := 36) d_M_named_36 rfl ?_
  refine g_bipush (pc := 37) (v := nI 9) d_M_named_37 (by decide) ?_
  refine g_nicmp_eq (pc := 39) (tgt := 48) d_M_named_39 (by decide) (by omega) (by omega) (fun h => absurd h (by decide)) (fun h39 => ?_)
  refine g_iload_n (pc := 42) d_M_named_42 rfl ?_
  refine g_bipush (pc := 43) (v := nI 12) d_M_named_43 (by decide) ?_
  refine g_nicmp_ne (pc := 45) (tgt := 52) d_M_named_45 (by decide) (by omega) (by omega) (fun h45 => ?_) (fun h => absurd h (by decide))
  refine g_iconst (pc := 52) (v := nI 1) d_M_named_52 (by decide) ?_
  refine g_iret (pc := 53) d_M_named_53 rfl (Nat.le_refl _) (Nat.le_refl _) ?_
  exact ⟨rfl, rfl⟩
set_option maxRecDepth 100000 in
set_option maxHeartbeats 4000000 in
theorem c_M_named_6 {τ : Nat × Nat} {w : pW} : pC m_M_named τ [.int (nI 6)] w (fun r w2 => r = some (.int (nI 0)) ∧ w2 = w) := by
  refine pC.of rfl (Nat.le_of_ble_eq_true rfl) ?_
  show pG m_M_named τ _ 0 0 0 [(0, _)] [] _
  refine g_iload_n (pc := 0) d_M_named_0 rfl ?_
  refine g_nif_eq (pc := 1) (tgt := 21) d_M_named_1 (by decide) (by omega) (fun h => absurd h (by decide)) (fun h1 => ?_)
  refine g_iload_n (pc := 4) d_M_named_4 rfl ?_
  refine g_iconst (pc := 5) (v := nI 1) d_M_named_5 (by decide) ?_
  refine g_nicmp_eq (pc := 6) (tgt := 21) d_M_named_6 (by decide) (by omega) (by omega) (fun h => absurd h (by decide)) (fun h6 => ?_)
  refine g_iload_n (pc := 9) d_M_named_9 rfl ?_
  refine g_bipush (pc := 10) (v := nI 6) d_M_named_10 (by decide) ?_
  refine g_nicmp_eq (pc := 12) (tgt := 21) d_M_named_12 (by decide) (by omega) (by omega) (fun h12 => ?_) (fun h => absurd h (by decide))
  refine g_iconst (pc := 21) (v := nI 0) d_M_named_21 (by decide) ?_
  refine g_goto (pc := 22) (tgt := 53) d_M_named_22 (by decide) ?_
  refine g_iret (pc := 53) d_M_named_53 rfl (Nat.le_refl _) (Nat.le_refl _) ?_
  exact ⟨rfl, rfl⟩
set_option maxRecDepth 100000 in
set_option maxHeartbeats 4000000 in
theorem c_M_named_7 {τ : Nat × Nat} {w : pW} : pC m_M_named τ [.int (nI 7)] w (fun r w2 => r = some (.int (nI 1)) ∧ w2 = w) := by
  refine pC.of rfl (Nat.le_of_ble_eq_true rfl) ?_
  show pG m_M_named τ _ 0 0 0 [(0, _)] [] _
  refine g_iload_n (pc := 0) d_M_named_0 rfl ?_
  refine g_nif_eq (pc := 1) (tgt := 21) d_M_named_1 (by decide) (by omega) (fun h => absurd h (by decide)) (fun h1 => ?_)
  refine g_iload_n (pc := 4) d_M_named_4 rfl ?_
  refine g_iconst (pc := 5) (v := nI 1) d_M_named_5 (by decide) ?_
  refine g_nicmp_eq (pc := 6) (tgt := 21) d_M_named_6 (by decide) (by omega) (by omega) (fun h => absurd h (by decide)) (fun h6 => ?_)
  refine g_iload_n (pc := 9) d_M_named_9 rfl ?_
  refine g_bipush (pc := 10) (v := nI 6) d_M_named_10 (by decide) ?_
  refine g_nicmp_eq (pc := 12) (tgt := 21) d_M_named_12 (by decide) (by omega) (by omega) (fun h => absurd h (by decide)) (fun h12 => ?_)
  refine g_iload_n (pc := 15) d_M_named_15 rfl ?_
  refine g_bipush (pc := 16) (v := nI 11) d_M_named_16 (by decide) ?_
  refine g_nicmp_ne (pc := 18) (tgt := 25) d_M_named_18 (by decide) (by omega) (by omega) (fun h18 => ?_) (fun h => absurd h (by decide))
  refine g_iload_n (pc := 25) d_M_named_25 rfl ?_
  refine g_iconst (pc := 26) (v := nI 3) d_M_named_26 (by decide) ?_
  refine g_nicmp_eq (pc := 27) (tgt := 48) d_M_named_27 (by decide) (by omega) (by omega) (fun h => absurd h (by decide)) (fun h27 => ?_)
  refine g_iload_n (pc := 30) d_M_named_30 rfl ?_
  refine g_bipush (pc := 31) (v := nI 8) d_M_named_31 (by decide) ?_
  refine g_nicmp_eq (pc := 33) (tgt := 48) d_M_named_33 (by decide) (by omega) (by omega) (fun h => absurd h (by decide)) (fun h33 => ?_)
  refine g_iload_n (pc := 36) d_M_named_36 rfl ?_
  refine g_bipush (pc := 37) (v := nI 9) d_M_named_37 (by decide) ?_
  refine g_nicmp_eq (pc := 39) (tgt := 48) d_M_named_39 (by decide) (by omega) (by omega) (fun h => absurd h (by decide)) (fun h39 => ?_)
  refine g_iload_n (pc := 42) d_M_named_42 rfl ?_
  refine g_bipush (pc := 43) (v := nI 12) d_M_named_43 (by decide) ?_
  refine g_nicmp_ne (pc := 45) (tgt := 52) d_M_named_45 (by decide) (by omega) (by omega) (fun h45 => ?_) (fun h => absurd h (by decide))
  refine g_iconst (pc := 52) (v := nI 1) d_M_named_52 (by decide) ?_
  refine g_iret (pc := 53) d_M_named_53 rfl (Nat.le_refl _) (Nat.le_refl _) ?_
  exact ⟨rfl, rfl⟩
set_option maxRecDepth 100000 in
set_option maxHeartbeats 4000000 in
theorem c_M_named_8 {τ : Nat × Nat} {w : pW} : pC m_M_named τ [.int (nI 8)] w (fun r w2 => r = some (.int (nI 2)) ∧ w2 = w) := by
  refine pC.of rfl (Nat.le_of_ble_eq_true rfl) ?_
  show pG m_M_named τ _ 0 0 0 [(0, _)] [] _
  refine g_iload_n (pc := 0) d_M_named_0 rfl ?_
  refine g_nif_eq (pc := 1) (tgt := 21) d_M_named_1 (by decide) (by omega) (fun h => absurd h (by decide)) (fun h1 => ?_)
  refine g_iload_n (pc := 4) d_M_named_4 rfl ?_
  refine g_iconst (pc := 5) (v := nI 1) d_M_named_5 (by decide) ?_
  refine g_nicmp_eq (pc := 6) (tgt := 21) d_M_named_6 (by decide) (by omega) (by omega) (fun h => absurd h (by decide)) (fun h6 => ?_)
  refine g_iload_n (pc := 9) d_M_named_9 rfl ?_
  refine g_bipush (pc := 10) (v := nI 6) d_M_named_10 (by decide) ?_
  refine g_nicmp_eq (pc := 12) (tgt := 21) d_M_named_12 (by decide) (by omega) (by omega) (fun h => absurd h (by decide)) (fun h12 => ?_)
  refine g_iload_n (pc := 15) d_M_named_15 rfl ?_
  refine g_bipush (pc := 16) (v := nI 11) d_M_named_16 (by decide) ?_
  refine g_nicmp_ne (pc := 18) (tgt := 25) d_M_named_18 (by decide) (by omega) (by omega) (fun h18 => ?_) (fun h => absurd h (by decide))
  refine g_iload_n (pc := 25) d_M_named_25 rfl ?_
  refine g_iconst (pc := 26) (v := nI 3) d_M_named_26 (by decide) ?_
  refine g_nicmp_eq (pc := 27) (tgt := 48) d_M_named_27 (by decide) (by omega) (by omega) (fun h => absurd h (by decide)) (fun h27 => ?_)
  refine g_iload_n (pc := 30) d_M_named_30 rfl ?_
  refine g_bipush (pc := 31) (v := nI 8) d_M_named_31 (by decide) ?_
  refine g_nicmp_eq (pc := 33) (tgt := 48) d_M_named_33 (by decide) (by omega) (by omega) (fun h33 => ?_) (fun h => absurd h (by decide))
  refine g_iconst (pc := 48) (v := nI 2) d_M_named_48 (by decide) ?_
  refine g_goto (pc := 49) (tgt := 53) d_M_named_49 (by decide) ?_
  refine g_iret (pc := 53) d_M_named_53 rfl (Nat.le_refl _) (Nat.le_refl _) ?_
  exact ⟨rfl, rfl⟩
set_option maxRecDepth 100000 in
set_option maxHeartbeats 4000000 in
theorem c_M_named_9 {τ : Nat × Nat} {w : pW} : pC m_M_named τ [.int (nI 9)] w (fun r w2 => r = some (.int (nI 2)) ∧ w2 = w) := by
  refine pC.of rfl (Nat.le_of_ble_eq_true rfl) ?_
  show pG m_M_named τ _ 0 0 0 [(0, _)] [] _
  refine g_iload_n (pc := 0) d_M_named_0 rfl ?_
  refine g_nif_eq (pc := 1) (tgt := 21) d_M_named_1 (by decide) (by omega) (fun h => absurd h (by decide)) (fun h1 => ?_)
  refine g_iload_n (pc := 4) d_M_named_4 rfl ?_
  refine g_iconst (pc := 5) (v := nI 1) d_M_named_5 (by decide) ?_
  refine g_nicmp_eq (pc := 6) (tgt := 21) d_M_named_6 (by decide) (by omega) (by omega) (fun h => absurd h (by decide)) (fun h6 => ?_)
  refine g_iload_n (pc := 9) d_M_named_9 rfl ?_
  refine g_bipush (pc := 10) (v := nI 6) d_M_named_10 (by decide) ?_
  refine g_nicmp_eq (pc := 12) (tgt := 21) d_M_named_12 (by decide) (by omega) (by omega) (fun h => absurd h (by decide)) (fun h12 => ?_)
  refine g_iload_n (pc := 15) d_M_named_15 rfl ?_
  refine g_bipush (pc := 16) (v := nI 11) d_M_named_16 (by decide) ?_
  refine g_nicmp_ne (pc := 18) (tgt := 25) d_M_named_18 (by decide) (by omega) (by omega) (fun h18 => ?_) (fun h => absurd h (by decide))
  refine g_iload_n (pc := 25) d_M_named_25 rfl ?_
  refine g_iconst (pc := 26) (v := nI 3) d_M_named_26 (by decide) ?_
  refine g_nicmp_eq (pc := 27) (tgt := 48) d_M_named_27 (by decide) (by omega) (by omega) (fun h => absurd h (by decide)) (fun h27 => ?_)
  refine g_iload_n (pc := 30) d_M_named_30 rfl ?_
  refine g_bipush (pc := 31) (v := nI 8) d_M_named_31 (by decide) ?_
  refine g_nicmp_eq (pc := 33) (tgt := 48) d_M_named_33 (by decide) (by omega) (by omega) (fun h => absurd h (by decide)) (fun h33 => ?_)
  refine g_iload_n (pc := 36) d_M_named_36 rfl ?_
  refine g_bipush (pc := 37) (v := nI 9) d_M_named_37 (by decide) ?_
  refine g_nicmp_eq (pc := 39) (tgt := 48) d_M_named_39 (by decide) (by omega) (by omega) (fun h39 => ?_) (fun h => absurd h (by decide))
  refine g_iconst (pc := 48) (v := nI 2) d_M_named_48 (by decide) ?_
  refine g_goto (pc := 49) (tgt := 53) d_M_named_49 (by decide) ?_
  refine g_iret (pc := 53) d_M_named_53 rfl (Nat.le_refl _) (Nat.le_refl _) ?_
  exact ⟨rfl, rfl⟩
set_option maxRecDepth 100000 in
set_option maxHeartbeats 4000000 in
theorem c_M_named_10 {τ : Nat × Nat} {w : pW} : pC m_M_named τ [.int (nI 10)] w (fun r w2 => r = some (.int (nI 1)) ∧ w2 = w) := by
  refine pC.of rfl (Nat.le_of_ble_eq_true rfl) ?_
  show pG m_M_named τ _ 0 0 0 [(0, _)] [] _
  refine g_iload_n (pc := 0) d_M_named_0 rfl ?_
  refine g_nif_eq (pc := 1) (tgt := 21) d_M_named_1 (by decide) (by omega) (fun h => absurd h (by decide)) (fun h1 => ?_)
  refine g_iload_n (pc := 4) d_M_named_4 rfl ?_
  refine g_iconst (pc := 5) (v := nI 1) d_M_named_5 (by decide) ?_
  refine g_nicmp_eq (pc := 6) (tgt := 21) d_M_named_6 (by decide) (by omega) (by omega) (fun h => absurd h (by decide)) (fun h6 => ?_)
  refine g_iload_n (pc := 9) d_M_named_9 rfl ?_
  refine g_bipush (pc := 10) (v := nI 6) d_M_named_10 (by decide) ?_
  refine g_nicmp_eq (pc := 12) (tgt := 21) d_M_named_12 (by decide) (by omega) (by omega) (fun h => absurd h (by decide)) (fun h12 => ?_)
  refine g_iload_n (pc := 15) d_M_named_15 rfl ?_
  refine g_bipush (pc := 16) (v := nI 11) d_M_named_16 (by decide) ?_
  refine g_nicmp_ne (pc := 18) (tgt := 25) d_M_named_18 (by decide) (by omega) (by omega) (fun h18 => ?_) (fun h => absurd h (by decide))
  refine g_iload_n (pc := 25) d_M_named_25 rfl ?_
  refine g_iconst (pc := 26) (v := nI 3) d_M_named_26 (by decide) ?_
  refine g_nicmp_eq (pc := 27) (tgt := 48) d_M_named_27 (by decide) (by omega) (by omega) (fun h => absurd h (by decide)) (fun h27 => ?_)
  refine g_iload_n (pc := 30) d_M_named_30 rfl ?_
  refine g_bipush (pc := 31) (v := nI 8) d_M_named_31 (by decide) ?_
  refine g_nicmp_eq (pc := 33) (tgt := 48) d_M_named_33 (by decide) (by omega) (by omega) (fun h => absurd h (by decide)) (fun h33 => ?_)
  refine g_iload_n (pc := 36) d_M_named_36 rfl ?_
  refine g_bipush (pc := 37) (v := nI 9) d_M_named_37 (by decide) ?_
  refine g_nicmp_eq (pc := 39) (tgt := 48) d_M_named_39 (by decide) (by omega) (by omega) (fun h => absurd h (by decide)) (fun h39 => ?_)
  refine g_iload_n (pc := 42) d_M_named_42 rfl ?_
  refine g_bipush (pc := 43) (v := nI 12) d_M_named_43 (by decide) ?_
  refine g_nicmp_ne (pc := 45) (tgt := 52) d_M_named_45 (by decide) (by omega) (by omega) (fun h45 => ?_) (fun h => absurd h (by decide))
  refine g_iconst (pc := 52) (v := nI 1) d_M_named_52 (by decide) ?_
  refine g_iret (pc := 53) d_M_named_53 rfl (Nat.le_refl _) (Nat.le_refl _) ?_
  exact ⟨rfl, rfl⟩
set_option maxRecDepth 100000 in
set_option maxHeartbeats 4000000 in
theorem c_M_named_11 {τ : Nat × Nat} {w : pW} : pC m_M_named τ [.int (nI 11)] w (fun r w2 => r = some (.int (nI 0)) ∧ w2 = w) := by
  refine pC.of rfl (Nat.le_of_ble_eq_true rfl) ?_
  show pG m_M_named τ _ 0 0 0 [(0, _)] [] _
  refine g_iload_n (pc := 0) d_M_named_0 rfl ?_
  refine g_nif_eq (pc := 1) (tgt := 21) d_M_named_1 (by decide) (by omega) (fun h => absurd h (by decide)) (fun h1 => ?_)
  refine g_iload_n (pc := 4) d_M_named_4 rfl ?_
  refine g_iconst (pc := 5) (v := nI 1) d_M_named_5 (by decide) ?_
  refine g_nicmp_eq (pc := 6) (tgt := 21) d_M_named_6 (by decide) (by omega) (by omega) (fun h => absurd h (by decide)) (fun h6 => ?_)
  refine g_iload_n (pc := 9) d_M_named_9 rfl ?_
  refine g_bipush (pc := 10) (v := nI 6) d_M_named_10 (by decide) ?_
  refine g_nicmp_eq (pc := 12) (tgt := 21) d_M_named_12 (by decide) (by omega) (by omega) (fun h => absurd h (by decide)) (fun h12 => ?_)
  refine g_iload_n (pc := 15) d_M_named_15 rfl ?_
  refine g_bipush (pc := 16) (v := nI 11) d_M_named_16 (by decide) ?_
  refine g_nicmp_ne (pc := 18) (tgt := 25) d_M_named_18 (by decide) (by omega) (by omega) (fun h => absurd h (by decide)) (fun h18 => ?_)
  refine g_iconst (pc := 21) (v := nI 0) d_M_named_21 (by decide) ?_
  refine g_goto (pc := 22) (tgt := 53) d_M_named_22 (by decide) ?_
  refine g_iret (pc := 53) d_M_named_53 rfl (Nat.le_refl _) (Nat.le_refl _) ?_
  exact ⟨rfl, rfl⟩
set_option maxRecDepth 100000 in
set_option maxHeartbeats 4000000 in
theorem c_M_named_12 {τ : Nat × Nat} {w : pW} : pC m_M_named τ [.int (nI 12)] w (fun r w2 => r = some (.int (nI 2)) ∧ w2 = w) := by
  refine pC.of rfl (Nat.le_of_ble_eq_true rfl) ?_
  show pG m_M_named τ _ 0 0 0 [(0, _)] [] _
  refine g_iload_n (pc := 0) d_M_named_0 rfl ?_
  refine g_nif_eq (pc := 1) (tgt := 21) d_M_named_1 (by decide) (by omega) (fun h => absurd h (by decide)) (fun h1 => ?_)
  refine g_iload_n (pc := 4) d_M_named_4 rfl ?_
  refine g_iconst (pc := 5) (v := nI 1) d_M_named_5 (by decide) ?_
  refine g_nicmp_eq (pc := 6) (tgt := 21) d_M_named_6 (by decide) (by omega) (by omega) (fun h => absurd h (by decide)) (fun h6 => ?_)
  refine g_iload_n (pc := 9) d_M_named_9 rfl ?_
  refine g_bipush (pc := 10) (v := nI 6) d_M_named_10 (by decide) ?_
  refine g_nicmp_eq (pc := 12) (tgt := 21) d_M_named_12 (by decide) (by omega) (by omega) (fun h => absurd h (by decide)) (fun h12 => ?_)
  refine g_iload_n (pc := 15) d_M_named_15 rfl ?_
  refine g_bipush (pc := 16) (v := nI 11) d_M_named_16 (by decide) ?_
  refine g_nicmp_ne (pc := 18) (tgt := 25) d_M_named_18 (by decide) (by omega) (by omega) (fun h18 => ?_) (fun h => absurd h (by decide))
  refine g_iload_n (pc := 25) d_M_named_25 rfl ?_
  refine g_iconst (pc := 26) (v := nI 3) d_M_named_26 (by decide) ?_
  refine g_nicmp_eq (pc := 27) (tgt := 48) d_M_named_27 (by decide) (by omega) (by omega) (fun h => absurd h (by decide)) (fun h27 => ?_)
  refine g_iload_n (pc := 30) d_M_named_30 rfl ?_
  refine g_bipush (pc := 31) (v := nI 8) d_M_named_31 (by decide) ?_
  refine g_nicmp_eq (pc := 33) (tgt := 48) d_M_named_33 (by decide) (by omega) (by omega) (fun h => absurd h (by decide)) (fun h33 => ?_)
  refine g_iload_n (pc := 36) d_M_named_36 rfl ?_
  refine g_bipush (pc := 37) (v := nI 9) d_M_named_37 (by decide) ?_
  refine g_nicmp_eq (pc := 39) (tgt := 48) d_M_named_39 (by decide) (by omega) (by omega) (fun h => absurd h (by decide)) (fun h39 => ?_)
  refine g_iload_n (pc := 42) d_M_named_42 rfl ?_
  refine g_bipush (pc := 43) (v := nI 12) d_M_named_43 (by decide) ?_
  refine g_nicmp_ne (pc := 45) (tgt := 52) d_M_named_45 (by decide) (by omega) (by omega) (fun h => absurd h (by decide)) (fun h45 => ?_)
  refine g_iconst (pc := 48) (v := nI 2) d_M_named_48 (by decide) ?_
  refine g_goto (pc := 49) (tgt := 53) d_M_named_49 (by decide) ?_
  refine g_iret (pc := 53) d_M_named_53 rfl (Nat.le_refl _) (Nat.le_refl _) ?_
  exact ⟨rfl, rfl⟩
set_option maxRecDepth 100000 in
set_option maxHeartbeats 4000000 in
theorem c_M_named_13 {τ : Nat × Nat} {w : pW} : pC m_M_named τ [.int (nI 13)] w (fun r w2 => r = some (.int (nI 1)) ∧ w2 = w) := by
  refine pC.of rfl (Nat.le_of_ble_eq_true rfl) ?_
  show pG m_M_named τ _ 0 0 0 [(0, _)] [] _
  refine g_iload_n (pc := 0) d_M_named_0 rfl ?_
  refine g_nif_eq (pc := 1) (tgt := 21) d_M_named_1 (by decide) (by omega) (fun h => absurd h (by decide)) (fun h1 => ?_)
  refine g_iload_n (pc := 4) d_M_named_4 rfl ?_
  refine g_iconst (pc := 5) (v := nI 1) d_M_named_5 (by decide) ?_
  refine g_nicmp_eq (pc := 6) (tgt := 21) d_M_named_6 (by decide) (by omega) (by omega) (fun h => absurd h (by decide)) (fun h6 => ?_)
  refine g_iload_n (pc := 9) d_M_named_9 rfl ?_
  refine g_bipush (pc := 10) (v := nI 6) d_M_named_10 (by decide) ?_
  refine g_nicmp_eq (pc := 12) (tgt := 21) d_M_named_12 (by decide) (by omega) (by omega) (fun h => absurd h (by decide)) (fun h12 => ?_)
  refine g_iload_n (pc := 15) d_M_named_15 rfl ?_
  refine g_bipush (pc := 16) (v := nI 11) d_M_named_16 (by decide) ?_
  refine g_nicmp_ne (pc := 18) (tgt := 25) d_M_named_18 (by decide) (by omega) (by omega) (fun h18 => ?_) (fun h => absurd h (by decide))
  refine g_iload_n (pc := 25) d_M_named_25 rfl ?_
  refine g_iconst (pc := 26) (v := nI 3) d_M_named_26 (by decide) ?_
  refine g_nicmp_eq (pc := 27) (tgt := 48) d_M_named_27 (by decide) (by omega) (by omega) (fun h => absurd h (by decide)) (fun h27 => ?_)
  refine g_iload_n (pc := 30) d_M_named_30 rfl ?_
  refine g_bipush (pc := 31) (v := nI 8) d_M_named_31 (by decide) ?_
  refine g_nicmp_eq (pc := 33) (tgt := 48) d_M_named_33 (by decide) (by omega) (by omega) (fun h => absurd h (by decide)) (fun h33 => ?_)
  refine g_iload_n (pc := 36) d_M_named_36 rfl ?_
  refine g_bipush (pc := 37) (v := nI 9) d_M_named_37 (by decide) ?_
  refine g_nicmp_eq (pc := 39) (tgt := 48) d_M_named_39 (by decide) (by omega) (by omega) (fun h => absurd h (by decide)) (fun h39 => ?_)
  refine g_iload_n (pc := 42) d_M_named_42 rfl ?_
  refine g_bipush (pc := 43) (v := nI 12) d_M_named_43 (by decide) ?_
  refine g_nicmp_ne (pc := 45) (tgt := 52) d_M_named_45 (by decide) (by omega) (by omega) (fun h45 => ?_) (fun h => absurd h (by decide))
  refine g_iconst (pc := 52) (v := nI 1) d_M_named_52 (by decide) ?_
  refine g_iret (pc := 53) d_M_named_53 rfl (Nat.le_refl _) (Nat.le_refl _) ?_
  exact ⟨rfl, rfl⟩
theorem prB_nI {q n : Nat} (hq : q < 2 ^ 31) : prB (nI q) n = (ixB (nI (q / 64)) n && ixB (nI (q % 64)) n) := by
  rw [prB, ixB_nI (by omega), ixB_nI (by omega), nI_clamp hq, decide_eq_true (nI_pos hq)]
  rfl
theorem prB_neg {y : Int32} {n : Nat} (h : y < 0) : prB y n = false := by
  rw [prB, decide_eq_false (fun q => q h)]
  rfl
set_option maxRecDepth 100000 in
set_option maxHeartbeats 4000000 in
theorem c_M_there_0 {τ : Nat × Nat} {a : Nat → Nat} {i : Nat → Int32} {r : Nat → Nat → Int32} {L : Nat → Nat → Int64} {z : Int64} {wr : pW} (Tm : List (List Nat)) (Th : List Thm) (b5 : i 1 = nI Tm.length) (b6 : i 3 = nI Th.length) (b2 : Tm.length ≤ 60) (b3 : Th.length ≤ 40) (x y : Int32) : pC m_M_there τ [.ref (a 0), .int (nI 0), .int x, .int y] (wM a i r L z ++ wr) (fun rr w2 => rr = some (.int (bI (ixB x Tm.length && true))) ∧ w2 = wM a i r L z ++ wr) := by
  refine pC.of rfl (Nat.le_of_ble_eq_true rfl) ?_
  show pG m_M_there τ _ 0 0 0 [(0, _), (1, _), (2, _), (3, _)] [] _
  refine g_iload_n (pc := 0) d_M_there_0 rfl ?_
  refine g_callS (M' := m_M_named) (pc := 1) d_M_there_1 lm_M_125 c_M_named_0 v_M_named rfl (by decide) rfl (Nat.le_of_ble_eq_true rfl) ?_
  rintro _ _ ⟨rfl, rfl⟩
  show pG m_M_there τ _ 0 0 4 _ (.int _ :: _) _
  refine g_istore (pc := 4) [(4, _), (0, _), (1, _), (2, _), (3, _)] d_M_there_4 (by decide) rfl ?_
  refine g_iload (pc := 6) d_M_there_6 rfl ?_
  refine g_nif_ne (pc := 8) (tgt := 17) d_M_there_8 (by decide) (by omega) (fun h => absurd h (by decide)) (fun h8 => ?_)
  refine g_aload_n (pc := 11) d_M_there_11 rfl ?_
  refine g_iload_n (pc := 12) d_M_there_12 rfl ?_
  refine g_callV (M' := m_M_isTerm) (pc := 13) (q := 0) d_M_there_13 lm_M_99 (c_M_isTerm Tm.length b5 (by omega) _) v_M_isTerm rfl rfl rfl (by decide) rfl (Nat.le_of_ble_eq_true rfl) ?_
  rintro _ _ ⟨rfl, rfl⟩
  show pG m_M_there τ _ 0 0 16 _ (.int _ :: _) _
  refine g_zret (pc := 16) d_M_there_16 rfl (narrow_bI _) (Nat.le_refl _) (Nat.le_refl _) ?_
  exact ⟨by rw [Bool.and_true], rfl⟩
set_option maxRecDepth 100000 in
set_option maxHeartbeats 4000000 in
theorem c_M_there_1 {τ : Nat × Nat} {a : Nat → Nat} {i : Nat → Int32} {r : Nat → Nat → Int32} {L : Nat → Nat → Int64} {z : Int64} {wr : pW} (Tm : List (List Nat)) (Th : List Thm) (b5 : i 1 = nI Tm.length) (b6 : i 3 = nI Th.length) (b2 : Tm.length ≤ 60) (b3 : Th.length ≤ 40) (x y : Int32) : pC m_M_there τ [.ref (a 0), .int (nI 1), .int x, .int y] (wM a i r L z ++ wr) (fun rr w2 => rr = some (.int (bI (ixB x Tm.length && true))) ∧ w2 = wM a i r L z ++ wr) := by
  refine pC.of rfl (Nat.le_of_ble_eq_true rfl) ?_
  show pG m_M_there τ _ 0 0 0 [(0, _), (1, _), (2, _), (3, _)] [] _
  refine g_iload_n (pc := 0) d_M_there_0 rfl ?_
  refine g_callS (M' := m_M_named) (pc := 1) d_M_there_1 lm_M_125 c_M_named_1 v_M_named rfl (by decide) rfl (Nat.le_of_ble_eq_true rfl) ?_
  rintro _ _ ⟨rfl, rfl⟩
  show pG m_M_there τ _ 0 0 4 _ (.int _ :: _) _
  refine g_istore (pc := 4) [(4, _), (0, _), (1, _), (2, _), (3, _)] d_M_there_4 (by decide) rfl ?_
  refine g_iload (pc := 6) d_M_there_6 rfl ?_
  refine g_nif_ne (pc := 8) (tgt := 17) d_M_there_8 (by decide) (by omega) (fun h => absurd h (by decide)) (fun h8 => ?_)
  refine g_aload_n (pc := 11) d_M_there_11 rfl ?_
  refine g_iload_n (pc := 12) d_M_there_12 rfl ?_
  refine g_callV (M' := m_M_isTerm) (pc := 13) (q := 0) d_M_there_13 lm_M_99 (c_M_isTerm Tm.length b5 (by omega) _) v_M_isTerm rfl rfl rfl (by decide) rfl (Nat.le_of_ble_eq_true rfl) ?_
  rintro _ _ ⟨rfl, rfl⟩
  show pG m_M_there τ _ 0 0 16 _ (.int _ :: _) _
  refine g_zret (pc := 16) d_M_there_16 rfl (narrow_bI _) (Nat.le_refl _) (Nat.le_refl _) ?_
  exact ⟨by rw [Bool.and_true], rfl⟩
set_option maxRecDepth 100000 in
set_option maxHeartbeats 4000000 in
theorem c_M_there_2 {τ : Nat × Nat} {a : Nat → Nat} {i : Nat → Int32} {r : Nat → Nat → Int32} {L : Nat → Nat → Int64} {z : Int64} {wr : pW} (Tm : List (List Nat)) (Th : List Thm) (b5 : i 1 = nI Tm.length) (b6 : i 3 = nI Th.length) (b2 : Tm.length ≤ 60) (b3 : Th.length ≤ 40) (x y : Int32) : pC m_M_there τ [.ref (a 0), .int (nI 2), .int x, .int y] (wM a i r L z ++ wr) (fun rr w2 => rr = some (.int (bI (ixB x Th.length && ixB y Tm.length))) ∧ w2 = wM a i r L z ++ wr) := by
  refine pC.of rfl (Nat.le_of_ble_eq_true rfl) ?_
  show pG m_M_there τ _ 0 0 0 [(0, _), (1, _), (2, _), (3, _)] [] _
  refine g_iload_n (pc := 0) d_M_there_0 rfl ?_
  refine g_callS (M' := m_M_named) (pc := 1) d_M_there_1 lm_M_125 c_M_named_2 v_M_named rfl (by decide) rfl (Nat.le_of_ble_eq_true rfl) ?_
  rintro _ _ ⟨rfl, rfl⟩
  show pG m_M_there τ _ 0 0 4 _ (.int _ :: _) _
  refine g_istore (pc := 4) [(4, _), (0, _), (1, _), (2, _), (3, _)] d_M_there_4 (by decide) rfl ?_
  refine g_iload (pc := 6) d_M_there_6 rfl ?_
  refine g_nif_ne (pc := 8) (tgt := 17) d_M_there_8 (by decide) (by omega) (fun h8 => ?_) (fun h => absurd h (by decide))
  refine g_aload_n (pc := 17) d_M_there_17 rfl ?_
  refine g_iload_n (pc := 18) d_M_there_18 rfl ?_
  refine g_callV (M' := m_M_isTheorem) (pc := 19) (q := 0) d_M_there_19 lm_M_128 (c_M_isTheorem Th.length b6 (by omega) _) v_M_isTheorem rfl rfl rfl (by decide) rfl (Nat.le_of_ble_eq_true rfl) ?_
  rintro _ _ ⟨rfl, rfl⟩
  show pG m_M_there τ _ 0 0 22 _ (.int _ :: _) _
  refine g_ifb_ne (pc := 22) (tgt := 27) d_M_there_22 (by decide) (fun h22 => ?_) (fun h22 => ?_)
  · refine g_iload (pc := 27) d_M_there_27 rfl ?_
    refine g_iconst (pc := 29) (v := nI 2) d_M_there_29 (by decide) ?_
    refine g_nicmp_ne (pc := 30) (tgt := 39) d_M_there_30 (by decide) (by omega) (by omega) (fun h30 => ?_) (fun h => absurd h (by decide))
    refine g_iload_n (pc := 39) d_M_there_39 rfl ?_
    refine g_bipush (pc := 40) (v := nI 7) d_M_there_40 (by decide) ?_
    refine g_nicmp_eq (pc := 42) (tgt := 88) d_M_there_42 (by decide) (by omega) (by omega) (fun h => absurd h (by decide)) (fun h42 => ?_)
    refine g_iload_n (pc := 45) d_M_there_45 rfl ?_
    refine g_bipush (pc := 46) (v := nI 13) d_M_there_46 (by decide) ?_
    refine g_nicmp_ne (pc := 48) (tgt := 80) d_M_there_48 (by decide) (by omega) (by omega) (fun h48 => ?_) (fun h => absurd h (by decide))
    refine g_aload_n (pc := 80) d_M_there_80 rfl ?_
    refine g_iload_n (pc := 81) d_M_there_81 rfl ?_
    refine g_callV (M' := m_M_isTerm) (pc := 82) (q := 0) d_M_there_82 lm_M_99 (c_M_isTerm Tm.length b5 (by omega) _) v_M_isTerm rfl rfl rfl (by decide) rfl (Nat.le_of_ble_eq_true rfl) ?_
    rintro _ _ ⟨rfl, rfl⟩
    show pG m_M_there τ _ 0 0 85 _ (.int _ :: _) _
    refine g_ifb_eq (pc := 85) (tgt := 92) d_M_there_85 (by decide) (fun h85 => ?_) (fun h85 => ?_)
    · refine g_iconst (pc := 92) (v := nI 0) d_M_there_92 (by decide) ?_
      refine g_zret (pc := 93) d_M_there_93 rfl (by decide) (Nat.le_refl _) (Nat.le_refl _) ?_
      refine ⟨congrArg (fun v => some (Value.int v)) ?_, rfl⟩
      first | exact bI_0 (by rw [h22, h85]; rfl) | exact bI_1 (by rw [h22, h85]; rfl)
    · refine g_iconst (pc := 88) (v := nI 1) d_M_there_88 (by decide) ?_
      refine g_goto (pc := 89) (tgt := 93) d_M_there_89 (by decide) ?_
      refine g_zret (pc := 93) d_M_there_93 rfl (by decide) (Nat.le_refl _) (Nat.le_refl _) ?_
      refine ⟨congrArg (fun v => some (Value.int v)) ?_, rfl⟩
      first | exact bI_0 (by rw [h22, h85]; rfl) | exact bI_1 (by rw [h22, h85]; rfl)
  · refine g_iconst (pc := 25) (v := nI 0) d_M_there_25 (by decide) ?_
    refine g_zret (pc := 26) d_M_there_26 rfl (by decide) (Nat.le_refl _) (Nat.le_refl _) ?_
    refine ⟨congrArg (fun v => some (Value.int v)) ?_, rfl⟩
    exact bI_0 (by rw [h22]; rfl)
set_option maxRecDepth 100000 in
set_option maxHeartbeats 4000000 in
theorem c_M_there_3 {τ : Nat × Nat} {a : Nat → Nat} {i : Nat → Int32} {r : Nat → Nat → Int32} {L : Nat → Nat → Int64} {z : Int64} {wr : pW} (Tm : List (List Nat)) (Th : List Thm) (b5 : i 1 = nI Tm.length) (b6 : i 3 = nI Th.length) (b2 : Tm.length ≤ 60) (b3 : Th.length ≤ 40) (x y : Int32) : pC m_M_there τ [.ref (a 0), .int (nI 3), .int x, .int y] (wM a i r L z ++ wr) (fun rr w2 => rr = some (.int (bI (ixB x Th.length && ixB y Th.length))) ∧ w2 = wM a i r L z ++ wr) := by
  refine pC.of rfl (Nat.le_of_ble_eq_true rfl) ?_
  show pG m_M_there τ _ 0 0 0 [(0, _), (1, _), (2, _), (3, _)] [] _
  refine g_iload_n (pc := 0) d_M_there_0 rfl ?_
  refine g_callS (M' := m_M_named) (pc := 1) d_M_there_1 lm_M_125 c_M_named_3 v_M_named rfl (by decide) rfl (Nat.le_of_ble_eq_true rfl) ?_
  rintro _ _ ⟨rfl, rfl⟩
  show pG m_M_there τ _ 0 0 4 _ (.int _ :: _) _
  refine g_istore (pc := 4) [(4, _), (0, _), (1, _), (2, _), (3, _)] d_M_there_4 (by decide) rfl ?_
  refine g_iload (pc := 6) d_M_there_6 rfl ?_
  refine g_nif_ne (pc := 8) (tgt := 17) d_M_there_8 (by decide) (by omega) (fun h8 => ?_) (fun h => absurd h (by decide))
  refine g_aload_n (pc := 17) d_M_there_17 rfl ?_
  refine g_iload_n (pc := 18) d_M_there_18 rfl ?_
  refine g_callV (M' := m_M_isTheorem) (pc := 19) (q := 0) d_M_there_19 lm_M_128 (c_M_isTheorem Th.length b6 (by omega) _) v_M_isTheorem rfl rfl rfl (by decide) rfl (Nat.le_of_ble_eq_true rfl) ?_
  rintro _ _ ⟨rfl, rfl⟩
  show pG m_M_there τ _ 0 0 22 _ (.int _ :: _) _
  refine g_ifb_ne (pc := 22) (tgt := 27) d_M_there_22 (by decide) (fun h22 => ?_) (fun h22 => ?_)
  · refine g_iload (pc := 27) d_M_there_27 rfl ?_
    refine g_iconst (pc := 29) (v := nI 2) d_M_there_29 (by decide) ?_
    refine g_nicmp_ne (pc := 30) (tgt := 39) d_M_there_30 (by decide) (by omega) (by omega) (fun h => absurd h (by decide)) (fun h30 => ?_)
    refine g_aload_n (pc := 33) d_M_there_33 rfl ?_
    refine g_iload_n (pc := 34) d_M_there_34 rfl ?_
    refine g_callV (M' := m_M_isTheorem) (pc := 35) (q := 0) d_M_there_35 lm_M_128 (c_M_isTheorem Th.length b6 (by omega) _) v_M_isTheorem rfl rfl rfl (by decide) rfl (Nat.le_of_ble_eq_true rfl) ?_
    rintro _ _ ⟨rfl, rfl⟩
    show pG m_M_there τ _ 0 0 38 _ (.int _ :: _) _
    refine g_zret (pc := 38) d_M_there_38 rfl (narrow_bI _) (Nat.le_refl _) (Nat.le_refl _) ?_
    exact ⟨by rw [h22]; rfl, rfl⟩
  · refine g_iconst (pc := 25) (v := nI 0) d_M_there_25 (by decide) ?_
    refine g_zret (pc := 26) d_M_there_26 rfl (by decide) (Nat.le_refl _) (Nat.le_refl _) ?_
    refine ⟨congrArg (fun v => some (Value.int v)) ?_, rfl⟩
    exact bI_0 (by rw [h22]; rfl)
set_option maxRecDepth 100000 in
set_option maxHeartbeats 4000000 in
theorem c_M_there_4 {τ : Nat × Nat} {a : Nat → Nat} {i : Nat → Int32} {r : Nat → Nat → Int32} {L : Nat → Nat → Int64} {z : Int64} {wr : pW} (Tm : List (List Nat)) (Th : List Thm) (b5 : i 1 = nI Tm.length) (b6 : i 3 = nI Th.length) (b2 : Tm.length ≤ 60) (b3 : Th.length ≤ 40) (x y : Int32) : pC m_M_there τ [.ref (a 0), .int (nI 4), .int x, .int y] (wM a i r L z ++ wr) (fun rr w2 => rr = some (.int (bI (ixB x Th.length && ixB y Tm.length))) ∧ w2 = wM a i r L z ++ wr) := by
  refine pC.of rfl (Nat.le_of_ble_eq_true rfl) ?_
  show pG m_M_there τ _ 0 0 0 [(0, _), (1, _), (2, _), (3, _)] [] _
  refine g_iload_n (pc := 0) d_M_there_0 rfl ?_
  refine g_callS (M' := m_M_named) (pc := 1) d_M_there_1 lm_M_125 c_M_named_4 v_M_named rfl (by decide) rfl (Nat.le_of_ble_eq_true rfl) ?_
  rintro _ _ ⟨rfl, rfl⟩
  show pG m_M_there τ _ 0 0 4 _ (.int _ :: _) _
  refine g_istore (pc := 4) [(4, _), (0, _), (1, _), (2, _), (3, _)] d_M_there_4 (by decide) rfl ?_
  refine g_iload (pc := 6) d_M_there_6 rfl ?_
  refine g_nif_ne (pc := 8) (tgt := 17) d_M_there_8 (by decide) (by omega) (fun h8 => ?_) (fun h => absurd h (by decide))
  refine g_aload_n (pc := 17) d_M_there_17 rfl ?_
  refine g_iload_n (pc := 18) d_M_there_18 rfl ?_
  refine g_callV (M' := m_M_isTheorem) (pc := 19) (q := 0) d_M_there_19 lm_M_128 (c_M_isTheorem Th.length b6 (by omega) _) v_M_isTheorem rfl rfl rfl (by decide) rfl (Nat.le_of_ble_eq_true rfl) ?_
  rintro _ _ ⟨rfl, rfl⟩
  show pG m_M_there τ _ 0 0 22 _ (.int _ :: _) _
  refine g_ifb_ne (pc := 22) (tgt := 27) d_M_there_22 (by decide) (fun h22 => ?_) (fun h22 => ?_)
  · refine g_iload (pc := 27) d_M_there_27 rfl ?_
    refine g_iconst (pc := 29) (v := nI 2) d_M_there_29 (by decide) ?_
    refine g_nicmp_ne (pc := 30) (tgt := 39) d_M_there_30 (by decide) (by omega) (by omega) (fun h30 => ?_) (fun h => absurd h (by decide))
    refine g_iload_n (pc := 39) d_M_there_39 rfl ?_
    refine g_bipush (pc := 40) (v := nI 7) d_M_there_40 (by decide) ?_
    refine g_nicmp_eq (pc := 42) (tgt := 88) d_M_there_42 (by decide) (by omega) (by omega) (fun h => absurd h (by decide)) (fun h42 => ?_)
    refine g_iload_n (pc := 45) d_M_there_45 rfl ?_
    refine g_bipush (pc := 46) (v := nI 13) d_M_there_46 (by decide) ?_
    refine g_nicmp_ne (pc := 48) (tgt := 80) d_M_there_48 (by decide) (by omega) (by omega) (fun h48 => ?_) (fun h => absurd h (by decide))
    refine g_aload_n (pc := 80) d_M_there_80 rfl ?_
    refine g_iload_n (pc := 81) d_M_there_81 rfl ?_
    refine g_callV (M' := m_M_isTerm) (pc := 82) (q := 0) d_M_there_82 lm_M_99 (c_M_isTerm Tm.length b5 (by omega) _) v_M_isTerm rfl rfl rfl (by decide) rfl (Nat.le_of_ble_eq_true rfl) ?_
    rintro _ _ ⟨rfl, rfl⟩
    show pG m_M_there τ _ 0 0 85 _ (.int _ :: _) _
    refine g_ifb_eq (pc := 85) (tgt := 92) d_M_there_85 (by decide) (fun h85 => ?_) (fun h85 => ?_)
    · refine g_iconst (pc := 92) (v := nI 0) d_M_there_92 (by decide) ?_
      refine g_zret (pc := 93) d_M_there_93 rfl (by decide) (Nat.le_refl _) (Nat.le_refl _) ?_
      refine ⟨congrArg (fun v => some (Value.int v)) ?_, rfl⟩
      first | exact bI_0 (by rw [h22, h85]; rfl) | exact bI_1 (by rw [h22, h85]; rfl)
    · refine g_iconst (pc := 88) (v := nI 1) d_M_there_88 (by decide) ?_
      refine g_goto (pc := 89) (tgt := 93) d_M_there_89 (by decide) ?_
      refine g_zret (pc := 93) d_M_there_93 rfl (by decide) (Nat.le_refl _) (Nat.le_refl _) ?_
      refine ⟨congrArg (fun v => some (Value.int v)) ?_, rfl⟩
      first | exact bI_0 (by rw [h22, h85]; rfl) | exact bI_1 (by rw [h22, h85]; rfl)
  · refine g_iconst (pc := 25) (v := nI 0) d_M_there_25 (by decide) ?_
    refine g_zret (pc := 26) d_M_there_26 rfl (by decide) (Nat.le_refl _) (Nat.le_refl _) ?_
    refine ⟨congrArg (fun v => some (Value.int v)) ?_, rfl⟩
    exact bI_0 (by rw [h22]; rfl)
set_option maxRecDepth 100000 in
set_option maxHeartbeats 4000000 in
theorem c_M_there_5 {τ : Nat × Nat} {a : Nat → Nat} {i : Nat → Int32} {r : Nat → Nat → Int32} {L : Nat → Nat → Int64} {z : Int64} {wr : pW} (Tm : List (List Nat)) (Th : List Thm) (b5 : i 1 = nI Tm.length) (b6 : i 3 = nI Th.length) (b2 : Tm.length ≤ 60) (b3 : Th.length ≤ 40) (x y : Int32) : pC m_M_there τ [.ref (a 0), .int (nI 5), .int x, .int y] (wM a i r L z ++ wr) (fun rr w2 => rr = some (.int (bI (ixB x Th.length && ixB y Tm.length))) ∧ w2 = wM a i r L z ++ wr) := by
  refine pC.of rfl (Nat.le_of_ble_eq_true rfl) ?_
  show pG m_M_there τ _ 0 0 0 [(0, _), (1, _), (2, _), (3, _)] [] _
  refine g_iload_n (pc := 0) d_M_there_0 rfl ?_
  refine g_callS (M' := m_M_named) (pc := 1) d_M_there_1 lm_M_125 c_M_named_5 v_M_named rfl (by decide) rfl (Nat.le_of_ble_eq_true rfl) ?_
  rintro _ _ ⟨rfl, rfl⟩
  show pG m_M_there τ _ 0 0 4 _ (.int _ :: _) _
  refine g_istore (pc := 4) [(4, _), (0, _), (1, _), (2, _), (3, _)] d_M_there_4 (by decide) rfl ?_
  refine g_iload (pc := 6) d_M_there_6 rfl ?_
  refine g_nif_ne (pc := 8) (tgt := 17) d_M_there_8 (by decide) (by omega) (fun h8 => ?_) (fun h => absurd h (by decide))
  refine g_aload_n (pc := 17) d_M_there_17 rfl ?_
  refine g_iload_n (pc := 18) d_M_there_18 rfl ?_
  refine g_callV (M' := m_M_isTheorem) (pc := 19) (q := 0) d_M_there_19 lm_M_128 (c_M_isTheorem Th.length b6 (by omega) _) v_M_isTheorem rfl rfl rfl (by decide) rfl (Nat.le_of_ble_eq_true rfl) ?_
  rintro _ _ ⟨rfl, rfl⟩
  show pG m_M_there τ _ 0 0 22 _ (.int _ :: _) _
  refine g_ifb_ne (pc := 22) (tgt := 27) d_M_there_22 (by decide) (fun h22 => ?_) (fun h22 => ?_)
  · refine g_iload (pc := 27) d_M_there_27 rfl ?_
    refine g_iconst (pc := 29) (v := nI 2) d_M_there_29 (by decide) ?_
    refine g_nicmp_ne (pc := 30) (tgt := 39) d_M_there_30 (by decide) (by omega) (by omega) (fun h30 => ?_) (fun h => absurd h (by decide))
    refine g_iload_n (pc := 39) d_M_there_39 rfl ?_
    refine g_bipush (pc := 40) (v := nI 7) d_M_there_40 (by decide) ?_
    refine g_nicmp_eq (pc := 42) (tgt := 88) d_M_there_42 (by decide) (by omega) (by omega) (fun h => absurd h (by decide)) (fun h42 => ?_)
    refine g_iload_n (pc := 45) d_M_there_45 rfl ?_
    refine g_bipush (pc := 46) (v := nI 13) d_M_there_46 (by decide) ?_
    refine g_nicmp_ne (pc := 48) (tgt := 80) d_M_there_48 (by decide) (by omega) (by omega) (fun h48 => ?_) (fun h => absurd h (by decide))
    refine g_aload_n (pc := 80) d_M_there_80 rfl ?_
    refine g_iload_n (pc := 81) d_M_there_81 rfl ?_
    refine g_callV (M' := m_M_isTerm) (pc := 82) (q := 0) d_M_there_82 lm_M_99 (c_M_isTerm Tm.length b5 (by omega) _) v_M_isTerm rfl rfl rfl (by decide) rfl (Nat.le_of_ble_eq_true rfl) ?_
    rintro _ _ ⟨rfl, rfl⟩
    show pG m_M_there τ _ 0 0 85 _ (.int _ :: _) _
    refine g_ifb_eq (pc := 85) (tgt := 92) d_M_there_85 (by decide) (fun h85 => ?_) (fun h85 => ?_)
    · refine g_iconst (pc := 92) (v := nI 0) d_M_there_92 (by decide) ?_
      refine g_zret (pc := 93) d_M_there_93 rfl (by decide) (Nat.le_refl _) (Nat.le_refl _) ?_
      refine ⟨congrArg (fun v => some (Value.int v)) ?_, rfl⟩
      first | exact bI_0 (by rw [h22, h85]; rfl) | exact bI_1 (by rw [h22, h85]; rfl)
    · refine g_iconst (pc := 88) (v := nI 1) d_M_there_88 (by decide) ?_
      refine g_goto (pc := 89) (tgt := 93) d_M_there_89 (by decide) ?_
      refine g_zret (pc := 93) d_M_there_93 rfl (by decide) (Nat.le_refl _) (Nat.le_refl _) ?_
      refine ⟨congrArg (fun v => some (Value.int v)) ?_, rfl⟩
      first | exact bI_0 (by rw [h22, h85]; rfl) | exact bI_1 (by rw [h22, h85]; rfl)
  · refine g_iconst (pc := 25) (v := nI 0) d_M_there_25 (by decide) ?_
    refine g_zret (pc := 26) d_M_there_26 rfl (by decide) (Nat.le_refl _) (Nat.le_refl _) ?_
    refine ⟨congrArg (fun v => some (Value.int v)) ?_, rfl⟩
    exact bI_0 (by rw [h22]; rfl)
set_option maxRecDepth 100000 in
set_option maxHeartbeats 4000000 in
theorem c_M_there_6 {τ : Nat × Nat} {a : Nat → Nat} {i : Nat → Int32} {r : Nat → Nat → Int32} {L : Nat → Nat → Int64} {z : Int64} {wr : pW} (Tm : List (List Nat)) (Th : List Thm) (b5 : i 1 = nI Tm.length) (b6 : i 3 = nI Th.length) (b2 : Tm.length ≤ 60) (b3 : Th.length ≤ 40) (x y : Int32) : pC m_M_there τ [.ref (a 0), .int (nI 6), .int x, .int y] (wM a i r L z ++ wr) (fun rr w2 => rr = some (.int (bI (ixB x Tm.length && true))) ∧ w2 = wM a i r L z ++ wr) := by
  refine pC.of rfl (Nat.le_of_ble_eq_true rfl) ?_
  show pG m_M_there τ _ 0 0 0 [(0, _), (1, _), (2, _), (3, _)] [] _
  refine g_iload_n (pc := 0) d_M_there_0 rfl ?_
  refine g_callS (M' := m_M_named) (pc := 1) d_M_there_1 lm_M_125 c_M_named_6 v_M_named rfl (by decide) rfl (Nat.le_of_ble_eq_true rfl) ?_
  rintro _ _ ⟨rfl, rfl⟩
  show pG m_M_there τ _ 0 0 4 _ (.int _ :: _) _
  refine g_istore (pc := 4) [(4, _), (0, _), (1, _), (2, _), (3, _)] d_M_there_4 (by decide) rfl ?_
  refine g_iload (pc := 6) d_M_there_6 rfl ?_
  refine g_nif_ne (pc := 8) (tgt := 17) d_M_there_8 (by decide) (by omega) (fun h => absurd h (by decide)) (fun h8 => ?_)
  refine g_aload_n (pc := 11) d_M_there_11 rfl ?_
  refine g_iload_n (pc := 12) d_M_there_12 rfl ?_
  refine g_callV (M' := m_M_isTerm) (pc := 13) (q := 0) d_M_there_13 lm_M_99 (c_M_isTerm Tm.length b5 (by omega) _) v_M_isTerm rfl rfl rfl (by decide) rfl (Nat.le_of_ble_eq_true rfl) ?_
  rintro _ _ ⟨rfl, rfl⟩
  show pG m_M_there τ _ 0 0 16 _ (.int _ :: _) _
  refine g_zret (pc := 16) d_M_there_16 rfl (narrow_bI _) (Nat.le_refl _) (Nat.le_refl _) ?_
  exact ⟨by rw [Bool.and_true], rfl⟩
set_option maxRecDepth 100000 in
set_option maxHeartbeats 4000000 in
theorem c_M_there_7 {τ : Nat × Nat} {a : Nat → Nat} {i : Nat → Int32} {r : Nat → Nat → Int32} {L : Nat → Nat → Int64} {z : Int64} {wr : pW} (Tm : List (List Nat)) (Th : List Thm) (b5 : i 1 = nI Tm.length) (b6 : i 3 = nI Th.length) (b2 : Tm.length ≤ 60) (b3 : Th.length ≤ 40) (x y : Int32) : pC m_M_there τ [.ref (a 0), .int (nI 7), .int x, .int y] (wM a i r L z ++ wr) (fun rr w2 => rr = some (.int (bI (ixB x Th.length && true))) ∧ w2 = wM a i r L z ++ wr) := by
  refine pC.of rfl (Nat.le_of_ble_eq_true rfl) ?_
  show pG m_M_there τ _ 0 0 0 [(0, _), (1, _), (2, _), (3, _)] [] _
  refine g_iload_n (pc := 0) d_M_there_0 rfl ?_
  refine g_callS (M' := m_M_named) (pc := 1) d_M_there_1 lm_M_125 c_M_named_7 v_M_named rfl (by decide) rfl (Nat.le_of_ble_eq_true rfl) ?_
  rintro _ _ ⟨rfl, rfl⟩
  show pG m_M_there τ _ 0 0 4 _ (.int _ :: _) _
  refine g_istore (pc := 4) [(4, _), (0, _), (1, _), (2, _), (3, _)] d_M_there_4 (by decide) rfl ?_
  refine g_iload (pc := 6) d_M_there_6 rfl ?_
  refine g_nif_ne (pc := 8) (tgt := 17) d_M_there_8 (by decide) (by omega) (fun h8 => ?_) (fun h => absurd h (by decide))
  refine g_aload_n (pc := 17) d_M_there_17 rfl ?_
  refine g_iload_n (pc := 18) d_M_there_18 rfl ?_
  refine g_callV (M' := m_M_isTheorem) (pc := 19) (q := 0) d_M_there_19 lm_M_128 (c_M_isTheorem Th.length b6 (by omega) _) v_M_isTheorem rfl rfl rfl (by decide) rfl (Nat.le_of_ble_eq_true rfl) ?_
  rintro _ _ ⟨rfl, rfl⟩
  show pG m_M_there τ _ 0 0 22 _ (.int _ :: _) _
  refine g_ifb_ne (pc := 22) (tgt := 27) d_M_there_22 (by decide) (fun h22 => ?_) (fun h22 => ?_)
  · refine g_iload (pc := 27) d_M_there_27 rfl ?_
    refine g_iconst (pc := 29) (v := nI 2) d_M_there_29 (by decide) ?_
    refine g_nicmp_ne (pc := 30) (tgt := 39) d_M_there_30 (by decide) (by omega) (by omega) (fun h30 => ?_) (fun h => absurd h (by decide))
    refine g_iload_n (pc := 39) d_M_there_39 rfl ?_
    refine g_bipush (pc := 40) (v := nI 7) d_M_there_40 (by decide) ?_
    refine g_nicmp_eq (pc := 42) (tgt := 88) d_M_there_42 (by decide) (by omega) (by omega) (fun h42 => ?_) (fun h => absurd h (by decide))
    refine g_iconst (pc := 88) (v := nI 1) d_M_there_88 (by decide) ?_
    refine g_goto (pc := 89) (tgt := 93) d_M_there_89 (by decide) ?_
    refine g_zret (pc := 93) d_M_there_93 rfl (by decide) (Nat.le_refl _) (Nat.le_refl _) ?_
    refine ⟨congrArg (fun v => some (Value.int v)) ?_, rfl⟩
    exact bI_1 (by rw [h22]; rfl)
  · refine g_iconst (pc := 25) (v := nI 0) d_M_there_25 (by decide) ?_
    refine g_zret (pc := 26) d_M_there_26 rfl (by decide) (Nat.le_refl _) (Nat.le_refl _) ?_
    refine ⟨congrArg (fun v => some (Value.int v)) ?_, rfl⟩
    exact bI_0 (by rw [h22]; rfl)
set_option maxRecDepth 100000 in
set_option maxHeartbeats 4000000 in
theorem c_M_there_8 {τ : Nat × Nat} {a : Nat → Nat} {i : Nat → Int32} {r : Nat → Nat → Int32} {L : Nat → Nat → Int64} {z : Int64} {wr : pW} (Tm : List (List Nat)) (Th : List Thm) (b5 : i 1 = nI Tm.length) (b6 : i 3 = nI Th.length) (b2 : Tm.length ≤ 60) (b3 : Th.length ≤ 40) (x y : Int32) : pC m_M_there τ [.ref (a 0), .int (nI 8), .int x, .int y] (wM a i r L z ++ wr) (fun rr w2 => rr = some (.int (bI (ixB x Th.length && ixB y Th.length))) ∧ w2 = wM a i r L z ++ wr) := by
  refine pC.of rfl (Nat.le_of_ble_eq_true rfl) ?_
  show pG m_M_there τ _ 0 0 0 [(0, _), (1, _), (2, _), (3, _)] [] _
  refine g_iload_n (pc := 0) d_M_there_0 rfl ?_
  refine g_callS (M' := m_M_named) (pc := 1) d_M_there_1 lm_M_125 c_M_named_8 v_M_named rfl (by decide) rfl (Nat.le_of_ble_eq_true rfl) ?_
  rintro _ _ ⟨rfl, rfl⟩
  show pG m_M_there τ _ 0 0 4 _ (.int _ :: _) _
  refine g_istore (pc := 4) [(4, _), (0, _), (1, _), (2, _), (3, _)] d_M_there_4 (by decide) rfl ?_
  refine g_iload (pc := 6) d_M_there_6 rfl ?_
  refine g_nif_ne (pc := 8) (tgt := 17) d_M_there_8 (by decide) (by omega) (fun h8 => ?_) (fun h => absurd h (by decide))
  refine g_aload_n (pc := 17) d_M_there_17 rfl ?_
  refine g_iload_n (pc := 18) d_M_there_18 rfl ?_
  refine g_callV (M' := m_M_isTheorem) (pc := 19) (q := 0) d_M_there_19 lm_M_128 (c_M_isTheorem Th.length b6 (by omega) _) v_M_isTheorem rfl rfl rfl (by decide) rfl (Nat.le_of_ble_eq_true rfl) ?_
  rintro _ _ ⟨rfl, rfl⟩
  show pG m_M_there τ _ 0 0 22 _ (.int _ :: _) _
  refine g_ifb_ne (pc := 22) (tgt := 27) d_M_there_22 (by decide) (fun h22 => ?_) (fun h22 => ?_)
  · refine g_iload (pc := 27) d_M_there_27 rfl ?_
    refine g_iconst (pc := 29) (v := nI 2) d_M_there_29 (by decide) ?_
    refine g_nicmp_ne (pc := 30) (tgt := 39) d_M_there_30 (by decide) (by omega) (by omega) (fun h => absurd h (by decide)) (fun h30 => ?_)
    refine g_aload_n (pc := 33) d_M_there_33 rfl ?_
    refine g_iload_n (pc := 34) d_M_there_34 rfl ?_
    refine g_callV (M' := m_M_isTheorem) (pc := 35) (q := 0) d_M_there_35 lm_M_128 (c_M_isTheorem Th.length b6 (by omega) _) v_M_isTheorem rfl rfl rfl (by decide) rfl (Nat.le_of_ble_eq_true rfl) ?_
    rintro _ _ ⟨rfl, rfl⟩
    show pG m_M_there τ _ 0 0 38 _ (.int _ :: _) _
    refine g_zret (pc := 38) d_M_there_38 rfl (narrow_bI _) (Nat.le_refl _) (Nat.le_refl _) ?_
    exact ⟨by rw [h22]; rfl, rfl⟩
  · refine g_iconst (pc := 25) (v := nI 0) d_M_there_25 (by decide) ?_
    refine g_zret (pc := 26) d_M_there_26 rfl (by decide) (Nat.le_refl _) (Nat.le_refl _) ?_
    refine ⟨congrArg (fun v => some (Value.int v)) ?_, rfl⟩
    exact bI_0 (by rw [h22]; rfl)
set_option maxRecDepth 100000 in
set_option maxHeartbeats 4000000 in
theorem c_M_there_9 {τ : Nat × Nat} {a : Nat → Nat} {i : Nat → Int32} {r : Nat → Nat → Int32} {L : Nat → Nat → Int64} {z : Int64} {wr : pW} (Tm : List (List Nat)) (Th : List Thm) (b5 : i 1 = nI Tm.length) (b6 : i 3 = nI Th.length) (b2 : Tm.length ≤ 60) (b3 : Th.length ≤ 40) (x y : Int32) : pC m_M_there τ [.ref (a 0), .int (nI 9), .int x, .int y] (wM a i r L z ++ wr) (fun rr w2 => rr = some (.int (bI (ixB x Th.length && ixB y Th.length))) ∧ w2 = wM a i r L z ++ wr) := by
  refine pC.of rfl (Nat.le_of_ble_eq_true rfl) ?_
  show pG m_M_there τ _ 0 0 0 [(0, _), (1, _), (2, _), (3, _)] [] _
  refine g_iload_n (pc := 0) d_M_there_0 rfl ?_
  refine g_callS (M' := m_M_named) (pc := 1) d_M_there_1 lm_M_125 c_M_named_9 v_M_named rfl (by decide) rfl (Nat.le_of_ble_eq_true rfl) ?_
  rintro _ _ ⟨rfl, rfl⟩
  show pG m_M_there τ _ 0 0 4 _ (.int _ :: _) _
  refine g_istore (pc := 4) [(4, _), (0, _), (1, _), (2, _), (3, _)] d_M_there_4 (by decide) rfl ?_
  refine g_iload (pc := 6) d_M_there_6 rfl ?_
  refine g_nif_ne (pc := 8) (tgt := 17) d_M_there_8 (by decide) (by omega) (fun h8 => ?_) (fun h => absurd h (by decide))
  refine g_aload_n (pc := 17) d_M_there_17 rfl ?_
  refine g_iload_n (pc := 18) d_M_there_18 rfl ?_
  refine g_callV (M' := m_M_isTheorem) (pc := 19) (q := 0) d_M_there_19 lm_M_128 (c_M_isTheorem Th.length b6 (by omega) _) v_M_isTheorem rfl rfl rfl (by decide) rfl (Nat.le_of_ble_eq_true rfl) ?_
  rintro _ _ ⟨rfl, rfl⟩
  show pG m_M_there τ _ 0 0 22 _ (.int _ :: _) _
  refine g_ifb_ne (pc := 22) (tgt := 27) d_M_there_22 (by decide) (fun h22 => ?_) (fun h22 => ?_)
  · refine g_iload (pc := 27) d_M_there_27 rfl ?_
    refine g_iconst (pc := 29) (v := nI 2) d_M_there_29 (by decide) ?_
    refine g_nicmp_ne (pc := 30) (tgt := 39) d_M_there_30 (by decide) (by omega) (by omega) (fun h => absurd h (by decide)) (fun h30 => ?_)
    refine g_aload_n (pc := 33) d_M_there_33 rfl ?_
    refine g_iload_n (pc := 34) d_M_there_34 rfl ?_
    refine g_callV (M' := m_M_isTheorem) (pc := 35) (q := 0) d_M_there_35 lm_M_128 (c_M_isTheorem Th.length b6 (by omega) _) v_M_isTheorem rfl rfl rfl (by decide) rfl (Nat.le_of_ble_eq_true rfl) ?_
    rintro _ _ ⟨rfl, rfl⟩
    show pG m_M_there τ _ 0 0 38 _ (.int _ :: _) _
    refine g_zret (pc := 38) d_M_there_38 rfl (narrow_bI _) (Nat.le_refl _) (Nat.le_refl _) ?_
    exact ⟨by rw [h22]; rfl, rfl⟩
  · refine g_iconst (pc := 25) (v := nI 0) d_M_there_25 (by decide) ?_
    refine g_zret (pc := 26) d_M_there_26 rfl (by decide) (Nat.le_refl _) (Nat.le_refl _) ?_
    refine ⟨congrArg (fun v => some (Value.int v)) ?_, rfl⟩
    exact bI_0 (by rw [h22]; rfl)
set_option maxRecDepth 100000 in
set_option maxHeartbeats 4000000 in
theorem c_M_there_10 {τ : Nat × Nat} {a : Nat → Nat} {i : Nat → Int32} {r : Nat → Nat → Int32} {L : Nat → Nat → Int64} {z : Int64} {wr : pW} (Tm : List (List Nat)) (Th : List Thm) (b5 : i 1 = nI Tm.length) (b6 : i 3 = nI Th.length) (b2 : Tm.length ≤ 60) (b3 : Th.length ≤ 40) (x y : Int32) : pC m_M_there τ [.ref (a 0), .int (nI 10), .int x, .int y] (wM a i r L z ++ wr) (fun rr w2 => rr = some (.int (bI (ixB x Th.length && ixB y Tm.length))) ∧ w2 = wM a i r L z ++ wr) := by
  refine pC.of rfl (Nat.le_of_ble_eq_true rfl) ?_
  show pG m_M_there τ _ 0 0 0 [(0, _), (1, _), (2, _), (3, _)] [] _
  refine g_iload_n (pc := 0) d_M_there_0 rfl ?_
  refine g_callS (M' := m_M_named) (pc := 1) d_M_there_1 lm_M_125 c_M_named_10 v_M_named rfl (by decide) rfl (Nat.le_of_ble_eq_true rfl) ?_
  rintro _ _ ⟨rfl, rfl⟩
  show pG m_M_there τ _ 0 0 4 _ (.int _ :: _) _
  refine g_istore (pc := 4) [(4, _), (0, _), (1, _), (2, _), (3, _)] d_M_there_4 (by decide) rfl ?_
  refine g_iload (pc := 6) d_M_there_6 rfl ?_
  refine g_nif_ne (pc := 8) (tgt := 17) d_M_there_8 (by decide) (by omega) (fun h8 => ?_) (fun h => absurd h (by decide))
  refine g_aload_n (pc := 17) d_M_there_17 rfl ?_
  refine g_iload_n (pc := 18) d_M_there_18 rfl ?_
  refine g_callV (M' := m_M_isTheorem) (pc := 19) (q := 0) d_M_there_19 lm_M_128 (c_M_isTheorem Th.length b6 (by omega) _) v_M_isTheorem rfl rfl rfl (by decide) rfl (Nat.le_of_ble_eq_true rfl) ?_
  rintro _ _ ⟨rfl, rfl⟩
  show pG m_M_there τ _ 0 0 22 _ (.int _ :: _) _
  refine g_ifb_ne (pc := 22) (tgt := 27) d_M_there_22 (by decide) (fun h22 => ?_) (fun h22 => ?_)
  · refine g_iload (pc := 27) d_M_there_27 rfl ?_
    refine g_iconst (pc := 29) (v := nI 2) d_M_there_29 (by decide) ?_
    refine g_nicmp_ne (pc := 30) (tgt := 39) d_M_there_30 (by decide) (by omega) (by omega) (fun h30 => ?_) (fun h => absurd h (by decide))
    refine g_iload_n (pc := 39) d_M_there_39 rfl ?_
    refine g_bipush (pc := 40) (v := nI 7) d_M_there_40 (by decide) ?_
    refine g_nicmp_eq (pc := 42) (tgt := 88) d_M_there_42 (by decide) (by omega) (by omega) (fun h => absurd h (by decide)) (fun h42 => ?_)
    refine g_iload_n (pc := 45) d_M_there_45 rfl ?_
    refine g_bipush (pc := 46) (v := nI 13) d_M_there_46 (by decide) ?_
    refine g_nicmp_ne (pc := 48) (tgt := 80) d_M_there_48 (by decide) (by omega) (by omega) (fun h48 => ?_) (fun h => absurd h (by decide))
    refine g_aload_n (pc := 80) d_M_there_80 rfl ?_
    refine g_iload_n (pc := 81) d_M_there_81 rfl ?_
    refine g_callV (M' := m_M_isTerm) (pc := 82) (q := 0) d_M_there_82 lm_M_99 (c_M_isTerm Tm.length b5 (by omega) _) v_M_isTerm rfl rfl rfl (by decide) rfl (Nat.le_of_ble_eq_true rfl) ?_
    rintro _ _ ⟨rfl, rfl⟩
    show pG m_M_there τ _ 0 0 85 _ (.int _ :: _) _
    refine g_ifb_eq (pc := 85) (tgt := 92) d_M_there_85 (by decide) (fun h85 => ?_) (fun h85 => ?_)
    · refine g_iconst (pc := 92) (v := nI 0) d_M_there_92 (by decide) ?_
      refine g_zret (pc := 93) d_M_there_93 rfl (by decide) (Nat.le_refl _) (Nat.le_refl _) ?_
      refine ⟨congrArg (fun v => some (Value.int v)) ?_, rfl⟩
      first | exact bI_0 (by rw [h22, h85]; rfl) | exact bI_1 (by rw [h22, h85]; rfl)
    · refine g_iconst (pc := 88) (v := nI 1) d_M_there_88 (by decide) ?_
      refine g_goto (pc := 89) (tgt := 93) d_M_there_89 (by decide) ?_
      refine g_zret (pc := 93) d_M_there_93 rfl (by decide) (Nat.le_refl _) (Nat.le_refl _) ?_
      refine ⟨congrArg (fun v => some (Value.int v)) ?_, rfl⟩
      first | exact bI_0 (by rw [h22, h85]; rfl) | exact bI_1 (by rw [h22, h85]; rfl)
  · refine g_iconst (pc := 25) (v := nI 0) d_M_there_25 (by decide) ?_
    refine g_zret (pc := 26) d_M_there_26 rfl (by decide) (Nat.le_refl _) (Nat.le_refl _) ?_
    refine ⟨congrArg (fun v => some (Value.int v)) ?_, rfl⟩
    exact bI_0 (by rw [h22]; rfl)
set_option maxRecDepth 100000 in
set_option maxHeartbeats 4000000 in
theorem c_M_there_11 {τ : Nat × Nat} {a : Nat → Nat} {i : Nat → Int32} {r : Nat → Nat → Int32} {L : Nat → Nat → Int64} {z : Int64} {wr : pW} (Tm : List (List Nat)) (Th : List Thm) (b5 : i 1 = nI Tm.length) (b6 : i 3 = nI Th.length) (b2 : Tm.length ≤ 60) (b3 : Th.length ≤ 40) (x y : Int32) : pC m_M_there τ [.ref (a 0), .int (nI 11), .int x, .int y] (wM a i r L z ++ wr) (fun rr w2 => rr = some (.int (bI (ixB x Tm.length && true))) ∧ w2 = wM a i r L z ++ wr) := by
  refine pC.of rfl (Nat.le_of_ble_eq_true rfl) ?_
  show pG m_M_there τ _ 0 0 0 [(0, _), (1, _), (2, _), (3, _)] [] _
  refine g_iload_n (pc := 0) d_M_there_0 rfl ?_
  refine g_callS (M' := m_M_named) (pc := 1) d_M_there_1 lm_M_125 c_M_named_11 v_M_named rfl (by decide) rfl (Nat.le_of_ble_eq_true rfl) ?_
  rintro _ _ ⟨rfl, rfl⟩
  show pG m_M_there τ _ 0 0 4 _ (.int _ :: _) _
  refine g_istore (pc := 4) [(4, _), (0, _), (1, _), (2, _), (3, _)] d_M_there_4 (by decide) rfl ?_
  refine g_iload (pc := 6) d_M_there_6 rfl ?_
  refine g_nif_ne (pc := 8) (tgt := 17) d_M_there_8 (by decide) (by omega) (fun h => absurd h (by decide)) (fun h8 => ?_)
  refine g_aload_n (pc := 11) d_M_there_11 rfl ?_
  refine g_iload_n (pc := 12) d_M_there_12 rfl ?_
  refine g_callV (M' := m_M_isTerm) (pc := 13) (q := 0) d_M_there_13 lm_M_99 (c_M_isTerm Tm.length b5 (by omega) _) v_M_isTerm rfl rfl rfl (by decide) rfl (Nat.le_of_ble_eq_true rfl) ?_
  rintro _ _ ⟨rfl, rfl⟩
  show pG m_M_there τ _ 0 0 16 _ (.int _ :: _) _
  refine g_zret (pc := 16) d_M_there_16 rfl (narrow_bI _) (Nat.le_refl _) (Nat.le_refl _) ?_
  exact ⟨by rw [Bool.and_true], rfl⟩
set_option maxRecDepth 100000 in
set_option maxHeartbeats 4000000 in
theorem c_M_there_12 {τ : Nat × Nat} {a : Nat → Nat} {i : Nat → Int32} {r : Nat → Nat → Int32} {L : Nat → Nat → Int64} {z : Int64} {wr : pW} (Tm : List (List Nat)) (Th : List Thm) (b5 : i 1 = nI Tm.length) (b6 : i 3 = nI Th.length) (b2 : Tm.length ≤ 60) (b3 : Th.length ≤ 40) (x y : Int32) : pC m_M_there τ [.ref (a 0), .int (nI 12), .int x, .int y] (wM a i r L z ++ wr) (fun rr w2 => rr = some (.int (bI (ixB x Th.length && ixB y Th.length))) ∧ w2 = wM a i r L z ++ wr) := by
  refine pC.of rfl (Nat.le_of_ble_eq_true rfl) ?_
  show pG m_M_there τ _ 0 0 0 [(0, _), (1, _), (2, _), (3, _)] [] _
  refine g_iload_n (pc := 0) d_M_there_0 rfl ?_
  refine g_callS (M' := m_M_named) (pc := 1) d_M_there_1 lm_M_125 c_M_named_12 v_M_named rfl (by decide) rfl (Nat.le_of_ble_eq_true rfl) ?_
  rintro _ _ ⟨rfl, rfl⟩
  show pG m_M_there τ _ 0 0 4 _ (.int _ :: _) _
  refine g_istore (pc := 4) [(4, _), (0, _), (1, _), (2, _), (3, _)] d_M_there_4 (by decide) rfl ?_
  refine g_iload (pc := 6) d_M_there_6 rfl ?_
  refine g_nif_ne (pc := 8) (tgt := 17) d_M_there_8 (by decide) (by omega) (fun h8 => ?_) (fun h => absurd h (by decide))
  refine g_aload_n (pc := 17) d_M_there_17 rfl ?_
  refine g_iload_n (pc := 18) d_M_there_18 rfl ?_
  refine g_callV (M' := m_M_isTheorem) (pc := 19) (q := 0) d_M_there_19 lm_M_128 (c_M_isTheorem Th.length b6 (by omega) _) v_M_isTheorem rfl rfl rfl (by decide) rfl (Nat.le_of_ble_eq_true rfl) ?_
  rintro _ _ ⟨rfl, rfl⟩
  show pG m_M_there τ _ 0 0 22 _ (.int _ :: _) _
  refine g_ifb_ne (pc := 22) (tgt := 27) d_M_there_22 (by decide) (fun h22 => ?_) (fun h22 => ?_)
  · refine g_iload (pc := 27) d_M_there_27 rfl ?_
    refine g_iconst (pc := 29) (v := nI 2) d_M_there_29 (by decide) ?_
    refine g_nicmp_ne (pc := 30) (tgt := 39) d_M_there_30 (by decide) (by omega) (by omega) (fun h => absurd h (by decide)) (fun h30 => ?_)
    refine g_aload_n (pc := 33) d_M_there_33 rfl ?_
    refine g_iload_n (pc := 34) d_M_there_34 rfl ?_
    refine g_callV (M' := m_M_isTheorem) (pc := 35) (q := 0) d_M_there_35 lm_M_128 (c_M_isTheorem Th.length b6 (by omega) _) v_M_isTheorem rfl rfl rfl (by decide) rfl (Nat.le_of_ble_eq_true rfl) ?_
    rintro _ _ ⟨rfl, rfl⟩
    show pG m_M_there τ _ 0 0 38 _ (.int _ :: _) _
    refine g_zret (pc := 38) d_M_there_38 rfl (narrow_bI _) (Nat.le_refl _) (Nat.le_refl _) ?_
    exact ⟨by rw [h22]; rfl, rfl⟩
  · refine g_iconst (pc := 25) (v := nI 0) d_M_there_25 (by decide) ?_
    refine g_zret (pc := 26) d_M_there_26 rfl (by decide) (Nat.le_refl _) (Nat.le_refl _) ?_
    refine ⟨congrArg (fun v => some (Value.int v)) ?_, rfl⟩
    exact bI_0 (by rw [h22]; rfl)
set_option maxRecDepth 100000 in
set_option maxHeartbeats 4000000 in
theorem c_M_there_13 {τ : Nat × Nat} {a : Nat → Nat} {i : Nat → Int32} {r : Nat → Nat → Int32} {L : Nat → Nat → Int64} {z : Int64} {wr : pW} (Tm : List (List Nat)) (Th : List Thm) (b5 : i 1 = nI Tm.length) (b6 : i 3 = nI Th.length) (b2 : Tm.length ≤ 60) (b3 : Th.length ≤ 40) (x y : Int32) : pC m_M_there τ [.ref (a 0), .int (nI 13), .int x, .int y] (wM a i r L z ++ wr) (fun rr w2 => rr = some (.int (bI (ixB x Th.length && prB y Tm.length))) ∧ w2 = wM a i r L z ++ wr) := by
  refine pC.of rfl (Nat.le_of_ble_eq_true rfl) ?_
  show pG m_M_there τ _ 0 0 0 [(0, _), (1, _), (2, _), (3, _)] [] _
  refine g_iload_n (pc := 0) d_M_there_0 rfl ?_
  refine g_callS (M' := m_M_named) (pc := 1) d_M_there_1 lm_M_125 c_M_named_13 v_M_named rfl (by decide) rfl (Nat.le_of_ble_eq_true rfl) ?_
  rintro _ _ ⟨rfl, rfl⟩
  show pG m_M_there τ _ 0 0 4 _ (.int _ :: _) _
  refine g_istore (pc := 4) [(4, _), (0, _), (1, _), (2, _), (3, _)] d_M_there_4 (by decide) rfl ?_
  refine g_iload (pc := 6) d_M_there_6 rfl ?_
  refine g_nif_ne (pc := 8) (tgt := 17) d_M_there_8 (by decide) (by omega) (fun h8 => ?_) (fun h => absurd h (by decide))
  refine g_aload_n (pc := 17) d_M_there_17 rfl ?_
  refine g_iload_n (pc := 18) d_M_there_18 rfl ?_
  refine g_callV (M' := m_M_isTheorem) (pc := 19) (q := 0) d_M_there_19 lm_M_128 (c_M_isTheorem Th.length b6 (by omega) _) v_M_isTheorem rfl rfl rfl (by decide) rfl (Nat.le_of_ble_eq_true rfl) ?_
  rintro _ _ ⟨rfl, rfl⟩
  show pG m_M_there τ _ 0 0 22 _ (.int _ :: _) _
  refine g_ifb_ne (pc := 22) (tgt := 27) d_M_there_22 (by decide) (fun h22 => ?_) (fun h22 => ?_)
  · refine g_iload (pc := 27) d_M_there_27 rfl ?_
    refine g_iconst (pc := 29) (v := nI 2) d_M_there_29 (by decide) ?_
    refine g_nicmp_ne (pc := 30) (tgt := 39) d_M_there_30 (by decide) (by omega) (by omega) (fun h30 => ?_) (fun h => absurd h (by decide))
    refine g_iload_n (pc := 39) d_M_there_39 rfl ?_
    refine g_bipush (pc := 40) (v := nI 7) d_M_there_40 (by decide) ?_
    refine g_nicmp_eq (pc := 42) (tgt := 88) d_M_there_42 (by decide) (by omega) (by omega) (fun h => absurd h (by decide)) (fun h42 => ?_)
    refine g_iload_n (pc := 45) d_M_there_45 rfl ?_
    refine g_bipush (pc := 46) (v := nI 13) d_M_there_46 (by decide) ?_
    refine g_nicmp_ne (pc := 48) (tgt := 80) d_M_there_48 (by decide) (by omega) (by omega) (fun h => absurd h (by decide)) (fun h48 => ?_)
    refine g_iload_n (pc := 51) d_M_there_51 rfl ?_
    refine g_if_lt (pc := 52) (tgt := 92) d_M_there_52 (by decide) (fun h52 => ?_) (fun h52 => ?_)
    · refine g_iconst (pc := 92) (v := nI 0) d_M_there_92 (by decide) ?_
      refine g_zret (pc := 93) d_M_there_93 rfl (by decide) (Nat.le_refl _) (Nat.le_refl _) ?_
      refine ⟨congrArg (fun v => some (Value.int v)) ?_, rfl⟩
      first | exact bI_0 (by rw [h22, prB_neg h52]; rfl) | exact bI_0 (by rw [h22, prB_nI hq, h63]; rfl) | exact bI_0 (by rw [h22, prB_nI hq, h63, h74]; rfl) | exact bI_1 (by rw [h22, prB_nI hq, h63, h74]; rfl)
    · obtain ⟨q, hq, rfl⟩ := nI_of h52
      refine g_aload_n (pc := 55) d_M_there_55 rfl ?_
      refine g_iload_n (pc := 56) d_M_there_56 rfl ?_
      refine g_bipush (pc := 57) (v := nI 64) d_M_there_57 (by decide) ?_
      refine g_ndiv (pc := 59) d_M_there_59 (by omega) (by decide) (by decide) ?_
      refine g_callV (M' := m_M_isTerm) (pc := 60) (q := 0) d_M_there_60 lm_M_99 (c_M_isTerm Tm.length b5 (by omega) _) v_M_isTerm rfl rfl rfl (by decide) rfl (Nat.le_of_ble_eq_true rfl) ?_
      rintro _ _ ⟨rfl, rfl⟩
      show pG m_M_there τ _ 0 0 63 _ (.int _ :: _) _
      refine g_ifb_eq (pc := 63) (tgt := 92) d_M_there_63 (by decide) (fun h63 => ?_) (fun h63 => ?_)
      · refine g_iconst (pc := 92) (v := nI 0) d_M_there_92 (by decide) ?_
        refine g_zret (pc := 93) d_M_there_93 rfl (by decide) (Nat.le_refl _) (Nat.le_refl _) ?_
        refine ⟨congrArg (fun v => some (Value.int v)) ?_, rfl⟩
        first | exact bI_0 (by rw [h22, prB_neg h52]; rfl) | exact bI_0 (by rw [h22, prB_nI hq, h63]; rfl) | exact bI_0 (by rw [h22, prB_nI hq, h63, h74]; rfl) | exact bI_1 (by rw [h22, prB_nI hq, h63, h74]; rfl)
      · refine g_aload_n (pc := 66) d_M_there_66 rfl ?_
        refine g_iload_n (pc := 67) d_M_there_67 rfl ?_
        refine g_bipush (pc := 68) (v := nI 64) d_M_there_68 (by decide) ?_
        refine g_nrem (pc := 70) d_M_there_70 (by omega) (by decide) (by decide) ?_
        refine g_callV (M' := m_M_isTerm) (pc := 71) (q := 0) d_M_there_71 lm_M_99 (c_M_isTerm Tm.length b5 (by omega) _) v_M_isTerm rfl rfl rfl (by decide) rfl (Nat.le_of_ble_eq_true rfl) ?_
        rintro _ _ ⟨rfl, rfl⟩
        show pG m_M_there τ _ 0 0 74 _ (.int _ :: _) _
        refine g_ifb_eq (pc := 74) (tgt := 92) d_M_there_74 (by decide) (fun h74 => ?_) (fun h74 => ?_)
        · refine g_iconst (pc := 92) (v := nI 0) d_M_there_92 (by decide) ?_
          refine g_zret (pc := 93) d_M_there_93 rfl (by decide) (Nat.le_refl _) (Nat.le_refl _) ?_
          refine ⟨congrArg (fun v => some (Value.int v)) ?_, rfl⟩
          first | exact bI_0 (by rw [h22, prB_neg h52]; rfl) | exact bI_0 (by rw [h22, prB_nI hq, h63]; rfl) | exact bI_0 (by rw [h22, prB_nI hq, h63, h74]; rfl) | exact bI_1 (by rw [h22, prB_nI hq, h63, h74]; rfl)
        · refine g_goto (pc := 77) (tgt := 88) d_M_there_77 (by decide) ?_
          refine g_iconst (pc := 88) (v := nI 1) d_M_there_88 (by decide) ?_
          refine g_goto (pc := 89) (tgt := 93) d_M_there_89 (by decide) ?_
          refine g_zret (pc := 93) d_M_there_93 rfl (by decide) (Nat.le_refl _) (Nat.le_refl _) ?_
          refine ⟨congrArg (fun v => some (Value.int v)) ?_, rfl⟩
          first | exact bI_0 (by rw [h22, prB_neg h52]; rfl) | exact bI_0 (by rw [h22, prB_nI hq, h63]; rfl) | exact bI_0 (by rw [h22, prB_nI hq, h63, h74]; rfl) | exact bI_1 (by rw [h22, prB_nI hq, h63, h74]; rfl)
  · refine g_iconst (pc := 25) (v := nI 0) d_M_there_25 (by decide) ?_
    refine g_zret (pc := 26) d_M_there_26 rfl (by decide) (Nat.le_refl _) (Nat.le_refl _) ?_
    refine ⟨congrArg (fun v => some (Value.int v)) ?_, rfl⟩
    exact bI_0 (by rw [h22]; rfl)
/-- what a rule's work comes to: code, hypotheses, types, terms, draft -/
def MO (a : Nat → Nat) (L : Nat → Nat → Int64) (wr : pW) (Ty : List (Nat × Nat)) (Tm : List (List Nat)) (Th : List Thm) (code : Int32) (h : Nat) (Ty1 : List (Nat × Nat)) (Tm1 : List (List Nat)) (D : List Nat) : Option Value → pW → Prop := fun rr w2 => ∃ i2 r2 z2 Ty2 Tm2 d2, rr = some (.int code) ∧ w2 = wM a i2 r2 L z2 ++ wr ∧ MI Ty2 Tm2 Th (dcl Tm) d2 i2 r2 L ∧ ext Ty Ty2 ∧ (∀ (z : Nat) (row : List Nat), Tm[z]? = some row → Tm2[z]? = some row) ∧ (code = 0 → Ty2 = Ty1 ∧ Tm2 = Tm1 ∧ d2 = D ∧ z2 = lN h ∧ WG Ty1 Tm1 (dcl Tm) ∧ dcl Tm1 = dcl Tm ∧ WT Ty1 (dcl Tm) 0 D ∧ D.length < 1100 ∧ ∀ t : Nat, h.testBit t = true → t < Tm1.length)
theorem MI.scut {Ty Ty2 : List (Nat × Nat)} {Tm Tm2 : List (List Nat)} {Th : List Thm} {Cn : Nat → Option Nat} {d : List Nat} {i : Nat → Int32} {r : Nat → Nat → Int32} {L : Nat → Nat → Int64} {x y : Int32} (h : MI Ty2 Tm2 Th Cn d i r L) (hx : ext Ty Ty2) (hl : Ty.length ≤ 13) (hq : ∀ (z : Nat) (row : List Nat), Tm[z]? = some row → Tm2[z]? = some row) (hm : Tm.length ≤ 60) (e0 : x = nI (3 + Ty.length)) (e1 : y = nI Tm.length) : MI Ty Tm Th Cn d (upd (upd i 1 y) 2 x) r L :=
  MI.tcut (Ty2 := Ty2) ⟨h.1.mv (pk_un (by decide)) rfl rfl, ⟨by rw [pk_us]; exact e1, hm, fun t row ht => h.2.1.2.2 t row (hq t row ht)⟩, h.2.2.1, ⟨by rw [pk_un (by decide)]; exact h.2.2.2.1.1, h.2.2.2.1.2⟩, h.2.2.2.2.mv (pk_un (by decide)) rfl rfl⟩ hx hl e0
theorem bld_ax_lt : ∀ (n : Nat) (Th : List Thm), Th.length = n → ∀ x, x ∈ bld axF Th → x < 2 ^ n
  | 0, Th, h, x, hx => by
    have : Th = [] := List.eq_nil_of_length_eq_zero h
    subst this
    simp [bld] at hx
  | n + 1, Th, h, x, hx => by
    have hne : Th ≠ [] := by intro e; rw [e] at h; simp at h
    obtain ⟨T, th, rfl⟩ : ∃ T th, Th = T ++ [th] := ⟨Th.dropLast, Th.getLast hne, (List.dropLast_concat_getLast hne).symm⟩
    have hT : T.length = n := by simpa using h
    have ih := bld_ax_lt n T hT
    have hlt : 2 ^ n < 2 ^ (n + 1) := wb_lt2 (by omega)
    have hg : ∀ k, (bld axF T).getD k 0 < 2 ^ (n + 1) := fun k => by
      rw [List.getD_eq_getElem?_getD]
      cases e : (bld axF T)[k]? with
      | none => exact Nat.two_pow_pos _
      | some v => exact Nat.lt_trans (ih v (List.mem_of_getElem? e)) hlt
    have h0 : (0 : Nat) < 2 ^ (n + 1) := Nat.two_pow_pos _
    rw [bld_snoc, List.mem_append] at hx
    rcases hx with hx | hx
    · exact Nat.lt_trans (ih x hx) hlt
    · have e : x = axF (bld axF T) th := by simpa using hx
      rw [e, axF]
      refine Nat.or_lt_two_pow (Nat.or_lt_two_pow ?_ ?_) ?_
      · split
        · exact hg _
        · exact h0
      · split
        · exact hg _
        · exact h0
      · split
        · rw [bld_len', hT]; exact hlt
        · exact h0
theorem axv_lt {Th : List Thm} (h : Th.length ≤ 40) (k : Nat) : axv Th k < 2 ^ 62 := by
  unfold axv
  rw [List.getD_eq_getElem?_getD]
  cases e : (bld axF Th)[k]? with
  | none => exact Nat.two_pow_pos _
  | some v => exact Nat.lt_of_lt_of_le (bld_ax_lt _ Th rfl v (List.mem_of_getElem? e)) (Nat.pow_le_pow_right (by decide) (by omega))
theorem MB_add {Th : List Thm} {i i2 : Nat → Int32} {r r2 : Nat → Nat → Int32} {L L2 : Nat → Nat → Int64} {rl x y h c : Nat} (hb : MB Th i r L) (hf : Th.length ≠ 40) (hi : i2 3 = nI (Th.length + 1)) (h7 : r2 7 = upd (r 7) Th.length (nI c)) (h8 : r2 8 = upd (r 8) Th.length (nI (stF (bld stF Th) (rl, x, y, h, c)))) (hL0 : L2 0 = vp_updL (L 0) Th.length (lN h)) (hL1 : L2 1 = vp_updL (L 1) Th.length (lN (axF (bld axF Th) (rl, x, y, h, c)))) : MB (Th ++ [(rl, x, y, h, c)]) i2 r2 L2 := by
  obtain ⟨e1, e2, e3⟩ := hb
  refine ⟨by rw [hi]; simp, by simp; omega, fun k rl' x' y' h' c' hk => ?_⟩
  have hv : ∀ F : List Nat → Thm → Nat, ∀ k, k < Th.length → (bld F (Th ++ [(rl, x, y, h, c)])).getD k 0 = (bld F Th).getD k 0 := fun F k hk => by
    rw [bld_snoc, List.getD_eq_getElem?_getD, List.getElem?_append_left (by rw [bld_len']; exact hk), ← List.getD_eq_getElem?_getD]
  have hn : ∀ F : List Nat → Thm → Nat, (bld F (Th ++ [(rl, x, y, h, c)])).getD Th.length 0 = F (bld F Th) (rl, x, y, h, c) := fun F => by
    rw [bld_snoc, List.getD_eq_getElem?_getD, List.getElem?_append_right (by rw [bld_len']; exact Nat.le_refl _), bld_len']
    simp
  rw [hL0, hL1, h7, h8]
  by_cases q : k < Th.length
  · rw [List.getElem?_append_left q] at hk
    obtain ⟨f1, f2, f3, f4⟩ := e3 _ _ _ _ _ _ hk
    rw [pk_uLn (by omega), pk_uLn (by omega), pk_un (by omega), pk_un (by omega)]
    exact ⟨f1, f2, by rw [axv, hv axF k q]; exact f3, by rw [stv, hv stF k q]; exact f4⟩
  · rw [List.getElem?_append_right (by omega)] at hk
    have hz : k - Th.length < 1 := (List.getElem?_eq_some_iff.mp hk).1
    have hk2 : k = Th.length := by omega
    subst hk2
    simp at hk
    obtain ⟨rfl, rfl, rfl, rfl, rfl⟩ := hk
    rw [pk_uLs, pk_uLs, pk_us, pk_us]
    exact ⟨rfl, rfl, by rw [axv, hn axF], by rw [stv, hn stF]⟩
theorem MI.ad {Ty : List (Nat × Nat)} {Tm : List (List Nat)} {Th Th2 : List Thm} {Cn : Nat → Option Nat} {d : List Nat} {i i2 : Nat → Int32} {r r2 : Nat → Nat → Int32} {L L2 : Nat → Nat → Int64} (h : MI Ty Tm Th Cn d i r L) (hi : ∀ j, j ≠ 3 → i2 j = i j) (hr : ∀ j, j ≠ 7 → j ≠ 8 → r2 j = r j) (hb : MB Th2 i2 r2 L2) : MI Ty Tm Th2 Cn d i2 r2 L2 :=
  ⟨h.1.mv (hi 2 (by decide)) (hr 4 (by decide) (by decide)) (hr 5 (by decide) (by decide)), h.2.1.mv (hi 1 (by decide)) (hr 1 (by decide) (by decide)) (hr 2 (by decide) (by decide)) (fun _ _ => by rw [hr 0 (by decide) (by decide)]), h.2.2.1.mv (hr 6 (by decide) (by decide)), ⟨by rw [hi 0 (by decide)]; exact h.2.2.2.1.1, by rw [hr 0 (by decide) (by decide)]; exact h.2.2.2.1.2⟩, hb⟩
theorem ax_0 {acc : List Nat} {R x y h c : Nat} (h1 : ¬ nbx R = 2) (h2 : ¬ nby R = 2) (h3 : R ≠ 0) : (lN 0 ||| lN 0) ||| lN 0 = lN (axF acc (R, x, y, h, c)) := by
  unfold axF
  rw [if_neg h1, if_neg h2, if_neg h3]
  rfl
theorem ax_00 {acc : List Nat} {k x y h c : Nat} (hk : acc.length = k) (h40 : k < 40) : (lN 0 ||| lN 0) ||| (lN 1 <<< ((nI k).toInt64 &&& 63)) = lN (axF acc (0, x, y, h, c)) := by
  show _ = lN (((if nbx 0 = 2 then acc.getD x 0 else 0) ||| (if nby 0 = 2 then acc.getD y 0 else 0)) ||| (if (0 : Nat) = 0 then 2 ^ acc.length else 0))
  rw [if_neg (show ¬ nbx 0 = 2 by decide), if_neg (show ¬ nby 0 = 2 by decide), if_pos rfl, hk, lb_1 k (by omega), wb_or (by decide) (by decide), wb_or (by decide) (wb_lt2 (by omega))]
theorem ax_1 {acc : List Nat} {R x y h c X : Nat} (h1 : nbx R = 2) (h2 : ¬ nby R = 2) (h3 : R ≠ 0) (hX : acc.getD x 0 = X) (hl : X < 2 ^ 62) : (lN X ||| lN 0) ||| lN 0 = lN (axF acc (R, x, y, h, c)) := by
  unfold axF
  rw [if_pos h1, if_neg h2, if_neg h3, hX, wb_or (by omega) (by decide), wb_or (by rw [Nat.or_zero]; omega) (by decide)]
theorem ax_2 {acc : List Nat} {R x y h c X Y : Nat} (h1 : nbx R = 2) (h2 : nby R = 2) (h3 : R ≠ 0) (hX : acc.getD x 0 = X) (hl : X < 2 ^ 62) (hY : acc.getD y 0 = Y) (hl2 : Y < 2 ^ 62) : (lN X ||| lN Y) ||| lN 0 = lN (axF acc (R, x, y, h, c)) := by
  unfold axF
  rw [if_pos h1, if_pos h2, if_neg h3, hX, hY, wb_or (by omega) (by omega), wb_or (Nat.lt_trans (Nat.or_lt_two_pow hl hl2) (by decide)) (by decide)]
theorem GS.fin {Ty Ty1 : List (Nat × Nat)} {Tm Tm1 : List (List Nat)} {Th : List Thm} {D : List Nat} {R x y h c : Nat} (gs : GS Ty Tm Th) (hp : ∀ (z : Nat) (row : List Nat), Tm[z]? = some row → Tm1[z]? = some row) (wg : WG Ty1 Tm1 (dcl Tm)) (hd : dcl Tm1 = dcl Tm) (hw : WT Ty1 (dcl Tm) 0 D) (hb : ∀ t : Nat, h.testBit t = true → t < Tm1.length) (hl : Tm1.length ≤ 60) (hk : ¬ (sKeep Tm1 D).1 = -4) (he : (sKeep Tm1 D).1 = nI c) (hc : c < 60) : GS Ty1 (sKeep Tm1 D).2 (Th ++ [(R, x, y, h, c)]) := by
  obtain ⟨t, ht, -, he2, hD, -, hp9, -, hle, -⟩ := sKeep_nI hk hl
  have hct : c = t := nI_inj (by omega) (by omega) (he.symm.trans he2)
  refine ⟨?_, fun k rl' x' y' h' c' hk => ?_⟩
  · rw [← hd] at hw wg
    rw [dcl_keep (fun _ => hw) hl]
    exact wg.keep (fun _ => hw) hl
  · rcases snoc_at hk with q | q
    · obtain ⟨⟨A, hA, h0⟩, hbt⟩ := gs.2 _ _ _ _ _ _ q
      refine ⟨⟨A, hp9 _ _ (hp _ _ hA), h0⟩, fun t ht => ?_⟩
      obtain ⟨row, hrow⟩ := get_of (hbt t ht)
      exact (List.getElem?_eq_some_iff.mp (hp9 _ _ (hp _ _ hrow))).1
    · simp only [Prod.mk.injEq] at q
      obtain ⟨-, -, -, rfl, rfl⟩ := q
      exact ⟨⟨D, by rw [hct]; exact hD, hw.ty⟩, fun t ht => Nat.lt_of_lt_of_le (hb t ht) hle⟩
set_option maxRecDepth 100000 in
set_option maxHeartbeats 4000000 in
theorem c_M_tail_0 {τ : Nat × Nat} {a : Nat → Nat} {L : Nat → Nat → Int64} {wr w : pW} {Ty Ty1 : List (Nat × Nat)} {Tm Tm1 : List (List Nat)} {Th : List Thm} {D : List Nat} {code : Int32} {h : Nat} (F : pR3) (R xN yN : Nat) (hR : R < 14) (x y : Int32) (hn1 : ¬ nbx R = 2) (hn2 : ¬ nby R = 2) (b1 : Ty.length ≤ 13) (b2 : Tm.length ≤ 60) (gs : GS Ty Tm Th) (hc : code = 0 ∨ ¬ 0 ≤ code) (hF : F = if code = 0 then (if Th.length = 40 then (-4, Ty, Tm, Th) else sFin Ty Tm Th R xN yN h Ty1 Tm1 D) else (code, Ty, Tm, Th)) {rr : Option Value} (mo : MO a L wr Ty Tm Th code h Ty1 Tm1 D rr w) : ∃ v, rr = some (.int v) ∧ pG m_M_rule τ (fun rr w2 => ∃ i2 r2 L2 z2 d2, rr = some (.int (F.1)) ∧ w2 = wM a i2 r2 L2 z2 ++ wr ∧ MI (F.2.1) (F.2.2.1) (F.2.2.2) (dcl (F.2.2.1)) d2 i2 r2 L2 ∧ GS (F.2.1) (F.2.2.1) (F.2.2.2)) 0 0 132 [(6, .int (nI (3 + Ty.length))), (5, .int (nI Tm.length)), (4, .int (nI 0)), (0, .ref (a 0)), (1, .int (nI R)), (2, .int (x)), (3, .int (y))] [.int v] w := by
  obtain ⟨i2, r2, z2, Ty2, Tm2, d2, rfl, rfl, hI2, hx2, hp2, hok⟩ := mo
  refine ⟨code, rfl, ?_⟩
  obtain ⟨b1_, b2_, b3, b4, b5, b6, b7⟩ := hI2.b
  refine g_istore (pc := 132) [(7, _), (6, _), (5, _), (4, _), (0, _), (1, _), (2, _), (3, _)] d_M_rule_132 (by decide) rfl ?_
  refine g_iload (pc := 134) d_M_rule_134 rfl ?_
  refine g_if_ne (pc := 136) (tgt := 153) d_M_rule_136 (by decide) (fun h136 => ?_) (fun h136 => ?_)
  · refine g_iload (pc := 153) d_M_rule_153 rfl ?_
    refine g_istore (pc := 155) [(7, _), (6, _), (5, _), (4, _), (0, _), (1, _), (2, _), (3, _)] d_M_rule_155 (by decide) rfl ?_
    refine g_iload (pc := 157) d_M_rule_157 rfl ?_
    refine g_if_ne (pc := 159) (tgt := 169) d_M_rule_159 (by decide) (fun h159 => ?_) (fun h => absurd h h136)
    refine g_iload (pc := 169) d_M_rule_169 rfl ?_
    refine g_istore (pc := 171) [(8, _), (7, _), (6, _), (5, _), (4, _), (0, _), (1, _), (2, _), (3, _)] d_M_rule_171 (by decide) rfl ?_
    refine g_iload (pc := 173) d_M_rule_173 rfl ?_
    refine g_if_ge (pc := 175) (tgt := 193) d_M_rule_175 (by decide) (fun h => hc.elim (fun q => absurd q h136) (fun q => absurd h q)) (fun h175 => ?_)
    refine g_aload_n (pc := 178) d_M_rule_178 rfl ?_
    refine g_iload (pc := 179) d_M_rule_179 rfl ?_
    refine gm_terms_p (pc := 181) d_M_rule_181 lf_M_78 ?_
    refine g_aload_n (pc := 184) d_M_rule_184 rfl ?_
    refine g_iload (pc := 185) d_M_rule_185 rfl ?_
    refine gm_types_p (pc := 187) d_M_rule_187 lf_M_22 ?_
    refine g_iload (pc := 190) d_M_rule_190 rfl ?_
    refine g_iret (pc := 192) d_M_rule_192 rfl (Nat.le_refl _) (Nat.le_refl _) ?_
    have eF : F = (code, Ty, Tm, Th) := by rw [hF, if_neg h136]
    exact ⟨_, r2, L, z2, d2, by rw [eF], rfl, by rw [eF]; exact hI2.scut hx2 b1 hp2 b2 rfl rfl, by rw [eF]; exact gs⟩
  · refine g_aload_n (pc := 139) d_M_rule_139 rfl ?_
    refine gm_theorems (pc := 140) d_M_rule_140 lf_M_115 ?_
    rw [b6]
    refine g_bipush (pc := 143) (v := nI 40) d_M_rule_143 (by decide) ?_
    refine g_nicmp_ne (pc := 145) (tgt := 153) d_M_rule_145 (by decide) (by omega) (by omega) (fun h145 => ?_) (fun h145 => ?_)
    · refine g_iload (pc := 153) d_M_rule_153 rfl ?_
      refine g_istore (pc := 155) [(7, _), (6, _), (5, _), (4, _), (0, _), (1, _), (2, _), (3, _)] d_M_rule_155 (by decide) rfl ?_
      refine g_iload (pc := 157) d_M_rule_157 rfl ?_
      refine g_if_ne (pc := 159) (tgt := 169) d_M_rule_159 (by decide) (fun h => absurd h136 h) (fun h159 => ?_)
      obtain ⟨rfl, rfl, rfl, rfl, wg1, hd1, hw1, hl1, hbt⟩ := hok h136
      refine g_aload_n (pc := 162) d_M_rule_162 rfl ?_
      refine g_callV (M' := m_M_keep) (pc := 163) (q := 0) d_M_rule_163 lm_M_95 (c_M_keep 0 hI2 wg1 (fun _ => hw1) hl1) v_M_keep rfl rfl rfl (by decide) rfl (Nat.le_of_ble_eq_true rfl) ?_
      rintro _ _ ⟨i9, r9, rfl, rfl, hI9_⟩
      show pG m_M_rule τ _ 0 0 166 _ (.int _ :: _) _
      refine g_goto (pc := 166) (tgt := 171) d_M_rule_166 (by decide) ?_
      refine g_istore (pc := 171) [(8, _), (7, _), (6, _), (5, _), (4, _), (0, _), (1, _), (2, _), (3, _)] d_M_rule_171 (by decide) rfl ?_
      refine g_iload (pc := 173) d_M_rule_173 rfl ?_
      refine g_if_ge (pc := 175) (tgt := 193) d_M_rule_175 (by decide) (fun h175 => ?_) (fun h175 => ?_)
      · have hI9 := hI9_
        have q4 := keep_pos h175
        obtain ⟨c, hc1, hc2, he, -⟩ := sKeep_nI q4 b2_
        rw [he]
        have hT := hI9.b.2.2.1
        have b69 := hI9.b.2.2.2.2.2.1
        have gsf := gs.fin (R := R) (x := xN) (y := yN) hp2 wg1 hd1 hw1 hbt b2_ q4 he hc1
        refine g_aload_n (pc := 193) d_M_rule_193 rfl ?_
        refine gm_theorems (pc := 194) d_M_rule_194 lf_M_115 ?_
        rw [b69]
        refine g_istore (pc := 197) [(9, _), (8, _), (7, _), (6, _), (5, _), (4, _), (0, _), (1, _), (2, _), (3, _)] d_M_rule_197 (by decide) rfl ?_
        refine g_aload_n (pc := 199) d_M_rule_199 rfl ?_
        refine gm_hypotheses (pc := 200) d_M_rule_200 lf_M_35 ?_
        refine g_iload (pc := 203) d_M_rule_203 rfl ?_
        refine g_aload_n (pc := 205) d_M_rule_205 rfl ?_
        refine gm_set (pc := 206) d_M_rule_206 lf_M_118 ?_
        refine gsm_hypotheses (pc := 209) d_M_rule_209 (vp_in_nI (by omega) (by decide)) ?_
        refine g_aload_n (pc := 210) d_M_rule_210 rfl ?_
        refine gm_conclusion (pc := 211) d_M_rule_211 lf_M_39 ?_
        refine g_iload (pc := 214) d_M_rule_214 rfl ?_
        refine g_iload (pc := 216) d_M_rule_216 rfl ?_
        refine gsm_conclusion (pc := 218) d_M_rule_218 (vp_in_nI (by omega) (by decide)) ?_
        refine g_aload_n (pc := 219) d_M_rule_219 rfl ?_
        refine gm_axioms (pc := 220) d_M_rule_220 lf_M_42 ?_
        refine g_iload (pc := 223) d_M_rule_223 rfl ?_
        refine g_iload (pc := 225) d_M_rule_225 rfl ?_
        refine g_nif_le (pc := 227) (tgt := 239) d_M_rule_227 (by decide) (by omega) (fun h227 => ?_) (fun h => absurd h (by omega))
        refine g_lconst (pc := 239) (v := lN 0) d_M_rule_239 (by decide) ?_
        refine g_iload (pc := 240) d_M_rule_240 rfl ?_
        refine g_iconst (pc := 242) (v := nI 1) d_M_rule_242 (by decide) ?_
        refine g_nicmp_le (pc := 243) (tgt := 255) d_M_rule_243 (by decide) (by omega) (by omega) (fun h243 => ?_) (fun h => absurd h (by omega))
        refine g_lconst (pc := 255) (v := lN 0) d_M_rule_255 (by decide) ?_
        refine g_lor (pc := 256) d_M_rule_256 ?_
        refine g_iload_n (pc := 257) d_M_rule_257 rfl ?_
        refine g_nif_ne (pc := 258) (tgt := 268) d_M_rule_258 (by decide) (by omega) (fun h258 => ?_) (fun h258 => ?_)
        · refine g_lconst (pc := 268) (v := lN 0) d_M_rule_268 (by decide) ?_
          refine g_lor (pc := 269) d_M_rule_269 ?_
          refine g_topl (lN (axF (bld axF Th) (R, xN, yN, h, c))) (ax_0 hn1 hn2 h258) ?_
          refine gsm_axioms (pc := 270) d_M_rule_270 (vp_in_nI (by omega) (by decide)) ?_
          refine g_iconst (pc := 271) (v := nI 1) d_M_rule_271 (by decide) ?_
          refine g_iload (pc := 272) d_M_rule_272 rfl ?_
          refine g_nif_le (pc := 274) (tgt := 286) d_M_rule_274 (by decide) (by omega) (fun h274 => ?_) (fun h => absurd h (by omega))
          refine g_iconst (pc := 286) (v := nI 0) d_M_rule_286 (by decide) ?_
          refine g_nadd (pc := 287) d_M_rule_287 ?_
          refine g_iload (pc := 288) d_M_rule_288 rfl ?_
          refine g_iconst (pc := 290) (v := nI 1) d_M_rule_290 (by decide) ?_
          refine g_nicmp_le (pc := 291) (tgt := 303) d_M_rule_291 (by decide) (by omega) (by omega) (fun h291 => ?_) (fun h => absurd h (by omega))
          refine g_iconst (pc := 303) (v := nI 0) d_M_rule_303 (by decide) ?_
          refine g_nadd (pc := 304) d_M_rule_304 ?_
          refine g_istore (pc := 305) [(10, _), (9, _), (8, _), (7, _), (6, _), (5, _), (4, _), (0, _), (1, _), (2, _), (3, _)] d_M_rule_305 (by decide) rfl ?_
          refine g_aload_n (pc := 307) d_M_rule_307 rfl ?_
          refine gm_steps (pc := 308) d_M_rule_308 lf_M_45 ?_
          refine g_iload (pc := 311) d_M_rule_311 rfl ?_
          refine g_iload (pc := 313) d_M_rule_313 rfl ?_
          refine g_ldc (pc := 315) d_M_rule_315 lk_M_161 ?_
          refine g_topi (nI 1000000) (by decide) ?_
          refine g_nicmp_le (pc := 317) (tgt := 325) d_M_rule_317 (by decide) (by omega) (by omega) (fun h317 => ?_) (fun h317 => ?_)
          · refine g_iload (pc := 325) d_M_rule_325 rfl ?_
            refine g_topi (nI (stF (bld stF Th) (R, xN, yN, h, c))) (congrArg nI (by
              unfold stF
              show _ = min (1 + (if nbx R = 2 then stv Th xN else 0) + (if nby R = 2 then stv Th yN else 0)) 1000000
              rw [if_neg hn1, if_neg hn2]
              omega)) ?_
            refine gsm_steps (pc := 327) d_M_rule_327 (vp_in_nI (by omega) (by decide)) ?_
            refine g_aload_n (pc := 328) d_M_rule_328 rfl ?_
            refine g_dup (pc := 329) d_M_rule_329 rfl ?_
            refine gm_theorems (pc := 330) d_M_rule_330 lf_M_115 ?_
            rw [b69]
            refine g_iconst (pc := 333) (v := nI 1) d_M_rule_333 (by decide) ?_
            refine g_nadd (pc := 334) d_M_rule_334 ?_
            refine gm_theorems_p (pc := 335) d_M_rule_335 lf_M_115 ?_
            refine g_iload (pc := 338) d_M_rule_338 rfl ?_
            refine g_iret (pc := 340) d_M_rule_340 rfl (Nat.le_refl _) (Nat.le_refl _) ?_
            have eF : F = (nI Th.length, Ty2, (sKeep Tm2 d2).2, Th ++ [(R, xN, yN, h, c)]) := by rw [hF, if_pos h136, if_neg h145, sFin, if_neg q4, he, nI_clamp (by omega)]
            refine ⟨_, _, _, _, d2, by rw [eF], rfl, ?_, by rw [eF]; exact gsf⟩
            rw [eF]
            refine MI.cn ?_ ((dcl_keep (e := 0) (fun _ => by rw [hd1]; exact hw1) b2_).trans hd1)
            refine hI9.ad (fun j hj => pk_un hj) (fun j h7 h8 => by rw [up_n h8, up_n h7]) (MB_add hI9.2.2.2.2 h145 (by rw [pk_us]) ?_ ?_ ?_ ?_)
            · rw [up_n (by decide), up_s, nI_clamp (by omega)]
            · rw [up_s, nI_clamp (by omega), up_n (by decide)]
            · rw [up_n (by decide), up_s, nI_clamp (by omega)]
            · rw [up_s, nI_clamp (by omega), up_n (by decide)]
          · refine g_ldc (pc := 320) d_M_rule_320 lk_M_161 ?_
            refine g_topi (nI 1000000) (by decide) ?_
            refine g_goto (pc := 322) (tgt := 327) d_M_rule_322 (by decide) ?_
            refine g_topi (nI (stF (bld stF Th) (R, xN, yN, h, c))) (congrArg nI (by
              unfold stF
              show _ = min (1 + (if nbx R = 2 then stv Th xN else 0) + (if nby R = 2 then stv Th yN else 0)) 1000000
              rw [if_neg hn1, if_neg hn2]
              omega)) ?_
            refine gsm_steps (pc := 327) d_M_rule_327 (vp_in_nI (by omega) (by decide)) ?_
            refine g_aload_n (pc := 328) d_M_rule_328 rfl ?_
            refine g_dup (pc := 329) d_M_rule_329 rfl ?_
            refine gm_theorems (pc := 330) d_M_rule_330 lf_M_115 ?_
            rw [b69]
            refine g_iconst (pc := 333) (v := nI 1) d_M_rule_333 (by decide) ?_
            refine g_nadd (pc := 334) d_M_rule_334 ?_
            refine gm_theorems_p (pc := 335) d_M_rule_335 lf_M_115 ?_
            refine g_iload (pc := 338) d_M_rule_338 rfl ?_
            refine g_iret (pc := 340) d_M_rule_340 rfl (Nat.le_refl _) (Nat.le_refl _) ?_
            have eF : F = (nI Th.length, Ty2, (sKeep Tm2 d2).2, Th ++ [(R, xN, yN, h, c)]) := by rw [hF, if_pos h136, if_neg h145, sFin, if_neg q4, he, nI_clamp (by omega)]
            refine ⟨_, _, _, _, d2, by rw [eF], rfl, ?_, by rw [eF]; exact gsf⟩
            rw [eF]
            refine MI.cn ?_ ((dcl_keep (e := 0) (fun _ => by rw [hd1]; exact hw1) b2_).trans hd1)
            refine hI9.ad (fun j hj => pk_un hj) (fun j h7 h8 => by rw [up_n h8, up_n h7]) (MB_add hI9.2.2.2.2 h145 (by rw [pk_us]) ?_ ?_ ?_ ?_)
            · rw [up_n (by decide), up_s, nI_clamp (by omega)]
            · rw [up_s, nI_clamp (by omega), up_n (by decide)]
            · rw [up_n (by decide), up_s, nI_clamp (by omega)]
            · rw [up_s, nI_clamp (by omega), up_n (by decide)]
        · refine g_lconst (pc := 261) (v := lN 1) d_M_rule_261 (by decide) ?_
          refine g_iload (pc := 262) d_M_rule_262 rfl ?_
          refine g_lshl (pc := 264) d_M_rule_264 ?_
          refine g_goto (pc := 265) (tgt := 269) d_M_rule_265 (by decide) ?_
          refine g_lor (pc := 269) d_M_rule_269 ?_
          subst h258
          refine g_topl (lN (axF (bld axF Th) (0, xN, yN, h, c))) (ax_00 (bld_len' axF Th) (by omega)) ?_
          refine gsm_axioms (pc := 270) d_M_rule_270 (vp_in_nI (by omega) (by decide)) ?_
          refine g_iconst (pc := 271) (v := nI 1) d_M_rule_271 (by decide) ?_
          refine g_iload (pc := 272) d_M_rule_272 rfl ?_
          refine g_nif_le (pc := 274) (tgt := 286) d_M_rule_274 (by decide) (by omega) (fun h274 => ?_) (fun h => absurd h (by omega))
          refine g_iconst (pc := 286) (v := nI 0) d_M_rule_286 (by decide) ?_
          refine g_nadd (pc := 287) d_M_rule_287 ?_
          refine g_iload (pc := 288) d_M_rule_288 rfl ?_
          refine g_iconst (pc := 290) (v := nI 1) d_M_rule_290 (by decide) ?_
          refine g_nicmp_le (pc := 291) (tgt := 303) d_M_rule_291 (by decide) (by omega) (by omega) (fun h291 => ?_) (fun h => absurd h (by omega))
          refine g_iconst (pc := 303) (v := nI 0) d_M_rule_303 (by decide) ?_
          refine g_nadd (pc := 304) d_M_rule_304 ?_
          refine g_istore (pc := 305) [(10, _), (9, _), (8, _), (7, _), (6, _), (5, _), (4, _), (0, _), (1, _), (2, _), (3, _)] d_M_rule_305 (by decide) rfl ?_
          refine g_aload_n (pc := 307) d_M_rule_307 rfl ?_
          refine gm_steps (pc := 308) d_M_rule_308 lf_M_45 ?_
          refine g_iload (pc := 311) d_M_rule_311 rfl ?_
          refine g_iload (pc := 313) d_M_rule_313 rfl ?_
          refine g_ldc (pc := 315) d_M_rule_315 lk_M_161 ?_
          refine g_topi (nI 1000000) (by decide) ?_
          refine g_nicmp_le (pc := 317) (tgt := 325) d_M_rule_317 (by decide) (by omega) (by omega) (fun h317 => ?_) (fun h317 => ?_)
          · refine g_iload (pc := 325) d_M_rule_325 rfl ?_
            refine g_topi (nI (stF (bld stF Th) (0, xN, yN, h, c))) (congrArg nI (by
              unfold stF
              show _ = min (1 + (if nbx 0 = 2 then stv Th xN else 0) + (if nby 0 = 2 then stv Th yN else 0)) 1000000
              rw [if_neg hn1, if_neg hn2]
              omega)) ?_
            refine gsm_steps (pc := 327) d_M_rule_327 (vp_in_nI (by omega) (by decide)) ?_
            refine g_aload_n (pc := 328) d_M_rule_328 rfl ?_
            refine g_dup (pc := 329) d_M_rule_329 rfl ?_
            refine gm_theorems (pc := 330) d_M_rule_330 lf_M_115 ?_
            rw [b69]
            refine g_iconst (pc := 333) (v := nI 1) d_M_rule_333 (by decide) ?_
            refine g_nadd (pc := 334) d_M_rule_334 ?_
            refine gm_theorems_p (pc := 335) d_M_rule_335 lf_M_115 ?_
            refine g_iload (pc := 338) d_M_rule_338 rfl ?_
            refine g_iret (pc := 340) d_M_rule_340 rfl (Nat.le_refl _) (Nat.le_refl _) ?_
            have eF : F = (nI Th.length, Ty2, (sKeep Tm2 d2).2, Th ++ [(0, xN, yN, h, c)]) := by rw [hF, if_pos h136, if_neg h145, sFin, if_neg q4, he, nI_clamp (by omega)]
            refine ⟨_, _, _, _, d2, by rw [eF], rfl, ?_, by rw [eF]; exact gsf⟩
            rw [eF]
            refine MI.cn ?_ ((dcl_keep (e := 0) (fun _ => by rw [hd1]; exact hw1) b2_).trans hd1)
            refine hI9.ad (fun j hj => pk_un hj) (fun j h7 h8 => by rw [up_n h8, up_n h7]) (MB_add hI9.2.2.2.2 h145 (by rw [pk_us]) ?_ ?_ ?_ ?_)
            · rw [up_n (by decide), up_s, nI_clamp (by omega)]
            · rw [up_s, nI_clamp (by omega), up_n (by decide)]
            · rw [up_n (by decide), up_s, nI_clamp (by omega)]
            · rw [up_s, nI_clamp (by omega), up_n (by decide)]
          · refine g_ldc (pc := 320) d_M_rule_320 lk_M_161 ?_
            refine g_topi (nI 1000000) (by decide) ?_
            refine g_goto (pc := 322) (tgt := 327) d_M_rule_322 (by decide) ?_
            refine g_topi (nI (stF (bld stF Th) (0, xN, yN, h, c))) (congrArg nI (by
              unfold stF
              show _ = min (1 + (if nbx 0 = 2 then stv Th xN else 0) + (if nby 0 = 2 then stv Th yN else 0)) 1000000
              rw [if_neg hn1, if_neg hn2]
              omega)) ?_
            refine gsm_steps (pc := 327) d_M_rule_327 (vp_in_nI (by omega) (by decide)) ?_
            refine g_aload_n (pc := 328) d_M_rule_328 rfl ?_
            refine g_dup (pc := 329) d_M_rule_329 rfl ?_
            refine gm_theorems (pc := 330) d_M_rule_330 lf_M_115 ?_
            rw [b69]
            refine g_iconst (pc := 333) (v := nI 1) d_M_rule_333 (by decide) ?_
            refine g_nadd (pc := 334) d_M_rule_334 ?_
            refine gm_theorems_p (pc := 335) d_M_rule_335 lf_M_115 ?_
            refine g_iload (pc := 338) d_M_rule_338 rfl ?_
            refine g_iret (pc := 340) d_M_rule_340 rfl (Nat.le_refl _) (Nat.le_refl _) ?_
            have eF : F = (nI Th.length, Ty2, (sKeep Tm2 d2).2, Th ++ [(0, xN, yN, h, c)]) := by rw [hF, if_pos h136, if_neg h145, sFin, if_neg q4, he, nI_clamp (by omega)]
            refine ⟨_, _, _, _, d2, by rw [eF], rfl, ?_, by rw [eF]; exact gsf⟩
            rw [eF]
            refine MI.cn ?_ ((dcl_keep (e := 0) (fun _ => by rw [hd1]; exact hw1) b2_).trans hd1)
            refine hI9.ad (fun j hj => pk_un hj) (fun j h7 h8 => by rw [up_n h8, up_n h7]) (MB_add hI9.2.2.2.2 h145 (by rw [pk_us]) ?_ ?_ ?_ ?_)
            · rw [up_n (by decide), up_s, nI_clamp (by omega)]
            · rw [up_s, nI_clamp (by omega), up_n (by decide)]
            · rw [up_n (by decide), up_s, nI_clamp (by omega)]
            · rw [up_s, nI_clamp (by omega), up_n (by decide)]
      · refine g_aload_n (pc := 178) d_M_rule_178 rfl ?_
        refine g_iload (pc := 179) d_M_rule_179 rfl ?_
        refine gm_terms_p (pc := 181) d_M_rule_181 lf_M_78 ?_
        refine g_aload_n (pc := 184) d_M_rule_184 rfl ?_
        refine g_iload (pc := 185) d_M_rule_185 rfl ?_
        refine gm_types_p (pc := 187) d_M_rule_187 lf_M_22 ?_
        refine g_iload (pc := 190) d_M_rule_190 rfl ?_
        refine g_iret (pc := 192) d_M_rule_192 rfl (Nat.le_refl _) (Nat.le_refl _) ?_
        have q4 := keep_neg b2_ h175
        have eF : F = (-4, Ty, Tm, Th) := by rw [hF, if_pos h136, if_neg h145, sFin, if_pos q4]
        exact ⟨_, r9, L, _, _, by rw [eF, q4], rfl, by rw [eF]; exact (hI9_.m4 q4 b2_).scut hx2 b1 hp2 b2 rfl rfl, by rw [eF]; exact gs⟩
    · refine g_bipush (pc := 148) (v := -4) d_M_rule_148 (by decide) ?_
      refine g_goto (pc := 150) (tgt := 155) d_M_rule_150 (by decide) ?_
      refine g_istore (pc := 155) [(7, _), (6, _), (5, _), (4, _), (0, _), (1, _), (2, _), (3, _)] d_M_rule_155 (by decide) rfl ?_
      refine g_iload (pc := 157) d_M_rule_157 rfl ?_
      refine g_if_ne (pc := 159) (tgt := 169) d_M_rule_159 (by decide) (fun h159 => ?_) (fun h => absurd h (by decide))
      refine g_iload (pc := 169) d_M_rule_169 rfl ?_
      refine g_istore (pc := 171) [(8, _), (7, _), (6, _), (5, _), (4, _), (0, _), (1, _), (2, _), (3, _)] d_M_rule_171 (by decide) rfl ?_
      refine g_iload (pc := 173) d_M_rule_173 rfl ?_
      refine g_if_ge (pc := 175) (tgt := 193) d_M_rule_175 (by decide) (fun h => absurd h (by decide)) (fun h175 => ?_)
      refine g_aload_n (pc := 178) d_M_rule_178 rfl ?_
      refine g_iload (pc := 179) d_M_rule_179 rfl ?_
      refine gm_terms_p (pc := 181) d_M_rule_181 lf_M_78 ?_
      refine g_aload_n (pc := 184) d_M_rule_184 rfl ?_
      refine g_iload (pc := 185) d_M_rule_185 rfl ?_
      refine gm_types_p (pc := 187) d_M_rule_187 lf_M_22 ?_
      refine g_iload (pc := 190) d_M_rule_190 rfl ?_
      refine g_iret (pc := 192) d_M_rule_192 rfl (Nat.le_refl _) (Nat.le_refl _) ?_
      have eF : F = (-4, Ty, Tm, Th) := by rw [hF, if_pos h136, if_pos h145]
      exact ⟨_, r2, L, z2, d2, by rw [eF], rfl, by rw [eF]; exact hI2.scut hx2 b1 hp2 b2 rfl rfl, by rw [eF]; exact gs⟩
set_option maxRecDepth 100000 in
set_option maxHeartbeats 4000000 in
theorem c_M_tail_1 {τ : Nat × Nat} {a : Nat → Nat} {L : Nat → Nat → Int64} {wr w : pW} {Ty Ty1 : List (Nat × Nat)} {Tm Tm1 : List (List Nat)} {Th : List Thm} {D : List Nat} {code : Int32} {h : Nat} (F : pR3) (R xN yN : Nat) (hR : R < 14) (y : Int32) (hn1 : nbx R = 2) (hn2 : ¬ nby R = 2) (hR0 : R ≠ 0) (hxl : xN < Th.length) (b1 : Ty.length ≤ 13) (b2 : Tm.length ≤ 60) (gs : GS Ty Tm Th) (hc : code = 0 ∨ ¬ 0 ≤ code) (hF : F = if code = 0 then (if Th.length = 40 then (-4, Ty, Tm, Th) else sFin Ty Tm Th R xN yN h Ty1 Tm1 D) else (code, Ty, Tm, Th)) {rr : Option Value} (mo : MO a L wr Ty Tm Th code h Ty1 Tm1 D rr w) : ∃ v, rr = some (.int v) ∧ pG m_M_rule τ (fun rr w2 => ∃ i2 r2 L2 z2 d2, rr = some (.int (F.1)) ∧ w2 = wM a i2 r2 L2 z2 ++ wr ∧ MI (F.2.1) (F.2.2.1) (F.2.2.2) (dcl (F.2.2.1)) d2 i2 r2 L2 ∧ GS (F.2.1) (F.2.2.1) (F.2.2.2)) 0 0 132 [(6, .int (nI (3 + Ty.length))), (5, .int (nI Tm.length)), (4, .int (nI 1)), (0, .ref (a 0)), (1, .int (nI R)), (2, .int (nI xN)), (3, .int (y))] [.int v] w := by
  obtain ⟨i2, r2, z2, Ty2, Tm2, d2, rfl, rfl, hI2, hx2, hp2, hok⟩ := mo
  refine ⟨code, rfl, ?_⟩
  obtain ⟨b1_, b2_, b3, b4, b5, b6, b7⟩ := hI2.b
  refine g_istore (pc := 132) [(7, _), (6, _), (5, _), (4, _), (0, _), (1, _), (2, _), (3, _)] d_M_rule_132 (by decide) rfl ?_
  refine g_iload (pc := 134) d_M_rule_134 rfl ?_
  refine g_if_ne (pc := 136) (tgt := 153) d_M_rule_136 (by decide) (fun h136 => ?_) (fun h136 => ?_)
  · refine g_iload (pc := 153) d_M_rule_153 rfl ?_
    refine g_istore (pc := 155) [(7, _), (6, _), (5, _), (4, _), (0, _), (1, _), (2, _), (3, _)] d_M_rule_155 (by decide) rfl ?_
    refine g_iload (pc := 157) d_M_rule_157 rfl ?_
    refine g_if_ne (pc := 159) (tgt := 169) d_M_rule_159 (by decide) (fun h159 => ?_) (fun h => absurd h h136)
    refine g_iload (pc := 169) d_M_rule_169 rfl ?_
    refine g_istore (pc := 171) [(8, _), (7, _), (6, _), (5, _), (4, _), (0, _), (1, _), (2, _), (3, _)] d_M_rule_171 (by decide) rfl ?_
    refine g_iload (pc := 173) d_M_rule_173 rfl ?_
    refine g_if_ge (pc := 175) (tgt := 193) d_M_rule_175 (by decide) (fun h => hc.elim (fun q => absurd q h136) (fun q => absurd h q)) (fun h175 => ?_)
    refine g_aload_n (pc := 178) d_M_rule_178 rfl ?_
    refine g_iload (pc := 179) d_M_rule_179 rfl ?_
    refine gm_terms_p (pc := 181) d_M_rule_181 lf_M_78 ?_
    refine g_aload_n (pc := 184) d_M_rule_184 rfl ?_
    refine g_iload (pc := 185) d_M_rule_185 rfl ?_
    refine gm_types_p (pc := 187) d_M_rule_187 lf_M_22 ?_
    refine g_iload (pc := 190) d_M_rule_190 rfl ?_
    refine g_iret (pc := 192) d_M_rule_192 rfl (Nat.le_refl _) (Nat.le_refl _) ?_
    have eF : F = (code, Ty, Tm, Th) := by rw [hF, if_neg h136]
    exact ⟨_, r2, L, z2, d2, by rw [eF], rfl, by rw [eF]; exact hI2.scut hx2 b1 hp2 b2 rfl rfl, by rw [eF]; exact gs⟩
  · refine g_aload_n (pc := 139) d_M_rule_139 rfl ?_
    refine gm_theorems (pc := 140) d_M_rule_140 lf_M_115 ?_
    rw [b6]
    refine g_bipush (pc := 143) (v := nI 40) d_M_rule_143 (by decide) ?_
    refine g_nicmp_ne (pc := 145) (tgt := 153) d_M_rule_145 (by decide) (by omega) (by omega) (fun h145 => ?_) (fun h145 => ?_)
    · refine g_iload (pc := 153) d_M_rule_153 rfl ?_
      refine g_istore (pc := 155) [(7, _), (6, _), (5, _), (4, _), (0, _), (1, _), (2, _), (3, _)] d_M_rule_155 (by decide) rfl ?_
      refine g_iload (pc := 157) d_M_rule_157 rfl ?_
      refine g_if_ne (pc := 159) (tgt := 169) d_M_rule_159 (by decide) (fun h => absurd h136 h) (fun h159 => ?_)
      obtain ⟨rfl, rfl, rfl, rfl, wg1, hd1, hw1, hl1, hbt⟩ := hok h136
      refine g_aload_n (pc := 162) d_M_rule_162 rfl ?_
      refine g_callV (M' := m_M_keep) (pc := 163) (q := 0) d_M_rule_163 lm_M_95 (c_M_keep 0 hI2 wg1 (fun _ => hw1) hl1) v_M_keep rfl rfl rfl (by decide) rfl (Nat.le_of_ble_eq_true rfl) ?_
      rintro _ _ ⟨i9, r9, rfl, rfl, hI9_⟩
      show pG m_M_rule τ _ 0 0 166 _ (.int _ :: _) _
      refine g_goto (pc := 166) (tgt := 171) d_M_rule_166 (by decide) ?_
      refine g_istore (pc := 171) [(8, _), (7, _), (6, _), (5, _), (4, _), (0, _), (1, _), (2, _), (3, _)] d_M_rule_171 (by decide) rfl ?_
      refine g_iload (pc := 173) d_M_rule_173 rfl ?_
      refine g_if_ge (pc := 175) (tgt := 193) d_M_rule_175 (by decide) (fun h175 => ?_) (fun h175 => ?_)
      · have hI9 := hI9_
        have q4 := keep_pos h175
        obtain ⟨c, hc1, hc2, he, -⟩ := sKeep_nI q4 b2_
        rw [he]
        have hT := hI9.b.2.2.1
        have b69 := hI9.b.2.2.2.2.2.1
        have gsf := gs.fin (R := R) (x := xN) (y := yN) hp2 wg1 hd1 hw1 hbt b2_ q4 he hc1
        obtain ⟨⟨ux, vx, zx, hx, cx⟩, tx⟩ := get_of hxl
        obtain ⟨mx1, mx2, mx3, mx4⟩ := hI9.2.2.2.2.2.2 _ _ _ _ _ _ tx
        have sx := stv_le Th xN
        refine g_aload_n (pc := 193) d_M_rule_193 rfl ?_
        refine gm_theorems (pc := 194) d_M_rule_194 lf_M_115 ?_
        rw [b69]
        refine g_istore (pc := 197) [(9, _), (8, _), (7, _), (6, _), (5, _), (4, _), (0, _), (1, _), (2, _), (3, _)] d_M_rule_197 (by decide) rfl ?_
        refine g_aload_n (pc := 199) d_M_rule_199 rfl ?_
        refine gm_hypotheses (pc := 200) d_M_rule_200 lf_M_35 ?_
        refine g_iload (pc := 203) d_M_rule_203 rfl ?_
        refine g_aload_n (pc := 205) d_M_rule_205 rfl ?_
        refine gm_set (pc := 206) d_M_rule_206 lf_M_118 ?_
        refine gsm_hypotheses (pc := 209) d_M_rule_209 (vp_in_nI (by omega) (by decide)) ?_
        refine g_aload_n (pc := 210) d_M_rule_210 rfl ?_
        refine gm_conclusion (pc := 211) d_M_rule_211 lf_M_39 ?_
        refine g_iload (pc := 214) d_M_rule_214 rfl ?_
        refine g_iload (pc := 216) d_M_rule_216 rfl ?_
        refine gsm_conclusion (pc := 218) d_M_rule_218 (vp_in_nI (by omega) (by decide)) ?_
        refine g_aload_n (pc := 219) d_M_rule_219 rfl ?_
        refine gm_axioms (pc := 220) d_M_rule_220 lf_M_42 ?_
        refine g_iload (pc := 223) d_M_rule_223 rfl ?_
        refine g_iload (pc := 225) d_M_rule_225 rfl ?_
        refine g_nif_le (pc := 227) (tgt := 239) d_M_rule_227 (by decide) (by omega) (fun h => absurd h (by omega)) (fun h227 => ?_)
        refine g_aload_n (pc := 230) d_M_rule_230 rfl ?_
        refine gm_axioms (pc := 231) d_M_rule_231 lf_M_42 ?_
        refine g_iload_n (pc := 234) d_M_rule_234 rfl ?_
        refine glm_axioms (pc := 235) (v := lN (axv Th xN)) d_M_rule_235 (vp_in_nI (by omega) (by decide)) (by rw [up_n (by decide), nI_clamp (by omega)]; exact mx3) ?_
        refine g_goto (pc := 236) (tgt := 240) d_M_rule_236 (by decide) ?_
        refine g_iload (pc := 240) d_M_rule_240 rfl ?_
        refine g_iconst (pc := 242) (v := nI 1) d_M_rule_242 (by decide) ?_
        refine g_nicmp_le (pc := 243) (tgt := 255) d_M_rule_243 (by decide) (by omega) (by omega) (fun h243 => ?_) (fun h => absurd h (by omega))
        refine g_lconst (pc := 255) (v := lN 0) d_M_rule_255 (by decide) ?_
        refine g_lor (pc := 256) d_M_rule_256 ?_
        refine g_iload_n (pc := 257) d_M_rule_257 rfl ?_
        refine g_nif_ne (pc := 258) (tgt := 268) d_M_rule_258 (by decide) (by omega) (fun h258 => ?_) (fun h => absurd h hR0)
        refine g_lconst (pc := 268) (v := lN 0) d_M_rule_268 (by decide) ?_
        refine g_lor (pc := 269) d_M_rule_269 ?_
        refine g_topl (lN (axF (bld axF Th) (R, xN, yN, h, c))) (ax_1 hn1 hn2 hR0 rfl (axv_lt b3 xN)) ?_
        refine gsm_axioms (pc := 270) d_M_rule_270 (vp_in_nI (by omega) (by decide)) ?_
        refine g_iconst (pc := 271) (v := nI 1) d_M_rule_271 (by decide) ?_
        refine g_iload (pc := 272) d_M_rule_272 rfl ?_
        refine g_nif_le (pc := 274) (tgt := 286) d_M_rule_274 (by decide) (by omega) (fun h => absurd h (by omega)) (fun h274 => ?_)
        refine g_aload_n (pc := 277) d_M_rule_277 rfl ?_
        refine gm_steps (pc := 278) d_M_rule_278 lf_M_45 ?_
        refine g_iload_n (pc := 281) d_M_rule_281 rfl ?_
        refine glm_steps (pc := 282) (v := nI (stv Th xN)) d_M_rule_282 (vp_in_nI (by omega) (by decide)) (by rw [up_n (by decide), nI_clamp (by omega)]; exact mx4) ?_
        refine g_goto (pc := 283) (tgt := 287) d_M_rule_283 (by decide) ?_
        refine g_nadd (pc := 287) d_M_rule_287 ?_
        refine g_iload (pc := 288) d_M_rule_288 rfl ?_
        refine g_iconst (pc := 290) (v := nI 1) d_M_rule_290 (by decide) ?_
        refine g_nicmp_le (pc := 291) (tgt := 303) d_M_rule_291 (by decide) (by omega) (by omega) (fun h291 => ?_) (fun h => absurd h (by omega))
        refine g_iconst (pc := 303) (v := nI 0) d_M_rule_303 (by decide) ?_
        refine g_nadd (pc := 304) d_M_rule_304 ?_
        refine g_istore (pc := 305) [(10, _), (9, _), (8, _), (7, _), (6, _), (5, _), (4, _), (0, _), (1, _), (2, _), (3, _)] d_M_rule_305 (by decide) rfl ?_
        refine g_aload_n (pc := 307) d_M_rule_307 rfl ?_
        refine gm_steps (pc := 308) d_M_rule_308 lf_M_45 ?_
        refine g_iload (pc := 311) d_M_rule_311 rfl ?_
        refine g_iload (pc := 313) d_M_rule_313 rfl ?_
        refine g_ldc (pc := 315) d_M_rule_315 lk_M_161 ?_
        refine g_topi (nI 1000000) (by decide) ?_
        refine g_nicmp_le (pc := 317) (tgt := 325) d_M_rule_317 (by decide) (by omega) (by omega) (fun h317 => ?_) (fun h317 => ?_)
        · refine g_iload (pc := 325) d_M_rule_325 rfl ?_
          refine g_topi (nI (stF (bld stF Th) (R, xN, yN, h, c))) (congrArg nI (by
            unfold stF
            show _ = min (1 + (if nbx R = 2 then stv Th xN else 0) + (if nby R = 2 then stv Th yN else 0)) 1000000
            rw [if_pos hn1, if_neg hn2]
            omega)) ?_
          refine gsm_steps (pc := 327) d_M_rule_327 (vp_in_nI (by omega) (by decide)) ?_
          refine g_aload_n (pc := 328) d_M_rule_328 rfl ?_
          refine g_dup (pc := 329) d_M_rule_329 rfl ?_
          refine gm_theorems (pc := 330) d_M_rule_330 lf_M_115 ?_
          rw [b69]
          refine g_iconst (pc := 333) (v := nI 1) d_M_rule_333 (by decide) ?_
          refine g_nadd (pc := 334) d_M_rule_334 ?_
          refine gm_theorems_p (pc := 335) d_M_rule_335 lf_M_115 ?_
          refine g_iload (pc := 338) d_M_rule_338 rfl ?_
          refine g_iret (pc := 340) d_M_rule_340 rfl (Nat.le_refl _) (Nat.le_refl _) ?_
          have eF : F = (nI Th.length, Ty2, (sKeep Tm2 d2).2, Th ++ [(R, xN, yN, h, c)]) := by rw [hF, if_pos h136, if_neg h145, sFin, if_neg q4, he, nI_clamp (by omega)]
          refine ⟨_, _, _, _, d2, by rw [eF], rfl, ?_, by rw [eF]; exact gsf⟩
          rw [eF]
          refine MI.cn ?_ ((dcl_keep (e := 0) (fun _ => by rw [hd1]; exact hw1) b2_).trans hd1)
          refine hI9.ad (fun j hj => pk_un hj) (fun j h7 h8 => by rw [up_n h8, up_n h7]) (MB_add hI9.2.2.2.2 h145 (by rw [pk_us]) ?_ ?_ ?_ ?_)
          · rw [up_n (by decide), up_s, nI_clamp (by omega)]
          · rw [up_s, nI_clamp (by omega), up_n (by decide)]
          · rw [up_n (by decide), up_s, nI_clamp (by omega)]
          · rw [up_s, nI_clamp (by omega), up_n (by decide)]
        · refine g_ldc (pc := 320) d_M_rule_320 lk_M_161 ?_
          refine g_topi (nI 1000000) (by decide) ?_
          refine g_goto (pc := 322) (tgt := 327) d_M_rule_322 (by decide) ?_
          refine g_topi (nI (stF (bld stF Th) (R, xN, yN, h, c))) (congrArg nI (by
            unfold stF
            show _ = min (1 + (if nbx R = 2 then stv Th xN else 0) + (if nby R = 2 then stv Th yN else 0)) 1000000
            rw [if_pos hn1, if_neg hn2]
            omega)) ?_
          refine gsm_steps (pc := 327) d_M_rule_327 (vp_in_nI (by omega) (by decide)) ?_
          refine g_aload_n (pc := 328) d_M_rule_328 rfl ?_
          refine g_dup (pc := 329) d_M_rule_329 rfl ?_
          refine gm_theorems (pc := 330) d_M_rule_330 lf_M_115 ?_
          rw [b69]
          refine g_iconst (pc := 333) (v := nI 1) d_M_rule_333 (by decide) ?_
          refine g_nadd (pc := 334) d_M_rule_334 ?_
          refine gm_theorems_p (pc := 335) d_M_rule_335 lf_M_115 ?_
          refine g_iload (pc := 338) d_M_rule_338 rfl ?_
          refine g_iret (pc := 340) d_M_rule_340 rfl (Nat.le_refl _) (Nat.le_refl _) ?_
          have eF : F = (nI Th.length, Ty2, (sKeep Tm2 d2).2, Th ++ [(R, xN, yN, h, c)]) := by rw [hF, if_pos h136, if_neg h145, sFin, if_neg q4, he, nI_clamp (by omega)]
          refine ⟨_, _, _, _, d2, by rw [eF], rfl, ?_, by rw [eF]; exact gsf⟩
          rw [eF]
          refine MI.cn ?_ ((dcl_keep (e := 0) (fun _ => by rw [hd1]; exact hw1) b2_).trans hd1)
          refine hI9.ad (fun j hj => pk_un hj) (fun j h7 h8 => by rw [up_n h8, up_n h7]) (MB_add hI9.2.2.2.2 h145 (by rw [pk_us]) ?_ ?_ ?_ ?_)
          · rw [up_n (by decide), up_s, nI_clamp (by omega)]
          · rw [up_s, nI_clamp (by omega), up_n (by decide)]
          · rw [up_n (by decide), up_s, nI_clamp (by omega)]
          · rw [up_s, nI_clamp (by omega), up_n (by decide)]
      · refine g_aload_n (pc := 178) d_M_rule_178 rfl ?_
        refine g_iload (pc := 179) d_M_rule_179 rfl ?_
        refine gm_terms_p (pc := 181) d_M_rule_181 lf_M_78 ?_
        refine g_aload_n (pc := 184) d_M_rule_184 rfl ?_
        refine g_iload (pc := 185) d_M_rule_185 rfl ?_
        refine gm_types_p (pc := 187) d_M_rule_187 lf_M_22 ?_
        refine g_iload (pc := 190) d_M_rule_190 rfl ?_
        refine g_iret (pc := 192) d_M_rule_192 rfl (Nat.le_refl _) (Nat.le_refl _) ?_
        have q4 := keep_neg b2_ h175
        have eF : F = (-4, Ty, Tm, Th) := by rw [hF, if_pos h136, if_neg h145, sFin, if_pos q4]
        exact ⟨_, r9, L, _, _, by rw [eF, q4], rfl, by rw [eF]; exact (hI9_.m4 q4 b2_).scut hx2 b1 hp2 b2 rfl rfl, by rw [eF]; exact gs⟩
    · refine g_bipush (pc := 148) (v := -4) d_M_rule_148 (by decide) ?_
      refine g_goto (pc := 150) (tgt := 155) d_M_rule_150 (by decide) ?_
      refine g_istore (pc := 155) [(7, _), (6, _), (5, _), (4, _), (0, _), (1, _), (2, _), (3, _)] d_M_rule_155 (by decide) rfl ?_
      refine g_iload (pc := 157) d_M_rule_157 rfl ?_
      refine g_if_ne (pc := 159) (tgt := 169) d_M_rule_159 (by decide) (fun h159 => ?_) (fun h => absurd h (by decide))
      refine g_iload (pc := 169) d_M_rule_169 rfl ?_
      refine g_istore (pc := 171) [(8, _), (7, _), (6, _), (5, _), (4, _), (0, _), (1, _), (2, _), (3, _)] d_M_rule_171 (by decide) rfl ?_
      refine g_iload (pc := 173) d_M_rule_173 rfl ?_
      refine g_if_ge (pc := 175) (tgt := 193) d_M_rule_175 (by decide) (fun h => absurd h (by decide)) (fun h175 => ?_)
      refine g_aload_n (pc := 178) d_M_rule_178 rfl ?_
      refine g_iload (pc := 179) d_M_rule_179 rfl ?_
      refine gm_terms_p (pc := 181) d_M_rule_181 lf_M_78 ?_
      refine g_aload_n (pc := 184) d_M_rule_184 rfl ?_
      refine g_iload (pc := 185) d_M_rule_185 rfl ?_
      refine gm_types_p (pc := 187) d_M_rule_187 lf_M_22 ?_
      refine g_iload (pc := 190) d_M_rule_190 rfl ?_
      refine g_iret (pc := 192) d_M_rule_192 rfl (Nat.le_refl _) (Nat.le_refl _) ?_
      have eF : F = (-4, Ty, Tm, Th) := by rw [hF, if_pos h136, if_pos h145]
      exact ⟨_, r2, L, z2, d2, by rw [eF], rfl, by rw [eF]; exact hI2.scut hx2 b1 hp2 b2 rfl rfl, by rw [eF]; exact gs⟩
set_option maxRecDepth 100000 in
set_option maxHeartbeats 4000000 in
theorem c_M_tail_2 {τ : Nat × Nat} {a : Nat → Nat} {L : Nat → Nat → Int64} {wr w : pW} {Ty Ty1 : List (Nat × Nat)} {Tm Tm1 : List (List Nat)} {Th : List Thm} {D : List Nat} {code : Int32} {h : Nat} (F : pR3) (R xN yN : Nat) (hR : R < 14) (hn1 : nbx R = 2) (hn2 : nby R = 2) (hR0 : R ≠ 0) (hxl : xN < Th.length) (hyl : yN < Th.length) (b1 : Ty.length ≤ 13) (b2 : Tm.length ≤ 60) (gs : GS Ty Tm Th) (hc : code = 0 ∨ ¬ 0 ≤ code) (hF : F = if code = 0 then (if Th.length = 40 then (-4, Ty, Tm, Th) else sFin Ty Tm Th R xN yN h Ty1 Tm1 D) else (code, Ty, Tm, Th)) {rr : Option Value} (mo : MO a L wr Ty Tm Th code h Ty1 Tm1 D rr w) : ∃ v, rr = some (.int v) ∧ pG m_M_rule τ (fun rr w2 => ∃ i2 r2 L2 z2 d2, rr = some (.int (F.1)) ∧ w2 = wM a i2 r2 L2 z2 ++ wr ∧ MI (F.2.1) (F.2.2.1) (F.2.2.2) (dcl (F.2.2.1)) d2 i2 r2 L2 ∧ GS (F.2.1) (F.2.2.1) (F.2.2.2)) 0 0 132 [(6, .int (nI (3 + Ty.length))), (5, .int (nI Tm.length)), (4, .int (nI 2)), (0, .ref (a 0)), (1, .int (nI R)), (2, .int (nI xN)), (3, .int (nI yN))] [.int v] w := by
  obtain ⟨i2, r2, z2, Ty2, Tm2, d2, rfl, rfl, hI2, hx2, hp2, hok⟩ := mo
  refine ⟨code, rfl, ?_⟩
  obtain ⟨b1_, b2_, b3, b4, b5, b6, b7⟩ := hI2.b
  refine g_istore (pc := 132) [(7, _), (6, _), (5, _), (4, _), (0, _), (1, _), (2, _), (3, _)] d_M_rule_132 (by decide) rfl ?_
  refine g_iload (pc := 134) d_M_rule_134 rfl ?_
  refine g_if_ne (pc := 136) (tgt := 153) d_M_rule_136 (by decide) (fun h136 => ?_) (fun h136 => ?_)
  · refine g_iload (pc := 153) d_M_rule_153 rfl ?_
    refine g_istore (pc := 155) [(7, _), (6, _), (5, _), (4, _), (0, _), (1, _), (2, _), (3, _)] d_M_rule_155 (by decide) rfl ?_
    refine g_iload (pc := 157) d_M_rule_157 rfl ?_
    refine g_if_ne (pc := 159) (tgt := 169) d_M_rule_159 (by decide) (fun h159 => ?_) (fun h => absurd h h136)
    refine g_iload (pc := 169) d_M_rule_169 rfl ?_
    refine g_istore (pc := 171) [(8, _), (7, _), (6, _), (5, _), (4, _), (0, _), (1, _), (2, _), (3, _)] d_M_rule_171 (by decide) rfl ?_
    refine g_iload (pc := 173) d_M_rule_173 rfl ?_
    refine g_if_ge (pc := 175) (tgt := 193) d_M_rule_175 (by decide) (fun h => hc.elim (fun q => absurd q h136) (fun q => absurd h q)) (fun h175 => ?_)
    refine g_aload_n (pc := 178) d_M_rule_178 rfl ?_
    refine g_iload (pc := 179) d_M_rule_179 rfl ?_
    refine gm_terms_p (pc := 181) d_M_rule_181 lf_M_78 ?_
    refine g_aload_n (pc := 184) d_M_rule_184 rfl ?_
    refine g_iload (pc := 185) d_M_rule_185 rfl ?_
    refine gm_types_p (pc := 187) d_M_rule_187 lf_M_22 ?_
    refine g_iload (pc := 190) d_M_rule_190 rfl ?_
    refine g_iret (pc := 192) d_M_rule_192 rfl (Nat.le_refl _) (Nat.le_refl _) ?_
    have eF : F = (code, Ty, Tm, Th) := by rw [hF, if_neg h136]
    exact ⟨_, r2, L, z2, d2, by rw [eF], rfl, by rw [eF]; exact hI2.scut hx2 b1 hp2 b2 rfl rfl, by rw [eF]; exact gs⟩
  · refine g_aload_n (pc := 139) d_M_rule_139 rfl ?_
    refine gm_theorems (pc := 140) d_M_rule_140 lf_M_115 ?_
    rw [b6]
    refine g_bipush (pc := 143) (v := nI 40) d_M_rule_143 (by decide) ?_
    refine g_nicmp_ne (pc := 145) (tgt := 153) d_M_rule_145 (by decide) (by omega) (by omega) (fun h145 => ?_) (fun h145 => ?_)
    · refine g_iload (pc := 153) d_M_rule_153 rfl ?_
      refine g_istore (pc := 155) [(7, _), (6, _), (5, _), (4, _), (0, _), (1, _), (2, _), (3, _)] d_M_rule_155 (by decide) rfl ?_
      refine g_iload (pc := 157) d_M_rule_157 rfl ?_
      refine g_if_ne (pc := 159) (tgt := 169) d_M_rule_159 (by decide) (fun h => absurd h136 h) (fun h159 => ?_)
      obtain ⟨rfl, rfl, rfl, rfl, wg1, hd1, hw1, hl1, hbt⟩ := hok h136
      refine g_aload_n (pc := 162) d_M_rule_162 rfl ?_
      refine g_callV (M' := m_M_keep) (pc := 163) (q := 0) d_M_rule_163 lm_M_95 (c_M_keep 0 hI2 wg1 (fun _ => hw1) hl1) v_M_keep rfl rfl rfl (by decide) rfl (Nat.le_of_ble_eq_true rfl) ?_
      rintro _ _ ⟨i9, r9, rfl, rfl, hI9_⟩
      show pG m_M_rule τ _ 0 0 166 _ (.int _ :: _) _
      refine g_goto (pc := 166) (tgt := 171) d_M_rule_166 (by decide) ?_
      refine g_istore (pc := 171) [(8, _), (7, _), (6, _), (5, _), (4, _), (0, _), (1, _), (2, _), (3, _)] d_M_rule_171 (by decide) rfl ?_
      refine g_iload (pc := 173) d_M_rule_173 rfl ?_
      refine g_if_ge (pc := 175) (tgt := 193) d_M_rule_175 (by decide) (fun h175 => ?_) (fun h175 => ?_)
      · have hI9 := hI9_
        have q4 := keep_pos h175
        obtain ⟨c, hc1, hc2, he, -⟩ := sKeep_nI q4 b2_
        rw [he]
        have hT := hI9.b.2.2.1
        have b69 := hI9.b.2.2.2.2.2.1
        have gsf := gs.fin (R := R) (x := xN) (y := yN) hp2 wg1 hd1 hw1 hbt b2_ q4 he hc1
        obtain ⟨⟨ux, vx, zx, hx, cx⟩, tx⟩ := get_of hxl
        obtain ⟨mx1, mx2, mx3, mx4⟩ := hI9.2.2.2.2.2.2 _ _ _ _ _ _ tx
        have sx := stv_le Th xN
        obtain ⟨⟨uy, vy, zy, hy, cy⟩, ty⟩ := get_of hyl
        obtain ⟨my1, my2, my3, my4⟩ := hI9.2.2.2.2.2.2 _ _ _ _ _ _ ty
        have sy := stv_le Th yN
        refine g_aload_n (pc := 193) d_M_rule_193 rfl ?_
        refine gm_theorems (pc := 194) d_M_rule_194 lf_M_115 ?_
        rw [b69]
        refine g_istore (pc := 197) [(9, _), (8, _), (7, _), (6, _), (5, _), (4, _), (0, _), (1, _), (2, _), (3, _)] d_M_rule_197 (by decide) rfl ?_
        refine g_aload_n (pc := 199) d_M_rule_199 rfl ?_
        refine gm_hypotheses (pc := 200) d_M_rule_200 lf_M_35 ?_
        refine g_iload (pc := 203) d_M_rule_203 rfl ?_
        refine g_aload_n (pc := 205) d_M_rule_205 rfl ?_
        refine gm_set (pc := 206) d_M_rule_206 lf_M_118 ?_
        refine gsm_hypotheses (pc := 209) d_M_rule_209 (vp_in_nI (by omega) (by decide)) ?_
        refine g_aload_n (pc := 210) d_M_rule_210 rfl ?_
        refine gm_conclusion (pc := 211) d_M_rule_211 lf_M_39 ?_
        refine g_iload (pc := 214) d_M_rule_214 rfl ?_
        refine g_iload (pc := 216) d_M_rule_216 rfl ?_
        refine gsm_conclusion (pc := 218) d_M_rule_218 (vp_in_nI (by omega) (by decide)) ?_
        refine g_aload_n (pc := 219) d_M_rule_219 rfl ?_
        refine gm_axioms (pc := 220) d_M_rule_220 lf_M_42 ?_
        refine g_iload (pc := 223) d_M_rule_223 rfl ?_
        refine g_iload (pc := 225) d_M_rule_225 rfl ?_
        refine g_nif_le (pc := 227) (tgt := 239) d_M_rule_227 (by decide) (by omega) (fun h => absurd h (by omega)) (fun h227 => ?_)
        refine g_aload_n (pc := 230) d_M_rule_230 rfl ?_
        refine gm_axioms (pc := 231) d_M_rule_231 lf_M_42 ?_
        refine g_iload_n (pc := 234) d_M_rule_234 rfl ?_
        refine glm_axioms (pc := 235) (v := lN (axv Th xN)) d_M_rule_235 (vp_in_nI (by omega) (by decide)) (by rw [up_n (by decide), nI_clamp (by omega)]; exact mx3) ?_
        refine g_goto (pc := 236) (tgt := 240) d_M_rule_236 (by decide) ?_
        refine g_iload (pc := 240) d_M_rule_240 rfl ?_
        refine g_iconst (pc := 242) (v := nI 1) d_M_rule_242 (by decide) ?_
        refine g_nicmp_le (pc := 243) (tgt := 255) d_M_rule_243 (by decide) (by omega) (by omega) (fun h => absurd h (by omega)) (fun h243 => ?_)
        refine g_aload_n (pc := 246) d_M_rule_246 rfl ?_
        refine gm_axioms (pc := 247) d_M_rule_247 lf_M_42 ?_
        refine g_iload_n (pc := 250) d_M_rule_250 rfl ?_
        refine glm_axioms (pc := 251) (v := lN (axv Th yN)) d_M_rule_251 (vp_in_nI (by omega) (by decide)) (by rw [up_n (by decide), nI_clamp (by omega)]; exact my3) ?_
        refine g_goto (pc := 252) (tgt := 256) d_M_rule_252 (by decide) ?_
        refine g_lor (pc := 256) d_M_rule_256 ?_
        refine g_iload_n (pc := 257) d_M_rule_257 rfl ?_
        refine g_nif_ne (pc := 258) (tgt := 268) d_M_rule_258 (by decide) (by omega) (fun h258 => ?_) (fun h => absurd h hR0)
        refine g_lconst (pc := 268) (v := lN 0) d_M_rule_268 (by decide) ?_
        refine g_lor (pc := 269) d_M_rule_269 ?_
        refine g_topl (lN (axF (bld axF Th) (R, xN, yN, h, c))) (ax_2 hn1 hn2 hR0 rfl (axv_lt b3 xN) rfl (axv_lt b3 yN)) ?_
        refine gsm_axioms (pc := 270) d_M_rule_270 (vp_in_nI (by omega) (by decide)) ?_
        refine g_iconst (pc := 271) (v := nI 1) d_M_rule_271 (by decide) ?_
        refine g_iload (pc := 272) d_M_rule_272 rfl ?_
        refine g_nif_le (pc := 274) (tgt := 286) d_M_rule_274 (by decide) (by omega) (fun h => absurd h (by omega)) (fun h274 => ?_)
        refine g_aload_n (pc := 277) d_M_rule_277 rfl ?_
        refine gm_steps (pc := 278) d_M_rule_278 lf_M_45 ?_
        refine g_iload_n (pc := 281) d_M_rule_281 rfl ?_
        refine glm_steps (pc := 282) (v := nI (stv Th xN)) d_M_rule_282 (vp_in_nI (by omega) (by decide)) (by rw [up_n (by decide), nI_clamp (by omega)]; exact mx4) ?_
        refine g_goto (pc := 283) (tgt := 287) d_M_rule_283 (by decide) ?_
        refine g_nadd (pc := 287) d_M_rule_287 ?_
        refine g_iload (pc := 288) d_M_rule_288 rfl ?_
        refine g_iconst (pc := 290) (v := nI 1) d_M_rule_290 (by decide) ?_
        refine g_nicmp_le (pc := 291) (tgt := 303) d_M_rule_291 (by decide) (by omega) (by omega) (fun h => absurd h (by omega)) (fun h291 => ?_)
        refine g_aload_n (pc := 294) d_M_rule_294 rfl ?_
        refine gm_steps (pc := 295) d_M_rule_295 lf_M_45 ?_
        refine g_iload_n (pc := 298) d_M_rule_298 rfl ?_
        refine glm_steps (pc := 299) (v := nI (stv Th yN)) d_M_rule_299 (vp_in_nI (by omega) (by decide)) (by rw [up_n (by decide), nI_clamp (by omega)]; exact my4) ?_
        refine g_goto (pc := 300) (tgt := 304) d_M_rule_300 (by decide) ?_
        refine g_nadd (pc := 304) d_M_rule_304 ?_
        refine g_istore (pc := 305) [(10, _), (9, _), (8, _), (7, _), (6, _), (5, _), (4, _), (0, _), (1, _), (2, _), (3, _)] d_M_rule_305 (by decide) rfl ?_
        refine g_aload_n (pc := 307) d_M_rule_307 rfl ?_
        refine gm_steps (pc := 308) d_M_rule_308 lf_M_45 ?_
        refine g_iload (pc := 311) d_M_rule_311 rfl ?_
        refine g_iload (pc := 313) d_M_rule_313 rfl ?_
        refine g_ldc (pc := 315) d_M_rule_315 lk_M_161 ?_
        refine g_topi (nI 1000000) (by decide) ?_
        refine g_nicmp_le (pc := 317) (tgt := 325) d_M_rule_317 (by decide) (by omega) (by omega) (fun h317 => ?_) (fun h317 => ?_)
        · refine g_iload (pc := 325) d_M_rule_325 rfl ?_
          refine g_topi (nI (stF (bld stF Th) (R, xN, yN, h, c))) (congrArg nI (by
            unfold stF
            show _ = min (1 + (if nbx R = 2 then stv Th xN else 0) + (if nby R = 2 then stv Th yN else 0)) 1000000
            rw [if_pos hn1, if_pos hn2]
            omega)) ?_
          refine gsm_steps (pc := 327) d_M_rule_327 (vp_in_nI (by omega) (by decide)) ?_
          refine g_aload_n (pc := 328) d_M_rule_328 rfl ?_
          refine g_dup (pc := 329) d_M_rule_329 rfl ?_
          refine gm_theorems (pc := 330) d_M_rule_330 lf_M_115 ?_
          rw [b69]
          refine g_iconst (pc := 333) (v := nI 1) d_M_rule_333 (by decide) ?_
          refine g_nadd (pc := 334) d_M_rule_334 ?_
          refine gm_theorems_p (pc := 335) d_M_rule_335 lf_M_115 ?_
          refine g_iload (pc := 338) d_M_rule_338 rfl ?_
          refine g_iret (pc := 340) d_M_rule_340 rfl (Nat.le_refl _) (Nat.le_refl _) ?_
          have eF : F = (nI Th.length, Ty2, (sKeep Tm2 d2).2, Th ++ [(R, xN, yN, h, c)]) := by rw [hF, if_pos h136, if_neg h145, sFin, if_neg q4, he, nI_clamp (by omega)]
          refine ⟨_, _, _, _, d2, by rw [eF], rfl, ?_, by rw [eF]; exact gsf⟩
          rw [eF]
          refine MI.cn ?_ ((dcl_keep (e := 0) (fun _ => by rw [hd1]; exact hw1) b2_).trans hd1)
          refine hI9.ad (fun j hj => pk_un hj) (fun j h7 h8 => by rw [up_n h8, up_n h7]) (MB_add hI9.2.2.2.2 h145 (by rw [pk_us]) ?_ ?_ ?_ ?_)
          · rw [up_n (by decide), up_s, nI_clamp (by omega)]
          · rw [up_s, nI_clamp (by omega), up_n (by decide)]
          · rw [up_n (by decide), up_s, nI_clamp (by omega)]
          · rw [up_s, nI_clamp (by omega), up_n (by decide)]
        · refine g_ldc (pc := 320) d_M_rule_320 lk_M_161 ?_
          refine g_topi (nI 1000000) (by decide) ?_
          refine g_goto (pc := 322) (tgt := 327) d_M_rule_322 (by decide) ?_
          refine g_topi (nI (stF (bld stF Th) (R, xN, yN, h, c))) (congrArg nI (by
            unfold stF
            show _ = min (1 + (if nbx R = 2 then stv Th xN else 0) + (if nby R = 2 then stv Th yN else 0)) 1000000
            rw [if_pos hn1, if_pos hn2]
            omega)) ?_
          refine gsm_steps (pc := 327) d_M_rule_327 (vp_in_nI (by omega) (by decide)) ?_
          refine g_aload_n (pc := 328) d_M_rule_328 rfl ?_
          refine g_dup (pc := 329) d_M_rule_329 rfl ?_
          refine gm_theorems (pc := 330) d_M_rule_330 lf_M_115 ?_
          rw [b69]
          refine g_iconst (pc := 333) (v := nI 1) d_M_rule_333 (by decide) ?_
          refine g_nadd (pc := 334) d_M_rule_334 ?_
          refine gm_theorems_p (pc := 335) d_M_rule_335 lf_M_115 ?_
          refine g_iload (pc := 338) d_M_rule_338 rfl ?_
          refine g_iret (pc := 340) d_M_rule_340 rfl (Nat.le_refl _) (Nat.le_refl _) ?_
          have eF : F = (nI Th.length, Ty2, (sKeep Tm2 d2).2, Th ++ [(R, xN, yN, h, c)]) := by rw [hF, if_pos h136, if_neg h145, sFin, if_neg q4, he, nI_clamp (by omega)]
          refine ⟨_, _, _, _, d2, by rw [eF], rfl, ?_, by rw [eF]; exact gsf⟩
          rw [eF]
          refine MI.cn ?_ ((dcl_keep (e := 0) (fun _ => by rw [hd1]; exact hw1) b2_).trans hd1)
          refine hI9.ad (fun j hj => pk_un hj) (fun j h7 h8 => by rw [up_n h8, up_n h7]) (MB_add hI9.2.2.2.2 h145 (by rw [pk_us]) ?_ ?_ ?_ ?_)
          · rw [up_n (by decide), up_s, nI_clamp (by omega)]
          · rw [up_s, nI_clamp (by omega), up_n (by decide)]
          · rw [up_n (by decide), up_s, nI_clamp (by omega)]
          · rw [up_s, nI_clamp (by omega), up_n (by decide)]
      · refine g_aload_n (pc := 178) d_M_rule_178 rfl ?_
        refine g_iload (pc := 179) d_M_rule_179 rfl ?_
        refine gm_terms_p (pc := 181) d_M_rule_181 lf_M_78 ?_
        refine g_aload_n (pc := 184) d_M_rule_184 rfl ?_
        refine g_iload (pc := 185) d_M_rule_185 rfl ?_
        refine gm_types_p (pc := 187) d_M_rule_187 lf_M_22 ?_
        refine g_iload (pc := 190) d_M_rule_190 rfl ?_
        refine g_iret (pc := 192) d_M_rule_192 rfl (Nat.le_refl _) (Nat.le_refl _) ?_
        have q4 := keep_neg b2_ h175
        have eF : F = (-4, Ty, Tm, Th) := by rw [hF, if_pos h136, if_neg h145, sFin, if_pos q4]
        exact ⟨_, r9, L, _, _, by rw [eF, q4], rfl, by rw [eF]; exact (hI9_.m4 q4 b2_).scut hx2 b1 hp2 b2 rfl rfl, by rw [eF]; exact gs⟩
    · refine g_bipush (pc := 148) (v := -4) d_M_rule_148 (by decide) ?_
      refine g_goto (pc := 150) (tgt := 155) d_M_rule_150 (by decide) ?_
      refine g_istore (pc := 155) [(7, _), (6, _), (5, _), (4, _), (0, _), (1, _), (2, _), (3, _)] d_M_rule_155 (by decide) rfl ?_
      refine g_iload (pc := 157) d_M_rule_157 rfl ?_
      refine g_if_ne (pc := 159) (tgt := 169) d_M_rule_159 (by decide) (fun h159 => ?_) (fun h => absurd h (by decide))
      refine g_iload (pc := 169) d_M_rule_169 rfl ?_
      refine g_istore (pc := 171) [(8, _), (7, _), (6, _), (5, _), (4, _), (0, _), (1, _), (2, _), (3, _)] d_M_rule_171 (by decide) rfl ?_
      refine g_iload (pc := 173) d_M_rule_173 rfl ?_
      refine g_if_ge (pc := 175) (tgt := 193) d_M_rule_175 (by decide) (fun h => absurd h (by decide)) (fun h175 => ?_)
      refine g_aload_n (pc := 178) d_M_rule_178 rfl ?_
      refine g_iload (pc := 179) d_M_rule_179 rfl ?_
      refine gm_terms_p (pc := 181) d_M_rule_181 lf_M_78 ?_
      refine g_aload_n (pc := 184) d_M_rule_184 rfl ?_
      refine g_iload (pc := 185) d_M_rule_185 rfl ?_
      refine gm_types_p (pc := 187) d_M_rule_187 lf_M_22 ?_
      refine g_iload (pc := 190) d_M_rule_190 rfl ?_
      refine g_iret (pc := 192) d_M_rule_192 rfl (Nat.le_refl _) (Nat.le_refl _) ?_
      have eF : F = (-4, Ty, Tm, Th) := by rw [hF, if_pos h136, if_pos h145]
      exact ⟨_, r2, L, z2, d2, by rw [eF], rfl, by rw [eF]; exact hI2.scut hx2 b1 hp2 b2 rfl rfl, by rw [eF]; exact gs⟩
