/-! Token: contracts in any world. By wip/whole/m_token.py -/
set_option maxRecDepth 100000 in
set_option maxHeartbeats 4000000 in
theorem c_O_of {τ : Nat × Nat} {w : pW} (t i y : Nat) (ht : t < 8) (hi : i < 32) (hy : y < 16) : pC m_O_of τ [.int (nI t), .int (nI i), .int (nI y)] w (fun r w2 => r = some (.int (nI (tok t i y))) ∧ w2 = w) := by
  refine pC.of rfl (Nat.le_of_ble_eq_true rfl) ?_
  show pG m_O_of τ _ 0 0 0 [(0, _), (1, _), (2, _)] [] _
  refine g_iload_n (pc := 0) d_O_of_0 rfl ?_
  refine g_bipush (pc := 1) (v := nI 9) d_O_of_1 (by decide) ?_
  refine g_ishl (pc := 3) d_O_of_3 ?_
  refine g_iload_n (pc := 4) d_O_of_4 rfl ?_
  refine g_iconst (pc := 5) (v := nI 4) d_O_of_5 (by decide) ?_
  refine g_ishl (pc := 6) d_O_of_6 ?_
  refine g_ior (pc := 7) d_O_of_7 ?_
  refine g_iload_n (pc := 8) d_O_of_8 rfl ?_
  refine g_ior (pc := 9) d_O_of_9 ?_
  refine g_iret (pc := 10) d_O_of_10 rfl (Nat.le_refl _) (Nat.le_refl _) ?_
  exact ⟨by rw [tok_or t ht i hi y hy], rfl⟩
set_option maxRecDepth 100000 in
set_option maxHeartbeats 4000000 in
theorem c_O_tag {τ : Nat × Nat} {w : pW} (x : Nat) (hx : x < 4096) : pC m_O_tag τ [.int (nI x)] w (fun r w2 => r = some (.int (nI (x / 512))) ∧ w2 = w) := by
  refine pC.of rfl (Nat.le_of_ble_eq_true rfl) ?_
  show pG m_O_tag τ _ 0 0 0 [(0, _)] [] _
  refine g_iload_n (pc := 0) d_O_tag_0 rfl ?_
  refine g_bipush (pc := 1) (v := nI 9) d_O_tag_1 (by decide) ?_
  refine g_ishr (pc := 3) d_O_tag_3 ?_
  refine g_iret (pc := 4) d_O_tag_4 rfl (Nat.le_refl _) (Nat.le_refl _) ?_
  exact ⟨by rw [k_tag hx], rfl⟩
set_option maxRecDepth 100000 in
set_option maxHeartbeats 4000000 in
theorem c_O_info {τ : Nat × Nat} {w : pW} (x : Nat) (hx : x < 4096) : pC m_O_info τ [.int (nI x)] w (fun r w2 => r = some (.int (nI (x / 16 % 32))) ∧ w2 = w) := by
  refine pC.of rfl (Nat.le_of_ble_eq_true rfl) ?_
  show pG m_O_info τ _ 0 0 0 [(0, _)] [] _
  refine g_iload_n (pc := 0) d_O_info_0 rfl ?_
  refine g_iconst (pc := 1) (v := nI 4) d_O_info_1 (by decide) ?_
  refine g_ishr (pc := 2) d_O_info_2 ?_
  refine g_bipush (pc := 3) (v := nI 31) d_O_info_3 (by decide) ?_
  refine g_iand (pc := 5) d_O_info_5 ?_
  refine g_iret (pc := 6) d_O_info_6 rfl (Nat.le_refl _) (Nat.le_refl _) ?_
  exact ⟨by rw [k_info hx], rfl⟩
set_option maxRecDepth 100000 in
set_option maxHeartbeats 4000000 in
theorem c_O_type {τ : Nat × Nat} {w : pW} (x : Nat) (hx : x < 4096) : pC m_O_type τ [.int (nI x)] w (fun r w2 => r = some (.int (nI (x % 16))) ∧ w2 = w) := by
  refine pC.of rfl (Nat.le_of_ble_eq_true rfl) ?_
  show pG m_O_type τ _ 0 0 0 [(0, _)] [] _
  refine g_iload_n (pc := 0) d_O_type_0 rfl ?_
  refine g_bipush (pc := 1) (v := nI 15) d_O_type_1 (by decide) ?_
  refine g_iand (pc := 3) d_O_type_3 ?_
  refine g_iret (pc := 4) d_O_type_4 rfl (Nat.le_refl _) (Nat.le_refl _) ?_
  exact ⟨by rw [k_type hx], rfl⟩
set_option maxRecDepth 100000 in
set_option maxHeartbeats 4000000 in
theorem c_O_binds {τ : Nat × Nat} {w : pW} (x : Nat) (hx : x < 4096) : pC m_O_binds τ [.int (nI x)] w (fun r w2 => r = some (.int (bI (kBd x))) ∧ w2 = w) := by
  refine pC.of rfl (Nat.le_of_ble_eq_true rfl) ?_
  show pG m_O_binds τ _ 0 0 0 [(0, _)] [] _
  refine g_iload_n (pc := 0) d_O_binds_0 rfl ?_
  refine g_bipush (pc := 1) (v := nI 9) d_O_binds_1 (by decide) ?_
  refine g_ishr (pc := 3) d_O_binds_3 ?_
  refine g_topi (nI (x / 512)) (k_tag hx) ?_
  refine g_istore_n (pc := 4) [(1, _), (0, _)] d_O_binds_4 (by decide) rfl ?_
  refine g_iload_n (pc := 5) d_O_binds_5 rfl ?_
  refine g_iconst (pc := 6) (v := nI 3) d_O_binds_6 (by decide) ?_
  refine g_nicmp_eq (pc := 7) (tgt := 15) d_O_binds_7 (by decide) (by omega) (by omega) (fun h7 => ?_) (fun h7 => ?_)
  · refine g_iconst (pc := 15) (v := nI 1) d_O_binds_15 (by decide) ?_
    refine g_goto (pc := 16) (tgt := 20) d_O_binds_16 (by decide) ?_
    refine g_zret (pc := 20) d_O_binds_20 rfl (by decide) (Nat.le_refl _) (Nat.le_refl _) ?_
    refine ⟨congrArg (fun v => some (Value.int v)) ?_, rfl⟩
    simp_all [bI, kBd]
  · refine g_iload_n (pc := 10) d_O_binds_10 rfl ?_
    refine g_iconst (pc := 11) (v := nI 4) d_O_binds_11 (by decide) ?_
    refine g_nicmp_ne (pc := 12) (tgt := 19) d_O_binds_12 (by decide) (by omega) (by omega) (fun h12 => ?_) (fun h12 => ?_)
    · refine g_iconst (pc := 19) (v := nI 0) d_O_binds_19 (by decide) ?_
      refine g_zret (pc := 20) d_O_binds_20 rfl (by decide) (Nat.le_refl _) (Nat.le_refl _) ?_
      refine ⟨congrArg (fun v => some (Value.int v)) ?_, rfl⟩
      simp_all [bI, kBd]
    · refine g_iconst (pc := 15) (v := nI 1) d_O_binds_15 (by decide) ?_
      refine g_goto (pc := 16) (tgt := 20) d_O_binds_16 (by decide) ?_
      refine g_zret (pc := 20) d_O_binds_20 rfl (by decide) (Nat.le_refl _) (Nat.le_refl _) ?_
      refine ⟨congrArg (fun v => some (Value.int v)) ?_, rfl⟩
      simp_all [bI, kBd]
set_option maxRecDepth 100000 in
set_option maxHeartbeats 4000000 in
theorem c_O_parts {τ : Nat × Nat} {w : pW} (x : Nat) (hx : x < 4096) : pC m_O_parts τ [.int (nI x)] w (fun r w2 => r = some (.int (nI (kPt x))) ∧ w2 = w) := by
  refine pC.of rfl (Nat.le_of_ble_eq_true rfl) ?_
  show pG m_O_parts τ _ 0 0 0 [(0, _)] [] _
  refine g_iload_n (pc := 0) d_O_parts_0 rfl ?_
  refine g_bipush (pc := 1) (v := nI 9) d_O_parts_1 (by decide) ?_
  refine g_ishr (pc := 3) d_O_parts_3 ?_
  refine g_topi (nI (x / 512)) (k_tag hx) ?_
  refine g_istore_n (pc := 4) [(1, _), (0, _)] d_O_parts_4 (by decide) rfl ?_
  refine g_iload_n (pc := 5) d_O_parts_5 rfl ?_
  refine g_iconst (pc := 6) (v := nI 3) d_O_parts_6 (by decide) ?_
  refine g_nicmp_ge (pc := 7) (tgt := 12) d_O_parts_7 (by decide) (by omega) (by omega) (fun h7 => ?_) (fun h7 => ?_)
  · refine g_iload_n (pc := 12) d_O_parts_12 rfl ?_
    refine g_iconst (pc := 13) (v := nI 5) d_O_parts_13 (by decide) ?_
    refine g_nicmp_ge (pc := 14) (tgt := 21) d_O_parts_14 (by decide) (by omega) (by omega) (fun h14 => ?_) (fun h14 => ?_)
    · refine g_iconst (pc := 21) (v := nI 2) d_O_parts_21 (by decide) ?_
      refine g_iret (pc := 22) d_O_parts_22 rfl (Nat.le_refl _) (Nat.le_refl _) ?_
      refine ⟨congrArg (fun v => some (Value.int v)) ?_, rfl⟩
      unfold kPt
      refine congrArg nI ?_
      all_goals (repeat' split) <;> omega
    · refine g_iconst (pc := 17) (v := nI 1) d_O_parts_17 (by decide) ?_
      refine g_goto (pc := 18) (tgt := 22) d_O_parts_18 (by decide) ?_
      refine g_iret (pc := 22) d_O_parts_22 rfl (Nat.le_refl _) (Nat.le_refl _) ?_
      refine ⟨congrArg (fun v => some (Value.int v)) ?_, rfl⟩
      unfold kPt
      refine congrArg nI ?_
      all_goals (repeat' split) <;> omega
  · refine g_iconst (pc := 10) (v := nI 0) d_O_parts_10 (by decide) ?_
    refine g_iret (pc := 11) d_O_parts_11 rfl (Nat.le_refl _) (Nat.le_refl _) ?_
    refine ⟨congrArg (fun v => some (Value.int v)) ?_, rfl⟩
    unfold kPt
    refine congrArg nI ?_
    all_goals (repeat' split) <;> omega
def kLt (x : Nat) : Nat := if x / 512 = 0 then 97 + x / 16 % 32 else if x / 512 = 1 then 48 + x / 16 % 32 else if x / 512 = 2 then 122 - x / 16 % 32 else if x / 512 = 3 then 47 else if x / 512 = 4 then 33 else if x / 512 = 5 then 64 else if x / 512 = 6 then 62 else 61
def kSt (x : Nat) : Bool := decide (x / 512 = 0) || kBd x
def kTl (x : Nat) : Nat := 65 + (if kBd x then x / 16 % 32 else x % 16)
set_option maxRecDepth 100000 in
set_option maxHeartbeats 4000000 in
theorem c_O_letter {τ : Nat × Nat} {w : pW} (x : Nat) (hx : x < 4096) : pC m_O_letter τ [.int (nI x)] w (fun r w2 => r = some (.int (nI (kLt x))) ∧ w2 = w) := by
  refine pC.of rfl (Nat.le_of_ble_eq_true rfl) ?_
  show pG m_O_letter τ _ 0 0 0 [(0, _)] [] _
  refine g_iload_n (pc := 0) d_O_letter_0 rfl ?_
  refine g_callS (M' := m_O_tag) (pc := 1) d_O_letter_1 lm_O_11 (c_O_tag x hx) v_O_tag rfl (by decide) rfl (Nat.le_of_ble_eq_true rfl) ?_
  rintro _ _ ⟨rfl, rfl⟩
  show pG m_O_letter τ _ 0 0 4 _ (.int _ :: _) _
  have hc : x / 512 < 7 ∨ 7 ≤ x / 512 := Nat.lt_or_ge _ _
  rcases hc with hc | hc
  · have hi7 : ∀ y, y < 7 → (nI y).toInt = y := by decide
    have hz := hi7 _ hc
    generalize hy : x / 512 = y at hc hz ⊢
    by_cases e0 : y = 0
    · subst e0
      refine g_tableIn (pc := 4) (tgt := 48) d_O_letter_4 (by decide) (by decide) rfl (by decide) ?_
      refine g_bipush (pc := 48) (v := nI 97) d_O_letter_48 (by decide) ?_
      refine g_iload_n (pc := 50) d_O_letter_50 rfl ?_
      refine g_callS (M' := m_O_info) (pc := 51) d_O_letter_51 lm_O_15 (c_O_info x hx) v_O_info rfl (by decide) rfl (Nat.le_of_ble_eq_true rfl) ?_
      rintro _ _ ⟨rfl, rfl⟩
      show pG m_O_letter τ _ 0 0 54 _ (.int _ :: _) _
      refine g_nadd (pc := 54) d_O_letter_54 ?_
      refine g_iret (pc := 55) d_O_letter_55 rfl (Nat.le_refl _) (Nat.le_refl _) ?_
      refine ⟨congrArg (fun v => some (Value.int v)) ?_, rfl⟩
      refine congrArg nI ?_
      simp only [kLt]
      first | (simp_all; done) | all_goals (repeat' split) <;> omega
    by_cases e1 : y = 1
    · subst e1
      refine g_tableIn (pc := 4) (tgt := 56) d_O_letter_4 (by decide) (by decide) rfl (by decide) ?_
      refine g_bipush (pc := 56) (v := nI 48) d_O_letter_56 (by decide) ?_
      refine g_iload_n (pc := 58) d_O_letter_58 rfl ?_
      refine g_callS (M' := m_O_info) (pc := 59) d_O_letter_59 lm_O_15 (c_O_info x hx) v_O_info rfl (by decide) rfl (Nat.le_of_ble_eq_true rfl) ?_
      rintro _ _ ⟨rfl, rfl⟩
      show pG m_O_letter τ _ 0 0 62 _ (.int _ :: _) _
      refine g_nadd (pc := 62) d_O_letter_62 ?_
      refine g_iret (pc := 63) d_O_letter_63 rfl (Nat.le_refl _) (Nat.le_refl _) ?_
      refine ⟨congrArg (fun v => some (Value.int v)) ?_, rfl⟩
      refine congrArg nI ?_
      simp only [kLt]
      first | (simp_all; done) | all_goals (repeat' split) <;> omega
    by_cases e2 : y = 2
    · subst e2
      refine g_tableIn (pc := 4) (tgt := 64) d_O_letter_4 (by decide) (by decide) rfl (by decide) ?_
      refine g_bipush (pc := 64) (v := nI 122) d_O_letter_64 (by decide) ?_
      refine g_iload_n (pc := 66) d_O_letter_66 rfl ?_
      refine g_callS (M' := m_O_info) (pc := 67) d_O_letter_67 lm_O_15 (c_O_info x hx) v_O_info rfl (by decide) rfl (Nat.le_of_ble_eq_true rfl) ?_
      rintro _ _ ⟨rfl, rfl⟩
      show pG m_O_letter τ _ 0 0 70 _ (.int _ :: _) _
      refine g_nsub (pc := 70) d_O_letter_70 (by omega) ?_
      refine g_iret (pc := 71) d_O_letter_71 rfl (Nat.le_refl _) (Nat.le_refl _) ?_
      refine ⟨congrArg (fun v => some (Value.int v)) ?_, rfl⟩
      refine congrArg nI ?_
      simp only [kLt]
      first | (simp_all; done) | all_goals (repeat' split) <;> omega
    by_cases e3 : y = 3
    · subst e3
      refine g_tableIn (pc := 4) (tgt := 72) d_O_letter_4 (by decide) (by decide) rfl (by decide) ?_
      refine g_bipush (pc := 72) (v := nI 47) d_O_letter_72 (by decide) ?_
      refine g_iret (pc := 74) d_O_letter_74 rfl (Nat.le_refl _) (Nat.le_refl _) ?_
      refine ⟨congrArg (fun v => some (Value.int v)) ?_, rfl⟩
      refine congrArg nI ?_
      simp only [kLt]
      first | (simp_all; done) | all_goals (repeat' split) <;> omega
    by_cases e4 : y = 4
    · subst e4
      refine g_tableIn (pc := 4) (tgt := 75) d_O_letter_4 (by decide) (by decide) rfl (by decide) ?_
      refine g_bipush (pc := 75) (v := nI 33) d_O_letter_75 (by decide) ?_
      refine g_iret (pc := 77) d_O_letter_77 rfl (Nat.le_refl _) (Nat.le_refl _) ?_
      refine ⟨congrArg (fun v => some (Value.int v)) ?_, rfl⟩
      refine congrArg nI ?_
      simp only [kLt]
      first | (simp_all; done) | all_goals (repeat' split) <;> omega
    by_cases e5 : y = 5
    · subst e5
      refine g_tableIn (pc := 4) (tgt := 78) d_O_letter_4 (by decide) (by decide) rfl (by decide) ?_
      refine g_bipush (pc := 78) (v := nI 64) d_O_letter_78 (by decide) ?_
      refine g_iret (pc := 80) d_O_letter_80 rfl (Nat.le_refl _) (Nat.le_refl _) ?_
      refine ⟨congrArg (fun v => some (Value.int v)) ?_, rfl⟩
      refine congrArg nI ?_
      simp only [kLt]
      first | (simp_all; done) | all_goals (repeat' split) <;> omega
    by_cases e6 : y = 6
    · subst e6
      refine g_tableIn (pc := 4) (tgt := 81) d_O_letter_4 (by decide) (by decide) rfl (by decide) ?_
      refine g_bipush (pc := 81) (v := nI 62) d_O_letter_81 (by decide) ?_
      refine g_iret (pc := 83) d_O_letter_83 rfl (Nat.le_refl _) (Nat.le_refl _) ?_
      refine ⟨congrArg (fun v => some (Value.int v)) ?_, rfl⟩
      refine congrArg nI ?_
      simp only [kLt]
      first | (simp_all; done) | all_goals (repeat' split) <;> omega
    omega
  · refine g_tableOut (pc := 4) (tgt := 84) d_O_letter_4 (Or.inr (by rw [nI_toInt (by omega)]; omega)) (by decide) ?_
    refine g_bipush (pc := 84) (v := nI 61) d_O_letter_84 (by decide) ?_
    refine g_iret (pc := 86) d_O_letter_86 rfl (Nat.le_refl _) (Nat.le_refl _) ?_
    refine ⟨congrArg (fun v => some (Value.int v)) ?_, rfl⟩
    refine congrArg nI ?_
    simp only [kLt]
    first | (simp_all; done) | all_goals (repeat' split) <;> omega
set_option maxRecDepth 100000 in
set_option maxHeartbeats 4000000 in
theorem c_O_showsType {τ : Nat × Nat} {w : pW} (x : Nat) (hx : x < 4096) : pC m_O_showsType τ [.int (nI x)] w (fun r w2 => r = some (.int (bI (kSt x))) ∧ w2 = w) := by
  refine pC.of rfl (Nat.le_of_ble_eq_true rfl) ?_
  show pG m_O_showsType τ _ 0 0 0 [(0, _)] [] _
  refine g_iload_n (pc := 0) d_O_showsType_0 rfl ?_
  refine g_callS (M' := m_O_tag) (pc := 1) d_O_showsType_1 lm_O_11 (c_O_tag x hx) v_O_tag rfl (by decide) rfl (Nat.le_of_ble_eq_true rfl) ?_
  rintro _ _ ⟨rfl, rfl⟩
  show pG m_O_showsType τ _ 0 0 4 _ (.int _ :: _) _
  refine g_nif_eq (pc := 4) (tgt := 14) d_O_showsType_4 (by decide) (by omega) (fun h4 => ?_) (fun h4 => ?_)
  · refine g_iconst (pc := 14) (v := nI 1) d_O_showsType_14 (by decide) ?_
    refine g_goto (pc := 15) (tgt := 19) d_O_showsType_15 (by decide) ?_
    refine g_zret (pc := 19) d_O_showsType_19 rfl (by decide) (Nat.le_refl _) (Nat.le_refl _) ?_
    refine ⟨congrArg (fun v => some (Value.int v)) ?_, rfl⟩
    simp_all [bI, kSt]
    try (intro hh; omega)
  · refine g_iload_n (pc := 7) d_O_showsType_7 rfl ?_
    refine g_callS (M' := m_O_binds) (pc := 8) d_O_showsType_8 lm_O_18 (c_O_binds x hx) v_O_binds rfl (by decide) rfl (Nat.le_of_ble_eq_true rfl) ?_
    rintro _ _ ⟨rfl, rfl⟩
    show pG m_O_showsType τ _ 0 0 11 _ (.int _ :: _) _
    refine g_ifb_eq (pc := 11) (tgt := 18) d_O_showsType_11 (by decide) (fun h11 => ?_) (fun h11 => ?_)
    · refine g_iconst (pc := 18) (v := nI 0) d_O_showsType_18 (by decide) ?_
      refine g_zret (pc := 19) d_O_showsType_19 rfl (by decide) (Nat.le_refl _) (Nat.le_refl _) ?_
      refine ⟨congrArg (fun v => some (Value.int v)) ?_, rfl⟩
      simp_all [bI, kSt]
      try (intro hh; omega)
    · refine g_iconst (pc := 14) (v := nI 1) d_O_showsType_14 (by decide) ?_
      refine g_goto (pc := 15) (tgt := 19) d_O_showsType_15 (by decide) ?_
      refine g_zret (pc := 19) d_O_showsType_19 rfl (by decide) (Nat.le_refl _) (Nat.le_refl _) ?_
      refine ⟨congrArg (fun v => some (Value.int v)) ?_, rfl⟩
      simp_all [bI, kSt]
      try (intro hh; omega)
set_option maxRecDepth 100000 in
set_option maxHeartbeats 4000000 in
theorem c_O_typeLetter {τ : Nat × Nat} {w : pW} (x : Nat) (hx : x < 4096) : pC m_O_typeLetter τ [.int (nI x)] w (fun r w2 => r = some (.int (nI (kTl x))) ∧ w2 = w) := by
  refine pC.of rfl (Nat.le_of_ble_eq_true rfl) ?_
  show pG m_O_typeLetter τ _ 0 0 0 [(0, _)] [] _
  refine g_bipush (pc := 0) (v := nI 65) d_O_typeLetter_0 (by decide) ?_
  refine g_iload_n (pc := 2) d_O_typeLetter_2 rfl ?_
  refine g_callS (M' := m_O_binds) (pc := 3) d_O_typeLetter_3 lm_O_18 (c_O_binds x hx) v_O_binds rfl (by decide) rfl (Nat.le_of_ble_eq_true rfl) ?_
  rintro _ _ ⟨rfl, rfl⟩
  show pG m_O_typeLetter τ _ 0 0 6 _ (.int _ :: _) _
  refine g_ifb_eq (pc := 6) (tgt := 16) d_O_typeLetter_6 (by decide) (fun h6 => ?_) (fun h6 => ?_)
  · refine g_iload_n (pc := 16) d_O_typeLetter_16 rfl ?_
    refine g_callS (M' := m_O_type) (pc := 17) d_O_typeLetter_17 lm_O_22 (c_O_type x hx) v_O_type rfl (by decide) rfl (Nat.le_of_ble_eq_true rfl) ?_
    rintro _ _ ⟨rfl, rfl⟩
    show pG m_O_typeLetter τ _ 0 0 20 _ (.int _ :: _) _
    refine g_nadd (pc := 20) d_O_typeLetter_20 ?_
    refine g_iret (pc := 21) d_O_typeLetter_21 rfl (Nat.le_refl _) (Nat.le_refl _) ?_
    refine ⟨congrArg (fun v => some (Value.int v)) ?_, rfl⟩
    refine congrArg nI ?_
    simp_all [kTl]
  · refine g_iload_n (pc := 9) d_O_typeLetter_9 rfl ?_
    refine g_callS (M' := m_O_info) (pc := 10) d_O_typeLetter_10 lm_O_15 (c_O_info x hx) v_O_info rfl (by decide) rfl (Nat.le_of_ble_eq_true rfl) ?_
    rintro _ _ ⟨rfl, rfl⟩
    show pG m_O_typeLetter τ _ 0 0 13 _ (.int _ :: _) _
    refine g_goto (pc := 13) (tgt := 20) d_O_typeLetter_13 (by decide) ?_
    refine g_nadd (pc := 20) d_O_typeLetter_20 ?_
    refine g_iret (pc := 21) d_O_typeLetter_21 rfl (Nat.le_refl _) (Nat.le_refl _) ?_
    refine ⟨congrArg (fun v => some (Value.int v)) ?_, rfl⟩
    refine congrArg nI ?_
    simp_all [kTl]
