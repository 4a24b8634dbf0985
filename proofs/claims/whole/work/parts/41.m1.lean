/-! The reference: its readers. By wip/whole/m_m1.py -/
theorem bI_0_ {P : Prop} [Decidable P] (h : ¬ P) : bI false = bI (decide P) := by rw [decide_eq_false h]
theorem bI_1_ {P : Prop} [Decidable P] (h : P) : bI true = bI (decide P) := by rw [decide_eq_true h]
set_option maxRecDepth 100000 in
set_option maxHeartbeats 4000000 in
theorem c_M_parts {τ : Nat × Nat} {w : pW} (c : Nat) (hc : c < 2 ^ 31) : pC m_M_parts τ [.int (nI c)] w (fun r w2 => r = some (.int (nI (mPt c))) ∧ w2 = w) := by
  refine pC.of rfl (Nat.le_of_ble_eq_true rfl) ?_
  show pG m_M_parts τ _ 0 0 0 [(0, _)] [] _
  refine g_iload_n (pc := 0) d_M_parts_0 rfl ?_
  refine g_iconst (pc := 1) (v := nI 3) d_M_parts_1 (by decide) ?_
  refine g_nicmp_gt (pc := 2) (tgt := 9) d_M_parts_2 (by decide) (by omega) (by omega) (fun h2 => ?_) (fun h2 => ?_)
  · refine g_iload_n (pc := 9) d_M_parts_9 rfl ?_
    refine g_bipush (pc := 10) (v := nI 64) d_M_parts_10 (by decide) ?_
    refine g_nicmp_ge (pc := 12) (tgt := 19) d_M_parts_12 (by decide) (by omega) (by omega) (fun h12 => ?_) (fun h12 => ?_)
    · refine g_iconst (pc := 19) (v := nI 0) d_M_parts_19 (by decide) ?_
      refine g_iret (pc := 20) d_M_parts_20 rfl (Nat.le_refl _) (Nat.le_refl _) ?_
      refine ⟨congrArg (fun v => some (Value.int v)) ?_, rfl⟩
      unfold mPt
      refine congrArg nI ?_
      all_goals (repeat' split) <;> omega
    · refine g_iconst (pc := 15) (v := nI 1) d_M_parts_15 (by decide) ?_
      refine g_goto (pc := 16) (tgt := 20) d_M_parts_16 (by decide) ?_
      refine g_iret (pc := 20) d_M_parts_20 rfl (Nat.le_refl _) (Nat.le_refl _) ?_
      refine ⟨congrArg (fun v => some (Value.int v)) ?_, rfl⟩
      unfold mPt
      refine congrArg nI ?_
      all_goals (repeat' split) <;> omega
  · refine g_iconst (pc := 5) (v := nI 2) d_M_parts_5 (by decide) ?_
    refine g_goto (pc := 6) (tgt := 20) d_M_parts_6 (by decide) ?_
    refine g_iret (pc := 20) d_M_parts_20 rfl (Nat.le_refl _) (Nat.le_refl _) ?_
    refine ⟨congrArg (fun v => some (Value.int v)) ?_, rfl⟩
    unfold mPt
    refine congrArg nI ?_
    all_goals (repeat' split) <;> omega
set_option maxRecDepth 100000 in
set_option maxHeartbeats 4000000 in
theorem c_M_isVariable {τ : Nat × Nat} {w : pW} (c : Nat) (hc : c < 2 ^ 31) : pC m_M_isVariable τ [.int (nI c)] w (fun r w2 => r = some (.int (bI (decide (64 ≤ c) && decide (c < 240)))) ∧ w2 = w) := by
  refine pC.of rfl (Nat.le_of_ble_eq_true rfl) ?_
  show pG m_M_isVariable τ _ 0 0 0 [(0, _)] [] _
  refine g_iload_n (pc := 0) d_M_isVariable_0 rfl ?_
  refine g_bipush (pc := 1) (v := nI 64) d_M_isVariable_1 (by decide) ?_
  refine g_nicmp_lt (pc := 3) (tgt := 17) d_M_isVariable_3 (by decide) (by omega) (by omega) (fun h3 => ?_) (fun h3 => ?_)
  · refine g_iconst (pc := 17) (v := nI 0) d_M_isVariable_17 (by decide) ?_
    refine g_zret (pc := 18) d_M_isVariable_18 rfl (by decide) (Nat.le_refl _) (Nat.le_refl _) ?_
    refine ⟨congrArg (fun v => some (Value.int v)) ?_, rfl⟩
    first | exact bI_1 (by simp; omega) | exact bI_0 (by simp; omega)
  · refine g_iload_n (pc := 6) d_M_isVariable_6 rfl ?_
    refine g_sipush (pc := 7) (v := nI 240) d_M_isVariable_7 (by decide) ?_
    refine g_nicmp_ge (pc := 10) (tgt := 17) d_M_isVariable_10 (by decide) (by omega) (by omega) (fun h10 => ?_) (fun h10 => ?_)
    · refine g_iconst (pc := 17) (v := nI 0) d_M_isVariable_17 (by decide) ?_
      refine g_zret (pc := 18) d_M_isVariable_18 rfl (by decide) (Nat.le_refl _) (Nat.le_refl _) ?_
      refine ⟨congrArg (fun v => some (Value.int v)) ?_, rfl⟩
      first | exact bI_1 (by simp; omega) | exact bI_0 (by simp; omega)
    · refine g_iconst (pc := 13) (v := nI 1) d_M_isVariable_13 (by decide) ?_
      refine g_goto (pc := 14) (tgt := 18) d_M_isVariable_14 (by decide) ?_
      refine g_zret (pc := 18) d_M_isVariable_18 rfl (by decide) (Nat.le_refl _) (Nat.le_refl _) ?_
      refine ⟨congrArg (fun v => some (Value.int v)) ?_, rfl⟩
      first | exact bI_1 (by simp; omega) | exact bI_0 (by simp; omega)
set_option maxRecDepth 100000 in
set_option maxHeartbeats 4000000 in
theorem c_M_isType {τ : Nat × Nat} {a : Nat → Nat} {i : Nat → Int32} {r : Nat → Nat → Int32} {L : Nat → Nat → Int64} {z : Int64} {wr : pW} (c : Nat) (hc : i 2 = nI c) (hb : c < 2 ^ 31) (x : Int32) : pC m_M_isType τ [.ref (a 0), .int x] (wM a i r L z ++ wr) (fun rr w2 => rr = some (.int (bI (ixB x c))) ∧ w2 = wM a i r L z ++ wr) := by
  refine pC.of rfl (Nat.le_of_ble_eq_true rfl) ?_
  show pG m_M_isType τ _ 0 0 0 [(0, _), (1, _)] [] _
  refine g_iload_n (pc := 0) d_M_isType_0 rfl ?_
  refine g_if_lt (pc := 1) (tgt := 16) d_M_isType_1 (by decide) (fun h1 => ?_) (fun h1 => ?_)
  · refine g_iconst (pc := 16) (v := nI 0) d_M_isType_16 (by decide) ?_
    refine g_zret (pc := 17) d_M_isType_17 rfl (by decide) (Nat.le_refl _) (Nat.le_refl _) ?_
    refine ⟨congrArg (fun v => some (Value.int v)) ?_, rfl⟩
    first | exact bI_0 (ixB_neg (by assumption)) | exact bI_0 (ixB_big hb (by assumption)) | exact bI_1 (ixB_in hb (by assumption) (by assumption))
  · refine g_iload_n (pc := 4) d_M_isType_4 rfl ?_
    refine g_aload_n (pc := 5) d_M_isType_5 rfl ?_
    refine gm_types (pc := 6) d_M_isType_6 lf_M_22 ?_
    rw [hc]
    refine g_icmp_ge (pc := 9) (tgt := 16) d_M_isType_9 (by decide) (fun h9 => ?_) (fun h9 => ?_)
    · refine g_iconst (pc := 16) (v := nI 0) d_M_isType_16 (by decide) ?_
      refine g_zret (pc := 17) d_M_isType_17 rfl (by decide) (Nat.le_refl _) (Nat.le_refl _) ?_
      refine ⟨congrArg (fun v => some (Value.int v)) ?_, rfl⟩
      first | exact bI_0 (ixB_neg (by assumption)) | exact bI_0 (ixB_big hb (by assumption)) | exact bI_1 (ixB_in hb (by assumption) (by assumption))
    · refine g_iconst (pc := 12) (v := nI 1) d_M_isType_12 (by decide) ?_
      refine g_goto (pc := 13) (tgt := 17) d_M_isType_13 (by decide) ?_
      refine g_zret (pc := 17) d_M_isType_17 rfl (by decide) (Nat.le_refl _) (Nat.le_refl _) ?_
      refine ⟨congrArg (fun v => some (Value.int v)) ?_, rfl⟩
      first | exact bI_0 (ixB_neg (by assumption)) | exact bI_0 (ixB_big hb (by assumption)) | exact bI_1 (ixB_in hb (by assumption) (by assumption))
set_option maxRecDepth 100000 in
set_option maxHeartbeats 4000000 in
theorem c_M_isTerm {τ : Nat × Nat} {a : Nat → Nat} {i : Nat → Int32} {r : Nat → Nat → Int32} {L : Nat → Nat → Int64} {z : Int64} {wr : pW} (c : Nat) (hc : i 1 = nI c) (hb : c < 2 ^ 31) (x : Int32) : pC m_M_isTerm τ [.ref (a 0), .int x] (wM a i r L z ++ wr) (fun rr w2 => rr = some (.int (bI (ixB x c))) ∧ w2 = wM a i r L z ++ wr) := by
  refine pC.of rfl (Nat.le_of_ble_eq_true rfl) ?_
  show pG m_M_isTerm τ _ 0 0 0 [(0, _), (1, _)] [] _
  refine g_iload_n (pc := 0) d_M_isTerm_0 rfl ?_
  refine g_if_lt (pc := 1) (tgt := 16) d_M_isTerm_1 (by decide) (fun h1 => ?_) (fun h1 => ?_)
  · refine g_iconst (pc := 16) (v := nI 0) d_M_isTerm_16 (by decide) ?_
    refine g_zret (pc := 17) d_M_isTerm_17 rfl (by decide) (Nat.le_refl _) (Nat.le_refl _) ?_
    refine ⟨congrArg (fun v => some (Value.int v)) ?_, rfl⟩
    first | exact bI_0 (ixB_neg (by assumption)) | exact bI_0 (ixB_big hb (by assumption)) | exact bI_1 (ixB_in hb (by assumption) (by assumption))
  · refine g_iload_n (pc := 4) d_M_isTerm_4 rfl ?_
    refine g_aload_n (pc := 5) d_M_isTerm_5 rfl ?_
    refine gm_terms (pc := 6) d_M_isTerm_6 lf_M_78 ?_
    rw [hc]
    refine g_icmp_ge (pc := 9) (tgt := 16) d_M_isTerm_9 (by decide) (fun h9 => ?_) (fun h9 => ?_)
    · refine g_iconst (pc := 16) (v := nI 0) d_M_isTerm_16 (by decide) ?_
      refine g_zret (pc := 17) d_M_isTerm_17 rfl (by decide) (Nat.le_refl _) (Nat.le_refl _) ?_
      refine ⟨congrArg (fun v => some (Value.int v)) ?_, rfl⟩
      first | exact bI_0 (ixB_neg (by assumption)) | exact bI_0 (ixB_big hb (by assumption)) | exact bI_1 (ixB_in hb (by assumption) (by assumption))
    · refine g_iconst (pc := 12) (v := nI 1) d_M_isTerm_12 (by decide) ?_
      refine g_goto (pc := 13) (tgt := 17) d_M_isTerm_13 (by decide) ?_
      refine g_zret (pc := 17) d_M_isTerm_17 rfl (by decide) (Nat.le_refl _) (Nat.le_refl _) ?_
      refine ⟨congrArg (fun v => some (Value.int v)) ?_, rfl⟩
      first | exact bI_0 (ixB_neg (by assumption)) | exact bI_0 (ixB_big hb (by assumption)) | exact bI_1 (ixB_in hb (by assumption) (by assumption))
set_option maxRecDepth 100000 in
set_option maxHeartbeats 4000000 in
theorem c_M_isTheorem {τ : Nat × Nat} {a : Nat → Nat} {i : Nat → Int32} {r : Nat → Nat → Int32} {L : Nat → Nat → Int64} {z : Int64} {wr : pW} (c : Nat) (hc : i 3 = nI c) (hb : c < 2 ^ 31) (x : Int32) : pC m_M_isTheorem τ [.ref (a 0), .int x] (wM a i r L z ++ wr) (fun rr w2 => rr = some (.int (bI (ixB x c))) ∧ w2 = wM a i r L z ++ wr) := by
  refine pC.of rfl (Nat.le_of_ble_eq_true rfl) ?_
  show pG m_M_isTheorem τ _ 0 0 0 [(0, _), (1, _)] [] _
  refine g_iload_n (pc := 0) d_M_isTheorem_0 rfl ?_
  refine g_if_lt (pc := 1) (tgt := 16) d_M_isTheorem_1 (by decide) (fun h1 => ?_) (fun h1 => ?_)
  · refine g_iconst (pc := 16) (v := nI 0) d_M_isTheorem_16 (by decide) ?_
    refine g_zret (pc := 17) d_M_isTheorem_17 rfl (by decide) (Nat.le_refl _) (Nat.le_refl _) ?_
    refine ⟨congrArg (fun v => some (Value.int v)) ?_, rfl⟩
    first | exact bI_0 (ixB_neg (by assumption)) | exact bI_0 (ixB_big hb (by assumption)) | exact bI_1 (ixB_in hb (by assumption) (by assumption))
  · refine g_iload_n (pc := 4) d_M_isTheorem_4 rfl ?_
    refine g_aload_n (pc := 5) d_M_isTheorem_5 rfl ?_
    refine gm_theorems (pc := 6) d_M_isTheorem_6 lf_M_115 ?_
    rw [hc]
    refine g_icmp_ge (pc := 9) (tgt := 16) d_M_isTheorem_9 (by decide) (fun h9 => ?_) (fun h9 => ?_)
    · refine g_iconst (pc := 16) (v := nI 0) d_M_isTheorem_16 (by decide) ?_
      refine g_zret (pc := 17) d_M_isTheorem_17 rfl (by decide) (Nat.le_refl _) (Nat.le_refl _) ?_
      refine ⟨congrArg (fun v => some (Value.int v)) ?_, rfl⟩
      first | exact bI_0 (ixB_neg (by assumption)) | exact bI_0 (ixB_big hb (by assumption)) | exact bI_1 (ixB_in hb (by assumption) (by assumption))
    · refine g_iconst (pc := 12) (v := nI 1) d_M_isTheorem_12 (by decide) ?_
      refine g_goto (pc := 13) (tgt := 17) d_M_isTheorem_13 (by decide) ?_
      refine g_zret (pc := 17) d_M_isTheorem_17 rfl (by decide) (Nat.le_refl _) (Nat.le_refl _) ?_
      refine ⟨congrArg (fun v => some (Value.int v)) ?_, rfl⟩
      first | exact bI_0 (ixB_neg (by assumption)) | exact bI_0 (ixB_big hb (by assumption)) | exact bI_1 (ixB_in hb (by assumption) (by assumption))
set_option maxRecDepth 100000 in
set_option maxHeartbeats 4000000 in
theorem c_M_end {τ : Nat × Nat} {a : Nat → Nat} {i : Nat → Int32} {r : Nat → Nat → Int32} {L : Nat → Nat → Int64} {z : Int64} {wr : pW} (p : Nat) (row : List Nat) (h : MA (r 0) p row) : pC m_M_end τ [.ref (a 0), .int (nI p)] (wM a i r L z ++ wr) ((fun rr w2 => rr = some (.int (nI (p + row.length))) ∧ w2 = wM a i r L z ++ wr)) := by
  obtain ⟨hs, hp, hg, hk, h30⟩ := h
  have key : ∀ (rest : List Nat) (n k : Nat), Pol n rest → Seg (r 0) k (rest.map mu) → (∀ x, x ∈ rest → GT x) → k + rest.length = p + row.length → pG m_M_end τ (fun rr w2 => rr = some (.int (nI (p + row.length))) ∧ w2 = wM a i r L z ++ wr) 0 0 4 [(2, .int (nI k)), (3, .int (nI n)), (0, .ref (a 0)), (1, .int (nI p))] [] (wM a i r L z ++ wr) := by
    intro rest
    induction rest with
    | nil =>
      intro n k hn hsg hgt he
      have hn : n = 0 := hn
      subst hn
      have he : k = p + row.length := he
      refine g_iload_n (pc := 4) d_M_end_4 rfl ?_
      refine g_nif_le (pc := 5) (tgt := 28) d_M_end_5 (by decide) (by omega) (fun h5 => ?_) (fun h => absurd h (by omega))
      refine g_iload_n (pc := 28) d_M_end_28 rfl ?_
      refine g_iret (pc := 29) d_M_end_29 rfl (Nat.le_refl _) (Nat.le_refl _) ?_
      exact ⟨by rw [he], rfl⟩
    | cons t rest ih =>
      intro n k hn hsg hgt he
      obtain ⟨m, rfl, hn2⟩ := Pol_cons hn
      obtain ⟨⟨ht1, ht2⟩, hsg2⟩ := Seg_cons (show Seg (r 0) k (mu t :: rest.map mu) from hsg)
      have he2 : k + 1 + rest.length = p + row.length := by simp at he; omega
      have hle := Pol_le hn2
      have hpm := mPt_mu (hgt t List.mem_cons_self)
      refine g_iload_n (pc := 4) d_M_end_4 rfl ?_
      refine g_nif_le (pc := 5) (tgt := 28) d_M_end_5 (by decide) (by omega) (fun h => absurd h (by omega)) (fun h5 => ?_)
      refine g_iload_n (pc := 8) d_M_end_8 rfl ?_
      refine g_aload_n (pc := 9) d_M_end_9 rfl ?_
      refine gm_row (pc := 10) d_M_end_10 lf_M_7 ?_
      refine g_iload_n (pc := 13) d_M_end_13 rfl ?_
      refine glm_row (pc := 14) (v := nI (mu t)) d_M_end_14 (vp_in_nI (by omega) (by decide)) (by rw [nI_clamp (by omega)]; exact ht1) ?_
      refine g_callS (M' := m_M_parts) (pc := 15) d_M_end_15 lm_M_51 (c_M_parts (mu t) (by omega)) v_M_parts rfl (by decide) rfl (Nat.le_of_ble_eq_true rfl) ?_
      rintro _ _ ⟨rfl, rfl⟩
      show pG m_M_end τ _ 0 0 18 _ (.int _ :: _) _
      refine g_iconst (pc := 18) (v := nI 1) d_M_end_18 (by decide) ?_
      refine g_isub (pc := 19) d_M_end_19 ?_
      refine g_iadd (pc := 20) d_M_end_20 ?_
      refine g_topi (nI (m + kPt t)) (by rw [hpm]; exact nI_opn m (kPt t)) ?_
      refine g_istore_n (pc := 21) [(3, _), (2, _), (0, _), (1, _)] d_M_end_21 (by decide) rfl ?_
      refine g_niinc (pc := 22) (d := 1) [(2, _), (3, _), (0, _), (1, _)] d_M_end_22 rfl (by decide) rfl ?_
      refine g_goto (pc := 25) (tgt := 4) d_M_end_25 (by decide) ?_
      exact ih _ _ hn2 hsg2 (fun x hx => hgt x (List.mem_cons_of_mem _ hx)) he2
  refine pC.of rfl (Nat.le_of_ble_eq_true rfl) ?_
  show pG m_M_end τ _ 0 0 0 [(0, _), (1, _)] [] _
  refine g_iload_n (pc := 0) d_M_end_0 rfl ?_
  refine g_istore_n (pc := 1) [(2, _), (0, _), (1, _)] d_M_end_1 (by decide) rfl ?_
  refine g_iconst (pc := 2) (v := nI 1) d_M_end_2 (by decide) ?_
  refine g_istore_n (pc := 3) [(3, _), (2, _), (0, _), (1, _)] d_M_end_3 (by decide) rfl ?_
  refine g_pick [1, 0, 2, 3] [(2, _), (3, _), (0, _), (1, _)] rfl ?_
  exact key row 1 p hp hs hg rfl
set_option maxRecDepth 100000 in
set_option maxHeartbeats 4000000 in
theorem c_M_same {τ : Nat × Nat} {a : Nat → Nat} {i : Nat → Int32} {r : Nat → Nat → Int32} {L : Nat → Nat → Int64} {z : Int64} {wr : pW} (l q : Nat) (R S : List Nat) (h : MA (r 0) l R) (g : MA (r 0) q S) : pC m_M_same τ [.ref (a 0), .int (nI l), .int (nI q)] (wM a i r L z ++ wr) ((fun rr w2 => rr = some (.int (bI (decide (R.map mu = S.map mu)))) ∧ w2 = wM a i r L z ++ wr)) := by
  have hR := h.2.2.2.2
  have hS := g.2.2.2.2
  have hRk := h.2.2.2.1
  have hSk := g.2.2.2.1
  have key : ∀ (m k : Nat) (b : Bool), R.length - k = m → k ≤ R.length → (b = true → R.length = S.length ∧ ∀ y, y < k → (R.map mu)[y]? = (S.map mu)[y]?) → (b = false → ¬ R.map mu = S.map mu) → pG m_M_same τ (fun rr w2 => rr = some (.int (bI (decide (R.map mu = S.map mu)))) ∧ w2 = wM a i r L z ++ wr) 0 0 29 [(5, .int (nI k)), (4, .int (bI b)), (3, .int (nI R.length)), (0, .ref (a 0)), (1, .int (nI l)), (2, .int (nI q))] [] (wM a i r L z ++ wr) := by
    intro m
    induction m with
    | zero =>
      intro k b hm hk ht hf
      refine g_iload (pc := 29) d_M_same_29 rfl ?_
      refine g_iload_n (pc := 31) d_M_same_31 rfl ?_
      refine g_nicmp_ge (pc := 32) (tgt := 74) d_M_same_32 (by decide) (by omega) (by omega) (fun h32 => ?_) (fun h => absurd h (by omega))
      refine g_iload (pc := 74) d_M_same_74 rfl ?_
      refine g_zret (pc := 76) d_M_same_76 rfl (narrow_bI _) (Nat.le_refl _) (Nat.le_refl _) ?_
      refine ⟨congrArg (fun v => some (Value.int v)) ?_, rfl⟩
      cases hb : b with
      | false => exact bI_0_ (hf hb)
      | true =>
        obtain ⟨e1, e2⟩ := ht hb
        refine bI_1_ ?_
        apply List.ext_getElem?
        intro y
        by_cases hy : y < k
        · exact e2 y hy
        · rw [List.getElem?_eq_none (by simp; omega), List.getElem?_eq_none (by simp; omega)]
    | succ m ih =>
      intro k b hm hk ht hf
      have hk1 : k < R.length := by omega
      have hx := h.get (List.getElem?_eq_getElem hk1)
      generalize hX : R[k] = X at hx
      obtain ⟨hx1, hx2, hx3, hx4⟩ := hx
      refine g_iload (pc := 29) d_M_same_29 rfl ?_
      refine g_iload_n (pc := 31) d_M_same_31 rfl ?_
      refine g_nicmp_ge (pc := 32) (tgt := 74) d_M_same_32 (by decide) (by omega) (by omega) (fun h => absurd h (by omega)) (fun h32 => ?_)
      refine g_iload (pc := 35) d_M_same_35 rfl ?_
      refine g_ifb_eq (pc := 37) (tgt := 74) d_M_same_37 (by decide) (fun h37 => ?_) (fun h37 => ?_)
      · refine g_iload (pc := 74) d_M_same_74 rfl ?_
        refine g_zret (pc := 76) d_M_same_76 rfl (narrow_bI _) (Nat.le_refl _) (Nat.le_refl _) ?_
        refine ⟨congrArg (fun v => some (Value.int v)) ?_, rfl⟩
        rw [h37]
        exact bI_0_ (hf h37)
      · obtain ⟨e1, e2⟩ := ht h37
        have hk2 : k < S.length := by omega
        have hy := g.get (List.getElem?_eq_getElem hk2)
        generalize hY : S[k] = Y at hy
        obtain ⟨hy1, hy2, hy3, hy4⟩ := hy
        refine g_aload_n (pc := 40) d_M_same_40 rfl ?_
        refine gm_row (pc := 41) d_M_same_41 lf_M_7 ?_
        refine g_iload_n (pc := 44) d_M_same_44 rfl ?_
        refine g_iload (pc := 45) d_M_same_45 rfl ?_
        refine g_nadd (pc := 47) d_M_same_47 ?_
        refine glm_row (pc := 48) (v := nI (mu X)) d_M_same_48 (vp_in_nI (by omega) (by decide)) (by rw [nI_clamp (by omega)]; exact hx1) ?_
        refine g_aload_n (pc := 49) d_M_same_49 rfl ?_
        refine gm_row (pc := 50) d_M_same_50 lf_M_7 ?_
        refine g_iload_n (pc := 53) d_M_same_53 rfl ?_
        refine g_iload (pc := 54) d_M_same_54 rfl ?_
        refine g_nadd (pc := 56) d_M_same_56 ?_
        refine glm_row (pc := 57) (v := nI (mu Y)) d_M_same_57 (vp_in_nI (by omega) (by decide)) (by rw [nI_clamp (by omega)]; exact hy1) ?_
        refine g_nicmp_ne (pc := 58) (tgt := 65) d_M_same_58 (by decide) (by omega) (by omega) (fun h58 => ?_) (fun h58 => ?_)
        · refine g_iconst (pc := 65) (v := nI 0) d_M_same_65 (by decide) ?_
          refine g_istore (pc := 66) [(4, _), (5, _), (3, _), (0, _), (1, _), (2, _)] d_M_same_66 (by decide) rfl ?_
          refine g_niinc (pc := 68) (d := 1) [(5, _), (4, _), (3, _), (0, _), (1, _), (2, _)] d_M_same_68 rfl (by decide) rfl ?_
          refine g_goto (pc := 71) (tgt := 29) d_M_same_71 (by decide) ?_
          refine g_pick [0, 1, 2, 3, 4, 5] [(5, _), (4, _), (3, _), (0, _), (1, _), (2, _)] rfl ?_
          first | exact ih (k + 1) true (by omega) (by omega) (fun _ => ⟨e1, lt_s e2 (by rw [List.getElem?_map, List.getElem?_map, List.getElem?_eq_getElem hk1, List.getElem?_eq_getElem hk2, hX, hY]; exact congrArg some h58)⟩) (fun q => Bool.noConfusion q) | exact ih (k + 1) false (by omega) (by omega) (fun q => Bool.noConfusion q) (fun _ q => h58 (by have := congrArg (fun l => l[k]?) q; simp only [List.getElem?_map, List.getElem?_eq_getElem hk1, List.getElem?_eq_getElem hk2, hX, hY] at this; exact Option.some.inj this))
        · refine g_iconst (pc := 61) (v := nI 1) d_M_same_61 (by decide) ?_
          refine g_goto (pc := 62) (tgt := 66) d_M_same_62 (by decide) ?_
          refine g_istore (pc := 66) [(4, _), (5, _), (3, _), (0, _), (1, _), (2, _)] d_M_same_66 (by decide) rfl ?_
          refine g_niinc (pc := 68) (d := 1) [(5, _), (4, _), (3, _), (0, _), (1, _), (2, _)] d_M_same_68 rfl (by decide) rfl ?_
          refine g_goto (pc := 71) (tgt := 29) d_M_same_71 (by decide) ?_
          refine g_pick [0, 1, 2, 3, 4, 5] [(5, _), (4, _), (3, _), (0, _), (1, _), (2, _)] rfl ?_
          first | exact ih (k + 1) true (by omega) (by omega) (fun _ => ⟨e1, lt_s e2 (by rw [List.getElem?_map, List.getElem?_map, List.getElem?_eq_getElem hk1, List.getElem?_eq_getElem hk2, hX, hY]; exact congrArg some h58)⟩) (fun q => Bool.noConfusion q) | exact ih (k + 1) false (by omega) (by omega) (fun q => Bool.noConfusion q) (fun _ q => h58 (by have := congrArg (fun l => l[k]?) q; simp only [List.getElem?_map, List.getElem?_eq_getElem hk1, List.getElem?_eq_getElem hk2, hX, hY] at this; exact Option.some.inj this))
  refine pC.of rfl (Nat.le_of_ble_eq_true rfl) ?_
  show pG m_M_same τ _ 0 0 0 [(0, _), (1, _), (2, _)] [] _
  refine g_aload_n (pc := 0) d_M_same_0 rfl ?_
  refine g_iload_n (pc := 1) d_M_same_1 rfl ?_
  refine g_callV (M' := m_M_end) (pc := 2) (q := 0) d_M_same_2 lm_M_55 (c_M_end l R h) v_M_end rfl rfl rfl (by decide) rfl (Nat.le_of_ble_eq_true rfl) ?_
  rintro _ _ ⟨rfl, rfl⟩
  show pG m_M_same τ _ 0 0 5 _ (.int _ :: _) _
  refine g_iload_n (pc := 5) d_M_same_5 rfl ?_
  refine g_nsub (pc := 6) d_M_same_6 (by omega) ?_
  rw [Nat.add_sub_cancel_left]
  refine g_istore_n (pc := 7) [(3, _), (0, _), (1, _), (2, _)] d_M_same_7 (by decide) rfl ?_
  refine g_iload_n (pc := 8) d_M_same_8 rfl ?_
  refine g_aload_n (pc := 9) d_M_same_9 rfl ?_
  refine g_iload_n (pc := 10) d_M_same_10 rfl ?_
  refine g_callV (M' := m_M_end) (pc := 11) (q := 0) d_M_same_11 lm_M_55 (c_M_end q S g) v_M_end rfl rfl rfl (by decide) rfl (Nat.le_of_ble_eq_true rfl) ?_
  rintro _ _ ⟨rfl, rfl⟩
  show pG m_M_same τ _ 0 0 14 _ (.int _ :: _) _
  refine g_iload_n (pc := 14) d_M_same_14 rfl ?_
  refine g_nsub (pc := 15) d_M_same_15 (by omega) ?_
  rw [Nat.add_sub_cancel_left]
  refine g_nicmp_ne (pc := 16) (tgt := 23) d_M_same_16 (by decide) (by omega) (by omega) (fun h16 => ?_) (fun h16 => ?_)
  · refine g_iconst (pc := 23) (v := nI 0) d_M_same_23 (by decide) ?_
    refine g_istore (pc := 24) [(4, _), (3, _), (0, _), (1, _), (2, _)] d_M_same_24 (by decide) rfl ?_
    refine g_iconst (pc := 26) (v := nI 0) d_M_same_26 (by decide) ?_
    refine g_istore (pc := 27) [(5, _), (4, _), (3, _), (0, _), (1, _), (2, _)] d_M_same_27 (by decide) rfl ?_
    first | exact key _ 0 true rfl (Nat.zero_le _) (fun _ => ⟨h16, lt_0⟩) (fun q => Bool.noConfusion q) | exact key _ 0 false rfl (Nat.zero_le _) (fun q => Bool.noConfusion q) (fun _ q => h16 (by have := congrArg List.length q; simpa using this))
  · refine g_iconst (pc := 19) (v := nI 1) d_M_same_19 (by decide) ?_
    refine g_goto (pc := 20) (tgt := 24) d_M_same_20 (by decide) ?_
    refine g_istore (pc := 24) [(4, _), (3, _), (0, _), (1, _), (2, _)] d_M_same_24 (by decide) rfl ?_
    refine g_iconst (pc := 26) (v := nI 0) d_M_same_26 (by decide) ?_
    refine g_istore (pc := 27) [(5, _), (4, _), (3, _), (0, _), (1, _), (2, _)] d_M_same_27 (by decide) rfl ?_
    first | exact key _ 0 true rfl (Nat.zero_le _) (fun _ => ⟨h16, lt_0⟩) (fun q => Bool.noConfusion q) | exact key _ 0 false rfl (Nat.zero_le _) (fun q => Bool.noConfusion q) (fun _ q => h16 (by have := congrArg List.length q; simpa using this))
set_option maxRecDepth 100000 in
set_option maxHeartbeats 4000000 in
theorem c_M_depth {τ : Nat × Nat} {a : Nat → Nat} {i : Nat → Int32} {r : Nat → Nat → Int32} {L : Nat → Nat → Int64} {z : Int64} {wr : pW} (p j : Nat) (row : List Nat) (h : MA (r 0) p row) (hj : j < row.length) : pC m_M_depth τ [.ref (a 0), .int (nI p), .int (nI (p + j))] (wM a i r L z ++ wr) ((fun rr w2 => rr = some (.int (nI (EP row j j).length)) ∧ w2 = wM a i r L z ++ wr)) := by
  have h30 := h.2.2.2.2
  have hk := h.2.2.2.1
  have key : ∀ (f m n : Nat), j - m = f → m ≤ j → n + (EP (row.drop m) (j - m) (j - m)).length = (EP row j j).length → n ≤ m → pG m_M_depth τ (fun rr w2 => rr = some (.int (nI (EP row j j).length)) ∧ w2 = wM a i r L z ++ wr) 0 0 5 [(4, .int (nI (p + m))), (3, .int (nI n)), (0, .ref (a 0)), (1, .int (nI p)), (2, .int (nI (p + j)))] [] (wM a i r L z ++ wr) := by
    intro f
    induction f with
    | zero =>
      intro m n hf hm he hn
      rw [hf, EP_0] at he
      have he : n = (EP row j j).length := he
      refine g_iload (pc := 5) d_M_depth_5 rfl ?_
      refine g_iload_n (pc := 7) d_M_depth_7 rfl ?_
      refine g_nicmp_ge (pc := 8) (tgt := 49) d_M_depth_8 (by decide) (by omega) (by omega) (fun h8 => ?_) (fun h => absurd h (by omega))
      refine g_iload_n (pc := 49) d_M_depth_49 rfl ?_
      refine g_iret (pc := 50) d_M_depth_50 rfl (Nat.le_refl _) (Nat.le_refl _) ?_
      exact ⟨by rw [he], rfl⟩
    | succ f ih =>
      intro m n hf hm he hn
      have hm1 : m < row.length := by omega
      obtain ⟨X, Y, hd, hX⟩ := h.at hm1
      obtain ⟨t, ht⟩ := get_of hm1
      obtain ⟨ht1, ht2, ht3, ht4⟩ := h.get ht
      have hpm := mPt_mu ht2
      have hdr : row.drop m = t :: row.drop (m + 1) := by
        rw [List.drop_eq_getElem_cons hm1]
        rw [List.getElem?_eq_getElem hm1] at ht
        rw [Option.some.inj ht]
      have hst : EP (row.drop m) (j - m) (j - m) = EP (row.drop (m + 1)) (j - (m + 1)) (j - (m + 1)) ++ (if kBd t = true ∧ j - (m + 1) < tl (row.drop (m + 1)) then [t / 16 % 32] else []) := by
        rw [hdr, show j - m = (j - (m + 1)) + 1 by omega]
        rfl
      rw [hst, List.length_append] at he
      have hXl := hX.2.2.2.2
      have hbd : kPt t = 1 → (p + m + X.length > p + j ↔ j - (m + 1) < tl (row.drop (m + 1))) := by
        intro hk1
        have hXp := hX.2.1
        cases X with
        | nil => exact absurd hXp (by intro e; cases e)
        | cons u X =>
          rw [hdr] at hd
          obtain ⟨e1, e2⟩ := List.cons.inj hd
          have e2 : row.drop (m + 1) = X ++ Y := e2
          subst e1
          have hX2 : Pol (0 + kPt t) X := hXp
          rw [hk1] at hX2
          rw [e2, tl_app Y hX2, List.length_cons]
          omega
      refine g_iload (pc := 5) d_M_depth_5 rfl ?_
      refine g_iload_n (pc := 7) d_M_depth_7 rfl ?_
      refine g_nicmp_ge (pc := 8) (tgt := 49) d_M_depth_8 (by decide) (by omega) (by omega) (fun h => absurd h (by omega)) (fun h8 => ?_)
      refine g_iload_n (pc := 11) d_M_depth_11 rfl ?_
      refine g_aload_n (pc := 12) d_M_depth_12 rfl ?_
      refine gm_row (pc := 13) d_M_depth_13 lf_M_7 ?_
      refine g_iload (pc := 16) d_M_depth_16 rfl ?_
      refine glm_row (pc := 18) (v := nI (mu t)) d_M_depth_18 (vp_in_nI (by omega) (by decide)) (by rw [nI_clamp (by omega)]; exact ht1) ?_
      refine g_callS (M' := m_M_parts) (pc := 19) d_M_depth_19 lm_M_51 (c_M_parts (mu t) (by omega)) v_M_parts rfl (by decide) rfl (Nat.le_of_ble_eq_true rfl) ?_
      rintro _ _ ⟨rfl, rfl⟩
      show pG m_M_depth τ _ 0 0 22 _ (.int _ :: _) _
      refine g_iconst (pc := 22) (v := nI 1) d_M_depth_22 (by decide) ?_
      have hmp : mPt (mu t) ≤ 2 := by rw [hpm]; exact kPt_le t
      refine g_nicmp_ne (pc := 23) (tgt := 40) d_M_depth_23 (by decide) (by omega) (by omega) (fun h23 => ?_) (fun h23 => ?_)
      · refine g_iconst (pc := 40) (v := nI 0) d_M_depth_40 (by decide) ?_
        refine g_nadd (pc := 41) d_M_depth_41 ?_
        refine g_istore_n (pc := 42) [(3, _), (4, _), (0, _), (1, _), (2, _)] d_M_depth_42 (by decide) rfl ?_
        refine g_niinc (pc := 43) (d := 1) [(4, _), (3, _), (0, _), (1, _), (2, _)] d_M_depth_43 rfl (by decide) rfl ?_
        refine g_goto (pc := 46) (tgt := 5) d_M_depth_46 (by decide) ?_
        refine g_pick [0, 1, 2, 3, 4] [(4, _), (3, _), (0, _), (1, _), (2, _)] rfl ?_
        first
        | (rw [if_pos ⟨(kBd_iff t).mpr (hpm.symm.trans h23), (hbd (hpm.symm.trans h23)).mp h33⟩] at he
           exact ih (m + 1) (n + 1) (by omega) (by omega) (by simp at he; omega) (by omega))
        | (rw [if_neg (fun q => absurd ((hbd (hpm.symm.trans h23)).mpr q.2) (by omega))] at he
           exact ih (m + 1) n (by omega) (by omega) (by simp at he; omega) (by omega))
        | (rw [if_neg (fun q => h23 (hpm.trans ((kBd_iff t).mp q.1)))] at he
           exact ih (m + 1) n (by omega) (by omega) (by simp at he; omega) (by omega))
      · refine g_aload_n (pc := 26) d_M_depth_26 rfl ?_
        refine g_iload (pc := 27) d_M_depth_27 rfl ?_
        refine g_callV (M' := m_M_end) (pc := 29) (q := 0) d_M_depth_29 lm_M_55 (c_M_end (p + m) X hX) v_M_end rfl rfl rfl (by decide) rfl (Nat.le_of_ble_eq_true rfl) ?_
        rintro _ _ ⟨rfl, rfl⟩
        show pG m_M_depth τ _ 0 0 32 _ (.int _ :: _) _
        refine g_iload_n (pc := 32) d_M_depth_32 rfl ?_
        refine g_nicmp_le (pc := 33) (tgt := 40) d_M_depth_33 (by decide) (by omega) (by omega) (fun h33 => ?_) (fun h33 => ?_)
        · refine g_iconst (pc := 40) (v := nI 0) d_M_depth_40 (by decide) ?_
          refine g_nadd (pc := 41) d_M_depth_41 ?_
          refine g_istore_n (pc := 42) [(3, _), (4, _), (0, _), (1, _), (2, _)] d_M_depth_42 (by decide) rfl ?_
          refine g_niinc (pc := 43) (d := 1) [(4, _), (3, _), (0, _), (1, _), (2, _)] d_M_depth_43 rfl (by decide) rfl ?_
          refine g_goto (pc := 46) (tgt := 5) d_M_depth_46 (by decide) ?_
          refine g_pick [0, 1, 2, 3, 4] [(4, _), (3, _), (0, _), (1, _), (2, _)] rfl ?_
          first
          | (rw [if_pos ⟨(kBd_iff t).mpr (hpm.symm.trans h23), (hbd (hpm.symm.trans h23)).mp h33⟩] at he
             exact ih (m + 1) (n + 1) (by omega) (by omega) (by simp at he; omega) (by omega))
          | (rw [if_neg (fun q => absurd ((hbd (hpm.symm.trans h23)).mpr q.2) (by omega))] at he
             exact ih (m + 1) n (by omega) (by omega) (by simp at he; omega) (by omega))
          | (rw [if_neg (fun q => h23 (hpm.trans ((kBd_iff t).mp q.1)))] at he
             exact ih (m + 1) n (by omega) (by omega) (by simp at he; omega) (by omega))
        · refine g_iconst (pc := 36) (v := nI 1) d_M_depth_36 (by decide) ?_
          refine g_goto (pc := 37) (tgt := 41) d_M_depth_37 (by decide) ?_
          refine g_nadd (pc := 41) d_M_depth_41 ?_
          refine g_istore_n (pc := 42) [(3, _), (4, _), (0, _), (1, _), (2, _)] d_M_depth_42 (by decide) rfl ?_
          refine g_niinc (pc := 43) (d := 1) [(4, _), (3, _), (0, _), (1, _), (2, _)] d_M_depth_43 rfl (by decide) rfl ?_
          refine g_goto (pc := 46) (tgt := 5) d_M_depth_46 (by decide) ?_
          refine g_pick [0, 1, 2, 3, 4] [(4, _), (3, _), (0, _), (1, _), (2, _)] rfl ?_
          first
          | (rw [if_pos ⟨(kBd_iff t).mpr (hpm.symm.trans h23), (hbd (hpm.symm.trans h23)).mp h33⟩] at he
             exact ih (m + 1) (n + 1) (by omega) (by omega) (by simp at he; omega) (by omega))
          | (rw [if_neg (fun q => absurd ((hbd (hpm.symm.trans h23)).mpr q.2) (by omega))] at he
             exact ih (m + 1) n (by omega) (by omega) (by simp at he; omega) (by omega))
          | (rw [if_neg (fun q => h23 (hpm.trans ((kBd_iff t).mp q.1)))] at he
             exact ih (m + 1) n (by omega) (by omega) (by simp at he; omega) (by omega))
  refine pC.of rfl (Nat.le_of_ble_eq_true rfl) ?_
  show pG m_M_depth τ _ 0 0 0 [(0, _), (1, _), (2, _)] [] _
  refine g_iconst (pc := 0) (v := nI 0) d_M_depth_0 (by decide) ?_
  refine g_istore_n (pc := 1) [(3, _), (0, _), (1, _), (2, _)] d_M_depth_1 (by decide) rfl ?_
  refine g_iload_n (pc := 2) d_M_depth_2 rfl ?_
  refine g_istore (pc := 3) [(4, _), (3, _), (0, _), (1, _), (2, _)] d_M_depth_3 (by decide) rfl ?_
  refine g_pick [0, 1, 2, 3, 4] [(4, _), (3, _), (0, _), (1, _), (2, _)] rfl ?_
  exact key _ 0 0 rfl (Nat.zero_le _) (by simp) (Nat.le_refl _)
set_option maxRecDepth 100000 in
set_option maxHeartbeats 4000000 in
theorem c_M_binder {τ : Nat × Nat} {a : Nat → Nat} {i : Nat → Int32} {r : Nat → Nat → Int32} {L : Nat → Nat → Int64} {z : Int64} {wr : pW} (p j x b : Nat) (row : List Nat) (h : MA (r 0) p row) (hj : row[j]? = some x) (hx2 : x / 512 = 2) (hb : (EP row j j)[x / 16 % 32]? = some b) : pC m_M_binder τ [.ref (a 0), .int (nI (p + j))] (wM a i r L z ++ wr) ((fun rr w2 => rr = some (.int (nI b)) ∧ w2 = wM a i r L z ++ wr)) := by
  have h30 := h.2.2.2.2
  have hk := h.2.2.2.1
  have hjl := (List.getElem?_eq_some_iff.mp hj).1
  obtain ⟨q1, q2, q3, q4⟩ := h.get hj
  have hmx : mu x = 256 + x / 16 % 32 := by unfold mu; rw [hx2]; rfl
  have hbl := (List.getElem?_eq_some_iff.mp hb).1
  have hEl := @EP_len row j j
  have key : ∀ (m l : Nat), m < j → l < 1000 → (EP row j (m + 1))[l]? = some b → pG m_M_binder τ (fun rr w2 => rr = some (.int (nI b)) ∧ w2 = wM a i r L z ++ wr) 0 0 15 [(3, .int (nI (p + m))), (2, .int (nI l)), (0, .ref (a 0)), (1, .int (nI (p + j)))] [] (wM a i r L z ++ wr) := by
    intro m
    induction m with
    | zero =>
      intro l hmj hl hbm
      have hm1 : 0 < row.length := by omega
      obtain ⟨X, Y, hd, hX⟩ := h.at hm1
      obtain ⟨t, ht⟩ := get_of hm1
      obtain ⟨ht1, ht2, ht3, ht4⟩ := h.get ht
      have hpm := mPt_mu ht2
      have hmp : mPt (mu t) ≤ 2 := by rw [hpm]; exact kPt_le t
      have hdr : row.drop (0) = t :: row.drop (0 + 1) := by
        rw [List.drop_eq_getElem_cons hm1]
        rw [List.getElem?_eq_getElem hm1] at ht
        rw [Option.some.inj ht]
      have hXl := hX.2.2.2.2
      have hbd : kPt t = 1 → (p + (0) + X.length > p + j ↔ j - (0 + 1) < tl (row.drop (0 + 1))) := by
        intro hk1
        have hXp := hX.2.1
        cases X with
        | nil => exact absurd hXp (by intro e; cases e)
        | cons u X =>
          rw [hdr] at hd
          obtain ⟨e1, e2⟩ := List.cons.inj hd
          have e2 : row.drop (0 + 1) = X ++ Y := e2
          subst e1
          have hX2 : Pol (0 + kPt t) X := hXp
          rw [hk1] at hX2
          rw [e2, tl_app Y hX2, List.length_cons]
          omega
      rw [EP_peel hmj ht] at hbm
      refine g_aload_n (pc := 15) d_M_binder_15 rfl ?_
      refine gm_row (pc := 16) d_M_binder_16 lf_M_7 ?_
      refine g_iload_n (pc := 19) d_M_binder_19 rfl ?_
      refine glm_row (pc := 20) (v := nI (mu t)) d_M_binder_20 (vp_in_nI (by omega) (by decide)) (by rw [nI_clamp (by omega)]; exact ht1) ?_
      refine g_callS (M' := m_M_parts) (pc := 21) d_M_binder_21 lm_M_51 (c_M_parts (mu t) (by omega)) v_M_parts rfl (by decide) rfl (Nat.le_of_ble_eq_true rfl) ?_
      rintro _ _ ⟨rfl, rfl⟩
      show pG m_M_binder τ _ 0 0 24 _ (.int _ :: _) _
      refine g_iconst (pc := 24) (v := nI 1) d_M_binder_24 (by decide) ?_
      refine g_nicmp_ne (pc := 25) (tgt := 41) d_M_binder_25 (by decide) (by omega) (by omega) (fun h25 => ?_) (fun h25 => ?_)
      · exfalso
        rw [EP_0, List.append_nil] at hbm
        first
        | (rw [if_pos ⟨(kBd_iff t).mpr (hpm.symm.trans h25), (hbd (hpm.symm.trans h25)).mp h34⟩] at hbm
           rw [List.getElem?_eq_none (by simp; omega)] at hbm
           cases hbm)
        | (rw [if_neg (fun q => absurd ((hbd (hpm.symm.trans h25)).mpr q.2) (by omega))] at hbm
           simp at hbm)
        | (rw [if_neg (fun q => h25 (hpm.trans ((kBd_iff t).mp q.1)))] at hbm
           simp at hbm)
      · refine g_aload_n (pc := 28) d_M_binder_28 rfl ?_
        refine g_iload_n (pc := 29) d_M_binder_29 rfl ?_
        refine g_callV (M' := m_M_end) (pc := 30) (q := 0) d_M_binder_30 lm_M_55 (c_M_end (p + (0)) X hX) v_M_end rfl rfl rfl (by decide) rfl (Nat.le_of_ble_eq_true rfl) ?_
        rintro _ _ ⟨rfl, rfl⟩
        show pG m_M_binder τ _ 0 0 33 _ (.int _ :: _) _
        refine g_iload_n (pc := 33) d_M_binder_33 rfl ?_
        refine g_nicmp_le (pc := 34) (tgt := 41) d_M_binder_34 (by decide) (by omega) (by omega) (fun h34 => ?_) (fun h34 => ?_)
        · exfalso
          rw [EP_0, List.append_nil] at hbm
          first
          | (rw [if_pos ⟨(kBd_iff t).mpr (hpm.symm.trans h25), (hbd (hpm.symm.trans h25)).mp h34⟩] at hbm
             rw [List.getElem?_eq_none (by simp; omega)] at hbm
             cases hbm)
          | (rw [if_neg (fun q => absurd ((hbd (hpm.symm.trans h25)).mpr q.2) (by omega))] at hbm
             simp at hbm)
          | (rw [if_neg (fun q => h25 (hpm.trans ((kBd_iff t).mp q.1)))] at hbm
             simp at hbm)
        · refine g_iload_n (pc := 37) d_M_binder_37 rfl ?_
          refine g_nif_le (pc := 38) (tgt := 77) d_M_binder_38 (by decide) (by omega) (fun h38 => ?_) (fun h38 => ?_)
          · refine g_aload_n (pc := 77) d_M_binder_77 rfl ?_
            refine gm_row (pc := 78) d_M_binder_78 lf_M_7 ?_
            refine g_iload_n (pc := 81) d_M_binder_81 rfl ?_
            refine glm_row (pc := 82) (v := nI (mu t)) d_M_binder_82 (vp_in_nI (by omega) (by decide)) (by rw [nI_clamp (by omega)]; exact ht1) ?_
            refine g_bipush (pc := 83) (v := nI 15) d_M_binder_83 (by decide) ?_
            refine g_iand (pc := 85) d_M_binder_85 ?_
            refine g_iret (pc := 86) d_M_binder_86 rfl (Nat.le_refl _) (Nat.le_refl _) ?_
            rw [if_pos ⟨(kBd_iff t).mpr (hpm.symm.trans h25), (hbd (hpm.symm.trans h25)).mp h34⟩] at hbm
            have hl0 : l = 0 := by omega
            subst hl0
            have hbt : t / 16 % 32 = b := by simpa using hbm
            refine ⟨congrArg (fun v => some (Value.int v)) ?_, rfl⟩
            rw [pk_andN (by omega) 4 (by decide)]
            exact congrArg nI (by rw [← hbt]; exact (mu_bd ht2 ((kBd_iff t).mpr (hpm.symm.trans h25))).1)
          · exfalso
            rw [EP_0, List.append_nil] at hbm
            first
            | (rw [if_pos ⟨(kBd_iff t).mpr (hpm.symm.trans h25), (hbd (hpm.symm.trans h25)).mp h34⟩] at hbm
               rw [List.getElem?_eq_none (by simp; omega)] at hbm
               cases hbm)
            | (rw [if_neg (fun q => absurd ((hbd (hpm.symm.trans h25)).mpr q.2) (by omega))] at hbm
               simp at hbm)
            | (rw [if_neg (fun q => h25 (hpm.trans ((kBd_iff t).mp q.1)))] at hbm
               simp at hbm)
    | succ m ih =>
      intro l hmj hl hbm
      have hm1 : m + 1 < row.length := by omega
      obtain ⟨X, Y, hd, hX⟩ := h.at hm1
      obtain ⟨t, ht⟩ := get_of hm1
      obtain ⟨ht1, ht2, ht3, ht4⟩ := h.get ht
      have hpm := mPt_mu ht2
      have hmp : mPt (mu t) ≤ 2 := by rw [hpm]; exact kPt_le t
      have hdr : row.drop (m + 1) = t :: row.drop (m + 1 + 1) := by
        rw [List.drop_eq_getElem_cons hm1]
        rw [List.getElem?_eq_getElem hm1] at ht
        rw [Option.some.inj ht]
      have hXl := hX.2.2.2.2
      have hbd : kPt t = 1 → (p + (m + 1) + X.length > p + j ↔ j - (m + 1 + 1) < tl (row.drop (m + 1 + 1))) := by
        intro hk1
        have hXp := hX.2.1
        cases X with
        | nil => exact absurd hXp (by intro e; cases e)
        | cons u X =>
          rw [hdr] at hd
          obtain ⟨e1, e2⟩ := List.cons.inj hd
          have e2 : row.drop (m + 1 + 1) = X ++ Y := e2
          subst e1
          have hX2 : Pol (0 + kPt t) X := hXp
          rw [hk1] at hX2
          rw [e2, tl_app Y hX2, List.length_cons]
          omega
      rw [EP_peel hmj ht] at hbm
      refine g_aload_n (pc := 15) d_M_binder_15 rfl ?_
      refine gm_row (pc := 16) d_M_binder_16 lf_M_7 ?_
      refine g_iload_n (pc := 19) d_M_binder_19 rfl ?_
      refine glm_row (pc := 20) (v := nI (mu t)) d_M_binder_20 (vp_in_nI (by omega) (by decide)) (by rw [nI_clamp (by omega)]; exact ht1) ?_
      refine g_callS (M' := m_M_parts) (pc := 21) d_M_binder_21 lm_M_51 (c_M_parts (mu t) (by omega)) v_M_parts rfl (by decide) rfl (Nat.le_of_ble_eq_true rfl) ?_
      rintro _ _ ⟨rfl, rfl⟩
      show pG m_M_binder τ _ 0 0 24 _ (.int _ :: _) _
      refine g_iconst (pc := 24) (v := nI 1) d_M_binder_24 (by decide) ?_
      refine g_nicmp_ne (pc := 25) (tgt := 41) d_M_binder_25 (by decide) (by omega) (by omega) (fun h25 => ?_) (fun h25 => ?_)
      · refine g_aload_n (pc := 41) d_M_binder_41 rfl ?_
        refine gm_row (pc := 42) d_M_binder_42 lf_M_7 ?_
        refine g_iload_n (pc := 45) d_M_binder_45 rfl ?_
        refine glm_row (pc := 46) (v := nI (mu t)) d_M_binder_46 (vp_in_nI (by omega) (by decide)) (by rw [nI_clamp (by omega)]; exact ht1) ?_
        refine g_callS (M' := m_M_parts) (pc := 47) d_M_binder_47 lm_M_51 (c_M_parts (mu t) (by omega)) v_M_parts rfl (by decide) rfl (Nat.le_of_ble_eq_true rfl) ?_
        rintro _ _ ⟨rfl, rfl⟩
        show pG m_M_binder τ _ 0 0 50 _ (.int _ :: _) _
        refine g_iconst (pc := 50) (v := nI 1) d_M_binder_50 (by decide) ?_
        refine g_nicmp_ne (pc := 51) (tgt := 69) d_M_binder_51 (by decide) (by omega) (by omega) (fun h51 => ?_) (fun h51 => ?_)
        · refine g_iload_n (pc := 69) d_M_binder_69 rfl ?_
          refine g_istore_n (pc := 70) [(2, _), (3, _), (0, _), (1, _)] d_M_binder_70 (by decide) rfl ?_
          refine g_iinc (pc := 71) (v := nI (p + m)) [(3, _), (2, _), (0, _), (1, _)] d_M_binder_71 rfl (by rw [show p + (m + 1) = (p + m) + 1 by omega]; exact pk_m1 (p + m)) (by decide) rfl ?_
          refine g_goto (pc := 74) (tgt := 15) d_M_binder_74 (by decide) ?_
          refine g_pick [0, 1, 2, 3] [(3, _), (2, _), (0, _), (1, _)] rfl ?_
          first
          | (exfalso; omega)
          | (rw [if_pos ⟨(kBd_iff t).mpr (hpm.symm.trans h25), (hbd (hpm.symm.trans h25)).mp h34⟩] at hbm
             exact ih (l - 1) (by omega) (by omega) (by
               rw [List.getElem?_append_right (by simp; omega)] at hbm
               exact hbm))
          | (rw [if_neg (fun q => absurd ((hbd (hpm.symm.trans h25)).mpr q.2) (by omega))] at hbm
             exact ih l (by omega) (by omega) hbm)
          | (rw [if_neg (fun q => h25 (hpm.trans ((kBd_iff t).mp q.1)))] at hbm
             exact ih l (by omega) (by omega) hbm)
        · refine g_aload_n (pc := 54) d_M_binder_54 rfl ?_
          refine g_iload_n (pc := 55) d_M_binder_55 rfl ?_
          refine g_callV (M' := m_M_end) (pc := 56) (q := 0) d_M_binder_56 lm_M_55 (c_M_end (p + (m + 1)) X hX) v_M_end rfl rfl rfl (by decide) rfl (Nat.le_of_ble_eq_true rfl) ?_
          rintro _ _ ⟨rfl, rfl⟩
          show pG m_M_binder τ _ 0 0 59 _ (.int _ :: _) _
          refine g_iload_n (pc := 59) d_M_binder_59 rfl ?_
          refine g_nicmp_le (pc := 60) (tgt := 69) d_M_binder_60 (by decide) (by omega) (by omega) (fun h60 => ?_) (fun h60 => ?_)
          · refine g_iload_n (pc := 69) d_M_binder_69 rfl ?_
            refine g_istore_n (pc := 70) [(2, _), (3, _), (0, _), (1, _)] d_M_binder_70 (by decide) rfl ?_
            refine g_iinc (pc := 71) (v := nI (p + m)) [(3, _), (2, _), (0, _), (1, _)] d_M_binder_71 rfl (by rw [show p + (m + 1) = (p + m) + 1 by omega]; exact pk_m1 (p + m)) (by decide) rfl ?_
            refine g_goto (pc := 74) (tgt := 15) d_M_binder_74 (by decide) ?_
            refine g_pick [0, 1, 2, 3] [(3, _), (2, _), (0, _), (1, _)] rfl ?_
            first
            | (exfalso; omega)
            | (rw [if_pos ⟨(kBd_iff t).mpr (hpm.symm.trans h25), (hbd (hpm.symm.trans h25)).mp h34⟩] at hbm
               exact ih (l - 1) (by omega) (by omega) (by
                 rw [List.getElem?_append_right (by simp; omega)] at hbm
                 exact hbm))
            | (rw [if_neg (fun q => absurd ((hbd (hpm.symm.trans h25)).mpr q.2) (by omega))] at hbm
               exact ih l (by omega) (by omega) hbm)
            | (rw [if_neg (fun q => h25 (hpm.trans ((kBd_iff t).mp q.1)))] at hbm
               exact ih l (by omega) (by omega) hbm)
          · refine g_iload_n (pc := 63) d_M_binder_63 rfl ?_
            refine g_iconst (pc := 64) (v := nI 1) d_M_binder_64 (by decide) ?_
            refine g_nsub (pc := 65) d_M_binder_65 (by omega) ?_
            refine g_goto (pc := 66) (tgt := 70) d_M_binder_66 (by decide) ?_
            refine g_istore_n (pc := 70) [(2, _), (3, _), (0, _), (1, _)] d_M_binder_70 (by decide) rfl ?_
            refine g_iinc (pc := 71) (v := nI (p + m)) [(3, _), (2, _), (0, _), (1, _)] d_M_binder_71 rfl (by rw [show p + (m + 1) = (p + m) + 1 by omega]; exact pk_m1 (p + m)) (by decide) rfl ?_
            refine g_goto (pc := 74) (tgt := 15) d_M_binder_74 (by decide) ?_
            refine g_pick [0, 1, 2, 3] [(3, _), (2, _), (0, _), (1, _)] rfl ?_
            first
            | (exfalso; omega)
            | (rw [if_pos ⟨(kBd_iff t).mpr (hpm.symm.trans h25), (hbd (hpm.symm.trans h25)).mp h34⟩] at hbm
               exact ih (l - 1) (by omega) (by omega) (by
                 rw [List.getElem?_append_right (by simp; omega)] at hbm
                 exact hbm))
            | (rw [if_neg (fun q => absurd ((hbd (hpm.symm.trans h25)).mpr q.2) (by omega))] at hbm
               exact ih l (by omega) (by omega) hbm)
            | (rw [if_neg (fun q => h25 (hpm.trans ((kBd_iff t).mp q.1)))] at hbm
               exact ih l (by omega) (by omega) hbm)
      · refine g_aload_n (pc := 28) d_M_binder_28 rfl ?_
        refine g_iload_n (pc := 29) d_M_binder_29 rfl ?_
        refine g_callV (M' := m_M_end) (pc := 30) (q := 0) d_M_binder_30 lm_M_55 (c_M_end (p + (m + 1)) X hX) v_M_end rfl rfl rfl (by decide) rfl (Nat.le_of_ble_eq_true rfl) ?_
        rintro _ _ ⟨rfl, rfl⟩
        show pG m_M_binder τ _ 0 0 33 _ (.int _ :: _) _
        refine g_iload_n (pc := 33) d_M_binder_33 rfl ?_
        refine g_nicmp_le (pc := 34) (tgt := 41) d_M_binder_34 (by decide) (by omega) (by omega) (fun h34 => ?_) (fun h34 => ?_)
        · refine g_aload_n (pc := 41) d_M_binder_41 rfl ?_
          refine gm_row (pc := 42) d_M_binder_42 lf_M_7 ?_
          refine g_iload_n (pc := 45) d_M_binder_45 rfl ?_
          refine glm_row (pc := 46) (v := nI (mu t)) d_M_binder_46 (vp_in_nI (by omega) (by decide)) (by rw [nI_clamp (by omega)]; exact ht1) ?_
          refine g_callS (M' := m_M_parts) (pc := 47) d_M_binder_47 lm_M_51 (c_M_parts (mu t) (by omega)) v_M_parts rfl (by decide) rfl (Nat.le_of_ble_eq_true rfl) ?_
          rintro _ _ ⟨rfl, rfl⟩
          show pG m_M_binder τ _ 0 0 50 _ (.int _ :: _) _
          refine g_iconst (pc := 50) (v := nI 1) d_M_binder_50 (by decide) ?_
          refine g_nicmp_ne (pc := 51) (tgt := 69) d_M_binder_51 (by decide) (by omega) (by omega) (fun h51 => ?_) (fun h51 => ?_)
          · refine g_iload_n (pc := 69) d_M_binder_69 rfl ?_
            refine g_istore_n (pc := 70) [(2, _), (3, _), (0, _), (1, _)] d_M_binder_70 (by decide) rfl ?_
            refine g_iinc (pc := 71) (v := nI (p + m)) [(3, _), (2, _), (0, _), (1, _)] d_M_binder_71 rfl (by rw [show p + (m + 1) = (p + m) + 1 by omega]; exact pk_m1 (p + m)) (by decide) rfl ?_
            refine g_goto (pc := 74) (tgt := 15) d_M_binder_74 (by decide) ?_
            refine g_pick [0, 1, 2, 3] [(3, _), (2, _), (0, _), (1, _)] rfl ?_
            first
            | (exfalso; omega)
            | (rw [if_pos ⟨(kBd_iff t).mpr (hpm.symm.trans h25), (hbd (hpm.symm.trans h25)).mp h34⟩] at hbm
               exact ih (l - 1) (by omega) (by omega) (by
                 rw [List.getElem?_append_right (by simp; omega)] at hbm
                 exact hbm))
            | (rw [if_neg (fun q => absurd ((hbd (hpm.symm.trans h25)).mpr q.2) (by omega))] at hbm
               exact ih l (by omega) (by omega) hbm)
            | (rw [if_neg (fun q => h25 (hpm.trans ((kBd_iff t).mp q.1)))] at hbm
               exact ih l (by omega) (by omega) hbm)
          · refine g_aload_n (pc := 54) d_M_binder_54 rfl ?_
            refine g_iload_n (pc := 55) d_M_binder_55 rfl ?_
            refine g_callV (M' := m_M_end) (pc := 56) (q := 0) d_M_binder_56 lm_M_55 (c_M_end (p + (m + 1)) X hX) v_M_end rfl rfl rfl (by decide) rfl (Nat.le_of_ble_eq_true rfl) ?_
            rintro _ _ ⟨rfl, rfl⟩
            show pG m_M_binder τ _ 0 0 59 _ (.int _ :: _) _
            refine g_iload_n (pc := 59) d_M_binder_59 rfl ?_
            refine g_nicmp_le (pc := 60) (tgt := 69) d_M_binder_60 (by decide) (by omega) (by omega) (fun h60 => ?_) (fun h60 => ?_)
            · refine g_iload_n (pc := 69) d_M_binder_69 rfl ?_
              refine g_istore_n (pc := 70) [(2, _), (3, _), (0, _), (1, _)] d_M_binder_70 (by decide) rfl ?_
              refine g_iinc (pc := 71) (v := nI (p + m)) [(3, _), (2, _), (0, _), (1, _)] d_M_binder_71 rfl (by rw [show p + (m + 1) = (p + m) + 1 by omega]; exact pk_m1 (p + m)) (by decide) rfl ?_
              refine g_goto (pc := 74) (tgt := 15) d_M_binder_74 (by decide) ?_
              refine g_pick [0, 1, 2, 3] [(3, _), (2, _), (0, _), (1, _)] rfl ?_
              first
              | (exfalso; omega)
              | (rw [if_pos ⟨(kBd_iff t).mpr (hpm.symm.trans h25), (hbd (hpm.symm.trans h25)).mp h34⟩] at hbm
                 exact ih (l - 1) (by omega) (by omega) (by
                   rw [List.getElem?_append_right (by simp; omega)] at hbm
                   exact hbm))
              | (rw [if_neg (fun q => absurd ((hbd (hpm.symm.trans h25)).mpr q.2) (by omega))] at hbm
                 exact ih l (by omega) (by omega) hbm)
              | (rw [if_neg (fun q => h25 (hpm.trans ((kBd_iff t).mp q.1)))] at hbm
                 exact ih l (by omega) (by omega) hbm)
            · refine g_iload_n (pc := 63) d_M_binder_63 rfl ?_
              refine g_iconst (pc := 64) (v := nI 1) d_M_binder_64 (by decide) ?_
              refine g_nsub (pc := 65) d_M_binder_65 (by omega) ?_
              refine g_goto (pc := 66) (tgt := 70) d_M_binder_66 (by decide) ?_
              refine g_istore_n (pc := 70) [(2, _), (3, _), (0, _), (1, _)] d_M_binder_70 (by decide) rfl ?_
              refine g_iinc (pc := 71) (v := nI (p + m)) [(3, _), (2, _), (0, _), (1, _)] d_M_binder_71 rfl (by rw [show p + (m + 1) = (p + m) + 1 by omega]; exact pk_m1 (p + m)) (by decide) rfl ?_
              refine g_goto (pc := 74) (tgt := 15) d_M_binder_74 (by decide) ?_
              refine g_pick [0, 1, 2, 3] [(3, _), (2, _), (0, _), (1, _)] rfl ?_
              first
              | (exfalso; omega)
              | (rw [if_pos ⟨(kBd_iff t).mpr (hpm.symm.trans h25), (hbd (hpm.symm.trans h25)).mp h34⟩] at hbm
                 exact ih (l - 1) (by omega) (by omega) (by
                   rw [List.getElem?_append_right (by simp; omega)] at hbm
                   exact hbm))
              | (rw [if_neg (fun q => absurd ((hbd (hpm.symm.trans h25)).mpr q.2) (by omega))] at hbm
                 exact ih l (by omega) (by omega) hbm)
              | (rw [if_neg (fun q => h25 (hpm.trans ((kBd_iff t).mp q.1)))] at hbm
                 exact ih l (by omega) (by omega) hbm)
        · refine g_iload_n (pc := 37) d_M_binder_37 rfl ?_
          refine g_nif_le (pc := 38) (tgt := 77) d_M_binder_38 (by decide) (by omega) (fun h38 => ?_) (fun h38 => ?_)
          · refine g_aload_n (pc := 77) d_M_binder_77 rfl ?_
            refine gm_row (pc := 78) d_M_binder_78 lf_M_7 ?_
            refine g_iload_n (pc := 81) d_M_binder_81 rfl ?_
            refine glm_row (pc := 82) (v := nI (mu t)) d_M_binder_82 (vp_in_nI (by omega) (by decide)) (by rw [nI_clamp (by omega)]; exact ht1) ?_
            refine g_bipush (pc := 83) (v := nI 15) d_M_binder_83 (by decide) ?_
            refine g_iand (pc := 85) d_M_binder_85 ?_
            refine g_iret (pc := 86) d_M_binder_86 rfl (Nat.le_refl _) (Nat.le_refl _) ?_
            rw [if_pos ⟨(kBd_iff t).mpr (hpm.symm.trans h25), (hbd (hpm.symm.trans h25)).mp h34⟩] at hbm
            have hl0 : l = 0 := by omega
            subst hl0
            have hbt : t / 16 % 32 = b := by simpa using hbm
            refine ⟨congrArg (fun v => some (Value.int v)) ?_, rfl⟩
            rw [pk_andN (by omega) 4 (by decide)]
            exact congrArg nI (by rw [← hbt]; exact (mu_bd ht2 ((kBd_iff t).mpr (hpm.symm.trans h25))).1)
          · refine g_aload_n (pc := 41) d_M_binder_41 rfl ?_
            refine gm_row (pc := 42) d_M_binder_42 lf_M_7 ?_
            refine g_iload_n (pc := 45) d_M_binder_45 rfl ?_
            refine glm_row (pc := 46) (v := nI (mu t)) d_M_binder_46 (vp_in_nI (by omega) (by decide)) (by rw [nI_clamp (by omega)]; exact ht1) ?_
            refine g_callS (M' := m_M_parts) (pc := 47) d_M_binder_47 lm_M_51 (c_M_parts (mu t) (by omega)) v_M_parts rfl (by decide) rfl (Nat.le_of_ble_eq_true rfl) ?_
            rintro _ _ ⟨rfl, rfl⟩
            show pG m_M_binder τ _ 0 0 50 _ (.int _ :: _) _
            refine g_iconst (pc := 50) (v := nI 1) d_M_binder_50 (by decide) ?_
            refine g_nicmp_ne (pc := 51) (tgt := 69) d_M_binder_51 (by decide) (by omega) (by omega) (fun h51 => ?_) (fun h51 => ?_)
            · refine g_iload_n (pc := 69) d_M_binder_69 rfl ?_
              refine g_istore_n (pc := 70) [(2, _), (3, _), (0, _), (1, _)] d_M_binder_70 (by decide) rfl ?_
              refine g_iinc (pc := 71) (v := nI (p + m)) [(3, _), (2, _), (0, _), (1, _)] d_M_binder_71 rfl (by rw [show p + (m + 1) = (p + m) + 1 by omega]; exact pk_m1 (p + m)) (by decide) rfl ?_
              refine g_goto (pc := 74) (tgt := 15) d_M_binder_74 (by decide) ?_
              refine g_pick [0, 1, 2, 3] [(3, _), (2, _), (0, _), (1, _)] rfl ?_
              first
              | (exfalso; omega)
              | (rw [if_pos ⟨(kBd_iff t).mpr (hpm.symm.trans h25), (hbd (hpm.symm.trans h25)).mp h34⟩] at hbm
                 exact ih (l - 1) (by omega) (by omega) (by
                   rw [List.getElem?_append_right (by simp; omega)] at hbm
                   exact hbm))
              | (rw [if_neg (fun q => absurd ((hbd (hpm.symm.trans h25)).mpr q.2) (by omega))] at hbm
                 exact ih l (by omega) (by omega) hbm)
              | (rw [if_neg (fun q => h25 (hpm.trans ((kBd_iff t).mp q.1)))] at hbm
                 exact ih l (by omega) (by omega) hbm)
            · refine g_aload_n (pc := 54) d_M_binder_54 rfl ?_
              refine g_iload_n (pc := 55) d_M_binder_55 rfl ?_
              refine g_callV (M' := m_M_end) (pc := 56) (q := 0) d_M_binder_56 lm_M_55 (c_M_end (p + (m + 1)) X hX) v_M_end rfl rfl rfl (by decide) rfl (Nat.le_of_ble_eq_true rfl) ?_
              rintro _ _ ⟨rfl, rfl⟩
              show pG m_M_binder τ _ 0 0 59 _ (.int _ :: _) _
              refine g_iload_n (pc := 59) d_M_binder_59 rfl ?_
              refine g_nicmp_le (pc := 60) (tgt := 69) d_M_binder_60 (by decide) (by omega) (by omega) (fun h60 => ?_) (fun h60 => ?_)
              · refine g_iload_n (pc := 69) d_M_binder_69 rfl ?_
                refine g_istore_n (pc := 70) [(2, _), (3, _), (0, _), (1, _)] d_M_binder_70 (by decide) rfl ?_
                refine g_iinc (pc := 71) (v := nI (p + m)) [(3, _), (2, _), (0, _), (1, _)] d_M_binder_71 rfl (by rw [show p + (m + 1) = (p + m) + 1 by omega]; exact pk_m1 (p + m)) (by decide) rfl ?_
                refine g_goto (pc := 74) (tgt := 15) d_M_binder_74 (by decide) ?_
                refine g_pick [0, 1, 2, 3] [(3, _), (2, _), (0, _), (1, _)] rfl ?_
                first
                | (exfalso; omega)
                | (rw [if_pos ⟨(kBd_iff t).mpr (hpm.symm.trans h25), (hbd (hpm.symm.trans h25)).mp h34⟩] at hbm
                   exact ih (l - 1) (by omega) (by omega) (by
                     rw [List.getElem?_append_right (by simp; omega)] at hbm
                     exact hbm))
                | (rw [if_neg (fun q => absurd ((hbd (hpm.symm.trans h25)).mpr q.2) (by omega))] at hbm
                   exact ih l (by omega) (by omega) hbm)
                | (rw [if_neg (fun q => h25 (hpm.trans ((kBd_iff t).mp q.1)))] at hbm
                   exact ih l (by omega) (by omega) hbm)
              · refine g_iload_n (pc := 63) d_M_binder_63 rfl ?_
                refine g_iconst (pc := 64) (v := nI 1) d_M_binder_64 (by decide) ?_
                refine g_nsub (pc := 65) d_M_binder_65 (by omega) ?_
                refine g_goto (pc := 66) (tgt := 70) d_M_binder_66 (by decide) ?_
                refine g_istore_n (pc := 70) [(2, _), (3, _), (0, _), (1, _)] d_M_binder_70 (by decide) rfl ?_
                refine g_iinc (pc := 71) (v := nI (p + m)) [(3, _), (2, _), (0, _), (1, _)] d_M_binder_71 rfl (by rw [show p + (m + 1) = (p + m) + 1 by omega]; exact pk_m1 (p + m)) (by decide) rfl ?_
                refine g_goto (pc := 74) (tgt := 15) d_M_binder_74 (by decide) ?_
                refine g_pick [0, 1, 2, 3] [(3, _), (2, _), (0, _), (1, _)] rfl ?_
                first
                | (exfalso; omega)
                | (rw [if_pos ⟨(kBd_iff t).mpr (hpm.symm.trans h25), (hbd (hpm.symm.trans h25)).mp h34⟩] at hbm
                   exact ih (l - 1) (by omega) (by omega) (by
                     rw [List.getElem?_append_right (by simp; omega)] at hbm
                     exact hbm))
                | (rw [if_neg (fun q => absurd ((hbd (hpm.symm.trans h25)).mpr q.2) (by omega))] at hbm
                   exact ih l (by omega) (by omega) hbm)
                | (rw [if_neg (fun q => h25 (hpm.trans ((kBd_iff t).mp q.1)))] at hbm
                   exact ih l (by omega) (by omega) hbm)
  obtain ⟨j0, rfl⟩ : ∃ j0, j = j0 + 1 := ⟨j - 1, by omega⟩
  refine pC.of rfl (Nat.le_of_ble_eq_true rfl) ?_
  show pG m_M_binder τ _ 0 0 0 [(0, _), (1, _)] [] _
  refine g_aload_n (pc := 0) d_M_binder_0 rfl ?_
  refine gm_row (pc := 1) d_M_binder_1 lf_M_7 ?_
  refine g_iload_n (pc := 4) d_M_binder_4 rfl ?_
  refine glm_row (pc := 5) (v := nI (mu x)) d_M_binder_5 (vp_in_nI (by omega) (by decide)) (by rw [nI_clamp (by omega)]; exact q1) ?_
  refine g_sipush (pc := 6) (v := nI 256) d_M_binder_6 (by decide) ?_
  refine g_nsub (pc := 9) d_M_binder_9 (by omega) ?_
  rw [show mu x - 256 = x / 16 % 32 by omega]
  refine g_istore_n (pc := 10) [(2, _), (0, _), (1, _)] d_M_binder_10 (by decide) rfl ?_
  refine g_iload_n (pc := 11) d_M_binder_11 rfl ?_
  refine g_iconst (pc := 12) (v := nI 1) d_M_binder_12 (by decide) ?_
  refine g_nsub (pc := 13) d_M_binder_13 (by omega) ?_
  rw [show p + (j0 + 1) - 1 = p + j0 by omega]
  refine g_istore_n (pc := 14) [(3, _), (2, _), (0, _), (1, _)] d_M_binder_14 (by decide) rfl ?_
  exact key j0 _ (by omega) (by omega) hb
