/-! Shelf: contracts of the readers. By wip/whole/m_shelf.py -/
set_option maxRecDepth 100000 in
set_option maxHeartbeats 4000000 in
theorem c_S_count {τ : Nat × Nat} {a : Nat → Nat} {i : Nat → Int32} {r : Nat → Nat → Int32} {L : Nat → Int64} {wr : pW}  : pC m_S_count τ [.ref (a 2)] (wX a i r L ++ wr) (fun rr w2 => rr = some (.int (i 1)) ∧ w2 = wX a i r L ++ wr) := by
  refine pC.of rfl (Nat.le_of_ble_eq_true rfl) ?_
  show pG m_S_count τ _ 0 0 0 [(0, _)] [] _
  refine g_aload_n (pc := 0) d_S_count_0 rfl ?_
  refine gx_S_count (pc := 1) d_S_count_1 lf_S_18 ?_
  refine g_iret (pc := 4) d_S_count_4 rfl (Nat.le_refl _) (Nat.le_refl _) ?_
  exact ⟨rfl, rfl⟩
set_option maxRecDepth 100000 in
set_option maxHeartbeats 4000000 in
theorem c_S_has {τ : Nat × Nat} {a : Nat → Nat} {i : Nat → Int32} {r : Nat → Nat → Int32} {L : Nat → Int64} {wr : pW} (c : Nat) (hc : i 1 = nI c) (hb : c < 2 ^ 31) (x : Int32) : pC m_S_has τ [.ref (a 2), .int x] (wX a i r L ++ wr) (fun rr w2 => rr = some (.int (bI (ixB x c))) ∧ w2 = wX a i r L ++ wr) := by
  refine pC.of rfl (Nat.le_of_ble_eq_true rfl) ?_
  show pG m_S_has τ _ 0 0 0 [(0, _), (1, _)] [] _
  refine g_iload_n (pc := 0) d_S_has_0 rfl ?_
  refine g_if_lt (pc := 1) (tgt := 16) d_S_has_1 (by decide) (fun h1 => ?_) (fun h1 => ?_)
  · refine g_iconst (pc := 16) (v := nI 0) d_S_has_16 (by decide) ?_
    refine g_zret (pc := 17) d_S_has_17 rfl (by decide) (Nat.le_refl _) (Nat.le_refl _) ?_
    refine ⟨congrArg (fun v => some (Value.int v)) ?_, rfl⟩
    first | exact bI_0 (ixB_neg (by assumption)) | exact bI_0 (ixB_big hb (by assumption)) | exact bI_1 (ixB_in hb (by assumption) (by assumption))
  · refine g_iload_n (pc := 4) d_S_has_4 rfl ?_
    refine g_aload_n (pc := 5) d_S_has_5 rfl ?_
    refine gx_S_count (pc := 6) d_S_has_6 lf_S_18 ?_
    rw [hc]
    refine g_icmp_ge (pc := 9) (tgt := 16) d_S_has_9 (by decide) (fun h9 => ?_) (fun h9 => ?_)
    · refine g_iconst (pc := 16) (v := nI 0) d_S_has_16 (by decide) ?_
      refine g_zret (pc := 17) d_S_has_17 rfl (by decide) (Nat.le_refl _) (Nat.le_refl _) ?_
      refine ⟨congrArg (fun v => some (Value.int v)) ?_, rfl⟩
      first | exact bI_0 (ixB_neg (by assumption)) | exact bI_0 (ixB_big hb (by assumption)) | exact bI_1 (ixB_in hb (by assumption) (by assumption))
    · refine g_iconst (pc := 12) (v := nI 1) d_S_has_12 (by decide) ?_
      refine g_goto (pc := 13) (tgt := 17) d_S_has_13 (by decide) ?_
      refine g_zret (pc := 17) d_S_has_17 rfl (by decide) (Nat.le_refl _) (Nat.le_refl _) ?_
      refine ⟨congrArg (fun v => some (Value.int v)) ?_, rfl⟩
      first | exact bI_0 (ixB_neg (by assumption)) | exact bI_0 (ixB_big hb (by assumption)) | exact bI_1 (ixB_in hb (by assumption) (by assumption))
set_option maxRecDepth 100000 in
set_option maxHeartbeats 4000000 in
theorem c_S_start {τ : Nat × Nat} {a : Nat → Nat} {i : Nat → Int32} {r : Nat → Nat → Int32} {L : Nat → Int64} {wr : pW} (t : Nat) : pC m_S_start τ [.ref (a 2), .int (nI t)] (wX a i r L ++ wr) (fun rr w2 => rr = some (.int (nI (30 * t))) ∧ w2 = wX a i r L ++ wr) := by
  refine pC.of rfl (Nat.le_of_ble_eq_true rfl) ?_
  show pG m_S_start τ _ 0 0 0 [(0, _), (1, _)] [] _
  refine g_iload_n (pc := 0) d_S_start_0 rfl ?_
  refine g_bipush (pc := 1) (v := nI 30) d_S_start_1 (by decide) ?_
  refine g_nmul (pc := 3) d_S_start_3 ?_
  refine g_iret (pc := 4) d_S_start_4 rfl (Nat.le_refl _) (Nat.le_refl _) ?_
  exact ⟨by rw [Nat.mul_comm], rfl⟩
set_option maxRecDepth 100000 in
set_option maxHeartbeats 4000000 in
theorem c_S_length {τ : Nat × Nat} {a : Nat → Nat} {i : Nat → Int32} {r : Nat → Nat → Int32} {L : Nat → Int64} {wr : pW} (t : Nat) (ht : t < 60) : pC m_S_length τ [.ref (a 2), .int (nI t)] (wX a i r L ++ wr) (fun rr w2 => rr = some (.int (r 3 t)) ∧ w2 = wX a i r L ++ wr) := by
  refine pC.of rfl (Nat.le_of_ble_eq_true rfl) ?_
  show pG m_S_length τ _ 0 0 0 [(0, _), (1, _)] [] _
  refine g_aload_n (pc := 0) d_S_length_0 rfl ?_
  refine gx_S_lengths (pc := 1) d_S_length_1 lf_S_15 ?_
  refine g_iload_n (pc := 4) d_S_length_4 rfl ?_
  refine glx_S_lengths (pc := 5) d_S_length_5 (vp_in_nI ht (by decide)) rfl ?_
  refine g_iret (pc := 6) d_S_length_6 rfl (Nat.le_refl _) (Nat.le_refl _) ?_
  exact ⟨by rw [nI_clamp (by omega)], rfl⟩
set_option maxRecDepth 100000 in
set_option maxHeartbeats 4000000 in
theorem c_S_token {τ : Nat × Nat} {a : Nat → Nat} {i : Nat → Int32} {r : Nat → Nat → Int32} {L : Nat → Int64} {wr : pW} (k x : Nat) (hk : k < 1800) (hv : r 2 k = nI x) : pC m_S_token τ [.ref (a 2), .int (nI k)] (wX a i r L ++ wr) (fun rr w2 => rr = some (.int (nI x)) ∧ w2 = wX a i r L ++ wr) := by
  refine pC.of rfl (Nat.le_of_ble_eq_true rfl) ?_
  show pG m_S_token τ _ 0 0 0 [(0, _), (1, _)] [] _
  refine g_iload_n (pc := 0) d_S_token_0 rfl ?_
  refine g_aload_n (pc := 1) d_S_token_1 rfl ?_
  refine gx_S_tokens (pc := 2) d_S_token_2 lf_S_9 ?_
  refine gnx_S_tokens (pc := 5) d_S_token_5 ?_
  refine g_nicmp_ge (pc := 6) (tgt := 18) d_S_token_6 (by decide) (by omega) (by omega) (fun h => absurd h (by omega)) (fun h6 => ?_)
  refine g_aload_n (pc := 9) d_S_token_9 rfl ?_
  refine gx_S_tokens (pc := 10) d_S_token_10 lf_S_9 ?_
  refine g_iload_n (pc := 13) d_S_token_13 rfl ?_
  refine glx_S_tokens (pc := 14) (v := nI x) d_S_token_14 (vp_in_nI (by omega) (by decide)) (by rw [nI_clamp (by omega)]; exact hv) ?_
  refine g_goto (pc := 15) (tgt := 19) d_S_token_15 (by decide) ?_
  refine g_iret (pc := 19) d_S_token_19 rfl (Nat.le_refl _) (Nat.le_refl _) ?_
  exact ⟨rfl, rfl⟩
set_option maxRecDepth 100000 in
set_option maxHeartbeats 4000000 in
theorem c_S_firstPart {τ : Nat × Nat} {a : Nat → Nat} {i : Nat → Int32} {r : Nat → Nat → Int32} {L : Nat → Int64} {wr : pW} (k : Nat) : pC m_S_firstPart τ [.ref (a 2), .int (nI k)] (wX a i r L ++ wr) (fun rr w2 => rr = some (.int (nI (k + 1))) ∧ w2 = wX a i r L ++ wr) := by
  refine pC.of rfl (Nat.le_of_ble_eq_true rfl) ?_
  show pG m_S_firstPart τ _ 0 0 0 [(0, _), (1, _)] [] _
  refine g_iload_n (pc := 0) d_S_firstPart_0 rfl ?_
  refine g_iconst (pc := 1) (v := nI 1) d_S_firstPart_1 (by decide) ?_
  refine g_nadd (pc := 2) d_S_firstPart_2 ?_
  refine g_iret (pc := 3) d_S_firstPart_3 rfl (Nat.le_refl _) (Nat.le_refl _) ?_
  exact ⟨rfl, rfl⟩
set_option maxRecDepth 100000 in
set_option maxHeartbeats 4000000 in
theorem c_S_cutTo {τ : Nat × Nat} {a : Nat → Nat} {i : Nat → Int32} {r : Nat → Nat → Int32} {L : Nat → Int64} {wr : pW} (x : Int32) : pC m_S_cutTo τ [.ref (a 2), .int x] (wX a i r L ++ wr) (fun rr w2 => rr = none ∧ w2 = wX a (upd i 1 x) r L ++ wr) := by
  refine pC.of rfl (Nat.le_of_ble_eq_true rfl) ?_
  show pG m_S_cutTo τ _ 0 0 0 [(0, _), (1, _)] [] _
  refine g_aload_n (pc := 0) d_S_cutTo_0 rfl ?_
  refine g_iload_n (pc := 1) d_S_cutTo_1 rfl ?_
  refine gx_S_count_p (pc := 2) d_S_cutTo_2 lf_S_18 ?_
  refine g_vret (pc := 5) d_S_cutTo_5 rfl (Nat.le_refl _) (Nat.le_refl _) ?_
  exact ⟨rfl, rfl⟩
set_option maxRecDepth 100000 in
set_option maxHeartbeats 4000000 in
theorem c_S_behind {τ : Nat × Nat} {a : Nat → Nat} {i : Nat → Int32} {r : Nat → Nat → Int32} {L : Nat → Int64} {wr : pW} (k : Nat) (row : List Nat) (hs : Seg (r 2) k row) (hp : Pol 1 row) (hk : k + row.length ≤ 1800) : pC m_S_behind τ [.ref (a 2), .int (nI k)] (wX a i r L ++ wr) ((fun rr w2 => rr = some (.int (nI (k + row.length))) ∧ w2 = wX a i r L ++ wr)) := by
  have key : ∀ (rest : List Nat) (n p : Nat), Pol n rest → Seg (r 2) p rest → p + rest.length = k + row.length → pG m_S_behind τ (fun rr w2 => rr = some (.int (nI (k + row.length))) ∧ w2 = wX a i r L ++ wr) 0 0 4 [(2, .int (nI p)), (3, .int (nI n)), (0, .ref (a 2)), (1, .int (nI k))] [] (wX a i r L ++ wr) := by
    intro rest
    induction rest with
    | nil =>
      intro n p hn hsg he
      have hn : n = 0 := hn
      subst hn
      have he : p = k + row.length := he
      refine g_iload_n (pc := 4) d_S_behind_4 rfl ?_
      refine g_nif_le (pc := 5) (tgt := 37) d_S_behind_5 (by decide) (by omega) (fun h5 => ?_) (fun h => absurd h (by omega))
      refine g_iload_n (pc := 37) d_S_behind_37 rfl ?_
      refine g_iret (pc := 38) d_S_behind_38 rfl (Nat.le_refl _) (Nat.le_refl _) ?_
      exact ⟨by rw [he], rfl⟩
    | cons t rest ih =>
      intro n p hn hsg he
      obtain ⟨m, rfl, hn2⟩ := Pol_cons hn
      obtain ⟨⟨ht1, ht2⟩, hsg2⟩ := Seg_cons hsg
      have he2 : p + 1 + rest.length = k + row.length := by simp at he; omega
      have hle := Pol_le hn2
      refine g_iload_n (pc := 4) d_S_behind_4 rfl ?_
      refine g_nif_le (pc := 5) (tgt := 37) d_S_behind_5 (by decide) (by omega) (fun h => absurd h (by omega)) (fun h5 => ?_)
      refine g_iload_n (pc := 8) d_S_behind_8 rfl ?_
      refine g_aload_n (pc := 9) d_S_behind_9 rfl ?_
      refine gx_S_tokens (pc := 10) d_S_behind_10 lf_S_9 ?_
      refine gnx_S_tokens (pc := 13) d_S_behind_13 ?_
      refine g_nicmp_ge (pc := 14) (tgt := 37) d_S_behind_14 (by decide) (by omega) (by omega) (fun h => absurd h (by omega)) (fun h14 => ?_)
      refine g_iload_n (pc := 17) d_S_behind_17 rfl ?_
      refine g_aload_n (pc := 18) d_S_behind_18 rfl ?_
      refine gx_S_tokens (pc := 19) d_S_behind_19 lf_S_9 ?_
      refine g_iload_n (pc := 22) d_S_behind_22 rfl ?_
      refine glx_S_tokens (pc := 23) (v := nI t) d_S_behind_23 (vp_in_nI (by omega) (by decide)) (by rw [nI_clamp (by omega)]; exact ht1) ?_
      refine g_callS (M' := m_O_parts) (pc := 24) d_S_behind_24 lm_S_26 (c_O_parts t ht2) v_O_parts rfl (by decide) rfl (Nat.le_of_ble_eq_true rfl) ?_
      rintro _ _ ⟨rfl, rfl⟩
      show pG m_S_behind τ _ 0 0 27 _ (.int _ :: _) _
      refine g_iconst (pc := 27) (v := nI 1) d_S_behind_27 (by decide) ?_
      refine g_isub (pc := 28) d_S_behind_28 ?_
      refine g_iadd (pc := 29) d_S_behind_29 ?_
      refine g_topi (nI (m + kPt t)) (nI_opn m (kPt t)) ?_
      refine g_istore_n (pc := 30) [(3, _), (2, _), (0, _), (1, _)] d_S_behind_30 (by decide) rfl ?_
      refine g_niinc (pc := 31) (d := 1) [(2, _), (3, _), (0, _), (1, _)] d_S_behind_31 rfl (by decide) rfl ?_
      refine g_goto (pc := 34) (tgt := 4) d_S_behind_34 (by decide) ?_
      exact ih _ _ hn2 hsg2 he2
  refine pC.of rfl (Nat.le_of_ble_eq_true rfl) ?_
  show pG m_S_behind τ _ 0 0 0 [(0, _), (1, _)] [] _
  refine g_iload_n (pc := 0) d_S_behind_0 rfl ?_
  refine g_istore_n (pc := 1) [(2, _), (0, _), (1, _)] d_S_behind_1 (by decide) rfl ?_
  refine g_iconst (pc := 2) (v := nI 1) d_S_behind_2 (by decide) ?_
  refine g_istore_n (pc := 3) [(3, _), (2, _), (0, _), (1, _)] d_S_behind_3 (by decide) rfl ?_
  refine g_pick [1, 0, 2, 3] [(2, _), (3, _), (0, _), (1, _)] rfl ?_
  exact key row 1 k hp hs rfl
set_option maxRecDepth 100000 in
set_option maxHeartbeats 4000000 in
theorem c_S_secondPart {τ : Nat × Nat} {a : Nat → Nat} {i : Nat → Int32} {r : Nat → Nat → Int32} {L : Nat → Int64} {wr : pW} (k : Nat) (row : List Nat) (hs : Seg (r 2) (k + 1) row) (hp : Pol 1 row) (hk : k + 1 + row.length ≤ 1800) : pC m_S_secondPart τ [.ref (a 2), .int (nI k)] (wX a i r L ++ wr) (fun rr w2 => rr = some (.int (nI (k + 1 + row.length))) ∧ w2 = wX a i r L ++ wr) := by
  refine pC.of rfl (Nat.le_of_ble_eq_true rfl) ?_
  show pG m_S_secondPart τ _ 0 0 0 [(0, _), (1, _)] [] _
  refine g_aload_n (pc := 0) d_S_secondPart_0 rfl ?_
  refine g_iload_n (pc := 1) d_S_secondPart_1 rfl ?_
  refine g_iconst (pc := 2) (v := nI 1) d_S_secondPart_2 (by decide) ?_
  refine g_nadd (pc := 3) d_S_secondPart_3 ?_
  refine g_callV (M' := m_S_behind) (pc := 4) (q := 2) d_S_secondPart_4 lm_S_22 (c_S_behind (k + 1) row hs hp hk) v_S_behind rfl rfl rfl (by decide) rfl (Nat.le_of_ble_eq_true rfl) ?_
  rintro _ _ ⟨rfl, rfl⟩
  show pG m_S_secondPart τ _ 0 0 7 _ (.int _ :: _) _
  refine g_iret (pc := 7) d_S_secondPart_7 rfl (Nat.le_refl _) (Nat.le_refl _) ?_
  exact ⟨rfl, rfl⟩
set_option maxRecDepth 100000 in
set_option maxHeartbeats 4000000 in
theorem c_S_same {τ : Nat × Nat} {a : Nat → Nat} {i : Nat → Int32} {r : Nat → Nat → Int32} {L : Nat → Int64} {wr : pW} (l q : Nat) (R S : List Nat) (hs : Seg (r 2) l R) (hp : Pol 1 R) (hk : l + R.length ≤ 1800) (hs2 : Seg (r 2) q S) (hp2 : Pol 1 S) (hk2 : q + S.length ≤ 1800) : pC m_S_same τ [.ref (a 2), .int (nI l), .int (nI q)] (wX a i r L ++ wr) ((fun rr w2 => rr = some (.int (bI (decide (R = S)))) ∧ w2 = wX a i r L ++ wr)) := by
  have key : ∀ m z : Nat, R.length - z = m → z ≤ R.length → (∀ y, y < z → R[y]? = S[y]?) → pG m_S_same τ (fun rr w2 => rr = some (.int (bI (decide (R = S)))) ∧ w2 = wX a i r L ++ wr) 0 0 11 [(4, .int (nI z)), (3, .int (nI R.length)), (0, .ref (a 2)), (1, .int (nI l)), (2, .int (nI q))] [] (wX a i r L ++ wr) := by
    intro m
    induction m with
    | zero =>
      intro z hm hz ag
      refine g_iload (pc := 11) d_S_same_11 rfl ?_
      refine g_iload_n (pc := 13) d_S_same_13 rfl ?_
      refine g_nicmp_ge (pc := 14) (tgt := 44) d_S_same_14 (by decide) (by omega) (by omega) (fun h14 => ?_) (fun h => absurd h (by omega))
      refine g_iconst (pc := 44) (v := nI 1) d_S_same_44 (by decide) ?_
      refine g_zret (pc := 45) d_S_same_45 rfl (by decide) (Nat.le_refl _) (Nat.le_refl _) ?_
      exact ⟨congrArg (fun v => some (Value.int v)) (bI_1 (by rw [decide_eq_true_eq]; exact Pol_same hp hp2 (fun y hy => ag y (by omega)))), rfl⟩
    | succ m ih =>
      intro z hm hz ag
      have hz1 : z < R.length := by omega
      have hz2 : z < S.length := Pol_agree hp hp2 hz1 ag
      have hx := hs z R[z] (List.getElem?_eq_getElem hz1)
      have hy := hs2 z S[z] (List.getElem?_eq_getElem hz2)
      generalize hX : R[z] = X at hx
      generalize hY : S[z] = Y at hy
      obtain ⟨hx1, hx2⟩ := hx
      obtain ⟨hy1, hy2⟩ := hy
      refine g_iload (pc := 11) d_S_same_11 rfl ?_
      refine g_iload_n (pc := 13) d_S_same_13 rfl ?_
      refine g_nicmp_ge (pc := 14) (tgt := 44) d_S_same_14 (by decide) (by omega) (by omega) (fun h => absurd h (by omega)) (fun h14 => ?_)
      refine g_aload_n (pc := 17) d_S_same_17 rfl ?_
      refine g_iload_n (pc := 18) d_S_same_18 rfl ?_
      refine g_iload (pc := 19) d_S_same_19 rfl ?_
      refine g_nadd (pc := 21) d_S_same_21 ?_
      refine g_callV (M' := m_S_token) (pc := 22) (q := 2) d_S_same_22 lm_S_31 (c_S_token (l + z) X (by omega) hx1) v_S_token rfl rfl rfl (by decide) rfl (Nat.le_of_ble_eq_true rfl) ?_
      rintro _ _ ⟨rfl, rfl⟩
      show pG m_S_same τ _ 0 0 25 _ (.int _ :: _) _
      refine g_aload_n (pc := 25) d_S_same_25 rfl ?_
      refine g_iload_n (pc := 26) d_S_same_26 rfl ?_
      refine g_iload (pc := 27) d_S_same_27 rfl ?_
      refine g_nadd (pc := 29) d_S_same_29 ?_
      refine g_callV (M' := m_S_token) (pc := 30) (q := 2) d_S_same_30 lm_S_31 (c_S_token (q + z) Y (by omega) hy1) v_S_token rfl rfl rfl (by decide) rfl (Nat.le_of_ble_eq_true rfl) ?_
      rintro _ _ ⟨rfl, rfl⟩
      show pG m_S_same τ _ 0 0 33 _ (.int _ :: _) _
      refine g_nicmp_eq (pc := 33) (tgt := 38) d_S_same_33 (by decide) (by omega) (by omega) (fun h33 => ?_) (fun h33 => ?_)
      · refine g_niinc (pc := 38) (d := 1) [(4, _), (3, _), (0, _), (1, _), (2, _)] d_S_same_38 rfl (by decide) rfl ?_
        refine g_goto (pc := 41) (tgt := 11) d_S_same_41 (by decide) ?_
        exact ih (z + 1) (by omega) (by omega) (lt_s ag (by rw [List.getElem?_eq_getElem hz1, List.getElem?_eq_getElem hz2, hX, hY, h33]))
      · refine g_iconst (pc := 36) (v := nI 0) d_S_same_36 (by decide) ?_
        refine g_zret (pc := 37) d_S_same_37 rfl (by decide) (Nat.le_refl _) (Nat.le_refl _) ?_
        exact ⟨congrArg (fun v => some (Value.int v)) (bI_0 (by
          rw [decide_eq_false_iff_not]
          intro e
          subst e
          exact h33 (hX.symm.trans hY))), rfl⟩
  refine pC.of rfl (Nat.le_of_ble_eq_true rfl) ?_
  show pG m_S_same τ _ 0 0 0 [(0, _), (1, _), (2, _)] [] _
  refine g_aload_n (pc := 0) d_S_same_0 rfl ?_
  refine g_iload_n (pc := 1) d_S_same_1 rfl ?_
  refine g_callV (M' := m_S_behind) (pc := 2) (q := 2) d_S_same_2 lm_S_22 (c_S_behind l R hs hp hk) v_S_behind rfl rfl rfl (by decide) rfl (Nat.le_of_ble_eq_true rfl) ?_
  rintro _ _ ⟨rfl, rfl⟩
  show pG m_S_same τ _ 0 0 5 _ (.int _ :: _) _
  refine g_iload_n (pc := 5) d_S_same_5 rfl ?_
  refine g_nsub (pc := 6) d_S_same_6 (by omega) ?_
  rw [Nat.add_sub_cancel_left]
  refine g_istore_n (pc := 7) [(3, _), (0, _), (1, _), (2, _)] d_S_same_7 (by decide) rfl ?_
  refine g_iconst (pc := 8) (v := nI 0) d_S_same_8 (by decide) ?_
  refine g_istore (pc := 9) [(4, _), (3, _), (0, _), (1, _), (2, _)] d_S_same_9 (by decide) rfl ?_
  exact key _ 0 rfl (Nat.zero_le _) lt_0
set_option maxRecDepth 100000 in
set_option maxHeartbeats 4000000 in
theorem c_S_holds {τ : Nat × Nat} {a : Nat → Nat} {i : Nat → Int32} {r : Nat → Nat → Int32} {L : Nat → Int64} {wr : pW} (t v : Nat) (row : List Nat) (ht : t < 60) (hv : v < 4096) (hs : Seg (r 2) (30 * t) row) (hl : row.length ≤ 30) (hlen : r 3 t = nI row.length) : pC m_S_holds τ [.ref (a 2), .int (nI t), .int (nI v)] (wX a i r L ++ wr) ((fun rr w2 => rr = some (.int (bI (decide (v ∈ row)))) ∧ w2 = wX a i r L ++ wr)) := by
  have key : ∀ m z : Nat, row.length - z = m → z ≤ row.length → (∀ y, y < z → row[y]? ≠ some v) → pG m_S_holds τ (fun rr w2 => rr = some (.int (bI (decide (v ∈ row)))) ∧ w2 = wX a i r L ++ wr) 0 0 20 [(4, .int (nI (30 * t + z))), (3, .int (nI (30 * t + row.length))), (0, .ref (a 2)), (1, .int (nI t)), (2, .int (nI v))] [] (wX a i r L ++ wr) := by
    intro m
    induction m with
    | zero =>
      intro z hm hz ag
      refine g_iload (pc := 20) d_S_holds_20 rfl ?_
      refine g_iload_n (pc := 22) d_S_holds_22 rfl ?_
      refine g_nicmp_ge (pc := 23) (tgt := 45) d_S_holds_23 (by decide) (by omega) (by omega) (fun h23 => ?_) (fun h => absurd h (by omega))
      refine g_iconst (pc := 45) (v := nI 0) d_S_holds_45 (by decide) ?_
      refine g_zret (pc := 46) d_S_holds_46 rfl (by decide) (Nat.le_refl _) (Nat.le_refl _) ?_
      exact ⟨congrArg (fun v => some (Value.int v)) (bI_0 (by
        rw [decide_eq_false_iff_not]
        intro e
        obtain ⟨y, hy⟩ := List.mem_iff_getElem?.mp e
        exact ag y (by have := (List.getElem?_eq_some_iff.mp hy).1; omega) hy)), rfl⟩
    | succ m ih =>
      intro z hm hz ag
      have hz1 : z < row.length := by omega
      have hx := hs z row[z] (List.getElem?_eq_getElem hz1)
      generalize hX : row[z] = X at hx
      obtain ⟨hx1, hx2⟩ := hx
      refine g_iload (pc := 20) d_S_holds_20 rfl ?_
      refine g_iload_n (pc := 22) d_S_holds_22 rfl ?_
      refine g_nicmp_ge (pc := 23) (tgt := 45) d_S_holds_23 (by decide) (by omega) (by omega) (fun h => absurd h (by omega)) (fun h23 => ?_)
      refine g_aload_n (pc := 26) d_S_holds_26 rfl ?_
      refine gx_S_tokens (pc := 27) d_S_holds_27 lf_S_9 ?_
      refine g_iload (pc := 30) d_S_holds_30 rfl ?_
      refine glx_S_tokens (pc := 32) (v := nI X) d_S_holds_32 (vp_in_nI (by omega) (by decide)) (by rw [nI_clamp (by omega)]; exact hx1) ?_
      refine g_iload_n (pc := 33) d_S_holds_33 rfl ?_
      refine g_nicmp_ne (pc := 34) (tgt := 39) d_S_holds_34 (by decide) (by omega) (by omega) (fun h34 => ?_) (fun h34 => ?_)
      · refine g_niinc (pc := 39) (d := 1) [(4, _), (3, _), (0, _), (1, _), (2, _)] d_S_holds_39 rfl (by decide) rfl ?_
        refine g_goto (pc := 42) (tgt := 20) d_S_holds_42 (by decide) ?_
        exact ih (z + 1) (by omega) (by omega) (lt_s ag (by rw [List.getElem?_eq_getElem hz1, hX]; intro e; exact h34 (Option.some.inj e)))
      · refine g_iconst (pc := 37) (v := nI 1) d_S_holds_37 (by decide) ?_
        refine g_zret (pc := 38) d_S_holds_38 rfl (by decide) (Nat.le_refl _) (Nat.le_refl _) ?_
        exact ⟨congrArg (fun v => some (Value.int v)) (bI_1 (by
          rw [decide_eq_true_eq, ← h34, ← hX]
          exact List.getElem_mem hz1)), rfl⟩
  refine pC.of rfl (Nat.le_of_ble_eq_true rfl) ?_
  show pG m_S_holds τ _ 0 0 0 [(0, _), (1, _), (2, _)] [] _
  refine g_aload_n (pc := 0) d_S_holds_0 rfl ?_
  refine g_iload_n (pc := 1) d_S_holds_1 rfl ?_
  refine g_callV (M' := m_S_start) (pc := 2) (q := 2) d_S_holds_2 lm_S_34 (c_S_start t) v_S_start rfl rfl rfl (by decide) rfl (Nat.le_of_ble_eq_true rfl) ?_
  rintro _ _ ⟨rfl, rfl⟩
  show pG m_S_holds τ _ 0 0 5 _ (.int _ :: _) _
  refine g_aload_n (pc := 5) d_S_holds_5 rfl ?_
  refine gx_S_lengths (pc := 6) d_S_holds_6 lf_S_15 ?_
  refine g_iload_n (pc := 9) d_S_holds_9 rfl ?_
  refine glx_S_lengths (pc := 10) (v := nI row.length) d_S_holds_10 (vp_in_nI (by omega) (by decide)) (by rw [nI_clamp (by omega)]; exact hlen) ?_
  refine g_nadd (pc := 11) d_S_holds_11 ?_
  refine g_istore_n (pc := 12) [(3, _), (0, _), (1, _), (2, _)] d_S_holds_12 (by decide) rfl ?_
  refine g_aload_n (pc := 13) d_S_holds_13 rfl ?_
  refine g_iload_n (pc := 14) d_S_holds_14 rfl ?_
  refine g_callV (M' := m_S_start) (pc := 15) (q := 2) d_S_holds_15 lm_S_34 (c_S_start t) v_S_start rfl rfl rfl (by decide) rfl (Nat.le_of_ble_eq_true rfl) ?_
  rintro _ _ ⟨rfl, rfl⟩
  show pG m_S_holds τ _ 0 0 18 _ (.int _ :: _) _
  refine g_istore (pc := 18) [(4, _), (3, _), (0, _), (1, _), (2, _)] d_S_holds_18 (by decide) rfl ?_
  exact key _ 0 rfl (Nat.zero_le _) lt_0
