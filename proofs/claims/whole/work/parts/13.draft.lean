/-! Draft: contracts. By wip/whole/m_draft.py -/
set_option maxRecDepth 100000 in
set_option maxHeartbeats 4000000 in
theorem c_D_clear {τ : Nat × Nat} {a : Nat → Nat} {i : Nat → Int32} {r : Nat → Nat → Int32} {L : Nat → Int64} {wr : pW}  : pC m_D_clear τ [.ref (a 3)] (wX a i r L ++ wr) (fun rr w2 => rr = none ∧ w2 = wX a (upd i 2 (nI 0)) r L ++ wr) := by
  refine pC.of rfl (Nat.le_of_ble_eq_true rfl) ?_
  show pG m_D_clear τ _ 0 0 0 [(0, _)] [] _
  refine g_aload_n (pc := 0) d_D_clear_0 rfl ?_
  refine g_iconst (pc := 1) (v := nI 0) d_D_clear_1 (by decide) ?_
  refine gx_D_length_p (pc := 2) d_D_clear_2 lf_D_22 ?_
  refine g_vret (pc := 5) d_D_clear_5 rfl (Nat.le_refl _) (Nat.le_refl _) ?_
  exact ⟨rfl, rfl⟩
set_option maxRecDepth 100000 in
set_option maxHeartbeats 4000000 in
theorem c_D_spoil {τ : Nat × Nat} {a : Nat → Nat} {i : Nat → Int32} {r : Nat → Nat → Int32} {L : Nat → Int64} {wr : pW}  : pC m_D_spoil τ [.ref (a 3)] (wX a i r L ++ wr) (fun rr w2 => rr = none ∧ w2 = wX a (upd i 2 (nI 31)) r L ++ wr) := by
  refine pC.of rfl (Nat.le_of_ble_eq_true rfl) ?_
  show pG m_D_spoil τ _ 0 0 0 [(0, _)] [] _
  refine g_aload_n (pc := 0) d_D_spoil_0 rfl ?_
  refine g_bipush (pc := 1) (v := nI 31) d_D_spoil_1 (by decide) ?_
  refine gx_D_length_p (pc := 3) d_D_spoil_3 lf_D_22 ?_
  refine g_vret (pc := 6) d_D_spoil_6 rfl (Nat.le_refl _) (Nat.le_refl _) ?_
  exact ⟨rfl, rfl⟩
set_option maxRecDepth 100000 in
set_option maxHeartbeats 4000000 in
theorem c_D_length {τ : Nat × Nat} {a : Nat → Nat} {i : Nat → Int32} {r : Nat → Nat → Int32} {L : Nat → Int64} {wr : pW}  : pC m_D_length τ [.ref (a 3)] (wX a i r L ++ wr) (fun rr w2 => rr = some (.int (i 2)) ∧ w2 = wX a i r L ++ wr) := by
  refine pC.of rfl (Nat.le_of_ble_eq_true rfl) ?_
  show pG m_D_length τ _ 0 0 0 [(0, _)] [] _
  refine g_aload_n (pc := 0) d_D_length_0 rfl ?_
  refine gx_D_length (pc := 1) d_D_length_1 lf_D_22 ?_
  refine g_iret (pc := 4) d_D_length_4 rfl (Nat.le_refl _) (Nat.le_refl _) ?_
  exact ⟨rfl, rfl⟩
set_option maxRecDepth 100000 in
set_option maxHeartbeats 4000000 in
theorem c_D_isTooLarge {τ : Nat × Nat} {a : Nat → Nat} {i : Nat → Int32} {r : Nat → Nat → Int32} {L : Nat → Int64} {wr : pW} (c : Nat) (hc : i 2 = nI c) (hb : c < 2 ^ 31) : pC m_D_isTooLarge τ [.ref (a 3)] (wX a i r L ++ wr) (fun rr w2 => rr = some (.int (bI (decide (30 < c)))) ∧ w2 = wX a i r L ++ wr) := by
  refine pC.of rfl (Nat.le_of_ble_eq_true rfl) ?_
  show pG m_D_isTooLarge τ _ 0 0 0 [(0, _)] [] _
  refine g_aload_n (pc := 0) d_D_isTooLarge_0 rfl ?_
  refine gx_D_length (pc := 1) d_D_isTooLarge_1 lf_D_22 ?_
  rw [hc]
  refine g_bipush (pc := 4) (v := nI 30) d_D_isTooLarge_4 (by decide) ?_
  refine g_nicmp_le (pc := 6) (tgt := 13) d_D_isTooLarge_6 (by decide) (by omega) (by omega) (fun h6 => ?_) (fun h6 => ?_)
  · refine g_iconst (pc := 13) (v := nI 0) d_D_isTooLarge_13 (by decide) ?_
    refine g_zret (pc := 14) d_D_isTooLarge_14 rfl (by decide) (Nat.le_refl _) (Nat.le_refl _) ?_
    refine ⟨congrArg (fun v => some (Value.int v)) ?_, rfl⟩
    first | exact bI_1 (by rw [decide_eq_true_eq]; omega) | exact bI_0 (by rw [decide_eq_false_iff_not]; omega)
  · refine g_iconst (pc := 9) (v := nI 1) d_D_isTooLarge_9 (by decide) ?_
    refine g_goto (pc := 10) (tgt := 14) d_D_isTooLarge_10 (by decide) ?_
    refine g_zret (pc := 14) d_D_isTooLarge_14 rfl (by decide) (Nat.le_refl _) (Nat.le_refl _) ?_
    refine ⟨congrArg (fun v => some (Value.int v)) ?_, rfl⟩
    first | exact bI_1 (by rw [decide_eq_true_eq]; omega) | exact bI_0 (by rw [decide_eq_false_iff_not]; omega)
set_option maxRecDepth 100000 in
set_option maxHeartbeats 4000000 in
theorem c_D_add {τ : Nat × Nat} {a : Nat → Nat} {i : Nat → Int32} {r : Nat → Nat → Int32} {L : Nat → Int64} {wr : pW} (d : List Nat) (x : Nat) (h : XD d i r) (hb : d.length < 100000) : pC m_D_add τ [.ref (a 3), .int (nI x)] (wX a i r L ++ wr) ((fun rr w2 => ∃ i2 r2, rr = none ∧ w2 = wX a i2 r2 L ++ wr ∧ XD (d ++ [x]) i2 r2 ∧ DK i r i2 r2)) := by
  refine pC.of rfl (Nat.le_of_ble_eq_true rfl) ?_
  show pG m_D_add τ _ 0 0 0 [(0, _), (1, _)] [] _
  refine g_aload_n (pc := 0) d_D_add_0 rfl ?_
  refine gx_D_length (pc := 1) d_D_add_1 lf_D_22 ?_
  rw [h.1]
  refine g_bipush (pc := 4) (v := nI 30) d_D_add_4 (by decide) ?_
  refine g_nicmp_ge (pc := 6) (tgt := 19) d_D_add_6 (by decide) (by omega) (by omega) (fun h6 => ?_) (fun h6 => ?_)
  · refine g_aload_n (pc := 19) d_D_add_19 rfl ?_
    refine g_dup (pc := 20) d_D_add_20 rfl ?_
    refine gx_D_length (pc := 21) d_D_add_21 lf_D_22 ?_
    rw [h.1]
    refine g_iconst (pc := 24) (v := nI 1) d_D_add_24 (by decide) ?_
    refine g_nadd (pc := 25) d_D_add_25 ?_
    refine gx_D_length_p (pc := 26) d_D_add_26 lf_D_22 ?_
    refine g_vret (pc := 29) d_D_add_29 rfl (Nat.le_refl _) (Nat.le_refl _) ?_
    first | exact ⟨_, _, rfl, rfl, XD_add h (by rw [pk_us]) (fun hl => by rw [up_s, nI_clamp (by omega)]), fun j hj => pk_un hj, fun j hj => up_n hj⟩ | exact ⟨_, _, rfl, rfl, XD_add h (by rw [pk_us]) (fun hl => absurd hl (by omega)), fun j hj => pk_un hj, fun j hj => rfl⟩
  · refine g_aload_n (pc := 9) d_D_add_9 rfl ?_
    refine gx_D_row (pc := 10) d_D_add_10 lf_D_9 ?_
    refine g_aload_n (pc := 13) d_D_add_13 rfl ?_
    refine gx_D_length (pc := 14) d_D_add_14 lf_D_22 ?_
    rw [h.1]
    refine g_iload_n (pc := 17) d_D_add_17 rfl ?_
    refine gsx_D_row (pc := 18) d_D_add_18 (vp_in_nI (by omega) (by decide)) ?_
    refine g_aload_n (pc := 19) d_D_add_19 rfl ?_
    refine g_dup (pc := 20) d_D_add_20 rfl ?_
    refine gx_D_length (pc := 21) d_D_add_21 lf_D_22 ?_
    rw [h.1]
    refine g_iconst (pc := 24) (v := nI 1) d_D_add_24 (by decide) ?_
    refine g_nadd (pc := 25) d_D_add_25 ?_
    refine gx_D_length_p (pc := 26) d_D_add_26 lf_D_22 ?_
    refine g_vret (pc := 29) d_D_add_29 rfl (Nat.le_refl _) (Nat.le_refl _) ?_
    first | exact ⟨_, _, rfl, rfl, XD_add h (by rw [pk_us]) (fun hl => by rw [up_s, nI_clamp (by omega)]), fun j hj => pk_un hj, fun j hj => up_n hj⟩ | exact ⟨_, _, rfl, rfl, XD_add h (by rw [pk_us]) (fun hl => absurd hl (by omega)), fun j hj => pk_un hj, fun j hj => rfl⟩
set_option maxRecDepth 100000 in
set_option maxHeartbeats 4000000 in
theorem c_D_addPart {τ : Nat × Nat} {a : Nat → Nat} {i : Nat → Int32} {r : Nat → Nat → Int32} {L : Nat → Int64} {wr : pW} (d : List Nat) (k : Nat) (row : List Nat) (hd : XD d i r) (hs : Seg (r 2) k row) (hp : Pol 1 row) (hk : k + row.length ≤ 1800) (hb : d.length + row.length < 100000) : pC m_D_addPart τ [.ref (a 3), .int (nI k)] (wX a i r L ++ wr) ((fun rr w2 => ∃ i2 r2, rr = none ∧ w2 = wX a i2 r2 L ++ wr ∧ XD (d ++ row) i2 r2 ∧ DK i r i2 r2)) := by
  have key : ∀ (rest : List Nat) (p : Nat) (d1 : List Nat) (i1 : Nat → Int32) (r1 : Nat → Nat → Int32), p + rest.length = k + row.length → Seg (r1 2) p rest → XD d1 i1 r1 → DK i r i1 r1 → d1 ++ rest = d ++ row → pG m_D_addPart τ (fun rr w2 => ∃ i2 r2, rr = none ∧ w2 = wX a i2 r2 L ++ wr ∧ XD (d ++ row) i2 r2 ∧ DK i r i2 r2) 0 0 11 [(3, .int (nI p)), (2, .int (nI (k + row.length))), (0, .ref (a 3)), (1, .int (nI k))] [] (wX a i1 r1 L ++ wr) := by
    intro rest
    induction rest with
    | nil =>
      intro p d1 i1 r1 he hsg hx hdk hc
      have he : p = k + row.length := he
      rw [List.append_nil] at hc
      refine g_iload_n (pc := 11) d_D_addPart_11 rfl ?_
      refine g_iload_n (pc := 12) d_D_addPart_12 rfl ?_
      refine g_nicmp_ge (pc := 13) (tgt := 34) d_D_addPart_13 (by decide) (by omega) (by omega) (fun h13 => ?_) (fun h => absurd h (by omega))
      refine g_vret (pc := 34) d_D_addPart_34 rfl (Nat.le_refl _) (Nat.le_refl _) ?_
      exact ⟨i1, r1, rfl, rfl, by rw [← hc]; exact hx, hdk⟩
    | cons t rest ih =>
      intro p d1 i1 r1 he hsg hx hdk hc
      obtain ⟨⟨ht1, ht2⟩, hsg2⟩ := Seg_cons hsg
      have he2 : p + 1 + rest.length = k + row.length := by simp at he; omega
      have hlen := congrArg List.length hc
      simp only [List.length_append, List.length_cons] at hlen
      refine g_iload_n (pc := 11) d_D_addPart_11 rfl ?_
      refine g_iload_n (pc := 12) d_D_addPart_12 rfl ?_
      refine g_nicmp_ge (pc := 13) (tgt := 34) d_D_addPart_13 (by decide) (by omega) (by omega) (fun h => absurd h (by omega)) (fun h13 => ?_)
      refine g_aload_n (pc := 16) d_D_addPart_16 rfl ?_
      refine g_aload_n (pc := 17) d_D_addPart_17 rfl ?_
      refine gx_D_shelf (pc := 18) d_D_addPart_18 lf_D_18 ?_
      refine g_iload_n (pc := 21) d_D_addPart_21 rfl ?_
      refine g_callV (M' := m_S_token) (pc := 22) (q := 2) d_D_addPart_22 lm_D_32 (c_S_token p t (by omega) ht1) v_S_token rfl rfl rfl (by decide) rfl (Nat.le_of_ble_eq_true rfl) ?_
      rintro _ _ ⟨rfl, rfl⟩
      show pG m_D_addPart τ _ 0 0 25 _ (.int _ :: _) _
      refine g_callV (M' := m_D_add) (pc := 25) (q := 3) d_D_addPart_25 lm_D_35 (c_D_add d1 t hx (by omega)) v_D_add rfl rfl rfl (by decide) rfl (Nat.le_of_ble_eq_true rfl) ?_
      rintro _ _ ⟨i2, r2, rfl, rfl, hx2, hk2⟩
      show pG m_D_addPart τ _ 0 0 28 _ _ _
      refine g_niinc (pc := 28) (d := 1) [(3, _), (2, _), (0, _), (1, _)] d_D_addPart_28 rfl (by decide) rfl ?_
      refine g_goto (pc := 31) (tgt := 11) d_D_addPart_31 (by decide) ?_
      exact ih (p + 1) (d1 ++ [t]) i2 r2 he2 (by rw [hk2.2 2 (by decide)]; exact hsg2) hx2 (hdk.tr hk2) (by rw [List.append_assoc]; exact hc)
  refine pC.of rfl (Nat.le_of_ble_eq_true rfl) ?_
  show pG m_D_addPart τ _ 0 0 0 [(0, _), (1, _)] [] _
  refine g_aload_n (pc := 0) d_D_addPart_0 rfl ?_
  refine gx_D_shelf (pc := 1) d_D_addPart_1 lf_D_18 ?_
  refine g_iload_n (pc := 4) d_D_addPart_4 rfl ?_
  refine g_callV (M' := m_S_behind) (pc := 5) (q := 2) d_D_addPart_5 lm_D_26 (c_S_behind k row hs hp hk) v_S_behind rfl rfl rfl (by decide) rfl (Nat.le_of_ble_eq_true rfl) ?_
  rintro _ _ ⟨rfl, rfl⟩
  show pG m_D_addPart τ _ 0 0 8 _ (.int _ :: _) _
  refine g_istore_n (pc := 8) [(2, _), (0, _), (1, _)] d_D_addPart_8 (by decide) rfl ?_
  refine g_iload_n (pc := 9) d_D_addPart_9 rfl ?_
  refine g_istore_n (pc := 10) [(3, _), (2, _), (0, _), (1, _)] d_D_addPart_10 (by decide) rfl ?_
  refine g_pick [0, 1, 2, 3] [(3, _), (2, _), (0, _), (1, _)] rfl ?_
  exact key row k d i r rfl hs hd DK.rf rfl
set_option maxRecDepth 100000 in
set_option maxHeartbeats 4000000 in
theorem c_D_beginWalk {τ : Nat × Nat} {a : Nat → Nat} {i : Nat → Int32} {r : Nat → Nat → Int32} {L : Nat → Int64} {wr : pW}  : pC m_D_beginWalk τ [.ref (a 3)] (wX a i r L ++ wr) ((fun rr w2 => ∃ i2 r2, rr = none ∧ w2 = wX a i2 r2 L ++ wr ∧ WK [0] i2 r2 ∧ WKp i r i2 r2)) := by
  refine pC.of rfl (Nat.le_of_ble_eq_true rfl) ?_
  show pG m_D_beginWalk τ _ 0 0 0 [(0, _)] [] _
  refine g_aload_n (pc := 0) d_D_beginWalk_0 rfl ?_
  refine gx_D_depths (pc := 1) d_D_beginWalk_1 lf_D_15 ?_
  refine g_iconst (pc := 4) (v := nI 0) d_D_beginWalk_4 (by decide) ?_
  refine g_iconst (pc := 5) (v := nI 0) d_D_beginWalk_5 (by decide) ?_
  refine gsx_D_depths (pc := 6) d_D_beginWalk_6 (vp_in_nI (by decide) (by decide)) ?_
  refine g_aload_n (pc := 7) d_D_beginWalk_7 rfl ?_
  refine g_iconst (pc := 8) (v := nI 1) d_D_beginWalk_8 (by decide) ?_
  refine gx_D_waiting_p (pc := 9) d_D_beginWalk_9 lf_D_69 ?_
  refine g_vret (pc := 12) d_D_beginWalk_12 rfl (Nat.le_refl _) (Nat.le_refl _) ?_
  exact ⟨_, _, rfl, rfl, ⟨pk_us, by decide, fun j x hj => by
    cases j with
    | zero =>
      simp at hj
      subst hj
      rw [up_s]
      rfl
    | succ j => simp at hj⟩, fun j hj => pk_un hj, fun j hj => up_n hj⟩
set_option maxRecDepth 100000 in
set_option maxHeartbeats 4000000 in
theorem c_D_walkOver {τ : Nat × Nat} {a : Nat → Nat} {i : Nat → Int32} {r : Nat → Nat → Int32} {L : Nat → Int64} {wr : pW} (dd : Nat) (s : List Nat) (x : Nat) (h : WK (dd :: s) i r) (hx : x < 4096) (hd : dd < 1000) (hl : s.length + kPt x ≤ 30) : pC m_D_walkOver τ [.ref (a 3), .int (nI x)] (wX a i r L ++ wr) ((fun rr w2 => ∃ i2 r2, rr = some (.int (nI dd)) ∧ w2 = wX a i2 r2 L ++ wr ∧ WK (nxt x dd s) i2 r2 ∧ WKp i r i2 r2)) := by
  have hw : i 3 = nI (s.length + 1) := h.1
  have h30 : s.length + 1 ≤ 30 := h.2.1
  have hpop := WK.pop (i2 := upd i 3 (nI s.length)) (r2 := r) h pk_us rfl
  have hq2 := kPt_le x
  generalize he : (if kBd x then dd + 1 else dd) = e
  have hN : nxt x dd s = List.replicate (kPt x) e ++ s := by rw [nxt, he]
  have key : ∀ (m z : Nat) (i1 : Nat → Int32) (r1 : Nat → Nat → Int32), kPt x - z = m → z ≤ kPt x → WK (List.replicate z e ++ s) i1 r1 → WKp i r i1 r1 → pG m_D_walkOver τ (fun rr w2 => ∃ i2 r2, rr = some (.int (nI dd)) ∧ w2 = wX a i2 r2 L ++ wr ∧ WK (nxt x dd s) i2 r2 ∧ WKp i r i2 r2) 0 0 45 [(4, .int (nI z)), (3, .int (nI e)), (2, .int (nI dd)), (0, .ref (a 3)), (1, .int (nI x))] [] (wX a i1 r1 L ++ wr) := by
    intro m
    induction m with
    | zero =>
      intro z i1 r1 hm hz hwk hkp
      refine g_iload (pc := 45) d_D_walkOver_45 rfl ?_
      refine g_iload_n (pc := 47) d_D_walkOver_47 rfl ?_
      refine g_callS (M' := m_O_parts) (pc := 48) d_D_walkOver_48 lm_D_76 (c_O_parts x hx) v_O_parts rfl (by decide) rfl (Nat.le_of_ble_eq_true rfl) ?_
      rintro _ _ ⟨rfl, rfl⟩
      show pG m_D_walkOver τ _ 0 0 51 _ (.int _ :: _) _
      refine g_nicmp_ge (pc := 51) (tgt := 89) d_D_walkOver_51 (by decide) (by omega) (by omega) (fun h51 => ?_) (fun h => absurd h (by omega))
      refine g_iload_n (pc := 89) d_D_walkOver_89 rfl ?_
      refine g_iret (pc := 90) d_D_walkOver_90 rfl (Nat.le_refl _) (Nat.le_refl _) ?_
      exact ⟨i1, r1, rfl, rfl, by rw [hN, show kPt x = z by omega]; exact hwk, hkp⟩
    | succ m ih =>
      intro z i1 r1 hm hz hwk hkp
      have hw1 : i1 3 = nI (z + s.length) := by have := hwk.1; simpa using this
      refine g_iload (pc := 45) d_D_walkOver_45 rfl ?_
      refine g_iload_n (pc := 47) d_D_walkOver_47 rfl ?_
      refine g_callS (M' := m_O_parts) (pc := 48) d_D_walkOver_48 lm_D_76 (c_O_parts x hx) v_O_parts rfl (by decide) rfl (Nat.le_of_ble_eq_true rfl) ?_
      rintro _ _ ⟨rfl, rfl⟩
      show pG m_D_walkOver τ _ 0 0 51 _ (.int _ :: _) _
      refine g_nicmp_ge (pc := 51) (tgt := 89) d_D_walkOver_51 (by decide) (by omega) (by omega) (fun h => absurd h (by omega)) (fun h51 => ?_)
      refine g_aload_n (pc := 54) d_D_walkOver_54 rfl ?_
      refine gx_D_waiting (pc := 55) d_D_walkOver_55 lf_D_69 ?_
      rw [hw1]
      refine g_bipush (pc := 58) (v := nI 30) d_D_walkOver_58 (by decide) ?_
      refine g_nicmp_ge (pc := 60) (tgt := 89) d_D_walkOver_60 (by decide) (by omega) (by omega) (fun h => absurd h (by omega)) (fun h60 => ?_)
      refine g_aload_n (pc := 63) d_D_walkOver_63 rfl ?_
      refine gx_D_depths (pc := 64) d_D_walkOver_64 lf_D_15 ?_
      refine g_aload_n (pc := 67) d_D_walkOver_67 rfl ?_
      refine gx_D_waiting (pc := 68) d_D_walkOver_68 lf_D_69 ?_
      rw [hw1]
      refine g_iload_n (pc := 71) d_D_walkOver_71 rfl ?_
      refine gsx_D_depths (pc := 72) d_D_walkOver_72 (vp_in_nI (by omega) (by decide)) ?_
      refine g_aload_n (pc := 73) d_D_walkOver_73 rfl ?_
      refine g_dup (pc := 74) d_D_walkOver_74 rfl ?_
      refine gx_D_waiting (pc := 75) d_D_walkOver_75 lf_D_69 ?_
      rw [hw1]
      refine g_iconst (pc := 78) (v := nI 1) d_D_walkOver_78 (by decide) ?_
      refine g_nadd (pc := 79) d_D_walkOver_79 ?_
      refine gx_D_waiting_p (pc := 80) d_D_walkOver_80 lf_D_69 ?_
      refine g_niinc (pc := 83) (d := 1) [(4, _), (3, _), (2, _), (0, _), (1, _)] d_D_walkOver_83 rfl (by decide) rfl ?_
      refine g_goto (pc := 86) (tgt := 45) d_D_walkOver_86 (by decide) ?_
      refine g_pick [0, 1, 2, 3, 4] [(4, _), (3, _), (2, _), (0, _), (1, _)] rfl ?_
      refine ih (z + 1) _ _ (by omega) (by omega) ?_ ⟨fun j hj => (pk_un hj).trans (hkp.1 j hj), fun j hj => (up_n hj).trans (hkp.2 j hj)⟩
      rw [List.replicate_succ, List.cons_append]
      refine WK.push hwk (by simp; omega) (by rw [pk_us]; simp) ?_
      rw [up_s, nI_clamp (by omega)]
      simp
  refine pC.of rfl (Nat.le_of_ble_eq_true rfl) ?_
  show pG m_D_walkOver τ _ 0 0 0 [(0, _), (1, _)] [] _
  refine g_aload_n (pc := 0) d_D_walkOver_0 rfl ?_
  refine gx_D_waiting (pc := 1) d_D_walkOver_1 lf_D_69 ?_
  rw [hw]
  refine g_nif_le (pc := 4) (tgt := 17) d_D_walkOver_4 (by decide) (by omega) (fun h => absurd h (by omega)) (fun h4 => ?_)
  refine g_aload_n (pc := 7) d_D_walkOver_7 rfl ?_
  refine g_dup (pc := 8) d_D_walkOver_8 rfl ?_
  refine gx_D_waiting (pc := 9) d_D_walkOver_9 lf_D_69 ?_
  rw [hw]
  refine g_iconst (pc := 12) (v := nI 1) d_D_walkOver_12 (by decide) ?_
  refine g_nsub (pc := 13) d_D_walkOver_13 (by omega) ?_
  rw [Nat.add_sub_cancel]
  refine gx_D_waiting_p (pc := 14) d_D_walkOver_14 lf_D_69 ?_
  refine g_aload_n (pc := 17) d_D_walkOver_17 rfl ?_
  refine gx_D_depths (pc := 18) d_D_walkOver_18 lf_D_15 ?_
  refine g_aload_n (pc := 21) d_D_walkOver_21 rfl ?_
  refine gx_D_waiting (pc := 22) d_D_walkOver_22 lf_D_69 ?_
  rw [pk_us]
  refine glx_D_depths (pc := 25) (v := nI dd) d_D_walkOver_25 (vp_in_nI (by omega) (by decide)) (by rw [nI_clamp (by omega)]; exact hpop.2) ?_
  refine g_istore_n (pc := 26) [(2, _), (0, _), (1, _)] d_D_walkOver_26 (by decide) rfl ?_
  refine g_iload_n (pc := 27) d_D_walkOver_27 rfl ?_
  refine g_callS (M' := m_O_binds) (pc := 28) d_D_walkOver_28 lm_D_72 (c_O_binds x hx) v_O_binds rfl (by decide) rfl (Nat.le_of_ble_eq_true rfl) ?_
  rintro _ _ ⟨rfl, rfl⟩
  show pG m_D_walkOver τ _ 0 0 31 _ (.int _ :: _) _
  refine g_ifb_eq (pc := 31) (tgt := 40) d_D_walkOver_31 (by decide) (fun h31 => ?_) (fun h31 => ?_)
  · refine g_iload_n (pc := 40) d_D_walkOver_40 rfl ?_
    refine g_topi (nI e) (by rw [← he]; simp [h31]) ?_
    refine g_istore_n (pc := 41) [(3, _), (2, _), (0, _), (1, _)] d_D_walkOver_41 (by decide) rfl ?_
    refine g_iconst (pc := 42) (v := nI 0) d_D_walkOver_42 (by decide) ?_
    refine g_istore (pc := 43) [(4, _), (3, _), (2, _), (0, _), (1, _)] d_D_walkOver_43 (by decide) rfl ?_
    refine g_pick [0, 1, 2, 3, 4] [(4, _), (3, _), (2, _), (0, _), (1, _)] rfl ?_
    exact key _ 0 _ _ rfl (Nat.zero_le _) hpop.1 ⟨fun j hj => pk_un hj, fun _ _ => rfl⟩
  · refine g_iload_n (pc := 34) d_D_walkOver_34 rfl ?_
    refine g_iconst (pc := 35) (v := nI 1) d_D_walkOver_35 (by decide) ?_
    refine g_nadd (pc := 36) d_D_walkOver_36 ?_
    refine g_goto (pc := 37) (tgt := 41) d_D_walkOver_37 (by decide) ?_
    refine g_topi (nI e) (by rw [← he]; simp [h31]) ?_
    refine g_istore_n (pc := 41) [(3, _), (2, _), (0, _), (1, _)] d_D_walkOver_41 (by decide) rfl ?_
    refine g_iconst (pc := 42) (v := nI 0) d_D_walkOver_42 (by decide) ?_
    refine g_istore (pc := 43) [(4, _), (3, _), (2, _), (0, _), (1, _)] d_D_walkOver_43 (by decide) rfl ?_
    refine g_pick [0, 1, 2, 3, 4] [(4, _), (3, _), (2, _), (0, _), (1, _)] rfl ?_
    exact key _ 0 _ _ rfl (Nat.zero_le _) hpop.1 ⟨fun j hj => pk_un hj, fun _ _ => rfl⟩
set_option maxRecDepth 100000 in
set_option maxHeartbeats 4000000 in
theorem c_D_addBinder {τ : Nat × Nat} {a : Nat → Nat} {i : Nat → Int32} {r : Nat → Nat → Int32} {L : Nat → Int64} {wr : pW} (d : List Nat) (tg ty v k : Nat) (row : List Nat) (htg : tg < 8) (hty : ty < 16) (hv : v < 4096) (hd : XD d i r) (hs : Seg (r 2) k row) (hp : Pol 1 row) (hk : k + row.length ≤ 1800) (hr : row.length ≤ 30) (hb : d.length + 31 < 100000) : pC m_D_addBinder τ [.ref (a 3), .int (nI tg), .int (nI ty), .int (nI v), .int (nI k)] (wX a i r L ++ wr) ((fun rr w2 => ∃ i2 r2, rr = none ∧ w2 = wX a i2 r2 L ++ wr ∧ XD (d ++ tok tg (v % 16) ty :: cls v [0] row) i2 r2 ∧ DW i r i2 r2)) := by
  have key : ∀ (rest : List Nat) (p : Nat) (sk d1 : List Nat) (i1 : Nat → Int32) (r1 : Nat → Nat → Int32), Pol sk.length rest → Seg (r 2) p rest → p + rest.length = k + row.length → (∀ e, e ∈ sk → e + rest.length ≤ 30) → WK sk i1 r1 → XD d1 i1 r1 → DW i r i1 r1 → d1 ++ cls v sk rest = d ++ tok tg (v % 16) ty :: cls v [0] row → d1.length + rest.length < 100000 → pG m_D_addBinder τ (fun rr w2 => ∃ i2 r2, rr = none ∧ w2 = wX a i2 r2 L ++ wr ∧ XD (d ++ tok tg (v % 16) ty :: cls v [0] row) i2 r2 ∧ DW i r i2 r2) 0 0 32 [(6, .int (nI p)), (5, .int (nI (k + row.length))), (0, .ref (a 3)), (1, .int (nI tg)), (2, .int (nI ty)), (3, .int (nI v)), (4, .int (nI k))] [] (wX a i1 r1 L ++ wr) := by
    intro rest
    induction rest with
    | nil =>
      intro p sk d1 i1 r1 hpo hsg he hsk hwk hx hdw hc hb1
      have he : p = k + row.length := he
      have hc : d1 ++ [] = d ++ tok tg (v % 16) ty :: cls v [0] row := by rw [← hc]; cases sk <;> rfl
      rw [List.append_nil] at hc
      refine g_iload (pc := 32) d_D_addBinder_32 rfl ?_
      refine g_iload (pc := 34) d_D_addBinder_34 rfl ?_
      refine g_nicmp_ge (pc := 36) (tgt := 89) d_D_addBinder_36 (by decide) (by omega) (by omega) (fun h36 => ?_) (fun h => absurd h (by omega))
      refine g_vret (pc := 89) d_D_addBinder_89 rfl (Nat.le_refl _) (Nat.le_refl _) ?_
      exact ⟨i1, r1, rfl, rfl, by rw [← hc]; exact hx, hdw⟩
    | cons t rest ih =>
      intro p sk d1 i1 r1 hpo hsg he hsk hwk hx hdw hc hb1
      obtain ⟨m, hm, hpo2⟩ := Pol_cons hpo
      obtain ⟨⟨ht1, ht2⟩, hsg2⟩ := Seg_cons hsg
      have he2 : p + 1 + rest.length = k + row.length := by simp at he; omega
      cases sk with
      | nil => simp at hm
      | cons dd s =>
        have hs2 : s.length = m := by simpa using hm
        subst hs2
        have hle := Pol_le hpo2
        have hdd := hsk dd (List.mem_cons_self)
        simp only [List.length_cons] at hdd hb1 he
        have hsk2 : ∀ e, e ∈ nxt t dd s → e + rest.length ≤ 30 := by
          intro e he
          rcases List.mem_append.mp he with h | h
          · have := List.eq_of_mem_replicate h
            rw [this]
            split <;> omega
          · have := hsk e (List.mem_cons_of_mem _ h)
            simp only [List.length_cons] at this
            omega
        have hpo3 : Pol (nxt t dd s).length rest := by
          rw [nxt, List.length_append, List.length_replicate, Nat.add_comm]
          exact hpo2
        refine g_iload (pc := 32) d_D_addBinder_32 rfl ?_
        refine g_iload (pc := 34) d_D_addBinder_34 rfl ?_
        refine g_nicmp_ge (pc := 36) (tgt := 89) d_D_addBinder_36 (by decide) (by omega) (by omega) (fun h => absurd h (by omega)) (fun h36 => ?_)
        refine g_aload_n (pc := 39) d_D_addBinder_39 rfl ?_
        refine gx_D_shelf (pc := 40) d_D_addBinder_40 lf_D_18 ?_
        refine g_iload (pc := 43) d_D_addBinder_43 rfl ?_
        refine g_callV (M' := m_S_token) (pc := 45) (q := 2) d_D_addBinder_45 lm_D_32 (c_S_token p t (by omega) (by rw [hdw.2 2 (by decide) (by decide)]; exact ht1)) v_S_token rfl rfl rfl (by decide) rfl (Nat.le_of_ble_eq_true rfl) ?_
        rintro _ _ ⟨rfl, rfl⟩
        show pG m_D_addBinder τ _ 0 0 48 _ (.int _ :: _) _
        refine g_istore (pc := 48) [(7, _), (6, _), (5, _), (0, _), (1, _), (2, _), (3, _), (4, _)] d_D_addBinder_48 (by decide) rfl ?_
        refine g_aload_n (pc := 50) d_D_addBinder_50 rfl ?_
        refine g_iload (pc := 51) d_D_addBinder_51 rfl ?_
        refine g_callV (M' := m_D_walkOver) (pc := 53) (q := 3) d_D_addBinder_53 lm_D_51 (c_D_walkOver dd s t hwk ht2 (by omega) (by omega)) v_D_walkOver rfl rfl rfl (by decide) rfl (Nat.le_of_ble_eq_true rfl) ?_
        rintro _ _ ⟨iw, rw_, rfl, rfl, hwk2, hkp2⟩
        show pG m_D_addBinder τ _ 0 0 56 _ (.int _ :: _) _
        refine g_istore (pc := 56) [(8, _), (7, _), (6, _), (5, _), (0, _), (1, _), (2, _), (3, _), (4, _)] d_D_addBinder_56 (by decide) rfl ?_
        refine g_aload_n (pc := 58) d_D_addBinder_58 rfl ?_
        refine g_iload (pc := 59) d_D_addBinder_59 rfl ?_
        refine g_iload_n (pc := 61) d_D_addBinder_61 rfl ?_
        refine g_nicmp_ne (pc := 62) (tgt := 78) d_D_addBinder_62 (by decide) (by omega) (by omega) (fun h62 => ?_) (fun h62 => ?_)
        · refine g_iload (pc := 78) d_D_addBinder_78 rfl ?_
          refine g_callV (M' := m_D_add) (pc := 80) (q := 3) d_D_addBinder_80 lm_D_35 (c_D_add d1 _ (hx.mv (hkp2.1 2 (by decide)) (hkp2.2 4 (by decide))) (by omega)) v_D_add rfl rfl rfl (by decide) rfl (Nat.le_of_ble_eq_true rfl) ?_
          rintro _ _ ⟨i2, r2, rfl, rfl, hx2, hk2⟩
          show pG m_D_addBinder τ _ 0 0 83 _ _ _
          refine g_niinc (pc := 83) (d := 1) [(6, _), (8, _), (7, _), (5, _), (0, _), (1, _), (2, _), (3, _), (4, _)] d_D_addBinder_83 rfl (by decide) rfl ?_
          refine g_goto (pc := 86) (tgt := 32) d_D_addBinder_86 (by decide) ?_
          refine g_pick [0, 3, 4, 5, 6, 7, 8] [(6, _), (5, _), (0, _), (1, _), (2, _), (3, _), (4, _)] rfl ?_
          exact ih (p + 1) (nxt t dd s) _ i2 r2 hpo3 hsg2 he2 hsk2 (hwk2.mv (hk2.1 3 (by decide)) (hk2.2 5 (by decide))) hx2 (hdw.tr (hkp2.w.tr hk2.w)) (by rw [List.append_assoc, ← hc]; simp [cls, h62]) (by simp; omega)
        · refine g_iconst (pc := 65) (v := nI 2) d_D_addBinder_65 (by decide) ?_
          refine g_iload (pc := 66) d_D_addBinder_66 rfl ?_
          refine g_iload_n (pc := 68) d_D_addBinder_68 rfl ?_
          refine g_callS (M' := m_O_type) (pc := 69) d_D_addBinder_69 lm_D_39 (c_O_type v hv) v_O_type rfl (by decide) rfl (Nat.le_of_ble_eq_true rfl) ?_
          rintro _ _ ⟨rfl, rfl⟩
          show pG m_D_addBinder τ _ 0 0 72 _ (.int _ :: _) _
          refine g_callS (M' := m_O_of) (pc := 72) d_D_addBinder_72 lm_D_44 (c_O_of 2 dd (v % 16) (by decide) (by omega) (by omega)) v_O_of rfl (by decide) rfl (Nat.le_of_ble_eq_true rfl) ?_
          rintro _ _ ⟨rfl, rfl⟩
          show pG m_D_addBinder τ _ 0 0 75 _ (.int _ :: _) _
          refine g_goto (pc := 75) (tgt := 80) d_D_addBinder_75 (by decide) ?_
          refine g_callV (M' := m_D_add) (pc := 80) (q := 3) d_D_addBinder_80 lm_D_35 (c_D_add d1 _ (hx.mv (hkp2.1 2 (by decide)) (hkp2.2 4 (by decide))) (by omega)) v_D_add rfl rfl rfl (by decide) rfl (Nat.le_of_ble_eq_true rfl) ?_
          rintro _ _ ⟨i2, r2, rfl, rfl, hx2, hk2⟩
          show pG m_D_addBinder τ _ 0 0 83 _ _ _
          refine g_niinc (pc := 83) (d := 1) [(6, _), (8, _), (7, _), (5, _), (0, _), (1, _), (2, _), (3, _), (4, _)] d_D_addBinder_83 rfl (by decide) rfl ?_
          refine g_goto (pc := 86) (tgt := 32) d_D_addBinder_86 (by decide) ?_
          refine g_pick [0, 3, 4, 5, 6, 7, 8] [(6, _), (5, _), (0, _), (1, _), (2, _), (3, _), (4, _)] rfl ?_
          exact ih (p + 1) (nxt t dd s) _ i2 r2 hpo3 hsg2 he2 hsk2 (hwk2.mv (hk2.1 3 (by decide)) (hk2.2 5 (by decide))) hx2 (hdw.tr (hkp2.w.tr hk2.w)) (by rw [List.append_assoc, ← hc]; simp [cls, h62]) (by simp; omega)
  refine pC.of rfl (Nat.le_of_ble_eq_true rfl) ?_
  show pG m_D_addBinder τ _ 0 0 0 [(0, _), (1, _), (2, _), (3, _), (4, _)] [] _
  refine g_aload_n (pc := 0) d_D_addBinder_0 rfl ?_
  refine g_iload_n (pc := 1) d_D_addBinder_1 rfl ?_
  refine g_iload_n (pc := 2) d_D_addBinder_2 rfl ?_
  refine g_callS (M' := m_O_type) (pc := 3) d_D_addBinder_3 lm_D_39 (c_O_type v hv) v_O_type rfl (by decide) rfl (Nat.le_of_ble_eq_true rfl) ?_
  rintro _ _ ⟨rfl, rfl⟩
  show pG m_D_addBinder τ _ 0 0 6 _ (.int _ :: _) _
  refine g_iload_n (pc := 6) d_D_addBinder_6 rfl ?_
  refine g_callS (M' := m_O_of) (pc := 7) d_D_addBinder_7 lm_D_44 (c_O_of tg (v % 16) ty htg (by omega) hty) v_O_of rfl (by decide) rfl (Nat.le_of_ble_eq_true rfl) ?_
  rintro _ _ ⟨rfl, rfl⟩
  show pG m_D_addBinder τ _ 0 0 10 _ (.int _ :: _) _
  refine g_callV (M' := m_D_add) (pc := 10) (q := 3) d_D_addBinder_10 lm_D_35 (c_D_add d _ hd (by omega)) v_D_add rfl rfl rfl (by decide) rfl (Nat.le_of_ble_eq_true rfl) ?_
  rintro _ _ ⟨i2, r2, rfl, rfl, hx2, hk2⟩
  show pG m_D_addBinder τ _ 0 0 13 _ _ _
  refine g_aload_n (pc := 13) d_D_addBinder_13 rfl ?_
  refine gx_D_shelf (pc := 14) d_D_addBinder_14 lf_D_18 ?_
  refine g_iload (pc := 17) d_D_addBinder_17 rfl ?_
  refine g_callV (M' := m_S_behind) (pc := 19) (q := 2) d_D_addBinder_19 lm_D_26 (c_S_behind k row (by rw [hk2.2 2 (by decide)]; exact hs) hp hk) v_S_behind rfl rfl rfl (by decide) rfl (Nat.le_of_ble_eq_true rfl) ?_
  rintro _ _ ⟨rfl, rfl⟩
  show pG m_D_addBinder τ _ 0 0 22 _ (.int _ :: _) _
  refine g_istore (pc := 22) [(5, _), (0, _), (1, _), (2, _), (3, _), (4, _)] d_D_addBinder_22 (by decide) rfl ?_
  refine g_aload_n (pc := 24) d_D_addBinder_24 rfl ?_
  refine g_callV (M' := m_D_beginWalk) (pc := 25) (q := 3) d_D_addBinder_25 lm_D_48 (c_D_beginWalk) v_D_beginWalk rfl rfl rfl (by decide) rfl (Nat.le_of_ble_eq_true rfl) ?_
  rintro _ _ ⟨iw, rw_, rfl, rfl, hwk2, hkp2⟩
  show pG m_D_addBinder τ _ 0 0 28 _ _ _
  refine g_iload (pc := 28) d_D_addBinder_28 rfl ?_
  refine g_istore (pc := 30) [(6, _), (5, _), (0, _), (1, _), (2, _), (3, _), (4, _)] d_D_addBinder_30 (by decide) rfl ?_
  refine g_pick [0, 1, 2, 3, 4, 5, 6] [(6, _), (5, _), (0, _), (1, _), (2, _), (3, _), (4, _)] rfl ?_
  exact key row k [0] (d ++ [tok tg (v % 16) ty]) _ _ hp hs rfl (fun e he => by simp at he; subst he; omega) hwk2 (hx2.mv (hkp2.1 2 (by decide)) (hkp2.2 4 (by decide))) (hk2.w.tr hkp2.w) (by simp) (by simp; omega)
set_option maxRecDepth 100000 in
set_option maxHeartbeats 4000000 in
theorem c_D_addFilling {τ : Nat × Nat} {a : Nat → Nat} {i : Nat → Int32} {r : Nat → Nat → Int32} {L : Nat → Int64} {wr : pW} (d : List Nat) (k kf : Nat) (row f : List Nat) (hd : XD d i r) (hs : Seg (r 2) k row) (hp : Pol 1 row) (hk : k + row.length ≤ 1800) (hr : row.length ≤ 30) (hsf : Seg (r 2) kf f) (hpf : Pol 1 f) (hkf : kf + f.length ≤ 1800) (hrf : f.length ≤ 30) (hb : d.length + 900 < 100000) : pC m_D_addFilling τ [.ref (a 3), .int (nI k), .int (nI kf)] (wX a i r L ++ wr) ((fun rr w2 => ∃ i2 r2, rr = none ∧ w2 = wX a i2 r2 L ++ wr ∧ XD (d ++ fil f [0] row) i2 r2 ∧ DW i r i2 r2)) := by
  have key : ∀ (rest : List Nat) (p : Nat) (sk d1 : List Nat) (i1 : Nat → Int32) (r1 : Nat → Nat → Int32), Pol sk.length rest → Seg (r 2) p rest → p + rest.length = k + row.length → (∀ e, e ∈ sk → e + rest.length ≤ 30) → WK sk i1 r1 → XD d1 i1 r1 → DW i r i1 r1 → d1 ++ fil f sk rest = d ++ fil f [0] row → d1.length + 30 * rest.length < 100000 → pG m_D_addFilling τ (fun rr w2 => ∃ i2 r2, rr = none ∧ w2 = wX a i2 r2 L ++ wr ∧ XD (d ++ fil f [0] row) i2 r2 ∧ DW i r i2 r2) 0 0 16 [(4, .int (nI p)), (3, .int (nI (k + row.length))), (0, .ref (a 3)), (1, .int (nI k)), (2, .int (nI kf))] [] (wX a i1 r1 L ++ wr) := by
    intro rest
    induction rest with
    | nil =>
      intro p sk d1 i1 r1 hpo hsg he hsk hwk hx hdw hc hb1
      have he : p = k + row.length := he
      have hc : d1 ++ [] = d ++ fil f [0] row := by rw [← hc]; cases sk <;> rfl
      rw [List.append_nil] at hc
      refine g_iload (pc := 16) d_D_addFilling_16 rfl ?_
      refine g_iload_n (pc := 18) d_D_addFilling_18 rfl ?_
      refine g_nicmp_ge (pc := 19) (tgt := 80) d_D_addFilling_19 (by decide) (by omega) (by omega) (fun h19 => ?_) (fun h => absurd h (by omega))
      refine g_vret (pc := 80) d_D_addFilling_80 rfl (Nat.le_refl _) (Nat.le_refl _) ?_
      exact ⟨i1, r1, rfl, rfl, by rw [← hc]; exact hx, hdw⟩
    | cons t rest ih =>
      intro p sk d1 i1 r1 hpo hsg he hsk hwk hx hdw hc hb1
      obtain ⟨m, hm, hpo2⟩ := Pol_cons hpo
      obtain ⟨⟨ht1, ht2⟩, hsg2⟩ := Seg_cons hsg
      have he2 : p + 1 + rest.length = k + row.length := by simp at he; omega
      cases sk with
      | nil => simp at hm
      | cons dd s =>
        have hs2 : s.length = m := by simpa using hm
        subst hs2
        have hle := Pol_le hpo2
        have hdd := hsk dd (List.mem_cons_self)
        simp only [List.length_cons] at hdd hb1 he
        have hsk2 : ∀ e, e ∈ nxt t dd s → e + rest.length ≤ 30 := by
          intro e he
          rcases List.mem_append.mp he with h | h
          · have := List.eq_of_mem_replicate h
            rw [this]
            split <;> omega
          · have := hsk e (List.mem_cons_of_mem _ h)
            simp only [List.length_cons] at this
            omega
        have hpo3 : Pol (nxt t dd s).length rest := by
          rw [nxt, List.length_append, List.length_replicate, Nat.add_comm]
          exact hpo2
        refine g_iload (pc := 16) d_D_addFilling_16 rfl ?_
        refine g_iload_n (pc := 18) d_D_addFilling_18 rfl ?_
        refine g_nicmp_ge (pc := 19) (tgt := 80) d_D_addFilling_19 (by decide) (by omega) (by omega) (fun h => absurd h (by omega)) (fun h19 => ?_)
        refine g_aload_n (pc := 22) d_D_addFilling_22 rfl ?_
        refine gx_D_shelf (pc := 23) d_D_addFilling_23 lf_D_18 ?_
        refine g_iload (pc := 26) d_D_addFilling_26 rfl ?_
        refine g_callV (M' := m_S_token) (pc := 28) (q := 2) d_D_addFilling_28 lm_D_32 (c_S_token p t (by omega) (by rw [hdw.2 2 (by decide) (by decide)]; exact ht1)) v_S_token rfl rfl rfl (by decide) rfl (Nat.le_of_ble_eq_true rfl) ?_
        rintro _ _ ⟨rfl, rfl⟩
        show pG m_D_addFilling τ _ 0 0 31 _ (.int _ :: _) _
        refine g_istore (pc := 31) [(5, _), (4, _), (3, _), (0, _), (1, _), (2, _)] d_D_addFilling_31 (by decide) rfl ?_
        refine g_aload_n (pc := 33) d_D_addFilling_33 rfl ?_
        refine g_iload (pc := 34) d_D_addFilling_34 rfl ?_
        refine g_callV (M' := m_D_walkOver) (pc := 36) (q := 3) d_D_addFilling_36 lm_D_51 (c_D_walkOver dd s t hwk ht2 (by omega) (by omega)) v_D_walkOver rfl rfl rfl (by decide) rfl (Nat.le_of_ble_eq_true rfl) ?_
        rintro _ _ ⟨iw, rw_, rfl, rfl, hwk2, hkp2⟩
        show pG m_D_addFilling τ _ 0 0 39 _ (.int _ :: _) _
        refine g_istore (pc := 39) [(6, _), (5, _), (4, _), (3, _), (0, _), (1, _), (2, _)] d_D_addFilling_39 (by decide) rfl ?_
        refine g_iload (pc := 41) d_D_addFilling_41 rfl ?_
        refine g_callS (M' := m_O_tag) (pc := 43) d_D_addFilling_43 lm_D_54 (c_O_tag t ht2) v_O_tag rfl (by decide) rfl (Nat.le_of_ble_eq_true rfl) ?_
        rintro _ _ ⟨rfl, rfl⟩
        show pG m_D_addFilling τ _ 0 0 46 _ (.int _ :: _) _
        refine g_iconst (pc := 46) (v := nI 2) d_D_addFilling_46 (by decide) ?_
        refine g_nicmp_ne (pc := 47) (tgt := 68) d_D_addFilling_47 (by decide) (by omega) (by omega) (fun h47 => ?_) (fun h47 => ?_)
        · refine g_aload_n (pc := 68) d_D_addFilling_68 rfl ?_
          refine g_iload (pc := 69) d_D_addFilling_69 rfl ?_
          refine g_callV (M' := m_D_add) (pc := 71) (q := 3) d_D_addFilling_71 lm_D_35 (c_D_add d1 t (hx.mv (hkp2.1 2 (by decide)) (hkp2.2 4 (by decide))) (by omega)) v_D_add rfl rfl rfl (by decide) rfl (Nat.le_of_ble_eq_true rfl) ?_
          rintro _ _ ⟨i2, r2, rfl, rfl, hx2, hk2⟩
          show pG m_D_addFilling τ _ 0 0 74 _ _ _
          refine g_niinc (pc := 74) (d := 1) [(4, _), (6, _), (5, _), (3, _), (0, _), (1, _), (2, _)] d_D_addFilling_74 rfl (by decide) rfl ?_
          refine g_goto (pc := 77) (tgt := 16) d_D_addFilling_77 (by decide) ?_
          refine g_pick [0, 3, 4, 5, 6] [(4, _), (3, _), (0, _), (1, _), (2, _)] rfl ?_
          exact ih (p + 1) (nxt t dd s) _ i2 r2 hpo3 hsg2 he2 hsk2 (hwk2.mv (hk2.1 3 (by decide)) (hk2.2 5 (by decide))) hx2 (hdw.tr (hkp2.w.tr hk2.w)) (by rw [List.append_assoc, ← hc]; first | simp [fil, h47, h57] | simp [fil, h47]) (by simp; omega)
        · refine g_iload (pc := 50) d_D_addFilling_50 rfl ?_
          refine g_callS (M' := m_O_info) (pc := 52) d_D_addFilling_52 lm_D_57 (c_O_info t ht2) v_O_info rfl (by decide) rfl (Nat.le_of_ble_eq_true rfl) ?_
          rintro _ _ ⟨rfl, rfl⟩
          show pG m_D_addFilling τ _ 0 0 55 _ (.int _ :: _) _
          refine g_iload (pc := 55) d_D_addFilling_55 rfl ?_
          refine g_nicmp_ne (pc := 57) (tgt := 68) d_D_addFilling_57 (by decide) (by omega) (by omega) (fun h57 => ?_) (fun h57 => ?_)
          · refine g_aload_n (pc := 68) d_D_addFilling_68 rfl ?_
            refine g_iload (pc := 69) d_D_addFilling_69 rfl ?_
            refine g_callV (M' := m_D_add) (pc := 71) (q := 3) d_D_addFilling_71 lm_D_35 (c_D_add d1 t (hx.mv (hkp2.1 2 (by decide)) (hkp2.2 4 (by decide))) (by omega)) v_D_add rfl rfl rfl (by decide) rfl (Nat.le_of_ble_eq_true rfl) ?_
            rintro _ _ ⟨i2, r2, rfl, rfl, hx2, hk2⟩
            show pG m_D_addFilling τ _ 0 0 74 _ _ _
            refine g_niinc (pc := 74) (d := 1) [(4, _), (6, _), (5, _), (3, _), (0, _), (1, _), (2, _)] d_D_addFilling_74 rfl (by decide) rfl ?_
            refine g_goto (pc := 77) (tgt := 16) d_D_addFilling_77 (by decide) ?_
            refine g_pick [0, 3, 4, 5, 6] [(4, _), (3, _), (0, _), (1, _), (2, _)] rfl ?_
            exact ih (p + 1) (nxt t dd s) _ i2 r2 hpo3 hsg2 he2 hsk2 (hwk2.mv (hk2.1 3 (by decide)) (hk2.2 5 (by decide))) hx2 (hdw.tr (hkp2.w.tr hk2.w)) (by rw [List.append_assoc, ← hc]; first | simp [fil, h47, h57] | simp [fil, h47]) (by simp; omega)
          · refine g_aload_n (pc := 60) d_D_addFilling_60 rfl ?_
            refine g_iload_n (pc := 61) d_D_addFilling_61 rfl ?_
            refine g_callV (M' := m_D_addPart) (pc := 62) (q := 3) d_D_addFilling_62 lm_D_60 (c_D_addPart d1 kf f (hx.mv (hkp2.1 2 (by decide)) (hkp2.2 4 (by decide))) (by rw [hkp2.2 2 (by decide), hdw.2 2 (by decide) (by decide)]; exact hsf) hpf hkf (by omega)) v_D_addPart rfl rfl rfl (by decide) rfl (Nat.le_of_ble_eq_true rfl) ?_
            rintro _ _ ⟨i2, r2, rfl, rfl, hx2, hk2⟩
            show pG m_D_addFilling τ _ 0 0 65 _ _ _
            refine g_goto (pc := 65) (tgt := 74) d_D_addFilling_65 (by decide) ?_
            refine g_niinc (pc := 74) (d := 1) [(4, _), (6, _), (5, _), (3, _), (0, _), (1, _), (2, _)] d_D_addFilling_74 rfl (by decide) rfl ?_
            refine g_goto (pc := 77) (tgt := 16) d_D_addFilling_77 (by decide) ?_
            refine g_pick [0, 3, 4, 5, 6] [(4, _), (3, _), (0, _), (1, _), (2, _)] rfl ?_
            exact ih (p + 1) (nxt t dd s) _ i2 r2 hpo3 hsg2 he2 hsk2 (hwk2.mv (hk2.1 3 (by decide)) (hk2.2 5 (by decide))) hx2 (hdw.tr (hkp2.w.tr hk2.w)) (by rw [List.append_assoc, ← hc]; first | simp [fil, h47, h57] | simp [fil, h47]) (by simp; omega)
  refine pC.of rfl (Nat.le_of_ble_eq_true rfl) ?_
  show pG m_D_addFilling τ _ 0 0 0 [(0, _), (1, _), (2, _)] [] _
  refine g_aload_n (pc := 0) d_D_addFilling_0 rfl ?_
  refine gx_D_shelf (pc := 1) d_D_addFilling_1 lf_D_18 ?_
  refine g_iload_n (pc := 4) d_D_addFilling_4 rfl ?_
  refine g_callV (M' := m_S_behind) (pc := 5) (q := 2) d_D_addFilling_5 lm_D_26 (c_S_behind k row hs hp hk) v_S_behind rfl rfl rfl (by decide) rfl (Nat.le_of_ble_eq_true rfl) ?_
  rintro _ _ ⟨rfl, rfl⟩
  show pG m_D_addFilling τ _ 0 0 8 _ (.int _ :: _) _
  refine g_istore_n (pc := 8) [(3, _), (0, _), (1, _), (2, _)] d_D_addFilling_8 (by decide) rfl ?_
  refine g_aload_n (pc := 9) d_D_addFilling_9 rfl ?_
  refine g_callV (M' := m_D_beginWalk) (pc := 10) (q := 3) d_D_addFilling_10 lm_D_48 (c_D_beginWalk) v_D_beginWalk rfl rfl rfl (by decide) rfl (Nat.le_of_ble_eq_true rfl) ?_
  rintro _ _ ⟨iw, rw_, rfl, rfl, hwk2, hkp2⟩
  show pG m_D_addFilling τ _ 0 0 13 _ _ _
  refine g_iload_n (pc := 13) d_D_addFilling_13 rfl ?_
  refine g_istore (pc := 14) [(4, _), (3, _), (0, _), (1, _), (2, _)] d_D_addFilling_14 (by decide) rfl ?_
  refine g_pick [0, 1, 2, 3, 4] [(4, _), (3, _), (0, _), (1, _), (2, _)] rfl ?_
  exact key row k [0] d _ _ hp hs rfl (fun e he => by simp at he; subst he; omega) hwk2 (hd.mv (hkp2.1 2 (by decide)) (hkp2.2 4 (by decide))) hkp2.w rfl (by omega)
set_option maxRecDepth 100000 in
set_option maxHeartbeats 4000000 in
theorem c_D_addReplacing {τ : Nat × Nat} {a : Nat → Nat} {i : Nat → Int32} {r : Nat → Nat → Int32} {L : Nat → Int64} {wr : pW} (d : List Nat) (k v kf : Nat) (row f : List Nat) (hv : v < 4096) (hd : XD d i r) (hs : Seg (r 2) k row) (hp : Pol 1 row) (hk : k + row.length ≤ 1800) (hr : row.length ≤ 30) (hsf : Seg (r 2) kf f) (hpf : Pol 1 f) (hkf : kf + f.length ≤ 1800) (hrf : f.length ≤ 30) (hb : d.length + 900 < 100000) : pC m_D_addReplacing τ [.ref (a 3), .int (nI k), .int (nI v), .int (nI kf)] (wX a i r L ++ wr) ((fun rr w2 => ∃ i2 r2, rr = none ∧ w2 = wX a i2 r2 L ++ wr ∧ XD (d ++ rpl v f row) i2 r2 ∧ DK i r i2 r2)) := by
  have key : ∀ (rest : List Nat) (p : Nat) (d1 : List Nat) (i1 : Nat → Int32) (r1 : Nat → Nat → Int32), Seg (r 2) p rest → p + rest.length = k + row.length → XD d1 i1 r1 → DK i r i1 r1 → d1 ++ rpl v f rest = d ++ rpl v f row → d1.length + 30 * rest.length < 100000 → pG m_D_addReplacing τ (fun rr w2 => ∃ i2 r2, rr = none ∧ w2 = wX a i2 r2 L ++ wr ∧ XD (d ++ rpl v f row) i2 r2 ∧ DK i r i2 r2) 0 0 13 [(5, .int (nI p)), (4, .int (nI (k + row.length))), (0, .ref (a 3)), (1, .int (nI k)), (2, .int (nI v)), (3, .int (nI kf))] [] (wX a i1 r1 L ++ wr) := by
    intro rest
    induction rest with
    | nil =>
      intro p d1 i1 r1 hsg he hx hdw hc hb1
      have he : p = k + row.length := he
      have hc : d1 ++ [] = d ++ rpl v f row := hc
      rw [List.append_nil] at hc
      refine g_iload (pc := 13) d_D_addReplacing_13 rfl ?_
      refine g_iload (pc := 15) d_D_addReplacing_15 rfl ?_
      refine g_nicmp_ge (pc := 17) (tgt := 60) d_D_addReplacing_17 (by decide) (by omega) (by omega) (fun h17 => ?_) (fun h => absurd h (by omega))
      refine g_vret (pc := 60) d_D_addReplacing_60 rfl (Nat.le_refl _) (Nat.le_refl _) ?_
      exact ⟨i1, r1, rfl, rfl, by rw [← hc]; exact hx, hdw⟩
    | cons t rest ih =>
      intro p d1 i1 r1 hsg he hx hdw hc hb1
      obtain ⟨⟨ht1, ht2⟩, hsg2⟩ := Seg_cons hsg
      have he2 : p + 1 + rest.length = k + row.length := by simp at he; omega
      simp only [List.length_cons] at hb1 he
      refine g_iload (pc := 13) d_D_addReplacing_13 rfl ?_
      refine g_iload (pc := 15) d_D_addReplacing_15 rfl ?_
      refine g_nicmp_ge (pc := 17) (tgt := 60) d_D_addReplacing_17 (by decide) (by omega) (by omega) (fun h => absurd h (by omega)) (fun h17 => ?_)
      refine g_aload_n (pc := 20) d_D_addReplacing_20 rfl ?_
      refine gx_D_shelf (pc := 21) d_D_addReplacing_21 lf_D_18 ?_
      refine g_iload (pc := 24) d_D_addReplacing_24 rfl ?_
      refine g_callV (M' := m_S_token) (pc := 26) (q := 2) d_D_addReplacing_26 lm_D_32 (c_S_token p t (by omega) (by rw [hdw.2 2 (by decide)]; exact ht1)) v_S_token rfl rfl rfl (by decide) rfl (Nat.le_of_ble_eq_true rfl) ?_
      rintro _ _ ⟨rfl, rfl⟩
      show pG m_D_addReplacing τ _ 0 0 29 _ (.int _ :: _) _
      refine g_iload_n (pc := 29) d_D_addReplacing_29 rfl ?_
      refine g_nicmp_ne (pc := 30) (tgt := 41) d_D_addReplacing_30 (by decide) (by omega) (by omega) (fun h30 => ?_) (fun h30 => ?_)
      · refine g_aload_n (pc := 41) d_D_addReplacing_41 rfl ?_
        refine g_aload_n (pc := 42) d_D_addReplacing_42 rfl ?_
        refine gx_D_shelf (pc := 43) d_D_addReplacing_43 lf_D_18 ?_
        refine g_iload (pc := 46) d_D_addReplacing_46 rfl ?_
        refine g_callV (M' := m_S_token) (pc := 48) (q := 2) d_D_addReplacing_48 lm_D_32 (c_S_token p t (by omega) (by rw [hdw.2 2 (by decide)]; exact ht1)) v_S_token rfl rfl rfl (by decide) rfl (Nat.le_of_ble_eq_true rfl) ?_
        rintro _ _ ⟨rfl, rfl⟩
        show pG m_D_addReplacing τ _ 0 0 51 _ (.int _ :: _) _
        refine g_callV (M' := m_D_add) (pc := 51) (q := 3) d_D_addReplacing_51 lm_D_35 (c_D_add d1 t hx (by omega)) v_D_add rfl rfl rfl (by decide) rfl (Nat.le_of_ble_eq_true rfl) ?_
        rintro _ _ ⟨i2, r2, rfl, rfl, hx2, hk2⟩
        show pG m_D_addReplacing τ _ 0 0 54 _ _ _
        refine g_niinc (pc := 54) (d := 1) [(5, _), (4, _), (0, _), (1, _), (2, _), (3, _)] d_D_addReplacing_54 rfl (by decide) rfl ?_
        refine g_goto (pc := 57) (tgt := 13) d_D_addReplacing_57 (by decide) ?_
        refine g_pick [0, 1, 2, 3, 4, 5] [(5, _), (4, _), (0, _), (1, _), (2, _), (3, _)] rfl ?_
        exact ih (p + 1) _ i2 r2 hsg2 he2 hx2 (hdw.tr hk2) (by rw [List.append_assoc, ← hc]; simp [rpl, h30]) (by simp; omega)
      · refine g_aload_n (pc := 33) d_D_addReplacing_33 rfl ?_
        refine g_iload_n (pc := 34) d_D_addReplacing_34 rfl ?_
        refine g_callV (M' := m_D_addPart) (pc := 35) (q := 3) d_D_addReplacing_35 lm_D_60 (c_D_addPart d1 kf f hx (by rw [hdw.2 2 (by decide)]; exact hsf) hpf hkf (by omega)) v_D_addPart rfl rfl rfl (by decide) rfl (Nat.le_of_ble_eq_true rfl) ?_
        rintro _ _ ⟨i2, r2, rfl, rfl, hx2, hk2⟩
        show pG m_D_addReplacing τ _ 0 0 38 _ _ _
        refine g_goto (pc := 38) (tgt := 54) d_D_addReplacing_38 (by decide) ?_
        refine g_niinc (pc := 54) (d := 1) [(5, _), (4, _), (0, _), (1, _), (2, _), (3, _)] d_D_addReplacing_54 rfl (by decide) rfl ?_
        refine g_goto (pc := 57) (tgt := 13) d_D_addReplacing_57 (by decide) ?_
        refine g_pick [0, 1, 2, 3, 4, 5] [(5, _), (4, _), (0, _), (1, _), (2, _), (3, _)] rfl ?_
        exact ih (p + 1) _ i2 r2 hsg2 he2 hx2 (hdw.tr hk2) (by rw [List.append_assoc, ← hc]; simp [rpl, h30]) (by simp; omega)
  refine pC.of rfl (Nat.le_of_ble_eq_true rfl) ?_
  show pG m_D_addReplacing τ _ 0 0 0 [(0, _), (1, _), (2, _), (3, _)] [] _
  refine g_aload_n (pc := 0) d_D_addReplacing_0 rfl ?_
  refine gx_D_shelf (pc := 1) d_D_addReplacing_1 lf_D_18 ?_
  refine g_iload_n (pc := 4) d_D_addReplacing_4 rfl ?_
  refine g_callV (M' := m_S_behind) (pc := 5) (q := 2) d_D_addReplacing_5 lm_D_26 (c_S_behind k row hs hp hk) v_S_behind rfl rfl rfl (by decide) rfl (Nat.le_of_ble_eq_true rfl) ?_
  rintro _ _ ⟨rfl, rfl⟩
  show pG m_D_addReplacing τ _ 0 0 8 _ (.int _ :: _) _
  refine g_istore (pc := 8) [(4, _), (0, _), (1, _), (2, _), (3, _)] d_D_addReplacing_8 (by decide) rfl ?_
  refine g_iload_n (pc := 10) d_D_addReplacing_10 rfl ?_
  refine g_istore (pc := 11) [(5, _), (4, _), (0, _), (1, _), (2, _), (3, _)] d_D_addReplacing_11 (by decide) rfl ?_
  refine g_pick [0, 1, 2, 3, 4, 5] [(5, _), (4, _), (0, _), (1, _), (2, _), (3, _)] rfl ?_
  exact key row k d _ _ hs rfl hd DK.rf rfl (by omega)
set_option maxRecDepth 100000 in
set_option maxHeartbeats 4000000 in
theorem c_D_isAt {τ : Nat × Nat} {a : Nat → Nat} {i : Nat → Int32} {r : Nat → Nat → Int32} {L : Nat → Int64} {wr : pW} (d row : List Nat) (k : Nat) (hd : XD d i r) (h4 : ∀ x, x ∈ d → x < 4096) (hl : d.length ≤ 30) (he : row.length = d.length) (hs : Seg (r 2) k row) (hk : k + 30 ≤ 1800) : pC m_D_isAt τ [.ref (a 3), .int (nI k)] (wX a i r L ++ wr) ((fun rr w2 => rr = some (.int (bI (decide (d = row)))) ∧ w2 = wX a i r L ++ wr)) := by
  have hi := hd.1
  have key : ∀ m z : Nat, d.length - z = m → z ≤ d.length → (∀ y, y < z → d[y]? = row[y]?) → pG m_D_isAt τ (fun rr w2 => rr = some (.int (bI (decide (d = row)))) ∧ w2 = wX a i r L ++ wr) 0 0 2 [(2, .int (nI z)), (0, .ref (a 3)), (1, .int (nI k))] [] (wX a i r L ++ wr) := by
    intro m
    induction m with
    | zero =>
      intro z hm hz ag
      refine g_iload_n (pc := 2) d_D_isAt_2 rfl ?_
      refine g_aload_n (pc := 3) d_D_isAt_3 rfl ?_
      refine gx_D_length (pc := 4) d_D_isAt_4 lf_D_22 ?_
      rw [hi]
      refine g_nicmp_ge (pc := 7) (tgt := 37) d_D_isAt_7 (by decide) (by omega) (by omega) (fun h7 => ?_) (fun h => absurd h (by omega))
      refine g_iconst (pc := 37) (v := nI 1) d_D_isAt_37 (by decide) ?_
      refine g_zret (pc := 38) d_D_isAt_38 rfl (by decide) (Nat.le_refl _) (Nat.le_refl _) ?_
      refine ⟨congrArg (fun v => some (Value.int v)) (bI_1 ?_), rfl⟩
      rw [decide_eq_true_eq]
      apply List.ext_getElem?
      intro y
      by_cases hy : y < z
      · exact ag y hy
      · rw [List.getElem?_eq_none (by omega), List.getElem?_eq_none (by omega)]
    | succ m ih =>
      intro z hm hz ag
      have hz1 : z < d.length := by omega
      have hz2 : z < row.length := by omega
      have hx := hd.2 hl z d[z] (List.getElem?_eq_getElem hz1)
      have hy := hs z row[z] (List.getElem?_eq_getElem hz2)
      have hx4 := h4 d[z] (List.getElem_mem hz1)
      generalize hX : d[z] = X at hx hx4
      generalize hY : row[z] = Y at hy
      obtain ⟨hy1, hy2⟩ := hy
      refine g_iload_n (pc := 2) d_D_isAt_2 rfl ?_
      refine g_aload_n (pc := 3) d_D_isAt_3 rfl ?_
      refine gx_D_length (pc := 4) d_D_isAt_4 lf_D_22 ?_
      rw [hi]
      refine g_nicmp_ge (pc := 7) (tgt := 37) d_D_isAt_7 (by decide) (by omega) (by omega) (fun h => absurd h (by omega)) (fun h7 => ?_)
      refine g_aload_n (pc := 10) d_D_isAt_10 rfl ?_
      refine gx_D_row (pc := 11) d_D_isAt_11 lf_D_9 ?_
      refine g_iload_n (pc := 14) d_D_isAt_14 rfl ?_
      refine glx_D_row (pc := 15) (v := nI X) d_D_isAt_15 (vp_in_nI (by omega) (by decide)) (by rw [nI_clamp (by omega)]; exact hx) ?_
      refine g_aload_n (pc := 16) d_D_isAt_16 rfl ?_
      refine gx_D_shelf (pc := 17) d_D_isAt_17 lf_D_18 ?_
      refine g_iload_n (pc := 20) d_D_isAt_20 rfl ?_
      refine g_iload_n (pc := 21) d_D_isAt_21 rfl ?_
      refine g_nadd (pc := 22) d_D_isAt_22 ?_
      refine g_callV (M' := m_S_token) (pc := 23) (q := 2) d_D_isAt_23 lm_D_32 (c_S_token (k + z) Y (by omega) hy1) v_S_token rfl rfl rfl (by decide) rfl (Nat.le_of_ble_eq_true rfl) ?_
      rintro _ _ ⟨rfl, rfl⟩
      show pG m_D_isAt τ _ 0 0 26 _ (.int _ :: _) _
      refine g_nicmp_eq (pc := 26) (tgt := 31) d_D_isAt_26 (by decide) (by omega) (by omega) (fun h26 => ?_) (fun h26 => ?_)
      · refine g_niinc (pc := 31) (d := 1) [(2, _), (0, _), (1, _)] d_D_isAt_31 rfl (by decide) rfl ?_
        refine g_goto (pc := 34) (tgt := 2) d_D_isAt_34 (by decide) ?_
        exact ih (z + 1) (by omega) (by omega) (lt_s ag (by rw [List.getElem?_eq_getElem hz1, List.getElem?_eq_getElem hz2, hX, hY, h26]))
      · refine g_iconst (pc := 29) (v := nI 0) d_D_isAt_29 (by decide) ?_
        refine g_zret (pc := 30) d_D_isAt_30 rfl (by decide) (Nat.le_refl _) (Nat.le_refl _) ?_
        exact ⟨congrArg (fun v => some (Value.int v)) (bI_0 (by
          rw [decide_eq_false_iff_not]
          intro e
          subst e
          exact h26 (hX.symm.trans hY))), rfl⟩
  refine pC.of rfl (Nat.le_of_ble_eq_true rfl) ?_
  show pG m_D_isAt τ _ 0 0 0 [(0, _), (1, _)] [] _
  refine g_iconst (pc := 0) (v := nI 0) d_D_isAt_0 (by decide) ?_
  refine g_istore_n (pc := 1) [(2, _), (0, _), (1, _)] d_D_isAt_1 (by decide) rfl ?_
  exact key _ 0 rfl (Nat.zero_le _) lt_0
set_option maxRecDepth 100000 in
set_option maxHeartbeats 4000000 in
theorem c_D_copyTo {τ : Nat × Nat} {a : Nat → Nat} {i : Nat → Int32} {r : Nat → Nat → Int32} {L : Nat → Int64} {wr : pW} (k c : Nat) (hi : i 2 = nI c) (hc : c ≤ 30) (hk : k + c ≤ 1800) : pC m_D_copyTo τ [.ref (a 3), .ref (a 7), .int (nI k)] (wX a i r L ++ wr) (fun rr w2 => rr = none ∧ w2 = wX a i (va_up r 2 (va_cpy (r 4) (r 2) 0 k c)) L ++ wr) := by
  refine pC.of rfl (Nat.le_of_ble_eq_true rfl) ?_
  show pG m_D_copyTo τ _ 0 0 0 [(0, _), (1, _), (2, _)] [] _
  refine g_aload_n (pc := 0) d_D_copyTo_0 rfl ?_
  refine gx_D_row (pc := 1) d_D_copyTo_1 lf_D_9 ?_
  refine g_iconst (pc := 4) (v := nI 0) d_D_copyTo_4 (by decide) ?_
  refine g_aload_n (pc := 5) d_D_copyTo_5 rfl ?_
  refine g_iload_n (pc := 6) d_D_copyTo_6 rfl ?_
  refine g_aload_n (pc := 7) d_D_copyTo_7 rfl ?_
  refine gx_D_length (pc := 8) d_D_copyTo_8 lf_D_22 ?_
  rw [hi]
  refine g_copyi (pc := 11) (q0 := 9) (q1 := 7) (wX a i (va_up r 2 (va_cpy (r 4) (r 2) (nI 0).toNatClampNeg (nI k).toNatClampNeg (nI c).toNatClampNeg)) L ++ wr) d_D_copyTo_11 lm_D_63 (by decide) (Nat.le_of_ble_eq_true rfl) rfl rfl (nI_pos (by decide)) (nI_pos (by omega)) (nI_pos (by omega)) (by rw [nI_clamp (by decide), nI_clamp (by omega)]; omega) (by rw [nI_clamp (by omega), nI_clamp (by omega)]; omega) rfl ?_
  refine g_vret (pc := 14) d_D_copyTo_14 rfl (Nat.le_refl _) (Nat.le_refl _) ?_
  exact ⟨rfl, by rw [nI_clamp (by decide), nI_clamp (by omega), nI_clamp (by omega)]⟩
