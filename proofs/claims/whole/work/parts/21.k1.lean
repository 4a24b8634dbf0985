/-! ProofKernel: helpers. By wip/whole/m_k1.py -/
theorem tyR_lt (row : List Nat) : tyR row < 16 := Nat.mod_lt _ (by decide)
set_option maxRecDepth 100000 in
set_option maxHeartbeats 4000000 in
theorem c_K_typeAt {τ : Nat × Nat} {a : Nat → Nat} {i : Nat → Int32} {r : Nat → Nat → Int32} {L : Nat → Int64} {wr : pW} (k : Nat) (row : List Nat) (h : PA (r 2) k row) : pC m_K_typeAt τ [.ref (a 0), .int (nI k)] (wX a i r L ++ wr) (fun rr w2 => rr = some (.int (nI (tyR row))) ∧ w2 = wX a i r L ++ wr) := by
  refine pC.of rfl (Nat.le_of_ble_eq_true rfl) ?_
  show pG m_K_typeAt τ _ 0 0 0 [(0, _), (1, _)] [] _
  refine g_aload_n (pc := 0) d_K_typeAt_0 rfl ?_
  refine gx_K_shelf (pc := 1) d_K_typeAt_1 lf_K_19 ?_
  refine g_iload_n (pc := 4) d_K_typeAt_4 rfl ?_
  refine g_callV (M' := m_S_token) (pc := 5) (q := 2) d_K_typeAt_5 lm_K_90 (c_S_token k (hdt row) h.hd.1 h.hd.2.1) v_S_token rfl rfl rfl (by decide) rfl (Nat.le_of_ble_eq_true rfl) ?_
  rintro _ _ ⟨rfl, rfl⟩
  show pG m_K_typeAt τ _ 0 0 8 _ (.int _ :: _) _
  refine g_callS (M' := m_O_type) (pc := 8) d_K_typeAt_8 lm_K_164 (c_O_type (hdt row) h.hd.2.2) v_O_type rfl (by decide) rfl (Nat.le_of_ble_eq_true rfl) ?_
  rintro _ _ ⟨rfl, rfl⟩
  show pG m_K_typeAt τ _ 0 0 11 _ (.int _ :: _) _
  refine g_iret (pc := 11) d_K_typeAt_11 rfl (Nat.le_refl _) (Nat.le_refl _) ?_
  exact ⟨rfl, rfl⟩
set_option maxRecDepth 100000 in
set_option maxHeartbeats 4000000 in
theorem c_K_isA {τ : Nat × Nat} {a : Nat → Nat} {i : Nat → Int32} {r : Nat → Nat → Int32} {L : Nat → Int64} {wr : pW} (tg k : Nat) (row : List Nat) (htg : tg < 8) (h : PA (r 2) k row) : pC m_K_isA τ [.ref (a 0), .int (nI tg), .int (nI k)] (wX a i r L ++ wr) (fun rr w2 => rr = some (.int (bI (decide (tgR row = tg)))) ∧ w2 = wX a i r L ++ wr) := by
  refine pC.of rfl (Nat.le_of_ble_eq_true rfl) ?_
  show pG m_K_isA τ _ 0 0 0 [(0, _), (1, _), (2, _)] [] _
  refine g_aload_n (pc := 0) d_K_isA_0 rfl ?_
  refine gx_K_shelf (pc := 1) d_K_isA_1 lf_K_19 ?_
  refine g_iload_n (pc := 4) d_K_isA_4 rfl ?_
  refine g_callV (M' := m_S_token) (pc := 5) (q := 2) d_K_isA_5 lm_K_90 (c_S_token k (hdt row) h.hd.1 h.hd.2.1) v_S_token rfl rfl rfl (by decide) rfl (Nat.le_of_ble_eq_true rfl) ?_
  rintro _ _ ⟨rfl, rfl⟩
  show pG m_K_isA τ _ 0 0 8 _ (.int _ :: _) _
  refine g_callS (M' := m_O_tag) (pc := 8) d_K_isA_8 lm_K_167 (c_O_tag (hdt row) h.hd.2.2) v_O_tag rfl (by decide) rfl (Nat.le_of_ble_eq_true rfl) ?_
  rintro _ _ ⟨rfl, rfl⟩
  show pG m_K_isA τ _ 0 0 11 _ (.int _ :: _) _
  refine g_iload_n (pc := 11) d_K_isA_11 rfl ?_
  have h4 := h.hd.2.2
  refine g_nicmp_ne (pc := 12) (tgt := 19) d_K_isA_12 (by decide) (by omega) (by omega) (fun h12 => ?_) (fun h12 => ?_)
  · refine g_iconst (pc := 19) (v := nI 0) d_K_isA_19 (by decide) ?_
    refine g_zret (pc := 20) d_K_isA_20 rfl (by decide) (Nat.le_refl _) (Nat.le_refl _) ?_
    refine ⟨congrArg (fun v => some (Value.int v)) ?_, rfl⟩
    first | exact bI_1 (by rw [decide_eq_true_eq]; omega) | exact bI_0 (by rw [decide_eq_false_iff_not]; omega)
  · refine g_iconst (pc := 15) (v := nI 1) d_K_isA_15 (by decide) ?_
    refine g_goto (pc := 16) (tgt := 20) d_K_isA_16 (by decide) ?_
    refine g_zret (pc := 20) d_K_isA_20 rfl (by decide) (Nat.le_refl _) (Nat.le_refl _) ?_
    refine ⟨congrArg (fun v => some (Value.int v)) ?_, rfl⟩
    first | exact bI_1 (by rw [decide_eq_true_eq]; omega) | exact bI_0 (by rw [decide_eq_false_iff_not]; omega)
theorem dcl_some {Tm : List (List Nat)} {n z : Nat} {row : List Nat} (h : Tm[z]? = some row) (h1 : tgR row = 1) (h2 : inR row = n) (g : ∀ y, y < z → ∀ ro, Tm[y]? = some ro → ¬ (tgR ro = 1 ∧ inR ro = n)) : dcl Tm n = some (tyR row) := by
  unfold dcl
  obtain ⟨hz, e⟩ := List.getElem?_eq_some_iff.mp h
  have : Tm.find? (fun row => decide (tgR row = 1) && decide (inR row = n)) = some row := by
    rw [List.find?_eq_some_iff_getElem]
    refine ⟨by simp [h1, h2], z, hz, e, fun j hj => ?_⟩
    have := g j hj Tm[j] (List.getElem?_eq_getElem (by omega))
    simp only [Bool.not_eq_true', Bool.and_eq_false_iff, decide_eq_false_iff_not]
    by_cases c : tgR Tm[j] = 1
    · exact Or.inr (fun q => this ⟨c, q⟩)
    · exact Or.inl c
  rw [this]
  rfl
theorem dcl_none {Tm : List (List Nat)} {n : Nat} (g : ∀ y, y < Tm.length → ∀ ro, Tm[y]? = some ro → ¬ (tgR ro = 1 ∧ inR ro = n)) : dcl Tm n = none := by
  unfold dcl
  rw [List.find?_eq_none.mpr]
  · rfl
  · intro ro hro
    obtain ⟨y, hy⟩ := List.mem_iff_getElem?.mp hro
    have := g y (List.getElem?_eq_some_iff.mp hy).1 ro hy
    simp only [Bool.and_eq_true, decide_eq_true_eq]
    exact this
def dclI (Tm : List (List Nat)) (n : Nat) : Int32 := match dcl Tm n with
  | some t => nI t
  | none => -1
set_option maxRecDepth 100000 in
set_option maxHeartbeats 4000000 in
theorem c_K_declaredType {τ : Nat × Nat} {a : Nat → Nat} {i : Nat → Int32} {r : Nat → Nat → Int32} {L : Nat → Int64} {wr : pW} (Ty : List (Nat × Nat)) (Tm : List (List Nat)) (n : Nat) (h : XS Tm i r) (ok : TmOk Ty Tm) (hn : n < 4) : pC m_K_declaredType τ [.ref (a 0), .int (nI n)] (wX a i r L ++ wr) ((fun rr w2 => rr = some (.int (dclI Tm n)) ∧ w2 = wX a i r L ++ wr)) := by
  have hc := h.1
  have h60 := h.2.1
  have key : ∀ m z : Nat, Tm.length - z = m → z ≤ Tm.length → (∀ y, y < z → ∀ ro, Tm[y]? = some ro → ¬ (tgR ro = 1 ∧ inR ro = n)) → pG m_K_declaredType τ (fun rr w2 => rr = some (.int (dclI Tm n)) ∧ w2 = wX a i r L ++ wr) 0 0 2 [(2, .int (nI z)), (0, .ref (a 0)), (1, .int (nI n))] [] (wX a i r L ++ wr) := by
    intro m
    induction m with
    | zero =>
      intro z hm hz ag
      refine g_iload_n (pc := 2) d_K_declaredType_2 rfl ?_
      refine g_aload_n (pc := 3) d_K_declaredType_3 rfl ?_
      refine gx_K_shelf (pc := 4) d_K_declaredType_4 lf_K_19 ?_
      refine g_callV (M' := m_S_count) (pc := 7) (q := 2) d_K_declaredType_7 lm_K_131 (c_S_count) v_S_count rfl rfl rfl (by decide) rfl (Nat.le_of_ble_eq_true rfl) ?_
      rintro _ _ ⟨rfl, rfl⟩
      show pG m_K_declaredType τ _ 0 0 10 _ (.int _ :: _) _
      rw [hc]
      refine g_nicmp_ge (pc := 10) (tgt := 56) d_K_declaredType_10 (by decide) (by omega) (by omega) (fun h10 => ?_) (fun h => absurd h (by omega))
      refine g_iconst (pc := 56) (v := -1) d_K_declaredType_56 (by decide) ?_
      refine g_iret (pc := 57) d_K_declaredType_57 rfl (Nat.le_refl _) (Nat.le_refl _) ?_
      refine ⟨congrArg (fun v => some (Value.int v)) ?_, rfl⟩
      rw [dclI, dcl_none (fun y hy => ag y (by omega))]
    | succ m ih =>
      intro z hm hz ag
      obtain ⟨row, hrow⟩ : ∃ row, Tm[z]? = some row := ⟨_, List.getElem?_eq_getElem (by omega)⟩
      have hpa := h.pa ok hrow
      have hd3 := hpa.hd.2.2
      refine g_iload_n (pc := 2) d_K_declaredType_2 rfl ?_
      refine g_aload_n (pc := 3) d_K_declaredType_3 rfl ?_
      refine gx_K_shelf (pc := 4) d_K_declaredType_4 lf_K_19 ?_
      refine g_callV (M' := m_S_count) (pc := 7) (q := 2) d_K_declaredType_7 lm_K_131 (c_S_count) v_S_count rfl rfl rfl (by decide) rfl (Nat.le_of_ble_eq_true rfl) ?_
      rintro _ _ ⟨rfl, rfl⟩
      show pG m_K_declaredType τ _ 0 0 10 _ (.int _ :: _) _
      rw [hc]
      refine g_nicmp_ge (pc := 10) (tgt := 56) d_K_declaredType_10 (by decide) (by omega) (by omega) (fun h => absurd h (by omega)) (fun h10 => ?_)
      refine g_aload_n (pc := 13) d_K_declaredType_13 rfl ?_
      refine gx_K_shelf (pc := 14) d_K_declaredType_14 lf_K_19 ?_
      refine g_aload_n (pc := 17) d_K_declaredType_17 rfl ?_
      refine gx_K_shelf (pc := 18) d_K_declaredType_18 lf_K_19 ?_
      refine g_iload_n (pc := 21) d_K_declaredType_21 rfl ?_
      refine g_callV (M' := m_S_start) (pc := 22) (q := 2) d_K_declaredType_22 lm_K_69 (c_S_start z) v_S_start rfl rfl rfl (by decide) rfl (Nat.le_of_ble_eq_true rfl) ?_
      rintro _ _ ⟨rfl, rfl⟩
      show pG m_K_declaredType τ _ 0 0 25 _ (.int _ :: _) _
      refine g_callV (M' := m_S_token) (pc := 25) (q := 2) d_K_declaredType_25 lm_K_90 (c_S_token (30 * z) (hdt row) hpa.hd.1 hpa.hd.2.1) v_S_token rfl rfl rfl (by decide) rfl (Nat.le_of_ble_eq_true rfl) ?_
      rintro _ _ ⟨rfl, rfl⟩
      show pG m_K_declaredType τ _ 0 0 28 _ (.int _ :: _) _
      refine g_istore_n (pc := 28) [(3, _), (2, _), (0, _), (1, _)] d_K_declaredType_28 (by decide) rfl ?_
      refine g_iload_n (pc := 29) d_K_declaredType_29 rfl ?_
      refine g_callS (M' := m_O_tag) (pc := 30) d_K_declaredType_30 lm_K_167 (c_O_tag (hdt row) hd3) v_O_tag rfl (by decide) rfl (Nat.le_of_ble_eq_true rfl) ?_
      rintro _ _ ⟨rfl, rfl⟩
      show pG m_K_declaredType τ _ 0 0 33 _ (.int _ :: _) _
      refine g_iconst (pc := 33) (v := nI 1) d_K_declaredType_33 (by decide) ?_
      refine g_nicmp_ne (pc := 34) (tgt := 50) d_K_declaredType_34 (by decide) (by omega) (by omega) (fun h34 => ?_) (fun h34 => ?_)
      · refine g_niinc (pc := 50) (d := 1) [(2, _), (3, _), (0, _), (1, _)] d_K_declaredType_50 rfl (by decide) rfl ?_
        refine g_goto (pc := 53) (tgt := 2) d_K_declaredType_53 (by decide) ?_
        refine g_pick [0, 2, 3] [(2, _), (0, _), (1, _)] rfl ?_
        exact ih (z + 1) (by omega) (by omega) (lt_s ag (fun ro hro => by
          rw [hrow] at hro
          have e := Option.some.inj hro
          subst e
          first | exact fun q => h34 q.1 | exact fun q => h42 q.2))
      · refine g_iload_n (pc := 37) d_K_declaredType_37 rfl ?_
        refine g_callS (M' := m_O_info) (pc := 38) d_K_declaredType_38 lm_K_170 (c_O_info (hdt row) hd3) v_O_info rfl (by decide) rfl (Nat.le_of_ble_eq_true rfl) ?_
        rintro _ _ ⟨rfl, rfl⟩
        show pG m_K_declaredType τ _ 0 0 41 _ (.int _ :: _) _
        refine g_iload_n (pc := 41) d_K_declaredType_41 rfl ?_
        refine g_nicmp_ne (pc := 42) (tgt := 50) d_K_declaredType_42 (by decide) (by omega) (by omega) (fun h42 => ?_) (fun h42 => ?_)
        · refine g_niinc (pc := 50) (d := 1) [(2, _), (3, _), (0, _), (1, _)] d_K_declaredType_50 rfl (by decide) rfl ?_
          refine g_goto (pc := 53) (tgt := 2) d_K_declaredType_53 (by decide) ?_
          refine g_pick [0, 2, 3] [(2, _), (0, _), (1, _)] rfl ?_
          exact ih (z + 1) (by omega) (by omega) (lt_s ag (fun ro hro => by
            rw [hrow] at hro
            have e := Option.some.inj hro
            subst e
            first | exact fun q => h34 q.1 | exact fun q => h42 q.2))
        · refine g_iload_n (pc := 45) d_K_declaredType_45 rfl ?_
          refine g_callS (M' := m_O_type) (pc := 46) d_K_declaredType_46 lm_K_164 (c_O_type (hdt row) hd3) v_O_type rfl (by decide) rfl (Nat.le_of_ble_eq_true rfl) ?_
          rintro _ _ ⟨rfl, rfl⟩
          show pG m_K_declaredType τ _ 0 0 49 _ (.int _ :: _) _
          refine g_iret (pc := 49) d_K_declaredType_49 rfl (Nat.le_refl _) (Nat.le_refl _) ?_
          refine ⟨congrArg (fun v => some (Value.int v)) ?_, rfl⟩
          rw [dclI, dcl_some hrow h34 h42 ag]
  refine pC.of rfl (Nat.le_of_ble_eq_true rfl) ?_
  show pG m_K_declaredType τ _ 0 0 0 [(0, _), (1, _)] [] _
  refine g_iconst (pc := 0) (v := nI 0) d_K_declaredType_0 (by decide) ?_
  refine g_istore_n (pc := 1) [(2, _), (0, _), (1, _)] d_K_declaredType_1 (by decide) rfl ?_
  exact key _ 0 rfl (Nat.zero_le _) (fun y hy => absurd hy (Nat.not_lt_zero y))
theorem PA.mv {f g : Nat → Int32} {k : Nat} {row : List Nat} (h : PA f k row) (e : g = f) : PA g k row := by rw [e]; exact h
set_option maxRecDepth 100000 in
set_option maxHeartbeats 4000000 in
theorem c_K_draftJoint {τ : Nat × Nat} {a : Nat → Nat} {i : Nat → Int32} {r : Nat → Nat → Int32} {L : Nat → Int64} {wr : pW} {d : List Nat} (tg l q : Nat) (A B : List Nat) (htg : tg < 8) (hd : XD d i r) (hA : PA (r 2) l A) (hB : PA (r 2) q B) (hb : d.length + 100 < 100000) : pC m_K_draftJoint τ [.ref (a 0), .int (nI tg), .int (nI l), .int (nI q)] (wX a i r L ++ wr) ((fun rr w2 => ∃ i2 r2, rr = none ∧ w2 = wX a i2 r2 L ++ wr ∧ XD (d ++ sJn tg A B) i2 r2 ∧ DK i r i2 r2)) := by
  refine pC.of rfl (Nat.le_of_ble_eq_true rfl) ?_
  show pG m_K_draftJoint τ _ 0 0 0 [(0, _), (1, _), (2, _), (3, _)] [] _
  refine g_aload_n (pc := 0) d_K_draftJoint_0 rfl ?_
  refine gx_K_draft (pc := 1) d_K_draftJoint_1 lf_K_28 ?_
  refine g_iload_n (pc := 4) d_K_draftJoint_4 rfl ?_
  refine g_iconst (pc := 5) (v := nI 0) d_K_draftJoint_5 (by decide) ?_
  refine g_iconst (pc := 6) (v := nI 0) d_K_draftJoint_6 (by decide) ?_
  refine g_callS (M' := m_O_of) (pc := 7) d_K_draftJoint_7 lm_K_50 (c_O_of tg 0 0 htg (by decide) (by decide)) v_O_of rfl (by decide) rfl (Nat.le_of_ble_eq_true rfl) ?_
  rintro _ _ ⟨rfl, rfl⟩
  show pG m_K_draftJoint τ _ 0 0 10 _ (.int _ :: _) _
  refine g_callV (M' := m_D_add) (pc := 10) (q := 3) d_K_draftJoint_10 lm_K_56 (c_D_add d _ hd (by omega)) v_D_add rfl rfl rfl (by decide) rfl (Nat.le_of_ble_eq_true rfl) ?_
  rintro _ _ ⟨i2, r2, rfl, rfl, hx2, hk2⟩
  show pG m_K_draftJoint τ _ 0 0 13 _ _ _
  refine g_aload_n (pc := 13) d_K_draftJoint_13 rfl ?_
  refine gx_K_draft (pc := 14) d_K_draftJoint_14 lf_K_28 ?_
  refine g_iload_n (pc := 17) d_K_draftJoint_17 rfl ?_
  refine g_callV (M' := m_D_addPart) (pc := 18) (q := 3) d_K_draftJoint_18 lm_K_176 (c_D_addPart _ l A hx2 (hA.mv (hk2.2 2 (by decide))).1 hA.2.1 hA.2.2.1 (by have := hA.2.2.2; simp; omega)) v_D_addPart rfl rfl rfl (by decide) rfl (Nat.le_of_ble_eq_true rfl) ?_
  rintro _ _ ⟨i3, r3, rfl, rfl, hx3, hk3⟩
  show pG m_K_draftJoint τ _ 0 0 21 _ _ _
  refine g_aload_n (pc := 21) d_K_draftJoint_21 rfl ?_
  refine gx_K_draft (pc := 22) d_K_draftJoint_22 lf_K_28 ?_
  refine g_iload_n (pc := 25) d_K_draftJoint_25 rfl ?_
  refine g_callV (M' := m_D_addPart) (pc := 26) (q := 3) d_K_draftJoint_26 lm_K_176 (c_D_addPart _ q B hx3 (hB.mv ((hk2.tr hk3).2 2 (by decide))).1 hB.2.1 hB.2.2.1 (by have := hA.2.2.2; have := hB.2.2.2; simp; omega)) v_D_addPart rfl rfl rfl (by decide) rfl (Nat.le_of_ble_eq_true rfl) ?_
  rintro _ _ ⟨i4, r4, rfl, rfl, hx4, hk4⟩
  show pG m_K_draftJoint τ _ 0 0 29 _ _ _
  refine g_vret (pc := 29) d_K_draftJoint_29 rfl (Nat.le_refl _) (Nat.le_refl _) ?_
  exact ⟨i4, r4, rfl, rfl, by have := hx4; simpa [sJn] using this, (hk2.tr hk3).tr hk4⟩
set_option maxRecDepth 100000 in
set_option maxHeartbeats 4000000 in
theorem c_K_draftApplication {τ : Nat × Nat} {a : Nat → Nat} {i : Nat → Int32} {r : Nat → Nat → Int32} {L : Nat → Int64} {wr : pW} {d : List Nat} (Ty : List (Nat × Nat)) (l q x : Nat) (A B : List Nat) (hT : XT Ty i r) (ht : tks Ty (tyR A) x = true) (hd : XD d i r) (hA : PA (r 2) l A) (hB : PA (r 2) q B) (hb : d.length + 100 < 100000) : pC m_K_draftApplication τ [.ref (a 0), .int (nI l), .int (nI q)] (wX a i r L ++ wr) ((fun rr w2 => ∃ i2 r2, rr = none ∧ w2 = wX a i2 r2 L ++ wr ∧ XD (d ++ sAp Ty A B) i2 r2 ∧ DK i r i2 r2)) := by
  refine pC.of rfl (Nat.le_of_ble_eq_true rfl) ?_
  show pG m_K_draftApplication τ _ 0 0 0 [(0, _), (1, _), (2, _)] [] _
  have hres := res_at hT ht
  refine g_aload_n (pc := 0) d_K_draftApplication_0 rfl ?_
  refine gx_K_draft (pc := 1) d_K_draftApplication_1 lf_K_28 ?_
  refine g_iconst (pc := 4) (v := nI 5) d_K_draftApplication_4 (by decide) ?_
  refine g_iconst (pc := 5) (v := nI 0) d_K_draftApplication_5 (by decide) ?_
  refine g_aload_n (pc := 6) d_K_draftApplication_6 rfl ?_
  refine gx_K_types (pc := 7) d_K_draftApplication_7 lf_K_10 ?_
  refine g_aload_n (pc := 10) d_K_draftApplication_10 rfl ?_
  refine g_iload_n (pc := 11) d_K_draftApplication_11 rfl ?_
  refine g_callV (M' := m_K_typeAt) (pc := 12) (q := 0) d_K_draftApplication_12 lm_K_72 (c_K_typeAt l A hA) v_K_typeAt rfl rfl rfl (by decide) rfl (Nat.le_of_ble_eq_true rfl) ?_
  rintro _ _ ⟨rfl, rfl⟩
  show pG m_K_draftApplication τ _ 0 0 15 _ (.int _ :: _) _
  refine g_callV (M' := m_T_result) (pc := 15) (q := 1) d_K_draftApplication_15 lm_K_173 (c_T_result (tyR A) (tyR_lt A)) v_T_result rfl rfl rfl (by decide) rfl (Nat.le_of_ble_eq_true rfl) ?_
  rintro _ _ ⟨rfl, rfl⟩
  show pG m_K_draftApplication τ _ 0 0 18 _ (.int _ :: _) _
  rw [hres.1]
  refine g_callS (M' := m_O_of) (pc := 18) d_K_draftApplication_18 lm_K_50 (c_O_of 5 0 (res Ty (tyR A)) (by decide) (by decide) hres.2.1) v_O_of rfl (by decide) rfl (Nat.le_of_ble_eq_true rfl) ?_
  rintro _ _ ⟨rfl, rfl⟩
  show pG m_K_draftApplication τ _ 0 0 21 _ (.int _ :: _) _
  refine g_callV (M' := m_D_add) (pc := 21) (q := 3) d_K_draftApplication_21 lm_K_56 (c_D_add d _ hd (by omega)) v_D_add rfl rfl rfl (by decide) rfl (Nat.le_of_ble_eq_true rfl) ?_
  rintro _ _ ⟨i2, r2, rfl, rfl, hx2, hk2⟩
  show pG m_K_draftApplication τ _ 0 0 24 _ _ _
  refine g_aload_n (pc := 24) d_K_draftApplication_24 rfl ?_
  refine gx_K_draft (pc := 25) d_K_draftApplication_25 lf_K_28 ?_
  refine g_iload_n (pc := 28) d_K_draftApplication_28 rfl ?_
  refine g_callV (M' := m_D_addPart) (pc := 29) (q := 3) d_K_draftApplication_29 lm_K_176 (c_D_addPart _ l A hx2 (hA.mv (hk2.2 2 (by decide))).1 hA.2.1 hA.2.2.1 (by have := hA.2.2.2; simp; omega)) v_D_addPart rfl rfl rfl (by decide) rfl (Nat.le_of_ble_eq_true rfl) ?_
  rintro _ _ ⟨i3, r3, rfl, rfl, hx3, hk3⟩
  show pG m_K_draftApplication τ _ 0 0 32 _ _ _
  refine g_aload_n (pc := 32) d_K_draftApplication_32 rfl ?_
  refine gx_K_draft (pc := 33) d_K_draftApplication_33 lf_K_28 ?_
  refine g_iload_n (pc := 36) d_K_draftApplication_36 rfl ?_
  refine g_callV (M' := m_D_addPart) (pc := 37) (q := 3) d_K_draftApplication_37 lm_K_176 (c_D_addPart _ q B hx3 (hB.mv ((hk2.tr hk3).2 2 (by decide))).1 hB.2.1 hB.2.2.1 (by have := hA.2.2.2; have := hB.2.2.2; simp; omega)) v_D_addPart rfl rfl rfl (by decide) rfl (Nat.le_of_ble_eq_true rfl) ?_
  rintro _ _ ⟨i4, r4, rfl, rfl, hx4, hk4⟩
  show pG m_K_draftApplication τ _ 0 0 40 _ _ _
  refine g_vret (pc := 40) d_K_draftApplication_40 rfl (Nat.le_refl _) (Nat.le_refl _) ?_
  exact ⟨i4, r4, rfl, rfl, by have := hx4; simpa [sAp] using this, (hk2.tr hk3).tr hk4⟩
/-- types and draft alone have changed -/
def TW (i : Nat → Int32) (r : Nat → Nat → Int32) (i2 : Nat → Int32) (r2 : Nat → Nat → Int32) : Prop := (∀ j, j ≠ 0 → j ≠ 2 → j ≠ 3 → i2 j = i j) ∧ ∀ j, j ≠ 0 → j ≠ 1 → j ≠ 4 → j ≠ 5 → r2 j = r j
theorem TW.tr {i i2 i3 : Nat → Int32} {r r2 r3 : Nat → Nat → Int32} (h : TW i r i2 r2) (g : TW i2 r2 i3 r3) : TW i r i3 r3 := ⟨fun j h1 h2 h3 => (g.1 j h1 h2 h3).trans (h.1 j h1 h2 h3), fun j h1 h2 h3 h4 => (g.2 j h1 h2 h3 h4).trans (h.2 j h1 h2 h3 h4)⟩
theorem DW.t {i i2 : Nat → Int32} {r r2 : Nat → Nat → Int32} (h : DW i r i2 r2) : TW i r i2 r2 := ⟨fun j _ h2 h3 => h.1 j h2 h3, fun j _ _ h2 h3 => h.2 j h2 h3⟩
theorem XI.tw {Ty Ty2 : List (Nat × Nat)} {Tm : List (List Nat)} {Th : List Thm} {d d2 : List Nat} {i i2 : Nat → Int32} {r r2 : Nat → Nat → Int32} {L : Nat → Int64} (h : XI Ty Tm Th d i r L) (k : TW i r i2 r2) (ht : XT Ty2 i2 r2) (hd : XD d2 i2 r2) : XI Ty2 Tm Th d2 i2 r2 L :=
  ⟨ht, h.2.1.mv (k.1 1 (by decide) (by decide) (by decide)) (k.2 2 (by decide) (by decide) (by decide) (by decide)) (k.2 3 (by decide) (by decide) (by decide) (by decide)), hd, h.2.2.2.mv (k.1 4 (by decide) (by decide) (by decide)) (k.2 6 (by decide) (by decide) (by decide) (by decide)) (k.2 7 (by decide) (by decide) (by decide) (by decide)) (k.2 8 (by decide) (by decide) (by decide) (by decide)) (k.2 9 (by decide) (by decide) (by decide) (by decide))⟩
theorem sNum_cases (Ty : List (Nat × Nat)) (l q : Nat) (h : Ty.length ≤ 13) : (sNum Ty l q = (-4, Ty)) ∨ ∃ j, j < 13 ∧ j < (sNum Ty l q).2.length ∧ (sNum Ty l q).1 = nI (3 + j) ∧ (sNum Ty l q).2[j]? = some (l, q) ∧ (sNum Ty l q).2.length ≤ 13 ∧ (∀ (z : Nat) (p : Nat × Nat), Ty[z]? = some p → (sNum Ty l q).2[z]? = some p) ∧ Ty.length ≤ (sNum Ty l q).2.length := by
  cases e : fnd Ty (l, q) with
  | some j =>
    right
    have hj := fnd_at e
    have hl := (List.getElem?_eq_some_iff.mp hj).1
    rw [sNum_some e]
    exact ⟨j, by omega, hl, rfl, hj, h, fun _ _ hz => hz, Nat.le_refl _⟩
  | none =>
    by_cases f : Ty.length = 13
    · left
      exact sNum_full e f
    · right
      rw [sNum_new e f]
      exact ⟨Ty.length, by omega, by simp, rfl, by simp, by simp; omega, fun z p hz => by rw [List.getElem?_append_left (List.getElem?_eq_some_iff.mp hz).1]; exact hz, by simp⟩
set_option maxRecDepth 100000 in
set_option maxHeartbeats 4000000 in
theorem c_K_draftAbstraction {τ : Nat × Nat} {a : Nat → Nat} {i : Nat → Int32} {r : Nat → Nat → Int32} {L : Nat → Int64} {wr : pW} {d : List Nat} (Ty : List (Nat × Nat)) (kv k : Nat) (vr row : List Nat) (hT : XT Ty i r) (hd : XD d i r) (hv : PA (r 2) kv vr) (hr : PA (r 2) k row) (hb : d.length + 31 < 100000) : pC m_K_draftAbstraction τ [.ref (a 0), .int (nI kv), .int (nI k)] (wX a i r L ++ wr) ((fun rr w2 => ∃ i2 r2, rr = none ∧ w2 = wX a i2 r2 L ++ wr ∧ XT (sAb Ty d (hdt vr) row).1 i2 r2 ∧ XD (sAb Ty d (hdt vr) row).2 i2 r2 ∧ TW i r i2 r2)) := by
  refine pC.of rfl (Nat.le_of_ble_eq_true rfl) ?_
  show pG m_K_draftAbstraction τ _ 0 0 0 [(0, _), (1, _), (2, _)] [] _
  refine g_aload_n (pc := 0) d_K_draftAbstraction_0 rfl ?_
  refine gx_K_types (pc := 1) d_K_draftAbstraction_1 lf_K_10 ?_
  refine g_aload_n (pc := 4) d_K_draftAbstraction_4 rfl ?_
  refine g_iload_n (pc := 5) d_K_draftAbstraction_5 rfl ?_
  refine g_callV (M' := m_K_typeAt) (pc := 6) (q := 0) d_K_draftAbstraction_6 lm_K_72 (c_K_typeAt kv vr hv) v_K_typeAt rfl rfl rfl (by decide) rfl (Nat.le_of_ble_eq_true rfl) ?_
  rintro _ _ ⟨rfl, rfl⟩
  show pG m_K_draftAbstraction τ _ 0 0 9 _ (.int _ :: _) _
  refine g_aload_n (pc := 9) d_K_draftAbstraction_9 rfl ?_
  refine g_iload_n (pc := 10) d_K_draftAbstraction_10 rfl ?_
  refine g_callV (M' := m_K_typeAt) (pc := 11) (q := 0) d_K_draftAbstraction_11 lm_K_72 (c_K_typeAt k row hr) v_K_typeAt rfl rfl rfl (by decide) rfl (Nat.le_of_ble_eq_true rfl) ?_
  rintro _ _ ⟨rfl, rfl⟩
  show pG m_K_draftAbstraction τ _ 0 0 14 _ (.int _ :: _) _
  refine g_callV (M' := m_T_numberOf) (pc := 14) (q := 1) d_K_draftAbstraction_14 lm_K_43 (c_T_numberOf Ty hT (tyR vr) (tyR row) (tyR_lt _) (tyR_lt _)) v_T_numberOf rfl rfl rfl (by decide) rfl (Nat.le_of_ble_eq_true rfl) ?_
  rintro _ _ ⟨i2, r2, rfl, rfl, hT2, hi2, hr2⟩
  show pG m_K_draftAbstraction τ _ 0 0 17 _ (.int _ :: _) _
  refine g_istore_n (pc := 17) [(3, _), (0, _), (1, _), (2, _)] d_K_draftAbstraction_17 (by decide) rfl ?_
  refine g_iload_n (pc := 18) d_K_draftAbstraction_18 rfl ?_
  refine g_bipush (pc := 19) (v := -4) d_K_draftAbstraction_19 (by decide) ?_
  refine g_icmp_ne (pc := 21) (tgt := 34) d_K_draftAbstraction_21 (by decide) (fun h21 => ?_) (fun h21 => ?_)
  · obtain ⟨j, hj, hj2, he, -, -, -, -⟩ := (sNum_cases Ty (tyR vr) (tyR row) hT.2.1).resolve_left (fun e => h21 (by rw [e]))
    refine g_aload_n (pc := 34) d_K_draftAbstraction_34 rfl ?_
    refine gx_K_draft (pc := 35) d_K_draftAbstraction_35 lf_K_28 ?_
    refine g_iconst (pc := 38) (v := nI 3) d_K_draftAbstraction_38 (by decide) ?_
    refine g_iload_n (pc := 39) d_K_draftAbstraction_39 rfl ?_
    rw [he]
    refine g_aload_n (pc := 40) d_K_draftAbstraction_40 rfl ?_
    refine gx_K_shelf (pc := 41) d_K_draftAbstraction_41 lf_K_19 ?_
    refine g_iload_n (pc := 44) d_K_draftAbstraction_44 rfl ?_
    refine g_callV (M' := m_S_token) (pc := 45) (q := 2) d_K_draftAbstraction_45 lm_K_90 (c_S_token kv (hdt vr) hv.hd.1 (by rw [hr2 2 (by decide) (by decide)]; exact hv.hd.2.1)) v_S_token rfl rfl rfl (by decide) rfl (Nat.le_of_ble_eq_true rfl) ?_
    rintro _ _ ⟨rfl, rfl⟩
    show pG m_K_draftAbstraction τ _ 0 0 48 _ (.int _ :: _) _
    refine g_iload_n (pc := 48) d_K_draftAbstraction_48 rfl ?_
    refine g_callV (M' := m_D_addBinder) (pc := 49) (q := 3) d_K_draftAbstraction_49 lm_K_93 (c_D_addBinder d 3 (3 + j) (hdt vr) k row (by decide) (by omega) hv.hd.2.2 (hd.mv (hi2 2 (by decide)) (hr2 4 (by decide) (by decide))) (by rw [hr2 2 (by decide) (by decide)]; exact hr.1) hr.2.1 hr.2.2.1 hr.2.2.2 (by omega)) v_D_addBinder rfl rfl rfl (by decide) rfl (Nat.le_of_ble_eq_true rfl) ?_
    rintro _ _ ⟨i3, r3, rfl, rfl, hx3, hk3⟩
    show pG m_K_draftAbstraction τ _ 0 0 52 _ _ _
    refine g_vret (pc := 52) d_K_draftAbstraction_52 rfl (Nat.le_refl _) (Nat.le_refl _) ?_
    first
    | (have e4 : (sNum Ty (hdt vr % 16) (tyR row)).1 = -4 := h21
       have hT3 : XT Ty i2 r2 := by
         rcases sNum_cases Ty (tyR vr) (tyR row) hT.2.1 with e | ⟨j, hj, -, he, -⟩
         · rw [e] at hT2; exact hT2
         · rw [he] at e4; exact absurd e4 (nI_m4 (by omega))
       refine ⟨_, _, rfl, rfl, ?_, ?_, ?_⟩
       · rw [sAb, if_pos e4]
         exact hT3.mv (pk_un (by decide)) rfl rfl
       · rw [sAb, if_pos e4]
         exact ⟨by rw [pk_us]; rfl, fun hl => by simp at hl⟩
       · exact ⟨fun q h0 h2 _ => (pk_un h2).trans (hi2 q h0), fun q h0 h1 _ _ => hr2 q h0 h1⟩)
    | (refine ⟨i3, r3, rfl, rfl, ?_, ?_, ?_⟩
       · rw [sAb, if_neg h21]
         exact hT2.mv (hk3.1 0 (by decide) (by decide)) (hk3.2 0 (by decide) (by decide)) (hk3.2 1 (by decide) (by decide))
       · rw [sAb, if_neg h21, he, nI_clamp (by omega)]
         exact hx3
       · exact TW.tr ⟨fun q h0 _ _ => hi2 q h0, fun q h0 h1 _ _ => hr2 q h0 h1⟩ hk3.t)
  · refine g_aload_n (pc := 24) d_K_draftAbstraction_24 rfl ?_
    refine gx_K_draft (pc := 25) d_K_draftAbstraction_25 lf_K_28 ?_
    refine g_callV (M' := m_D_spoil) (pc := 28) (q := 3) d_K_draftAbstraction_28 lm_K_179 (c_D_spoil) v_D_spoil rfl rfl rfl (by decide) rfl (Nat.le_of_ble_eq_true rfl) ?_
    rintro _ _ ⟨rfl, rfl⟩
    show pG m_K_draftAbstraction τ _ 0 0 31 _ _ _
    refine g_goto (pc := 31) (tgt := 52) d_K_draftAbstraction_31 (by decide) ?_
    refine g_vret (pc := 52) d_K_draftAbstraction_52 rfl (Nat.le_refl _) (Nat.le_refl _) ?_
    first
    | (have e4 : (sNum Ty (hdt vr % 16) (tyR row)).1 = -4 := h21
       have hT3 : XT Ty i2 r2 := by
         rcases sNum_cases Ty (tyR vr) (tyR row) hT.2.1 with e | ⟨j, hj, -, he, -⟩
         · rw [e] at hT2; exact hT2
         · rw [he] at e4; exact absurd e4 (nI_m4 (by omega))
       refine ⟨_, _, rfl, rfl, ?_, ?_, ?_⟩
       · rw [sAb, if_pos e4]
         exact hT3.mv (pk_un (by decide)) rfl rfl
       · rw [sAb, if_pos e4]
         exact ⟨by rw [pk_us]; rfl, fun hl => by simp at hl⟩
       · exact ⟨fun q h0 h2 _ => (pk_un h2).trans (hi2 q h0), fun q h0 h1 _ _ => hr2 q h0 h1⟩)
    | (refine ⟨i3, r3, rfl, rfl, ?_, ?_, ?_⟩
       · rw [sAb, if_neg h21]
         exact hT2.mv (hk3.1 0 (by decide) (by decide)) (hk3.2 0 (by decide) (by decide)) (hk3.2 1 (by decide) (by decide))
       · rw [sAb, if_neg h21, he, nI_clamp (by omega)]
         exact hx3
       · exact TW.tr ⟨fun q h0 _ _ => hi2 q h0, fun q h0 h1 _ _ => hr2 q h0 h1⟩ hk3.t)
def prB (x : Int32) (n : Nat) : Bool := decide (¬ x < 0) && (decide (x.toNatClampNeg / 64 < n) && decide (x.toNatClampNeg % 64 < n))
set_option maxRecDepth 100000 in
set_option maxHeartbeats 4000000 in
theorem c_K_isThere_0 {τ : Nat × Nat} {a : Nat → Nat} {i : Nat → Int32} {r : Nat → Nat → Int32} {L : Nat → Int64} {wr : pW} (x : Int32) : pC m_K_isThere τ [.ref (a 0), .int (nI 0), .int x] (wX a i r L ++ wr) (fun rr w2 => rr = some (.int (bI true)) ∧ w2 = wX a i r L ++ wr) := by
  refine pC.of rfl (Nat.le_of_ble_eq_true rfl) ?_
  show pG m_K_isThere τ _ 0 0 0 [(0, _), (1, _), (2, _)] [] _
  refine g_iload_n (pc := 0) d_K_isThere_0 rfl ?_
  refine g_tableOut (pc := 1) (tgt := 84) d_K_isThere_1 (by decide) (by decide) ?_
  refine g_iconst (pc := 84) (v := nI 1) d_K_isThere_84 (by decide) ?_
  refine g_zret (pc := 85) d_K_isThere_85 rfl (by decide) (Nat.le_refl _) (Nat.le_refl _) ?_
  refine ⟨congrArg (fun v => some (Value.int v)) ?_, rfl⟩
  rfl
set_option maxRecDepth 100000 in
set_option maxHeartbeats 4000000 in
theorem c_K_isThere_1 {τ : Nat × Nat} {a : Nat → Nat} {i : Nat → Int32} {r : Nat → Nat → Int32} {L : Nat → Int64} {wr : pW} (c : Nat) (hc : i 1 = nI c) (hb : c < 2 ^ 31) (x : Int32) : pC m_K_isThere τ [.ref (a 0), .int (nI 1), .int x] (wX a i r L ++ wr) (fun rr w2 => rr = some (.int (bI (ixB x c))) ∧ w2 = wX a i r L ++ wr) := by
  refine pC.of rfl (Nat.le_of_ble_eq_true rfl) ?_
  show pG m_K_isThere τ _ 0 0 0 [(0, _), (1, _), (2, _)] [] _
  refine g_iload_n (pc := 0) d_K_isThere_0 rfl ?_
  refine g_tableIn (pc := 1) (tgt := 28) d_K_isThere_1 (by decide) (by decide) rfl (by decide) ?_
  refine g_aload_n (pc := 28) d_K_isThere_28 rfl ?_
  refine gx_K_shelf (pc := 29) d_K_isThere_29 lf_K_19 ?_
  refine g_iload_n (pc := 32) d_K_isThere_32 rfl ?_
  refine g_callV (M' := m_S_has) (pc := 33) (q := 2) d_K_isThere_33 lm_K_68 (c_S_has c hc hb x) v_S_has rfl rfl rfl (by decide) rfl (Nat.le_of_ble_eq_true rfl) ?_
  rintro _ _ ⟨rfl, rfl⟩
  show pG m_K_isThere τ _ 0 0 36 _ (.int _ :: _) _
  refine g_zret (pc := 36) d_K_isThere_36 rfl (narrow_bI _) (Nat.le_refl _) (Nat.le_refl _) ?_
  exact ⟨rfl, rfl⟩
set_option maxRecDepth 100000 in
set_option maxHeartbeats 4000000 in
theorem c_K_isThere_2 {τ : Nat × Nat} {a : Nat → Nat} {i : Nat → Int32} {r : Nat → Nat → Int32} {L : Nat → Int64} {wr : pW} (c : Nat) (hc : i 4 = nI c) (hb : c < 2 ^ 31) (x : Int32) : pC m_K_isThere τ [.ref (a 0), .int (nI 2), .int x] (wX a i r L ++ wr) (fun rr w2 => rr = some (.int (bI (ixB x c))) ∧ w2 = wX a i r L ++ wr) := by
  refine pC.of rfl (Nat.le_of_ble_eq_true rfl) ?_
  show pG m_K_isThere τ _ 0 0 0 [(0, _), (1, _), (2, _)] [] _
  refine g_iload_n (pc := 0) d_K_isThere_0 rfl ?_
  refine g_tableIn (pc := 1) (tgt := 37) d_K_isThere_1 (by decide) (by decide) rfl (by decide) ?_
  refine g_aload_n (pc := 37) d_K_isThere_37 rfl ?_
  refine gx_K_book (pc := 38) d_K_isThere_38 lf_K_35 ?_
  refine g_iload_n (pc := 41) d_K_isThere_41 rfl ?_
  refine g_callV (M' := m_B_has) (pc := 42) (q := 4) d_K_isThere_42 lm_K_148 (c_B_has c hc hb x) v_B_has rfl rfl rfl (by decide) rfl (Nat.le_of_ble_eq_true rfl) ?_
  rintro _ _ ⟨rfl, rfl⟩
  show pG m_K_isThere τ _ 0 0 45 _ (.int _ :: _) _
  refine g_zret (pc := 45) d_K_isThere_45 rfl (narrow_bI _) (Nat.le_refl _) (Nat.le_refl _) ?_
  exact ⟨rfl, rfl⟩
set_option maxRecDepth 100000 in
set_option maxHeartbeats 4000000 in
theorem c_K_isThere_3 {τ : Nat × Nat} {a : Nat → Nat} {i : Nat → Int32} {r : Nat → Nat → Int32} {L : Nat → Int64} {wr : pW} (c : Nat) (hc : i 1 = nI c) (hb : c < 2 ^ 31) (x : Int32) : pC m_K_isThere τ [.ref (a 0), .int (nI 3), .int x] (wX a i r L ++ wr) (fun rr w2 => rr = some (.int (bI (prB x c))) ∧ w2 = wX a i r L ++ wr) := by
  refine pC.of rfl (Nat.le_of_ble_eq_true rfl) ?_
  show pG m_K_isThere τ _ 0 0 0 [(0, _), (1, _), (2, _)] [] _
  refine g_iload_n (pc := 0) d_K_isThere_0 rfl ?_
  refine g_tableIn (pc := 1) (tgt := 46) d_K_isThere_1 (by decide) (by decide) rfl (by decide) ?_
  refine g_iload_n (pc := 46) d_K_isThere_46 rfl ?_
  refine g_if_lt (pc := 47) (tgt := 82) d_K_isThere_47 (by decide) (fun h47 => ?_) (fun h47 => ?_)
  · refine g_iconst (pc := 82) (v := nI 0) d_K_isThere_82 (by decide) ?_
    refine g_zret (pc := 83) d_K_isThere_83 rfl (by decide) (Nat.le_refl _) (Nat.le_refl _) ?_
    refine ⟨congrArg (fun v => some (Value.int v)) ?_, rfl⟩
    first | (refine bI_0 ?_; simp [prB, h47]; done) | (rw [ixB_nI (by omega)] at h61; first | (refine bI_0 ?_; simp [prB, nI_clamp hq]; intro _ h9; simp at h61; omega) | (rw [ixB_nI (by omega)] at h75; first | (refine bI_1 ?_; simp [prB, nI_clamp hq, nI_pos hq]; simp at h61 h75; omega) | (refine bI_0 ?_; simp [prB, nI_clamp hq]; simp at h61 h75; intros; omega)))
  · obtain ⟨q, hq, rfl⟩ := nI_of h47
    refine g_aload_n (pc := 50) d_K_isThere_50 rfl ?_
    refine gx_K_shelf (pc := 51) d_K_isThere_51 lf_K_19 ?_
    refine g_iload_n (pc := 54) d_K_isThere_54 rfl ?_
    refine g_bipush (pc := 55) (v := nI 64) d_K_isThere_55 (by decide) ?_
    refine g_idiv (pc := 57) d_K_isThere_57 (by decide) ?_
    rw [pk_div hq (by decide) (by decide)]
    refine g_callV (M' := m_S_has) (pc := 58) (q := 2) d_K_isThere_58 lm_K_68 (c_S_has c hc hb _) v_S_has rfl rfl rfl (by decide) rfl (Nat.le_of_ble_eq_true rfl) ?_
    rintro _ _ ⟨rfl, rfl⟩
    show pG m_K_isThere τ _ 0 0 61 _ (.int _ :: _) _
    refine g_ifb_eq (pc := 61) (tgt := 82) d_K_isThere_61 (by decide) (fun h61 => ?_) (fun h61 => ?_)
    · refine g_iconst (pc := 82) (v := nI 0) d_K_isThere_82 (by decide) ?_
      refine g_zret (pc := 83) d_K_isThere_83 rfl (by decide) (Nat.le_refl _) (Nat.le_refl _) ?_
      refine ⟨congrArg (fun v => some (Value.int v)) ?_, rfl⟩
      first | (refine bI_0 ?_; simp [prB, h47]; done) | (rw [ixB_nI (by omega)] at h61; first | (refine bI_0 ?_; simp [prB, nI_clamp hq]; intro _ h9; simp at h61; omega) | (rw [ixB_nI (by omega)] at h75; first | (refine bI_1 ?_; simp [prB, nI_clamp hq, nI_pos hq]; simp at h61 h75; omega) | (refine bI_0 ?_; simp [prB, nI_clamp hq]; simp at h61 h75; intros; omega)))
    · refine g_aload_n (pc := 64) d_K_isThere_64 rfl ?_
      refine gx_K_shelf (pc := 65) d_K_isThere_65 lf_K_19 ?_
      refine g_iload_n (pc := 68) d_K_isThere_68 rfl ?_
      refine g_bipush (pc := 69) (v := nI 64) d_K_isThere_69 (by decide) ?_
      refine g_irem (pc := 71) d_K_isThere_71 (by decide) ?_
      rw [pk_rem hq (by decide) (by decide)]
      refine g_callV (M' := m_S_has) (pc := 72) (q := 2) d_K_isThere_72 lm_K_68 (c_S_has c hc hb _) v_S_has rfl rfl rfl (by decide) rfl (Nat.le_of_ble_eq_true rfl) ?_
      rintro _ _ ⟨rfl, rfl⟩
      show pG m_K_isThere τ _ 0 0 75 _ (.int _ :: _) _
      refine g_ifb_eq (pc := 75) (tgt := 82) d_K_isThere_75 (by decide) (fun h75 => ?_) (fun h75 => ?_)
      · refine g_iconst (pc := 82) (v := nI 0) d_K_isThere_82 (by decide) ?_
        refine g_zret (pc := 83) d_K_isThere_83 rfl (by decide) (Nat.le_refl _) (Nat.le_refl _) ?_
        refine ⟨congrArg (fun v => some (Value.int v)) ?_, rfl⟩
        first | (refine bI_0 ?_; simp [prB, h47]; done) | (rw [ixB_nI (by omega)] at h61; first | (refine bI_0 ?_; simp [prB, nI_clamp hq]; intro _ h9; simp at h61; omega) | (rw [ixB_nI (by omega)] at h75; first | (refine bI_1 ?_; simp [prB, nI_clamp hq, nI_pos hq]; simp at h61 h75; omega) | (refine bI_0 ?_; simp [prB, nI_clamp hq]; simp at h61 h75; intros; omega)))
      · refine g_iconst (pc := 78) (v := nI 1) d_K_isThere_78 (by decide) ?_
        refine g_goto (pc := 79) (tgt := 83) d_K_isThere_79 (by decide) ?_
        refine g_zret (pc := 83) d_K_isThere_83 rfl (by decide) (Nat.le_refl _) (Nat.le_refl _) ?_
        refine ⟨congrArg (fun v => some (Value.int v)) ?_, rfl⟩
        first | (refine bI_0 ?_; simp [prB, h47]; done) | (rw [ixB_nI (by omega)] at h61; first | (refine bI_0 ?_; simp [prB, nI_clamp hq]; intro _ h9; simp at h61; omega) | (rw [ixB_nI (by omega)] at h75; first | (refine bI_1 ?_; simp [prB, nI_clamp hq, nI_pos hq]; simp at h61 h75; omega) | (refine bI_0 ?_; simp [prB, nI_clamp hq]; simp at h61 h75; intros; omega)))
set_option maxRecDepth 100000 in
set_option maxHeartbeats 4000000 in
theorem c_K_startOf_0 {τ : Nat × Nat} {a : Nat → Nat} {i : Nat → Int32} {r : Nat → Nat → Int32} {L : Nat → Int64} {wr : pW} (x : Int32) : pC m_K_startOf τ [.ref (a 0), .int (nI 0), .int x] (wX a i r L ++ wr) (fun rr w2 => rr = some (.int (nI 0)) ∧ w2 = wX a i r L ++ wr) := by
  refine pC.of rfl (Nat.le_of_ble_eq_true rfl) ?_
  show pG m_K_startOf τ _ 0 0 0 [(0, _), (1, _), (2, _)] [] _
  refine g_iload_n (pc := 0) d_K_startOf_0 rfl ?_
  refine g_tableOut (pc := 1) (tgt := 65) d_K_startOf_1 (by decide) (by decide) ?_
  refine g_iconst (pc := 65) (v := nI 0) d_K_startOf_65 (by decide) ?_
  refine g_iret (pc := 66) d_K_startOf_66 rfl (Nat.le_refl _) (Nat.le_refl _) ?_
  exact ⟨rfl, rfl⟩
set_option maxRecDepth 100000 in
set_option maxHeartbeats 4000000 in
theorem c_K_startOf_1 {τ : Nat × Nat} {a : Nat → Nat} {i : Nat → Int32} {r : Nat → Nat → Int32} {L : Nat → Int64} {wr : pW} (t : Nat) : pC m_K_startOf τ [.ref (a 0), .int (nI 1), .int (nI t)] (wX a i r L ++ wr) (fun rr w2 => rr = some (.int (nI (30 * t))) ∧ w2 = wX a i r L ++ wr) := by
  refine pC.of rfl (Nat.le_of_ble_eq_true rfl) ?_
  show pG m_K_startOf τ _ 0 0 0 [(0, _), (1, _), (2, _)] [] _
  refine g_iload_n (pc := 0) d_K_startOf_0 rfl ?_
  refine g_tableIn (pc := 1) (tgt := 28) d_K_startOf_1 (by decide) (by decide) rfl (by decide) ?_
  refine g_aload_n (pc := 28) d_K_startOf_28 rfl ?_
  refine gx_K_shelf (pc := 29) d_K_startOf_29 lf_K_19 ?_
  refine g_iload_n (pc := 32) d_K_startOf_32 rfl ?_
  refine g_callV (M' := m_S_start) (pc := 33) (q := 2) d_K_startOf_33 lm_K_69 (c_S_start t) v_S_start rfl rfl rfl (by decide) rfl (Nat.le_of_ble_eq_true rfl) ?_
  rintro _ _ ⟨rfl, rfl⟩
  show pG m_K_startOf τ _ 0 0 36 _ (.int _ :: _) _
  refine g_iret (pc := 36) d_K_startOf_36 rfl (Nat.le_refl _) (Nat.le_refl _) ?_
  exact ⟨rfl, rfl⟩
set_option maxRecDepth 100000 in
set_option maxHeartbeats 4000000 in
theorem c_K_startOf_2 {τ : Nat × Nat} {a : Nat → Nat} {i : Nat → Int32} {r : Nat → Nat → Int32} {L : Nat → Int64} {wr : pW} (k c : Nat) (hk : k < 40) (hc : r 6 k = nI c) : pC m_K_startOf τ [.ref (a 0), .int (nI 2), .int (nI k)] (wX a i r L ++ wr) (fun rr w2 => rr = some (.int (nI (30 * c))) ∧ w2 = wX a i r L ++ wr) := by
  refine pC.of rfl (Nat.le_of_ble_eq_true rfl) ?_
  show pG m_K_startOf τ _ 0 0 0 [(0, _), (1, _), (2, _)] [] _
  refine g_iload_n (pc := 0) d_K_startOf_0 rfl ?_
  refine g_tableIn (pc := 1) (tgt := 37) d_K_startOf_1 (by decide) (by decide) rfl (by decide) ?_
  refine g_aload_n (pc := 37) d_K_startOf_37 rfl ?_
  refine gx_K_shelf (pc := 38) d_K_startOf_38 lf_K_19 ?_
  refine g_aload_n (pc := 41) d_K_startOf_41 rfl ?_
  refine gx_K_book (pc := 42) d_K_startOf_42 lf_K_35 ?_
  refine g_iload_n (pc := 45) d_K_startOf_45 rfl ?_
  refine g_callV (M' := m_B_conclusionOf) (pc := 46) (q := 4) d_K_startOf_46 lm_K_149 (c_B_conclusionOf k hk) v_B_conclusionOf rfl rfl rfl (by decide) rfl (Nat.le_of_ble_eq_true rfl) ?_
  rintro _ _ ⟨rfl, rfl⟩
  show pG m_K_startOf τ _ 0 0 49 _ (.int _ :: _) _
  rw [hc]
  refine g_callV (M' := m_S_start) (pc := 49) (q := 2) d_K_startOf_49 lm_K_69 (c_S_start c) v_S_start rfl rfl rfl (by decide) rfl (Nat.le_of_ble_eq_true rfl) ?_
  rintro _ _ ⟨rfl, rfl⟩
  show pG m_K_startOf τ _ 0 0 52 _ (.int _ :: _) _
  refine g_iret (pc := 52) d_K_startOf_52 rfl (Nat.le_refl _) (Nat.le_refl _) ?_
  exact ⟨rfl, rfl⟩
set_option maxRecDepth 100000 in
set_option maxHeartbeats 4000000 in
theorem c_K_startOf_3 {τ : Nat × Nat} {a : Nat → Nat} {i : Nat → Int32} {r : Nat → Nat → Int32} {L : Nat → Int64} {wr : pW} (q : Nat) (hq : q < 2 ^ 31) : pC m_K_startOf τ [.ref (a 0), .int (nI 3), .int (nI q)] (wX a i r L ++ wr) (fun rr w2 => rr = some (.int (nI (30 * (q / 64)))) ∧ w2 = wX a i r L ++ wr) := by
  refine pC.of rfl (Nat.le_of_ble_eq_true rfl) ?_
  show pG m_K_startOf τ _ 0 0 0 [(0, _), (1, _), (2, _)] [] _
  refine g_iload_n (pc := 0) d_K_startOf_0 rfl ?_
  refine g_tableIn (pc := 1) (tgt := 53) d_K_startOf_1 (by decide) (by decide) rfl (by decide) ?_
  refine g_aload_n (pc := 53) d_K_startOf_53 rfl ?_
  refine gx_K_shelf (pc := 54) d_K_startOf_54 lf_K_19 ?_
  refine g_iload_n (pc := 57) d_K_startOf_57 rfl ?_
  refine g_bipush (pc := 58) (v := nI 64) d_K_startOf_58 (by decide) ?_
  refine g_ndiv (pc := 60) d_K_startOf_60 (by omega) (by decide) (by decide) ?_
  refine g_callV (M' := m_S_start) (pc := 61) (q := 2) d_K_startOf_61 lm_K_69 (c_S_start (q / 64)) v_S_start rfl rfl rfl (by decide) rfl (Nat.le_of_ble_eq_true rfl) ?_
  rintro _ _ ⟨rfl, rfl⟩
  show pG m_K_startOf τ _ 0 0 64 _ (.int _ :: _) _
  refine g_iret (pc := 64) d_K_startOf_64 rfl (Nat.le_refl _) (Nat.le_refl _) ?_
  exact ⟨rfl, rfl⟩
