/-! ProofKernel: the public calls but rule. By wip/whole/m_k2.py -/
theorem XI.b {Ty : List (Nat × Nat)} {Tm : List (List Nat)} {Th : List Thm} {d : List Nat} {i : Nat → Int32} {r : Nat → Nat → Int32} {L : Nat → Int64} (h : XI Ty Tm Th d i r L) : Ty.length ≤ 13 ∧ Tm.length ≤ 60 ∧ Th.length ≤ 40 ∧ i 0 = nI (3 + Ty.length) ∧ i 1 = nI Tm.length ∧ i 4 = nI Th.length := ⟨h.1.2.1, h.2.1.2.1, h.2.2.2.2.1, h.1.1, h.2.1.1, h.2.2.2.1⟩
theorem get_of {α : Type} {l : List α} {t : Nat} (h : t < l.length) : ∃ row, l[t]? = some row := ⟨_, List.getElem?_eq_getElem h⟩
theorem tok_b {l : List Nat} {t i y : Nat} (ht : t < 8) (hi : i < 32) (hy : y < 16) (h : ∀ x, x ∈ l → x < 4096) : ∀ x, x ∈ tok t i y :: l → x < 4096 := fun x hx => by
  rcases List.mem_cons.mp hx with rfl | hx
  · exact tok_lt ht hi hy
  · exact h x hx
theorem app_b {l m : List Nat} (h : ∀ x, x ∈ l → x < 4096) (g : ∀ x, x ∈ m → x < 4096) : ∀ x, x ∈ l ++ m → x < 4096 := fun x hx => (List.mem_append.mp hx).elim (h x) (g x)
theorem PA.lt {f : Nat → Int32} {k : Nat} {row : List Nat} (h : PA f k row) : ∀ x, x ∈ row → x < 4096 := fun x hx => by
  obtain ⟨j, hj⟩ := List.mem_iff_getElem?.mp hx
  exact (h.1 j x hj).2
theorem nxt_mem {t dd e : Nat} {s : List Nat} (h : e ∈ nxt t dd s) : e ≤ dd + 1 ∨ e ∈ s := by
  rcases List.mem_append.mp h with h | h
  · left
    have := List.eq_of_mem_replicate h
    rw [this]
    split <;> omega
  · exact Or.inr h
theorem cls_lt {v : Nat} : ∀ {row : List Nat} {s : List Nat}, (∀ x, x ∈ row → x < 4096) → row.length ≤ 31 → (∀ e, e ∈ s → e + row.length ≤ 31) → ∀ x, x ∈ cls v s row → x < 4096
  | [], s, _, _, _, x, h => by cases s <;> simp [cls] at h
  | t :: row, [], _, _, _, x, h => by simp [cls] at h
  | t :: row, dd :: s, h1, h2, h3, x, h => by
    have hdd := h3 dd List.mem_cons_self
    simp only [List.length_cons] at hdd h2
    rcases List.mem_cons.mp (show x ∈ _ :: _ from h) with e | e
    · rw [e]
      split
      · exact tok_lt (by decide) (by omega) (by omega)
      · exact h1 t List.mem_cons_self
    · refine cls_lt (fun y hy => h1 y (List.mem_cons_of_mem _ hy)) (by omega) (fun z hz => ?_) x e
      rcases nxt_mem hz with q | q
      · omega
      · have := h3 z (List.mem_cons_of_mem _ q)
        simp only [List.length_cons] at this
        omega
theorem cls_len {v : Nat} : ∀ {row : List Nat} {s : List Nat}, (cls v s row).length ≤ row.length
  | [], s => by cases s <;> simp [cls]
  | t :: row, [] => by simp [cls]
  | t :: row, dd :: s => by
    have := cls_len (v := v) (row := row) (s := nxt t dd s)
    simp only [cls, List.length_cons]
    omega
theorem sBd_lt {tg ty v : Nat} {row : List Nat} (ht : tg < 8) (hy : ty < 16) (h : ∀ x, x ∈ row → x < 4096) (hl : row.length ≤ 30) : ∀ x, x ∈ sBd tg ty v row → x < 4096 := tok_b ht (by omega) hy (cls_lt h (by omega) (fun e he => by simp at he; subst he; omega))
set_option maxRecDepth 100000 in
set_option maxHeartbeats 4000000 in
theorem c_K_arrow {τ : Nat × Nat} {a : Nat → Nat} {i : Nat → Int32} {r : Nat → Nat → Int32} {L : Nat → Int64} {wr : pW} {Ty : List (Nat × Nat)} {Tm : List (List Nat)} {Th : List Thm} {d : List Nat} (f t : Int32) (hI : XI Ty Tm Th d i r L) : pC m_K_arrow τ [.ref (a 0), .int f, .int t] (wX a i r L ++ wr) ((fun rr w2 => ∃ i2 r2 L2 d2, rr = some (.int ((sArrow Ty f t).1)) ∧ w2 = wX a i2 r2 L2 ++ wr ∧ XI ((sArrow Ty f t).2) (Tm) (Th) d2 i2 r2 L2)) := by
  refine pC.of rfl (Nat.le_of_ble_eq_true rfl) ?_
  show pG m_K_arrow τ _ 0 0 0 [(0, _), (1, _), (2, _)] [] _
  obtain ⟨b1, b2, b3, b4, b5, b6⟩ := hI.b
  refine g_aload_n (pc := 0) d_K_arrow_0 rfl ?_
  refine gx_K_types (pc := 1) d_K_arrow_1 lf_K_10 ?_
  refine g_iload_n (pc := 4) d_K_arrow_4 rfl ?_
  refine g_callV (M' := m_T_has) (pc := 5) (q := 1) d_K_arrow_5 lm_K_39 (c_T_has (3 + Ty.length) b4 (by omega) _) v_T_has rfl rfl rfl (by decide) rfl (Nat.le_of_ble_eq_true rfl) ?_
  rintro _ _ ⟨rfl, rfl⟩
  show pG m_K_arrow τ _ 0 0 8 _ (.int _ :: _) _
  refine g_ifb_eq (pc := 8) (tgt := 22) d_K_arrow_8 (by decide) (fun h8 => ?_) (fun h8 => ?_)
  · refine g_iconst (pc := 22) (v := -1) d_K_arrow_22 (by decide) ?_
    refine g_iret (pc := 23) d_K_arrow_23 rfl (Nat.le_refl _) (Nat.le_refl _) ?_
    refine ⟨i, r, L, d, ?_, rfl, ?_⟩
    · first | (rw [sArrow, h8]; rfl) | (rw [sArrow, h8, h19]; rfl)
    · first | (rw [sArrow, h8]; exact hI) | (rw [sArrow, h8, h19]; exact hI)
  · refine g_aload_n (pc := 11) d_K_arrow_11 rfl ?_
    refine gx_K_types (pc := 12) d_K_arrow_12 lf_K_10 ?_
    refine g_iload_n (pc := 15) d_K_arrow_15 rfl ?_
    refine g_callV (M' := m_T_has) (pc := 16) (q := 1) d_K_arrow_16 lm_K_39 (c_T_has (3 + Ty.length) b4 (by omega) _) v_T_has rfl rfl rfl (by decide) rfl (Nat.le_of_ble_eq_true rfl) ?_
    rintro _ _ ⟨rfl, rfl⟩
    show pG m_K_arrow τ _ 0 0 19 _ (.int _ :: _) _
    refine g_ifb_ne (pc := 19) (tgt := 24) d_K_arrow_19 (by decide) (fun h19 => ?_) (fun h19 => ?_)
    · obtain ⟨fN, hfN, rfl⟩ := ixB_of h8 (by omega)
      obtain ⟨tN, htN, rfl⟩ := ixB_of h19 (by omega)
      have e : sArrow Ty (nI fN) (nI tN) = sNum Ty fN tN := by rw [sArrow, h8, h19, nI_clamp (by omega), nI_clamp (by omega)]; rfl
      refine g_aload_n (pc := 24) d_K_arrow_24 rfl ?_
      refine gx_K_types (pc := 25) d_K_arrow_25 lf_K_10 ?_
      refine g_iload_n (pc := 28) d_K_arrow_28 rfl ?_
      refine g_iload_n (pc := 29) d_K_arrow_29 rfl ?_
      refine g_callV (M' := m_T_numberOf) (pc := 30) (q := 1) d_K_arrow_30 lm_K_43 (c_T_numberOf Ty hI.1 fN tN (by omega) (by omega)) v_T_numberOf rfl rfl rfl (by decide) rfl (Nat.le_of_ble_eq_true rfl) ?_
      rintro _ _ ⟨i2, r2, rfl, rfl, hT2, hi2, hr2⟩
      show pG m_K_arrow τ _ 0 0 33 _ (.int _ :: _) _
      refine g_iret (pc := 33) d_K_arrow_33 rfl (Nat.le_refl _) (Nat.le_refl _) ?_
      refine ⟨i2, r2, L, d, by rw [e], rfl, ?_⟩
      rw [e]
      exact hI.tw ⟨fun j h0 _ _ => hi2 j h0, fun j h0 h1 _ _ => hr2 j h0 h1⟩ hT2 (hI.2.2.1.mv (hi2 2 (by decide)) (hr2 4 (by decide) (by decide)))
    · refine g_iconst (pc := 22) (v := -1) d_K_arrow_22 (by decide) ?_
      refine g_iret (pc := 23) d_K_arrow_23 rfl (Nat.le_refl _) (Nat.le_refl _) ?_
      refine ⟨i, r, L, d, ?_, rfl, ?_⟩
      · first | (rw [sArrow, h8]; rfl) | (rw [sArrow, h8, h19]; rfl)
      · first | (rw [sArrow, h8]; exact hI) | (rw [sArrow, h8, h19]; exact hI)
set_option maxRecDepth 100000 in
set_option maxHeartbeats 4000000 in
theorem c_K_variable {τ : Nat × Nat} {a : Nat → Nat} {i : Nat → Int32} {r : Nat → Nat → Int32} {L : Nat → Int64} {wr : pW} {Ty : List (Nat × Nat)} {Tm : List (List Nat)} {Th : List Thm} {d : List Nat} (x t : Int32) (hI : XI Ty Tm Th d i r L) : pC m_K_variable τ [.ref (a 0), .int x, .int t] (wX a i r L ++ wr) ((fun rr w2 => ∃ i2 r2 L2 d2, rr = some (.int ((sVariable Ty Tm x t).1)) ∧ w2 = wX a i2 r2 L2 ++ wr ∧ XI (Ty) ((sVariable Ty Tm x t).2) (Th) d2 i2 r2 L2)) := by
  refine pC.of rfl (Nat.le_of_ble_eq_true rfl) ?_
  show pG m_K_variable τ _ 0 0 0 [(0, _), (1, _), (2, _)] [] _
  obtain ⟨b1, b2, b3, b4, b5, b6⟩ := hI.b
  refine g_iload_n (pc := 0) d_K_variable_0 rfl ?_
  refine g_if_lt (pc := 1) (tgt := 21) d_K_variable_1 (by decide) (fun h1 => ?_) (fun h1 => ?_)
  · refine g_iconst (pc := 21) (v := -1) d_K_variable_21 (by decide) ?_
    refine g_iret (pc := 22) d_K_variable_22 rfl (Nat.le_refl _) (Nat.le_refl _) ?_
    have e : sVariable Ty Tm x t = (-1, Tm) := by
      first | (rw [sVariable, ixB_neg h1]; rfl) | (rw [sVariable, ixB_big (by decide) h7]; rfl) | (rw [sVariable, h18, Bool.and_false]; rfl)
    exact ⟨i, r, L, d, by rw [e], rfl, by rw [e]; exact hI⟩
  · refine g_iload_n (pc := 4) d_K_variable_4 rfl ?_
    refine g_bipush (pc := 5) (v := nI 10) d_K_variable_5 (by decide) ?_
    refine g_icmp_ge (pc := 7) (tgt := 21) d_K_variable_7 (by decide) (fun h7 => ?_) (fun h7 => ?_)
    · refine g_iconst (pc := 21) (v := -1) d_K_variable_21 (by decide) ?_
      refine g_iret (pc := 22) d_K_variable_22 rfl (Nat.le_refl _) (Nat.le_refl _) ?_
      have e : sVariable Ty Tm x t = (-1, Tm) := by
        first | (rw [sVariable, ixB_neg h1]; rfl) | (rw [sVariable, ixB_big (by decide) h7]; rfl) | (rw [sVariable, h18, Bool.and_false]; rfl)
      exact ⟨i, r, L, d, by rw [e], rfl, by rw [e]; exact hI⟩
    · refine g_aload_n (pc := 10) d_K_variable_10 rfl ?_
      refine gx_K_types (pc := 11) d_K_variable_11 lf_K_10 ?_
      refine g_iload_n (pc := 14) d_K_variable_14 rfl ?_
      refine g_callV (M' := m_T_has) (pc := 15) (q := 1) d_K_variable_15 lm_K_39 (c_T_has (3 + Ty.length) b4 (by omega) _) v_T_has rfl rfl rfl (by decide) rfl (Nat.le_of_ble_eq_true rfl) ?_
      rintro _ _ ⟨rfl, rfl⟩
      show pG m_K_variable τ _ 0 0 18 _ (.int _ :: _) _
      refine g_ifb_ne (pc := 18) (tgt := 23) d_K_variable_18 (by decide) (fun h18 => ?_) (fun h18 => ?_)
      · have hx := ixB_in (n := 10) (by decide) h1 h7
        obtain ⟨x0, hx0, rfl⟩ := ixB_of hx (by decide)
        obtain ⟨t0, ht0, rfl⟩ := ixB_of h18 (by omega)
        have e : sVariable Ty Tm (nI x0) (nI t0) = sKeep Tm [tok 0 x0 t0] := by rw [sVariable, hx, h18, nI_clamp (by omega), nI_clamp (by omega)]; rfl
        refine g_aload_n (pc := 23) d_K_variable_23 rfl ?_
        refine gx_K_draft (pc := 24) d_K_variable_24 lf_K_28 ?_
        refine g_callV (M' := m_D_clear) (pc := 27) (q := 3) d_K_variable_27 lm_K_47 (c_D_clear) v_D_clear rfl rfl rfl (by decide) rfl (Nat.le_of_ble_eq_true rfl) ?_
        rintro _ _ ⟨rfl, rfl⟩
        have hI1 := hI.cl
        show pG m_K_variable τ _ 0 0 30 _ _ _
        refine g_aload_n (pc := 30) d_K_variable_30 rfl ?_
        refine gx_K_draft (pc := 31) d_K_variable_31 lf_K_28 ?_
        refine g_iconst (pc := 34) (v := nI 0) d_K_variable_34 (by decide) ?_
        refine g_iload_n (pc := 35) d_K_variable_35 rfl ?_
        refine g_iload_n (pc := 36) d_K_variable_36 rfl ?_
        refine g_callS (M' := m_O_of) (pc := 37) d_K_variable_37 lm_K_50 (c_O_of 0 x0 t0 (by decide) (by omega) (by omega)) v_O_of rfl (by decide) rfl (Nat.le_of_ble_eq_true rfl) ?_
        rintro _ _ ⟨rfl, rfl⟩
        show pG m_K_variable τ _ 0 0 40 _ (.int _ :: _) _
        refine g_callV (M' := m_D_add) (pc := 40) (q := 3) d_K_variable_40 lm_K_56 (c_D_add [] _ hI1.2.2.1 (by simp)) v_D_add rfl rfl rfl (by decide) rfl (Nat.le_of_ble_eq_true rfl) ?_
        rintro _ _ ⟨i2, r2, rfl, rfl, hx2, hk2⟩
        have hI2 := hI1.dw hk2.w hx2
        show pG m_K_variable τ _ 0 0 43 _ _ _
        refine g_aload_n (pc := 43) d_K_variable_43 rfl ?_
        refine gx_K_shelf (pc := 44) d_K_variable_44 lf_K_19 ?_
        refine g_aload_n (pc := 47) d_K_variable_47 rfl ?_
        refine gx_K_draft (pc := 48) d_K_variable_48 lf_K_28 ?_
        refine g_callV (M' := m_S_keep) (pc := 51) (q := 2) d_K_variable_51 lm_K_60 (c_S_keep Tm _ hI2.2.1 hI2.2.2.1 (tok_b (by decide) (by omega) (by omega) (fun _ h => by simp at h)) (by simp)) v_S_keep rfl rfl rfl (by decide) rfl (Nat.le_of_ble_eq_true rfl) ?_
        rintro _ _ ⟨i9, r9, rfl, rfl, hS9, hk9⟩
        show pG m_K_variable τ _ 0 0 54 _ (.int _ :: _) _
        refine g_iret (pc := 54) d_K_variable_54 rfl (Nat.le_refl _) (Nat.le_refl _) ?_
        exact ⟨i9, r9, L, _, by rw [e]; rfl, rfl, by rw [e]; exact hI2.kp hk9 hS9⟩
      · refine g_iconst (pc := 21) (v := -1) d_K_variable_21 (by decide) ?_
        refine g_iret (pc := 22) d_K_variable_22 rfl (Nat.le_refl _) (Nat.le_refl _) ?_
        have e : sVariable Ty Tm x t = (-1, Tm) := by
          first | (rw [sVariable, ixB_neg h1]; rfl) | (rw [sVariable, ixB_big (by decide) h7]; rfl) | (rw [sVariable, h18, Bool.and_false]; rfl)
        exact ⟨i, r, L, d, by rw [e], rfl, by rw [e]; exact hI⟩
theorem dclI_none {Tm : List (List Nat)} {x t : Nat} (h : dclI Tm x = -1) : (dcl Tm x).getD t = t := by
  unfold dclI at h
  cases e : dcl Tm x with
  | none => rfl
  | some y =>
    rw [e] at h
    have hy : y < 16 := by
      unfold dcl at e
      obtain ⟨row, -, h2⟩ := Option.map_eq_some_iff.mp e
      rw [← h2]
      exact tyR_lt row
    exact absurd h (nI_m1 (by omega))
theorem dclI_eq {Tm : List (List Nat)} {x t : Nat} (ht : t < 2 ^ 31) (h : dclI Tm x = nI t) : (dcl Tm x).getD t = t := by
  unfold dclI at h
  cases e : dcl Tm x with
  | none => rfl
  | some y =>
    rw [e] at h
    have hy : y < 16 := by
      unfold dcl at e
      obtain ⟨row, -, h2⟩ := Option.map_eq_some_iff.mp e
      rw [← h2]
      exact tyR_lt row
    show y = t
    exact nI_inj (by omega) ht h
theorem dclI_ne {Tm : List (List Nat)} {x t : Nat} (h : ¬ dclI Tm x = -1) (g : ¬ dclI Tm x = nI t) : ¬ (dcl Tm x).getD t = t := by
  unfold dclI at h g
  cases e : dcl Tm x with
  | none => rw [e] at h; exact absurd rfl h
  | some y =>
    rw [e] at g
    intro q
    exact g (by rw [show y = t from q])
set_option maxRecDepth 100000 in
set_option maxHeartbeats 4000000 in
theorem c_K_constant {τ : Nat × Nat} {a : Nat → Nat} {i : Nat → Int32} {r : Nat → Nat → Int32} {L : Nat → Int64} {wr : pW} {Ty : List (Nat × Nat)} {Tm : List (List Nat)} {Th : List Thm} {d : List Nat} (x t : Int32) (hI : XI Ty Tm Th d i r L) (ok : TmOk Ty Tm) : pC m_K_constant τ [.ref (a 0), .int x, .int t] (wX a i r L ++ wr) ((fun rr w2 => ∃ i2 r2 L2 d2, rr = some (.int ((sConstant Ty Tm x t).1)) ∧ w2 = wX a i2 r2 L2 ++ wr ∧ XI (Ty) ((sConstant Ty Tm x t).2) (Th) d2 i2 r2 L2)) := by
  refine pC.of rfl (Nat.le_of_ble_eq_true rfl) ?_
  show pG m_K_constant τ _ 0 0 0 [(0, _), (1, _), (2, _)] [] _
  obtain ⟨b1, b2, b3, b4, b5, b6⟩ := hI.b
  refine g_iload_n (pc := 0) d_K_constant_0 rfl ?_
  refine g_if_lt (pc := 1) (tgt := 20) d_K_constant_1 (by decide) (fun h1 => ?_) (fun h1 => ?_)
  · refine g_iconst (pc := 20) (v := -1) d_K_constant_20 (by decide) ?_
    refine g_iret (pc := 21) d_K_constant_21 rfl (Nat.le_refl _) (Nat.le_refl _) ?_
    have e : sConstant Ty Tm x t = (-1, Tm) := by
      first | (rw [sConstant, ixB_neg h1]; rfl) | (rw [sConstant, ixB_big (by decide) h6]; rfl) | (rw [sConstant, h17, Bool.and_false]; rfl)
    exact ⟨i, r, L, d, by rw [e], rfl, by rw [e]; exact hI⟩
  · refine g_iload_n (pc := 4) d_K_constant_4 rfl ?_
    refine g_iconst (pc := 5) (v := nI 4) d_K_constant_5 (by decide) ?_
    refine g_icmp_ge (pc := 6) (tgt := 20) d_K_constant_6 (by decide) (fun h6 => ?_) (fun h6 => ?_)
    · refine g_iconst (pc := 20) (v := -1) d_K_constant_20 (by decide) ?_
      refine g_iret (pc := 21) d_K_constant_21 rfl (Nat.le_refl _) (Nat.le_refl _) ?_
      have e : sConstant Ty Tm x t = (-1, Tm) := by
        first | (rw [sConstant, ixB_neg h1]; rfl) | (rw [sConstant, ixB_big (by decide) h6]; rfl) | (rw [sConstant, h17, Bool.and_false]; rfl)
      exact ⟨i, r, L, d, by rw [e], rfl, by rw [e]; exact hI⟩
    · refine g_aload_n (pc := 9) d_K_constant_9 rfl ?_
      refine gx_K_types (pc := 10) d_K_constant_10 lf_K_10 ?_
      refine g_iload_n (pc := 13) d_K_constant_13 rfl ?_
      refine g_callV (M' := m_T_has) (pc := 14) (q := 1) d_K_constant_14 lm_K_39 (c_T_has (3 + Ty.length) b4 (by omega) _) v_T_has rfl rfl rfl (by decide) rfl (Nat.le_of_ble_eq_true rfl) ?_
      rintro _ _ ⟨rfl, rfl⟩
      show pG m_K_constant τ _ 0 0 17 _ (.int _ :: _) _
      refine g_ifb_ne (pc := 17) (tgt := 22) d_K_constant_17 (by decide) (fun h17 => ?_) (fun h17 => ?_)
      · have hx := ixB_in (n := 4) (by decide) h1 h6
        obtain ⟨x0, hx0, rfl⟩ := ixB_of hx (by decide)
        obtain ⟨t0, ht0, rfl⟩ := ixB_of h17 (by omega)
        refine g_aload_n (pc := 22) d_K_constant_22 rfl ?_
        refine g_iload_n (pc := 23) d_K_constant_23 rfl ?_
        refine g_callV (M' := m_K_declaredType) (pc := 24) (q := 0) d_K_constant_24 lm_K_64 (c_K_declaredType Ty Tm x0 hI.2.1 ok (by omega)) v_K_declaredType rfl rfl rfl (by decide) rfl (Nat.le_of_ble_eq_true rfl) ?_
        rintro _ _ ⟨rfl, rfl⟩
        show pG m_K_constant τ _ 0 0 27 _ (.int _ :: _) _
        refine g_istore_n (pc := 27) [(3, _), (0, _), (1, _), (2, _)] d_K_constant_27 (by decide) rfl ?_
        refine g_iload_n (pc := 28) d_K_constant_28 rfl ?_
        refine g_iconst (pc := 29) (v := -1) d_K_constant_29 (by decide) ?_
        refine g_icmp_eq (pc := 30) (tgt := 41) d_K_constant_30 (by decide) (fun h30 => ?_) (fun h30 => ?_)
        · have e : sConstant Ty Tm (nI x0) (nI t0) = sKeep Tm [tok 1 x0 t0] := by
            rw [sConstant, hx, h17, nI_clamp (by omega), nI_clamp (by omega)]
            refine if_pos ?_ |>.trans ?_
            · rfl
            · refine if_pos ?_
              first | exact dclI_none h30 | exact dclI_eq (by omega) h35
          refine g_aload_n (pc := 41) d_K_constant_41 rfl ?_
          refine gx_K_draft (pc := 42) d_K_constant_42 lf_K_28 ?_
          refine g_callV (M' := m_D_clear) (pc := 45) (q := 3) d_K_constant_45 lm_K_47 (c_D_clear) v_D_clear rfl rfl rfl (by decide) rfl (Nat.le_of_ble_eq_true rfl) ?_
          rintro _ _ ⟨rfl, rfl⟩
          have hI1 := hI.cl
          show pG m_K_constant τ _ 0 0 48 _ _ _
          refine g_aload_n (pc := 48) d_K_constant_48 rfl ?_
          refine gx_K_draft (pc := 49) d_K_constant_49 lf_K_28 ?_
          refine g_iconst (pc := 52) (v := nI 1) d_K_constant_52 (by decide) ?_
          refine g_iload_n (pc := 53) d_K_constant_53 rfl ?_
          refine g_iload_n (pc := 54) d_K_constant_54 rfl ?_
          refine g_callS (M' := m_O_of) (pc := 55) d_K_constant_55 lm_K_50 (c_O_of 1 x0 t0 (by decide) (by omega) (by omega)) v_O_of rfl (by decide) rfl (Nat.le_of_ble_eq_true rfl) ?_
          rintro _ _ ⟨rfl, rfl⟩
          show pG m_K_constant τ _ 0 0 58 _ (.int _ :: _) _
          refine g_callV (M' := m_D_add) (pc := 58) (q := 3) d_K_constant_58 lm_K_56 (c_D_add [] _ hI1.2.2.1 (by simp)) v_D_add rfl rfl rfl (by decide) rfl (Nat.le_of_ble_eq_true rfl) ?_
          rintro _ _ ⟨i2, r2, rfl, rfl, hx2, hk2⟩
          have hI2 := hI1.dw hk2.w hx2
          show pG m_K_constant τ _ 0 0 61 _ _ _
          refine g_aload_n (pc := 61) d_K_constant_61 rfl ?_
          refine gx_K_shelf (pc := 62) d_K_constant_62 lf_K_19 ?_
          refine g_aload_n (pc := 65) d_K_constant_65 rfl ?_
          refine gx_K_draft (pc := 66) d_K_constant_66 lf_K_28 ?_
          refine g_callV (M' := m_S_keep) (pc := 69) (q := 2) d_K_constant_69 lm_K_60 (c_S_keep Tm _ hI2.2.1 hI2.2.2.1 (tok_b (by decide) (by omega) (by omega) (fun _ h => by simp at h)) (by simp)) v_S_keep rfl rfl rfl (by decide) rfl (Nat.le_of_ble_eq_true rfl) ?_
          rintro _ _ ⟨i9, r9, rfl, rfl, hS9, hk9⟩
          show pG m_K_constant τ _ 0 0 72 _ (.int _ :: _) _
          refine g_iret (pc := 72) d_K_constant_72 rfl (Nat.le_refl _) (Nat.le_refl _) ?_
          exact ⟨i9, r9, L, _, by rw [e]; rfl, rfl, by rw [e]; exact hI2.kp hk9 hS9⟩
        · refine g_iload_n (pc := 33) d_K_constant_33 rfl ?_
          refine g_iload_n (pc := 34) d_K_constant_34 rfl ?_
          refine g_icmp_eq (pc := 35) (tgt := 41) d_K_constant_35 (by decide) (fun h35 => ?_) (fun h35 => ?_)
          · have e : sConstant Ty Tm (nI x0) (nI t0) = sKeep Tm [tok 1 x0 t0] := by
              rw [sConstant, hx, h17, nI_clamp (by omega), nI_clamp (by omega)]
              refine if_pos ?_ |>.trans ?_
              · rfl
              · refine if_pos ?_
                first | exact dclI_none h30 | exact dclI_eq (by omega) h35
            refine g_aload_n (pc := 41) d_K_constant_41 rfl ?_
            refine gx_K_draft (pc := 42) d_K_constant_42 lf_K_28 ?_
            refine g_callV (M' := m_D_clear) (pc := 45) (q := 3) d_K_constant_45 lm_K_47 (c_D_clear) v_D_clear rfl rfl rfl (by decide) rfl (Nat.le_of_ble_eq_true rfl) ?_
            rintro _ _ ⟨rfl, rfl⟩
            have hI1 := hI.cl
            show pG m_K_constant τ _ 0 0 48 _ _ _
            refine g_aload_n (pc := 48) d_K_constant_48 rfl ?_
            refine gx_K_draft (pc := 49) d_K_constant_49 lf_K_28 ?_
            refine g_iconst (pc := 52) (v := nI 1) d_K_constant_52 (by decide) ?_
            refine g_iload_n (pc := 53) d_K_constant_53 rfl ?_
            refine g_iload_n (pc := 54) d_K_constant_54 rfl ?_
            refine g_callS (M' := m_O_of) (pc := 55) d_K_constant_55 lm_K_50 (c_O_of 1 x0 t0 (by decide) (by omega) (by omega)) v_O_of rfl (by decide) rfl (Nat.le_of_ble_eq_true rfl) ?_
            rintro _ _ ⟨rfl, rfl⟩
            show pG m_K_constant τ _ 0 0 58 _ (.int _ :: _) _
            refine g_callV (M' := m_D_add) (pc := 58) (q := 3) d_K_constant_58 lm_K_56 (c_D_add [] _ hI1.2.2.1 (by simp)) v_D_add rfl rfl rfl (by decide) rfl (Nat.le_of_ble_eq_true rfl) ?_
            rintro _ _ ⟨i2, r2, rfl, rfl, hx2, hk2⟩
            have hI2 := hI1.dw hk2.w hx2
            show pG m_K_constant τ _ 0 0 61 _ _ _
            refine g_aload_n (pc := 61) d_K_constant_61 rfl ?_
            refine gx_K_shelf (pc := 62) d_K_constant_62 lf_K_19 ?_
            refine g_aload_n (pc := 65) d_K_constant_65 rfl ?_
            refine gx_K_draft (pc := 66) d_K_constant_66 lf_K_28 ?_
            refine g_callV (M' := m_S_keep) (pc := 69) (q := 2) d_K_constant_69 lm_K_60 (c_S_keep Tm _ hI2.2.1 hI2.2.2.1 (tok_b (by decide) (by omega) (by omega) (fun _ h => by simp at h)) (by simp)) v_S_keep rfl rfl rfl (by decide) rfl (Nat.le_of_ble_eq_true rfl) ?_
            rintro _ _ ⟨i9, r9, rfl, rfl, hS9, hk9⟩
            show pG m_K_constant τ _ 0 0 72 _ (.int _ :: _) _
            refine g_iret (pc := 72) d_K_constant_72 rfl (Nat.le_refl _) (Nat.le_refl _) ?_
            exact ⟨i9, r9, L, _, by rw [e]; rfl, rfl, by rw [e]; exact hI2.kp hk9 hS9⟩
          · refine g_bipush (pc := 38) (v := -2) d_K_constant_38 (by decide) ?_
            refine g_iret (pc := 40) d_K_constant_40 rfl (Nat.le_refl _) (Nat.le_refl _) ?_
            have e : sConstant Ty Tm (nI x0) (nI t0) = (-2, Tm) := by
              rw [sConstant, hx, h17, nI_clamp (by omega), nI_clamp (by omega)]
              refine if_pos ?_ |>.trans ?_
              · rfl
              · exact if_neg (dclI_ne h30 h35)
            exact ⟨i, r, L, d, by rw [e], rfl, by rw [e]; exact hI⟩
      · refine g_iconst (pc := 20) (v := -1) d_K_constant_20 (by decide) ?_
        refine g_iret (pc := 21) d_K_constant_21 rfl (Nat.le_refl _) (Nat.le_refl _) ?_
        have e : sConstant Ty Tm x t = (-1, Tm) := by
          first | (rw [sConstant, ixB_neg h1]; rfl) | (rw [sConstant, ixB_big (by decide) h6]; rfl) | (rw [sConstant, h17, Bool.and_false]; rfl)
        exact ⟨i, r, L, d, by rw [e], rfl, by rw [e]; exact hI⟩
theorem hdt_mem {row : List Nat} (h : Pol 1 row) : hdt row ∈ row := by
  cases row with
  | nil => exact absurd h (by intro e; cases e)
  | cons t r => exact List.mem_cons_self
set_option maxRecDepth 100000 in
set_option maxHeartbeats 4000000 in
theorem c_K_apply {τ : Nat × Nat} {a : Nat → Nat} {i : Nat → Int32} {r : Nat → Nat → Int32} {L : Nat → Int64} {wr : pW} {Ty : List (Nat × Nat)} {Tm : List (List Nat)} {Th : List Thm} {d : List Nat} (f x : Int32) (hI : XI Ty Tm Th d i r L) (ok : TmOk Ty Tm) : pC m_K_apply τ [.ref (a 0), .int f, .int x] (wX a i r L ++ wr) ((fun rr w2 => ∃ i2 r2 L2 d2, rr = some (.int ((sApply Ty Tm f x).1)) ∧ w2 = wX a i2 r2 L2 ++ wr ∧ XI (Ty) ((sApply Ty Tm f x).2) (Th) d2 i2 r2 L2)) := by
  refine pC.of rfl (Nat.le_of_ble_eq_true rfl) ?_
  show pG m_K_apply τ _ 0 0 0 [(0, _), (1, _), (2, _)] [] _
  obtain ⟨b1, b2, b3, b4, b5, b6⟩ := hI.b
  refine g_aload_n (pc := 0) d_K_apply_0 rfl ?_
  refine gx_K_shelf (pc := 1) d_K_apply_1 lf_K_19 ?_
  refine g_iload_n (pc := 4) d_K_apply_4 rfl ?_
  refine g_callV (M' := m_S_has) (pc := 5) (q := 2) d_K_apply_5 lm_K_68 (c_S_has Tm.length b5 (by omega) _) v_S_has rfl rfl rfl (by decide) rfl (Nat.le_of_ble_eq_true rfl) ?_
  rintro _ _ ⟨rfl, rfl⟩
  show pG m_K_apply τ _ 0 0 8 _ (.int _ :: _) _
  refine g_ifb_eq (pc := 8) (tgt := 22) d_K_apply_8 (by decide) (fun h8 => ?_) (fun h8 => ?_)
  · refine g_iconst (pc := 22) (v := -1) d_K_apply_22 (by decide) ?_
    refine g_iret (pc := 23) d_K_apply_23 rfl (Nat.le_refl _) (Nat.le_refl _) ?_
    have e : sApply Ty Tm f x = (-1, Tm) := by
      first | (rw [sApply, h8]; rfl) | (rw [sApply, h8, h19]; rfl)
    exact ⟨i, r, L, d, by rw [e], rfl, by rw [e]; exact hI⟩
  · refine g_aload_n (pc := 11) d_K_apply_11 rfl ?_
    refine gx_K_shelf (pc := 12) d_K_apply_12 lf_K_19 ?_
    refine g_iload_n (pc := 15) d_K_apply_15 rfl ?_
    refine g_callV (M' := m_S_has) (pc := 16) (q := 2) d_K_apply_16 lm_K_68 (c_S_has Tm.length b5 (by omega) _) v_S_has rfl rfl rfl (by decide) rfl (Nat.le_of_ble_eq_true rfl) ?_
    rintro _ _ ⟨rfl, rfl⟩
    show pG m_K_apply τ _ 0 0 19 _ (.int _ :: _) _
    refine g_ifb_ne (pc := 19) (tgt := 24) d_K_apply_19 (by decide) (fun h19 => ?_) (fun h19 => ?_)
    · obtain ⟨f0, hf0, rfl⟩ := ixB_of h8 (by omega)
      obtain ⟨x0, hx0, rfl⟩ := ixB_of h19 (by omega)
      obtain ⟨F, hF0⟩ := get_of hf0
      obtain ⟨X, hX0⟩ := get_of hx0
      have hF := hI.2.1.pa ok hF0
      have hX := hI.2.1.pa ok hX0
      have hFt : tyR F < 3 + Ty.length := ((ok _ _ hF0).2.2 _ (hdt_mem hF.2.1)).2
      refine g_aload_n (pc := 24) d_K_apply_24 rfl ?_
      refine gx_K_types (pc := 25) d_K_apply_25 lf_K_10 ?_
      refine g_aload_n (pc := 28) d_K_apply_28 rfl ?_
      refine g_aload_n (pc := 29) d_K_apply_29 rfl ?_
      refine gx_K_shelf (pc := 30) d_K_apply_30 lf_K_19 ?_
      refine g_iload_n (pc := 33) d_K_apply_33 rfl ?_
      refine g_callV (M' := m_S_start) (pc := 34) (q := 2) d_K_apply_34 lm_K_69 (c_S_start f0) v_S_start rfl rfl rfl (by decide) rfl (Nat.le_of_ble_eq_true rfl) ?_
      rintro _ _ ⟨rfl, rfl⟩
      show pG m_K_apply τ _ 0 0 37 _ (.int _ :: _) _
      refine g_callV (M' := m_K_typeAt) (pc := 37) (q := 0) d_K_apply_37 lm_K_72 (c_K_typeAt (30 * f0) F hF) v_K_typeAt rfl rfl rfl (by decide) rfl (Nat.le_of_ble_eq_true rfl) ?_
      rintro _ _ ⟨rfl, rfl⟩
      show pG m_K_apply τ _ 0 0 40 _ (.int _ :: _) _
      refine g_aload_n (pc := 40) d_K_apply_40 rfl ?_
      refine g_aload_n (pc := 41) d_K_apply_41 rfl ?_
      refine gx_K_shelf (pc := 42) d_K_apply_42 lf_K_19 ?_
      refine g_iload_n (pc := 45) d_K_apply_45 rfl ?_
      refine g_callV (M' := m_S_start) (pc := 46) (q := 2) d_K_apply_46 lm_K_69 (c_S_start x0) v_S_start rfl rfl rfl (by decide) rfl (Nat.le_of_ble_eq_true rfl) ?_
      rintro _ _ ⟨rfl, rfl⟩
      show pG m_K_apply τ _ 0 0 49 _ (.int _ :: _) _
      refine g_callV (M' := m_K_typeAt) (pc := 49) (q := 0) d_K_apply_49 lm_K_72 (c_K_typeAt (30 * x0) X hX) v_K_typeAt rfl rfl rfl (by decide) rfl (Nat.le_of_ble_eq_true rfl) ?_
      rintro _ _ ⟨rfl, rfl⟩
      show pG m_K_apply τ _ 0 0 52 _ (.int _ :: _) _
      refine g_callV (M' := m_T_takes) (pc := 52) (q := 1) d_K_apply_52 lm_K_75 (c_T_takes (tyR F) (tyR X) (tyR_lt F)) v_T_takes rfl rfl rfl (by decide) rfl (Nat.le_of_ble_eq_true rfl) ?_
      rintro _ _ ⟨rfl, rfl⟩
      show pG m_K_apply τ _ 0 0 55 _ (.int _ :: _) _
      rw [tks_iff hI.1 hFt (tyR_lt X)]
      refine g_ifb_ne (pc := 55) (tgt := 61) d_K_apply_55 (by decide) (fun h55 => ?_) (fun h55 => ?_)
      · have e : sApply Ty Tm (nI f0) (nI x0) = sKeep Tm (sAp Ty F X) := by rw [sApply, h8, h19, rwT_at hF0 b2, rwT_at hX0 b2, h55]; rfl
        refine g_aload_n (pc := 61) d_K_apply_61 rfl ?_
        refine gx_K_draft (pc := 62) d_K_apply_62 lf_K_28 ?_
        refine g_callV (M' := m_D_clear) (pc := 65) (q := 3) d_K_apply_65 lm_K_47 (c_D_clear) v_D_clear rfl rfl rfl (by decide) rfl (Nat.le_of_ble_eq_true rfl) ?_
        rintro _ _ ⟨rfl, rfl⟩
        have hI1 := hI.cl
        show pG m_K_apply τ _ 0 0 68 _ _ _
        refine g_aload_n (pc := 68) d_K_apply_68 rfl ?_
        refine g_aload_n (pc := 69) d_K_apply_69 rfl ?_
        refine gx_K_shelf (pc := 70) d_K_apply_70 lf_K_19 ?_
        refine g_iload_n (pc := 73) d_K_apply_73 rfl ?_
        refine g_callV (M' := m_S_start) (pc := 74) (q := 2) d_K_apply_74 lm_K_69 (c_S_start f0) v_S_start rfl rfl rfl (by decide) rfl (Nat.le_of_ble_eq_true rfl) ?_
        rintro _ _ ⟨rfl, rfl⟩
        show pG m_K_apply τ _ 0 0 77 _ (.int _ :: _) _
        refine g_aload_n (pc := 77) d_K_apply_77 rfl ?_
        refine gx_K_shelf (pc := 78) d_K_apply_78 lf_K_19 ?_
        refine g_iload_n (pc := 81) d_K_apply_81 rfl ?_
        refine g_callV (M' := m_S_start) (pc := 82) (q := 2) d_K_apply_82 lm_K_69 (c_S_start x0) v_S_start rfl rfl rfl (by decide) rfl (Nat.le_of_ble_eq_true rfl) ?_
        rintro _ _ ⟨rfl, rfl⟩
        show pG m_K_apply τ _ 0 0 85 _ (.int _ :: _) _
        refine g_callV (M' := m_K_draftApplication) (pc := 85) (q := 0) d_K_apply_85 lm_K_79 (c_K_draftApplication Ty (30 * f0) (30 * x0) (tyR X) F X hI1.1 h55 hI1.2.2.1 hF hX (by simp)) v_K_draftApplication rfl rfl rfl (by decide) rfl (Nat.le_of_ble_eq_true rfl) ?_
        rintro _ _ ⟨i2, r2, rfl, rfl, hx2, hk2⟩
        have hI2 := hI1.dw hk2.w hx2
        show pG m_K_apply τ _ 0 0 88 _ _ _
        refine g_aload_n (pc := 88) d_K_apply_88 rfl ?_
        refine gx_K_shelf (pc := 89) d_K_apply_89 lf_K_19 ?_
        refine g_aload_n (pc := 92) d_K_apply_92 rfl ?_
        refine gx_K_draft (pc := 93) d_K_apply_93 lf_K_28 ?_
        refine g_callV (M' := m_S_keep) (pc := 96) (q := 2) d_K_apply_96 lm_K_60 (c_S_keep Tm _ hI2.2.1 hI2.2.2.1 (by rw [List.nil_append]; exact tok_b (by decide) (by decide) (res_at hI.1 h55).2.1 (app_b hF.lt hX.lt)) (by have := hF.2.2.2; have := hX.2.2.2; simp [sAp]; omega)) v_S_keep rfl rfl rfl (by decide) rfl (Nat.le_of_ble_eq_true rfl) ?_
        rintro _ _ ⟨i9, r9, rfl, rfl, hS9, hk9⟩
        show pG m_K_apply τ _ 0 0 99 _ (.int _ :: _) _
        refine g_iret (pc := 99) d_K_apply_99 rfl (Nat.le_refl _) (Nat.le_refl _) ?_
        exact ⟨i9, r9, L, _, by rw [e]; rfl, rfl, by rw [e]; exact hI2.kp hk9 hS9⟩
      · refine g_bipush (pc := 58) (v := -2) d_K_apply_58 (by decide) ?_
        refine g_iret (pc := 60) d_K_apply_60 rfl (Nat.le_refl _) (Nat.le_refl _) ?_
        have e : sApply Ty Tm (nI f0) (nI x0) = (-2, Tm) := by rw [sApply, h8, h19, rwT_at hF0 b2, rwT_at hX0 b2, h55]; rfl
        exact ⟨i, r, L, d, by rw [e], rfl, by rw [e]; exact hI⟩
    · refine g_iconst (pc := 22) (v := -1) d_K_apply_22 (by decide) ?_
      refine g_iret (pc := 23) d_K_apply_23 rfl (Nat.le_refl _) (Nat.le_refl _) ?_
      have e : sApply Ty Tm f x = (-1, Tm) := by
        first | (rw [sApply, h8]; rfl) | (rw [sApply, h8, h19]; rfl)
      exact ⟨i, r, L, d, by rw [e], rfl, by rw [e]; exact hI⟩
set_option maxRecDepth 100000 in
set_option maxHeartbeats 4000000 in
theorem c_K_join {τ : Nat × Nat} {a : Nat → Nat} {i : Nat → Int32} {r : Nat → Nat → Int32} {L : Nat → Int64} {wr : pW} {Ty : List (Nat × Nat)} {Tm : List (List Nat)} {Th : List Thm} {d : List Nat} (e x y : Int32) (hI : XI Ty Tm Th d i r L) (ok : TmOk Ty Tm) : pC m_K_join τ [.ref (a 0), .int e, .int x, .int y] (wX a i r L ++ wr) ((fun rr w2 => ∃ i2 r2 L2 d2, rr = some (.int ((sJoin Tm e x y).1)) ∧ w2 = wX a i2 r2 L2 ++ wr ∧ XI (Ty) ((sJoin Tm e x y).2) (Th) d2 i2 r2 L2)) := by
  refine pC.of rfl (Nat.le_of_ble_eq_true rfl) ?_
  show pG m_K_join τ _ 0 0 0 [(0, _), (1, _), (2, _), (3, _)] [] _
  obtain ⟨b1, b2, b3, b4, b5, b6⟩ := hI.b
  refine g_aload_n (pc := 0) d_K_join_0 rfl ?_
  refine gx_K_shelf (pc := 1) d_K_join_1 lf_K_19 ?_
  refine g_iload_n (pc := 4) d_K_join_4 rfl ?_
  refine g_callV (M' := m_S_has) (pc := 5) (q := 2) d_K_join_5 lm_K_68 (c_S_has Tm.length b5 (by omega) _) v_S_has rfl rfl rfl (by decide) rfl (Nat.le_of_ble_eq_true rfl) ?_
  rintro _ _ ⟨rfl, rfl⟩
  show pG m_K_join τ _ 0 0 8 _ (.int _ :: _) _
  refine g_ifb_eq (pc := 8) (tgt := 22) d_K_join_8 (by decide) (fun h8 => ?_) (fun h8 => ?_)
  · refine g_iconst (pc := 22) (v := -1) d_K_join_22 (by decide) ?_
    refine g_iret (pc := 23) d_K_join_23 rfl (Nat.le_refl _) (Nat.le_refl _) ?_
    have e1 : sJoin Tm e x y = (-1, Tm) := by
      first | (rw [sJoin, h8]; rfl) | (rw [sJoin, h8, h19]; rfl)
    exact ⟨i, r, L, d, by rw [e1], rfl, by rw [e1]; exact hI⟩
  · refine g_aload_n (pc := 11) d_K_join_11 rfl ?_
    refine gx_K_shelf (pc := 12) d_K_join_12 lf_K_19 ?_
    refine g_iload_n (pc := 15) d_K_join_15 rfl ?_
    refine g_callV (M' := m_S_has) (pc := 16) (q := 2) d_K_join_16 lm_K_68 (c_S_has Tm.length b5 (by omega) _) v_S_has rfl rfl rfl (by decide) rfl (Nat.le_of_ble_eq_true rfl) ?_
    rintro _ _ ⟨rfl, rfl⟩
    show pG m_K_join τ _ 0 0 19 _ (.int _ :: _) _
    refine g_ifb_ne (pc := 19) (tgt := 24) d_K_join_19 (by decide) (fun h19 => ?_) (fun h19 => ?_)
    · obtain ⟨x0, hx0, rfl⟩ := ixB_of h8 (by omega)
      obtain ⟨y0, hy0, rfl⟩ := ixB_of h19 (by omega)
      obtain ⟨X, hX0⟩ := get_of hx0
      obtain ⟨Y, hY0⟩ := get_of hy0
      have hX := hI.2.1.pa ok hX0
      have hY := hI.2.1.pa ok hY0
      have tX := tyR_lt X
      have tY := tyR_lt Y
      refine g_aload_n (pc := 24) d_K_join_24 rfl ?_
      refine gx_K_shelf (pc := 25) d_K_join_25 lf_K_19 ?_
      refine g_iload_n (pc := 28) d_K_join_28 rfl ?_
      refine g_callV (M' := m_S_start) (pc := 29) (q := 2) d_K_join_29 lm_K_69 (c_S_start x0) v_S_start rfl rfl rfl (by decide) rfl (Nat.le_of_ble_eq_true rfl) ?_
      rintro _ _ ⟨rfl, rfl⟩
      show pG m_K_join τ _ 0 0 32 _ (.int _ :: _) _
      refine g_istore (pc := 32) [(4, _), (0, _), (1, _), (2, _), (3, _)] d_K_join_32 (by decide) rfl ?_
      refine g_aload_n (pc := 34) d_K_join_34 rfl ?_
      refine gx_K_shelf (pc := 35) d_K_join_35 lf_K_19 ?_
      refine g_iload_n (pc := 38) d_K_join_38 rfl ?_
      refine g_callV (M' := m_S_start) (pc := 39) (q := 2) d_K_join_39 lm_K_69 (c_S_start y0) v_S_start rfl rfl rfl (by decide) rfl (Nat.le_of_ble_eq_true rfl) ?_
      rintro _ _ ⟨rfl, rfl⟩
      show pG m_K_join τ _ 0 0 42 _ (.int _ :: _) _
      refine g_istore (pc := 42) [(5, _), (4, _), (0, _), (1, _), (2, _), (3, _)] d_K_join_42 (by decide) rfl ?_
      refine g_aload_n (pc := 44) d_K_join_44 rfl ?_
      refine g_iload (pc := 45) d_K_join_45 rfl ?_
      refine g_callV (M' := m_K_typeAt) (pc := 47) (q := 0) d_K_join_47 lm_K_72 (c_K_typeAt (30 * x0) X hX) v_K_typeAt rfl rfl rfl (by decide) rfl (Nat.le_of_ble_eq_true rfl) ?_
      rintro _ _ ⟨rfl, rfl⟩
      show pG m_K_join τ _ 0 0 50 _ (.int _ :: _) _
      refine g_aload_n (pc := 50) d_K_join_50 rfl ?_
      refine g_iload (pc := 51) d_K_join_51 rfl ?_
      refine g_callV (M' := m_K_typeAt) (pc := 53) (q := 0) d_K_join_53 lm_K_72 (c_K_typeAt (30 * y0) Y hY) v_K_typeAt rfl rfl rfl (by decide) rfl (Nat.le_of_ble_eq_true rfl) ?_
      rintro _ _ ⟨rfl, rfl⟩
      show pG m_K_join τ _ 0 0 56 _ (.int _ :: _) _
      refine g_nicmp_ne (pc := 56) (tgt := 72) d_K_join_56 (by decide) (by omega) (by omega) (fun h56 => ?_) (fun h56 => ?_)
      · refine g_bipush (pc := 72) (v := -2) d_K_join_72 (by decide) ?_
        refine g_iret (pc := 74) d_K_join_74 rfl (Nat.le_refl _) (Nat.le_refl _) ?_
        have e1 : sJoin Tm e (nI x0) (nI y0) = (-2, Tm) := by
          rw [sJoin, h8, h19, rwT_at hX0 b2, rwT_at hY0 b2]
          refine (if_pos rfl).trans (if_neg ?_)
          first | exact fun q => h56 q.1 | exact fun q => h69 (q.2 h60)
        exact ⟨i, r, L, d, by rw [e1], rfl, by rw [e1]; exact hI⟩
      · refine g_iload_n (pc := 59) d_K_join_59 rfl ?_
        refine g_if_ne (pc := 60) (tgt := 75) d_K_join_60 (by decide) (fun h60 => ?_) (fun h60 => ?_)
        · have hok : tyR X = tyR Y ∧ (e = 0 → tyR X = 0) := ⟨h56, fun q => by first | exact absurd q h60 | exact h69⟩
          have e1 : sJoin Tm e (nI x0) (nI y0) = sKeep Tm (sJn (if e = 0 then 6 else 7) X Y) := by
            rw [sJoin, h8, h19, rwT_at hX0 b2, rwT_at hY0 b2]
            exact if_pos hok
          refine g_aload_n (pc := 75) d_K_join_75 rfl ?_
          refine gx_K_draft (pc := 76) d_K_join_76 lf_K_28 ?_
          refine g_callV (M' := m_D_clear) (pc := 79) (q := 3) d_K_join_79 lm_K_47 (c_D_clear) v_D_clear rfl rfl rfl (by decide) rfl (Nat.le_of_ble_eq_true rfl) ?_
          rintro _ _ ⟨rfl, rfl⟩
          have hI1 := hI.cl
          show pG m_K_join τ _ 0 0 82 _ _ _
          refine g_aload_n (pc := 82) d_K_join_82 rfl ?_
          refine g_iload_n (pc := 83) d_K_join_83 rfl ?_
          refine g_if_eq (pc := 84) (tgt := 92) d_K_join_84 (by decide) (fun h84 => ?_) (fun h84 => ?_)
          · refine g_bipush (pc := 92) (v := nI 6) d_K_join_92 (by decide) ?_
            refine g_iload (pc := 94) d_K_join_94 rfl ?_
            refine g_iload (pc := 96) d_K_join_96 rfl ?_
            refine g_callV (M' := m_K_draftJoint) (pc := 98) (q := 0) d_K_join_98 lm_K_103 (c_K_draftJoint _ (30 * x0) (30 * y0) X Y (by decide) hI1.2.2.1 hX hY (by simp)) v_K_draftJoint rfl rfl rfl (by decide) rfl (Nat.le_of_ble_eq_true rfl) ?_
            rintro _ _ ⟨i2, r2, rfl, rfl, hx2, hk2⟩
            have hI2 := hI1.dw hk2.w hx2
            show pG m_K_join τ _ 0 0 101 _ _ _
            refine g_aload_n (pc := 101) d_K_join_101 rfl ?_
            refine gx_K_shelf (pc := 102) d_K_join_102 lf_K_19 ?_
            refine g_aload_n (pc := 105) d_K_join_105 rfl ?_
            refine gx_K_draft (pc := 106) d_K_join_106 lf_K_28 ?_
            refine g_callV (M' := m_S_keep) (pc := 109) (q := 2) d_K_join_109 lm_K_60 (c_S_keep Tm _ hI2.2.1 hI2.2.2.1 (by rw [List.nil_append]; exact tok_b (by decide) (by decide) (by decide) (app_b hX.lt hY.lt)) (by have := hX.2.2.2; have := hY.2.2.2; simp [sJn]; omega)) v_S_keep rfl rfl rfl (by decide) rfl (Nat.le_of_ble_eq_true rfl) ?_
            rintro _ _ ⟨i9, r9, rfl, rfl, hS9, hk9⟩
            show pG m_K_join τ _ 0 0 112 _ (.int _ :: _) _
            refine g_iret (pc := 112) d_K_join_112 rfl (Nat.le_refl _) (Nat.le_refl _) ?_
            first | rw [if_neg h84] at e1 | rw [if_pos h84] at e1
            exact ⟨i9, r9, L, _, by rw [e1]; rfl, rfl, by rw [e1]; exact hI2.kp hk9 hS9⟩
          · refine g_bipush (pc := 87) (v := nI 7) d_K_join_87 (by decide) ?_
            refine g_goto (pc := 89) (tgt := 94) d_K_join_89 (by decide) ?_
            refine g_iload (pc := 94) d_K_join_94 rfl ?_
            refine g_iload (pc := 96) d_K_join_96 rfl ?_
            refine g_callV (M' := m_K_draftJoint) (pc := 98) (q := 0) d_K_join_98 lm_K_103 (c_K_draftJoint _ (30 * x0) (30 * y0) X Y (by decide) hI1.2.2.1 hX hY (by simp)) v_K_draftJoint rfl rfl rfl (by decide) rfl (Nat.le_of_ble_eq_true rfl) ?_
            rintro _ _ ⟨i2, r2, rfl, rfl, hx2, hk2⟩
            have hI2 := hI1.dw hk2.w hx2
            show pG m_K_join τ _ 0 0 101 _ _ _
            refine g_aload_n (pc := 101) d_K_join_101 rfl ?_
            refine gx_K_shelf (pc := 102) d_K_join_102 lf_K_19 ?_
            refine g_aload_n (pc := 105) d_K_join_105 rfl ?_
            refine gx_K_draft (pc := 106) d_K_join_106 lf_K_28 ?_
            refine g_callV (M' := m_S_keep) (pc := 109) (q := 2) d_K_join_109 lm_K_60 (c_S_keep Tm _ hI2.2.1 hI2.2.2.1 (by rw [List.nil_append]; exact tok_b (by decide) (by decide) (by decide) (app_b hX.lt hY.lt)) (by have := hX.2.2.2; have := hY.2.2.2; simp [sJn]; omega)) v_S_keep rfl rfl rfl (by decide) rfl (Nat.le_of_ble_eq_true rfl) ?_
            rintro _ _ ⟨i9, r9, rfl, rfl, hS9, hk9⟩
            show pG m_K_join τ _ 0 0 112 _ (.int _ :: _) _
            refine g_iret (pc := 112) d_K_join_112 rfl (Nat.le_refl _) (Nat.le_refl _) ?_
            first | rw [if_neg h84] at e1 | rw [if_pos h84] at e1
            exact ⟨i9, r9, L, _, by rw [e1]; rfl, rfl, by rw [e1]; exact hI2.kp hk9 hS9⟩
        · refine g_aload_n (pc := 63) d_K_join_63 rfl ?_
          refine g_iload (pc := 64) d_K_join_64 rfl ?_
          refine g_callV (M' := m_K_typeAt) (pc := 66) (q := 0) d_K_join_66 lm_K_72 (c_K_typeAt (30 * x0) X hX) v_K_typeAt rfl rfl rfl (by decide) rfl (Nat.le_of_ble_eq_true rfl) ?_
          rintro _ _ ⟨rfl, rfl⟩
          show pG m_K_join τ _ 0 0 69 _ (.int _ :: _) _
          refine g_nif_eq (pc := 69) (tgt := 75) d_K_join_69 (by decide) (by omega) (fun h69 => ?_) (fun h69 => ?_)
          · have hok : tyR X = tyR Y ∧ (e = 0 → tyR X = 0) := ⟨h56, fun q => by first | exact absurd q h60 | exact h69⟩
            have e1 : sJoin Tm e (nI x0) (nI y0) = sKeep Tm (sJn (if e = 0 then 6 else 7) X Y) := by
              rw [sJoin, h8, h19, rwT_at hX0 b2, rwT_at hY0 b2]
              exact if_pos hok
            refine g_aload_n (pc := 75) d_K_join_75 rfl ?_
            refine gx_K_draft (pc := 76) d_K_join_76 lf_K_28 ?_
            refine g_callV (M' := m_D_clear) (pc := 79) (q := 3) d_K_join_79 lm_K_47 (c_D_clear) v_D_clear rfl rfl rfl (by decide) rfl (Nat.le_of_ble_eq_true rfl) ?_
            rintro _ _ ⟨rfl, rfl⟩
            have hI1 := hI.cl
            show pG m_K_join τ _ 0 0 82 _ _ _
            refine g_aload_n (pc := 82) d_K_join_82 rfl ?_
            refine g_iload_n (pc := 83) d_K_join_83 rfl ?_
            refine g_if_eq (pc := 84) (tgt := 92) d_K_join_84 (by decide) (fun h84 => ?_) (fun h84 => ?_)
            · refine g_bipush (pc := 92) (v := nI 6) d_K_join_92 (by decide) ?_
              refine g_iload (pc := 94) d_K_join_94 rfl ?_
              refine g_iload (pc := 96) d_K_join_96 rfl ?_
              refine g_callV (M' := m_K_draftJoint) (pc := 98) (q := 0) d_K_join_98 lm_K_103 (c_K_draftJoint _ (30 * x0) (30 * y0) X Y (by decide) hI1.2.2.1 hX hY (by simp)) v_K_draftJoint rfl rfl rfl (by decide) rfl (Nat.le_of_ble_eq_true rfl) ?_
              rintro _ _ ⟨i2, r2, rfl, rfl, hx2, hk2⟩
              have hI2 := hI1.dw hk2.w hx2
              show pG m_K_join τ _ 0 0 101 _ _ _
              refine g_aload_n (pc := 101) d_K_join_101 rfl ?_
              refine gx_K_shelf (pc := 102) d_K_join_102 lf_K_19 ?_
              refine g_aload_n (pc := 105) d_K_join_105 rfl ?_
              refine gx_K_draft (pc := 106) d_K_join_106 lf_K_28 ?_
              refine g_callV (M' := m_S_keep) (pc := 109) (q := 2) d_K_join_109 lm_K_60 (c_S_keep Tm _ hI2.2.1 hI2.2.2.1 (by rw [List.nil_append]; exact tok_b (by decide) (by decide) (by decide) (app_b hX.lt hY.lt)) (by have := hX.2.2.2; have := hY.2.2.2; simp [sJn]; omega)) v_S_keep rfl rfl rfl (by decide) rfl (Nat.le_of_ble_eq_true rfl) ?_
              rintro _ _ ⟨i9, r9, rfl, rfl, hS9, hk9⟩
              show pG m_K_join τ _ 0 0 112 _ (.int _ :: _) _
              refine g_iret (pc := 112) d_K_join_112 rfl (Nat.le_refl _) (Nat.le_refl _) ?_
              first | rw [if_neg h84] at e1 | rw [if_pos h84] at e1
              exact ⟨i9, r9, L, _, by rw [e1]; rfl, rfl, by rw [e1]; exact hI2.kp hk9 hS9⟩
            · refine g_bipush (pc := 87) (v := nI 7) d_K_join_87 (by decide) ?_
              refine g_goto (pc := 89) (tgt := 94) d_K_join_89 (by decide) ?_
              refine g_iload (pc := 94) d_K_join_94 rfl ?_
              refine g_iload (pc := 96) d_K_join_96 rfl ?_
              refine g_callV (M' := m_K_draftJoint) (pc := 98) (q := 0) d_K_join_98 lm_K_103 (c_K_draftJoint _ (30 * x0) (30 * y0) X Y (by decide) hI1.2.2.1 hX hY (by simp)) v_K_draftJoint rfl rfl rfl (by decide) rfl (Nat.le_of_ble_eq_true rfl) ?_
              rintro _ _ ⟨i2, r2, rfl, rfl, hx2, hk2⟩
              have hI2 := hI1.dw hk2.w hx2
              show pG m_K_join τ _ 0 0 101 _ _ _
              refine g_aload_n (pc := 101) d_K_join_101 rfl ?_
              refine gx_K_shelf (pc := 102) d_K_join_102 lf_K_19 ?_
              refine g_aload_n (pc := 105) d_K_join_105 rfl ?_
              refine gx_K_draft (pc := 106) d_K_join_106 lf_K_28 ?_
              refine g_callV (M' := m_S_keep) (pc := 109) (q := 2) d_K_join_109 lm_K_60 (c_S_keep Tm _ hI2.2.1 hI2.2.2.1 (by rw [List.nil_append]; exact tok_b (by decide) (by decide) (by decide) (app_b hX.lt hY.lt)) (by have := hX.2.2.2; have := hY.2.2.2; simp [sJn]; omega)) v_S_keep rfl rfl rfl (by decide) rfl (Nat.le_of_ble_eq_true rfl) ?_
              rintro _ _ ⟨i9, r9, rfl, rfl, hS9, hk9⟩
              show pG m_K_join τ _ 0 0 112 _ (.int _ :: _) _
              refine g_iret (pc := 112) d_K_join_112 rfl (Nat.le_refl _) (Nat.le_refl _) ?_
              first | rw [if_neg h84] at e1 | rw [if_pos h84] at e1
              exact ⟨i9, r9, L, _, by rw [e1]; rfl, rfl, by rw [e1]; exact hI2.kp hk9 hS9⟩
          · refine g_bipush (pc := 72) (v := -2) d_K_join_72 (by decide) ?_
            refine g_iret (pc := 74) d_K_join_74 rfl (Nat.le_refl _) (Nat.le_refl _) ?_
            have e1 : sJoin Tm e (nI x0) (nI y0) = (-2, Tm) := by
              rw [sJoin, h8, h19, rwT_at hX0 b2, rwT_at hY0 b2]
              refine (if_pos rfl).trans (if_neg ?_)
              first | exact fun q => h56 q.1 | exact fun q => h69 (q.2 h60)
            exact ⟨i, r, L, d, by rw [e1], rfl, by rw [e1]; exact hI⟩
    · refine g_iconst (pc := 22) (v := -1) d_K_join_22 (by decide) ?_
      refine g_iret (pc := 23) d_K_join_23 rfl (Nat.le_refl _) (Nat.le_refl _) ?_
      have e1 : sJoin Tm e x y = (-1, Tm) := by
        first | (rw [sJoin, h8]; rfl) | (rw [sJoin, h8, h19]; rfl)
      exact ⟨i, r, L, d, by rw [e1], rfl, by rw [e1]; exact hI⟩
theorem sKeep_m4 {Tm : List (List Nat)} {d : List Nat} (h : (sKeep Tm d).1 = -4) (hl : Tm.length ≤ 60) : (sKeep Tm d).2 = Tm := by
  by_cases c : 30 < d.length
  · rw [sKeep_big c]
  · cases e : fnd Tm d with
    | some t => rw [sKeep_at c e]
    | none =>
      by_cases f : Tm.length = 60
      · rw [sKeep_full c e f]
      · rw [sKeep_new c e f] at h
        exact absurd h (nI_m4 (by show Tm.length < 2 ^ 31; omega))
/-- the types cut back to what they were -/
theorem XT.pre {Ty Ty2 : List (Nat × Nat)} {i i2 : Nat → Int32} {r : Nat → Nat → Int32} (h : XT Ty2 i r) (hp : ∀ (z : Nat) (p : Nat × Nat), Ty[z]? = some p → Ty2[z]? = some p) (hl : Ty.length ≤ 13) (e0 : i2 0 = nI (3 + Ty.length)) : XT Ty i2 r := ⟨e0, hl, h.2.2.1, fun j p hj => h.2.2.2 j p (hp j p hj)⟩
theorem XI.tcut {Ty Ty2 : List (Nat × Nat)} {Tm : List (List Nat)} {Th : List Thm} {d : List Nat} {i : Nat → Int32} {r : Nat → Nat → Int32} {L : Nat → Int64} {x : Int32} (h : XI Ty2 Tm Th d i r L) (hp : ∀ (z : Nat) (p : Nat × Nat), Ty[z]? = some p → Ty2[z]? = some p) (hl : Ty.length ≤ 13) (e0 : x = nI (3 + Ty.length)) : XI Ty Tm Th d (upd i 0 x) r L :=
  ⟨h.1.pre hp hl (by rw [pk_us]; exact e0), h.2.1.mv (pk_un (by decide)) rfl rfl, h.2.2.1.mv (pk_un (by decide)) rfl, h.2.2.2.mv (pk_un (by decide)) rfl rfl rfl rfl⟩
theorem sAb_ext {Ty : List (Nat × Nat)} {d row : List Nat} {v : Nat} (hl : Ty.length ≤ 13) : ∀ (z : Nat) (p : Nat × Nat), Ty[z]? = some p → (sAb Ty d v row).1[z]? = some p := by
  intro z p hz
  unfold sAb
  split
  · exact hz
  · rename_i hs
    obtain ⟨j, -, -, -, -, -, h, -⟩ := (sNum_cases Ty (v % 16) (tyR row) hl).resolve_left (fun e => hs (by rw [e]))
    exact h z p hz
set_option maxRecDepth 100000 in
set_option maxHeartbeats 4000000 in
theorem c_K_bind {τ : Nat × Nat} {a : Nat → Nat} {i : Nat → Int32} {r : Nat → Nat → Int32} {L : Nat → Int64} {wr : pW} {Ty : List (Nat × Nat)} {Tm : List (List Nat)} {Th : List Thm} {d : List Nat} (al v t : Int32) (hI : XI Ty Tm Th d i r L) (ok : TmOk Ty Tm) : pC m_K_bind τ [.ref (a 0), .int al, .int v, .int t] (wX a i r L ++ wr) ((fun rr w2 => ∃ i2 r2 L2 d2, rr = some (.int ((sBind Ty Tm al v t).1)) ∧ w2 = wX a i2 r2 L2 ++ wr ∧ XI ((sBind Ty Tm al v t).2.1) ((sBind Ty Tm al v t).2.2) (Th) d2 i2 r2 L2)) := by
  refine pC.of rfl (Nat.le_of_ble_eq_true rfl) ?_
  show pG m_K_bind τ _ 0 0 0 [(0, _), (1, _), (2, _), (3, _)] [] _
  obtain ⟨b1, b2, b3, b4, b5, b6⟩ := hI.b
  refine g_aload_n (pc := 0) d_K_bind_0 rfl ?_
  refine gx_K_shelf (pc := 1) d_K_bind_1 lf_K_19 ?_
  refine g_iload_n (pc := 4) d_K_bind_4 rfl ?_
  refine g_callV (M' := m_S_has) (pc := 5) (q := 2) d_K_bind_5 lm_K_68 (c_S_has Tm.length b5 (by omega) _) v_S_has rfl rfl rfl (by decide) rfl (Nat.le_of_ble_eq_true rfl) ?_
  rintro _ _ ⟨rfl, rfl⟩
  show pG m_K_bind τ _ 0 0 8 _ (.int _ :: _) _
  refine g_ifb_eq (pc := 8) (tgt := 22) d_K_bind_8 (by decide) (fun h8 => ?_) (fun h8 => ?_)
  · refine g_iconst (pc := 22) (v := -1) d_K_bind_22 (by decide) ?_
    refine g_iret (pc := 23) d_K_bind_23 rfl (Nat.le_refl _) (Nat.le_refl _) ?_
    have e1 : sBind Ty Tm al v t = (-1, Ty, Tm) := by
      first | (rw [sBind, h8]; rfl) | (rw [sBind, h8, h19]; rfl)
    exact ⟨i, r, L, d, by rw [e1], rfl, by rw [e1]; exact hI⟩
  · refine g_aload_n (pc := 11) d_K_bind_11 rfl ?_
    refine gx_K_shelf (pc := 12) d_K_bind_12 lf_K_19 ?_
    refine g_iload_n (pc := 15) d_K_bind_15 rfl ?_
    refine g_callV (M' := m_S_has) (pc := 16) (q := 2) d_K_bind_16 lm_K_68 (c_S_has Tm.length b5 (by omega) _) v_S_has rfl rfl rfl (by decide) rfl (Nat.le_of_ble_eq_true rfl) ?_
    rintro _ _ ⟨rfl, rfl⟩
    show pG m_K_bind τ _ 0 0 19 _ (.int _ :: _) _
    refine g_ifb_ne (pc := 19) (tgt := 24) d_K_bind_19 (by decide) (fun h19 => ?_) (fun h19 => ?_)
    · obtain ⟨v0, hv0, rfl⟩ := ixB_of h8 (by omega)
      obtain ⟨t0, ht0, rfl⟩ := ixB_of h19 (by omega)
      obtain ⟨Vr, hV0⟩ := get_of hv0
      obtain ⟨R, hR0⟩ := get_of ht0
      have hV := hI.2.1.pa ok hV0
      have hR := hI.2.1.pa ok hR0
      have tR := tyR_lt R
      refine g_aload_n (pc := 24) d_K_bind_24 rfl ?_
      refine gx_K_shelf (pc := 25) d_K_bind_25 lf_K_19 ?_
      refine g_iload_n (pc := 28) d_K_bind_28 rfl ?_
      refine g_callV (M' := m_S_start) (pc := 29) (q := 2) d_K_bind_29 lm_K_69 (c_S_start v0) v_S_start rfl rfl rfl (by decide) rfl (Nat.le_of_ble_eq_true rfl) ?_
      rintro _ _ ⟨rfl, rfl⟩
      show pG m_K_bind τ _ 0 0 32 _ (.int _ :: _) _
      refine g_istore (pc := 32) [(4, _), (0, _), (1, _), (2, _), (3, _)] d_K_bind_32 (by decide) rfl ?_
      refine g_aload_n (pc := 34) d_K_bind_34 rfl ?_
      refine gx_K_shelf (pc := 35) d_K_bind_35 lf_K_19 ?_
      refine g_iload_n (pc := 38) d_K_bind_38 rfl ?_
      refine g_callV (M' := m_S_start) (pc := 39) (q := 2) d_K_bind_39 lm_K_69 (c_S_start t0) v_S_start rfl rfl rfl (by decide) rfl (Nat.le_of_ble_eq_true rfl) ?_
      rintro _ _ ⟨rfl, rfl⟩
      show pG m_K_bind τ _ 0 0 42 _ (.int _ :: _) _
      refine g_istore (pc := 42) [(5, _), (4, _), (0, _), (1, _), (2, _), (3, _)] d_K_bind_42 (by decide) rfl ?_
      refine g_aload_n (pc := 44) d_K_bind_44 rfl ?_
      refine g_iconst (pc := 45) (v := nI 0) d_K_bind_45 (by decide) ?_
      refine g_iload (pc := 46) d_K_bind_46 rfl ?_
      refine g_callV (M' := m_K_isA) (pc := 48) (q := 0) d_K_bind_48 lm_K_83 (c_K_isA 0 (30 * v0) Vr (by decide) hV) v_K_isA rfl rfl rfl (by decide) rfl (Nat.le_of_ble_eq_true rfl) ?_
      rintro _ _ ⟨rfl, rfl⟩
      show pG m_K_bind τ _ 0 0 51 _ (.int _ :: _) _
      refine g_ifb_eq (pc := 51) (tgt := 67) d_K_bind_51 (by decide) (fun h51 => ?_) (fun h51 => ?_)
      · refine g_bipush (pc := 67) (v := -2) d_K_bind_67 (by decide) ?_
        refine g_iret (pc := 69) d_K_bind_69 rfl (Nat.le_refl _) (Nat.le_refl _) ?_
        have e1 : sBind Ty Tm al (nI v0) (nI t0) = (-2, Ty, Tm) := by
          rw [sBind, h8, h19, rwT_at hV0 b2, rwT_at hR0 b2]
          refine (if_pos rfl).trans (if_neg ?_)
          first | exact fun q => of_decide_eq_false h51 q.1 | exact fun q => q.2.elim h55 h64
        exact ⟨i, r, L, d, by rw [e1], rfl, by rw [e1]; exact hI⟩
      · refine g_iload_n (pc := 54) d_K_bind_54 rfl ?_
        refine g_if_eq (pc := 55) (tgt := 70) d_K_bind_55 (by decide) (fun h55 => ?_) (fun h55 => ?_)
        · have hok : tgR Vr = 0 ∧ (al = 0 ∨ tyR R = 0) := ⟨of_decide_eq_true h51, by first | exact Or.inl h55 | exact Or.inr h64⟩
          have e1 : sBind Ty Tm al (nI v0) (nI t0) = (if (sKeep Tm (sBdr Ty al Vr R).2).1 = -4 then (-4, Ty, Tm) else ((sKeep Tm (sBdr Ty al Vr R).2).1, (sBdr Ty al Vr R).1, (sKeep Tm (sBdr Ty al Vr R).2).2)) := by
            rw [sBind, h8, h19, rwT_at hV0 b2, rwT_at hR0 b2]
            exact if_pos hok
          refine g_aload_n (pc := 70) d_K_bind_70 rfl ?_
          refine gx_K_types (pc := 71) d_K_bind_71 lf_K_10 ?_
          refine g_callV (M' := m_T_count) (pc := 74) (q := 1) d_K_bind_74 lm_K_86 (c_T_count) v_T_count rfl rfl rfl (by decide) rfl (Nat.le_of_ble_eq_true rfl) ?_
          rintro _ _ ⟨rfl, rfl⟩
          show pG m_K_bind τ _ 0 0 77 _ (.int _ :: _) _
          refine g_istore (pc := 77) [(6, _), (5, _), (4, _), (0, _), (1, _), (2, _), (3, _)] d_K_bind_77 (by decide) rfl ?_
          refine g_aload_n (pc := 79) d_K_bind_79 rfl ?_
          refine gx_K_draft (pc := 80) d_K_bind_80 lf_K_28 ?_
          refine g_callV (M' := m_D_clear) (pc := 83) (q := 3) d_K_bind_83 lm_K_47 (c_D_clear) v_D_clear rfl rfl rfl (by decide) rfl (Nat.le_of_ble_eq_true rfl) ?_
          rintro _ _ ⟨rfl, rfl⟩
          have hI1 := hI.cl
          show pG m_K_bind τ _ 0 0 86 _ _ _
          refine g_iload_n (pc := 86) d_K_bind_86 rfl ?_
          refine g_if_eq (pc := 87) (tgt := 113) d_K_bind_87 (by decide) (fun h87 => ?_) (fun h87 => ?_)
          · refine g_aload_n (pc := 113) d_K_bind_113 rfl ?_
            refine g_iload (pc := 114) d_K_bind_114 rfl ?_
            refine g_iload (pc := 116) d_K_bind_116 rfl ?_
            refine g_callV (M' := m_K_draftAbstraction) (pc := 118) (q := 0) d_K_bind_118 lm_K_97 (c_K_draftAbstraction Ty (30 * v0) (30 * t0) Vr R hI1.1 hI1.2.2.1 hV hR (by simp)) v_K_draftAbstraction rfl rfl rfl (by decide) rfl (Nat.le_of_ble_eq_true rfl) ?_
            rintro _ _ ⟨i3, r3, rfl, rfl, hT3, hx3, hk3⟩
            have hI2 := hI1.tw hk3 hT3 hx3
            have hpre := sAb_ext (d := []) (v := hdt Vr) (row := R) b1
            have hD : sBdr Ty al Vr R = sAb Ty [] (hdt Vr) R := if_pos h87
            have hlk : (sAb Ty [] (hdt Vr) R).2.length < 100000 := by
              unfold sAb
              split
              · simp
              · have := @cls_len (hdt Vr) R [0]
                have := hR.2.2.2
                simp [sBd]
                omega
            have h4k : ∀ x, x ∈ (sAb Ty [] (hdt Vr) R).2 → x < 4096 := by
              unfold sAb
              split
              · intro x hx; have := List.eq_of_mem_replicate hx; omega
              · rename_i hs
                obtain ⟨j, hj, -, he, -⟩ := (sNum_cases Ty (hdt Vr % 16) (tyR R) b1).resolve_left (fun e => hs (by rw [e]))
                rw [he, nI_clamp (by omega)]
                exact sBd_lt (by decide) (by omega) hR.lt hR.2.2.2
            show pG m_K_bind τ _ 0 0 121 _ _ _
            refine g_aload_n (pc := 121) d_K_bind_121 rfl ?_
            refine gx_K_shelf (pc := 122) d_K_bind_122 lf_K_19 ?_
            refine g_aload_n (pc := 125) d_K_bind_125 rfl ?_
            refine gx_K_draft (pc := 126) d_K_bind_126 lf_K_28 ?_
            refine g_callV (M' := m_S_keep) (pc := 129) (q := 2) d_K_bind_129 lm_K_60 (c_S_keep Tm _ hI2.2.1 hI2.2.2.1 h4k hlk) v_S_keep rfl rfl rfl (by decide) rfl (Nat.le_of_ble_eq_true rfl) ?_
            rintro _ _ ⟨i9, r9, rfl, rfl, hS9, hk9⟩
            show pG m_K_bind τ _ 0 0 132 _ (.int _ :: _) _
            refine g_istore (pc := 132) [(7, _), (6, _), (5, _), (4, _), (0, _), (1, _), (2, _), (3, _)] d_K_bind_132 (by decide) rfl ?_
            refine g_iload (pc := 134) d_K_bind_134 rfl ?_
            refine g_bipush (pc := 136) (v := -4) d_K_bind_136 (by decide) ?_
            refine g_icmp_ne (pc := 138) (tgt := 150) d_K_bind_138 (by decide) (fun h138 => ?_) (fun h138 => ?_)
            · refine g_iload (pc := 150) d_K_bind_150 rfl ?_
              refine g_iret (pc := 152) d_K_bind_152 rfl (Nat.le_refl _) (Nat.le_refl _) ?_
              rw [hD] at e1
              have e3 := e1.trans (if_neg h138)
              exact ⟨i9, r9, L, _, by first | (rw [e3]; done) | (rw [e3]; rfl), rfl, by rw [e3]; exact hI2.kp hk9 hS9⟩
            · refine g_aload_n (pc := 141) d_K_bind_141 rfl ?_
              refine gx_K_types (pc := 142) d_K_bind_142 lf_K_10 ?_
              refine g_iload (pc := 145) d_K_bind_145 rfl ?_
              refine g_callV (M' := m_T_cutTo) (pc := 147) (q := 1) d_K_bind_147 lm_K_100 (c_T_cutTo _) v_T_cutTo rfl rfl rfl (by decide) rfl (Nat.le_of_ble_eq_true rfl) ?_
              rintro _ _ ⟨rfl, rfl⟩
              show pG m_K_bind τ _ 0 0 150 _ _ _
              refine g_iload (pc := 150) d_K_bind_150 rfl ?_
              refine g_iret (pc := 152) d_K_bind_152 rfl (Nat.le_refl _) (Nat.le_refl _) ?_
              rw [hD] at e1
              have hk4 := h138
              have hXS := hS9
              rw [sKeep_m4 hk4 b2] at hXS
              have e3 := e1.trans (if_pos hk4)
              exact ⟨_, _, L, _, by rw [e3]; exact congrArg (fun v => some (Value.int v)) hk4, rfl, by rw [e3]; exact (hI2.kp hk9 hXS).tcut hpre b1 b4⟩
          · refine g_aload_n (pc := 90) d_K_bind_90 rfl ?_
            refine gx_K_draft (pc := 91) d_K_bind_91 lf_K_28 ?_
            refine g_iconst (pc := 94) (v := nI 4) d_K_bind_94 (by decide) ?_
            refine g_iconst (pc := 95) (v := nI 0) d_K_bind_95 (by decide) ?_
            refine g_aload_n (pc := 96) d_K_bind_96 rfl ?_
            refine gx_K_shelf (pc := 97) d_K_bind_97 lf_K_19 ?_
            refine g_iload (pc := 100) d_K_bind_100 rfl ?_
            refine g_callV (M' := m_S_token) (pc := 102) (q := 2) d_K_bind_102 lm_K_90 (c_S_token (30 * v0) (hdt Vr) hV.hd.1 hV.hd.2.1) v_S_token rfl rfl rfl (by decide) rfl (Nat.le_of_ble_eq_true rfl) ?_
            rintro _ _ ⟨rfl, rfl⟩
            show pG m_K_bind τ _ 0 0 105 _ (.int _ :: _) _
            refine g_iload (pc := 105) d_K_bind_105 rfl ?_
            refine g_callV (M' := m_D_addBinder) (pc := 107) (q := 3) d_K_bind_107 lm_K_93 (c_D_addBinder [] 4 0 (hdt Vr) (30 * t0) R (by decide) (by decide) hV.hd.2.2 hI1.2.2.1 hR.1 hR.2.1 hR.2.2.1 hR.2.2.2 (by simp)) v_D_addBinder rfl rfl rfl (by decide) rfl (Nat.le_of_ble_eq_true rfl) ?_
            rintro _ _ ⟨i3, r3, rfl, rfl, hx3, hk3⟩
            have hI2 := hI1.dw hk3 hx3
            have hpre : ∀ (z : Nat) (p : Nat × Nat), Ty[z]? = some p → Ty[z]? = some p := fun _ _ h => h
            have hD : sBdr Ty al Vr R = (Ty, [] ++ sBd 4 0 (hdt Vr) R) := if_neg h87
            have h4k := sBd_lt (tg := 4) (ty := 0) (v := hdt Vr) (by decide) (by decide) hR.lt hR.2.2.2
            have hlk : ([] ++ sBd 4 0 (hdt Vr) R).length < 100000 := by
              have := @cls_len (hdt Vr) R [0]
              have := hR.2.2.2
              simp [sBd]
              omega
            show pG m_K_bind τ _ 0 0 110 _ _ _
            refine g_goto (pc := 110) (tgt := 121) d_K_bind_110 (by decide) ?_
            refine g_aload_n (pc := 121) d_K_bind_121 rfl ?_
            refine gx_K_shelf (pc := 122) d_K_bind_122 lf_K_19 ?_
            refine g_aload_n (pc := 125) d_K_bind_125 rfl ?_
            refine gx_K_draft (pc := 126) d_K_bind_126 lf_K_28 ?_
            refine g_callV (M' := m_S_keep) (pc := 129) (q := 2) d_K_bind_129 lm_K_60 (c_S_keep Tm _ hI2.2.1 hI2.2.2.1 h4k hlk) v_S_keep rfl rfl rfl (by decide) rfl (Nat.le_of_ble_eq_true rfl) ?_
            rintro _ _ ⟨i9, r9, rfl, rfl, hS9, hk9⟩
            show pG m_K_bind τ _ 0 0 132 _ (.int _ :: _) _
            refine g_istore (pc := 132) [(7, _), (6, _), (5, _), (4, _), (0, _), (1, _), (2, _), (3, _)] d_K_bind_132 (by decide) rfl ?_
            refine g_iload (pc := 134) d_K_bind_134 rfl ?_
            refine g_bipush (pc := 136) (v := -4) d_K_bind_136 (by decide) ?_
            refine g_icmp_ne (pc := 138) (tgt := 150) d_K_bind_138 (by decide) (fun h138 => ?_) (fun h138 => ?_)
            · refine g_iload (pc := 150) d_K_bind_150 rfl ?_
              refine g_iret (pc := 152) d_K_bind_152 rfl (Nat.le_refl _) (Nat.le_refl _) ?_
              rw [hD] at e1
              have e3 := e1.trans (if_neg h138)
              exact ⟨i9, r9, L, _, by first | (rw [e3]; done) | (rw [e3]; rfl), rfl, by rw [e3]; exact hI2.kp hk9 hS9⟩
            · refine g_aload_n (pc := 141) d_K_bind_141 rfl ?_
              refine gx_K_types (pc := 142) d_K_bind_142 lf_K_10 ?_
              refine g_iload (pc := 145) d_K_bind_145 rfl ?_
              refine g_callV (M' := m_T_cutTo) (pc := 147) (q := 1) d_K_bind_147 lm_K_100 (c_T_cutTo _) v_T_cutTo rfl rfl rfl (by decide) rfl (Nat.le_of_ble_eq_true rfl) ?_
              rintro _ _ ⟨rfl, rfl⟩
              show pG m_K_bind τ _ 0 0 150 _ _ _
              refine g_iload (pc := 150) d_K_bind_150 rfl ?_
              refine g_iret (pc := 152) d_K_bind_152 rfl (Nat.le_refl _) (Nat.le_refl _) ?_
              rw [hD] at e1
              have hk4 := h138
              have hXS := hS9
              rw [sKeep_m4 hk4 b2] at hXS
              have e3 := e1.trans (if_pos hk4)
              exact ⟨_, _, L, _, by rw [e3]; exact congrArg (fun v => some (Value.int v)) hk4, rfl, by rw [e3]; exact (hI2.kp hk9 hXS).tcut hpre b1 b4⟩
        · refine g_aload_n (pc := 58) d_K_bind_58 rfl ?_
          refine g_iload (pc := 59) d_K_bind_59 rfl ?_
          refine g_callV (M' := m_K_typeAt) (pc := 61) (q := 0) d_K_bind_61 lm_K_72 (c_K_typeAt (30 * t0) R hR) v_K_typeAt rfl rfl rfl (by decide) rfl (Nat.le_of_ble_eq_true rfl) ?_
          rintro _ _ ⟨rfl, rfl⟩
          show pG m_K_bind τ _ 0 0 64 _ (.int _ :: _) _
          refine g_nif_eq (pc := 64) (tgt := 70) d_K_bind_64 (by decide) (by omega) (fun h64 => ?_) (fun h64 => ?_)
          · have hok : tgR Vr = 0 ∧ (al = 0 ∨ tyR R = 0) := ⟨of_decide_eq_true h51, by first | exact Or.inl h55 | exact Or.inr h64⟩
            have e1 : sBind Ty Tm al (nI v0) (nI t0) = (if (sKeep Tm (sBdr Ty al Vr R).2).1 = -4 then (-4, Ty, Tm) else ((sKeep Tm (sBdr Ty al Vr R).2).1, (sBdr Ty al Vr R).1, (sKeep Tm (sBdr Ty al Vr R).2).2)) := by
              rw [sBind, h8, h19, rwT_at hV0 b2, rwT_at hR0 b2]
              exact if_pos hok
            refine g_aload_n (pc := 70) d_K_bind_70 rfl ?_
            refine gx_K_types (pc := 71) d_K_bind_71 lf_K_10 ?_
            refine g_callV (M' := m_T_count) (pc := 74) (q := 1) d_K_bind_74 lm_K_86 (c_T_count) v_T_count rfl rfl rfl (by decide) rfl (Nat.le_of_ble_eq_true rfl) ?_
            rintro _ _ ⟨rfl, rfl⟩
            show pG m_K_bind τ _ 0 0 77 _ (.int _ :: _) _
            refine g_istore (pc := 77) [(6, _), (5, _), (4, _), (0, _), (1, _), (2, _), (3, _)] d_K_bind_77 (by decide) rfl ?_
            refine g_aload_n (pc := 79) d_K_bind_79 rfl ?_
            refine gx_K_draft (pc := 80) d_K_bind_80 lf_K_28 ?_
            refine g_callV (M' := m_D_clear) (pc := 83) (q := 3) d_K_bind_83 lm_K_47 (c_D_clear) v_D_clear rfl rfl rfl (by decide) rfl (Nat.le_of_ble_eq_true rfl) ?_
            rintro _ _ ⟨rfl, rfl⟩
            have hI1 := hI.cl
            show pG m_K_bind τ _ 0 0 86 _ _ _
            refine g_iload_n (pc := 86) d_K_bind_86 rfl ?_
            refine g_if_eq (pc := 87) (tgt := 113) d_K_bind_87 (by decide) (fun h87 => ?_) (fun h87 => ?_)
            · refine g_aload_n (pc := 113) d_K_bind_113 rfl ?_
              refine g_iload (pc := 114) d_K_bind_114 rfl ?_
              refine g_iload (pc := 116) d_K_bind_116 rfl ?_
              refine g_callV (M' := m_K_draftAbstraction) (pc := 118) (q := 0) d_K_bind_118 lm_K_97 (c_K_draftAbstraction Ty (30 * v0) (30 * t0) Vr R hI1.1 hI1.2.2.1 hV hR (by simp)) v_K_draftAbstraction rfl rfl rfl (by decide) rfl (Nat.le_of_ble_eq_true rfl) ?_
              rintro _ _ ⟨i3, r3, rfl, rfl, hT3, hx3, hk3⟩
              have hI2 := hI1.tw hk3 hT3 hx3
              have hpre := sAb_ext (d := []) (v := hdt Vr) (row := R) b1
              have hD : sBdr Ty al Vr R = sAb Ty [] (hdt Vr) R := if_pos h87
              have hlk : (sAb Ty [] (hdt Vr) R).2.length < 100000 := by
                unfold sAb
                split
                · simp
                · have := @cls_len (hdt Vr) R [0]
                  have := hR.2.2.2
                  simp [sBd]
                  omega
              have h4k : ∀ x, x ∈ (sAb Ty [] (hdt Vr) R).2 → x < 4096 := by
                unfold sAb
                split
                · intro x hx; have := List.eq_of_mem_replicate hx; omega
                · rename_i hs
                  obtain ⟨j, hj, -, he, -⟩ := (sNum_cases Ty (hdt Vr % 16) (tyR R) b1).resolve_left (fun e => hs (by rw [e]))
                  rw [he, nI_clamp (by omega)]
                  exact sBd_lt (by decide) (by omega) hR.lt hR.2.2.2
              show pG m_K_bind τ _ 0 0 121 _ _ _
              refine g_aload_n (pc := 121) d_K_bind_121 rfl ?_
              refine gx_K_shelf (pc := 122) d_K_bind_122 lf_K_19 ?_
              refine g_aload_n (pc := 125) d_K_bind_125 rfl ?_
              refine gx_K_draft (pc := 126) d_K_bind_126 lf_K_28 ?_
              refine g_callV (M' := m_S_keep) (pc := 129) (q := 2) d_K_bind_129 lm_K_60 (c_S_keep Tm _ hI2.2.1 hI2.2.2.1 h4k hlk) v_S_keep rfl rfl rfl (by decide) rfl (Nat.le_of_ble_eq_true rfl) ?_
              rintro _ _ ⟨i9, r9, rfl, rfl, hS9, hk9⟩
              show pG m_K_bind τ _ 0 0 132 _ (.int _ :: _) _
              refine g_istore (pc := 132) [(7, _), (6, _), (5, _), (4, _), (0, _), (1, _), (2, _), (3, _)] d_K_bind_132 (by decide) rfl ?_
              refine g_iload (pc := 134) d_K_bind_134 rfl ?_
              refine g_bipush (pc := 136) (v := -4) d_K_bind_136 (by decide) ?_
              refine g_icmp_ne (pc := 138) (tgt := 150) d_K_bind_138 (by decide) (fun h138 => ?_) (fun h138 => ?_)
              · refine g_iload (pc := 150) d_K_bind_150 rfl ?_
                refine g_iret (pc := 152) d_K_bind_152 rfl (Nat.le_refl _) (Nat.le_refl _) ?_
                rw [hD] at e1
                have e3 := e1.trans (if_neg h138)
                exact ⟨i9, r9, L, _, by first | (rw [e3]; done) | (rw [e3]; rfl), rfl, by rw [e3]; exact hI2.kp hk9 hS9⟩
              · refine g_aload_n (pc := 141) d_K_bind_141 rfl ?_
                refine gx_K_types (pc := 142) d_K_bind_142 lf_K_10 ?_
                refine g_iload (pc := 145) d_K_bind_145 rfl ?_
                refine g_callV (M' := m_T_cutTo) (pc := 147) (q := 1) d_K_bind_147 lm_K_100 (c_T_cutTo _) v_T_cutTo rfl rfl rfl (by decide) rfl (Nat.le_of_ble_eq_true rfl) ?_
                rintro _ _ ⟨rfl, rfl⟩
                show pG m_K_bind τ _ 0 0 150 _ _ _
                refine g_iload (pc := 150) d_K_bind_150 rfl ?_
                refine g_iret (pc := 152) d_K_bind_152 rfl (Nat.le_refl _) (Nat.le_refl _) ?_
                rw [hD] at e1
                have hk4 := h138
                have hXS := hS9
                rw [sKeep_m4 hk4 b2] at hXS
                have e3 := e1.trans (if_pos hk4)
                exact ⟨_, _, L, _, by rw [e3]; exact congrArg (fun v => some (Value.int v)) hk4, rfl, by rw [e3]; exact (hI2.kp hk9 hXS).tcut hpre b1 b4⟩
            · refine g_aload_n (pc := 90) d_K_bind_90 rfl ?_
              refine gx_K_draft (pc := 91) d_K_bind_91 lf_K_28 ?_
              refine g_iconst (pc := 94) (v := nI 4) d_K_bind_94 (by decide) ?_
              refine g_iconst (pc := 95) (v := nI 0) d_K_bind_95 (by decide) ?_
              refine g_aload_n (pc := 96) d_K_bind_96 rfl ?_
              refine gx_K_shelf (pc := 97) d_K_bind_97 lf_K_19 ?_
              refine g_iload (pc := 100) d_K_bind_100 rfl ?_
              refine g_callV (M' := m_S_token) (pc := 102) (q := 2) d_K_bind_102 lm_K_90 (c_S_token (30 * v0) (hdt Vr) hV.hd.1 hV.hd.2.1) v_S_token rfl rfl rfl (by decide) rfl (Nat.le_of_ble_eq_true rfl) ?_
              rintro _ _ ⟨rfl, rfl⟩
              show pG m_K_bind τ _ 0 0 105 _ (.int _ :: _) _
              refine g_iload (pc := 105) d_K_bind_105 rfl ?_
              refine g_callV (M' := m_D_addBinder) (pc := 107) (q := 3) d_K_bind_107 lm_K_93 (c_D_addBinder [] 4 0 (hdt Vr) (30 * t0) R (by decide) (by decide) hV.hd.2.2 hI1.2.2.1 hR.1 hR.2.1 hR.2.2.1 hR.2.2.2 (by simp)) v_D_addBinder rfl rfl rfl (by decide) rfl (Nat.le_of_ble_eq_true rfl) ?_
              rintro _ _ ⟨i3, r3, rfl, rfl, hx3, hk3⟩
              have hI2 := hI1.dw hk3 hx3
              have hpre : ∀ (z : Nat) (p : Nat × Nat), Ty[z]? = some p → Ty[z]? = some p := fun _ _ h => h
              have hD : sBdr Ty al Vr R = (Ty, [] ++ sBd 4 0 (hdt Vr) R) := if_neg h87
              have h4k := sBd_lt (tg := 4) (ty := 0) (v := hdt Vr) (by decide) (by decide) hR.lt hR.2.2.2
              have hlk : ([] ++ sBd 4 0 (hdt Vr) R).length < 100000 := by
                have := @cls_len (hdt Vr) R [0]
                have := hR.2.2.2
                simp [sBd]
                omega
              show pG m_K_bind τ _ 0 0 110 _ _ _
              refine g_goto (pc := 110) (tgt := 121) d_K_bind_110 (by decide) ?_
              refine g_aload_n (pc := 121) d_K_bind_121 rfl ?_
              refine gx_K_shelf (pc := 122) d_K_bind_122 lf_K_19 ?_
              refine g_aload_n (pc := 125) d_K_bind_125 rfl ?_
              refine gx_K_draft (pc := 126) d_K_bind_126 lf_K_28 ?_
              refine g_callV (M' := m_S_keep) (pc := 129) (q := 2) d_K_bind_129 lm_K_60 (c_S_keep Tm _ hI2.2.1 hI2.2.2.1 h4k hlk) v_S_keep rfl rfl rfl (by decide) rfl (Nat.le_of_ble_eq_true rfl) ?_
              rintro _ _ ⟨i9, r9, rfl, rfl, hS9, hk9⟩
              show pG m_K_bind τ _ 0 0 132 _ (.int _ :: _) _
              refine g_istore (pc := 132) [(7, _), (6, _), (5, _), (4, _), (0, _), (1, _), (2, _), (3, _)] d_K_bind_132 (by decide) rfl ?_
              refine g_iload (pc := 134) d_K_bind_134 rfl ?_
              refine g_bipush (pc := 136) (v := -4) d_K_bind_136 (by decide) ?_
              refine g_icmp_ne (pc := 138) (tgt := 150) d_K_bind_138 (by decide) (fun h138 => ?_) (fun h138 => ?_)
              · refine g_iload (pc := 150) d_K_bind_150 rfl ?_
                refine g_iret (pc := 152) d_K_bind_152 rfl (Nat.le_refl _) (Nat.le_refl _) ?_
                rw [hD] at e1
                have e3 := e1.trans (if_neg h138)
                exact ⟨i9, r9, L, _, by first | (rw [e3]; done) | (rw [e3]; rfl), rfl, by rw [e3]; exact hI2.kp hk9 hS9⟩
              · refine g_aload_n (pc := 141) d_K_bind_141 rfl ?_
                refine gx_K_types (pc := 142) d_K_bind_142 lf_K_10 ?_
                refine g_iload (pc := 145) d_K_bind_145 rfl ?_
                refine g_callV (M' := m_T_cutTo) (pc := 147) (q := 1) d_K_bind_147 lm_K_100 (c_T_cutTo _) v_T_cutTo rfl rfl rfl (by decide) rfl (Nat.le_of_ble_eq_true rfl) ?_
                rintro _ _ ⟨rfl, rfl⟩
                show pG m_K_bind τ _ 0 0 150 _ _ _
                refine g_iload (pc := 150) d_K_bind_150 rfl ?_
                refine g_iret (pc := 152) d_K_bind_152 rfl (Nat.le_refl _) (Nat.le_refl _) ?_
                rw [hD] at e1
                have hk4 := h138
                have hXS := hS9
                rw [sKeep_m4 hk4 b2] at hXS
                have e3 := e1.trans (if_pos hk4)
                exact ⟨_, _, L, _, by rw [e3]; exact congrArg (fun v => some (Value.int v)) hk4, rfl, by rw [e3]; exact (hI2.kp hk9 hXS).tcut hpre b1 b4⟩
          · refine g_bipush (pc := 67) (v := -2) d_K_bind_67 (by decide) ?_
            refine g_iret (pc := 69) d_K_bind_69 rfl (Nat.le_refl _) (Nat.le_refl _) ?_
            have e1 : sBind Ty Tm al (nI v0) (nI t0) = (-2, Ty, Tm) := by
              rw [sBind, h8, h19, rwT_at hV0 b2, rwT_at hR0 b2]
              refine (if_pos rfl).trans (if_neg ?_)
              first | exact fun q => of_decide_eq_false h51 q.1 | exact fun q => q.2.elim h55 h64
            exact ⟨i, r, L, d, by rw [e1], rfl, by rw [e1]; exact hI⟩
    · refine g_iconst (pc := 22) (v := -1) d_K_bind_22 (by decide) ?_
      refine g_iret (pc := 23) d_K_bind_23 rfl (Nat.le_refl _) (Nat.le_refl _) ?_
      have e1 : sBind Ty Tm al v t = (-1, Ty, Tm) := by
        first | (rw [sBind, h8]; rfl) | (rw [sBind, h8, h19]; rfl)
      exact ⟨i, r, L, d, by rw [e1], rfl, by rw [e1]; exact hI⟩
set_option maxRecDepth 100000 in
set_option maxHeartbeats 4000000 in
theorem c_K_terms {τ : Nat × Nat} {a : Nat → Nat} {i : Nat → Int32} {r : Nat → Nat → Int32} {L : Nat → Int64} {wr : pW} {Ty : List (Nat × Nat)} {Tm : List (List Nat)} {Th : List Thm} {d : List Nat} (hI : XI Ty Tm Th d i r L) : pC m_K_terms τ [.ref (a 0)] (wX a i r L ++ wr) ((fun rr w2 => rr = some (.int (nI Tm.length)) ∧ w2 = wX a i r L ++ wr)) := by
  refine pC.of rfl (Nat.le_of_ble_eq_true rfl) ?_
  show pG m_K_terms τ _ 0 0 0 [(0, _)] [] _
  refine g_aload_n (pc := 0) d_K_terms_0 rfl ?_
  refine gx_K_shelf (pc := 1) d_K_terms_1 lf_K_19 ?_
  refine g_callV (M' := m_S_count) (pc := 4) (q := 2) d_K_terms_4 lm_K_131 (c_S_count) v_S_count rfl rfl rfl (by decide) rfl (Nat.le_of_ble_eq_true rfl) ?_
  rintro _ _ ⟨rfl, rfl⟩
  show pG m_K_terms τ _ 0 0 7 _ (.int _ :: _) _
  refine g_iret (pc := 7) d_K_terms_7 rfl (Nat.le_refl _) (Nat.le_refl _) ?_
  exact ⟨by rw [hI.b.2.2.2.2.1], rfl⟩
set_option maxRecDepth 100000 in
set_option maxHeartbeats 4000000 in
theorem c_K_theorems {τ : Nat × Nat} {a : Nat → Nat} {i : Nat → Int32} {r : Nat → Nat → Int32} {L : Nat → Int64} {wr : pW} {Ty : List (Nat × Nat)} {Tm : List (List Nat)} {Th : List Thm} {d : List Nat} (hI : XI Ty Tm Th d i r L) : pC m_K_theorems τ [.ref (a 0)] (wX a i r L ++ wr) ((fun rr w2 => rr = some (.int (nI Th.length)) ∧ w2 = wX a i r L ++ wr)) := by
  refine pC.of rfl (Nat.le_of_ble_eq_true rfl) ?_
  show pG m_K_theorems τ _ 0 0 0 [(0, _)] [] _
  refine g_aload_n (pc := 0) d_K_theorems_0 rfl ?_
  refine gx_K_book (pc := 1) d_K_theorems_1 lf_K_35 ?_
  refine g_callV (M' := m_B_count) (pc := 4) (q := 4) d_K_theorems_4 lm_K_132 (c_B_count) v_B_count rfl rfl rfl (by decide) rfl (Nat.le_of_ble_eq_true rfl) ?_
  rintro _ _ ⟨rfl, rfl⟩
  show pG m_K_theorems τ _ 0 0 7 _ (.int _ :: _) _
  refine g_iret (pc := 7) d_K_theorems_7 rfl (Nat.le_refl _) (Nat.le_refl _) ?_
  exact ⟨by rw [hI.b.2.2.2.2.2], rfl⟩
set_option maxRecDepth 100000 in
set_option maxHeartbeats 4000000 in
theorem c_K_typeOf {τ : Nat × Nat} {a : Nat → Nat} {i : Nat → Int32} {r : Nat → Nat → Int32} {L : Nat → Int64} {wr : pW} {Ty : List (Nat × Nat)} {Tm : List (List Nat)} {Th : List Thm} {d : List Nat} (t : Int32) (hI : XI Ty Tm Th d i r L) (ok : TmOk Ty Tm) : pC m_K_typeOf τ [.ref (a 0), .int t] (wX a i r L ++ wr) ((fun rr w2 => rr = some (.int (if ixB t Tm.length then nI (tyR (rwT Tm t)) else -1)) ∧ w2 = wX a i r L ++ wr)) := by
  refine pC.of rfl (Nat.le_of_ble_eq_true rfl) ?_
  show pG m_K_typeOf τ _ 0 0 0 [(0, _), (1, _)] [] _
  obtain ⟨b1, b2, b3, b4, b5, b6⟩ := hI.b
  refine g_aload_n (pc := 0) d_K_typeOf_0 rfl ?_
  refine gx_K_shelf (pc := 1) d_K_typeOf_1 lf_K_19 ?_
  refine g_iload_n (pc := 4) d_K_typeOf_4 rfl ?_
  refine g_callV (M' := m_S_has) (pc := 5) (q := 2) d_K_typeOf_5 lm_K_68 (c_S_has Tm.length b5 (by omega) _) v_S_has rfl rfl rfl (by decide) rfl (Nat.le_of_ble_eq_true rfl) ?_
  rintro _ _ ⟨rfl, rfl⟩
  show pG m_K_typeOf τ _ 0 0 8 _ (.int _ :: _) _
  refine g_ifb_eq (pc := 8) (tgt := 26) d_K_typeOf_8 (by decide) (fun h8 => ?_) (fun h8 => ?_)
  · refine g_iconst (pc := 26) (v := -1) d_K_typeOf_26 (by decide) ?_
    refine g_iret (pc := 27) d_K_typeOf_27 rfl (Nat.le_refl _) (Nat.le_refl _) ?_
    refine ⟨congrArg (fun v => some (Value.int v)) ?_, rfl⟩
    first | rw [if_neg (by rw [h8]; decide)] | rw [if_pos h8, rwT_at hR0 b2]
  · obtain ⟨t0, ht0, rfl⟩ := ixB_of h8 (by omega)
    obtain ⟨R, hR0⟩ := get_of ht0
    have hR := hI.2.1.pa ok hR0
    refine g_aload_n (pc := 11) d_K_typeOf_11 rfl ?_
    refine g_aload_n (pc := 12) d_K_typeOf_12 rfl ?_
    refine gx_K_shelf (pc := 13) d_K_typeOf_13 lf_K_19 ?_
    refine g_iload_n (pc := 16) d_K_typeOf_16 rfl ?_
    refine g_callV (M' := m_S_start) (pc := 17) (q := 2) d_K_typeOf_17 lm_K_69 (c_S_start t0) v_S_start rfl rfl rfl (by decide) rfl (Nat.le_of_ble_eq_true rfl) ?_
    rintro _ _ ⟨rfl, rfl⟩
    show pG m_K_typeOf τ _ 0 0 20 _ (.int _ :: _) _
    refine g_callV (M' := m_K_typeAt) (pc := 20) (q := 0) d_K_typeOf_20 lm_K_72 (c_K_typeAt (30 * t0) R hR) v_K_typeAt rfl rfl rfl (by decide) rfl (Nat.le_of_ble_eq_true rfl) ?_
    rintro _ _ ⟨rfl, rfl⟩
    show pG m_K_typeOf τ _ 0 0 23 _ (.int _ :: _) _
    refine g_goto (pc := 23) (tgt := 27) d_K_typeOf_23 (by decide) ?_
    refine g_iret (pc := 27) d_K_typeOf_27 rfl (Nat.le_refl _) (Nat.le_refl _) ?_
    refine ⟨congrArg (fun v => some (Value.int v)) ?_, rfl⟩
    first | rw [if_neg (by rw [h8]; decide)] | rw [if_pos h8, rwT_at hR0 b2]
set_option maxRecDepth 100000 in
set_option maxHeartbeats 4000000 in
theorem c_K_size {τ : Nat × Nat} {a : Nat → Nat} {i : Nat → Int32} {r : Nat → Nat → Int32} {L : Nat → Int64} {wr : pW} {Ty : List (Nat × Nat)} {Tm : List (List Nat)} {Th : List Thm} {d : List Nat} (t : Int32) (hI : XI Ty Tm Th d i r L) (ok : TmOk Ty Tm) : pC m_K_size τ [.ref (a 0), .int t] (wX a i r L ++ wr) ((fun rr w2 => rr = some (.int (if ixB t Tm.length then nI (rwT Tm t).length else -1)) ∧ w2 = wX a i r L ++ wr)) := by
  refine pC.of rfl (Nat.le_of_ble_eq_true rfl) ?_
  show pG m_K_size τ _ 0 0 0 [(0, _), (1, _)] [] _
  obtain ⟨b1, b2, b3, b4, b5, b6⟩ := hI.b
  refine g_aload_n (pc := 0) d_K_size_0 rfl ?_
  refine gx_K_shelf (pc := 1) d_K_size_1 lf_K_19 ?_
  refine g_iload_n (pc := 4) d_K_size_4 rfl ?_
  refine g_callV (M' := m_S_has) (pc := 5) (q := 2) d_K_size_5 lm_K_68 (c_S_has Tm.length b5 (by omega) _) v_S_has rfl rfl rfl (by decide) rfl (Nat.le_of_ble_eq_true rfl) ?_
  rintro _ _ ⟨rfl, rfl⟩
  show pG m_K_size τ _ 0 0 8 _ (.int _ :: _) _
  refine g_ifb_eq (pc := 8) (tgt := 22) d_K_size_8 (by decide) (fun h8 => ?_) (fun h8 => ?_)
  · refine g_iconst (pc := 22) (v := -1) d_K_size_22 (by decide) ?_
    refine g_iret (pc := 23) d_K_size_23 rfl (Nat.le_refl _) (Nat.le_refl _) ?_
    refine ⟨congrArg (fun v => some (Value.int v)) ?_, rfl⟩
    first | rw [if_neg (by rw [h8]; decide)] | rw [if_pos h8, rwT_at hR0 b2]
  · obtain ⟨t0, ht0, rfl⟩ := ixB_of h8 (by omega)
    obtain ⟨R, hR0⟩ := get_of ht0
    have hR := hI.2.1.pa ok hR0
    refine g_aload_n (pc := 11) d_K_size_11 rfl ?_
    refine gx_K_shelf (pc := 12) d_K_size_12 lf_K_19 ?_
    refine g_iload_n (pc := 15) d_K_size_15 rfl ?_
    refine g_callV (M' := m_S_length) (pc := 16) (q := 2) d_K_size_16 lm_K_133 (c_S_length t0 (by omega)) v_S_length rfl rfl rfl (by decide) rfl (Nat.le_of_ble_eq_true rfl) ?_
    rintro _ _ ⟨rfl, rfl⟩
    show pG m_K_size τ _ 0 0 19 _ (.int _ :: _) _
    rw [(hI.2.1.2.2 t0 R hR0).2.1]
    refine g_goto (pc := 19) (tgt := 23) d_K_size_19 (by decide) ?_
    refine g_iret (pc := 23) d_K_size_23 rfl (Nat.le_refl _) (Nat.le_refl _) ?_
    refine ⟨congrArg (fun v => some (Value.int v)) ?_, rfl⟩
    first | rw [if_neg (by rw [h8]; decide)] | rw [if_pos h8, rwT_at hR0 b2]
def sFree (Tm : List (List Nat)) (v t : Int32) : Bool := ixB v Tm.length && ixB t Tm.length && decide (tgR (rwT Tm v) = 0) && decide (hdt (rwT Tm v) ∈ rwT Tm t)
set_option maxRecDepth 100000 in
set_option maxHeartbeats 4000000 in
theorem c_K_free {τ : Nat × Nat} {a : Nat → Nat} {i : Nat → Int32} {r : Nat → Nat → Int32} {L : Nat → Int64} {wr : pW} {Ty : List (Nat × Nat)} {Tm : List (List Nat)} {Th : List Thm} {d : List Nat} (v t : Int32) (hI : XI Ty Tm Th d i r L) (ok : TmOk Ty Tm) : pC m_K_free τ [.ref (a 0), .int v, .int t] (wX a i r L ++ wr) ((fun rr w2 => rr = some (.int (bI (sFree Tm v t))) ∧ w2 = wX a i r L ++ wr)) := by
  refine pC.of rfl (Nat.le_of_ble_eq_true rfl) ?_
  show pG m_K_free τ _ 0 0 0 [(0, _), (1, _), (2, _)] [] _
  obtain ⟨b1, b2, b3, b4, b5, b6⟩ := hI.b
  refine g_aload_n (pc := 0) d_K_free_0 rfl ?_
  refine gx_K_shelf (pc := 1) d_K_free_1 lf_K_19 ?_
  refine g_iload_n (pc := 4) d_K_free_4 rfl ?_
  refine g_callV (M' := m_S_has) (pc := 5) (q := 2) d_K_free_5 lm_K_68 (c_S_has Tm.length b5 (by omega) _) v_S_has rfl rfl rfl (by decide) rfl (Nat.le_of_ble_eq_true rfl) ?_
  rintro _ _ ⟨rfl, rfl⟩
  show pG m_K_free τ _ 0 0 8 _ (.int _ :: _) _
  refine g_ifb_eq (pc := 8) (tgt := 38) d_K_free_8 (by decide) (fun h8 => ?_) (fun h8 => ?_)
  · refine g_iconst (pc := 38) (v := nI 0) d_K_free_38 (by decide) ?_
    refine g_zret (pc := 39) d_K_free_39 rfl (by decide) (Nat.le_refl _) (Nat.le_refl _) ?_
    refine ⟨congrArg (fun v => some (Value.int v)) (bI_0 ?_), rfl⟩
    first | (rw [sFree, h8]; rfl) | (rw [sFree, h8, h19]; rfl) | (rw [sFree, rwT_at hV0 b2, h8, h19, h35]; rfl)
  · refine g_aload_n (pc := 11) d_K_free_11 rfl ?_
    refine gx_K_shelf (pc := 12) d_K_free_12 lf_K_19 ?_
    refine g_iload_n (pc := 15) d_K_free_15 rfl ?_
    refine g_callV (M' := m_S_has) (pc := 16) (q := 2) d_K_free_16 lm_K_68 (c_S_has Tm.length b5 (by omega) _) v_S_has rfl rfl rfl (by decide) rfl (Nat.le_of_ble_eq_true rfl) ?_
    rintro _ _ ⟨rfl, rfl⟩
    show pG m_K_free τ _ 0 0 19 _ (.int _ :: _) _
    refine g_ifb_eq (pc := 19) (tgt := 38) d_K_free_19 (by decide) (fun h19 => ?_) (fun h19 => ?_)
    · refine g_iconst (pc := 38) (v := nI 0) d_K_free_38 (by decide) ?_
      refine g_zret (pc := 39) d_K_free_39 rfl (by decide) (Nat.le_refl _) (Nat.le_refl _) ?_
      refine ⟨congrArg (fun v => some (Value.int v)) (bI_0 ?_), rfl⟩
      first | (rw [sFree, h8]; rfl) | (rw [sFree, h8, h19]; rfl) | (rw [sFree, rwT_at hV0 b2, h8, h19, h35]; rfl)
    · obtain ⟨v0, hv0, rfl⟩ := ixB_of h8 (by omega)
      obtain ⟨t0, ht0, rfl⟩ := ixB_of h19 (by omega)
      obtain ⟨Vr, hV0⟩ := get_of hv0
      obtain ⟨R, hR0⟩ := get_of ht0
      have hV := hI.2.1.pa ok hV0
      have hR := hI.2.1.pa ok hR0
      refine g_aload_n (pc := 22) d_K_free_22 rfl ?_
      refine g_iconst (pc := 23) (v := nI 0) d_K_free_23 (by decide) ?_
      refine g_aload_n (pc := 24) d_K_free_24 rfl ?_
      refine gx_K_shelf (pc := 25) d_K_free_25 lf_K_19 ?_
      refine g_iload_n (pc := 28) d_K_free_28 rfl ?_
      refine g_callV (M' := m_S_start) (pc := 29) (q := 2) d_K_free_29 lm_K_69 (c_S_start v0) v_S_start rfl rfl rfl (by decide) rfl (Nat.le_of_ble_eq_true rfl) ?_
      rintro _ _ ⟨rfl, rfl⟩
      show pG m_K_free τ _ 0 0 32 _ (.int _ :: _) _
      refine g_callV (M' := m_K_isA) (pc := 32) (q := 0) d_K_free_32 lm_K_83 (c_K_isA 0 (30 * v0) Vr (by decide) hV) v_K_isA rfl rfl rfl (by decide) rfl (Nat.le_of_ble_eq_true rfl) ?_
      rintro _ _ ⟨rfl, rfl⟩
      show pG m_K_free τ _ 0 0 35 _ (.int _ :: _) _
      refine g_ifb_ne (pc := 35) (tgt := 40) d_K_free_35 (by decide) (fun h35 => ?_) (fun h35 => ?_)
      · refine g_aload_n (pc := 40) d_K_free_40 rfl ?_
        refine gx_K_shelf (pc := 41) d_K_free_41 lf_K_19 ?_
        refine g_iload_n (pc := 44) d_K_free_44 rfl ?_
        refine g_aload_n (pc := 45) d_K_free_45 rfl ?_
        refine gx_K_shelf (pc := 46) d_K_free_46 lf_K_19 ?_
        refine g_aload_n (pc := 49) d_K_free_49 rfl ?_
        refine gx_K_shelf (pc := 50) d_K_free_50 lf_K_19 ?_
        refine g_iload_n (pc := 53) d_K_free_53 rfl ?_
        refine g_callV (M' := m_S_start) (pc := 54) (q := 2) d_K_free_54 lm_K_69 (c_S_start v0) v_S_start rfl rfl rfl (by decide) rfl (Nat.le_of_ble_eq_true rfl) ?_
        rintro _ _ ⟨rfl, rfl⟩
        show pG m_K_free τ _ 0 0 57 _ (.int _ :: _) _
        refine g_callV (M' := m_S_token) (pc := 57) (q := 2) d_K_free_57 lm_K_90 (c_S_token (30 * v0) (hdt Vr) hV.hd.1 hV.hd.2.1) v_S_token rfl rfl rfl (by decide) rfl (Nat.le_of_ble_eq_true rfl) ?_
        rintro _ _ ⟨rfl, rfl⟩
        show pG m_K_free τ _ 0 0 60 _ (.int _ :: _) _
        refine g_callV (M' := m_S_holds) (pc := 60) (q := 2) d_K_free_60 lm_K_136 (c_S_holds t0 (hdt Vr) R (by omega) hV.hd.2.2 hR.1 hR.2.2.2 (hI.2.1.2.2 t0 R hR0).2.1) v_S_holds rfl rfl rfl (by decide) rfl (Nat.le_of_ble_eq_true rfl) ?_
        rintro _ _ ⟨rfl, rfl⟩
        show pG m_K_free τ _ 0 0 63 _ (.int _ :: _) _
        refine g_zret (pc := 63) d_K_free_63 rfl (narrow_bI _) (Nat.le_refl _) (Nat.le_refl _) ?_
        refine ⟨congrArg (fun v => some (Value.int (bI v))) ?_, rfl⟩
        rw [sFree, rwT_at hV0 b2, rwT_at hR0 b2, h8, h19, h35]
        simp
      · refine g_iconst (pc := 38) (v := nI 0) d_K_free_38 (by decide) ?_
        refine g_zret (pc := 39) d_K_free_39 rfl (by decide) (Nat.le_refl _) (Nat.le_refl _) ?_
        refine ⟨congrArg (fun v => some (Value.int v)) (bI_0 ?_), rfl⟩
        first | (rw [sFree, h8]; rfl) | (rw [sFree, h8, h19]; rfl) | (rw [sFree, rwT_at hV0 b2, h8, h19, h35]; rfl)
def thG (Th : List Thm) (k : Int32) : Thm := Th.getD k.toNatClampNeg (0, 0, 0, 0, 0)
set_option maxRecDepth 100000 in
set_option maxHeartbeats 4000000 in
theorem c_K_conclusion {τ : Nat × Nat} {a : Nat → Nat} {i : Nat → Int32} {r : Nat → Nat → Int32} {L : Nat → Int64} {wr : pW} {Ty : List (Nat × Nat)} {Tm : List (List Nat)} {Th : List Thm} {d : List Nat} (k : Int32) (hI : XI Ty Tm Th d i r L) : pC m_K_conclusion τ [.ref (a 0), .int k] (wX a i r L ++ wr) ((fun rr w2 => rr = some (.int (if ixB k Th.length then nI (thG Th k).2.2.2.2 else -1)) ∧ w2 = wX a i r L ++ wr)) := by
  refine pC.of rfl (Nat.le_of_ble_eq_true rfl) ?_
  show pG m_K_conclusion τ _ 0 0 0 [(0, _), (1, _)] [] _
  obtain ⟨b1, b2, b3, b4, b5, b6⟩ := hI.b
  refine g_aload_n (pc := 0) d_K_conclusion_0 rfl ?_
  refine gx_K_book (pc := 1) d_K_conclusion_1 lf_K_35 ?_
  refine g_iload_n (pc := 4) d_K_conclusion_4 rfl ?_
  refine g_callV (M' := m_B_has) (pc := 5) (q := 4) d_K_conclusion_5 lm_K_148 (c_B_has Th.length b6 (by omega) _) v_B_has rfl rfl rfl (by decide) rfl (Nat.le_of_ble_eq_true rfl) ?_
  rintro _ _ ⟨rfl, rfl⟩
  show pG m_K_conclusion τ _ 0 0 8 _ (.int _ :: _) _
  refine g_ifb_eq (pc := 8) (tgt := 22) d_K_conclusion_8 (by decide) (fun h8 => ?_) (fun h8 => ?_)
  · refine g_iconst (pc := 22) (v := -1) d_K_conclusion_22 (by decide) ?_
    refine g_iret (pc := 23) d_K_conclusion_23 rfl (Nat.le_refl _) (Nat.le_refl _) ?_
    refine ⟨congrArg (fun v => some (Value.int v)) ?_, rfl⟩
    first | rw [if_neg (by rw [h8]; decide)] | rw [if_pos h8, thG, eT, g5]
  · obtain ⟨k0, hk0, rfl⟩ := ixB_of h8 (by omega)
    obtain ⟨⟨rl, x, y, hh, cc⟩, hth⟩ := get_of hk0
    obtain ⟨-, -, -, g4, g5⟩ := hI.2.2.2.2.2 k0 rl x y hh cc hth
    have eT : Th.getD (nI k0).toNatClampNeg (0, 0, 0, 0, 0) = (rl, x, y, hh, cc) := by rw [nI_clamp (by omega), List.getD_eq_getElem?_getD, hth]; rfl
    refine g_aload_n (pc := 11) d_K_conclusion_11 rfl ?_
    refine gx_K_book (pc := 12) d_K_conclusion_12 lf_K_35 ?_
    refine g_iload_n (pc := 15) d_K_conclusion_15 rfl ?_
    refine g_callV (M' := m_B_conclusionOf) (pc := 16) (q := 4) d_K_conclusion_16 lm_K_149 (c_B_conclusionOf k0 (by omega)) v_B_conclusionOf rfl rfl rfl (by decide) rfl (Nat.le_of_ble_eq_true rfl) ?_
    rintro _ _ ⟨rfl, rfl⟩
    show pG m_K_conclusion τ _ 0 0 19 _ (.int _ :: _) _
    refine g_goto (pc := 19) (tgt := 23) d_K_conclusion_19 (by decide) ?_
    refine g_iret (pc := 23) d_K_conclusion_23 rfl (Nat.le_refl _) (Nat.le_refl _) ?_
    refine ⟨congrArg (fun v => some (Value.int v)) ?_, rfl⟩
    first | rw [if_neg (by rw [h8]; decide)] | rw [if_pos h8, thG, eT, g5]
set_option maxRecDepth 100000 in
set_option maxHeartbeats 4000000 in
theorem c_K_hypotheses {τ : Nat × Nat} {a : Nat → Nat} {i : Nat → Int32} {r : Nat → Nat → Int32} {L : Nat → Int64} {wr : pW} {Ty : List (Nat × Nat)} {Tm : List (List Nat)} {Th : List Thm} {d : List Nat} (k : Int32) (hI : XI Ty Tm Th d i r L) : pC m_K_hypotheses τ [.ref (a 0), .int k] (wX a i r L ++ wr) ((fun rr w2 => rr = some (.long (if ixB k Th.length then lN (thG Th k).2.2.2.1 else -1)) ∧ w2 = wX a i r L ++ wr)) := by
  refine pC.of rfl (Nat.le_of_ble_eq_true rfl) ?_
  show pG m_K_hypotheses τ _ 0 0 0 [(0, _), (1, _)] [] _
  obtain ⟨b1, b2, b3, b4, b5, b6⟩ := hI.b
  refine g_aload_n (pc := 0) d_K_hypotheses_0 rfl ?_
  refine gx_K_book (pc := 1) d_K_hypotheses_1 lf_K_35 ?_
  refine g_iload_n (pc := 4) d_K_hypotheses_4 rfl ?_
  refine g_callV (M' := m_B_has) (pc := 5) (q := 4) d_K_hypotheses_5 lm_K_148 (c_B_has Th.length b6 (by omega) _) v_B_has rfl rfl rfl (by decide) rfl (Nat.le_of_ble_eq_true rfl) ?_
  rintro _ _ ⟨rfl, rfl⟩
  show pG m_K_hypotheses τ _ 0 0 8 _ (.int _ :: _) _
  refine g_ifb_eq (pc := 8) (tgt := 22) d_K_hypotheses_8 (by decide) (fun h8 => ?_) (fun h8 => ?_)
  · refine g_ldc2 (pc := 22) d_K_hypotheses_22 lk_K_156 ?_
    refine g_lret (pc := 25) d_K_hypotheses_25 rfl (Nat.le_refl _) (Nat.le_refl _) ?_
    refine ⟨congrArg (fun v => some (Value.long v)) ?_, rfl⟩
    first | rw [if_neg (by rw [h8]; decide)] | rw [if_pos h8, thG, eT, g4]
  · obtain ⟨k0, hk0, rfl⟩ := ixB_of h8 (by omega)
    obtain ⟨⟨rl, x, y, hh, cc⟩, hth⟩ := get_of hk0
    obtain ⟨-, -, -, g4, g5⟩ := hI.2.2.2.2.2 k0 rl x y hh cc hth
    have eT : Th.getD (nI k0).toNatClampNeg (0, 0, 0, 0, 0) = (rl, x, y, hh, cc) := by rw [nI_clamp (by omega), List.getD_eq_getElem?_getD, hth]; rfl
    refine g_aload_n (pc := 11) d_K_hypotheses_11 rfl ?_
    refine gx_K_book (pc := 12) d_K_hypotheses_12 lf_K_35 ?_
    refine g_iload_n (pc := 15) d_K_hypotheses_15 rfl ?_
    refine g_callV (M' := m_B_hypothesesOf) (pc := 16) (q := 4) d_K_hypotheses_16 lm_K_152 (c_B_hypothesesOf k0 (by omega)) v_B_hypothesesOf rfl rfl rfl (by decide) rfl (Nat.le_of_ble_eq_true rfl) ?_
    rintro _ _ ⟨rfl, rfl⟩
    show pG m_K_hypotheses τ _ 0 0 19 _ (.long _ :: _) _
    refine g_goto (pc := 19) (tgt := 25) d_K_hypotheses_19 (by decide) ?_
    refine g_lret (pc := 25) d_K_hypotheses_25 rfl (Nat.le_refl _) (Nat.le_refl _) ?_
    refine ⟨congrArg (fun v => some (Value.long v)) ?_, rfl⟩
    first | rw [if_neg (by rw [h8]; decide)] | rw [if_pos h8, thG, eT, g4]
set_option maxRecDepth 100000 in
set_option maxHeartbeats 4000000 in
theorem c_K_axioms {τ : Nat × Nat} {a : Nat → Nat} {i : Nat → Int32} {r : Nat → Nat → Int32} {L : Nat → Int64} {wr : pW} {Ty : List (Nat × Nat)} {Tm : List (List Nat)} {Th : List Thm} {d : List Nat} (k : Int32) (hI : XI Ty Tm Th d i r L) : pC m_K_axioms τ [.ref (a 0), .int k] (wX a i r L ++ wr) ((fun rr w2 => rr = some (.long (if ixB k Th.length then lN (axv Th k.toNatClampNeg) else -1)) ∧ w2 = wX a i r L ++ wr)) := by
  refine pC.of rfl (Nat.le_of_ble_eq_true rfl) ?_
  show pG m_K_axioms τ _ 0 0 0 [(0, _), (1, _)] [] _
  obtain ⟨b1, b2, b3, b4, b5, b6⟩ := hI.b
  refine g_aload_n (pc := 0) d_K_axioms_0 rfl ?_
  refine gx_K_book (pc := 1) d_K_axioms_1 lf_K_35 ?_
  refine g_iload_n (pc := 4) d_K_axioms_4 rfl ?_
  refine g_callV (M' := m_B_has) (pc := 5) (q := 4) d_K_axioms_5 lm_K_148 (c_B_has Th.length b6 (by omega) _) v_B_has rfl rfl rfl (by decide) rfl (Nat.le_of_ble_eq_true rfl) ?_
  rintro _ _ ⟨rfl, rfl⟩
  show pG m_K_axioms τ _ 0 0 8 _ (.int _ :: _) _
  refine g_ifb_eq (pc := 8) (tgt := 22) d_K_axioms_8 (by decide) (fun h8 => ?_) (fun h8 => ?_)
  · refine g_ldc2 (pc := 22) d_K_axioms_22 lk_K_156 ?_
    refine g_lret (pc := 25) d_K_axioms_25 rfl (Nat.le_refl _) (Nat.le_refl _) ?_
    refine ⟨congrArg (fun v => some (Value.long v)) ?_, rfl⟩
    first | rw [if_neg (by rw [h8]; decide)] | rw [if_pos h8, nI_clamp (by omega)]
  · obtain ⟨k0, hk0, rfl⟩ := ixB_of h8 (by omega)
    refine g_aload_n (pc := 11) d_K_axioms_11 rfl ?_
    refine gx_K_book (pc := 12) d_K_axioms_12 lf_K_35 ?_
    refine g_iload_n (pc := 15) d_K_axioms_15 rfl ?_
    refine g_callV (M' := m_B_axiomsOf) (pc := 16) (q := 4) d_K_axioms_16 lm_K_158 (c_B_axiomsOf Th k0 hI.2.2.2 hk0) v_B_axiomsOf rfl rfl rfl (by decide) rfl (Nat.le_of_ble_eq_true rfl) ?_
    rintro _ _ ⟨rfl, rfl⟩
    show pG m_K_axioms τ _ 0 0 19 _ (.long _ :: _) _
    refine g_goto (pc := 19) (tgt := 25) d_K_axioms_19 (by decide) ?_
    refine g_lret (pc := 25) d_K_axioms_25 rfl (Nat.le_refl _) (Nat.le_refl _) ?_
    refine ⟨congrArg (fun v => some (Value.long v)) ?_, rfl⟩
    first | rw [if_neg (by rw [h8]; decide)] | rw [if_pos h8, nI_clamp (by omega)]
set_option maxRecDepth 100000 in
set_option maxHeartbeats 4000000 in
theorem c_K_steps {τ : Nat × Nat} {a : Nat → Nat} {i : Nat → Int32} {r : Nat → Nat → Int32} {L : Nat → Int64} {wr : pW} {Ty : List (Nat × Nat)} {Tm : List (List Nat)} {Th : List Thm} {d : List Nat} (k : Int32) (hI : XI Ty Tm Th d i r L) : pC m_K_steps τ [.ref (a 0), .int k] (wX a i r L ++ wr) ((fun rr w2 => ∃ i2 r2 L2 d2, rr = some (.int (if ixB k Th.length then nI (stv Th k.toNatClampNeg) else -1)) ∧ w2 = wX a i2 r2 L2 ++ wr ∧ XI (Ty) (Tm) (Th) d2 i2 r2 L2)) := by
  refine pC.of rfl (Nat.le_of_ble_eq_true rfl) ?_
  show pG m_K_steps τ _ 0 0 0 [(0, _), (1, _)] [] _
  obtain ⟨b1, b2, b3, b4, b5, b6⟩ := hI.b
  refine g_aload_n (pc := 0) d_K_steps_0 rfl ?_
  refine gx_K_book (pc := 1) d_K_steps_1 lf_K_35 ?_
  refine g_iload_n (pc := 4) d_K_steps_4 rfl ?_
  refine g_callV (M' := m_B_has) (pc := 5) (q := 4) d_K_steps_5 lm_K_148 (c_B_has Th.length b6 (by omega) _) v_B_has rfl rfl rfl (by decide) rfl (Nat.le_of_ble_eq_true rfl) ?_
  rintro _ _ ⟨rfl, rfl⟩
  show pG m_K_steps τ _ 0 0 8 _ (.int _ :: _) _
  refine g_ifb_eq (pc := 8) (tgt := 22) d_K_steps_8 (by decide) (fun h8 => ?_) (fun h8 => ?_)
  · refine g_iconst (pc := 22) (v := -1) d_K_steps_22 (by decide) ?_
    refine g_iret (pc := 23) d_K_steps_23 rfl (Nat.le_refl _) (Nat.le_refl _) ?_
    first
    | exact ⟨i, r, L, d, by rw [if_neg (by rw [h8]; decide)], rfl, hI⟩
    | exact ⟨i, r2, L, d, by rw [if_pos h8, nI_clamp (by omega)], rfl, hI.1.mv rfl (hr2 0 (by decide)) (hr2 1 (by decide)), hI.2.1.mv rfl (hr2 2 (by decide)) (hr2 3 (by decide)), hI.2.2.1.mv rfl (hr2 4 (by decide)), hI.2.2.2.mv rfl (hr2 6 (by decide)) (hr2 7 (by decide)) (hr2 8 (by decide)) (hr2 9 (by decide))⟩
  · obtain ⟨k0, hk0, rfl⟩ := ixB_of h8 (by omega)
    refine g_aload_n (pc := 11) d_K_steps_11 rfl ?_
    refine gx_K_book (pc := 12) d_K_steps_12 lf_K_35 ?_
    refine g_iload_n (pc := 15) d_K_steps_15 rfl ?_
    refine g_callV (M' := m_B_stepsOf) (pc := 16) (q := 4) d_K_steps_16 lm_K_161 (c_B_stepsOf Th k0 hI.2.2.2 hk0) v_B_stepsOf rfl rfl rfl (by decide) rfl (Nat.le_of_ble_eq_true rfl) ?_
    rintro _ _ ⟨r2, rfl, rfl, hr2⟩
    show pG m_K_steps τ _ 0 0 19 _ (.int _ :: _) _
    refine g_goto (pc := 19) (tgt := 23) d_K_steps_19 (by decide) ?_
    refine g_iret (pc := 23) d_K_steps_23 rfl (Nat.le_refl _) (Nat.le_refl _) ?_
    first
    | exact ⟨i, r, L, d, by rw [if_neg (by rw [h8]; decide)], rfl, hI⟩
    | exact ⟨i, r2, L, d, by rw [if_pos h8, nI_clamp (by omega)], rfl, hI.1.mv rfl (hr2 0 (by decide)) (hr2 1 (by decide)), hI.2.1.mv rfl (hr2 2 (by decide)) (hr2 3 (by decide)), hI.2.2.1.mv rfl (hr2 4 (by decide)), hI.2.2.2.mv rfl (hr2 6 (by decide)) (hr2 7 (by decide)) (hr2 8 (by decide)) (hr2 9 (by decide))⟩
def prC (x : Nat) : List Nat := kLt x :: (if kSt x then [kTl x] else [])
def prL (row : List Nat) : List Nat := row.flatMap prC
def sPrinted (Tm : List (List Nat)) (t j : Int32) : Int32 := if ixB t Tm.length then (if j = -1 then nI (prL (rwT Tm t)).length else if ixB j (prL (rwT Tm t)).length then nI ((prL (rwT Tm t)).getD j.toNatClampNeg 0) else -1) else -1
theorem prL_len (row : List Nat) : (prL row).length ≤ 2 * row.length := by
  induction row with
  | nil => simp [prL]
  | cons t r ih =>
    have e : prL (t :: r) = prC t ++ prL r := by simp [prL]
    rw [e, List.length_append]
    have : (prC t).length ≤ 2 := by unfold prC; split <;> simp
    simp
    omega
theorem prL_app (x y : List Nat) : prL (x ++ y) = prL x ++ prL y := by simp [prL]
theorem getD_mid {x y : List Nat} {v : Nat} : (x ++ v :: y).getD x.length 0 = v := by
  rw [List.getD_eq_getElem?_getD, List.getElem?_append_right (Nat.le_refl _), Nat.sub_self]
  rfl
set_option maxRecDepth 100000 in
set_option maxHeartbeats 4000000 in
theorem c_K_printed_1 {τ : Nat × Nat} {a : Nat → Nat} {i : Nat → Int32} {r : Nat → Nat → Int32} {L : Nat → Int64} {wr : pW} {Ty : List (Nat × Nat)} {Tm : List (List Nat)} {Th : List Thm} {d : List Nat} (t0 : Nat) (R : List Nat) (j : Int32) (hI : XI Ty Tm Th d i r L) (ok : TmOk Ty Tm) (hR0 : Tm[t0]? = some R) (pre rest : List Nat) (hsp : R = pre ++ rest) (hj : ∀ y, y < (prL pre).length → ¬ j = nI y) : pG m_K_printed τ (fun rr w2 => rr = some (.int (sPrinted Tm (nI t0) j)) ∧ w2 = wX a i r L ++ wr) 0 0 44 [(5, .int (nI (30 * t0 + pre.length))), (4, .int (nI (prL pre).length)), (3, .int (nI (30 * t0 + R.length))), (0, .ref (a 0)), (1, .int (nI t0)), (2, .int j)] [] (wX a i r L ++ wr) := by
  obtain ⟨b1, b2, b3, b4, b5, b6⟩ := hI.b
  have hR := hI.2.1.pa ok hR0
  have hlt := (List.getElem?_eq_some_iff.mp hR0).1
  have hix : ixB (nI t0) Tm.length = true := by rw [ixB_nI (by omega)]; simp [hlt]
  have hrw := rwT_at hR0 b2
  induction rest generalizing pre with
  | nil =>
    have hRl : R.length = pre.length := by rw [hsp]; simp
    have hR30 := hR.2.2.2
    have hpl := prL_len pre
    have hRp : R = pre := by rw [hsp]; simp
    refine g_iload (pc := 44) d_K_printed_44 rfl ?_
    refine g_iload_n (pc := 46) d_K_printed_46 rfl ?_
    refine g_nicmp_ge (pc := 47) (tgt := 105) d_K_printed_47 (by decide) (by omega) (by omega) (fun h47 => ?_) (fun h => absurd h (by rw [hRl]; omega))
    refine g_iload_n (pc := 105) d_K_printed_105 rfl ?_
    refine g_iconst (pc := 106) (v := -1) d_K_printed_106 (by decide) ?_
    refine g_icmp_ne (pc := 107) (tgt := 115) d_K_printed_107 (by decide) (fun h107 => ?_) (fun h107 => ?_)
    · refine g_iconst (pc := 115) (v := -1) d_K_printed_115 (by decide) ?_
      refine g_iret (pc := 116) d_K_printed_116 rfl (Nat.le_refl _) (Nat.le_refl _) ?_
      refine ⟨congrArg (fun v => some (Value.int v)) ?_, rfl⟩
      rw [sPrinted, hix, hrw]
      refine Eq.symm ((if_pos rfl).trans ?_)
      first | (refine (if_pos h107).trans ?_; rw [hRp]) | (refine (if_neg h107).trans (if_neg ?_); intro q; obtain ⟨y, hy, e⟩ := ixB_of q (by have := prL_len R; have := hR.2.2.2; omega); rw [hRp] at hy; exact hj y hy e)
    · refine g_iload (pc := 110) d_K_printed_110 rfl ?_
      refine g_goto (pc := 112) (tgt := 116) d_K_printed_112 (by decide) ?_
      refine g_iret (pc := 116) d_K_printed_116 rfl (Nat.le_refl _) (Nat.le_refl _) ?_
      refine ⟨congrArg (fun v => some (Value.int v)) ?_, rfl⟩
      rw [sPrinted, hix, hrw]
      refine Eq.symm ((if_pos rfl).trans ?_)
      first | (refine (if_pos h107).trans ?_; rw [hRp]) | (refine (if_neg h107).trans (if_neg ?_); intro q; obtain ⟨y, hy, e⟩ := ixB_of q (by have := prL_len R; have := hR.2.2.2; omega); rw [hRp] at hy; exact hj y hy e)
  | cons t rest ih =>
    have hRl : R.length = pre.length + 1 + rest.length := by rw [hsp]; simp; omega
    have hpl := prL_len pre
    have hR30 := hR.2.2.2
    obtain ⟨ht1, ht2⟩ := hR.1 pre.length t (by rw [hsp]; simp)
    have hPR : prL R = prL pre ++ (prC t ++ prL rest) := by rw [hsp, prL_app]; simp [prL]
    have hPl := prL_len R
    refine g_iload (pc := 44) d_K_printed_44 rfl ?_
    refine g_iload_n (pc := 46) d_K_printed_46 rfl ?_
    refine g_nicmp_ge (pc := 47) (tgt := 105) d_K_printed_47 (by decide) (by omega) (by omega) (fun h => absurd h (by omega)) (fun h47 => ?_)
    refine g_aload_n (pc := 50) d_K_printed_50 rfl ?_
    refine gx_K_shelf (pc := 51) d_K_printed_51 lf_K_19 ?_
    refine g_iload (pc := 54) d_K_printed_54 rfl ?_
    refine g_callV (M' := m_S_token) (pc := 56) (q := 2) d_K_printed_56 lm_K_90 (c_S_token (30 * t0 + pre.length) t (by have := hR.2.2.1; omega) ht1) v_S_token rfl rfl rfl (by decide) rfl (Nat.le_of_ble_eq_true rfl) ?_
    rintro _ _ ⟨rfl, rfl⟩
    show pG m_K_printed τ _ 0 0 59 _ (.int _ :: _) _
    refine g_istore (pc := 59) [(6, _), (5, _), (4, _), (3, _), (0, _), (1, _), (2, _)] d_K_printed_59 (by decide) rfl ?_
    refine g_iload_n (pc := 61) d_K_printed_61 rfl ?_
    refine g_iload (pc := 62) d_K_printed_62 rfl ?_
    refine g_icmp_ne (pc := 64) (tgt := 73) d_K_printed_64 (by decide) (fun h64 => ?_) (fun h64 => ?_)
    · refine g_niinc (pc := 73) (d := 1) [(4, _), (6, _), (5, _), (3, _), (0, _), (1, _), (2, _)] d_K_printed_73 rfl (by decide) rfl ?_
      refine g_iload (pc := 76) d_K_printed_76 rfl ?_
      refine g_callS (M' := m_O_showsType) (pc := 78) d_K_printed_78 lm_K_142 (c_O_showsType t ht2) v_O_showsType rfl (by decide) rfl (Nat.le_of_ble_eq_true rfl) ?_
      rintro _ _ ⟨rfl, rfl⟩
      show pG m_K_printed τ _ 0 0 81 _ (.int _ :: _) _
      refine g_ifb_eq (pc := 81) (tgt := 99) d_K_printed_81 (by decide) (fun h81 => ?_) (fun h81 => ?_)
      · refine g_niinc (pc := 99) (d := 1) [(5, _), (4, _), (6, _), (3, _), (0, _), (1, _), (2, _)] d_K_printed_99 rfl (by decide) rfl ?_
        refine g_goto (pc := 102) (tgt := 44) d_K_printed_102 (by decide) ?_
        refine g_pick [0, 1, 3, 4, 5, 6] [(5, _), (4, _), (3, _), (0, _), (1, _), (2, _)] rfl ?_
        have e1 : 30 * t0 + pre.length + 1 = 30 * t0 + (pre ++ [t]).length := by simp; omega
        have e2 : prL (pre ++ [t]) = prL pre ++ [kLt t] := by rw [prL_app]; simp [prL, prC, h81]
        have e3 : (prL pre).length + 1 = (prL (pre ++ [t])).length := by rw [e2]; simp
        rw [e1, e3]
        exact ih (pre ++ [t]) (by rw [hsp]; simp) (by
          rw [← e3]
          exact lt_s hj h64)
      · refine g_iload_n (pc := 84) d_K_printed_84 rfl ?_
        refine g_iload (pc := 85) d_K_printed_85 rfl ?_
        refine g_icmp_ne (pc := 87) (tgt := 96) d_K_printed_87 (by decide) (fun h87 => ?_) (fun h87 => ?_)
        · refine g_niinc (pc := 96) (d := 1) [(4, _), (6, _), (5, _), (3, _), (0, _), (1, _), (2, _)] d_K_printed_96 rfl (by decide) rfl ?_
          refine g_niinc (pc := 99) (d := 1) [(5, _), (4, _), (6, _), (3, _), (0, _), (1, _), (2, _)] d_K_printed_99 rfl (by decide) rfl ?_
          refine g_goto (pc := 102) (tgt := 44) d_K_printed_102 (by decide) ?_
          refine g_pick [0, 1, 3, 4, 5, 6] [(5, _), (4, _), (3, _), (0, _), (1, _), (2, _)] rfl ?_
          have e1 : 30 * t0 + pre.length + 1 = 30 * t0 + (pre ++ [t]).length := by simp; omega
          have e2 : prL (pre ++ [t]) = prL pre ++ [kLt t, kTl t] := by rw [prL_app]; simp [prL, prC, h81]
          have e3 : (prL pre).length + 1 + 1 = (prL (pre ++ [t])).length := by rw [e2]; simp
          rw [e1, e3]
          exact ih (pre ++ [t]) (by rw [hsp]; simp) (by
            rw [← e3]
            exact lt_s (lt_s hj h64) h87)
        · refine g_iload (pc := 90) d_K_printed_90 rfl ?_
          refine g_callS (M' := m_O_typeLetter) (pc := 92) d_K_printed_92 lm_K_145 (c_O_typeLetter t ht2) v_O_typeLetter rfl (by decide) rfl (Nat.le_of_ble_eq_true rfl) ?_
          rintro _ _ ⟨rfl, rfl⟩
          show pG m_K_printed τ _ 0 0 95 _ (.int _ :: _) _
          refine g_iret (pc := 95) d_K_printed_95 rfl (Nat.le_refl _) (Nat.le_refl _) ?_
          have hP2 : prL R = (prL pre ++ [kLt t]) ++ kTl t :: prL rest := by rw [hPR]; simp [prC, h81]
          have hl2 : (prL pre).length + 1 = (prL pre ++ [kLt t]).length := by simp
          have hL : (prL pre).length + 1 < (prL R).length := by rw [hP2]; simp
          refine ⟨congrArg (fun v => some (Value.int v)) ?_, rfl⟩
          rw [sPrinted, hix, hrw]
          refine Eq.symm ((if_pos rfl).trans ((if_neg ?_).trans ((if_pos ?_).trans ?_)))
          · rw [h87]; exact nI_m1 (by omega)
          · rw [h87, ixB_nI (by omega)]; simp [hL]
          · rw [h87, nI_clamp (by omega), hP2, hl2]; exact congrArg nI getD_mid
    · refine g_iload (pc := 67) d_K_printed_67 rfl ?_
      refine g_callS (M' := m_O_letter) (pc := 69) d_K_printed_69 lm_K_139 (c_O_letter t ht2) v_O_letter rfl (by decide) rfl (Nat.le_of_ble_eq_true rfl) ?_
      rintro _ _ ⟨rfl, rfl⟩
      show pG m_K_printed τ _ 0 0 72 _ (.int _ :: _) _
      refine g_iret (pc := 72) d_K_printed_72 rfl (Nat.le_refl _) (Nat.le_refl _) ?_
      have hL : (prL pre).length < (prL R).length := by rw [hPR]; simp [prC]
      refine ⟨congrArg (fun v => some (Value.int v)) ?_, rfl⟩
      rw [sPrinted, hix, hrw]
      refine Eq.symm ((if_pos rfl).trans ((if_neg ?_).trans ((if_pos ?_).trans ?_)))
      · rw [h64]; exact nI_m1 (by omega)
      · rw [h64, ixB_nI (by omega)]; simp [hL]
      · rw [h64, nI_clamp (by omega), hPR]; exact congrArg nI getD_mid
set_option maxRecDepth 100000 in
set_option maxHeartbeats 4000000 in
theorem c_K_printed {τ : Nat × Nat} {a : Nat → Nat} {i : Nat → Int32} {r : Nat → Nat → Int32} {L : Nat → Int64} {wr : pW} {Ty : List (Nat × Nat)} {Tm : List (List Nat)} {Th : List Thm} {d : List Nat} (t j : Int32) (hI : XI Ty Tm Th d i r L) (ok : TmOk Ty Tm) : pC m_K_printed τ [.ref (a 0), .int t, .int j] (wX a i r L ++ wr) ((fun rr w2 => rr = some (.int (sPrinted Tm t j)) ∧ w2 = wX a i r L ++ wr)) := by
  refine pC.of rfl (Nat.le_of_ble_eq_true rfl) ?_
  show pG m_K_printed τ _ 0 0 0 [(0, _), (1, _), (2, _)] [] _
  obtain ⟨b1, b2, b3, b4, b5, b6⟩ := hI.b
  refine g_aload_n (pc := 0) d_K_printed_0 rfl ?_
  refine gx_K_shelf (pc := 1) d_K_printed_1 lf_K_19 ?_
  refine g_iload_n (pc := 4) d_K_printed_4 rfl ?_
  refine g_callV (M' := m_S_has) (pc := 5) (q := 2) d_K_printed_5 lm_K_68 (c_S_has Tm.length b5 (by omega) _) v_S_has rfl rfl rfl (by decide) rfl (Nat.le_of_ble_eq_true rfl) ?_
  rintro _ _ ⟨rfl, rfl⟩
  show pG m_K_printed τ _ 0 0 8 _ (.int _ :: _) _
  refine g_ifb_ne (pc := 8) (tgt := 13) d_K_printed_8 (by decide) (fun h8 => ?_) (fun h8 => ?_)
  · obtain ⟨t0, ht0, rfl⟩ := ixB_of h8 (by omega)
    obtain ⟨R, hR0⟩ := get_of ht0
    have hR := hI.2.1.pa ok hR0
    refine g_aload_n (pc := 13) d_K_printed_13 rfl ?_
    refine gx_K_shelf (pc := 14) d_K_printed_14 lf_K_19 ?_
    refine g_iload_n (pc := 17) d_K_printed_17 rfl ?_
    refine g_callV (M' := m_S_start) (pc := 18) (q := 2) d_K_printed_18 lm_K_69 (c_S_start t0) v_S_start rfl rfl rfl (by decide) rfl (Nat.le_of_ble_eq_true rfl) ?_
    rintro _ _ ⟨rfl, rfl⟩
    show pG m_K_printed τ _ 0 0 21 _ (.int _ :: _) _
    refine g_aload_n (pc := 21) d_K_printed_21 rfl ?_
    refine gx_K_shelf (pc := 22) d_K_printed_22 lf_K_19 ?_
    refine g_iload_n (pc := 25) d_K_printed_25 rfl ?_
    refine g_callV (M' := m_S_length) (pc := 26) (q := 2) d_K_printed_26 lm_K_133 (c_S_length t0 (by omega)) v_S_length rfl rfl rfl (by decide) rfl (Nat.le_of_ble_eq_true rfl) ?_
    rintro _ _ ⟨rfl, rfl⟩
    show pG m_K_printed τ _ 0 0 29 _ (.int _ :: _) _
    rw [(hI.2.1.2.2 t0 R hR0).2.1]
    refine g_nadd (pc := 29) d_K_printed_29 ?_
    refine g_istore_n (pc := 30) [(3, _), (0, _), (1, _), (2, _)] d_K_printed_30 (by decide) rfl ?_
    refine g_iconst (pc := 31) (v := nI 0) d_K_printed_31 (by decide) ?_
    refine g_istore (pc := 32) [(4, _), (3, _), (0, _), (1, _), (2, _)] d_K_printed_32 (by decide) rfl ?_
    refine g_aload_n (pc := 34) d_K_printed_34 rfl ?_
    refine gx_K_shelf (pc := 35) d_K_printed_35 lf_K_19 ?_
    refine g_iload_n (pc := 38) d_K_printed_38 rfl ?_
    refine g_callV (M' := m_S_start) (pc := 39) (q := 2) d_K_printed_39 lm_K_69 (c_S_start t0) v_S_start rfl rfl rfl (by decide) rfl (Nat.le_of_ble_eq_true rfl) ?_
    rintro _ _ ⟨rfl, rfl⟩
    show pG m_K_printed τ _ 0 0 42 _ (.int _ :: _) _
    refine g_istore (pc := 42) [(5, _), (4, _), (3, _), (0, _), (1, _), (2, _)] d_K_printed_42 (by decide) rfl ?_
    refine g_pick [0, 1, 2, 3, 4, 5] [(5, _), (4, _), (3, _), (0, _), (1, _), (2, _)] rfl ?_
    exact c_K_printed_1 t0 R j hI ok hR0 [] R rfl (fun y hy => absurd hy (Nat.not_lt_zero y))
  · refine g_iconst (pc := 11) (v := -1) d_K_printed_11 (by decide) ?_
    refine g_iret (pc := 12) d_K_printed_12 rfl (Nat.le_refl _) (Nat.le_refl _) ?_
    exact ⟨by rw [sPrinted, h8]; rfl, rfl⟩
