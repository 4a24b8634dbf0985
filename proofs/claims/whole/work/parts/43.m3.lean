/-! The reference: keep, and the calls but rule. By wip/whole/m_m3.py -/
/-- the typed state, over declared constants -/
def WG (Ty : List (Nat × Nat)) (Tm : List (List Nat)) (Cn : Nat → Option Nat) : Prop := Ty.Nodup ∧ (∀ p, p ∈ Ty → p.1 < 3 + Ty.length ∧ p.2 < 3 + Ty.length) ∧ ∀ (t : Nat) (row : List Nat), Tm[t]? = some row → WT Ty Cn (tyR row) row ∧ row.length ≤ 30
theorem MS.mg {Ty : List (Nat × Nat)} {Tm : List (List Nat)} {Cn : Nat → Option Nat} {i : Nat → Int32} {r : Nat → Nat → Int32} {t : Nat} {row : List Nat} (h : MS Tm i r) (wg : WG Ty Tm Cn) (ht : Tm[t]? = some row) : MA (r 0) (32 * t) row ∧ 32 * t + row.length ≤ 1920 ∧ t < 60 ∧ r 1 t = nI row.length ∧ r 2 t = nI (tyR row) ∧ row.length ≤ 30 := by
  obtain ⟨h1, h2, h3, h4⟩ := h.2.2 t row ht
  have := (List.getElem?_eq_some_iff.mp ht).1
  have := h.2.1
  exact ⟨(wg.2.2 t row ht).1.ma h4 h1 (by omega), by omega, by omega, h2, h3, h1⟩
theorem mu_var {x : Nat} (h : GT x) : (64 ≤ mu x ∧ mu x < 240) ↔ x / 512 = 0 := by
  obtain ⟨h0, h1, h2, h3, h4⟩ := h
  unfold mu
  rcases tag8 h0 with e | e | e | e | e | e | e | e <;> simp only [e] <;> simp <;> simp only [e] at h1 h2 h3 <;> simp at h1 h2 h3 <;> omega
theorem WT.len1 {Ty : List (Nat × Nat)} {Cn : Nat → Option Nat} {e : Nat} {r : List Nat} (h : WT Ty Cn e r) (g : tgR r = 0) : r.length = 1 := by
  have := (h.var g).1
  rw [this]
  rfl
theorem MS_add {Tm : List (List Nat)} {d : List Nat} {i i2 : Nat → Int32} {r r2 : Nat → Nat → Int32} (h : MS Tm i r) (hl : d.length ≤ 30) (hf : Tm.length ≠ 60) (hi : i2 1 = nI (Tm.length + 1)) (h1 : r2 1 = upd (r 1) Tm.length (nI d.length)) (h2 : r2 2 = upd (r 2) Tm.length (nI (tyR d))) (h0 : ∀ x, x < 32 * Tm.length → r2 0 x = r 0 x) (hs : Seg (r2 0) (32 * Tm.length) (d.map mu)) : MS (Tm ++ [d]) i2 r2 := by
  obtain ⟨e1, e2, e3⟩ := h
  refine ⟨by rw [hi]; simp, by simp; omega, fun t row ht => ?_⟩
  by_cases c : t < Tm.length
  · rw [List.getElem?_append_left c] at ht
    obtain ⟨f1, f2, f3, f4⟩ := e3 t row ht
    exact ⟨f1, by rw [h1, pk_un (by omega)]; exact f2, by rw [h2, pk_un (by omega)]; exact f3, f4.mv (n := 32 * Tm.length) (by rw [List.length_map]; omega) h0⟩
  · rw [List.getElem?_append_right (by omega)] at ht
    have hz : t - Tm.length < 1 := (List.getElem?_eq_some_iff.mp ht).1
    have ht2 : t = Tm.length := by omega
    subst ht2
    simp at ht
    subst ht
    exact ⟨hl, by rw [h1, pk_us], by rw [h2, pk_us], hs⟩
theorem MT_add {Ty : List (Nat × Nat)} {i : Nat → Int32} {r : Nat → Nat → Int32} {l q : Nat} (h : MT Ty i r) (e : Ty.length ≠ 13) (hl : l < 16) (hq : q < 16) (i2 : Nat → Int32) (r2 : Nat → Nat → Int32) (hi : i2 2 = nI (3 + Ty.length + 1)) (h0 : r2 4 = upd (r 4) (3 + Ty.length) (nI l)) (h1 : r2 5 = upd (r 5) (3 + Ty.length) (nI q)) : MT (Ty ++ [(l, q)]) i2 r2 := by
  obtain ⟨e0, e1, e3⟩ := h
  refine ⟨by rw [hi]; simp; congr 1, by simp; omega, fun j p hj => ?_⟩
  by_cases c : j < Ty.length
  · rw [List.getElem?_append_left c] at hj
    rw [h0, h1, pk_un (by omega), pk_un (by omega)]
    exact e3 j p hj
  · rw [List.getElem?_append_right (by omega)] at hj
    have hz : j - Ty.length < 1 := (List.getElem?_eq_some_iff.mp hj).1
    have hj2 : j = Ty.length := by omega
    subst hj2
    simp at hj
    subst hj
    rw [h0, h1, pk_us, pk_us]
    exact ⟨⟨rfl, rfl⟩, hl, hq⟩
theorem MI.b {Ty : List (Nat × Nat)} {Tm : List (List Nat)} {Th : List Thm} {Cn : Nat → Option Nat} {d : List Nat} {i : Nat → Int32} {r : Nat → Nat → Int32} {L : Nat → Nat → Int64} (h : MI Ty Tm Th Cn d i r L) : Ty.length ≤ 13 ∧ Tm.length ≤ 60 ∧ Th.length ≤ 40 ∧ i 2 = nI (3 + Ty.length) ∧ i 1 = nI Tm.length ∧ i 3 = nI Th.length ∧ i 0 = nI d.length := ⟨h.1.2.1, h.2.1.2.1, h.2.2.2.2.2.1, h.1.1, h.2.1.1, h.2.2.2.2.1, h.2.2.2.1.1⟩
theorem ixB_in9 {x : Int32} {n : Nat} (hn : n < 2 ^ 30) (h0 : ¬ x < 0) (h : ¬ nI n < x) : ixB x (n + 1) = true := by
  have h1 : ¬ x.toInt < 0 := fun e => h0 (Int32.lt_iff_toInt_lt.mpr (by rw [Int32.toInt_zero]; exact e))
  have h2 : ¬ (n : Int) < x.toInt := fun e => h (Int32.lt_iff_toInt_lt.mpr (by rw [nI_toInt (by omega)]; exact e))
  simp [ixB]
  omega
theorem ixB_big9 {x : Int32} {n : Nat} (hn : n < 2 ^ 30) (h : nI n < x) : ixB x (n + 1) = false := by
  have := Int32.lt_iff_toInt_lt.mp h
  rw [nI_toInt (by omega)] at this
  simp [ixB]
  omega
theorem MA.wk {d : List Nat} {i : Nat → Int32} {r : Nat → Nat → Int32} {Ty : List (Nat × Nat)} {Cn : Nat → Option Nat} {e : Nat} (h : MW d i r) (hw : WT Ty Cn e d) (hl : d.length ≤ 30) : MA (r 0) 1920 d := hw.ma h.2 hl (by omega)
set_option maxRecDepth 100000 in
set_option maxHeartbeats 4000000 in
theorem c_M_isVariableTerm {τ : Nat × Nat} {a : Nat → Nat} {i : Nat → Int32} {r : Nat → Nat → Int32} {L : Nat → Nat → Int64} {z : Int64} {wr : pW} (t : Nat) (row : List Nat) (ht : t < 60) (hl : r 1 t = nI row.length) (hA : MA (r 0) (32 * t) row) (hv : tgR row = 0 → row.length = 1) : pC m_M_isVariableTerm τ [.ref (a 0), .int (nI t)] (wM a i r L z ++ wr) (fun rr w2 => rr = some (.int (bI (decide (tgR row = 0)))) ∧ w2 = wM a i r L z ++ wr) := by
  refine pC.of rfl (Nat.le_of_ble_eq_true rfl) ?_
  show pG m_M_isVariableTerm τ _ 0 0 0 [(0, _), (1, _)] [] _
  obtain ⟨g1, g2, g3, g4⟩ := hA.hd
  have h30 := hA.2.2.2.2
  refine g_aload_n (pc := 0) d_M_isVariableTerm_0 rfl ?_
  refine gm_length (pc := 1) d_M_isVariableTerm_1 lf_M_13 ?_
  refine g_iload_n (pc := 4) d_M_isVariableTerm_4 rfl ?_
  refine glm_length (pc := 5) (v := nI row.length) d_M_isVariableTerm_5 (vp_in_nI (by omega) (by decide)) (by rw [nI_clamp (by omega)]; exact hl) ?_
  refine g_iconst (pc := 6) (v := nI 1) d_M_isVariableTerm_6 (by decide) ?_
  refine g_nicmp_ne (pc := 7) (tgt := 29) d_M_isVariableTerm_7 (by decide) (by omega) (by omega) (fun h7 => ?_) (fun h7 => ?_)
  · refine g_iconst (pc := 29) (v := nI 0) d_M_isVariableTerm_29 (by decide) ?_
    refine g_zret (pc := 30) d_M_isVariableTerm_30 rfl (by decide) (Nat.le_refl _) (Nat.le_refl _) ?_
    refine ⟨congrArg (fun v => some (Value.int v)) ?_, rfl⟩
    first
    | exact bI_0 (decide_eq_false (fun q => h7 (hv q)))
    | exact bI_1 (decide_eq_true ((mu_var g3).mp (by simpa using h22)))
    | exact bI_0 (decide_eq_false (fun q => by have := (mu_var g3).mpr q; simp [this.1, this.2] at h22))
  · refine g_aload_n (pc := 10) d_M_isVariableTerm_10 rfl ?_
    refine gm_row (pc := 11) d_M_isVariableTerm_11 lf_M_7 ?_
    refine g_bipush (pc := 14) (v := nI 32) d_M_isVariableTerm_14 (by decide) ?_
    refine g_iload_n (pc := 16) d_M_isVariableTerm_16 rfl ?_
    refine g_nmul (pc := 17) d_M_isVariableTerm_17 ?_
    refine glm_row (pc := 18) (v := nI (mu (hdt row))) d_M_isVariableTerm_18 (vp_in_nI (by omega) (by decide)) (by rw [nI_clamp (by omega)]; exact g2) ?_
    refine g_callS (M' := m_M_isVariable) (pc := 19) d_M_isVariableTerm_19 lm_M_88 (c_M_isVariable (mu (hdt row)) (by omega)) v_M_isVariable rfl (by decide) rfl (Nat.le_of_ble_eq_true rfl) ?_
    rintro _ _ ⟨rfl, rfl⟩
    show pG m_M_isVariableTerm τ _ 0 0 22 _ (.int _ :: _) _
    refine g_ifb_eq (pc := 22) (tgt := 29) d_M_isVariableTerm_22 (by decide) (fun h22 => ?_) (fun h22 => ?_)
    · refine g_iconst (pc := 29) (v := nI 0) d_M_isVariableTerm_29 (by decide) ?_
      refine g_zret (pc := 30) d_M_isVariableTerm_30 rfl (by decide) (Nat.le_refl _) (Nat.le_refl _) ?_
      refine ⟨congrArg (fun v => some (Value.int v)) ?_, rfl⟩
      first
      | exact bI_0 (decide_eq_false (fun q => h7 (hv q)))
      | exact bI_1 (decide_eq_true ((mu_var g3).mp (by simpa using h22)))
      | exact bI_0 (decide_eq_false (fun q => by have := (mu_var g3).mpr q; simp [this.1, this.2] at h22))
    · refine g_iconst (pc := 25) (v := nI 1) d_M_isVariableTerm_25 (by decide) ?_
      refine g_goto (pc := 26) (tgt := 30) d_M_isVariableTerm_26 (by decide) ?_
      refine g_zret (pc := 30) d_M_isVariableTerm_30 rfl (by decide) (Nat.le_refl _) (Nat.le_refl _) ?_
      refine ⟨congrArg (fun v => some (Value.int v)) ?_, rfl⟩
      first
      | exact bI_0 (decide_eq_false (fun q => h7 (hv q)))
      | exact bI_1 (decide_eq_true ((mu_var g3).mp (by simpa using h22)))
      | exact bI_0 (decide_eq_false (fun q => by have := (mu_var g3).mpr q; simp [this.1, this.2] at h22))
set_option maxRecDepth 100000 in
set_option maxHeartbeats 4000000 in
theorem c_M_keep {τ : Nat × Nat} {a : Nat → Nat} {i : Nat → Int32} {r : Nat → Nat → Int32} {L : Nat → Nat → Int64} {z : Int64} {wr : pW} {Ty : List (Nat × Nat)} {Tm : List (List Nat)} {Th : List Thm} {Cn : Nat → Option Nat} {d : List Nat} (e : Nat) (hI : MI Ty Tm Th Cn d i r L) (wg : WG Ty Tm Cn) (hw : d.length ≤ 30 → WT Ty Cn e d) (hb : d.length < 1100) : pC m_M_keep τ [.ref (a 0)] (wM a i r L z ++ wr) ((fun rr w2 => ∃ i2 r2, rr = some (.int (sKeep Tm d).1) ∧ w2 = wM a i2 r2 L z ++ wr ∧ MI Ty (sKeep Tm d).2 Th Cn d i2 r2 L)) := by
  obtain ⟨b1, b2, b3, b4, b5, b6, b7⟩ := hI.b
  have key2 : ∀ (m k : Nat) (r1 : Nat → Nat → Int32), ¬ 30 < d.length → fnd Tm d = none → Tm.length ≠ 60 → d.length - k = m → k ≤ d.length → (∀ j, j ≠ 0 → r1 j = r j) → (∀ x, x < 32 * Tm.length ∨ 32 * Tm.length + 32 ≤ x → r1 0 x = r 0 x) → (∀ j, j < k → r1 0 (32 * Tm.length + j) = r 0 (1920 + j)) → pG m_M_keep τ (fun rr w2 => ∃ i2 r2, rr = some (.int (sKeep Tm d).1) ∧ w2 = wM a i2 r2 L z ++ wr ∧ MI Ty (sKeep Tm d).2 Th Cn d i2 r2 L) 0 0 71 [(1, .int (nI k)), (0, .ref (a 0))] [] (wM a i r1 L z ++ wr) := by
    intro m
    induction m with
    | zero =>
      intro k r1 h30 hf hne hm hk hr1 hr0 hrk
      have hwt := hw (by omega)
      have hSg : Seg (r1 0) (32 * Tm.length) (d.map mu) := fun j x hj => by
        have hj1 := (List.getElem?_eq_some_iff.mp hj).1
        rw [List.length_map] at hj1
        rw [hrk j (by omega)]
        exact hI.2.2.2.1.2 j x hj
      have hMA : MA (r1 0) (32 * Tm.length) d := hwt.ma hSg (by omega) (by omega)
      refine g_iload_n (pc := 71) d_M_keep_71 rfl ?_
      refine g_aload_n (pc := 72) d_M_keep_72 rfl ?_
      refine gm_made (pc := 73) d_M_keep_73 lf_M_65 ?_
      rw [b7]
      refine g_nicmp_ge (pc := 76) (tgt := 109) d_M_keep_76 (by decide) (by omega) (by omega) (fun h76 => ?_) (fun h => absurd h (by omega))
      refine g_aload_n (pc := 109) d_M_keep_109 rfl ?_
      refine gm_length (pc := 110) d_M_keep_110 lf_M_13 ?_
      refine g_aload_n (pc := 113) d_M_keep_113 rfl ?_
      refine gm_terms (pc := 114) d_M_keep_114 lf_M_78 ?_
      rw [b5]
      refine g_aload_n (pc := 117) d_M_keep_117 rfl ?_
      refine gm_made (pc := 118) d_M_keep_118 lf_M_65 ?_
      rw [b7]
      refine gsm_length (pc := 121) d_M_keep_121 (vp_in_nI (by omega) (by decide)) ?_
      refine g_aload_n (pc := 122) d_M_keep_122 rfl ?_
      refine gm_sort (pc := 123) d_M_keep_123 lf_M_16 ?_
      refine g_aload_n (pc := 126) d_M_keep_126 rfl ?_
      refine gm_terms (pc := 127) d_M_keep_127 lf_M_78 ?_
      rw [b5]
      refine g_aload_n (pc := 130) d_M_keep_130 rfl ?_
      refine g_bipush (pc := 131) (v := nI 32) d_M_keep_131 (by decide) ?_
      refine g_aload_n (pc := 133) d_M_keep_133 rfl ?_
      refine gm_terms (pc := 134) d_M_keep_134 lf_M_78 ?_
      rw [b5]
      refine g_nmul (pc := 137) d_M_keep_137 ?_
      refine g_callV (M' := m_M_typesAt) (pc := 138) (q := 0) d_M_keep_138 lm_M_85 (c_M_typesAt Ty Cn (32 * Tm.length) e d (by rw [up_n (by decide)]; exact hMA) hwt (hI.1.mv rfl (by rw [up_n (by decide)]; exact hr1 4 (by decide)) (by rw [up_n (by decide)]; exact hr1 5 (by decide))) (hI.2.2.1.mv (by rw [up_n (by decide)]; exact hr1 6 (by decide))) wg.1) v_M_typesAt rfl rfl rfl (by decide) rfl (Nat.le_of_ble_eq_true rfl) ?_
      rintro _ _ ⟨r2, rfl, rfl, hr2⟩
      show pG m_M_keep τ _ 0 0 141 _ (.int _ :: _) _
      refine gsm_sort (pc := 141) d_M_keep_141 (vp_in_nI (by omega) (by decide)) ?_
      refine g_aload_n (pc := 142) d_M_keep_142 rfl ?_
      refine g_dup (pc := 143) d_M_keep_143 rfl ?_
      refine gm_terms (pc := 144) d_M_keep_144 lf_M_78 ?_
      rw [b5]
      refine g_iconst (pc := 147) (v := nI 1) d_M_keep_147 (by decide) ?_
      refine g_nadd (pc := 148) d_M_keep_148 ?_
      refine gm_terms_p (pc := 149) d_M_keep_149 lf_M_78 ?_
      refine g_aload_n (pc := 152) d_M_keep_152 rfl ?_
      refine gm_terms (pc := 153) d_M_keep_153 lf_M_78 ?_
      rw [pk_us]
      refine g_iconst (pc := 156) (v := nI 1) d_M_keep_156 (by decide) ?_
      refine g_nsub (pc := 157) d_M_keep_157 (by omega) ?_
      rw [Nat.add_sub_cancel]
      refine g_iret (pc := 158) d_M_keep_158 rfl (Nat.le_refl _) (Nat.le_refl _) ?_
      have eK := sKeep_new h30 hf hne
      have q0 : ∀ r9 : Nat → Int32, (va_up r2 2 r9) 0 = r1 0 := fun r9 => by rw [up_n (by decide), hr2 0 (by decide), up_n (by decide)]
      have qj : ∀ (r9 : Nat → Int32) (j : Nat), 4 ≤ j → (va_up r2 2 r9) j = r j := fun r9 j hj => by rw [up_n (by omega), hr2 j (by omega), up_n (by omega)]; exact hr1 j (by omega)
      refine ⟨_, _, by rw [eK], rfl, ?_⟩
      rw [eK]
      refine ⟨hI.1.mv (pk_un (by decide)) (qj _ 4 (by decide)) (qj _ 5 (by decide)), MS_add hI.2.1 (by omega) hne (by rw [pk_us]) ?_ ?_ ?_ ?_, hI.2.2.1.mv (qj _ 6 (by decide)), ⟨by rw [pk_un (by decide)]; exact b7, ?_⟩, hI.2.2.2.2.mv (pk_un (by decide)) (qj _ 7 (by decide)) (qj _ 8 (by decide))⟩
      · rw [up_n (by decide), hr2 1 (by decide), up_s, nI_clamp (by omega), hr1 1 (by decide)]
      · rw [up_s, nI_clamp (by omega), hr2 2 (by decide), up_n (by decide), hr1 2 (by decide), hwt.ty]
      · intro x hx
        rw [q0]
        exact hr0 x (Or.inl hx)
      · rw [q0]; exact hSg
      · rw [q0]
        intro j x hj
        rw [hr0 _ (Or.inr (by omega))]
        exact hI.2.2.2.1.2 j x hj
    | succ m ih =>
      intro k r1 h30 hf hne hm hk hr1 hr0 hrk
      refine g_iload_n (pc := 71) d_M_keep_71 rfl ?_
      refine g_aload_n (pc := 72) d_M_keep_72 rfl ?_
      refine gm_made (pc := 73) d_M_keep_73 lf_M_65 ?_
      rw [b7]
      refine g_nicmp_ge (pc := 76) (tgt := 109) d_M_keep_76 (by decide) (by omega) (by omega) (fun h => absurd h (by omega)) (fun h76 => ?_)
      refine g_aload_n (pc := 79) d_M_keep_79 rfl ?_
      refine gm_row (pc := 80) d_M_keep_80 lf_M_7 ?_
      refine g_bipush (pc := 83) (v := nI 32) d_M_keep_83 (by decide) ?_
      refine g_aload_n (pc := 85) d_M_keep_85 rfl ?_
      refine gm_terms (pc := 86) d_M_keep_86 lf_M_78 ?_
      rw [b5]
      refine g_nmul (pc := 89) d_M_keep_89 ?_
      refine g_iload_n (pc := 90) d_M_keep_90 rfl ?_
      refine g_nadd (pc := 91) d_M_keep_91 ?_
      refine g_aload_n (pc := 92) d_M_keep_92 rfl ?_
      refine gm_row (pc := 93) d_M_keep_93 lf_M_7 ?_
      refine g_sipush (pc := 96) (v := nI 1920) d_M_keep_96 (by decide) ?_
      refine g_iload_n (pc := 99) d_M_keep_99 rfl ?_
      refine g_nadd (pc := 100) d_M_keep_100 ?_
      refine glm_row (pc := 101) d_M_keep_101 (vp_in_nI (by omega) (by decide)) rfl ?_
      refine gsm_row (pc := 102) d_M_keep_102 (vp_in_nI (by omega) (by decide)) ?_
      refine g_niinc (pc := 103) (d := 1) [(1, _), (0, _)] d_M_keep_103 rfl (by decide) rfl ?_
      refine g_goto (pc := 106) (tgt := 71) d_M_keep_106 (by decide) ?_
      refine ih (k + 1) _ h30 hf hne (by omega) (by omega) (fun j hj => (up_n hj).trans (hr1 j hj)) (fun x hx => ?_) (fun j hj => ?_)
      · rw [up_s, nI_clamp (by omega), pk_un (by omega)]
        exact hr0 x hx
      · rw [up_s, nI_clamp (by omega)]
        by_cases c : j = k
        · subst c
          rw [pk_us, nI_clamp (by omega)]
          exact hr0 _ (Or.inr (by omega))
        · rw [pk_un (by omega)]
          exact hrk j (by omega)
  have key : ∀ (m t : Nat), ¬ 30 < d.length → Tm.length - t = m → t ≤ Tm.length → (∀ y, y < t → Tm[y]? ≠ some d) → pG m_M_keep τ (fun rr w2 => ∃ i2 r2, rr = some (.int (sKeep Tm d).1) ∧ w2 = wM a i2 r2 L z ++ wr ∧ MI Ty (sKeep Tm d).2 Th Cn d i2 r2 L) 0 0 14 [(1, .int (nI t)), (0, .ref (a 0))] [] (wM a i r L z ++ wr) := by
    intro m
    induction m with
    | zero =>
      intro t h30 hm ht hn
      have hf : fnd Tm d = none := fnd_none (fun y hy => hn y (by omega))
      refine g_iload_n (pc := 14) d_M_keep_14 rfl ?_
      refine g_aload_n (pc := 15) d_M_keep_15 rfl ?_
      refine gm_terms (pc := 16) d_M_keep_16 lf_M_78 ?_
      rw [b5]
      refine g_nicmp_ge (pc := 19) (tgt := 57) d_M_keep_19 (by decide) (by omega) (by omega) (fun h19 => ?_) (fun h => absurd h (by omega))
      refine g_aload_n (pc := 57) d_M_keep_57 rfl ?_
      refine gm_terms (pc := 58) d_M_keep_58 lf_M_78 ?_
      rw [b5]
      refine g_bipush (pc := 61) (v := nI 60) d_M_keep_61 (by decide) ?_
      refine g_nicmp_ne (pc := 63) (tgt := 69) d_M_keep_63 (by decide) (by omega) (by omega) (fun h63 => ?_) (fun h63 => ?_)
      · refine g_iconst (pc := 69) (v := nI 0) d_M_keep_69 (by decide) ?_
        refine g_istore_n (pc := 70) [(1, _), (0, _)] d_M_keep_70 (by decide) rfl ?_
        exact key2 _ 0 r h30 hf h63 rfl (Nat.zero_le _) (fun _ _ => rfl) (fun _ _ => rfl) lt_0
      · refine g_bipush (pc := 66) (v := -4) d_M_keep_66 (by decide) ?_
        refine g_iret (pc := 68) d_M_keep_68 rfl (Nat.le_refl _) (Nat.le_refl _) ?_
        exact ⟨i, r, by rw [sKeep_full h30 hf h63], rfl, by rw [sKeep_full h30 hf h63]; exact hI⟩
    | succ m ih =>
      intro t h30 hm ht hn
      obtain ⟨row, hrow⟩ := get_of (show t < Tm.length by omega)
      obtain ⟨g1, g2, g3, g4, g5, g6⟩ := hI.2.1.mg wg hrow
      have hwt := hw (by omega)
      have hMd := MA.wk hI.2.2.2.1 hwt (by omega)
      refine g_iload_n (pc := 14) d_M_keep_14 rfl ?_
      refine g_aload_n (pc := 15) d_M_keep_15 rfl ?_
      refine gm_terms (pc := 16) d_M_keep_16 lf_M_78 ?_
      rw [b5]
      refine g_nicmp_ge (pc := 19) (tgt := 57) d_M_keep_19 (by decide) (by omega) (by omega) (fun h => absurd h (by omega)) (fun h19 => ?_)
      refine g_aload_n (pc := 22) d_M_keep_22 rfl ?_
      refine gm_length (pc := 23) d_M_keep_23 lf_M_13 ?_
      refine g_iload_n (pc := 26) d_M_keep_26 rfl ?_
      refine glm_length (pc := 27) (v := nI row.length) d_M_keep_27 (vp_in_nI (by omega) (by decide)) (by rw [nI_clamp (by omega)]; exact g4) ?_
      refine g_aload_n (pc := 28) d_M_keep_28 rfl ?_
      refine gm_made (pc := 29) d_M_keep_29 lf_M_65 ?_
      rw [b7]
      refine g_nicmp_ne (pc := 32) (tgt := 51) d_M_keep_32 (by decide) (by omega) (by omega) (fun h32 => ?_) (fun h32 => ?_)
      · refine g_niinc (pc := 51) (d := 1) [(1, _), (0, _)] d_M_keep_51 rfl (by decide) rfl ?_
        refine g_goto (pc := 54) (tgt := 14) d_M_keep_54 (by decide) ?_
        exact ih (t + 1) h30 (by omega) (by omega) (lt_s hn (by
          rw [hrow]
          intro q
          have q := Option.some.inj q
          subst q
          first | exact h32 rfl | simp at h46))
      · refine g_aload_n (pc := 35) d_M_keep_35 rfl ?_
        refine g_bipush (pc := 36) (v := nI 32) d_M_keep_36 (by decide) ?_
        refine g_iload_n (pc := 38) d_M_keep_38 rfl ?_
        refine g_nmul (pc := 39) d_M_keep_39 ?_
        refine g_sipush (pc := 40) (v := nI 1920) d_M_keep_40 (by decide) ?_
        refine g_callV (M' := m_M_same) (pc := 43) (q := 0) d_M_keep_43 lm_M_81 (c_M_same (32 * t) 1920 row d g1 hMd) v_M_same rfl rfl rfl (by decide) rfl (Nat.le_of_ble_eq_true rfl) ?_
        rintro _ _ ⟨rfl, rfl⟩
        show pG m_M_keep τ _ 0 0 46 _ (.int _ :: _) _
        refine g_ifb_eq (pc := 46) (tgt := 51) d_M_keep_46 (by decide) (fun h46 => ?_) (fun h46 => ?_)
        · refine g_niinc (pc := 51) (d := 1) [(1, _), (0, _)] d_M_keep_51 rfl (by decide) rfl ?_
          refine g_goto (pc := 54) (tgt := 14) d_M_keep_54 (by decide) ?_
          exact ih (t + 1) h30 (by omega) (by omega) (lt_s hn (by
            rw [hrow]
            intro q
            have q := Option.some.inj q
            subst q
            first | exact h32 rfl | simp at h46))
        · refine g_iload_n (pc := 49) d_M_keep_49 rfl ?_
          refine g_iret (pc := 50) d_M_keep_50 rfl (Nat.le_refl _) (Nat.le_refl _) ?_
          have q : row = d := chk_inj wg.1 30 g6 (wg.2.2 t row hrow).1 hwt (of_decide_eq_true h46)
          subst q
          exact ⟨i, r, by rw [sKeep_at h30 (fnd_some hrow hn)], rfl, by rw [sKeep_at h30 (fnd_some hrow hn)]; exact hI⟩
  refine pC.of rfl (Nat.le_of_ble_eq_true rfl) ?_
  show pG m_M_keep τ _ 0 0 0 [(0, _)] [] _
  refine g_aload_n (pc := 0) d_M_keep_0 rfl ?_
  refine gm_made (pc := 1) d_M_keep_1 lf_M_65 ?_
  rw [b7]
  refine g_bipush (pc := 4) (v := nI 30) d_M_keep_4 (by decide) ?_
  refine g_nicmp_le (pc := 6) (tgt := 12) d_M_keep_6 (by decide) (by omega) (by omega) (fun h6 => ?_) (fun h6 => ?_)
  · refine g_iconst (pc := 12) (v := nI 0) d_M_keep_12 (by decide) ?_
    refine g_istore_n (pc := 13) [(1, _), (0, _)] d_M_keep_13 (by decide) rfl ?_
    exact key _ 0 (by omega) rfl (Nat.zero_le _) lt_0
  · refine g_bipush (pc := 9) (v := -4) d_M_keep_9 (by decide) ?_
    refine g_iret (pc := 11) d_M_keep_11 rfl (Nat.le_refl _) (Nat.le_refl _) ?_
    have q : 30 < d.length := by omega
    exact ⟨i, r, by rw [sKeep_big q], rfl, by rw [sKeep_big q]; exact hI⟩
set_option maxRecDepth 100000 in
set_option maxHeartbeats 4000000 in
theorem c_M_arrow_1 {τ : Nat × Nat} {a : Nat → Nat} {i : Nat → Int32} {r : Nat → Nat → Int32} {L : Nat → Nat → Int64} {z : Int64} {wr : pW} {Ty : List (Nat × Nat)} {Tm : List (List Nat)} {Th : List Thm} {Cn : Nat → Option Nat} {d : List Nat} (f t j : Nat) (hI : MI Ty Tm Th Cn d i r L) (hf : f < 3 + Ty.length) (ht : t < 3 + Ty.length) (hj : fnd Ty (f, t) = some j) : pC m_M_arrow τ [.ref (a 0), .int (nI f), .int (nI t)] (wM a i r L z ++ wr) ((fun rr w2 => ∃ i2 r2, rr = some (.int (sNum Ty f t).1) ∧ w2 = wM a i2 r2 L z ++ wr ∧ MI (sNum Ty f t).2 Tm Th Cn d i2 r2 L ∧ (∀ j, j ≠ 2 → i2 j = i j) ∧ ∀ j, j ≠ 4 → j ≠ 5 → r2 j = r j)) := by
  refine pC.of rfl (Nat.le_of_ble_eq_true rfl) ?_
  show pG m_M_arrow τ _ 0 0 0 [(0, _), (1, _), (2, _)] [] _
  obtain ⟨b1, b2, b3, b4, b5, b6, b7⟩ := hI.b
  have hjl := (List.getElem?_eq_some_iff.mp (fnd_at hj)).1
  refine g_aload_n (pc := 0) d_M_arrow_0 rfl ?_
  refine g_iload_n (pc := 1) d_M_arrow_1 rfl ?_
  refine g_callV (M' := m_M_isType) (pc := 2) (q := 0) d_M_arrow_2 lm_M_92 (c_M_isType (3 + Ty.length) b4 (by omega) _) v_M_isType rfl rfl rfl (by decide) rfl (Nat.le_of_ble_eq_true rfl) ?_
  rintro _ _ ⟨rfl, rfl⟩
  show pG m_M_arrow τ _ 0 0 5 _ (.int _ :: _) _
  refine g_ifb_eq (pc := 5) (tgt := 16) d_M_arrow_5 (by decide) (fun h => absurd h (by rw [ixB_nI (by omega)]; simp [hf])) (fun h5 => ?_)
  refine g_aload_n (pc := 8) d_M_arrow_8 rfl ?_
  refine g_iload_n (pc := 9) d_M_arrow_9 rfl ?_
  refine g_callV (M' := m_M_isType) (pc := 10) (q := 0) d_M_arrow_10 lm_M_92 (c_M_isType (3 + Ty.length) b4 (by omega) _) v_M_isType rfl rfl rfl (by decide) rfl (Nat.le_of_ble_eq_true rfl) ?_
  rintro _ _ ⟨rfl, rfl⟩
  show pG m_M_arrow τ _ 0 0 13 _ (.int _ :: _) _
  refine g_ifb_ne (pc := 13) (tgt := 18) d_M_arrow_13 (by decide) (fun h13 => ?_) (fun h => absurd h (by rw [ixB_nI (by omega)]; simp [ht]))
  refine g_aload_n (pc := 18) d_M_arrow_18 rfl ?_
  refine g_iload_n (pc := 19) d_M_arrow_19 rfl ?_
  refine g_iload_n (pc := 20) d_M_arrow_20 rfl ?_
  refine g_callV (M' := m_M_find) (pc := 21) (q := 0) d_M_arrow_21 lm_M_61 (c_M_find Ty f t hI.1 (by omega) (by omega)) v_M_find rfl rfl rfl (by decide) rfl (Nat.le_of_ble_eq_true rfl) ?_
  rintro _ _ ⟨rfl, rfl⟩
  rw [show fI Ty f t = nI (3 + j) by simp [fI, hj]]
  show pG m_M_arrow τ _ 0 0 24 _ (.int _ :: _) _
  refine g_istore_n (pc := 24) [(3, _), (0, _), (1, _), (2, _)] d_M_arrow_24 (by decide) rfl ?_
  refine g_iload_n (pc := 25) d_M_arrow_25 rfl ?_
  refine g_nif_ge (pc := 26) (tgt := 38) d_M_arrow_26 (by decide) (by omega) ?_
  refine g_iload_n (pc := 38) d_M_arrow_38 rfl ?_
  refine g_nif_lt (pc := 39) (tgt := 46) d_M_arrow_39 (by decide) (by omega) ?_
  refine g_iload_n (pc := 42) d_M_arrow_42 rfl ?_
  refine g_goto (pc := 43) (tgt := 48) d_M_arrow_43 (by decide) ?_
  refine g_iret (pc := 48) d_M_arrow_48 rfl (Nat.le_refl _) (Nat.le_refl _) ?_
  exact ⟨i, r, by rw [sNum_some hj], rfl, by rw [sNum_some hj]; exact hI, fun _ _ => rfl, fun _ _ _ => rfl⟩
set_option maxRecDepth 100000 in
set_option maxHeartbeats 4000000 in
theorem c_M_arrow_2 {τ : Nat × Nat} {a : Nat → Nat} {i : Nat → Int32} {r : Nat → Nat → Int32} {L : Nat → Nat → Int64} {z : Int64} {wr : pW} {Ty : List (Nat × Nat)} {Tm : List (List Nat)} {Th : List Thm} {Cn : Nat → Option Nat} {d : List Nat} (f t : Nat) (hI : MI Ty Tm Th Cn d i r L) (hf : f < 3 + Ty.length) (ht : t < 3 + Ty.length) (hj : fnd Ty (f, t) = none) : pC m_M_arrow τ [.ref (a 0), .int (nI f), .int (nI t)] (wM a i r L z ++ wr) ((fun rr w2 => ∃ i2 r2, rr = some (.int (sNum Ty f t).1) ∧ w2 = wM a i2 r2 L z ++ wr ∧ MI (sNum Ty f t).2 Tm Th Cn d i2 r2 L ∧ (∀ j, j ≠ 2 → i2 j = i j) ∧ ∀ j, j ≠ 4 → j ≠ 5 → r2 j = r j)) := by
  refine pC.of rfl (Nat.le_of_ble_eq_true rfl) ?_
  show pG m_M_arrow τ _ 0 0 0 [(0, _), (1, _), (2, _)] [] _
  obtain ⟨b1, b2, b3, b4, b5, b6, b7⟩ := hI.b
  refine g_aload_n (pc := 0) d_M_arrow_0 rfl ?_
  refine g_iload_n (pc := 1) d_M_arrow_1 rfl ?_
  refine g_callV (M' := m_M_isType) (pc := 2) (q := 0) d_M_arrow_2 lm_M_92 (c_M_isType (3 + Ty.length) b4 (by omega) _) v_M_isType rfl rfl rfl (by decide) rfl (Nat.le_of_ble_eq_true rfl) ?_
  rintro _ _ ⟨rfl, rfl⟩
  show pG m_M_arrow τ _ 0 0 5 _ (.int _ :: _) _
  refine g_ifb_eq (pc := 5) (tgt := 16) d_M_arrow_5 (by decide) (fun h => absurd h (by rw [ixB_nI (by omega)]; simp [hf])) (fun h5 => ?_)
  refine g_aload_n (pc := 8) d_M_arrow_8 rfl ?_
  refine g_iload_n (pc := 9) d_M_arrow_9 rfl ?_
  refine g_callV (M' := m_M_isType) (pc := 10) (q := 0) d_M_arrow_10 lm_M_92 (c_M_isType (3 + Ty.length) b4 (by omega) _) v_M_isType rfl rfl rfl (by decide) rfl (Nat.le_of_ble_eq_true rfl) ?_
  rintro _ _ ⟨rfl, rfl⟩
  show pG m_M_arrow τ _ 0 0 13 _ (.int _ :: _) _
  refine g_ifb_ne (pc := 13) (tgt := 18) d_M_arrow_13 (by decide) (fun h13 => ?_) (fun h => absurd h (by rw [ixB_nI (by omega)]; simp [ht]))
  refine g_aload_n (pc := 18) d_M_arrow_18 rfl ?_
  refine g_iload_n (pc := 19) d_M_arrow_19 rfl ?_
  refine g_iload_n (pc := 20) d_M_arrow_20 rfl ?_
  refine g_callV (M' := m_M_find) (pc := 21) (q := 0) d_M_arrow_21 lm_M_61 (c_M_find Ty f t hI.1 (by omega) (by omega)) v_M_find rfl rfl rfl (by decide) rfl (Nat.le_of_ble_eq_true rfl) ?_
  rintro _ _ ⟨rfl, rfl⟩
  rw [show fI Ty f t = -1 by simp [fI, hj]]
  show pG m_M_arrow τ _ 0 0 24 _ (.int _ :: _) _
  refine g_istore_n (pc := 24) [(3, _), (0, _), (1, _), (2, _)] d_M_arrow_24 (by decide) rfl ?_
  refine g_iload_n (pc := 25) d_M_arrow_25 rfl ?_
  refine g_if_ge (pc := 26) (tgt := 38) d_M_arrow_26 (by decide) (fun h => absurd h (by decide)) (fun h26 => ?_)
  refine g_aload_n (pc := 29) d_M_arrow_29 rfl ?_
  refine gm_types (pc := 30) d_M_arrow_30 lf_M_22 ?_
  rw [b4]
  refine g_bipush (pc := 33) (v := nI 16) d_M_arrow_33 (by decide) ?_
  refine g_nicmp_ne (pc := 35) (tgt := 49) d_M_arrow_35 (by decide) (by omega) (by omega) (fun h35 => ?_) (fun h35 => ?_)
  · refine g_aload_n (pc := 49) d_M_arrow_49 rfl ?_
    refine gm_from (pc := 50) d_M_arrow_50 lf_M_26 ?_
    refine g_aload_n (pc := 53) d_M_arrow_53 rfl ?_
    refine gm_types (pc := 54) d_M_arrow_54 lf_M_22 ?_
    rw [b4]
    refine g_iload_n (pc := 57) d_M_arrow_57 rfl ?_
    refine gsm_from (pc := 58) d_M_arrow_58 (vp_in_nI (by omega) (by decide)) ?_
    refine g_aload_n (pc := 59) d_M_arrow_59 rfl ?_
    refine gm_to (pc := 60) d_M_arrow_60 lf_M_29 ?_
    refine g_aload_n (pc := 63) d_M_arrow_63 rfl ?_
    refine gm_types (pc := 64) d_M_arrow_64 lf_M_22 ?_
    rw [b4]
    refine g_iload_n (pc := 67) d_M_arrow_67 rfl ?_
    refine gsm_to (pc := 68) d_M_arrow_68 (vp_in_nI (by omega) (by decide)) ?_
    refine g_aload_n (pc := 69) d_M_arrow_69 rfl ?_
    refine g_dup (pc := 70) d_M_arrow_70 rfl ?_
    refine gm_types (pc := 71) d_M_arrow_71 lf_M_22 ?_
    rw [b4]
    refine g_iconst (pc := 74) (v := nI 1) d_M_arrow_74 (by decide) ?_
    refine g_nadd (pc := 75) d_M_arrow_75 ?_
    refine gm_types_p (pc := 76) d_M_arrow_76 lf_M_22 ?_
    refine g_aload_n (pc := 79) d_M_arrow_79 rfl ?_
    refine gm_types (pc := 80) d_M_arrow_80 lf_M_22 ?_
    rw [pk_us]
    refine g_iconst (pc := 83) (v := nI 1) d_M_arrow_83 (by decide) ?_
    refine g_nsub (pc := 84) d_M_arrow_84 (by omega) ?_
    rw [Nat.add_sub_cancel]
    refine g_iret (pc := 85) d_M_arrow_85 rfl (Nat.le_refl _) (Nat.le_refl _) ?_
    have q : Ty.length ≠ 13 := by omega
    refine ⟨_, _, by rw [sNum_new hj q], rfl, ?_, fun j h2 => pk_un h2, fun j h4 h5 => by rw [up_n h5, up_n h4]⟩
    rw [sNum_new hj q]
    refine ⟨MT_add hI.1 q (by omega) (by omega) _ _ (by rw [pk_us]) ?_ ?_, hI.2.1.mv (pk_un (by decide)) (by rw [up_n (by decide), up_n (by decide)]) (by rw [up_n (by decide), up_n (by decide)]) (fun k _ => by rw [up_n (by decide), up_n (by decide)]), hI.2.2.1.mv (by rw [up_n (by decide), up_n (by decide)]), ⟨by rw [pk_un (by decide)]; exact b7, by rw [up_n (by decide), up_n (by decide)]; exact hI.2.2.2.1.2⟩, hI.2.2.2.2.mv (pk_un (by decide)) (by rw [up_n (by decide), up_n (by decide)]) (by rw [up_n (by decide), up_n (by decide)])⟩
    · rw [up_n (by decide), up_s, nI_clamp (by omega)]
    · rw [up_s, nI_clamp (by omega), up_n (by decide)]
  · refine g_iload_n (pc := 38) d_M_arrow_38 rfl ?_
    refine g_if_lt (pc := 39) (tgt := 46) d_M_arrow_39 (by decide) (fun h39 => ?_) (fun h => absurd (by decide) h)
    refine g_bipush (pc := 46) (v := -4) d_M_arrow_46 (by decide) ?_
    refine g_iret (pc := 48) d_M_arrow_48 rfl (Nat.le_refl _) (Nat.le_refl _) ?_
    exact ⟨i, r, by rw [sNum_full hj (by omega)], rfl, by rw [sNum_full hj (by omega)]; exact hI, fun _ _ => rfl, fun _ _ _ => rfl⟩
set_option maxRecDepth 100000 in
set_option maxHeartbeats 4000000 in
theorem c_M_arrow_0 {τ : Nat × Nat} {a : Nat → Nat} {i : Nat → Int32} {r : Nat → Nat → Int32} {L : Nat → Nat → Int64} {z : Int64} {wr : pW} {Ty : List (Nat × Nat)} {Tm : List (List Nat)} {Th : List Thm} {Cn : Nat → Option Nat} {d : List Nat} (f t : Int32) (hI : MI Ty Tm Th Cn d i r L) (hno : (ixB f (3 + Ty.length) && ixB t (3 + Ty.length)) = false) : pC m_M_arrow τ [.ref (a 0), .int f, .int t] (wM a i r L z ++ wr) ((fun rr w2 => ∃ i2 r2, rr = some (.int ((((-1), Ty) : Int32 × List (Nat × Nat))).1) ∧ w2 = wM a i2 r2 L z ++ wr ∧ MI ((((-1), Ty) : Int32 × List (Nat × Nat))).2 Tm Th Cn d i2 r2 L ∧ (∀ j, j ≠ 2 → i2 j = i j) ∧ ∀ j, j ≠ 4 → j ≠ 5 → r2 j = r j)) := by
  refine pC.of rfl (Nat.le_of_ble_eq_true rfl) ?_
  show pG m_M_arrow τ _ 0 0 0 [(0, _), (1, _), (2, _)] [] _
  obtain ⟨b1, b2, b3, b4, b5, b6, b7⟩ := hI.b
  refine g_aload_n (pc := 0) d_M_arrow_0 rfl ?_
  refine g_iload_n (pc := 1) d_M_arrow_1 rfl ?_
  refine g_callV (M' := m_M_isType) (pc := 2) (q := 0) d_M_arrow_2 lm_M_92 (c_M_isType (3 + Ty.length) b4 (by omega) _) v_M_isType rfl rfl rfl (by decide) rfl (Nat.le_of_ble_eq_true rfl) ?_
  rintro _ _ ⟨rfl, rfl⟩
  show pG m_M_arrow τ _ 0 0 5 _ (.int _ :: _) _
  refine g_ifb_eq (pc := 5) (tgt := 16) d_M_arrow_5 (by decide) (fun h5 => ?_) (fun h5 => ?_)
  · refine g_iconst (pc := 16) (v := -1) d_M_arrow_16 (by decide) ?_
    refine g_iret (pc := 17) d_M_arrow_17 rfl (Nat.le_refl _) (Nat.le_refl _) ?_
    exact ⟨i, r, rfl, rfl, hI, fun _ _ => rfl, fun _ _ _ => rfl⟩
  · refine g_aload_n (pc := 8) d_M_arrow_8 rfl ?_
    refine g_iload_n (pc := 9) d_M_arrow_9 rfl ?_
    refine g_callV (M' := m_M_isType) (pc := 10) (q := 0) d_M_arrow_10 lm_M_92 (c_M_isType (3 + Ty.length) b4 (by omega) _) v_M_isType rfl rfl rfl (by decide) rfl (Nat.le_of_ble_eq_true rfl) ?_
    rintro _ _ ⟨rfl, rfl⟩
    show pG m_M_arrow τ _ 0 0 13 _ (.int _ :: _) _
    refine g_ifb_ne (pc := 13) (tgt := 18) d_M_arrow_13 (by decide) (fun h13 => ?_) (fun h13 => ?_)
    · obtain ⟨fN, hfN, rfl⟩ := ixB_of h5 (by omega)
      obtain ⟨tN, htN, rfl⟩ := ixB_of h13 (by omega)
      rw [h5, h13] at hno
      exact Bool.noConfusion hno
    · refine g_iconst (pc := 16) (v := -1) d_M_arrow_16 (by decide) ?_
      refine g_iret (pc := 17) d_M_arrow_17 rfl (Nat.le_refl _) (Nat.le_refl _) ?_
      exact ⟨i, r, rfl, rfl, hI, fun _ _ => rfl, fun _ _ _ => rfl⟩
theorem c_M_arrow_3 {τ : Nat × Nat} {a : Nat → Nat} {i : Nat → Int32} {r : Nat → Nat → Int32} {L : Nat → Nat → Int64} {z : Int64} {wr : pW} {Ty : List (Nat × Nat)} {Tm : List (List Nat)} {Th : List Thm} {Cn : Nat → Option Nat} {d : List Nat} (f t : Nat) (hI : MI Ty Tm Th Cn d i r L) (hf : f < 3 + Ty.length) (ht : t < 3 + Ty.length) : pC m_M_arrow τ [.ref (a 0), .int (nI f), .int (nI t)] (wM a i r L z ++ wr) ((fun rr w2 => ∃ i2 r2, rr = some (.int (sNum Ty f t).1) ∧ w2 = wM a i2 r2 L z ++ wr ∧ MI (sNum Ty f t).2 Tm Th Cn d i2 r2 L ∧ (∀ j, j ≠ 2 → i2 j = i j) ∧ ∀ j, j ≠ 4 → j ≠ 5 → r2 j = r j)) := by
  cases hj : fnd Ty (f, t) with
  | none => exact c_M_arrow_2 f t hI hf ht hj
  | some j => exact c_M_arrow_1 f t j hI hf ht hj
theorem c_M_arrow {τ : Nat × Nat} {a : Nat → Nat} {i : Nat → Int32} {r : Nat → Nat → Int32} {L : Nat → Nat → Int64} {z : Int64} {wr : pW} {Ty : List (Nat × Nat)} {Tm : List (List Nat)} {Th : List Thm} {Cn : Nat → Option Nat} {d : List Nat} (f t : Int32) (hI : MI Ty Tm Th Cn d i r L) : pC m_M_arrow τ [.ref (a 0), .int f, .int t] (wM a i r L z ++ wr) ((fun rr w2 => ∃ i2 r2, rr = some (.int (sArrow Ty f t).1) ∧ w2 = wM a i2 r2 L z ++ wr ∧ MI (sArrow Ty f t).2 Tm Th Cn d i2 r2 L ∧ (∀ j, j ≠ 2 → i2 j = i j) ∧ ∀ j, j ≠ 4 → j ≠ 5 → r2 j = r j)) := by
  have b1 := hI.b.1
  cases hq : (ixB f (3 + Ty.length) && ixB t (3 + Ty.length)) with
  | false =>
    rw [show sArrow Ty f t = (-1, Ty) by rw [sArrow, hq]; rfl]
    exact c_M_arrow_0 f t hI hq
  | true =>
    have hq2 := hq
    rw [Bool.and_eq_true] at hq2
    obtain ⟨fN, hfN, rfl⟩ := ixB_of hq2.1 (by omega)
    obtain ⟨tN, htN, rfl⟩ := ixB_of hq2.2 (by omega)
    rw [show sArrow Ty (nI fN) (nI tN) = sNum Ty fN tN by rw [sArrow, hq, nI_clamp (by omega), nI_clamp (by omega)]; rfl]
    exact c_M_arrow_3 fN tN hI hfN htN
