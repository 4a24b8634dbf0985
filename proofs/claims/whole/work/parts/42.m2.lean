
theorem mu_place {x : Nat} (h : GT x) : 256 ≤ mu x ↔ x / 512 = 2 := by
  obtain ⟨h0, h1, h2, h3, h4⟩ := h
  unfold mu
  rcases tag8 h0 with e | e | e | e | e | e | e | e <;> simp only [e] <;> simp <;> simp only [e] at h1 h2 h3 <;> simp at h1 h2 h3 <;> omega
theorem mu_info {x : Nat} (h : x / 512 = 2) : mu x - 256 = x / 16 % 32 := by
  unfold mu
  rw [h]
  simp
/-! The reference: types, work. By wip/whole/m_m2.py -/
def fI (Ty : List (Nat × Nat)) (f t : Nat) : Int32 := match fnd Ty (f, t) with
  | some j => nI (3 + j)
  | none => -1
theorem fI_arw {Ty : List (Nat × Nat)} (nd : Ty.Nodup) {f t e : Nat} (h : arw Ty e = some (f, t)) : fI Ty f t = nI e := by
  cases hf : fnd Ty (f, t) with
  | none =>
    exfalso
    unfold arw at h
    split at h
    · exact fnd_not hf (List.mem_of_getElem? h)
    · cases h
  | some j =>
    have hj := fnd_at hf
    have : arw Ty (3 + j) = some (f, t) := by unfold arw; rw [if_pos (by omega), show 3 + j - 3 = j by omega]; exact hj
    rw [← arw_inj nd this h]
    simp [fI, hf]
theorem nI_pl {p : Nat} (h : p < 2 ^ 31) : nI p + (-1) < nI p := by
  cases p with
  | zero => decide
  | succ p => rw [pk_m1]; exact nI_lt (by omega) h
theorem MT.to {Ty : List (Nat × Nat)} {i : Nat → Int32} {r : Nat → Nat → Int32} {f x e : Nat} (h : MT Ty i r) (g : arw Ty f = some (x, e)) : r 5 f = nI e ∧ r 4 f = nI x ∧ 3 ≤ f ∧ f < 3 + Ty.length ∧ f < 16 := by
  unfold arw at g
  split at g
  · obtain ⟨⟨h1, h2⟩, -⟩ := h.2.2 _ _ g
    have := (List.getElem?_eq_some_iff.mp g).1
    have := h.2.1
    rw [show 3 + (f - 3) = f by omega] at h1 h2
    exact ⟨h2, h1, by omega, by omega, by omega⟩
  · cases g
set_option maxRecDepth 100000 in
set_option maxHeartbeats 4000000 in
theorem c_M_find {τ : Nat × Nat} {a : Nat → Nat} {i : Nat → Int32} {r : Nat → Nat → Int32} {L : Nat → Nat → Int64} {z : Int64} {wr : pW} (Ty : List (Nat × Nat)) (f t : Nat) (h : MT Ty i r) (hf : f < 16) (ht : t < 16) : pC m_M_find τ [.ref (a 0), .int (nI f), .int (nI t)] (wM a i r L z ++ wr) ((fun rr w2 => rr = some (.int (fI Ty f t)) ∧ w2 = wM a i r L z ++ wr)) := by
  have hb := h.2.1
  have hc := h.1
  have key : ∀ m j : Nat, Ty.length - j = m → j ≤ Ty.length → (∀ y, y < j → Ty[y]? ≠ some (f, t)) → pG m_M_find τ (fun rr w2 => rr = some (.int (fI Ty f t)) ∧ w2 = wM a i r L z ++ wr) 0 0 2 [(3, .int (nI (3 + j))), (0, .ref (a 0)), (1, .int (nI f)), (2, .int (nI t))] [] (wM a i r L z ++ wr) := by
    intro m
    induction m with
    | zero =>
      intro j hm hj hn
      refine g_iload_n (pc := 2) d_M_find_2 rfl ?_
      refine g_aload_n (pc := 3) d_M_find_3 rfl ?_
      refine gm_types (pc := 4) d_M_find_4 lf_M_22 ?_
      rw [hc]
      refine g_nicmp_ge (pc := 7) (tgt := 38) d_M_find_7 (by decide) (by omega) (by omega) (fun h7 => ?_) (fun h => absurd h (by omega))
      refine g_iconst (pc := 38) (v := -1) d_M_find_38 (by decide) ?_
      refine g_iret (pc := 39) d_M_find_39 rfl (Nat.le_refl _) (Nat.le_refl _) ?_
      refine ⟨congrArg (fun v => some (Value.int v)) ?_, rfl⟩
      rw [fI, fnd_none (fun y hy => hn y (by omega))]
    | succ m ih =>
      intro j hm hj hn
      obtain ⟨p, hp⟩ := get_of (show j < Ty.length by omega)
      obtain ⟨⟨hp1, hp2⟩, hp3, hp4⟩ := h.2.2 j p hp
      refine g_iload_n (pc := 2) d_M_find_2 rfl ?_
      refine g_aload_n (pc := 3) d_M_find_3 rfl ?_
      refine gm_types (pc := 4) d_M_find_4 lf_M_22 ?_
      rw [hc]
      refine g_nicmp_ge (pc := 7) (tgt := 38) d_M_find_7 (by decide) (by omega) (by omega) (fun h => absurd h (by omega)) (fun h7 => ?_)
      refine g_aload_n (pc := 10) d_M_find_10 rfl ?_
      refine gm_from (pc := 11) d_M_find_11 lf_M_26 ?_
      refine g_iload_n (pc := 14) d_M_find_14 rfl ?_
      refine glm_from (pc := 15) (v := nI p.1) d_M_find_15 (vp_in_nI (by omega) (by decide)) (by rw [nI_clamp (by omega)]; exact hp1) ?_
      refine g_iload_n (pc := 16) d_M_find_16 rfl ?_
      refine g_nicmp_ne (pc := 17) (tgt := 32) d_M_find_17 (by decide) (by omega) (by omega) (fun h17 => ?_) (fun h17 => ?_)
      · refine g_niinc (pc := 32) (d := 1) [(3, _), (0, _), (1, _), (2, _)] d_M_find_32 rfl (by decide) rfl ?_
        refine g_goto (pc := 35) (tgt := 2) d_M_find_35 (by decide) ?_
        exact ih (j + 1) (by omega) (by omega) (lt_s hn (by
          rw [hp]
          intro e
          have e := Option.some.inj e
          subst e
          first | exact h17 rfl | exact h27 rfl))
      · refine g_aload_n (pc := 20) d_M_find_20 rfl ?_
        refine gm_to (pc := 21) d_M_find_21 lf_M_29 ?_
        refine g_iload_n (pc := 24) d_M_find_24 rfl ?_
        refine glm_to (pc := 25) (v := nI p.2) d_M_find_25 (vp_in_nI (by omega) (by decide)) (by rw [nI_clamp (by omega)]; exact hp2) ?_
        refine g_iload_n (pc := 26) d_M_find_26 rfl ?_
        refine g_nicmp_ne (pc := 27) (tgt := 32) d_M_find_27 (by decide) (by omega) (by omega) (fun h27 => ?_) (fun h27 => ?_)
        · refine g_niinc (pc := 32) (d := 1) [(3, _), (0, _), (1, _), (2, _)] d_M_find_32 rfl (by decide) rfl ?_
          refine g_goto (pc := 35) (tgt := 2) d_M_find_35 (by decide) ?_
          exact ih (j + 1) (by omega) (by omega) (lt_s hn (by
            rw [hp]
            intro e
            have e := Option.some.inj e
            subst e
            first | exact h17 rfl | exact h27 rfl))
        · refine g_iload_n (pc := 30) d_M_find_30 rfl ?_
          refine g_iret (pc := 31) d_M_find_31 rfl (Nat.le_refl _) (Nat.le_refl _) ?_
          refine ⟨congrArg (fun v => some (Value.int v)) ?_, rfl⟩
          have e : p = (f, t) := Prod.ext h17 h27
          subst e
          rw [fI, fnd_some hp hn]
  refine pC.of rfl (Nat.le_of_ble_eq_true rfl) ?_
  show pG m_M_find τ _ 0 0 0 [(0, _), (1, _), (2, _)] [] _
  refine g_iconst (pc := 0) (v := nI 3) d_M_find_0 (by decide) ?_
  refine g_istore_n (pc := 1) [(3, _), (0, _), (1, _), (2, _)] d_M_find_1 (by decide) rfl ?_
  exact key _ 0 rfl (Nat.zero_le _) lt_0
set_option maxRecDepth 100000 in
set_option maxHeartbeats 4000000 in
theorem c_M_typesAt {τ : Nat × Nat} {a : Nat → Nat} {i : Nat → Int32} {r : Nat → Nat → Int32} {L : Nat → Nat → Int64} {z : Int64} {wr : pW} (Ty : List (Nat × Nat)) (Cn : Nat → Option Nat) (p e : Nat) (row : List Nat) (h : MA (r 0) p row) (hw : WT Ty Cn e row) (hT : MT Ty i r) (hD : MD Cn r) (nd : Ty.Nodup) : pC m_M_typesAt τ [.ref (a 0), .int (nI p)] (wM a i r L z ++ wr) ((fun rr w2 => ∃ r2, rr = some (.int (nI e)) ∧ w2 = wM a i r2 L z ++ wr ∧ ∀ j, j ≠ 3 → r2 j = r j)) := by
  have h30 := h.2.2.2.2
  have hk := h.2.2.2.1
  have hpos := Pol_pos h.2.1
  have key : ∀ (m : Nat) (r1 : Nat → Nat → Int32), m ≤ row.length → (∀ k y, m ≤ k → row[k]? = some y → r1 3 k = nI (y % 16)) → (∀ j, j ≠ 3 → r1 j = r j) → pG m_M_typesAt τ (fun rr w2 => ∃ r2, rr = some (.int (nI e)) ∧ w2 = wM a i r2 L z ++ wr ∧ ∀ j, j ≠ 3 → r2 j = r j) 0 0 8 [(2, .int (nI (p + m) + (-1))), (0, .ref (a 0)), (1, .int (nI p))] [] (wM a i r1 L z ++ wr) := by
    intro m
    induction m with
    | zero =>
      intro r1 hm hkd hr1
      obtain ⟨t0, q0, hrow, -⟩ := hw.inv
      have ht0 : row[0]? = some t0 := by rw [hrow]; rfl
      have he : t0 % 16 = e := by have := hw.ty; rw [hrow] at this; exact this
      refine g_iload_n (pc := 8) d_M_typesAt_8 rfl ?_
      refine g_iload_n (pc := 9) d_M_typesAt_9 rfl ?_
      refine g_icmp_lt (pc := 10) (tgt := 155) d_M_typesAt_10 (by decide) (fun h10 => ?_) (fun h => absurd (nI_pl (by omega)) h)
      refine g_aload_n (pc := 155) d_M_typesAt_155 rfl ?_
      refine gm_kind (pc := 156) d_M_typesAt_156 lf_M_19 ?_
      refine g_iconst (pc := 159) (v := nI 0) d_M_typesAt_159 (by decide) ?_
      refine glm_kind (pc := 160) (v := nI e) d_M_typesAt_160 (vp_in_nI (by decide) (by decide)) (by rw [nI_clamp (by decide), hkd 0 t0 (Nat.le_refl _) ht0, he]) ?_
      refine g_iret (pc := 161) d_M_typesAt_161 rfl (Nat.le_refl _) (Nat.le_refl _) ?_
      exact ⟨r1, rfl, rfl, hr1⟩
    | succ m ih =>
      intro r1 hm hkd hr1
      rw [show p + (m + 1) = (p + m) + 1 from rfl, pk_m1]
      obtain ⟨x, hx⟩ := get_of (show m < row.length by omega)
      have hh : MA (r1 0) p row := by rw [hr1 0 (by decide)]; exact h
      obtain ⟨hx1, hx2, hx3, hx4⟩ := hh.get hx
      have hloc := chk_locE hw hx
      obtain ⟨l1, l2, l3, l5, l0⟩ := hloc
      have hT1 : MT Ty i r1 := hT.mv rfl (hr1 4 (by decide)) (hr1 5 (by decide))
      have fin : ∀ v : Int32, v = nI (x % 16) → pG m_M_typesAt τ (fun rr w2 => ∃ r2, rr = some (.int (nI e)) ∧ w2 = wM a i r2 L z ++ wr ∧ ∀ j, j ≠ 3 → r2 j = r j) 0 0 8 [(2, .int (nI (p + m) + (-1))), (0, .ref (a 0)), (1, .int (nI p))] [] (wM a i (va_up r1 3 (upd (r1 3) (nI m).toNatClampNeg v)) L z ++ wr) := by
        intro v hv
        refine ih _ (by omega) (fun k y hk hy => ?_) (fun j hj => (up_n hj).trans (hr1 j hj))
        rw [up_s, nI_clamp (by omega)]
        by_cases c : k = m
        · subst c
          rw [hx] at hy
          have e1 := Option.some.inj hy
          rw [pk_us, hv, e1]
        · rw [pk_un c]
          exact hkd k y (by omega) hy
      have g0 := hx2.1
      rcases tag8 g0 with c | c | c | c | c | c | c | c
      · have hmu : mu x = 64 + 16 * (x / 16 % 32) + x % 16 := by unfold mu; rw [c]; rfl
        have hgi : x / 16 % 32 < 10 := hx2.2.1 c
        refine g_iload_n (pc := 8) d_M_typesAt_8 rfl ?_
        refine g_iload_n (pc := 9) d_M_typesAt_9 rfl ?_
        refine g_nicmp_lt (pc := 10) (tgt := 155) d_M_typesAt_10 (by decide) (by omega) (by omega) (fun h => absurd h (by omega)) (fun h10 => ?_)
        refine g_aload_n (pc := 13) d_M_typesAt_13 rfl ?_
        refine gm_row (pc := 14) d_M_typesAt_14 lf_M_7 ?_
        refine g_iload_n (pc := 17) d_M_typesAt_17 rfl ?_
        refine glm_row (pc := 18) (v := nI (mu x)) d_M_typesAt_18 (vp_in_nI (by omega) (by decide)) (by rw [nI_clamp (by omega)]; exact hx1) ?_
        refine g_istore_n (pc := 19) [(3, _), (2, _), (0, _), (1, _)] d_M_typesAt_19 (by decide) rfl ?_
        refine g_iload_n (pc := 20) d_M_typesAt_20 rfl ?_
        refine g_iload_n (pc := 21) d_M_typesAt_21 rfl ?_
        refine g_nsub (pc := 22) d_M_typesAt_22 (by omega) ?_
        rw [Nat.add_sub_cancel_left]
        refine g_iconst (pc := 23) (v := nI 1) d_M_typesAt_23 (by decide) ?_
        refine g_nadd (pc := 24) d_M_typesAt_24 ?_
        refine g_bipush (pc := 25) (v := nI 32) d_M_typesAt_25 (by decide) ?_
        refine g_nicmp_ge (pc := 27) (tgt := 43) d_M_typesAt_27 (by decide) (by omega) (by omega) (fun h => absurd h (by omega)) (fun h27 => ?_)
        refine g_aload_n (pc := 30) d_M_typesAt_30 rfl ?_
        refine gm_kind (pc := 31) d_M_typesAt_31 lf_M_19 ?_
        refine g_iload_n (pc := 34) d_M_typesAt_34 rfl ?_
        refine g_iload_n (pc := 35) d_M_typesAt_35 rfl ?_
        refine g_nsub (pc := 36) d_M_typesAt_36 (by omega) ?_
        rw [Nat.add_sub_cancel_left]
        refine g_iconst (pc := 37) (v := nI 1) d_M_typesAt_37 (by decide) ?_
        refine g_nadd (pc := 38) d_M_typesAt_38 ?_
        refine glm_kind (pc := 39) (v := r1 3 (m + 1)) d_M_typesAt_39 (vp_in_nI (by omega) (by decide)) (by rw [nI_clamp (by omega)]) ?_
        refine g_goto (pc := 40) (tgt := 44) d_M_typesAt_40 (by decide) ?_
        refine g_istore (pc := 44) [(4, _), (3, _), (2, _), (0, _), (1, _)] d_M_typesAt_44 (by decide) rfl ?_
        refine g_iload_n (pc := 46) d_M_typesAt_46 rfl ?_
        refine g_iconst (pc := 47) (v := nI 1) d_M_typesAt_47 (by decide) ?_
        refine g_nicmp_ne (pc := 48) (tgt := 61) d_M_typesAt_48 (by decide) (by omega) (by omega) (fun h48 => ?_) (fun h => absurd h (by omega))
        refine g_iload_n (pc := 61) d_M_typesAt_61 rfl ?_
        refine g_sipush (pc := 62) (v := nI 256) d_M_typesAt_62 (by decide) ?_
        refine g_nicmp_lt (pc := 65) (tgt := 76) d_M_typesAt_65 (by decide) (by omega) (by omega) (fun h65 => ?_) (fun h => absurd h (by omega))
        refine g_iload_n (pc := 76) d_M_typesAt_76 rfl ?_
        refine g_sipush (pc := 77) (v := nI 240) d_M_typesAt_77 (by decide) ?_
        refine g_nicmp_lt (pc := 80) (tgt := 98) d_M_typesAt_80 (by decide) (by omega) (by omega) (fun h80 => ?_) (fun h => absurd h (by omega))
        refine g_iload_n (pc := 98) d_M_typesAt_98 rfl ?_
        refine g_bipush (pc := 99) (v := nI 64) d_M_typesAt_99 (by decide) ?_
        refine g_nicmp_lt (pc := 101) (tgt := 111) d_M_typesAt_101 (by decide) (by omega) (by omega) (fun h => absurd h (by omega)) (fun h101 => ?_)
        refine g_iload_n (pc := 104) d_M_typesAt_104 rfl ?_
        refine g_bipush (pc := 105) (v := nI 15) d_M_typesAt_105 (by decide) ?_
        refine g_iand (pc := 107) d_M_typesAt_107 ?_
        rw [pk_andN (by omega) 4 (by decide)]
        refine g_goto (pc := 108) (tgt := 112) d_M_typesAt_108 (by decide) ?_
        refine g_istore (pc := 112) [(5, _), (4, _), (3, _), (2, _), (0, _), (1, _)] d_M_typesAt_112 (by decide) rfl ?_
        refine g_aload_n (pc := 114) d_M_typesAt_114 rfl ?_
        refine gm_kind (pc := 115) d_M_typesAt_115 lf_M_19 ?_
        refine g_iload_n (pc := 118) d_M_typesAt_118 rfl ?_
        refine g_iload_n (pc := 119) d_M_typesAt_119 rfl ?_
        refine g_nsub (pc := 120) d_M_typesAt_120 (by omega) ?_
        rw [Nat.add_sub_cancel_left]
        refine g_iload_n (pc := 121) d_M_typesAt_121 rfl ?_
        refine g_bipush (pc := 122) (v := nI 16) d_M_typesAt_122 (by decide) ?_
        refine g_nicmp_lt (pc := 124) (tgt := 146) d_M_typesAt_124 (by decide) (by omega) (by omega) (fun h => absurd h (by omega)) (fun h124 => ?_)
        refine g_iload_n (pc := 127) d_M_typesAt_127 rfl ?_
        refine g_bipush (pc := 128) (v := nI 32) d_M_typesAt_128 (by decide) ?_
        refine g_nicmp_ge (pc := 130) (tgt := 146) d_M_typesAt_130 (by decide) (by omega) (by omega) (fun h130 => ?_) (fun h => absurd h (by omega))
        refine g_iload (pc := 146) d_M_typesAt_146 rfl ?_
        refine gsm_kind (pc := 148) d_M_typesAt_148 (vp_in_nI (by omega) (by decide)) ?_
        refine g_iinc (pc := 149) (v := nI (p + m) + (-1)) [(2, _), (5, _), (4, _), (3, _), (0, _), (1, _)] d_M_typesAt_149 rfl rfl (by decide) rfl ?_
        refine g_goto (pc := 152) (tgt := 8) d_M_typesAt_152 (by decide) ?_
        refine g_pick [0, 4, 5] [(2, _), (0, _), (1, _)] rfl ?_
        exact fin _ (by rw [show mu x % 2 ^ 4 = x % 16 by omega])
      · have hmu : mu x = 240 + x / 16 % 32 := by unfold mu; rw [c]; rfl
        have hgi : x / 16 % 32 < 4 := hx2.2.2.1 c
        have hd1 := (hD (x / 16 % 32) hgi).1
        rw [l1 c] at hd1
        have hd2 : r1 6 (x / 16 % 32) = nI (x % 16 + 1) := by rw [hr1 6 (by decide)]; exact hd1
        refine g_iload_n (pc := 8) d_M_typesAt_8 rfl ?_
        refine g_iload_n (pc := 9) d_M_typesAt_9 rfl ?_
        refine g_nicmp_lt (pc := 10) (tgt := 155) d_M_typesAt_10 (by decide) (by omega) (by omega) (fun h => absurd h (by omega)) (fun h10 => ?_)
        refine g_aload_n (pc := 13) d_M_typesAt_13 rfl ?_
        refine gm_row (pc := 14) d_M_typesAt_14 lf_M_7 ?_
        refine g_iload_n (pc := 17) d_M_typesAt_17 rfl ?_
        refine glm_row (pc := 18) (v := nI (mu x)) d_M_typesAt_18 (vp_in_nI (by omega) (by decide)) (by rw [nI_clamp (by omega)]; exact hx1) ?_
        refine g_istore_n (pc := 19) [(3, _), (2, _), (0, _), (1, _)] d_M_typesAt_19 (by decide) rfl ?_
        refine g_iload_n (pc := 20) d_M_typesAt_20 rfl ?_
        refine g_iload_n (pc := 21) d_M_typesAt_21 rfl ?_
        refine g_nsub (pc := 22) d_M_typesAt_22 (by omega) ?_
        rw [Nat.add_sub_cancel_left]
        refine g_iconst (pc := 23) (v := nI 1) d_M_typesAt_23 (by decide) ?_
        refine g_nadd (pc := 24) d_M_typesAt_24 ?_
        refine g_bipush (pc := 25) (v := nI 32) d_M_typesAt_25 (by decide) ?_
        refine g_nicmp_ge (pc := 27) (tgt := 43) d_M_typesAt_27 (by decide) (by omega) (by omega) (fun h => absurd h (by omega)) (fun h27 => ?_)
        refine g_aload_n (pc := 30) d_M_typesAt_30 rfl ?_
        refine gm_kind (pc := 31) d_M_typesAt_31 lf_M_19 ?_
        refine g_iload_n (pc := 34) d_M_typesAt_34 rfl ?_
        refine g_iload_n (pc := 35) d_M_typesAt_35 rfl ?_
        refine g_nsub (pc := 36) d_M_typesAt_36 (by omega) ?_
        rw [Nat.add_sub_cancel_left]
        refine g_iconst (pc := 37) (v := nI 1) d_M_typesAt_37 (by decide) ?_
        refine g_nadd (pc := 38) d_M_typesAt_38 ?_
        refine glm_kind (pc := 39) (v := r1 3 (m + 1)) d_M_typesAt_39 (vp_in_nI (by omega) (by decide)) (by rw [nI_clamp (by omega)]) ?_
        refine g_goto (pc := 40) (tgt := 44) d_M_typesAt_40 (by decide) ?_
        refine g_istore (pc := 44) [(4, _), (3, _), (2, _), (0, _), (1, _)] d_M_typesAt_44 (by decide) rfl ?_
        refine g_iload_n (pc := 46) d_M_typesAt_46 rfl ?_
        refine g_iconst (pc := 47) (v := nI 1) d_M_typesAt_47 (by decide) ?_
        refine g_nicmp_ne (pc := 48) (tgt := 61) d_M_typesAt_48 (by decide) (by omega) (by omega) (fun h48 => ?_) (fun h => absurd h (by omega))
        refine g_iload_n (pc := 61) d_M_typesAt_61 rfl ?_
        refine g_sipush (pc := 62) (v := nI 256) d_M_typesAt_62 (by decide) ?_
        refine g_nicmp_lt (pc := 65) (tgt := 76) d_M_typesAt_65 (by decide) (by omega) (by omega) (fun h65 => ?_) (fun h => absurd h (by omega))
        refine g_iload_n (pc := 76) d_M_typesAt_76 rfl ?_
        refine g_sipush (pc := 77) (v := nI 240) d_M_typesAt_77 (by decide) ?_
        refine g_nicmp_lt (pc := 80) (tgt := 98) d_M_typesAt_80 (by decide) (by omega) (by omega) (fun h => absurd h (by omega)) (fun h80 => ?_)
        refine g_aload_n (pc := 83) d_M_typesAt_83 rfl ?_
        refine gm_declared (pc := 84) d_M_typesAt_84 lf_M_32 ?_
        refine g_iload_n (pc := 87) d_M_typesAt_87 rfl ?_
        refine g_sipush (pc := 88) (v := nI 240) d_M_typesAt_88 (by decide) ?_
        refine g_nsub (pc := 91) d_M_typesAt_91 (by omega) ?_
        rw [show mu x - 240 = x / 16 % 32 by omega]
        refine glm_declared (pc := 92) (v := nI (x % 16 + 1)) d_M_typesAt_92 (vp_in_nI (by omega) (by decide)) (by rw [nI_clamp (by omega)]; exact hd2) ?_
        refine g_iconst (pc := 93) (v := nI 1) d_M_typesAt_93 (by decide) ?_
        refine g_nsub (pc := 94) d_M_typesAt_94 (by omega) ?_
        rw [Nat.add_sub_cancel]
        refine g_goto (pc := 95) (tgt := 112) d_M_typesAt_95 (by decide) ?_
        refine g_istore (pc := 112) [(5, _), (4, _), (3, _), (2, _), (0, _), (1, _)] d_M_typesAt_112 (by decide) rfl ?_
        refine g_aload_n (pc := 114) d_M_typesAt_114 rfl ?_
        refine gm_kind (pc := 115) d_M_typesAt_115 lf_M_19 ?_
        refine g_iload_n (pc := 118) d_M_typesAt_118 rfl ?_
        refine g_iload_n (pc := 119) d_M_typesAt_119 rfl ?_
        refine g_nsub (pc := 120) d_M_typesAt_120 (by omega) ?_
        rw [Nat.add_sub_cancel_left]
        refine g_iload_n (pc := 121) d_M_typesAt_121 rfl ?_
        refine g_bipush (pc := 122) (v := nI 16) d_M_typesAt_122 (by decide) ?_
        refine g_nicmp_lt (pc := 124) (tgt := 146) d_M_typesAt_124 (by decide) (by omega) (by omega) (fun h => absurd h (by omega)) (fun h124 => ?_)
        refine g_iload_n (pc := 127) d_M_typesAt_127 rfl ?_
        refine g_bipush (pc := 128) (v := nI 32) d_M_typesAt_128 (by decide) ?_
        refine g_nicmp_ge (pc := 130) (tgt := 146) d_M_typesAt_130 (by decide) (by omega) (by omega) (fun h130 => ?_) (fun h => absurd h (by omega))
        refine g_iload (pc := 146) d_M_typesAt_146 rfl ?_
        refine gsm_kind (pc := 148) d_M_typesAt_148 (vp_in_nI (by omega) (by decide)) ?_
        refine g_iinc (pc := 149) (v := nI (p + m) + (-1)) [(2, _), (5, _), (4, _), (3, _), (0, _), (1, _)] d_M_typesAt_149 rfl rfl (by decide) rfl ?_
        refine g_goto (pc := 152) (tgt := 8) d_M_typesAt_152 (by decide) ?_
        refine g_pick [0, 4, 5] [(2, _), (0, _), (1, _)] rfl ?_
        exact fin _ (by rfl)
      · have hmu : mu x = 256 + x / 16 % 32 := by unfold mu; rw [c]; rfl
        have hgi : x / 16 % 32 < 32 := by omega
        refine g_iload_n (pc := 8) d_M_typesAt_8 rfl ?_
        refine g_iload_n (pc := 9) d_M_typesAt_9 rfl ?_
        refine g_nicmp_lt (pc := 10) (tgt := 155) d_M_typesAt_10 (by decide) (by omega) (by omega) (fun h => absurd h (by omega)) (fun h10 => ?_)
        refine g_aload_n (pc := 13) d_M_typesAt_13 rfl ?_
        refine gm_row (pc := 14) d_M_typesAt_14 lf_M_7 ?_
        refine g_iload_n (pc := 17) d_M_typesAt_17 rfl ?_
        refine glm_row (pc := 18) (v := nI (mu x)) d_M_typesAt_18 (vp_in_nI (by omega) (by decide)) (by rw [nI_clamp (by omega)]; exact hx1) ?_
        refine g_istore_n (pc := 19) [(3, _), (2, _), (0, _), (1, _)] d_M_typesAt_19 (by decide) rfl ?_
        refine g_iload_n (pc := 20) d_M_typesAt_20 rfl ?_
        refine g_iload_n (pc := 21) d_M_typesAt_21 rfl ?_
        refine g_nsub (pc := 22) d_M_typesAt_22 (by omega) ?_
        rw [Nat.add_sub_cancel_left]
        refine g_iconst (pc := 23) (v := nI 1) d_M_typesAt_23 (by decide) ?_
        refine g_nadd (pc := 24) d_M_typesAt_24 ?_
        refine g_bipush (pc := 25) (v := nI 32) d_M_typesAt_25 (by decide) ?_
        refine g_nicmp_ge (pc := 27) (tgt := 43) d_M_typesAt_27 (by decide) (by omega) (by omega) (fun h => absurd h (by omega)) (fun h27 => ?_)
        refine g_aload_n (pc := 30) d_M_typesAt_30 rfl ?_
        refine gm_kind (pc := 31) d_M_typesAt_31 lf_M_19 ?_
        refine g_iload_n (pc := 34) d_M_typesAt_34 rfl ?_
        refine g_iload_n (pc := 35) d_M_typesAt_35 rfl ?_
        refine g_nsub (pc := 36) d_M_typesAt_36 (by omega) ?_
        rw [Nat.add_sub_cancel_left]
        refine g_iconst (pc := 37) (v := nI 1) d_M_typesAt_37 (by decide) ?_
        refine g_nadd (pc := 38) d_M_typesAt_38 ?_
        refine glm_kind (pc := 39) (v := r1 3 (m + 1)) d_M_typesAt_39 (vp_in_nI (by omega) (by decide)) (by rw [nI_clamp (by omega)]) ?_
        refine g_goto (pc := 40) (tgt := 44) d_M_typesAt_40 (by decide) ?_
        refine g_istore (pc := 44) [(4, _), (3, _), (2, _), (0, _), (1, _)] d_M_typesAt_44 (by decide) rfl ?_
        refine g_iload_n (pc := 46) d_M_typesAt_46 rfl ?_
        refine g_iconst (pc := 47) (v := nI 1) d_M_typesAt_47 (by decide) ?_
        refine g_nicmp_ne (pc := 48) (tgt := 61) d_M_typesAt_48 (by decide) (by omega) (by omega) (fun h48 => ?_) (fun h => absurd h (by omega))
        refine g_iload_n (pc := 61) d_M_typesAt_61 rfl ?_
        refine g_sipush (pc := 62) (v := nI 256) d_M_typesAt_62 (by decide) ?_
        refine g_nicmp_lt (pc := 65) (tgt := 76) d_M_typesAt_65 (by decide) (by omega) (by omega) (fun h => absurd h (by omega)) (fun h65 => ?_)
        refine g_aload_n (pc := 68) d_M_typesAt_68 rfl ?_
        refine g_iload_n (pc := 69) d_M_typesAt_69 rfl ?_
        refine g_callV (M' := m_M_binder) (pc := 70) (q := 0) d_M_typesAt_70 lm_M_58 (c_M_binder p m x (x % 16) row hh hx c (l2 c)) v_M_binder rfl rfl rfl (by decide) rfl (Nat.le_of_ble_eq_true rfl) ?_
        rintro _ _ ⟨rfl, rfl⟩
        show pG m_M_typesAt τ _ 0 0 73 _ (.int _ :: _) _
        refine g_goto (pc := 73) (tgt := 112) d_M_typesAt_73 (by decide) ?_
        refine g_istore (pc := 112) [(5, _), (4, _), (3, _), (2, _), (0, _), (1, _)] d_M_typesAt_112 (by decide) rfl ?_
        refine g_aload_n (pc := 114) d_M_typesAt_114 rfl ?_
        refine gm_kind (pc := 115) d_M_typesAt_115 lf_M_19 ?_
        refine g_iload_n (pc := 118) d_M_typesAt_118 rfl ?_
        refine g_iload_n (pc := 119) d_M_typesAt_119 rfl ?_
        refine g_nsub (pc := 120) d_M_typesAt_120 (by omega) ?_
        rw [Nat.add_sub_cancel_left]
        refine g_iload_n (pc := 121) d_M_typesAt_121 rfl ?_
        refine g_bipush (pc := 122) (v := nI 16) d_M_typesAt_122 (by decide) ?_
        refine g_nicmp_lt (pc := 124) (tgt := 146) d_M_typesAt_124 (by decide) (by omega) (by omega) (fun h => absurd h (by omega)) (fun h124 => ?_)
        refine g_iload_n (pc := 127) d_M_typesAt_127 rfl ?_
        refine g_bipush (pc := 128) (v := nI 32) d_M_typesAt_128 (by decide) ?_
        refine g_nicmp_ge (pc := 130) (tgt := 146) d_M_typesAt_130 (by decide) (by omega) (by omega) (fun h130 => ?_) (fun h => absurd h (by omega))
        refine g_iload (pc := 146) d_M_typesAt_146 rfl ?_
        refine gsm_kind (pc := 148) d_M_typesAt_148 (vp_in_nI (by omega) (by decide)) ?_
        refine g_iinc (pc := 149) (v := nI (p + m) + (-1)) [(2, _), (5, _), (4, _), (3, _), (0, _), (1, _)] d_M_typesAt_149 rfl rfl (by decide) rfl ?_
        refine g_goto (pc := 152) (tgt := 8) d_M_typesAt_152 (by decide) ?_
        refine g_pick [0, 4, 5] [(2, _), (0, _), (1, _)] rfl ?_
        exact fin _ (by rfl)
      · have hmu : mu x = 16 + x / 16 % 32 := by unfold mu; rw [c]; rfl
        have hgi : x / 16 % 32 < 16 := hx2.2.2.2.1 (Or.inl c)
        obtain ⟨y, hy1, hy2⟩ := l3 c
        have hy3 := hkd (m + 1) y (by omega) hy1
        refine g_iload_n (pc := 8) d_M_typesAt_8 rfl ?_
        refine g_iload_n (pc := 9) d_M_typesAt_9 rfl ?_
        refine g_nicmp_lt (pc := 10) (tgt := 155) d_M_typesAt_10 (by decide) (by omega) (by omega) (fun h => absurd h (by omega)) (fun h10 => ?_)
        refine g_aload_n (pc := 13) d_M_typesAt_13 rfl ?_
        refine gm_row (pc := 14) d_M_typesAt_14 lf_M_7 ?_
        refine g_iload_n (pc := 17) d_M_typesAt_17 rfl ?_
        refine glm_row (pc := 18) (v := nI (mu x)) d_M_typesAt_18 (vp_in_nI (by omega) (by decide)) (by rw [nI_clamp (by omega)]; exact hx1) ?_
        refine g_istore_n (pc := 19) [(3, _), (2, _), (0, _), (1, _)] d_M_typesAt_19 (by decide) rfl ?_
        refine g_iload_n (pc := 20) d_M_typesAt_20 rfl ?_
        refine g_iload_n (pc := 21) d_M_typesAt_21 rfl ?_
        refine g_nsub (pc := 22) d_M_typesAt_22 (by omega) ?_
        rw [Nat.add_sub_cancel_left]
        refine g_iconst (pc := 23) (v := nI 1) d_M_typesAt_23 (by decide) ?_
        refine g_nadd (pc := 24) d_M_typesAt_24 ?_
        refine g_bipush (pc := 25) (v := nI 32) d_M_typesAt_25 (by decide) ?_
        refine g_nicmp_ge (pc := 27) (tgt := 43) d_M_typesAt_27 (by decide) (by omega) (by omega) (fun h => absurd h (by omega)) (fun h27 => ?_)
        refine g_aload_n (pc := 30) d_M_typesAt_30 rfl ?_
        refine gm_kind (pc := 31) d_M_typesAt_31 lf_M_19 ?_
        refine g_iload_n (pc := 34) d_M_typesAt_34 rfl ?_
        refine g_iload_n (pc := 35) d_M_typesAt_35 rfl ?_
        refine g_nsub (pc := 36) d_M_typesAt_36 (by omega) ?_
        rw [Nat.add_sub_cancel_left]
        refine g_iconst (pc := 37) (v := nI 1) d_M_typesAt_37 (by decide) ?_
        refine g_nadd (pc := 38) d_M_typesAt_38 ?_
        refine glm_kind (pc := 39) (v := r1 3 (m + 1)) d_M_typesAt_39 (vp_in_nI (by omega) (by decide)) (by rw [nI_clamp (by omega)]) ?_
        refine g_goto (pc := 40) (tgt := 44) d_M_typesAt_40 (by decide) ?_
        refine g_istore (pc := 44) [(4, _), (3, _), (2, _), (0, _), (1, _)] d_M_typesAt_44 (by decide) rfl ?_
        refine g_iload_n (pc := 46) d_M_typesAt_46 rfl ?_
        refine g_iconst (pc := 47) (v := nI 1) d_M_typesAt_47 (by decide) ?_
        refine g_nicmp_ne (pc := 48) (tgt := 61) d_M_typesAt_48 (by decide) (by omega) (by omega) (fun h48 => ?_) (fun h => absurd h (by omega))
        refine g_iload_n (pc := 61) d_M_typesAt_61 rfl ?_
        refine g_sipush (pc := 62) (v := nI 256) d_M_typesAt_62 (by decide) ?_
        refine g_nicmp_lt (pc := 65) (tgt := 76) d_M_typesAt_65 (by decide) (by omega) (by omega) (fun h65 => ?_) (fun h => absurd h (by omega))
        refine g_iload_n (pc := 76) d_M_typesAt_76 rfl ?_
        refine g_sipush (pc := 77) (v := nI 240) d_M_typesAt_77 (by decide) ?_
        refine g_nicmp_lt (pc := 80) (tgt := 98) d_M_typesAt_80 (by decide) (by omega) (by omega) (fun h80 => ?_) (fun h => absurd h (by omega))
        refine g_iload_n (pc := 98) d_M_typesAt_98 rfl ?_
        refine g_bipush (pc := 99) (v := nI 64) d_M_typesAt_99 (by decide) ?_
        refine g_nicmp_lt (pc := 101) (tgt := 111) d_M_typesAt_101 (by decide) (by omega) (by omega) (fun h101 => ?_) (fun h => absurd h (by omega))
        refine g_iconst (pc := 111) (v := nI 0) d_M_typesAt_111 (by decide) ?_
        refine g_istore (pc := 112) [(5, _), (4, _), (3, _), (2, _), (0, _), (1, _)] d_M_typesAt_112 (by decide) rfl ?_
        refine g_aload_n (pc := 114) d_M_typesAt_114 rfl ?_
        refine gm_kind (pc := 115) d_M_typesAt_115 lf_M_19 ?_
        refine g_iload_n (pc := 118) d_M_typesAt_118 rfl ?_
        refine g_iload_n (pc := 119) d_M_typesAt_119 rfl ?_
        refine g_nsub (pc := 120) d_M_typesAt_120 (by omega) ?_
        rw [Nat.add_sub_cancel_left]
        refine g_iload_n (pc := 121) d_M_typesAt_121 rfl ?_
        refine g_bipush (pc := 122) (v := nI 16) d_M_typesAt_122 (by decide) ?_
        refine g_nicmp_lt (pc := 124) (tgt := 146) d_M_typesAt_124 (by decide) (by omega) (by omega) (fun h => absurd h (by omega)) (fun h124 => ?_)
        refine g_iload_n (pc := 127) d_M_typesAt_127 rfl ?_
        refine g_bipush (pc := 128) (v := nI 32) d_M_typesAt_128 (by decide) ?_
        refine g_nicmp_ge (pc := 130) (tgt := 146) d_M_typesAt_130 (by decide) (by omega) (by omega) (fun h => absurd h (by omega)) (fun h130 => ?_)
        refine g_aload_n (pc := 133) d_M_typesAt_133 rfl ?_
        refine g_iload_n (pc := 134) d_M_typesAt_134 rfl ?_
        refine g_bipush (pc := 135) (v := nI 15) d_M_typesAt_135 (by decide) ?_
        refine g_iand (pc := 137) d_M_typesAt_137 ?_
        rw [pk_andN (by omega) 4 (by decide), show mu x % 2 ^ 4 = x / 16 % 32 by omega]
        refine g_iload (pc := 138) d_M_typesAt_138 rfl ?_
        rw [hy3]
        refine g_callV (M' := m_M_find) (pc := 140) (q := 0) d_M_typesAt_140 lm_M_61 (c_M_find Ty (x / 16 % 32) (y % 16) hT1 (by omega) (by omega)) v_M_find rfl rfl rfl (by decide) rfl (Nat.le_of_ble_eq_true rfl) ?_
        rintro _ _ ⟨rfl, rfl⟩
        show pG m_M_typesAt τ _ 0 0 143 _ (.int _ :: _) _
        refine g_goto (pc := 143) (tgt := 148) d_M_typesAt_143 (by decide) ?_
        refine gsm_kind (pc := 148) d_M_typesAt_148 (vp_in_nI (by omega) (by decide)) ?_
        refine g_iinc (pc := 149) (v := nI (p + m) + (-1)) [(2, _), (5, _), (4, _), (3, _), (0, _), (1, _)] d_M_typesAt_149 rfl rfl (by decide) rfl ?_
        refine g_goto (pc := 152) (tgt := 8) d_M_typesAt_152 (by decide) ?_
        refine g_pick [0, 4, 5] [(2, _), (0, _), (1, _)] rfl ?_
        exact fin _ (by exact fI_arw nd hy2)
      · have hmu : mu x = 32 + x / 16 % 32 := by unfold mu; rw [c]; rfl
        have hgi : x / 16 % 32 < 16 := hx2.2.2.2.1 (Or.inr c)
        refine g_iload_n (pc := 8) d_M_typesAt_8 rfl ?_
        refine g_iload_n (pc := 9) d_M_typesAt_9 rfl ?_
        refine g_nicmp_lt (pc := 10) (tgt := 155) d_M_typesAt_10 (by decide) (by omega) (by omega) (fun h => absurd h (by omega)) (fun h10 => ?_)
        refine g_aload_n (pc := 13) d_M_typesAt_13 rfl ?_
        refine gm_row (pc := 14) d_M_typesAt_14 lf_M_7 ?_
        refine g_iload_n (pc := 17) d_M_typesAt_17 rfl ?_
        refine glm_row (pc := 18) (v := nI (mu x)) d_M_typesAt_18 (vp_in_nI (by omega) (by decide)) (by rw [nI_clamp (by omega)]; exact hx1) ?_
        refine g_istore_n (pc := 19) [(3, _), (2, _), (0, _), (1, _)] d_M_typesAt_19 (by decide) rfl ?_
        refine g_iload_n (pc := 20) d_M_typesAt_20 rfl ?_
        refine g_iload_n (pc := 21) d_M_typesAt_21 rfl ?_
        refine g_nsub (pc := 22) d_M_typesAt_22 (by omega) ?_
        rw [Nat.add_sub_cancel_left]
        refine g_iconst (pc := 23) (v := nI 1) d_M_typesAt_23 (by decide) ?_
        refine g_nadd (pc := 24) d_M_typesAt_24 ?_
        refine g_bipush (pc := 25) (v := nI 32) d_M_typesAt_25 (by decide) ?_
        refine g_nicmp_ge (pc := 27) (tgt := 43) d_M_typesAt_27 (by decide) (by omega) (by omega) (fun h => absurd h (by omega)) (fun h27 => ?_)
        refine g_aload_n (pc := 30) d_M_typesAt_30 rfl ?_
        refine gm_kind (pc := 31) d_M_typesAt_31 lf_M_19 ?_
        refine g_iload_n (pc := 34) d_M_typesAt_34 rfl ?_
        refine g_iload_n (pc := 35) d_M_typesAt_35 rfl ?_
        refine g_nsub (pc := 36) d_M_typesAt_36 (by omega) ?_
        rw [Nat.add_sub_cancel_left]
        refine g_iconst (pc := 37) (v := nI 1) d_M_typesAt_37 (by decide) ?_
        refine g_nadd (pc := 38) d_M_typesAt_38 ?_
        refine glm_kind (pc := 39) (v := r1 3 (m + 1)) d_M_typesAt_39 (vp_in_nI (by omega) (by decide)) (by rw [nI_clamp (by omega)]) ?_
        refine g_goto (pc := 40) (tgt := 44) d_M_typesAt_40 (by decide) ?_
        refine g_istore (pc := 44) [(4, _), (3, _), (2, _), (0, _), (1, _)] d_M_typesAt_44 (by decide) rfl ?_
        refine g_iload_n (pc := 46) d_M_typesAt_46 rfl ?_
        refine g_iconst (pc := 47) (v := nI 1) d_M_typesAt_47 (by decide) ?_
        refine g_nicmp_ne (pc := 48) (tgt := 61) d_M_typesAt_48 (by decide) (by omega) (by omega) (fun h48 => ?_) (fun h => absurd h (by omega))
        refine g_iload_n (pc := 61) d_M_typesAt_61 rfl ?_
        refine g_sipush (pc := 62) (v := nI 256) d_M_typesAt_62 (by decide) ?_
        refine g_nicmp_lt (pc := 65) (tgt := 76) d_M_typesAt_65 (by decide) (by omega) (by omega) (fun h65 => ?_) (fun h => absurd h (by omega))
        refine g_iload_n (pc := 76) d_M_typesAt_76 rfl ?_
        refine g_sipush (pc := 77) (v := nI 240) d_M_typesAt_77 (by decide) ?_
        refine g_nicmp_lt (pc := 80) (tgt := 98) d_M_typesAt_80 (by decide) (by omega) (by omega) (fun h80 => ?_) (fun h => absurd h (by omega))
        refine g_iload_n (pc := 98) d_M_typesAt_98 rfl ?_
        refine g_bipush (pc := 99) (v := nI 64) d_M_typesAt_99 (by decide) ?_
        refine g_nicmp_lt (pc := 101) (tgt := 111) d_M_typesAt_101 (by decide) (by omega) (by omega) (fun h101 => ?_) (fun h => absurd h (by omega))
        refine g_iconst (pc := 111) (v := nI 0) d_M_typesAt_111 (by decide) ?_
        refine g_istore (pc := 112) [(5, _), (4, _), (3, _), (2, _), (0, _), (1, _)] d_M_typesAt_112 (by decide) rfl ?_
        refine g_aload_n (pc := 114) d_M_typesAt_114 rfl ?_
        refine gm_kind (pc := 115) d_M_typesAt_115 lf_M_19 ?_
        refine g_iload_n (pc := 118) d_M_typesAt_118 rfl ?_
        refine g_iload_n (pc := 119) d_M_typesAt_119 rfl ?_
        refine g_nsub (pc := 120) d_M_typesAt_120 (by omega) ?_
        rw [Nat.add_sub_cancel_left]
        refine g_iload_n (pc := 121) d_M_typesAt_121 rfl ?_
        refine g_bipush (pc := 122) (v := nI 16) d_M_typesAt_122 (by decide) ?_
        refine g_nicmp_lt (pc := 124) (tgt := 146) d_M_typesAt_124 (by decide) (by omega) (by omega) (fun h => absurd h (by omega)) (fun h124 => ?_)
        refine g_iload_n (pc := 127) d_M_typesAt_127 rfl ?_
        refine g_bipush (pc := 128) (v := nI 32) d_M_typesAt_128 (by decide) ?_
        refine g_nicmp_ge (pc := 130) (tgt := 146) d_M_typesAt_130 (by decide) (by omega) (by omega) (fun h130 => ?_) (fun h => absurd h (by omega))
        refine g_iload (pc := 146) d_M_typesAt_146 rfl ?_
        refine gsm_kind (pc := 148) d_M_typesAt_148 (vp_in_nI (by omega) (by decide)) ?_
        refine g_iinc (pc := 149) (v := nI (p + m) + (-1)) [(2, _), (5, _), (4, _), (3, _), (0, _), (1, _)] d_M_typesAt_149 rfl rfl (by decide) rfl ?_
        refine g_goto (pc := 152) (tgt := 8) d_M_typesAt_152 (by decide) ?_
        refine g_pick [0, 4, 5] [(2, _), (0, _), (1, _)] rfl ?_
        exact fin _ (by rw [l0 (Or.inl c)])
      · have hmu : mu x = 1 := by unfold mu; rw [c]; rfl
        have hgi : x / 16 % 32 < 1 := by rw [hx2.2.2.2.2 (by omega)]; decide
        obtain ⟨y, zz, hy1, hy2⟩ := l5 c
        have hy3 := hkd (m + 1) y (by omega) hy1
        have hto := hT1.to hy2
        refine g_iload_n (pc := 8) d_M_typesAt_8 rfl ?_
        refine g_iload_n (pc := 9) d_M_typesAt_9 rfl ?_
        refine g_nicmp_lt (pc := 10) (tgt := 155) d_M_typesAt_10 (by decide) (by omega) (by omega) (fun h => absurd h (by omega)) (fun h10 => ?_)
        refine g_aload_n (pc := 13) d_M_typesAt_13 rfl ?_
        refine gm_row (pc := 14) d_M_typesAt_14 lf_M_7 ?_
        refine g_iload_n (pc := 17) d_M_typesAt_17 rfl ?_
        refine glm_row (pc := 18) (v := nI (mu x)) d_M_typesAt_18 (vp_in_nI (by omega) (by decide)) (by rw [nI_clamp (by omega)]; exact hx1) ?_
        refine g_istore_n (pc := 19) [(3, _), (2, _), (0, _), (1, _)] d_M_typesAt_19 (by decide) rfl ?_
        refine g_iload_n (pc := 20) d_M_typesAt_20 rfl ?_
        refine g_iload_n (pc := 21) d_M_typesAt_21 rfl ?_
        refine g_nsub (pc := 22) d_M_typesAt_22 (by omega) ?_
        rw [Nat.add_sub_cancel_left]
        refine g_iconst (pc := 23) (v := nI 1) d_M_typesAt_23 (by decide) ?_
        refine g_nadd (pc := 24) d_M_typesAt_24 ?_
        refine g_bipush (pc := 25) (v := nI 32) d_M_typesAt_25 (by decide) ?_
        refine g_nicmp_ge (pc := 27) (tgt := 43) d_M_typesAt_27 (by decide) (by omega) (by omega) (fun h => absurd h (by omega)) (fun h27 => ?_)
        refine g_aload_n (pc := 30) d_M_typesAt_30 rfl ?_
        refine gm_kind (pc := 31) d_M_typesAt_31 lf_M_19 ?_
        refine g_iload_n (pc := 34) d_M_typesAt_34 rfl ?_
        refine g_iload_n (pc := 35) d_M_typesAt_35 rfl ?_
        refine g_nsub (pc := 36) d_M_typesAt_36 (by omega) ?_
        rw [Nat.add_sub_cancel_left]
        refine g_iconst (pc := 37) (v := nI 1) d_M_typesAt_37 (by decide) ?_
        refine g_nadd (pc := 38) d_M_typesAt_38 ?_
        refine glm_kind (pc := 39) (v := r1 3 (m + 1)) d_M_typesAt_39 (vp_in_nI (by omega) (by decide)) (by rw [nI_clamp (by omega)]) ?_
        refine g_goto (pc := 40) (tgt := 44) d_M_typesAt_40 (by decide) ?_
        refine g_istore (pc := 44) [(4, _), (3, _), (2, _), (0, _), (1, _)] d_M_typesAt_44 (by decide) rfl ?_
        refine g_iload_n (pc := 46) d_M_typesAt_46 rfl ?_
        refine g_iconst (pc := 47) (v := nI 1) d_M_typesAt_47 (by decide) ?_
        refine g_nicmp_ne (pc := 48) (tgt := 61) d_M_typesAt_48 (by decide) (by omega) (by omega) (fun h => absurd h (by omega)) (fun h48 => ?_)
        refine g_aload_n (pc := 51) d_M_typesAt_51 rfl ?_
        refine gm_to (pc := 52) d_M_typesAt_52 lf_M_29 ?_
        refine g_iload (pc := 55) d_M_typesAt_55 rfl ?_
        rw [hy3]
        refine glm_to (pc := 57) (v := nI (x % 16)) d_M_typesAt_57 (vp_in_nI (show y % 16 < 16 by omega) (by decide)) (by rw [nI_clamp (by omega)]; exact hto.1) ?_
        refine g_goto (pc := 58) (tgt := 112) d_M_typesAt_58 (by decide) ?_
        refine g_istore (pc := 112) [(5, _), (4, _), (3, _), (2, _), (0, _), (1, _)] d_M_typesAt_112 (by decide) rfl ?_
        refine g_aload_n (pc := 114) d_M_typesAt_114 rfl ?_
        refine gm_kind (pc := 115) d_M_typesAt_115 lf_M_19 ?_
        refine g_iload_n (pc := 118) d_M_typesAt_118 rfl ?_
        refine g_iload_n (pc := 119) d_M_typesAt_119 rfl ?_
        refine g_nsub (pc := 120) d_M_typesAt_120 (by omega) ?_
        rw [Nat.add_sub_cancel_left]
        refine g_iload_n (pc := 121) d_M_typesAt_121 rfl ?_
        refine g_bipush (pc := 122) (v := nI 16) d_M_typesAt_122 (by decide) ?_
        refine g_nicmp_lt (pc := 124) (tgt := 146) d_M_typesAt_124 (by decide) (by omega) (by omega) (fun h124 => ?_) (fun h => absurd h (by omega))
        refine g_iload (pc := 146) d_M_typesAt_146 rfl ?_
        refine gsm_kind (pc := 148) d_M_typesAt_148 (vp_in_nI (by omega) (by decide)) ?_
        refine g_iinc (pc := 149) (v := nI (p + m) + (-1)) [(2, _), (5, _), (4, _), (3, _), (0, _), (1, _)] d_M_typesAt_149 rfl rfl (by decide) rfl ?_
        refine g_goto (pc := 152) (tgt := 8) d_M_typesAt_152 (by decide) ?_
        refine g_pick [0, 4, 5] [(2, _), (0, _), (1, _)] rfl ?_
        exact fin _ (by rfl)
      · have hmu : mu x = 2 := by unfold mu; rw [c]; rfl
        have hgi : x / 16 % 32 < 1 := by rw [hx2.2.2.2.2 (by omega)]; decide
        refine g_iload_n (pc := 8) d_M_typesAt_8 rfl ?_
        refine g_iload_n (pc := 9) d_M_typesAt_9 rfl ?_
        refine g_nicmp_lt (pc := 10) (tgt := 155) d_M_typesAt_10 (by decide) (by omega) (by omega) (fun h => absurd h (by omega)) (fun h10 => ?_)
        refine g_aload_n (pc := 13) d_M_typesAt_13 rfl ?_
        refine gm_row (pc := 14) d_M_typesAt_14 lf_M_7 ?_
        refine g_iload_n (pc := 17) d_M_typesAt_17 rfl ?_
        refine glm_row (pc := 18) (v := nI (mu x)) d_M_typesAt_18 (vp_in_nI (by omega) (by decide)) (by rw [nI_clamp (by omega)]; exact hx1) ?_
        refine g_istore_n (pc := 19) [(3, _), (2, _), (0, _), (1, _)] d_M_typesAt_19 (by decide) rfl ?_
        refine g_iload_n (pc := 20) d_M_typesAt_20 rfl ?_
        refine g_iload_n (pc := 21) d_M_typesAt_21 rfl ?_
        refine g_nsub (pc := 22) d_M_typesAt_22 (by omega) ?_
        rw [Nat.add_sub_cancel_left]
        refine g_iconst (pc := 23) (v := nI 1) d_M_typesAt_23 (by decide) ?_
        refine g_nadd (pc := 24) d_M_typesAt_24 ?_
        refine g_bipush (pc := 25) (v := nI 32) d_M_typesAt_25 (by decide) ?_
        refine g_nicmp_ge (pc := 27) (tgt := 43) d_M_typesAt_27 (by decide) (by omega) (by omega) (fun h => absurd h (by omega)) (fun h27 => ?_)
        refine g_aload_n (pc := 30) d_M_typesAt_30 rfl ?_
        refine gm_kind (pc := 31) d_M_typesAt_31 lf_M_19 ?_
        refine g_iload_n (pc := 34) d_M_typesAt_34 rfl ?_
        refine g_iload_n (pc := 35) d_M_typesAt_35 rfl ?_
        refine g_nsub (pc := 36) d_M_typesAt_36 (by omega) ?_
        rw [Nat.add_sub_cancel_left]
        refine g_iconst (pc := 37) (v := nI 1) d_M_typesAt_37 (by decide) ?_
        refine g_nadd (pc := 38) d_M_typesAt_38 ?_
        refine glm_kind (pc := 39) (v := r1 3 (m + 1)) d_M_typesAt_39 (vp_in_nI (by omega) (by decide)) (by rw [nI_clamp (by omega)]) ?_
        refine g_goto (pc := 40) (tgt := 44) d_M_typesAt_40 (by decide) ?_
        refine g_istore (pc := 44) [(4, _), (3, _), (2, _), (0, _), (1, _)] d_M_typesAt_44 (by decide) rfl ?_
        refine g_iload_n (pc := 46) d_M_typesAt_46 rfl ?_
        refine g_iconst (pc := 47) (v := nI 1) d_M_typesAt_47 (by decide) ?_
        refine g_nicmp_ne (pc := 48) (tgt := 61) d_M_typesAt_48 (by decide) (by omega) (by omega) (fun h48 => ?_) (fun h => absurd h (by omega))
        refine g_iload_n (pc := 61) d_M_typesAt_61 rfl ?_
        refine g_sipush (pc := 62) (v := nI 256) d_M_typesAt_62 (by decide) ?_
        refine g_nicmp_lt (pc := 65) (tgt := 76) d_M_typesAt_65 (by decide) (by omega) (by omega) (fun h65 => ?_) (fun h => absurd h (by omega))
        refine g_iload_n (pc := 76) d_M_typesAt_76 rfl ?_
        refine g_sipush (pc := 77) (v := nI 240) d_M_typesAt_77 (by decide) ?_
        refine g_nicmp_lt (pc := 80) (tgt := 98) d_M_typesAt_80 (by decide) (by omega) (by omega) (fun h80 => ?_) (fun h => absurd h (by omega))
        refine g_iload_n (pc := 98) d_M_typesAt_98 rfl ?_
        refine g_bipush (pc := 99) (v := nI 64) d_M_typesAt_99 (by decide) ?_
        refine g_nicmp_lt (pc := 101) (tgt := 111) d_M_typesAt_101 (by decide) (by omega) (by omega) (fun h101 => ?_) (fun h => absurd h (by omega))
        refine g_iconst (pc := 111) (v := nI 0) d_M_typesAt_111 (by decide) ?_
        refine g_istore (pc := 112) [(5, _), (4, _), (3, _), (2, _), (0, _), (1, _)] d_M_typesAt_112 (by decide) rfl ?_
        refine g_aload_n (pc := 114) d_M_typesAt_114 rfl ?_
        refine gm_kind (pc := 115) d_M_typesAt_115 lf_M_19 ?_
        refine g_iload_n (pc := 118) d_M_typesAt_118 rfl ?_
        refine g_iload_n (pc := 119) d_M_typesAt_119 rfl ?_
        refine g_nsub (pc := 120) d_M_typesAt_120 (by omega) ?_
        rw [Nat.add_sub_cancel_left]
        refine g_iload_n (pc := 121) d_M_typesAt_121 rfl ?_
        refine g_bipush (pc := 122) (v := nI 16) d_M_typesAt_122 (by decide) ?_
        refine g_nicmp_lt (pc := 124) (tgt := 146) d_M_typesAt_124 (by decide) (by omega) (by omega) (fun h124 => ?_) (fun h => absurd h (by omega))
        refine g_iload (pc := 146) d_M_typesAt_146 rfl ?_
        refine gsm_kind (pc := 148) d_M_typesAt_148 (vp_in_nI (by omega) (by decide)) ?_
        refine g_iinc (pc := 149) (v := nI (p + m) + (-1)) [(2, _), (5, _), (4, _), (3, _), (0, _), (1, _)] d_M_typesAt_149 rfl rfl (by decide) rfl ?_
        refine g_goto (pc := 152) (tgt := 8) d_M_typesAt_152 (by decide) ?_
        refine g_pick [0, 4, 5] [(2, _), (0, _), (1, _)] rfl ?_
        exact fin _ (by rw [l0 (Or.inr (by omega))])
      · have hmu : mu x = 3 := by unfold mu; rw [c]; rfl
        have hgi : x / 16 % 32 < 1 := by rw [hx2.2.2.2.2 (by omega)]; decide
        refine g_iload_n (pc := 8) d_M_typesAt_8 rfl ?_
        refine g_iload_n (pc := 9) d_M_typesAt_9 rfl ?_
        refine g_nicmp_lt (pc := 10) (tgt := 155) d_M_typesAt_10 (by decide) (by omega) (by omega) (fun h => absurd h (by omega)) (fun h10 => ?_)
        refine g_aload_n (pc := 13) d_M_typesAt_13 rfl ?_
        refine gm_row (pc := 14) d_M_typesAt_14 lf_M_7 ?_
        refine g_iload_n (pc := 17) d_M_typesAt_17 rfl ?_
        refine glm_row (pc := 18) (v := nI (mu x)) d_M_typesAt_18 (vp_in_nI (by omega) (by decide)) (by rw [nI_clamp (by omega)]; exact hx1) ?_
        refine g_istore_n (pc := 19) [(3, _), (2, _), (0, _), (1, _)] d_M_typesAt_19 (by decide) rfl ?_
        refine g_iload_n (pc := 20) d_M_typesAt_20 rfl ?_
        refine g_iload_n (pc := 21) d_M_typesAt_21 rfl ?_
        refine g_nsub (pc := 22) d_M_typesAt_22 (by omega) ?_
        rw [Nat.add_sub_cancel_left]
        refine g_iconst (pc := 23) (v := nI 1) d_M_typesAt_23 (by decide) ?_
        refine g_nadd (pc := 24) d_M_typesAt_24 ?_
        refine g_bipush (pc := 25) (v := nI 32) d_M_typesAt_25 (by decide) ?_
        refine g_nicmp_ge (pc := 27) (tgt := 43) d_M_typesAt_27 (by decide) (by omega) (by omega) (fun h => absurd h (by omega)) (fun h27 => ?_)
        refine g_aload_n (pc := 30) d_M_typesAt_30 rfl ?_
        refine gm_kind (pc := 31) d_M_typesAt_31 lf_M_19 ?_
        refine g_iload_n (pc := 34) d_M_typesAt_34 rfl ?_
        refine g_iload_n (pc := 35) d_M_typesAt_35 rfl ?_
        refine g_nsub (pc := 36) d_M_typesAt_36 (by omega) ?_
        rw [Nat.add_sub_cancel_left]
        refine g_iconst (pc := 37) (v := nI 1) d_M_typesAt_37 (by decide) ?_
        refine g_nadd (pc := 38) d_M_typesAt_38 ?_
        refine glm_kind (pc := 39) (v := r1 3 (m + 1)) d_M_typesAt_39 (vp_in_nI (by omega) (by decide)) (by rw [nI_clamp (by omega)]) ?_
        refine g_goto (pc := 40) (tgt := 44) d_M_typesAt_40 (by decide) ?_
        refine g_istore (pc := 44) [(4, _), (3, _), (2, _), (0, _), (1, _)] d_M_typesAt_44 (by decide) rfl ?_
        refine g_iload_n (pc := 46) d_M_typesAt_46 rfl ?_
        refine g_iconst (pc := 47) (v := nI 1) d_M_typesAt_47 (by decide) ?_
        refine g_nicmp_ne (pc := 48) (tgt := 61) d_M_typesAt_48 (by decide) (by omega) (by omega) (fun h48 => ?_) (fun h => absurd h (by omega))
        refine g_iload_n (pc := 61) d_M_typesAt_61 rfl ?_
        refine g_sipush (pc := 62) (v := nI 256) d_M_typesAt_62 (by decide) ?_
        refine g_nicmp_lt (pc := 65) (tgt := 76) d_M_typesAt_65 (by decide) (by omega) (by omega) (fun h65 => ?_) (fun h => absurd h (by omega))
        refine g_iload_n (pc := 76) d_M_typesAt_76 rfl ?_
        refine g_sipush (pc := 77) (v := nI 240) d_M_typesAt_77 (by decide) ?_
        refine g_nicmp_lt (pc := 80) (tgt := 98) d_M_typesAt_80 (by decide) (by omega) (by omega) (fun h80 => ?_) (fun h => absurd h (by omega))
        refine g_iload_n (pc := 98) d_M_typesAt_98 rfl ?_
        refine g_bipush (pc := 99) (v := nI 64) d_M_typesAt_99 (by decide) ?_
        refine g_nicmp_lt (pc := 101) (tgt := 111) d_M_typesAt_101 (by decide) (by omega) (by omega) (fun h101 => ?_) (fun h => absurd h (by omega))
        refine g_iconst (pc := 111) (v := nI 0) d_M_typesAt_111 (by decide) ?_
        refine g_istore (pc := 112) [(5, _), (4, _), (3, _), (2, _), (0, _), (1, _)] d_M_typesAt_112 (by decide) rfl ?_
        refine g_aload_n (pc := 114) d_M_typesAt_114 rfl ?_
        refine gm_kind (pc := 115) d_M_typesAt_115 lf_M_19 ?_
        refine g_iload_n (pc := 118) d_M_typesAt_118 rfl ?_
        refine g_iload_n (pc := 119) d_M_typesAt_119 rfl ?_
        refine g_nsub (pc := 120) d_M_typesAt_120 (by omega) ?_
        rw [Nat.add_sub_cancel_left]
        refine g_iload_n (pc := 121) d_M_typesAt_121 rfl ?_
        refine g_bipush (pc := 122) (v := nI 16) d_M_typesAt_122 (by decide) ?_
        refine g_nicmp_lt (pc := 124) (tgt := 146) d_M_typesAt_124 (by decide) (by omega) (by omega) (fun h124 => ?_) (fun h => absurd h (by omega))
        refine g_iload (pc := 146) d_M_typesAt_146 rfl ?_
        refine gsm_kind (pc := 148) d_M_typesAt_148 (vp_in_nI (by omega) (by decide)) ?_
        refine g_iinc (pc := 149) (v := nI (p + m) + (-1)) [(2, _), (5, _), (4, _), (3, _), (0, _), (1, _)] d_M_typesAt_149 rfl rfl (by decide) rfl ?_
        refine g_goto (pc := 152) (tgt := 8) d_M_typesAt_152 (by decide) ?_
        refine g_pick [0, 4, 5] [(2, _), (0, _), (1, _)] rfl ?_
        exact fin _ (by rw [l0 (Or.inr (by omega))])
  have := key row.length r (Nat.le_refl _) (fun k y hk hy => absurd (List.getElem?_eq_some_iff.mp hy).1 (by omega)) (fun _ _ => rfl)
  rw [show p + row.length = (p + row.length - 1) + 1 by omega, pk_m1] at this
  refine pC.of rfl (Nat.le_of_ble_eq_true rfl) ?_
  show pG m_M_typesAt τ _ 0 0 0 [(0, _), (1, _)] [] _
  refine g_aload_n (pc := 0) d_M_typesAt_0 rfl ?_
  refine g_iload_n (pc := 1) d_M_typesAt_1 rfl ?_
  refine g_callV (M' := m_M_end) (pc := 2) (q := 0) d_M_typesAt_2 lm_M_55 (c_M_end p row h) v_M_end rfl rfl rfl (by decide) rfl (Nat.le_of_ble_eq_true rfl) ?_
  rintro _ _ ⟨rfl, rfl⟩
  show pG m_M_typesAt τ _ 0 0 5 _ (.int _ :: _) _
  refine g_iconst (pc := 5) (v := nI 1) d_M_typesAt_5 (by decide) ?_
  refine g_nsub (pc := 6) d_M_typesAt_6 (by omega) ?_
  refine g_istore_n (pc := 7) [(2, _), (0, _), (1, _)] d_M_typesAt_7 (by decide) rfl ?_
  exact this
theorem MW_add {d : List Nat} {i i2 : Nat → Int32} {r r2 : Nat → Nat → Int32} {x : Nat} (h : MW d i r) (hi : i2 0 = nI (d.length + 1)) (hr : r2 0 = upd (r 0) (1920 + d.length) (nI (mu x))) : MW (d ++ [x]) i2 r2 := by
  refine ⟨by rw [hi]; simp, fun j y hj => ?_⟩
  rw [List.map_append] at hj
  rw [hr]
  by_cases c : j < d.length
  · rw [List.getElem?_append_left (by simp; exact c)] at hj
    rw [pk_un (by omega)]
    exact h.2 j y hj
  · rw [List.getElem?_append_right (by simp; omega)] at hj
    have hz := (List.getElem?_eq_some_iff.mp hj).1
    simp at hz
    have hj2 : j = d.length := by omega
    subst hj2
    simp at hj
    rw [pk_us, ← hj]
    exact ⟨rfl, mu_lt x⟩
set_option maxRecDepth 100000 in
set_option maxHeartbeats 4000000 in
theorem c_M_put {τ : Nat × Nat} {a : Nat → Nat} {i : Nat → Int32} {r : Nat → Nat → Int32} {L : Nat → Nat → Int64} {z : Int64} {wr : pW} (d : List Nat) (x : Nat) (h : MW d i r) (hb : d.length < 1100) : pC m_M_put τ [.ref (a 0), .int (nI (mu x))] (wM a i r L z ++ wr) ((fun rr w2 => ∃ i2 r2, rr = none ∧ w2 = wM a i2 r2 L z ++ wr ∧ MW (d ++ [x]) i2 r2 ∧ MK i r i2 r2)) := by
  refine pC.of rfl (Nat.le_of_ble_eq_true rfl) ?_
  show pG m_M_put τ _ 0 0 0 [(0, _), (1, _)] [] _
  refine g_aload_n (pc := 0) d_M_put_0 rfl ?_
  refine gm_row (pc := 1) d_M_put_1 lf_M_7 ?_
  refine g_sipush (pc := 4) (v := nI 1920) d_M_put_4 (by decide) ?_
  refine g_aload_n (pc := 7) d_M_put_7 rfl ?_
  refine gm_made (pc := 8) d_M_put_8 lf_M_65 ?_
  rw [h.1]
  refine g_nadd (pc := 11) d_M_put_11 ?_
  refine g_iload_n (pc := 12) d_M_put_12 rfl ?_
  refine gsm_row (pc := 13) d_M_put_13 (vp_in_nI (by omega) (by decide)) ?_
  refine g_aload_n (pc := 14) d_M_put_14 rfl ?_
  refine g_dup (pc := 15) d_M_put_15 rfl ?_
  refine gm_made (pc := 16) d_M_put_16 lf_M_65 ?_
  rw [h.1]
  refine g_iconst (pc := 19) (v := nI 1) d_M_put_19 (by decide) ?_
  refine g_nadd (pc := 20) d_M_put_20 ?_
  refine gm_made_p (pc := 21) d_M_put_21 lf_M_65 ?_
  refine g_vret (pc := 24) d_M_put_24 rfl (Nat.le_refl _) (Nat.le_refl _) ?_
  exact ⟨_, _, rfl, rfl, MW_add h (by rw [pk_us]) (by rw [up_s, nI_clamp (by omega)]), fun j hj => pk_un hj, fun j hj => up_n hj, fun k hk => by rw [up_s, nI_clamp (by omega), pk_un (by omega)]⟩
set_option maxRecDepth 100000 in
set_option maxHeartbeats 4000000 in
theorem c_M_copy {τ : Nat × Nat} {a : Nat → Nat} {i : Nat → Int32} {r : Nat → Nat → Int32} {L : Nat → Nat → Int64} {z : Int64} {wr : pW} (d : List Nat) (p : Nat) (row : List Nat) (hd : MW d i r) (h : MA (r 0) p row) (hp : p + row.length ≤ 1920) (hb : d.length + row.length < 1100) : pC m_M_copy τ [.ref (a 0), .int (nI p)] (wM a i r L z ++ wr) ((fun rr w2 => ∃ i2 r2, rr = none ∧ w2 = wM a i2 r2 L z ++ wr ∧ MW (d ++ row) i2 r2 ∧ MK i r i2 r2)) := by
  have key : ∀ (rest : List Nat) (k : Nat) (d1 : List Nat) (i1 : Nat → Int32) (r1 : Nat → Nat → Int32), k + rest.length = p + row.length → Seg (r1 0) k (rest.map mu) → MW d1 i1 r1 → MK i r i1 r1 → d1 ++ rest = d ++ row → pG m_M_copy τ (fun rr w2 => ∃ i2 r2, rr = none ∧ w2 = wM a i2 r2 L z ++ wr ∧ MW (d ++ row) i2 r2 ∧ MK i r i2 r2) 0 0 8 [(3, .int (nI k)), (2, .int (nI (p + row.length))), (0, .ref (a 0)), (1, .int (nI p))] [] (wM a i1 r1 L z ++ wr) := by
    intro rest
    induction rest with
    | nil =>
      intro k d1 i1 r1 he hsg hx hdk hc
      have he : k = p + row.length := he
      rw [List.append_nil] at hc
      refine g_iload_n (pc := 8) d_M_copy_8 rfl ?_
      refine g_iload_n (pc := 9) d_M_copy_9 rfl ?_
      refine g_nicmp_ge (pc := 10) (tgt := 29) d_M_copy_10 (by decide) (by omega) (by omega) (fun h10 => ?_) (fun h => absurd h (by omega))
      refine g_vret (pc := 29) d_M_copy_29 rfl (Nat.le_refl _) (Nat.le_refl _) ?_
      exact ⟨i1, r1, rfl, rfl, by rw [← hc]; exact hx, hdk⟩
    | cons t rest ih =>
      intro k d1 i1 r1 he hsg hx hdk hc
      obtain ⟨⟨ht1, ht2⟩, hsg2⟩ := Seg_cons (show Seg (r1 0) k (mu t :: rest.map mu) from hsg)
      have he2 : k + 1 + rest.length = p + row.length := by simp at he; omega
      have hlen := congrArg List.length hc
      simp only [List.length_append, List.length_cons] at hlen
      refine g_iload_n (pc := 8) d_M_copy_8 rfl ?_
      refine g_iload_n (pc := 9) d_M_copy_9 rfl ?_
      refine g_nicmp_ge (pc := 10) (tgt := 29) d_M_copy_10 (by decide) (by omega) (by omega) (fun h => absurd h (by omega)) (fun h10 => ?_)
      refine g_aload_n (pc := 13) d_M_copy_13 rfl ?_
      refine g_aload_n (pc := 14) d_M_copy_14 rfl ?_
      refine gm_row (pc := 15) d_M_copy_15 lf_M_7 ?_
      refine g_iload_n (pc := 18) d_M_copy_18 rfl ?_
      refine glm_row (pc := 19) (v := nI (mu t)) d_M_copy_19 (vp_in_nI (by omega) (by decide)) (by rw [nI_clamp (by omega)]; exact ht1) ?_
      refine g_callV (M' := m_M_put) (pc := 20) (q := 0) d_M_copy_20 lm_M_68 (c_M_put d1 t hx (by omega)) v_M_put rfl rfl rfl (by decide) rfl (Nat.le_of_ble_eq_true rfl) ?_
      rintro _ _ ⟨i2, r2, rfl, rfl, hx2, hk2⟩
      show pG m_M_copy τ _ 0 0 23 _ _ _
      refine g_niinc (pc := 23) (d := 1) [(3, _), (2, _), (0, _), (1, _)] d_M_copy_23 rfl (by decide) rfl ?_
      refine g_goto (pc := 26) (tgt := 8) d_M_copy_26 (by decide) ?_
      exact ih (k + 1) (d1 ++ [t]) i2 r2 he2 (hsg2.mv (n := 1920) (by rw [List.length_map]; omega) hk2.2.2) hx2 (hdk.tr hk2) (by rw [List.append_assoc]; exact hc)
  refine pC.of rfl (Nat.le_of_ble_eq_true rfl) ?_
  show pG m_M_copy τ _ 0 0 0 [(0, _), (1, _)] [] _
  refine g_aload_n (pc := 0) d_M_copy_0 rfl ?_
  refine g_iload_n (pc := 1) d_M_copy_1 rfl ?_
  refine g_callV (M' := m_M_end) (pc := 2) (q := 0) d_M_copy_2 lm_M_55 (c_M_end p row h) v_M_end rfl rfl rfl (by decide) rfl (Nat.le_of_ble_eq_true rfl) ?_
  rintro _ _ ⟨rfl, rfl⟩
  show pG m_M_copy τ _ 0 0 5 _ (.int _ :: _) _
  refine g_istore_n (pc := 5) [(2, _), (0, _), (1, _)] d_M_copy_5 (by decide) rfl ?_
  refine g_iload_n (pc := 6) d_M_copy_6 rfl ?_
  refine g_istore_n (pc := 7) [(3, _), (2, _), (0, _), (1, _)] d_M_copy_7 (by decide) rfl ?_
  refine g_pick [0, 1, 2, 3] [(3, _), (2, _), (0, _), (1, _)] rfl ?_
  exact key row p d i r rfl h.1 hd MK.rf rfl
theorem mu_eq {x v : Nat} (hx : GT x) (hv : GT v) (h0 : v / 512 = 0) : mu x = mu v ↔ x = v := ⟨fun e => ((mu_tag hv hx e.symm).2.2 h0).symm, fun e => by rw [e]⟩
theorem mu_pl {d y : Nat} (hd : d < 32) (hy : y < 16) : mu (tok 2 d y) = 256 + d := by
  unfold mu
  rw [tok_tg hd hy, tok_in hd hy]
  rfl
set_option maxRecDepth 100000 in
set_option maxHeartbeats 4000000 in
theorem c_M_copyWith_0 {τ : Nat × Nat} {a : Nat → Nat} {i : Nat → Int32} {r : Nat → Nat → Int32} {L : Nat → Nat → Int64} {z : Int64} {wr : pW} (d : List Nat) (p v : Nat) (row : List Nat) (hd : MW d i r) (h : MA (r 0) p row) (hp : p + row.length ≤ 1920) (hv : GT v) (hv0 : v / 512 = 0) (hb : d.length + row.length < 1100) : pC m_M_copyWith τ [.ref (a 0), .int (nI p), .int (nI (mu v)), .int (-1)] (wM a i r L z ++ wr) ((fun rr w2 => ∃ i2 r2, rr = none ∧ w2 = wM a i2 r2 L z ++ wr ∧ MW (d ++ cls v [0] row) i2 r2 ∧ MK i r i2 r2)) := by
  have h30 := h.2.2.2.2
  have hmv := mu_lt v
  have key : ∀ (rest pre d1 sk : List Nat) (i1 : Nat → Int32) (r1 : Nat → Nat → Int32), row = pre ++ rest → skA [0] row pre.length = sk → MW d1 i1 r1 → MK i r i1 r1 → d1 ++ cls v sk rest = d ++ cls v [0] row → d1.length + rest.length < 1100 → pG m_M_copyWith τ (fun rr w2 => ∃ i2 r2, rr = none ∧ w2 = wM a i2 r2 L z ++ wr ∧ MW (d ++ cls v [0] row) i2 r2 ∧ MK i r i2 r2) 0 0 10 [(5, .int (nI (p + pre.length))), (4, .int (nI (p + row.length))), (0, .ref (a 0)), (1, .int (nI p)), (2, .int (nI (mu v))), (3, .int (-1))] [] (wM a i1 r1 L z ++ wr) := by
    intro rest
    induction rest with
    | nil =>
      intro pre d1 sk i1 r1 hsp hsk hx hdk hc hb1
      have hpl : row.length = pre.length := by rw [hsp]; simp
      have hc : d1 ++ [] = d ++ cls v [0] row := by rw [← hc]; cases sk <;> rfl
      rw [List.append_nil] at hc
      refine g_iload (pc := 10) d_M_copyWith_10 rfl ?_
      refine g_iload (pc := 12) d_M_copyWith_12 rfl ?_
      refine g_nicmp_ge (pc := 14) (tgt := 75) d_M_copyWith_14 (by decide) (by omega) (by omega) (fun h14 => ?_) (fun h => absurd h (by omega))
      refine g_vret (pc := 75) d_M_copyWith_75 rfl (Nat.le_refl _) (Nat.le_refl _) ?_
      exact ⟨i1, r1, rfl, rfl, by rw [← hc]; exact hx, hdk⟩
    | cons t rest ih =>
      intro pre d1 sk i1 r1 hsp hsk hx hdk hc hb1
      have hpl : row.length = pre.length + 1 + rest.length := by rw [hsp]; simp; omega
      have htj : row[pre.length]? = some t := by rw [hsp]; simp
      have hh : MA (r1 0) p row := h.mv hp hdk.2.2
      obtain ⟨ht1, ht2, ht3, ht4⟩ := hh.get htj
      have hlt : pre.length < row.length := by omega
      obtain ⟨s, hs⟩ := skA_hd h.2.1 hlt
      have hEl := @EP_len row pre.length pre.length
      generalize hdd : (EP row pre.length pre.length).length = dd at hs hEl
      rw [hs] at hsk
      subst hsk
      have hsk2 : skA [0] row (pre ++ [t]).length = nxt t dd s := by
        rw [List.length_append, hsp]
        rw [hsp] at hs
        exact skA_cons hs
      have hpp : p + pre.length + 1 = p + (pre ++ [t]).length := by simp; omega
      simp only [List.length_cons] at hb1
      refine g_iload (pc := 10) d_M_copyWith_10 rfl ?_
      refine g_iload (pc := 12) d_M_copyWith_12 rfl ?_
      refine g_nicmp_ge (pc := 14) (tgt := 75) d_M_copyWith_14 (by decide) (by omega) (by omega) (fun h => absurd h (by omega)) (fun h14 => ?_)
      refine g_aload_n (pc := 17) d_M_copyWith_17 rfl ?_
      refine gm_row (pc := 18) d_M_copyWith_18 lf_M_7 ?_
      refine g_iload (pc := 21) d_M_copyWith_21 rfl ?_
      refine glm_row (pc := 23) (v := nI (mu t)) d_M_copyWith_23 (vp_in_nI (by omega) (by decide)) (by rw [nI_clamp (by omega)]; exact ht1) ?_
      refine g_iload_n (pc := 24) d_M_copyWith_24 rfl ?_
      refine g_nicmp_eq (pc := 25) (tgt := 42) d_M_copyWith_25 (by decide) (by omega) (by omega) (fun h25 => ?_) (fun h25 => ?_)
      · have htv : t = v := (mu_eq ht2 hv hv0).mp h25
        refine g_iload_n (pc := 42) d_M_copyWith_42 rfl ?_
        refine g_if_lt (pc := 43) (tgt := 54) d_M_copyWith_43 (by decide) (fun h43 => ?_) (fun h => absurd (by decide) h)
        refine g_aload_n (pc := 54) d_M_copyWith_54 rfl ?_
        refine g_sipush (pc := 55) (v := nI 256) d_M_copyWith_55 (by decide) ?_
        refine g_aload_n (pc := 58) d_M_copyWith_58 rfl ?_
        refine g_iload_n (pc := 59) d_M_copyWith_59 rfl ?_
        refine g_iload (pc := 60) d_M_copyWith_60 rfl ?_
        refine g_callV (M' := m_M_depth) (pc := 62) (q := 0) d_M_copyWith_62 lm_M_75 (c_M_depth p pre.length row hh hlt) v_M_depth rfl rfl rfl (by decide) rfl (Nat.le_of_ble_eq_true rfl) ?_
        rintro _ _ ⟨rfl, rfl⟩
        show pG m_M_copyWith τ _ 0 0 65 _ (.int _ :: _) _
        refine g_nadd (pc := 65) d_M_copyWith_65 ?_
        rw [hdd, show 256 + dd = mu (tok 2 dd (v % 16)) from (mu_pl (by omega) (by omega)).symm]
        refine g_callV (M' := m_M_put) (pc := 66) (q := 0) d_M_copyWith_66 lm_M_68 (c_M_put d1 (tok 2 dd (v % 16)) hx (by omega)) v_M_put rfl rfl rfl (by decide) rfl (Nat.le_of_ble_eq_true rfl) ?_
        rintro _ _ ⟨i2, r2, rfl, rfl, hx2, hk2⟩
        show pG m_M_copyWith τ _ 0 0 69 _ _ _
        refine g_niinc (pc := 69) (d := 1) [(5, _), (4, _), (0, _), (1, _), (2, _), (3, _)] d_M_copyWith_69 rfl (by decide) rfl ?_
        refine g_goto (pc := 72) (tgt := 10) d_M_copyWith_72 (by decide) ?_
        refine g_pick [0, 1, 2, 3, 4, 5] [(5, _), (4, _), (0, _), (1, _), (2, _), (3, _)] rfl ?_
        rw [hpp]
        exact ih (pre ++ [t]) _ _ i2 r2 (by rw [hsp]; simp) hsk2 hx2 (hdk.tr hk2) (by rw [List.append_assoc, ← hc]; simp [cls, htv]) (by simp; omega)
      · have htv : t ≠ v := fun q => h25 (by rw [q])
        refine g_aload_n (pc := 28) d_M_copyWith_28 rfl ?_
        refine g_aload_n (pc := 29) d_M_copyWith_29 rfl ?_
        refine gm_row (pc := 30) d_M_copyWith_30 lf_M_7 ?_
        refine g_iload (pc := 33) d_M_copyWith_33 rfl ?_
        refine glm_row (pc := 35) (v := nI (mu t)) d_M_copyWith_35 (vp_in_nI (by omega) (by decide)) (by rw [nI_clamp (by omega)]; exact ht1) ?_
        refine g_callV (M' := m_M_put) (pc := 36) (q := 0) d_M_copyWith_36 lm_M_68 (c_M_put d1 t hx (by omega)) v_M_put rfl rfl rfl (by decide) rfl (Nat.le_of_ble_eq_true rfl) ?_
        rintro _ _ ⟨i2, r2, rfl, rfl, hx2, hk2⟩
        show pG m_M_copyWith τ _ 0 0 39 _ _ _
        refine g_goto (pc := 39) (tgt := 69) d_M_copyWith_39 (by decide) ?_
        refine g_niinc (pc := 69) (d := 1) [(5, _), (4, _), (0, _), (1, _), (2, _), (3, _)] d_M_copyWith_69 rfl (by decide) rfl ?_
        refine g_goto (pc := 72) (tgt := 10) d_M_copyWith_72 (by decide) ?_
        refine g_pick [0, 1, 2, 3, 4, 5] [(5, _), (4, _), (0, _), (1, _), (2, _), (3, _)] rfl ?_
        rw [hpp]
        exact ih (pre ++ [t]) _ _ i2 r2 (by rw [hsp]; simp) hsk2 hx2 (hdk.tr hk2) (by rw [List.append_assoc, ← hc]; simp [cls, htv]) (by simp; omega)
  refine pC.of rfl (Nat.le_of_ble_eq_true rfl) ?_
  show pG m_M_copyWith τ _ 0 0 0 [(0, _), (1, _), (2, _), (3, _)] [] _
  refine g_aload_n (pc := 0) d_M_copyWith_0 rfl ?_
  refine g_iload_n (pc := 1) d_M_copyWith_1 rfl ?_
  refine g_callV (M' := m_M_end) (pc := 2) (q := 0) d_M_copyWith_2 lm_M_55 (c_M_end p row h) v_M_end rfl rfl rfl (by decide) rfl (Nat.le_of_ble_eq_true rfl) ?_
  rintro _ _ ⟨rfl, rfl⟩
  show pG m_M_copyWith τ _ 0 0 5 _ (.int _ :: _) _
  refine g_istore (pc := 5) [(4, _), (0, _), (1, _), (2, _), (3, _)] d_M_copyWith_5 (by decide) rfl ?_
  refine g_iload_n (pc := 7) d_M_copyWith_7 rfl ?_
  refine g_istore (pc := 8) [(5, _), (4, _), (0, _), (1, _), (2, _), (3, _)] d_M_copyWith_8 (by decide) rfl ?_
  refine g_pick [0, 1, 2, 3, 4, 5] [(5, _), (4, _), (0, _), (1, _), (2, _), (3, _)] rfl ?_
  exact key row [] d [0] i r rfl (skA_0 _ _) hd MK.rf rfl hb
set_option maxRecDepth 100000 in
set_option maxHeartbeats 4000000 in
theorem c_M_copyWith_1 {τ : Nat × Nat} {a : Nat → Nat} {i : Nat → Int32} {r : Nat → Nat → Int32} {L : Nat → Nat → Int64} {z : Int64} {wr : pW} (d : List Nat) (p v pf : Nat) (row f : List Nat) (hd : MW d i r) (h : MA (r 0) p row) (hp : p + row.length ≤ 1920) (hf : MA (r 0) pf f) (hpf : pf + f.length ≤ 1920) (hv : GT v) (hv0 : v / 512 = 0) (hb : d.length + 30 * row.length < 1100) : pC m_M_copyWith τ [.ref (a 0), .int (nI p), .int (nI (mu v)), .int (nI pf)] (wM a i r L z ++ wr) ((fun rr w2 => ∃ i2 r2, rr = none ∧ w2 = wM a i2 r2 L z ++ wr ∧ MW (d ++ rpl v f row) i2 r2 ∧ MK i r i2 r2)) := by
  have h30 := h.2.2.2.2
  have hf30 := hf.2.2.2.2
  have hmv := mu_lt v
  have key : ∀ (rest pre d1 : List Nat) (i1 : Nat → Int32) (r1 : Nat → Nat → Int32), row = pre ++ rest → MW d1 i1 r1 → MK i r i1 r1 → d1 ++ rpl v f rest = d ++ rpl v f row → d1.length + 30 * rest.length < 1100 → pG m_M_copyWith τ (fun rr w2 => ∃ i2 r2, rr = none ∧ w2 = wM a i2 r2 L z ++ wr ∧ MW (d ++ rpl v f row) i2 r2 ∧ MK i r i2 r2) 0 0 10 [(5, .int (nI (p + pre.length))), (4, .int (nI (p + row.length))), (0, .ref (a 0)), (1, .int (nI p)), (2, .int (nI (mu v))), (3, .int (nI pf))] [] (wM a i1 r1 L z ++ wr) := by
    intro rest
    induction rest with
    | nil =>
      intro pre d1 i1 r1 hsp hx hdk hc hb1
      have hpl : row.length = pre.length := by rw [hsp]; simp
      have hc : d1 ++ [] = d ++ rpl v f row := hc
      rw [List.append_nil] at hc
      refine g_iload (pc := 10) d_M_copyWith_10 rfl ?_
      refine g_iload (pc := 12) d_M_copyWith_12 rfl ?_
      refine g_nicmp_ge (pc := 14) (tgt := 75) d_M_copyWith_14 (by decide) (by omega) (by omega) (fun h14 => ?_) (fun h => absurd h (by omega))
      refine g_vret (pc := 75) d_M_copyWith_75 rfl (Nat.le_refl _) (Nat.le_refl _) ?_
      exact ⟨i1, r1, rfl, rfl, by rw [← hc]; exact hx, hdk⟩
    | cons t rest ih =>
      intro pre d1 i1 r1 hsp hx hdk hc hb1
      have hpl : row.length = pre.length + 1 + rest.length := by rw [hsp]; simp; omega
      have htj : row[pre.length]? = some t := by rw [hsp]; simp
      have hh : MA (r1 0) p row := h.mv hp hdk.2.2
      obtain ⟨ht1, ht2, ht3, ht4⟩ := hh.get htj
      have hpp : p + pre.length + 1 = p + (pre ++ [t]).length := by simp; omega
      simp only [List.length_cons] at hb1
      refine g_iload (pc := 10) d_M_copyWith_10 rfl ?_
      refine g_iload (pc := 12) d_M_copyWith_12 rfl ?_
      refine g_nicmp_ge (pc := 14) (tgt := 75) d_M_copyWith_14 (by decide) (by omega) (by omega) (fun h => absurd h (by omega)) (fun h14 => ?_)
      refine g_aload_n (pc := 17) d_M_copyWith_17 rfl ?_
      refine gm_row (pc := 18) d_M_copyWith_18 lf_M_7 ?_
      refine g_iload (pc := 21) d_M_copyWith_21 rfl ?_
      refine glm_row (pc := 23) (v := nI (mu t)) d_M_copyWith_23 (vp_in_nI (by omega) (by decide)) (by rw [nI_clamp (by omega)]; exact ht1) ?_
      refine g_iload_n (pc := 24) d_M_copyWith_24 rfl ?_
      refine g_nicmp_eq (pc := 25) (tgt := 42) d_M_copyWith_25 (by decide) (by omega) (by omega) (fun h25 => ?_) (fun h25 => ?_)
      · have htv : t = v := (mu_eq ht2 hv hv0).mp h25
        refine g_iload_n (pc := 42) d_M_copyWith_42 rfl ?_
        refine g_nif_lt (pc := 43) (tgt := 54) d_M_copyWith_43 (by decide) (by omega) ?_
        refine g_aload_n (pc := 46) d_M_copyWith_46 rfl ?_
        refine g_iload_n (pc := 47) d_M_copyWith_47 rfl ?_
        refine g_callV (M' := m_M_copy) (pc := 48) (q := 0) d_M_copyWith_48 lm_M_72 (c_M_copy d1 pf f hx (hf.mv hpf hdk.2.2) hpf (by omega)) v_M_copy rfl rfl rfl (by decide) rfl (Nat.le_of_ble_eq_true rfl) ?_
        rintro _ _ ⟨i2, r2, rfl, rfl, hx2, hk2⟩
        show pG m_M_copyWith τ _ 0 0 51 _ _ _
        refine g_goto (pc := 51) (tgt := 69) d_M_copyWith_51 (by decide) ?_
        refine g_niinc (pc := 69) (d := 1) [(5, _), (4, _), (0, _), (1, _), (2, _), (3, _)] d_M_copyWith_69 rfl (by decide) rfl ?_
        refine g_goto (pc := 72) (tgt := 10) d_M_copyWith_72 (by decide) ?_
        refine g_pick [0, 1, 2, 3, 4, 5] [(5, _), (4, _), (0, _), (1, _), (2, _), (3, _)] rfl ?_
        rw [hpp]
        exact ih (pre ++ [t]) _ i2 r2 (by rw [hsp]; simp) hx2 (hdk.tr hk2) (by rw [List.append_assoc, ← hc]; simp [rpl, htv]) (by simp; omega)
      · have htv : t ≠ v := fun q => h25 (by rw [q])
        refine g_aload_n (pc := 28) d_M_copyWith_28 rfl ?_
        refine g_aload_n (pc := 29) d_M_copyWith_29 rfl ?_
        refine gm_row (pc := 30) d_M_copyWith_30 lf_M_7 ?_
        refine g_iload (pc := 33) d_M_copyWith_33 rfl ?_
        refine glm_row (pc := 35) (v := nI (mu t)) d_M_copyWith_35 (vp_in_nI (by omega) (by decide)) (by rw [nI_clamp (by omega)]; exact ht1) ?_
        refine g_callV (M' := m_M_put) (pc := 36) (q := 0) d_M_copyWith_36 lm_M_68 (c_M_put d1 t hx (by omega)) v_M_put rfl rfl rfl (by decide) rfl (Nat.le_of_ble_eq_true rfl) ?_
        rintro _ _ ⟨i2, r2, rfl, rfl, hx2, hk2⟩
        show pG m_M_copyWith τ _ 0 0 39 _ _ _
        refine g_goto (pc := 39) (tgt := 69) d_M_copyWith_39 (by decide) ?_
        refine g_niinc (pc := 69) (d := 1) [(5, _), (4, _), (0, _), (1, _), (2, _), (3, _)] d_M_copyWith_69 rfl (by decide) rfl ?_
        refine g_goto (pc := 72) (tgt := 10) d_M_copyWith_72 (by decide) ?_
        refine g_pick [0, 1, 2, 3, 4, 5] [(5, _), (4, _), (0, _), (1, _), (2, _), (3, _)] rfl ?_
        rw [hpp]
        exact ih (pre ++ [t]) _ i2 r2 (by rw [hsp]; simp) hx2 (hdk.tr hk2) (by rw [List.append_assoc, ← hc]; simp [rpl, htv]) (by simp; omega)
  refine pC.of rfl (Nat.le_of_ble_eq_true rfl) ?_
  show pG m_M_copyWith τ _ 0 0 0 [(0, _), (1, _), (2, _), (3, _)] [] _
  refine g_aload_n (pc := 0) d_M_copyWith_0 rfl ?_
  refine g_iload_n (pc := 1) d_M_copyWith_1 rfl ?_
  refine g_callV (M' := m_M_end) (pc := 2) (q := 0) d_M_copyWith_2 lm_M_55 (c_M_end p row h) v_M_end rfl rfl rfl (by decide) rfl (Nat.le_of_ble_eq_true rfl) ?_
  rintro _ _ ⟨rfl, rfl⟩
  show pG m_M_copyWith τ _ 0 0 5 _ (.int _ :: _) _
  refine g_istore (pc := 5) [(4, _), (0, _), (1, _), (2, _), (3, _)] d_M_copyWith_5 (by decide) rfl ?_
  refine g_iload_n (pc := 7) d_M_copyWith_7 rfl ?_
  refine g_istore (pc := 8) [(5, _), (4, _), (0, _), (1, _), (2, _), (3, _)] d_M_copyWith_8 (by decide) rfl ?_
  refine g_pick [0, 1, 2, 3, 4, 5] [(5, _), (4, _), (0, _), (1, _), (2, _), (3, _)] rfl ?_
  exact key row [] d i r rfl hd MK.rf rfl hb
set_option maxRecDepth 100000 in
set_option maxHeartbeats 4000000 in
theorem c_M_copyOpened {τ : Nat × Nat} {a : Nat → Nat} {i : Nat → Int32} {r : Nat → Nat → Int32} {L : Nat → Nat → Int64} {z : Int64} {wr : pW} (d : List Nat) (p pf : Nat) (row f : List Nat) (hd : MW d i r) (h : MA (r 0) p row) (hp : p + row.length ≤ 1920) (hf : MA (r 0) pf f) (hpf : pf + f.length ≤ 1920) (hb : d.length + 30 * row.length < 1100) : pC m_M_copyOpened τ [.ref (a 0), .int (nI p), .int (nI pf)] (wM a i r L z ++ wr) ((fun rr w2 => ∃ i2 r2, rr = none ∧ w2 = wM a i2 r2 L z ++ wr ∧ MW (d ++ fil f [0] row) i2 r2 ∧ MK i r i2 r2)) := by
  have h30 := h.2.2.2.2
  have hf30 := hf.2.2.2.2
  have key : ∀ (rest pre d1 sk : List Nat) (i1 : Nat → Int32) (r1 : Nat → Nat → Int32), row = pre ++ rest → skA [0] row pre.length = sk → MW d1 i1 r1 → MK i r i1 r1 → d1 ++ fil f sk rest = d ++ fil f [0] row → d1.length + 30 * rest.length < 1100 → pG m_M_copyOpened τ (fun rr w2 => ∃ i2 r2, rr = none ∧ w2 = wM a i2 r2 L z ++ wr ∧ MW (d ++ fil f [0] row) i2 r2 ∧ MK i r i2 r2) 0 0 9 [(4, .int (nI (p + pre.length))), (3, .int (nI (p + row.length))), (0, .ref (a 0)), (1, .int (nI p)), (2, .int (nI pf))] [] (wM a i1 r1 L z ++ wr) := by
    intro rest
    induction rest with
    | nil =>
      intro pre d1 sk i1 r1 hsp hsk hx hdk hc hb1
      have hpl : row.length = pre.length := by rw [hsp]; simp
      have hc : d1 ++ [] = d ++ fil f [0] row := by rw [← hc]; cases sk <;> rfl
      rw [List.append_nil] at hc
      refine g_iload (pc := 9) d_M_copyOpened_9 rfl ?_
      refine g_iload_n (pc := 11) d_M_copyOpened_11 rfl ?_
      refine g_nicmp_ge (pc := 12) (tgt := 74) d_M_copyOpened_12 (by decide) (by omega) (by omega) (fun h12 => ?_) (fun h => absurd h (by omega))
      refine g_vret (pc := 74) d_M_copyOpened_74 rfl (Nat.le_refl _) (Nat.le_refl _) ?_
      exact ⟨i1, r1, rfl, rfl, by rw [← hc]; exact hx, hdk⟩
    | cons t rest ih =>
      intro pre d1 sk i1 r1 hsp hsk hx hdk hc hb1
      have hpl : row.length = pre.length + 1 + rest.length := by rw [hsp]; simp; omega
      have htj : row[pre.length]? = some t := by rw [hsp]; simp
      have hh : MA (r1 0) p row := h.mv hp hdk.2.2
      obtain ⟨ht1, ht2, ht3, ht4⟩ := hh.get htj
      have hlt : pre.length < row.length := by omega
      obtain ⟨s, hs⟩ := skA_hd h.2.1 hlt
      have hEl := @EP_len row pre.length pre.length
      generalize hdd : (EP row pre.length pre.length).length = dd at hs hEl
      rw [hs] at hsk
      subst hsk
      have hsk2 : skA [0] row (pre ++ [t]).length = nxt t dd s := by
        rw [List.length_append, hsp]
        rw [hsp] at hs
        exact skA_cons hs
      have hpp : p + pre.length + 1 = p + (pre ++ [t]).length := by simp; omega
      simp only [List.length_cons] at hb1
      have hpl2 := mu_place ht2
      refine g_iload (pc := 9) d_M_copyOpened_9 rfl ?_
      refine g_iload_n (pc := 11) d_M_copyOpened_11 rfl ?_
      refine g_nicmp_ge (pc := 12) (tgt := 74) d_M_copyOpened_12 (by decide) (by omega) (by omega) (fun h => absurd h (by omega)) (fun h12 => ?_)
      refine g_aload_n (pc := 15) d_M_copyOpened_15 rfl ?_
      refine gm_row (pc := 16) d_M_copyOpened_16 lf_M_7 ?_
      refine g_iload (pc := 19) d_M_copyOpened_19 rfl ?_
      refine glm_row (pc := 21) (v := nI (mu t)) d_M_copyOpened_21 (vp_in_nI (by omega) (by decide)) (by rw [nI_clamp (by omega)]; exact ht1) ?_
      refine g_sipush (pc := 22) (v := nI 256) d_M_copyOpened_22 (by decide) ?_
      refine g_nicmp_lt (pc := 25) (tgt := 57) d_M_copyOpened_25 (by decide) (by omega) (by omega) (fun h25 => ?_) (fun h25 => ?_)
      · refine g_aload_n (pc := 57) d_M_copyOpened_57 rfl ?_
        refine g_aload_n (pc := 58) d_M_copyOpened_58 rfl ?_
        refine gm_row (pc := 59) d_M_copyOpened_59 lf_M_7 ?_
        refine g_iload (pc := 62) d_M_copyOpened_62 rfl ?_
        refine glm_row (pc := 64) (v := nI (mu t)) d_M_copyOpened_64 (vp_in_nI (by omega) (by decide)) (by rw [nI_clamp (by omega)]; exact ht1) ?_
        refine g_callV (M' := m_M_put) (pc := 65) (q := 0) d_M_copyOpened_65 lm_M_68 (c_M_put d1 t hx (by omega)) v_M_put rfl rfl rfl (by decide) rfl (Nat.le_of_ble_eq_true rfl) ?_
        rintro _ _ ⟨i2, r2, rfl, rfl, hx2, hk2⟩
        show pG m_M_copyOpened τ _ 0 0 68 _ _ _
        refine g_niinc (pc := 68) (d := 1) [(4, _), (3, _), (0, _), (1, _), (2, _)] d_M_copyOpened_68 rfl (by decide) rfl ?_
        refine g_goto (pc := 71) (tgt := 9) d_M_copyOpened_71 (by decide) ?_
        refine g_pick [0, 1, 2, 3, 4] [(4, _), (3, _), (0, _), (1, _), (2, _)] rfl ?_
        rw [hpp]
        exact ih (pre ++ [t]) _ _ i2 r2 (by rw [hsp]; simp) hsk2 hx2 (hdk.tr hk2) (by rw [List.append_assoc, ← hc]; first | (rw [fil, if_pos ⟨ht5, h46⟩]; done) | (rw [fil, if_neg (fun q => h46 q.2)]; done) | (rw [fil, if_neg (fun q => absurd (hpl2.mpr q.1) (by omega))]; done)) (by simp; omega)
      · refine g_aload_n (pc := 28) d_M_copyOpened_28 rfl ?_
        refine gm_row (pc := 29) d_M_copyOpened_29 lf_M_7 ?_
        refine g_iload (pc := 32) d_M_copyOpened_32 rfl ?_
        refine glm_row (pc := 34) (v := nI (mu t)) d_M_copyOpened_34 (vp_in_nI (by omega) (by decide)) (by rw [nI_clamp (by omega)]; exact ht1) ?_
        refine g_sipush (pc := 35) (v := nI 256) d_M_copyOpened_35 (by decide) ?_
        refine g_nsub (pc := 38) d_M_copyOpened_38 (by omega) ?_
        have ht5 := hpl2.mp h25
        rw [mu_info ht5]
        refine g_aload_n (pc := 39) d_M_copyOpened_39 rfl ?_
        refine g_iload_n (pc := 40) d_M_copyOpened_40 rfl ?_
        refine g_iload (pc := 41) d_M_copyOpened_41 rfl ?_
        refine g_callV (M' := m_M_depth) (pc := 43) (q := 0) d_M_copyOpened_43 lm_M_75 (c_M_depth p pre.length row hh hlt) v_M_depth rfl rfl rfl (by decide) rfl (Nat.le_of_ble_eq_true rfl) ?_
        rintro _ _ ⟨rfl, rfl⟩
        show pG m_M_copyOpened τ _ 0 0 46 _ (.int _ :: _) _
        rw [hdd]
        refine g_nicmp_ne (pc := 46) (tgt := 57) d_M_copyOpened_46 (by decide) (by omega) (by omega) (fun h46 => ?_) (fun h46 => ?_)
        · refine g_aload_n (pc := 57) d_M_copyOpened_57 rfl ?_
          refine g_aload_n (pc := 58) d_M_copyOpened_58 rfl ?_
          refine gm_row (pc := 59) d_M_copyOpened_59 lf_M_7 ?_
          refine g_iload (pc := 62) d_M_copyOpened_62 rfl ?_
          refine glm_row (pc := 64) (v := nI (mu t)) d_M_copyOpened_64 (vp_in_nI (by omega) (by decide)) (by rw [nI_clamp (by omega)]; exact ht1) ?_
          refine g_callV (M' := m_M_put) (pc := 65) (q := 0) d_M_copyOpened_65 lm_M_68 (c_M_put d1 t hx (by omega)) v_M_put rfl rfl rfl (by decide) rfl (Nat.le_of_ble_eq_true rfl) ?_
          rintro _ _ ⟨i2, r2, rfl, rfl, hx2, hk2⟩
          show pG m_M_copyOpened τ _ 0 0 68 _ _ _
          refine g_niinc (pc := 68) (d := 1) [(4, _), (3, _), (0, _), (1, _), (2, _)] d_M_copyOpened_68 rfl (by decide) rfl ?_
          refine g_goto (pc := 71) (tgt := 9) d_M_copyOpened_71 (by decide) ?_
          refine g_pick [0, 1, 2, 3, 4] [(4, _), (3, _), (0, _), (1, _), (2, _)] rfl ?_
          rw [hpp]
          exact ih (pre ++ [t]) _ _ i2 r2 (by rw [hsp]; simp) hsk2 hx2 (hdk.tr hk2) (by rw [List.append_assoc, ← hc]; first | (rw [fil, if_pos ⟨ht5, h46⟩]; done) | (rw [fil, if_neg (fun q => h46 q.2)]; done) | (rw [fil, if_neg (fun q => absurd (hpl2.mpr q.1) (by omega))]; done)) (by simp; omega)
        · refine g_aload_n (pc := 49) d_M_copyOpened_49 rfl ?_
          refine g_iload_n (pc := 50) d_M_copyOpened_50 rfl ?_
          refine g_callV (M' := m_M_copy) (pc := 51) (q := 0) d_M_copyOpened_51 lm_M_72 (c_M_copy d1 pf f hx (hf.mv hpf hdk.2.2) hpf (by omega)) v_M_copy rfl rfl rfl (by decide) rfl (Nat.le_of_ble_eq_true rfl) ?_
          rintro _ _ ⟨i2, r2, rfl, rfl, hx2, hk2⟩
          show pG m_M_copyOpened τ _ 0 0 54 _ _ _
          refine g_goto (pc := 54) (tgt := 68) d_M_copyOpened_54 (by decide) ?_
          refine g_niinc (pc := 68) (d := 1) [(4, _), (3, _), (0, _), (1, _), (2, _)] d_M_copyOpened_68 rfl (by decide) rfl ?_
          refine g_goto (pc := 71) (tgt := 9) d_M_copyOpened_71 (by decide) ?_
          refine g_pick [0, 1, 2, 3, 4] [(4, _), (3, _), (0, _), (1, _), (2, _)] rfl ?_
          rw [hpp]
          exact ih (pre ++ [t]) _ _ i2 r2 (by rw [hsp]; simp) hsk2 hx2 (hdk.tr hk2) (by rw [List.append_assoc, ← hc]; first | (rw [fil, if_pos ⟨ht5, h46⟩]; done) | (rw [fil, if_neg (fun q => h46 q.2)]; done) | (rw [fil, if_neg (fun q => absurd (hpl2.mpr q.1) (by omega))]; done)) (by simp; omega)
  refine pC.of rfl (Nat.le_of_ble_eq_true rfl) ?_
  show pG m_M_copyOpened τ _ 0 0 0 [(0, _), (1, _), (2, _)] [] _
  refine g_aload_n (pc := 0) d_M_copyOpened_0 rfl ?_
  refine g_iload_n (pc := 1) d_M_copyOpened_1 rfl ?_
  refine g_callV (M' := m_M_end) (pc := 2) (q := 0) d_M_copyOpened_2 lm_M_55 (c_M_end p row h) v_M_end rfl rfl rfl (by decide) rfl (Nat.le_of_ble_eq_true rfl) ?_
  rintro _ _ ⟨rfl, rfl⟩
  show pG m_M_copyOpened τ _ 0 0 5 _ (.int _ :: _) _
  refine g_istore_n (pc := 5) [(3, _), (0, _), (1, _), (2, _)] d_M_copyOpened_5 (by decide) rfl ?_
  refine g_iload_n (pc := 6) d_M_copyOpened_6 rfl ?_
  refine g_istore (pc := 7) [(4, _), (3, _), (0, _), (1, _), (2, _)] d_M_copyOpened_7 (by decide) rfl ?_
  refine g_pick [0, 1, 2, 3, 4] [(4, _), (3, _), (0, _), (1, _), (2, _)] rfl ?_
  exact key row [] d [0] i r rfl (skA_0 _ _) hd MK.rf rfl hb
set_option maxRecDepth 100000 in
set_option maxHeartbeats 4000000 in
theorem c_M_fits {τ : Nat × Nat} {a : Nat → Nat} {i : Nat → Int32} {r : Nat → Nat → Int32} {L : Nat → Nat → Int64} {z : Int64} {wr : pW} (f x : Nat) (hf : f < 16) : pC m_M_fits τ [.ref (a 0), .int (nI f), .int (nI x)] (wM a i r L z ++ wr) (fun rr w2 => rr = some (.int (bI (decide (2 < f ∧ r 4 f = nI x)))) ∧ w2 = wM a i r L z ++ wr) := by
  refine pC.of rfl (Nat.le_of_ble_eq_true rfl) ?_
  show pG m_M_fits τ _ 0 0 0 [(0, _), (1, _), (2, _)] [] _
  refine g_iload_n (pc := 0) d_M_fits_0 rfl ?_
  refine g_iconst (pc := 1) (v := nI 2) d_M_fits_1 (by decide) ?_
  refine g_nicmp_le (pc := 2) (tgt := 19) d_M_fits_2 (by decide) (by omega) (by omega) (fun h2 => ?_) (fun h2 => ?_)
  · refine g_iconst (pc := 19) (v := nI 0) d_M_fits_19 (by decide) ?_
    refine g_zret (pc := 20) d_M_fits_20 rfl (by decide) (Nat.le_refl _) (Nat.le_refl _) ?_
    refine ⟨congrArg (fun v => some (Value.int v)) ?_, rfl⟩
    first | exact bI_0_ (fun q => absurd q.1 (by omega)) | (rw [nI_clamp (by omega)] at h12; first | exact bI_1_ ⟨by omega, h12⟩ | exact bI_0_ (fun q => h12 q.2))
  · refine g_aload_n (pc := 5) d_M_fits_5 rfl ?_
    refine gm_from (pc := 6) d_M_fits_6 lf_M_26 ?_
    refine g_iload_n (pc := 9) d_M_fits_9 rfl ?_
    refine glm_from (pc := 10) d_M_fits_10 (vp_in_nI hf (by decide)) rfl ?_
    refine g_iload_n (pc := 11) d_M_fits_11 rfl ?_
    refine g_icmp_ne (pc := 12) (tgt := 19) d_M_fits_12 (by decide) (fun h12 => ?_) (fun h12 => ?_)
    · refine g_iconst (pc := 19) (v := nI 0) d_M_fits_19 (by decide) ?_
      refine g_zret (pc := 20) d_M_fits_20 rfl (by decide) (Nat.le_refl _) (Nat.le_refl _) ?_
      refine ⟨congrArg (fun v => some (Value.int v)) ?_, rfl⟩
      first | exact bI_0_ (fun q => absurd q.1 (by omega)) | (rw [nI_clamp (by omega)] at h12; first | exact bI_1_ ⟨by omega, h12⟩ | exact bI_0_ (fun q => h12 q.2))
    · refine g_iconst (pc := 15) (v := nI 1) d_M_fits_15 (by decide) ?_
      refine g_goto (pc := 16) (tgt := 20) d_M_fits_16 (by decide) ?_
      refine g_zret (pc := 20) d_M_fits_20 rfl (by decide) (Nat.le_refl _) (Nat.le_refl _) ?_
      refine ⟨congrArg (fun v => some (Value.int v)) ?_, rfl⟩
      first | exact bI_0_ (fun q => absurd q.1 (by omega)) | (rw [nI_clamp (by omega)] at h12; first | exact bI_1_ ⟨by omega, h12⟩ | exact bI_0_ (fun q => h12 q.2))
