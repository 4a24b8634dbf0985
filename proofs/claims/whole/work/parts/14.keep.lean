/-! Shelf.keep. By wip/whole/m_keep.py -/
def sKeep (Tm : List (List Nat)) (d : List Nat) : Int32 × List (List Nat) := if 30 < d.length then (-4, Tm) else match fnd Tm d with
  | some t => (nI t, Tm)
  | none => if Tm.length = 60 then (-4, Tm) else (nI Tm.length, Tm ++ [d])
theorem sKeep_big {Tm : List (List Nat)} {d : List Nat} (h : 30 < d.length) : sKeep Tm d = (-4, Tm) := by simp [sKeep, h]
theorem sKeep_at {Tm : List (List Nat)} {d : List Nat} {t : Nat} (h : ¬ 30 < d.length) (e : fnd Tm d = some t) : sKeep Tm d = (nI t, Tm) := by simp [sKeep, h, e]
theorem sKeep_full {Tm : List (List Nat)} {d : List Nat} (h : ¬ 30 < d.length) (e : fnd Tm d = none) (f : Tm.length = 60) : sKeep Tm d = (-4, Tm) := by simp [sKeep, h, e, f]
theorem sKeep_new {Tm : List (List Nat)} {d : List Nat} (h : ¬ 30 < d.length) (e : fnd Tm d = none) (f : Tm.length ≠ 60) : sKeep Tm d = (nI Tm.length, Tm ++ [d]) := by simp [sKeep, h, e, f]
theorem XS_add {Tm : List (List Nat)} {d : List Nat} {i i2 : Nat → Int32} {r r2 : Nat → Nat → Int32} (h : XS Tm i r) (hd : XD d i r) (h4 : ∀ x, x ∈ d → x < 4096) (hl : d.length ≤ 30) (hf : Tm.length ≠ 60) (hi : i2 1 = nI (Tm.length + 1)) (h3 : r2 3 = upd (r 3) Tm.length (nI d.length)) (h2 : r2 2 = va_cpy (r 4) (r 2) 0 (30 * Tm.length) d.length) : XS (Tm ++ [d]) i2 r2 := by
  obtain ⟨e1, e2, e3⟩ := h
  refine ⟨by rw [hi]; simp, by simp; omega, fun t row ht => ?_⟩
  by_cases c : t < Tm.length
  · rw [List.getElem?_append_left c] at ht
    obtain ⟨f1, f2, f3⟩ := e3 t row ht
    refine ⟨f1, by rw [h3, pk_un (by omega)]; exact f2, fun j x hj => ?_⟩
    have hj1 := (List.getElem?_eq_some_iff.mp hj).1
    rw [h2, pk_cpy_out (by omega)]
    exact f3 j x hj
  · rw [List.getElem?_append_right (by omega)] at ht
    have hz : t - Tm.length < 1 := (List.getElem?_eq_some_iff.mp ht).1
    have ht2 : t = Tm.length := by omega
    subst ht2
    simp at ht
    subst ht
    refine ⟨hl, by rw [h3, pk_us], fun j x hj => ?_⟩
    have hj1 := (List.getElem?_eq_some_iff.mp hj).1
    rw [h2, pk_cpy_in (by omega) (by omega), show 0 + (30 * Tm.length + j - 30 * Tm.length) = j by omega]
    exact ⟨hd.2 hl j x hj, h4 x (List.mem_of_getElem? hj)⟩
/-- only the kept terms have changed -/
def SKp (i : Nat → Int32) (r : Nat → Nat → Int32) (i2 : Nat → Int32) (r2 : Nat → Nat → Int32) : Prop := (∀ j, j ≠ 1 → i2 j = i j) ∧ ∀ j, j ≠ 2 → j ≠ 3 → r2 j = r j
set_option maxRecDepth 100000 in
set_option maxHeartbeats 4000000 in
theorem c_S_keep {τ : Nat × Nat} {a : Nat → Nat} {i : Nat → Int32} {r : Nat → Nat → Int32} {L : Nat → Int64} {wr : pW} (Tm : List (List Nat)) (d : List Nat) (h : XS Tm i r) (hd : XD d i r) (h4 : ∀ x, x ∈ d → x < 4096) (hb : d.length < 100000) : pC m_S_keep τ [.ref (a 2), .ref (a 3)] (wX a i r L ++ wr) ((fun rr w2 => ∃ i2 r2, rr = some (.int (sKeep Tm d).1) ∧ w2 = wX a i2 r2 L ++ wr ∧ XS (sKeep Tm d).2 i2 r2 ∧ SKp i r i2 r2)) := by
  have hc := h.1
  have h60 := h.2.1
  have hlen := hd.1
  have key : ∀ m z : Nat, ¬ 30 < d.length → Tm.length - z = m → z ≤ Tm.length → (∀ y, y < z → Tm[y]? ≠ some d) → pG m_S_keep τ (fun rr w2 => ∃ i2 r2, rr = some (.int (sKeep Tm d).1) ∧ w2 = wX a i2 r2 L ++ wr ∧ XS (sKeep Tm d).2 i2 r2 ∧ SKp i r i2 r2) 0 0 12 [(2, .int (nI z)), (0, .ref (a 2)), (1, .ref (a 3))] [] (wX a i r L ++ wr) := by
    intro m
    induction m with
    | zero =>
      intro z h30 hm hz hn
      have hf : fnd Tm d = none := fnd_none (fun y hy => hn y (by omega))
      refine g_iload_n (pc := 12) d_S_keep_12 rfl ?_
      refine g_aload_n (pc := 13) d_S_keep_13 rfl ?_
      refine gx_S_count (pc := 14) d_S_keep_14 lf_S_18 ?_
      rw [hc]
      refine g_nicmp_ge (pc := 17) (tgt := 53) d_S_keep_17 (by decide) (by omega) (by omega) (fun h17 => ?_) (fun h => absurd h (by omega))
      refine g_aload_n (pc := 53) d_S_keep_53 rfl ?_
      refine gx_S_count (pc := 54) d_S_keep_54 lf_S_18 ?_
      rw [hc]
      refine g_bipush (pc := 57) (v := nI 60) d_S_keep_57 (by decide) ?_
      refine g_nicmp_ne (pc := 59) (tgt := 65) d_S_keep_59 (by decide) (by omega) (by omega) (fun h59 => ?_) (fun h59 => ?_)
      · refine g_aload_n (pc := 65) d_S_keep_65 rfl ?_
        refine g_aload_n (pc := 66) d_S_keep_66 rfl ?_
        refine gx_S_tokens (pc := 67) d_S_keep_67 lf_S_9 ?_
        refine g_aload_n (pc := 70) d_S_keep_70 rfl ?_
        refine g_aload_n (pc := 71) d_S_keep_71 rfl ?_
        refine gx_S_count (pc := 72) d_S_keep_72 lf_S_18 ?_
        rw [hc]
        refine g_callV (M' := m_S_start) (pc := 75) (q := 2) d_S_keep_75 lm_S_34 (c_S_start _) v_S_start rfl rfl rfl (by decide) rfl (Nat.le_of_ble_eq_true rfl) ?_
        rintro _ _ ⟨rfl, rfl⟩
        show pG m_S_keep τ _ 0 0 78 _ (.int _ :: _) _
        refine g_callV (M' := m_D_copyTo) (pc := 78) (q := 3) d_S_keep_78 lm_S_51 (c_D_copyTo (30 * Tm.length) d.length hlen (by omega) (by omega)) v_D_copyTo rfl rfl rfl (by decide) rfl (Nat.le_of_ble_eq_true rfl) ?_
        rintro _ _ ⟨rfl, rfl⟩
        show pG m_S_keep τ _ 0 0 81 _ _ _
        refine g_aload_n (pc := 81) d_S_keep_81 rfl ?_
        refine gx_S_lengths (pc := 82) d_S_keep_82 lf_S_15 ?_
        refine g_aload_n (pc := 85) d_S_keep_85 rfl ?_
        refine gx_S_count (pc := 86) d_S_keep_86 lf_S_18 ?_
        rw [hc]
        refine g_aload_n (pc := 89) d_S_keep_89 rfl ?_
        refine g_callV (M' := m_D_length) (pc := 90) (q := 3) d_S_keep_90 lm_S_43 (c_D_length) v_D_length rfl rfl rfl (by decide) rfl (Nat.le_of_ble_eq_true rfl) ?_
        rintro _ _ ⟨rfl, rfl⟩
        show pG m_S_keep τ _ 0 0 93 _ (.int _ :: _) _
        rw [hlen]
        refine gsx_S_lengths (pc := 93) d_S_keep_93 (vp_in_nI (by omega) (by decide)) ?_
        refine g_aload_n (pc := 94) d_S_keep_94 rfl ?_
        refine g_dup (pc := 95) d_S_keep_95 rfl ?_
        refine gx_S_count (pc := 96) d_S_keep_96 lf_S_18 ?_
        rw [hc]
        refine g_iconst (pc := 99) (v := nI 1) d_S_keep_99 (by decide) ?_
        refine g_nadd (pc := 100) d_S_keep_100 ?_
        refine gx_S_count_p (pc := 101) d_S_keep_101 lf_S_18 ?_
        refine g_aload_n (pc := 104) d_S_keep_104 rfl ?_
        refine gx_S_count (pc := 105) d_S_keep_105 lf_S_18 ?_
        rw [pk_us]
        refine g_iconst (pc := 108) (v := nI 1) d_S_keep_108 (by decide) ?_
        refine g_nsub (pc := 109) d_S_keep_109 (by omega) ?_
        refine g_iret (pc := 110) d_S_keep_110 rfl (Nat.le_refl _) (Nat.le_refl _) ?_
        refine ⟨_, _, by rw [sKeep_new h30 hf (by omega)]; rfl, rfl, ?_, fun j hj => pk_un hj, fun j h2 h3 => by rw [up_n h3, up_n h2]⟩
        rw [sKeep_new h30 hf (by omega)]
        exact XS_add h hd h4 (by omega) (by omega) (by rw [pk_us]) (by rw [up_s, up_n (by decide), nI_clamp (by omega)]) (by rw [up_n (by decide), up_s])
      · refine g_bipush (pc := 62) (v := -4) d_S_keep_62 (by decide) ?_
        refine g_iret (pc := 64) d_S_keep_64 rfl (Nat.le_refl _) (Nat.le_refl _) ?_
        refine ⟨i, r, by rw [sKeep_full h30 hf (by omega)], rfl, by rw [sKeep_full h30 hf (by omega)]; exact h, fun _ _ => rfl, fun _ _ _ => rfl⟩
    | succ m ih =>
      intro z h30 hm hz hn
      have hz1 : z < Tm.length := by omega
      obtain ⟨row, hrow⟩ : ∃ row, Tm[z]? = some row := ⟨_, List.getElem?_eq_getElem hz1⟩
      obtain ⟨g1, g2, g3⟩ := h.2.2 z row hrow
      refine g_iload_n (pc := 12) d_S_keep_12 rfl ?_
      refine g_aload_n (pc := 13) d_S_keep_13 rfl ?_
      refine gx_S_count (pc := 14) d_S_keep_14 lf_S_18 ?_
      rw [hc]
      refine g_nicmp_ge (pc := 17) (tgt := 53) d_S_keep_17 (by decide) (by omega) (by omega) (fun h => absurd h (by omega)) (fun h17 => ?_)
      refine g_aload_n (pc := 20) d_S_keep_20 rfl ?_
      refine gx_S_lengths (pc := 21) d_S_keep_21 lf_S_15 ?_
      refine g_iload_n (pc := 24) d_S_keep_24 rfl ?_
      refine glx_S_lengths (pc := 25) (v := nI row.length) d_S_keep_25 (vp_in_nI (by omega) (by decide)) (by rw [nI_clamp (by omega)]; exact g2) ?_
      refine g_aload_n (pc := 26) d_S_keep_26 rfl ?_
      refine g_callV (M' := m_D_length) (pc := 27) (q := 3) d_S_keep_27 lm_S_43 (c_D_length) v_D_length rfl rfl rfl (by decide) rfl (Nat.le_of_ble_eq_true rfl) ?_
      rintro _ _ ⟨rfl, rfl⟩
      show pG m_S_keep τ _ 0 0 30 _ (.int _ :: _) _
      rw [hlen]
      refine g_nicmp_ne (pc := 30) (tgt := 47) d_S_keep_30 (by decide) (by omega) (by omega) (fun h30_ => ?_) (fun h30_ => ?_)
      · refine g_niinc (pc := 47) (d := 1) [(2, _), (0, _), (1, _)] d_S_keep_47 rfl (by decide) rfl ?_
        refine g_goto (pc := 50) (tgt := 12) d_S_keep_50 (by decide) ?_
        have hne : Tm[z]? ≠ some d := by
          rw [hrow]
          intro e
          have e := Option.some.inj e
          subst e
          first | exact absurd rfl h30_ | simp at h42
        exact ih (z + 1) h30 (by omega) (by omega) (lt_s hn hne)
      · refine g_aload_n (pc := 33) d_S_keep_33 rfl ?_
        refine g_aload_n (pc := 34) d_S_keep_34 rfl ?_
        refine g_iload_n (pc := 35) d_S_keep_35 rfl ?_
        refine g_callV (M' := m_S_start) (pc := 36) (q := 2) d_S_keep_36 lm_S_34 (c_S_start _) v_S_start rfl rfl rfl (by decide) rfl (Nat.le_of_ble_eq_true rfl) ?_
        rintro _ _ ⟨rfl, rfl⟩
        show pG m_S_keep τ _ 0 0 39 _ (.int _ :: _) _
        refine g_callV (M' := m_D_isAt) (pc := 39) (q := 3) d_S_keep_39 lm_S_47 (c_D_isAt d row (30 * z) hd h4 (by omega) (by omega) g3 (by omega)) v_D_isAt rfl rfl rfl (by decide) rfl (Nat.le_of_ble_eq_true rfl) ?_
        rintro _ _ ⟨rfl, rfl⟩
        show pG m_S_keep τ _ 0 0 42 _ (.int _ :: _) _
        refine g_ifb_eq (pc := 42) (tgt := 47) d_S_keep_42 (by decide) (fun h42 => ?_) (fun h42 => ?_)
        · refine g_niinc (pc := 47) (d := 1) [(2, _), (0, _), (1, _)] d_S_keep_47 rfl (by decide) rfl ?_
          refine g_goto (pc := 50) (tgt := 12) d_S_keep_50 (by decide) ?_
          have hne : Tm[z]? ≠ some d := by
            rw [hrow]
            intro e
            have e := Option.some.inj e
            subst e
            first | exact absurd rfl h30_ | simp at h42
          exact ih (z + 1) h30 (by omega) (by omega) (lt_s hn hne)
        · refine g_iload_n (pc := 45) d_S_keep_45 rfl ?_
          refine g_iret (pc := 46) d_S_keep_46 rfl (Nat.le_refl _) (Nat.le_refl _) ?_
          have e : d = row := by simpa using h42
          subst e
          refine ⟨i, r, by rw [sKeep_at h30 (fnd_some hrow hn)], rfl, by rw [sKeep_at h30 (fnd_some hrow hn)]; exact h, fun _ _ => rfl, fun _ _ _ => rfl⟩
  refine pC.of rfl (Nat.le_of_ble_eq_true rfl) ?_
  show pG m_S_keep τ _ 0 0 0 [(0, _), (1, _)] [] _
  refine g_aload_n (pc := 0) d_S_keep_0 rfl ?_
  refine g_callV (M' := m_D_isTooLarge) (pc := 1) (q := 3) d_S_keep_1 lm_S_37 (c_D_isTooLarge d.length hlen (by omega)) v_D_isTooLarge rfl rfl rfl (by decide) rfl (Nat.le_of_ble_eq_true rfl) ?_
  rintro _ _ ⟨rfl, rfl⟩
  show pG m_S_keep τ _ 0 0 4 _ (.int _ :: _) _
  refine g_ifb_eq (pc := 4) (tgt := 10) d_S_keep_4 (by decide) (fun h4_ => ?_) (fun h4_ => ?_)
  · refine g_iconst (pc := 10) (v := nI 0) d_S_keep_10 (by decide) ?_
    refine g_istore_n (pc := 11) [(2, _), (0, _), (1, _)] d_S_keep_11 (by decide) rfl ?_
    exact key _ 0 (by simpa using h4_) rfl (Nat.zero_le _) lt_0
  · refine g_bipush (pc := 7) (v := -4) d_S_keep_7 (by decide) ?_
    refine g_iret (pc := 9) d_S_keep_9 rfl (Nat.le_refl _) (Nat.le_refl _) ?_
    have e : 30 < d.length := by simpa using h4_
    refine ⟨i, r, by rw [sKeep_big e], rfl, by rw [sKeep_big e]; exact h, fun _ _ => rfl, fun _ _ _ => rfl⟩
