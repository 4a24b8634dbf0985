/-! Types: contracts. By wip/whole/m_types.py -/
set_option maxRecDepth 100000 in
set_option maxHeartbeats 4000000 in
theorem c_T_has {τ : Nat × Nat} {a : Nat → Nat} {i : Nat → Int32} {r : Nat → Nat → Int32} {L : Nat → Int64} {wr : pW} (c : Nat) (hc : i 0 = nI c) (hb : c < 2 ^ 31) (x : Int32) : pC m_T_has τ [.ref (a 1), .int x] (wX a i r L ++ wr) (fun rr w2 => rr = some (.int (bI (ixB x c))) ∧ w2 = wX a i r L ++ wr) := by
  refine pC.of rfl (Nat.le_of_ble_eq_true rfl) ?_
  show pG m_T_has τ _ 0 0 0 [(0, _), (1, _)] [] _
  refine g_iload_n (pc := 0) d_T_has_0 rfl ?_
  refine g_if_lt (pc := 1) (tgt := 16) d_T_has_1 (by decide) (fun h1 => ?_) (fun h1 => ?_)
  · refine g_iconst (pc := 16) (v := nI 0) d_T_has_16 (by decide) ?_
    refine g_zret (pc := 17) d_T_has_17 rfl (by decide) (Nat.le_refl _) (Nat.le_refl _) ?_
    refine ⟨congrArg (fun v => some (Value.int v)) ?_, rfl⟩
    first | exact bI_0 (ixB_neg (by assumption)) | exact bI_0 (ixB_big hb (by assumption)) | exact bI_1 (ixB_in hb (by assumption) (by assumption))
  · refine g_iload_n (pc := 4) d_T_has_4 rfl ?_
    refine g_aload_n (pc := 5) d_T_has_5 rfl ?_
    refine gx_T_count (pc := 6) d_T_has_6 lf_T_18 ?_
    rw [hc]
    refine g_icmp_ge (pc := 9) (tgt := 16) d_T_has_9 (by decide) (fun h9 => ?_) (fun h9 => ?_)
    · refine g_iconst (pc := 16) (v := nI 0) d_T_has_16 (by decide) ?_
      refine g_zret (pc := 17) d_T_has_17 rfl (by decide) (Nat.le_refl _) (Nat.le_refl _) ?_
      refine ⟨congrArg (fun v => some (Value.int v)) ?_, rfl⟩
      first | exact bI_0 (ixB_neg (by assumption)) | exact bI_0 (ixB_big hb (by assumption)) | exact bI_1 (ixB_in hb (by assumption) (by assumption))
    · refine g_iconst (pc := 12) (v := nI 1) d_T_has_12 (by decide) ?_
      refine g_goto (pc := 13) (tgt := 17) d_T_has_13 (by decide) ?_
      refine g_zret (pc := 17) d_T_has_17 rfl (by decide) (Nat.le_refl _) (Nat.le_refl _) ?_
      refine ⟨congrArg (fun v => some (Value.int v)) ?_, rfl⟩
      first | exact bI_0 (ixB_neg (by assumption)) | exact bI_0 (ixB_big hb (by assumption)) | exact bI_1 (ixB_in hb (by assumption) (by assumption))
set_option maxRecDepth 100000 in
set_option maxHeartbeats 4000000 in
theorem c_T_count {τ : Nat × Nat} {a : Nat → Nat} {i : Nat → Int32} {r : Nat → Nat → Int32} {L : Nat → Int64} {wr : pW}  : pC m_T_count τ [.ref (a 1)] (wX a i r L ++ wr) (fun rr w2 => rr = some (.int (i 0)) ∧ w2 = wX a i r L ++ wr) := by
  refine pC.of rfl (Nat.le_of_ble_eq_true rfl) ?_
  show pG m_T_count τ _ 0 0 0 [(0, _)] [] _
  refine g_aload_n (pc := 0) d_T_count_0 rfl ?_
  refine gx_T_count (pc := 1) d_T_count_1 lf_T_18 ?_
  refine g_iret (pc := 4) d_T_count_4 rfl (Nat.le_refl _) (Nat.le_refl _) ?_
  exact ⟨rfl, rfl⟩
set_option maxRecDepth 100000 in
set_option maxHeartbeats 4000000 in
theorem c_T_takes {τ : Nat × Nat} {a : Nat → Nat} {i : Nat → Int32} {r : Nat → Nat → Int32} {L : Nat → Int64} {wr : pW} (f x : Nat) (hf : f < 16) : pC m_T_takes τ [.ref (a 1), .int (nI f), .int (nI x)] (wX a i r L ++ wr) (fun rr w2 => rr = some (.int (bI (decide (r 0 f = nI x)))) ∧ w2 = wX a i r L ++ wr) := by
  refine pC.of rfl (Nat.le_of_ble_eq_true rfl) ?_
  show pG m_T_takes τ _ 0 0 0 [(0, _), (1, _), (2, _)] [] _
  refine g_aload_n (pc := 0) d_T_takes_0 rfl ?_
  refine gx_T_from (pc := 1) d_T_takes_1 lf_T_9 ?_
  refine g_iload_n (pc := 4) d_T_takes_4 rfl ?_
  refine glx_T_from (pc := 5) d_T_takes_5 (vp_in_nI hf (by decide)) rfl ?_
  refine g_iload_n (pc := 6) d_T_takes_6 rfl ?_
  refine g_icmp_ne (pc := 7) (tgt := 14) d_T_takes_7 (by decide) (fun h7 => ?_) (fun h7 => ?_)
  · refine g_iconst (pc := 14) (v := nI 0) d_T_takes_14 (by decide) ?_
    refine g_zret (pc := 15) d_T_takes_15 rfl (by decide) (Nat.le_refl _) (Nat.le_refl _) ?_
    refine ⟨congrArg (fun v => some (Value.int v)) ?_, rfl⟩
    rw [nI_clamp (by omega)] at *
    simp_all [bI]
  · refine g_iconst (pc := 10) (v := nI 1) d_T_takes_10 (by decide) ?_
    refine g_goto (pc := 11) (tgt := 15) d_T_takes_11 (by decide) ?_
    refine g_zret (pc := 15) d_T_takes_15 rfl (by decide) (Nat.le_refl _) (Nat.le_refl _) ?_
    refine ⟨congrArg (fun v => some (Value.int v)) ?_, rfl⟩
    rw [nI_clamp (by omega)] at *
    simp_all [bI]
set_option maxRecDepth 100000 in
set_option maxHeartbeats 4000000 in
theorem c_T_result {τ : Nat × Nat} {a : Nat → Nat} {i : Nat → Int32} {r : Nat → Nat → Int32} {L : Nat → Int64} {wr : pW} (f : Nat) (hf : f < 16) : pC m_T_result τ [.ref (a 1), .int (nI f)] (wX a i r L ++ wr) (fun rr w2 => rr = some (.int (r 1 f)) ∧ w2 = wX a i r L ++ wr) := by
  refine pC.of rfl (Nat.le_of_ble_eq_true rfl) ?_
  show pG m_T_result τ _ 0 0 0 [(0, _), (1, _)] [] _
  refine g_aload_n (pc := 0) d_T_result_0 rfl ?_
  refine gx_T_to (pc := 1) d_T_result_1 lf_T_15 ?_
  refine g_iload_n (pc := 4) d_T_result_4 rfl ?_
  refine glx_T_to (pc := 5) d_T_result_5 (vp_in_nI hf (by decide)) rfl ?_
  refine g_iret (pc := 6) d_T_result_6 rfl (Nat.le_refl _) (Nat.le_refl _) ?_
  exact ⟨by rw [nI_clamp (by omega)], rfl⟩
set_option maxRecDepth 100000 in
set_option maxHeartbeats 4000000 in
theorem c_T_cutTo {τ : Nat × Nat} {a : Nat → Nat} {i : Nat → Int32} {r : Nat → Nat → Int32} {L : Nat → Int64} {wr : pW} (x : Int32) : pC m_T_cutTo τ [.ref (a 1), .int x] (wX a i r L ++ wr) (fun rr w2 => rr = none ∧ w2 = wX a (upd i 0 x) r L ++ wr) := by
  refine pC.of rfl (Nat.le_of_ble_eq_true rfl) ?_
  show pG m_T_cutTo τ _ 0 0 0 [(0, _), (1, _)] [] _
  refine g_aload_n (pc := 0) d_T_cutTo_0 rfl ?_
  refine g_iload_n (pc := 1) d_T_cutTo_1 rfl ?_
  refine gx_T_count_p (pc := 2) d_T_cutTo_2 lf_T_18 ?_
  refine g_vret (pc := 5) d_T_cutTo_5 rfl (Nat.le_refl _) (Nat.le_refl _) ?_
  exact ⟨rfl, rfl⟩
def sNum (Ty : List (Nat × Nat)) (l q : Nat) : Int32 × List (Nat × Nat) := match fnd Ty (l, q) with
  | some j => (nI (3 + j), Ty)
  | none => if Ty.length = 13 then (-4, Ty) else (nI (3 + Ty.length), Ty ++ [(l, q)])
theorem sNum_some {Ty : List (Nat × Nat)} {l q j : Nat} (h : fnd Ty (l, q) = some j) : sNum Ty l q = (nI (3 + j), Ty) := by simp [sNum, h]
theorem sNum_full {Ty : List (Nat × Nat)} {l q : Nat} (h : fnd Ty (l, q) = none) (e : Ty.length = 13) : sNum Ty l q = (-4, Ty) := by simp [sNum, h, e]
theorem sNum_new {Ty : List (Nat × Nat)} {l q : Nat} (h : fnd Ty (l, q) = none) (e : Ty.length ≠ 13) : sNum Ty l q = (nI (3 + Ty.length), Ty ++ [(l, q)]) := by simp [sNum, h, e]
theorem XT_add {Ty : List (Nat × Nat)} {i : Nat → Int32} {r : Nat → Nat → Int32} {l q : Nat} (h : XT Ty i r) (e : Ty.length ≠ 13) (hl : l < 16) (hq : q < 16) (i2 : Nat → Int32) (r2 : Nat → Nat → Int32) (hi : i2 0 = nI (3 + Ty.length + 1)) (h0 : r2 0 = upd (r 0) (3 + Ty.length) (nI l)) (h1 : r2 1 = upd (r 1) (3 + Ty.length) (nI q)) : XT (Ty ++ [(l, q)]) i2 r2 := by
  obtain ⟨e0, e1, e2, e3⟩ := h
  refine ⟨by rw [hi]; simp; congr 1, by simp; omega, fun j hj => by rw [h0, pk_un (by omega)]; exact e2 j hj, fun j p hj => ?_⟩
  by_cases c : j < Ty.length
  · rw [List.getElem?_append_left c] at hj
    rw [h0, h1, pk_un (by omega), pk_un (by omega)]
    exact e3 j p hj
  · rw [List.getElem?_append_right (by omega)] at hj
    have hz : j - Ty.length < 1 := (List.getElem?_eq_some_iff.mp hj).1
    have hj2 : j = Ty.length := by omega
    subst hj2
    simp at hj
    subst hj
    rw [h0, h1, pk_us, pk_us]
    exact ⟨⟨rfl, rfl⟩, hl, hq⟩
set_option maxRecDepth 100000 in
set_option maxHeartbeats 4000000 in
theorem c_T_numberOf {τ : Nat × Nat} {a : Nat → Nat} {i : Nat → Int32} {r : Nat → Nat → Int32} {L : Nat → Int64} {wr : pW} (Ty : List (Nat × Nat)) (h : XT Ty i r) (l q : Nat) (hl : l < 16) (hq : q < 16) : pC m_T_numberOf τ [.ref (a 1), .int (nI l), .int (nI q)] (wX a i r L ++ wr) (fun rr w2 => ∃ i2 r2, rr = some (.int (sNum Ty l q).1) ∧ w2 = wX a i2 r2 L ++ wr ∧ XT (sNum Ty l q).2 i2 r2 ∧ (∀ j, j ≠ 0 → i2 j = i j) ∧ (∀ j, j ≠ 0 → j ≠ 1 → r2 j = r j)) := by
  have hb := h.2.1
  have key : ∀ m j : Nat, Ty.length - j = m → j ≤ Ty.length → (∀ z, z < j → Ty[z]? ≠ some (l, q)) → pG m_T_numberOf τ (fun rr w2 => ∃ i2 r2, rr = some (.int (sNum Ty l q).1) ∧ w2 = wX a i2 r2 L ++ wr ∧ XT (sNum Ty l q).2 i2 r2 ∧ (∀ j, j ≠ 0 → i2 j = i j) ∧ (∀ j, j ≠ 0 → j ≠ 1 → r2 j = r j)) 0 0 2 [(3, .int (nI (3 + j))), (0, .ref (a 1)), (1, .int (nI l)), (2, .int (nI q))] [] (wX a i r L ++ wr) := by
    intro m
    induction m with
    | zero =>
      intro j hm hj hn
      refine g_iload_n (pc := 2) d_T_numberOf_2 rfl ?_
      refine g_aload_n (pc := 3) d_T_numberOf_3 rfl ?_
      refine gx_T_count (pc := 4) d_T_numberOf_4 lf_T_18 ?_
      rw [h.1]
      refine g_nicmp_ge (pc := 7) (tgt := 38) d_T_numberOf_7 (by decide) (by omega) (by omega) (fun h7 => ?_) (fun h => absurd h (by omega))
      have hf : fnd Ty (l, q) = none := fnd_none (fun z hz => hn z (by omega))
      refine g_aload_n (pc := 38) d_T_numberOf_38 rfl ?_
      refine gx_T_count (pc := 39) d_T_numberOf_39 lf_T_18 ?_
      rw [h.1]
      refine g_bipush (pc := 42) (v := nI 16) d_T_numberOf_42 (by decide) ?_
      refine g_nicmp_ne (pc := 44) (tgt := 50) d_T_numberOf_44 (by decide) (by omega) (by omega) (fun h44 => ?_) (fun h44 => ?_)
      · refine g_aload_n (pc := 50) d_T_numberOf_50 rfl ?_
        refine gx_T_from (pc := 51) d_T_numberOf_51 lf_T_9 ?_
        refine g_aload_n (pc := 54) d_T_numberOf_54 rfl ?_
        refine gx_T_count (pc := 55) d_T_numberOf_55 lf_T_18 ?_
        rw [h.1]
        refine g_iload_n (pc := 58) d_T_numberOf_58 rfl ?_
        refine gsx_T_from (pc := 59) d_T_numberOf_59 (vp_in_nI (by omega) (by decide)) ?_
        refine g_aload_n (pc := 60) d_T_numberOf_60 rfl ?_
        refine gx_T_to (pc := 61) d_T_numberOf_61 lf_T_15 ?_
        refine g_aload_n (pc := 64) d_T_numberOf_64 rfl ?_
        refine gx_T_count (pc := 65) d_T_numberOf_65 lf_T_18 ?_
        rw [h.1]
        refine g_iload_n (pc := 68) d_T_numberOf_68 rfl ?_
        refine gsx_T_to (pc := 69) d_T_numberOf_69 (vp_in_nI (by omega) (by decide)) ?_
        refine g_aload_n (pc := 70) d_T_numberOf_70 rfl ?_
        refine g_dup (pc := 71) d_T_numberOf_71 rfl ?_
        refine gx_T_count (pc := 72) d_T_numberOf_72 lf_T_18 ?_
        rw [h.1]
        refine g_iconst (pc := 75) (v := nI 1) d_T_numberOf_75 (by decide) ?_
        refine g_nadd (pc := 76) d_T_numberOf_76 ?_
        refine gx_T_count_p (pc := 77) d_T_numberOf_77 lf_T_18 ?_
        refine g_aload_n (pc := 80) d_T_numberOf_80 rfl ?_
        refine gx_T_count (pc := 81) d_T_numberOf_81 lf_T_18 ?_
        rw [pk_us]
        refine g_iconst (pc := 84) (v := nI 1) d_T_numberOf_84 (by decide) ?_
        refine g_nsub (pc := 85) d_T_numberOf_85 (by omega) ?_
        refine g_iret (pc := 86) d_T_numberOf_86 rfl (Nat.le_refl _) (Nat.le_refl _) ?_
        refine ⟨_, _, ?_, rfl, ?_, ?_, ?_⟩
        · rw [sNum_new hf (by omega)]
          rfl
        · rw [sNum_new hf (by omega)]
          exact XT_add h (by omega) hl hq _ _ (by rw [pk_us]) (by rw [up_n (by decide), up_s, nI_clamp (by omega)]) (by rw [up_s, up_n (by decide), nI_clamp (by omega)])
        · intro j hj
          exact pk_un hj
        · intro j h0 h1
          rw [up_n h1, up_n h0]
      · refine g_bipush (pc := 47) (v := -4) d_T_numberOf_47 (by decide) ?_
        refine g_iret (pc := 49) d_T_numberOf_49 rfl (Nat.le_refl _) (Nat.le_refl _) ?_
        refine ⟨i, r, by rw [sNum_full hf (by omega)], rfl, by rw [sNum_full hf (by omega)]; exact h, fun _ _ => rfl, fun _ _ _ => rfl⟩
    | succ m ih =>
      intro j hm hj hn
      refine g_iload_n (pc := 2) d_T_numberOf_2 rfl ?_
      refine g_aload_n (pc := 3) d_T_numberOf_3 rfl ?_
      refine gx_T_count (pc := 4) d_T_numberOf_4 lf_T_18 ?_
      rw [h.1]
      refine g_nicmp_ge (pc := 7) (tgt := 38) d_T_numberOf_7 (by decide) (by omega) (by omega) (fun h => absurd h (by omega)) (fun h7 => ?_)
      obtain ⟨p, hp⟩ : ∃ p, Ty[j]? = some p := ⟨_, List.getElem?_eq_getElem (by omega)⟩
      obtain ⟨⟨hp1, hp2⟩, hp3, hp4⟩ := h.2.2.2 j p hp
      refine g_aload_n (pc := 10) d_T_numberOf_10 rfl ?_
      refine gx_T_from (pc := 11) d_T_numberOf_11 lf_T_9 ?_
      refine g_iload_n (pc := 14) d_T_numberOf_14 rfl ?_
      refine glx_T_from (pc := 15) (v := nI p.1) d_T_numberOf_15 (vp_in_nI (by omega) (by decide)) (by rw [nI_clamp (by omega)]; exact hp1) ?_
      refine g_iload_n (pc := 16) d_T_numberOf_16 rfl ?_
      refine g_nicmp_ne (pc := 17) (tgt := 32) d_T_numberOf_17 (by decide) (by omega) (by omega) (fun h17 => ?_) (fun h17 => ?_)
      · have hne : Ty[j]? ≠ some (l, q) := by
          rw [hp]
          intro e
          have e := Option.some.inj e
          subst e
          first | exact h17 rfl | exact h27 rfl
        refine g_niinc (pc := 32) (d := 1) [(3, _), (0, _), (1, _), (2, _)] d_T_numberOf_32 rfl (by decide) rfl ?_
        refine g_goto (pc := 35) (tgt := 2) d_T_numberOf_35 (by decide) ?_
        refine g_pick [0, 1, 2, 3] [(3, _), (0, _), (1, _), (2, _)] rfl ?_
        exact ih (j + 1) (by omega) (by omega) (lt_s hn hne)
      · refine g_aload_n (pc := 20) d_T_numberOf_20 rfl ?_
        refine gx_T_to (pc := 21) d_T_numberOf_21 lf_T_15 ?_
        refine g_iload_n (pc := 24) d_T_numberOf_24 rfl ?_
        refine glx_T_to (pc := 25) (v := nI p.2) d_T_numberOf_25 (vp_in_nI (by omega) (by decide)) (by rw [nI_clamp (by omega)]; exact hp2) ?_
        refine g_iload_n (pc := 26) d_T_numberOf_26 rfl ?_
        refine g_nicmp_ne (pc := 27) (tgt := 32) d_T_numberOf_27 (by decide) (by omega) (by omega) (fun h27 => ?_) (fun h27 => ?_)
        · have hne : Ty[j]? ≠ some (l, q) := by
            rw [hp]
            intro e
            have e := Option.some.inj e
            subst e
            first | exact h17 rfl | exact h27 rfl
          refine g_niinc (pc := 32) (d := 1) [(3, _), (0, _), (1, _), (2, _)] d_T_numberOf_32 rfl (by decide) rfl ?_
          refine g_goto (pc := 35) (tgt := 2) d_T_numberOf_35 (by decide) ?_
          refine g_pick [0, 1, 2, 3] [(3, _), (0, _), (1, _), (2, _)] rfl ?_
          exact ih (j + 1) (by omega) (by omega) (lt_s hn hne)
        · refine g_iload_n (pc := 30) d_T_numberOf_30 rfl ?_
          refine g_iret (pc := 31) d_T_numberOf_31 rfl (Nat.le_refl _) (Nat.le_refl _) ?_
          have e : p = (l, q) := Prod.ext h17 h27
          subst e
          refine ⟨i, r, by rw [sNum_some (fnd_some hp hn)], rfl, by rw [sNum_some (fnd_some hp hn)]; exact h, fun _ _ => rfl, fun _ _ _ => rfl⟩
  refine pC.of rfl (Nat.le_of_ble_eq_true rfl) ?_
  show pG m_T_numberOf τ _ 0 0 0 [(0, _), (1, _), (2, _)] [] _
  refine g_iconst (pc := 0) (v := nI 3) d_T_numberOf_0 (by decide) ?_
  refine g_istore_n (pc := 1) [(3, _), (0, _), (1, _), (2, _)] d_T_numberOf_1 (by decide) rfl ?_
  exact key _ 0 rfl (Nat.zero_le _) lt_0
