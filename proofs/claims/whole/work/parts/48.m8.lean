/-! The reference: the rules of equations, substitution. By wip/whole/m_m8.py -/
set_option maxRecDepth 100000 in
set_option maxHeartbeats 4000000 in
theorem c_M_abstraction {τ : Nat × Nat} {a : Nat → Nat} {i : Nat → Int32} {r : Nat → Nat → Int32} {L : Nat → Nat → Int64} {wr : pW} {Ty : List (Nat × Nat)} {Tm : List (List Nat)} {Th : List Thm} (y : Nat) (B : List Nat) (hB0_ : Tm[y]? = some B) (l q e : Nat) (X Y : List Nat) (hX : MA (r 0) l X) (hXb : l + X.length ≤ 1920) (hY : MA (r 0) q Y) (hYb : q + Y.length ≤ 1920) (wX_ : WT Ty (dcl Tm) e X) (wY_ : WT Ty (dcl Tm) e Y) (s : Nat) (hI : MI Ty Tm Th (dcl Tm) [tok 7 0 0] i r L) (gs : GS Ty Tm Th) (hs : s < 2 ^ 60) (hsb : ∀ t : Nat, s.testBit t = true → t < Tm.length) : pC m_M_abstraction τ [.ref (a 0), .int (nI y), .int (nI l), .int (nI q)] (wM a i r L (lN s) ++ wr) (MO a L wr Ty Tm Th (if tgR B = 0 then (if sBnd Tm s (hdt B) = true then -3 else (if (sNum Ty (tyR B) e).1 = -4 then -4 else 0)) else -2) (s) ((sNum Ty (tyR B) e).2) (Tm) (([tok 7 0 0] ++ sBd 3 (sNum Ty (tyR B) e).1.toNatClampNeg (hdt B) X) ++ sBd 3 (sNum Ty (tyR B) e).1.toNatClampNeg (hdt B) Y)) := by
  refine pC.of rfl (Nat.le_of_ble_eq_true rfl) ?_
  show pG m_M_abstraction τ _ 0 0 0 [(0, _), (1, _), (2, _), (3, _)] [] _
  obtain ⟨pB1, pB2, pB3, pB4, pB5, pB6⟩ := hI.2.1.mg gs.1 hB0_
  have wB := gs.row hB0_
  have lB := tyR_lt B
  obtain ⟨gB1, gB2, gB3, gB4⟩ := pB1.hd
  have mB := mu_c gB3
  have hT13 := hI.b.1
  have hX30 := hX.2.2.2.2
  have hY30 := hY.2.2.2.2
  have hcX := @cls_len (hdt B) X [0]
  have hcY := @cls_len (hdt B) Y [0]
  refine g_aload_n (pc := 0) d_M_abstraction_0 rfl ?_
  refine g_iload_n (pc := 1) d_M_abstraction_1 rfl ?_
  refine g_callV (M' := m_M_isVariableTerm) (pc := 2) (q := 0) d_M_abstraction_2 lm_M_105 (c_M_isVariableTerm y B pB3 pB4 pB1 (fun q => wB.len1 q)) v_M_isVariableTerm rfl rfl rfl (by decide) rfl (Nat.le_of_ble_eq_true rfl) ?_
  rintro _ _ ⟨rfl, rfl⟩
  show pG m_M_abstraction τ _ 0 0 5 _ (.int _ :: _) _
  refine g_ifb_ne (pc := 5) (tgt := 11) d_M_abstraction_5 (by decide) (fun h5 => ?_) (fun h5 => ?_)
  · refine g_aload_n (pc := 11) d_M_abstraction_11 rfl ?_
    refine gm_row (pc := 12) d_M_abstraction_12 lf_M_7 ?_
    refine g_bipush (pc := 15) (v := nI 32) d_M_abstraction_15 (by decide) ?_
    refine g_iload_n (pc := 17) d_M_abstraction_17 rfl ?_
    refine g_nmul (pc := 18) d_M_abstraction_18 ?_
    refine glm_row (pc := 19) (v := nI (mu (hdt B))) d_M_abstraction_19 (vp_in_nI (by omega) (by decide)) (by rw [nI_clamp (by omega)]; exact gB2) ?_
    refine g_istore (pc := 20) [(4, _), (0, _), (1, _), (2, _), (3, _)] d_M_abstraction_20 (by decide) rfl ?_
    refine g_aload_n (pc := 22) d_M_abstraction_22 rfl ?_
    refine g_iload (pc := 23) d_M_abstraction_23 rfl ?_
    refine g_callV (M' := m_M_freeInSet) (pc := 25) (q := 0) d_M_abstraction_25 lm_M_133 (c_M_freeInSet Tm s (hdt B) hI.2.1 gs.1 hs gB3 (of_decide_eq_true h5)) v_M_freeInSet rfl rfl rfl (by decide) rfl (Nat.le_of_ble_eq_true rfl) ?_
    rintro _ _ ⟨rfl, rfl⟩
    show pG m_M_abstraction τ _ 0 0 28 _ (.int _ :: _) _
    refine g_ifb_eq (pc := 28) (tgt := 34) d_M_abstraction_28 (by decide) (fun h28 => ?_) (fun h28 => ?_)
    · refine g_aload_n (pc := 34) d_M_abstraction_34 rfl ?_
      refine g_aload_n (pc := 35) d_M_abstraction_35 rfl ?_
      refine gm_sort (pc := 36) d_M_abstraction_36 lf_M_16 ?_
      refine g_iload_n (pc := 39) d_M_abstraction_39 rfl ?_
      refine glm_sort (pc := 40) (v := nI (tyR B)) d_M_abstraction_40 (vp_in_nI (by omega) (by decide)) (by rw [nI_clamp (by omega)]; exact pB5) ?_
      refine g_aload_n (pc := 41) d_M_abstraction_41 rfl ?_
      refine g_iload_n (pc := 42) d_M_abstraction_42 rfl ?_
      refine g_callV (M' := m_M_typesAt) (pc := 43) (q := 0) d_M_abstraction_43 lm_M_85 (c_M_typesAt Ty (dcl Tm) l e X hX wX_ hI.1 hI.2.2.1 gs.1.1) v_M_typesAt rfl rfl rfl (by decide) rfl (Nat.le_of_ble_eq_true rfl) ?_
      rintro _ _ ⟨r5, rfl, rfl, hr5⟩
      have hI5 := hI.k3 hr5
      show pG m_M_abstraction τ _ 0 0 46 _ (.int _ :: _) _
      refine g_callV (M' := m_M_arrow) (pc := 46) (q := 0) d_M_abstraction_46 lm_M_108 (c_M_arrow_3 (tyR B) e hI5 wB.lt wX_.lt) v_M_arrow rfl rfl rfl (by decide) rfl (Nat.le_of_ble_eq_true rfl) ?_
      rintro _ _ ⟨i6, r6, rfl, rfl, hI6, hi6, hr6⟩
      show pG m_M_abstraction τ _ 0 0 49 _ (.int _ :: _) _
      refine g_if_ge (pc := 49) (tgt := 55) d_M_abstraction_49 (by decide) (fun h49 => ?_) (fun h49 => ?_)
      · obtain ⟨k, hk, harw, hk16, hkl⟩ := num_arw (num_pos h49) hT13
        have wg6 := (GS_num gs.1 wB.lt wX_.lt).1
        have hx6 := (GS_num gs.1 wB.lt wX_.lt).2
        obtain ⟨qB1, qB2, qB3, qB4, qB5, qB6⟩ := hI6.2.1.mg wg6 hB0_
        have hX6 : MA (r6 0) l X := by rw [hr6 0 (by decide) (by decide), hr5 0 (by decide)]; exact hX
        have hY6 : MA (r6 0) q Y := by rw [hr6 0 (by decide) (by decide), hr5 0 (by decide)]; exact hY
        refine g_aload_n (pc := 55) d_M_abstraction_55 rfl ?_
        refine g_bipush (pc := 56) (v := nI 16) d_M_abstraction_56 (by decide) ?_
        refine g_aload_n (pc := 58) d_M_abstraction_58 rfl ?_
        refine gm_sort (pc := 59) d_M_abstraction_59 lf_M_16 ?_
        refine g_iload_n (pc := 62) d_M_abstraction_62 rfl ?_
        refine glm_sort (pc := 63) (v := nI (tyR B)) d_M_abstraction_63 (vp_in_nI (by omega) (by decide)) (by rw [nI_clamp (by omega)]; exact qB5) ?_
        refine g_nadd (pc := 64) d_M_abstraction_64 ?_
        rw [show 16 + tyR B = mu (tok 3 (tyR B) k) by rw [mu_3 (by omega) hk16]]
        refine g_callV (M' := m_M_put) (pc := 65) (q := 0) d_M_abstraction_65 lm_M_68 (c_M_put [tok 7 0 0] (tok 3 (tyR B) k) hI6.2.2.2.1 (by simp)) v_M_put rfl rfl rfl (by decide) rfl (Nat.le_of_ble_eq_true rfl) ?_
        rintro _ _ ⟨i7, r7, rfl, rfl, hx7, hk7⟩
        have hx7 : MW ([tok 7 0 0] ++ [tok 3 (tyR B) k]) i7 r7 := hx7
        have hI7 := hI6.mk hk7 hx7
        show pG m_M_abstraction τ _ 0 0 68 _ _ _
        refine g_aload_n (pc := 68) d_M_abstraction_68 rfl ?_
        refine g_iload_n (pc := 69) d_M_abstraction_69 rfl ?_
        refine g_iload (pc := 70) d_M_abstraction_70 rfl ?_
        refine g_iconst (pc := 72) (v := -1) d_M_abstraction_72 (by decide) ?_
        refine g_callV (M' := m_M_copyWith) (pc := 73) (q := 0) d_M_abstraction_73 lm_M_111 (c_M_copyWith_0 ([tok 7 0 0] ++ [tok 3 (tyR B) k]) l (hdt B) X hI7.2.2.2.1 (hX6.kp hXb hk7) hXb gB3 (of_decide_eq_true h5) (by simp; omega)) v_M_copyWith rfl rfl rfl (by decide) rfl (Nat.le_of_ble_eq_true rfl) ?_
        rintro _ _ ⟨i8, r8, rfl, rfl, hx8, hk8⟩
        have hx8 : MW ([tok 7 0 0] ++ sBd 3 k (hdt B) X) i8 r8 := hx8
        have hI8 := hI7.mk hk8 hx8
        show pG m_M_abstraction τ _ 0 0 76 _ _ _
        refine g_aload_n (pc := 76) d_M_abstraction_76 rfl ?_
        refine g_bipush (pc := 77) (v := nI 16) d_M_abstraction_77 (by decide) ?_
        refine g_aload_n (pc := 79) d_M_abstraction_79 rfl ?_
        refine gm_sort (pc := 80) d_M_abstraction_80 lf_M_16 ?_
        refine g_iload_n (pc := 83) d_M_abstraction_83 rfl ?_
        refine glm_sort (pc := 84) (v := nI (tyR B)) d_M_abstraction_84 (vp_in_nI (by omega) (by decide)) (by rw [nI_clamp (by omega), hk8.2.1 2 (by decide), hk7.2.1 2 (by decide)]; exact qB5) ?_
        refine g_nadd (pc := 85) d_M_abstraction_85 ?_
        rw [show 16 + tyR B = mu (tok 3 (tyR B) k) by rw [mu_3 (by omega) hk16]]
        refine g_callV (M' := m_M_put) (pc := 86) (q := 0) d_M_abstraction_86 lm_M_68 (c_M_put ([tok 7 0 0] ++ sBd 3 k (hdt B) X) (tok 3 (tyR B) k) hI8.2.2.2.1 (by simp [sBd]; omega)) v_M_put rfl rfl rfl (by decide) rfl (Nat.le_of_ble_eq_true rfl) ?_
        rintro _ _ ⟨i9, r9, rfl, rfl, hx9, hk9⟩
        have hx9 : MW (([tok 7 0 0] ++ sBd 3 k (hdt B) X) ++ [tok 3 (tyR B) k]) i9 r9 := hx9
        have hI9 := hI8.mk hk9 hx9
        show pG m_M_abstraction τ _ 0 0 89 _ _ _
        refine g_aload_n (pc := 89) d_M_abstraction_89 rfl ?_
        refine g_iload_n (pc := 90) d_M_abstraction_90 rfl ?_
        refine g_iload (pc := 91) d_M_abstraction_91 rfl ?_
        refine g_iconst (pc := 93) (v := -1) d_M_abstraction_93 (by decide) ?_
        refine g_callV (M' := m_M_copyWith) (pc := 94) (q := 0) d_M_abstraction_94 lm_M_111 (c_M_copyWith_0 (([tok 7 0 0] ++ sBd 3 k (hdt B) X) ++ [tok 3 (tyR B) k]) q (hdt B) Y hI9.2.2.2.1 (((hY6.kp hYb hk7).kp hYb hk8).kp hYb hk9) hYb gB3 (of_decide_eq_true h5) (by simp [sBd]; omega)) v_M_copyWith rfl rfl rfl (by decide) rfl (Nat.le_of_ble_eq_true rfl) ?_
        rintro _ _ ⟨i10, r10, rfl, rfl, hx10, hk10⟩
        rw [List.append_assoc] at hx10
        have hx10 : MW (([tok 7 0 0] ++ sBd 3 k (hdt B) X) ++ sBd 3 k (hdt B) Y) i10 r10 := hx10
        have hI10 := hI9.mk hk10 hx10
        show pG m_M_abstraction τ _ 0 0 97 _ _ _
        refine g_iconst (pc := 97) (v := nI 0) d_M_abstraction_97 (by decide) ?_
        refine g_iret (pc := 98) d_M_abstraction_98 rfl (Nat.le_refl _) (Nat.le_refl _) ?_
        rw [show (sNum Ty (tyR B) e).1.toNatClampNeg = k by rw [hk]; exact nI_clamp (by omega)]
        have eC : ((if tgR B = 0 then (if sBnd Tm s (hdt B) = true then -3 else (if (sNum Ty (tyR B) e).1 = -4 then -4 else 0)) else -2) : Int32) = 0 := (if_pos (of_decide_eq_true h5)).trans ((if_neg (by rw [h28]; decide)).trans (if_neg (num_pos h49)))
        refine ⟨i10, r10, _, _, _, _, by rw [eC]; rfl, rfl, hI10, hx6, fun _ _ h => h, fun _ => ⟨rfl, rfl, rfl, rfl, wg6, rfl, ?_, by simp [sBd]; omega, hsb⟩⟩
        exact WT_eq (WT_abs (of_decide_eq_true h5) (chk_mono hx6 (fun _ _ h => h) cle_rf wX_) hX30 harw hk16 hkl) (WT_abs (of_decide_eq_true h5) (chk_mono hx6 (fun _ _ h => h) cle_rf wY_) hY30 harw hk16 hkl)
      · refine g_bipush (pc := 52) (v := -4) d_M_abstraction_52 (by decide) ?_
        refine g_iret (pc := 54) d_M_abstraction_54 rfl (Nat.le_refl _) (Nat.le_refl _) ?_
        have q4 := num_neg hT13 h49
        have eC : ((if tgR B = 0 then (if sBnd Tm s (hdt B) = true then -3 else (if (sNum Ty (tyR B) e).1 = -4 then -4 else 0)) else -2) : Int32) = -4 := (if_pos (of_decide_eq_true h5)).trans ((if_neg (by rw [h28]; decide)).trans (if_pos q4))
        exact ⟨i6, r6, _, _, _, _, by rw [eC], rfl, hI6, (GS_num gs.1 wB.lt wX_.lt).2, fun _ _ h => h, fun q => absurd q (by rw [eC]; decide)⟩
    · refine g_bipush (pc := 31) (v := -3) d_M_abstraction_31 (by decide) ?_
      refine g_iret (pc := 33) d_M_abstraction_33 rfl (Nat.le_refl _) (Nat.le_refl _) ?_
      have eC : ((if tgR B = 0 then (if sBnd Tm s (hdt B) = true then -3 else (if (sNum Ty (tyR B) e).1 = -4 then -4 else 0)) else -2) : Int32) = -3 := (if_pos (of_decide_eq_true h5)).trans (if_pos h28)
      exact ⟨i, r, _, _, _, _, by rw [eC], rfl, hI, ext.rf, fun _ _ h => h, fun q => absurd q (by rw [eC]; decide)⟩
  · refine g_bipush (pc := 8) (v := -2) d_M_abstraction_8 (by decide) ?_
    refine g_iret (pc := 10) d_M_abstraction_10 rfl (Nat.le_refl _) (Nat.le_refl _) ?_
    have eC : ((if tgR B = 0 then (if sBnd Tm s (hdt B) = true then -3 else (if (sNum Ty (tyR B) e).1 = -4 then -4 else 0)) else -2) : Int32) = -2 := if_neg (of_decide_eq_false h5)
    exact ⟨i, r, _, _, _, _, by rw [eC], rfl, hI, ext.rf, fun _ _ h => h, fun q => absurd q (by rw [eC]; decide)⟩
set_option maxRecDepth 100000 in
set_option maxHeartbeats 4000000 in
theorem c_M_two_8 {τ : Nat × Nat} {a : Nat → Nat} {i : Nat → Int32} {r : Nat → Nat → Int32} {L : Nat → Nat → Int64} {wr : pW} {Ty : List (Nat × Nat)} {Tm : List (List Nat)} {Th : List Thm} (p : Nat) (B : List Nat) (pB1 : MA (r 0) p B) (pB2 : p + B.length ≤ 1920) (wB : WT Ty (dcl Tm) 0 B) (l q e : Nat) (X Y : List Nat) (hX : MA (r 0) l X) (hXb : l + X.length ≤ 1920) (hY : MA (r 0) q Y) (hYb : q + Y.length ≤ 1920) (wX_ : WT Ty (dcl Tm) e X) (wY_ : WT Ty (dcl Tm) e Y) (s : Nat) (hI : MI Ty Tm Th (dcl Tm) [tok 7 0 0] i r L) (gs : GS Ty Tm Th) (hs : s < 2 ^ 60) (hsb : ∀ t : Nat, s.testBit t = true → t < Tm.length) : pC m_M_two τ [.ref (a 0), .int (nI 8), .int (nI l), .int (nI q), .int (nI p)] (wM a i r L (lN s) ++ wr) (MO a L wr Ty Tm Th (if tgR B = 7 then (if Y = p1 B then 0 else -2) else -2) (s) (Ty) (Tm) (sJn 7 X (p2 B))) := by
  refine pC.of rfl (Nat.le_of_ble_eq_true rfl) ?_
  show pG m_M_two τ _ 0 0 0 [(0, _), (1, _), (2, _), (3, _), (4, _)] [] _
  obtain ⟨gB1, gB2, gB3, gB4⟩ := pB1.hd
  have mB := mu_c gB3
  have hX30 := hX.2.2.2.2
  have hY30 := hY.2.2.2.2
  refine g_aload_n (pc := 0) d_M_two_0 rfl ?_
  refine gm_row (pc := 1) d_M_two_1 lf_M_7 ?_
  refine g_iload (pc := 4) d_M_two_4 rfl ?_
  refine glm_row (pc := 6) (v := nI (mu (hdt B))) d_M_two_6 (vp_in_nI (by omega) (by decide)) (by rw [nI_clamp (by omega)]; exact gB2) ?_
  refine g_iconst (pc := 7) (v := nI 3) d_M_two_7 (by decide) ?_
  refine g_nicmp_eq (pc := 8) (tgt := 14) d_M_two_8 (by decide) (by omega) (by omega) (fun h8 => ?_) (fun h8 => ?_)
  · have hk := mB.2.2.1.mp h8
    obtain ⟨U, V, hBe, hU, hV, hp1, hp2⟩ := pB1.two (by rw [show tgR B = 7 from hk]; decide)
    obtain ⟨-, ut, -, wU, wV, -⟩ := wB.two (Or.inr hk)
    rw [hp1] at wU
    rw [hp2] at wV
    have hbd := MA.bd (f := r 0) hBe pB2
    have hU30 := hU.2.2.2.2
    have hV30 := hV.2.2.2.2
    refine g_iload (pc := 14) d_M_two_14 rfl ?_
    refine g_iconst (pc := 16) (v := nI 1) d_M_two_16 (by decide) ?_
    refine g_nadd (pc := 17) d_M_two_17 ?_
    refine g_istore (pc := 18) [(5, _), (0, _), (1, _), (2, _), (3, _), (4, _)] d_M_two_18 (by decide) rfl ?_
    refine g_aload_n (pc := 20) d_M_two_20 rfl ?_
    refine g_iload (pc := 21) d_M_two_21 rfl ?_
    refine g_callV (M' := m_M_end) (pc := 23) (q := 0) d_M_two_23 lm_M_55 (c_M_end (p + 1) U hU) v_M_end rfl rfl rfl (by decide) rfl (Nat.le_of_ble_eq_true rfl) ?_
    rintro _ _ ⟨rfl, rfl⟩
    show pG m_M_two τ _ 0 0 26 _ (.int _ :: _) _
    refine g_istore (pc := 26) [(6, _), (5, _), (0, _), (1, _), (2, _), (3, _), (4, _)] d_M_two_26 (by decide) rfl ?_
    refine g_iload_n (pc := 28) d_M_two_28 rfl ?_
    refine g_bipush (pc := 29) (v := nI 8) d_M_two_29 (by decide) ?_
    refine g_nicmp_ne (pc := 31) (tgt := 60) d_M_two_31 (by decide) (by omega) (by omega) (fun h => absurd h (by decide)) (fun h31 => ?_)
    refine g_aload_n (pc := 34) d_M_two_34 rfl ?_
    refine g_iload_n (pc := 35) d_M_two_35 rfl ?_
    refine g_iload (pc := 36) d_M_two_36 rfl ?_
    refine g_callV (M' := m_M_same) (pc := 38) (q := 0) d_M_two_38 lm_M_81 (c_M_same q (p + 1) Y U hY hU) v_M_same rfl rfl rfl (by decide) rfl (Nat.le_of_ble_eq_true rfl) ?_
    rintro _ _ ⟨rfl, rfl⟩
    show pG m_M_two τ _ 0 0 41 _ (.int _ :: _) _
    refine g_ifb_ne (pc := 41) (tgt := 47) d_M_two_41 (by decide) (fun h41 => ?_) (fun h41 => ?_)
    · refine g_aload_n (pc := 47) d_M_two_47 rfl ?_
      refine g_iload_n (pc := 48) d_M_two_48 rfl ?_
      refine g_callV (M' := m_M_copy) (pc := 49) (q := 0) d_M_two_49 lm_M_72 (c_M_copy [tok 7 0 0] l X hI.2.2.2.1 hX hXb (by simp; omega)) v_M_copy rfl rfl rfl (by decide) rfl (Nat.le_of_ble_eq_true rfl) ?_
      rintro _ _ ⟨i2, r2, rfl, rfl, hx2, hk2⟩
      have hI2 := hI.mk hk2 hx2
      show pG m_M_two τ _ 0 0 52 _ _ _
      refine g_aload_n (pc := 52) d_M_two_52 rfl ?_
      refine g_iload (pc := 53) d_M_two_53 rfl ?_
      refine g_callV (M' := m_M_copy) (pc := 55) (q := 0) d_M_two_55 lm_M_72 (c_M_copy ([tok 7 0 0] ++ X) (p + 1 + U.length) V hI2.2.2.2.1 (hV.kp hbd.2 hk2) hbd.2 (by simp; omega)) v_M_copy rfl rfl rfl (by decide) rfl (Nat.le_of_ble_eq_true rfl) ?_
      rintro _ _ ⟨i3, r3, rfl, rfl, hx3, hk3⟩
      have hx3 : MW (sJn 7 X V) i3 r3 := hx3
      rw [← hp2] at hx3
      have hI3 := hI2.mk hk3 hx3
      show pG m_M_two τ _ 0 0 58 _ _ _
      refine g_iconst (pc := 58) (v := nI 0) d_M_two_58 (by decide) ?_
      refine g_iret (pc := 59) d_M_two_59 rfl (Nat.le_refl _) (Nat.le_refl _) ?_
      have hYU : Y = U := chk_inj gs.1.1 30 hY30 wY_ wU (of_decide_eq_true h41)
      have het : e = ut := by rw [← wY_.ty, ← wU.ty, hYU]
      rw [← het, ← hp2] at wV
      have eC : ((if tgR B = 7 then (if Y = p1 B then 0 else -2) else -2) : Int32) = 0 := (if_pos hk).trans (if_pos (hYU.trans hp1.symm))
      exact ⟨i3, r3, _, _, _, _, by rw [eC]; rfl, rfl, hI3, ext.rf, fun _ _ h => h, fun _ => ⟨rfl, rfl, rfl, rfl, gs.1, rfl, WT_eq wX_ wV, (by rw [hp2]; simp [sJn]; omega), hsb⟩⟩
    · refine g_bipush (pc := 44) (v := -2) d_M_two_44 (by decide) ?_
      refine g_iret (pc := 46) d_M_two_46 rfl (Nat.le_refl _) (Nat.le_refl _) ?_
      have hno : ¬ Y = p1 B := by
        intro q
        rw [hp1] at q
        rw [q] at h41
        simp at h41
      have eC : ((if tgR B = 7 then (if Y = p1 B then 0 else -2) else -2) : Int32) = -2 := (if_pos hk).trans (if_neg hno)
      exact ⟨i, r, _, _, _, _, by rw [eC], rfl, hI, ext.rf, fun _ _ h => h, fun q => absurd q (by rw [eC]; decide)⟩
  · refine g_bipush (pc := 11) (v := -2) d_M_two_11 (by decide) ?_
    refine g_iret (pc := 13) d_M_two_13 rfl (Nat.le_refl _) (Nat.le_refl _) ?_
    have eC : ((if tgR B = 7 then (if Y = p1 B then 0 else -2) else -2) : Int32) = -2 := if_neg (fun q => h8 (mB.2.2.1.mpr q))
    exact ⟨i, r, _, _, _, _, by rw [eC], rfl, hI, ext.rf, fun _ _ h => h, fun q => absurd q (by rw [eC]; decide)⟩
set_option maxRecDepth 100000 in
set_option maxHeartbeats 4000000 in
theorem c_M_two_9 {τ : Nat × Nat} {a : Nat → Nat} {i : Nat → Int32} {r : Nat → Nat → Int32} {L : Nat → Nat → Int64} {wr : pW} {Ty : List (Nat × Nat)} {Tm : List (List Nat)} {Th : List Thm} (p : Nat) (B : List Nat) (pB1 : MA (r 0) p B) (pB2 : p + B.length ≤ 1920) (wB : WT Ty (dcl Tm) 0 B) (l q e : Nat) (X Y : List Nat) (hX : MA (r 0) l X) (hXb : l + X.length ≤ 1920) (hY : MA (r 0) q Y) (hYb : q + Y.length ≤ 1920) (wX_ : WT Ty (dcl Tm) e X) (wY_ : WT Ty (dcl Tm) e Y) (s : Nat) (hI : MI Ty Tm Th (dcl Tm) [tok 7 0 0] i r L) (gs : GS Ty Tm Th) (hs : s < 2 ^ 60) (hsb : ∀ t : Nat, s.testBit t = true → t < Tm.length) : pC m_M_two τ [.ref (a 0), .int (nI 9), .int (nI l), .int (nI q), .int (nI p)] (wM a i r L (lN s) ++ wr) (MO a L wr Ty Tm Th (if tgR B = 7 then (if tks Ty e (tyR (p1 B)) = true then 0 else -2) else -2) (s) (Ty) (Tm) (tok 7 0 0 :: (sAp Ty X (p1 B) ++ sAp Ty Y (p2 B)))) := by
  refine pC.of rfl (Nat.le_of_ble_eq_true rfl) ?_
  show pG m_M_two τ _ 0 0 0 [(0, _), (1, _), (2, _), (3, _), (4, _)] [] _
  obtain ⟨gB1, gB2, gB3, gB4⟩ := pB1.hd
  have mB := mu_c gB3
  have hT13 := hI.b.1
  have hX30 := hX.2.2.2.2
  have hY30 := hY.2.2.2.2
  refine g_aload_n (pc := 0) d_M_two_0 rfl ?_
  refine gm_row (pc := 1) d_M_two_1 lf_M_7 ?_
  refine g_iload (pc := 4) d_M_two_4 rfl ?_
  refine glm_row (pc := 6) (v := nI (mu (hdt B))) d_M_two_6 (vp_in_nI (by omega) (by decide)) (by rw [nI_clamp (by omega)]; exact gB2) ?_
  refine g_iconst (pc := 7) (v := nI 3) d_M_two_7 (by decide) ?_
  refine g_nicmp_eq (pc := 8) (tgt := 14) d_M_two_8 (by decide) (by omega) (by omega) (fun h8 => ?_) (fun h8 => ?_)
  · have hk := mB.2.2.1.mp h8
    obtain ⟨U, V, hBe, hU, hV, hp1, hp2⟩ := pB1.two (by rw [show tgR B = 7 from hk]; decide)
    obtain ⟨-, ut, -, wU, wV, -⟩ := wB.two (Or.inr hk)
    rw [hp1] at wU
    rw [hp2] at wV
    have hbd := MA.bd (f := r 0) hBe pB2
    have hU30 := hU.2.2.2.2
    have hV30 := hV.2.2.2.2
    have lU := tyR_lt U
    refine g_iload (pc := 14) d_M_two_14 rfl ?_
    refine g_iconst (pc := 16) (v := nI 1) d_M_two_16 (by decide) ?_
    refine g_nadd (pc := 17) d_M_two_17 ?_
    refine g_istore (pc := 18) [(5, _), (0, _), (1, _), (2, _), (3, _), (4, _)] d_M_two_18 (by decide) rfl ?_
    refine g_aload_n (pc := 20) d_M_two_20 rfl ?_
    refine g_iload (pc := 21) d_M_two_21 rfl ?_
    refine g_callV (M' := m_M_end) (pc := 23) (q := 0) d_M_two_23 lm_M_55 (c_M_end (p + 1) U hU) v_M_end rfl rfl rfl (by decide) rfl (Nat.le_of_ble_eq_true rfl) ?_
    rintro _ _ ⟨rfl, rfl⟩
    show pG m_M_two τ _ 0 0 26 _ (.int _ :: _) _
    refine g_istore (pc := 26) [(6, _), (5, _), (0, _), (1, _), (2, _), (3, _), (4, _)] d_M_two_26 (by decide) rfl ?_
    refine g_iload_n (pc := 28) d_M_two_28 rfl ?_
    refine g_bipush (pc := 29) (v := nI 8) d_M_two_29 (by decide) ?_
    refine g_nicmp_ne (pc := 31) (tgt := 60) d_M_two_31 (by decide) (by omega) (by omega) (fun h31 => ?_) (fun h => absurd h (by decide))
    refine g_aload_n (pc := 60) d_M_two_60 rfl ?_
    refine g_iload_n (pc := 61) d_M_two_61 rfl ?_
    refine g_callV (M' := m_M_typesAt) (pc := 62) (q := 0) d_M_two_62 lm_M_85 (c_M_typesAt Ty (dcl Tm) l e X hX wX_ hI.1 hI.2.2.1 gs.1.1) v_M_typesAt rfl rfl rfl (by decide) rfl (Nat.le_of_ble_eq_true rfl) ?_
    rintro _ _ ⟨r5, rfl, rfl, hr5⟩
    have hI5 := hI.k3 hr5
    show pG m_M_two τ _ 0 0 65 _ (.int _ :: _) _
    refine g_istore (pc := 65) [(7, _), (6, _), (5, _), (0, _), (1, _), (2, _), (3, _), (4, _)] d_M_two_65 (by decide) rfl ?_
    refine g_aload_n (pc := 67) d_M_two_67 rfl ?_
    refine g_iload (pc := 68) d_M_two_68 rfl ?_
    refine g_aload_n (pc := 70) d_M_two_70 rfl ?_
    refine g_iload (pc := 71) d_M_two_71 rfl ?_
    refine g_callV (M' := m_M_typesAt) (pc := 73) (q := 0) d_M_two_73 lm_M_85 (c_M_typesAt Ty (dcl Tm) (p + 1) ut U (by rw [hr5 0 (by decide)]; exact hU) wU hI5.1 hI5.2.2.1 gs.1.1) v_M_typesAt rfl rfl rfl (by decide) rfl (Nat.le_of_ble_eq_true rfl) ?_
    rintro _ _ ⟨r6, rfl, rfl, hr6⟩
    have hI6 := hI5.k3 hr6
    show pG m_M_two τ _ 0 0 76 _ (.int _ :: _) _
    refine g_callV (M' := m_M_fits) (pc := 76) (q := 0) d_M_two_76 lm_M_102 (c_M_fits e ut (by have := wX_.ty; have := tyR_lt X; omega)) v_M_fits rfl rfl rfl (by decide) rfl (Nat.le_of_ble_eq_true rfl) ?_
    rintro _ _ ⟨rfl, rfl⟩
    show pG m_M_two τ _ 0 0 79 _ (.int _ :: _) _
    rw [mtks hI6.1 wX_.lt (by rw [← wU.ty]; exact lU)]
    refine g_ifb_ne (pc := 79) (tgt := 85) d_M_two_79 (by decide) (fun h79 => ?_) (fun h79 => ?_)
    · obtain ⟨wS, hr16⟩ := WT_sAp gs hT13 wX_ wU h79
      obtain ⟨wS2, -⟩ := WT_sAp gs hT13 wY_ wV h79
      have hX6 : MA (r6 0) l X := by rw [hr6 0 (by decide), hr5 0 (by decide)]; exact hX
      have hY6 : MA (r6 0) q Y := by rw [hr6 0 (by decide), hr5 0 (by decide)]; exact hY
      have hU6 : MA (r6 0) (p + 1) U := by rw [hr6 0 (by decide), hr5 0 (by decide)]; exact hU
      have hV6 : MA (r6 0) (p + 1 + U.length) V := by rw [hr6 0 (by decide), hr5 0 (by decide)]; exact hV
      refine g_aload_n (pc := 85) d_M_two_85 rfl ?_
      refine g_iconst (pc := 86) (v := nI 1) d_M_two_86 (by decide) ?_
      refine g_topi (nI (mu (tok 5 0 (res Ty e)))) (by rw [mu_5 hr16]) ?_
      refine g_callV (M' := m_M_put) (pc := 87) (q := 0) d_M_two_87 lm_M_68 (c_M_put [tok 7 0 0] (tok 5 0 (res Ty e)) hI6.2.2.2.1 (by simp)) v_M_put rfl rfl rfl (by decide) rfl (Nat.le_of_ble_eq_true rfl) ?_
      rintro _ _ ⟨i7, r7, rfl, rfl, hx7, hk7⟩
      have hI7 := hI6.mk hk7 hx7
      show pG m_M_two τ _ 0 0 90 _ _ _
      refine g_aload_n (pc := 90) d_M_two_90 rfl ?_
      refine g_iload_n (pc := 91) d_M_two_91 rfl ?_
      refine g_callV (M' := m_M_copy) (pc := 92) (q := 0) d_M_two_92 lm_M_72 (c_M_copy ([tok 7 0 0] ++ [tok 5 0 (res Ty e)]) l X hI7.2.2.2.1 (hX6.kp hXb hk7) hXb (by simp; omega)) v_M_copy rfl rfl rfl (by decide) rfl (Nat.le_of_ble_eq_true rfl) ?_
      rintro _ _ ⟨i8, r8, rfl, rfl, hx8, hk8⟩
      have hI8 := hI7.mk hk8 hx8
      show pG m_M_two τ _ 0 0 95 _ _ _
      refine g_aload_n (pc := 95) d_M_two_95 rfl ?_
      refine g_iload (pc := 96) d_M_two_96 rfl ?_
      refine g_callV (M' := m_M_copy) (pc := 98) (q := 0) d_M_two_98 lm_M_72 (c_M_copy (([tok 7 0 0] ++ [tok 5 0 (res Ty e)]) ++ X) (p + 1) U hI8.2.2.2.1 ((hU6.kp hbd.1 hk7).kp hbd.1 hk8) hbd.1 (by simp; omega)) v_M_copy rfl rfl rfl (by decide) rfl (Nat.le_of_ble_eq_true rfl) ?_
      rintro _ _ ⟨i9, r9, rfl, rfl, hx9, hk9⟩
      have hI9 := hI8.mk hk9 hx9
      show pG m_M_two τ _ 0 0 101 _ _ _
      refine g_aload_n (pc := 101) d_M_two_101 rfl ?_
      refine g_iconst (pc := 102) (v := nI 1) d_M_two_102 (by decide) ?_
      refine g_topi (nI (mu (tok 5 0 (res Ty e)))) (by rw [mu_5 hr16]) ?_
      refine g_callV (M' := m_M_put) (pc := 103) (q := 0) d_M_two_103 lm_M_68 (c_M_put ((([tok 7 0 0] ++ [tok 5 0 (res Ty e)]) ++ X) ++ U) (tok 5 0 (res Ty e)) hI9.2.2.2.1 (by simp; omega)) v_M_put rfl rfl rfl (by decide) rfl (Nat.le_of_ble_eq_true rfl) ?_
      rintro _ _ ⟨i10, r10, rfl, rfl, hx10, hk10⟩
      have hI10 := hI9.mk hk10 hx10
      show pG m_M_two τ _ 0 0 106 _ _ _
      refine g_aload_n (pc := 106) d_M_two_106 rfl ?_
      refine g_iload_n (pc := 107) d_M_two_107 rfl ?_
      refine g_callV (M' := m_M_copy) (pc := 108) (q := 0) d_M_two_108 lm_M_72 (c_M_copy (((([tok 7 0 0] ++ [tok 5 0 (res Ty e)]) ++ X) ++ U) ++ [tok 5 0 (res Ty e)]) q Y hI10.2.2.2.1 ((((hY6.kp hYb hk7).kp hYb hk8).kp hYb hk9).kp hYb hk10) hYb (by simp; omega)) v_M_copy rfl rfl rfl (by decide) rfl (Nat.le_of_ble_eq_true rfl) ?_
      rintro _ _ ⟨i11, r11, rfl, rfl, hx11, hk11⟩
      have hI11 := hI10.mk hk11 hx11
      show pG m_M_two τ _ 0 0 111 _ _ _
      refine g_aload_n (pc := 111) d_M_two_111 rfl ?_
      refine g_iload (pc := 112) d_M_two_112 rfl ?_
      refine g_callV (M' := m_M_copy) (pc := 114) (q := 0) d_M_two_114 lm_M_72 (c_M_copy ((((([tok 7 0 0] ++ [tok 5 0 (res Ty e)]) ++ X) ++ U) ++ [tok 5 0 (res Ty e)]) ++ Y) (p + 1 + U.length) V hI11.2.2.2.1 (((((hV6.kp hbd.2 hk7).kp hbd.2 hk8).kp hbd.2 hk9).kp hbd.2 hk10).kp hbd.2 hk11) hbd.2 (by simp; omega)) v_M_copy rfl rfl rfl (by decide) rfl (Nat.le_of_ble_eq_true rfl) ?_
      rintro _ _ ⟨i12, r12, rfl, rfl, hx12, hk12⟩
      have hx12 : MW (tok 7 0 0 :: (sAp Ty X (p1 B) ++ sAp Ty Y (p2 B))) i12 r12 := by
        rw [hp1, hp2]
        unfold sAp
        rw [wX_.ty, wY_.ty]
        simpa using hx12
      have hI12 := hI11.mk hk12 hx12
      show pG m_M_two τ _ 0 0 117 _ _ _
      refine g_iconst (pc := 117) (v := nI 0) d_M_two_117 (by decide) ?_
      refine g_iret (pc := 118) d_M_two_118 rfl (Nat.le_refl _) (Nat.le_refl _) ?_
      rw [← hp1] at wS
      rw [← hp2] at wS2
      rw [← wU.ty, ← hp1] at h79
      have hpl1 : (p1 B).length ≤ 30 := by rw [hp1]; exact hU30
      have hpl2 : (p2 B).length ≤ 30 := by rw [hp2]; exact hV30
      have eC : ((if tgR B = 7 then (if tks Ty e (tyR (p1 B)) = true then 0 else -2) else -2) : Int32) = 0 := (if_pos hk).trans (if_pos h79)
      exact ⟨i12, r12, _, _, _, _, by rw [eC]; rfl, rfl, hI12, ext.rf, fun _ _ h => h, fun _ => ⟨rfl, rfl, rfl, rfl, gs.1, rfl, WT_eq wS wS2, (by simp [sAp]; omega), hsb⟩⟩
    · refine g_bipush (pc := 82) (v := -2) d_M_two_82 (by decide) ?_
      refine g_iret (pc := 84) d_M_two_84 rfl (Nat.le_refl _) (Nat.le_refl _) ?_
      rw [← wU.ty, ← hp1] at h79
      have eC : ((if tgR B = 7 then (if tks Ty e (tyR (p1 B)) = true then 0 else -2) else -2) : Int32) = -2 := (if_pos hk).trans (if_neg (by rw [h79]; decide))
      exact ⟨i, r6, _, _, _, _, by rw [eC], rfl, hI6, ext.rf, fun _ _ h => h, fun q => absurd q (by rw [eC]; decide)⟩
  · refine g_bipush (pc := 11) (v := -2) d_M_two_11 (by decide) ?_
    refine g_iret (pc := 13) d_M_two_13 rfl (Nat.le_refl _) (Nat.le_refl _) ?_
    have eC : ((if tgR B = 7 then (if tks Ty e (tyR (p1 B)) = true then 0 else -2) else -2) : Int32) = -2 := if_neg (fun q => h8 (mB.2.2.1.mpr q))
    exact ⟨i, r, _, _, _, _, by rw [eC], rfl, hI, ext.rf, fun _ _ h => h, fun q => absurd q (by rw [eC]; decide)⟩
set_option maxRecDepth 100000 in
set_option maxHeartbeats 4000000 in
theorem c_M_equate_6 {τ : Nat × Nat} {a : Nat → Nat} {i : Nat → Int32} {r : Nat → Nat → Int32} {L : Nat → Nat → Int64} {wr : pW} {Ty : List (Nat × Nat)} {Tm : List (List Nat)} {Th : List Thm} (x : Nat) (A : List Nat) (hA0_ : Tm[x]? = some A) (y : Int32) (s : Nat) (hI : MI Ty Tm Th (dcl Tm) [] i r L) (gs : GS Ty Tm Th) (hs : s < 2 ^ 60) (hsb : ∀ t : Nat, s.testBit t = true → t < Tm.length) : pC m_M_equate τ [.ref (a 0), .int (nI 6), .int (nI x), .int y] (wM a i r L (lN s) ++ wr) (MO a L wr Ty Tm Th (0) (s) (Ty) (Tm) (sJn 7 A A)) := by
  refine pC.of rfl (Nat.le_of_ble_eq_true rfl) ?_
  show pG m_M_equate τ _ 0 0 0 [(0, _), (1, _), (2, _), (3, _)] [] _
  obtain ⟨pA1, pA2, pA3, pA4, pA5, pA6⟩ := hI.2.1.mg gs.1 hA0_
  have wA := gs.row hA0_
  have lA := tyR_lt A
  obtain ⟨gA1, gA2, gA3, gA4⟩ := pA1.hd
  have mA := mu_c gA3
  refine g_aload_n (pc := 0) d_M_equate_0 rfl ?_
  refine g_iconst (pc := 1) (v := nI 3) d_M_equate_1 (by decide) ?_
  refine g_topi (nI (mu (tok 7 0 0))) (by rw [mu_7]) ?_
  refine g_callV (M' := m_M_put) (pc := 2) (q := 0) d_M_equate_2 lm_M_68 (c_M_put [] (tok 7 0 0) hI.2.2.2.1 (by simp)) v_M_put rfl rfl rfl (by decide) rfl (Nat.le_of_ble_eq_true rfl) ?_
  rintro _ _ ⟨i2, r2, rfl, rfl, hx2, hk2⟩
  have hx2 : MW [tok 7 0 0] i2 r2 := hx2
  have hI2 := hI.mk hk2 hx2
  have qA1 := pA1.kp pA2 hk2
  show pG m_M_equate τ _ 0 0 5 _ _ _
  refine g_iload_n (pc := 5) d_M_equate_5 rfl ?_
  refine g_bipush (pc := 6) (v := nI 6) d_M_equate_6 (by decide) ?_
  refine g_nicmp_eq (pc := 8) (tgt := 17) d_M_equate_8 (by decide) (by omega) (by omega) (fun h8 => ?_) (fun h => absurd h (by decide))
  refine g_bipush (pc := 17) (v := nI 32) d_M_equate_17 (by decide) ?_
  refine g_iload_n (pc := 19) d_M_equate_19 rfl ?_
  refine g_nmul (pc := 20) d_M_equate_20 ?_
  refine g_goto (pc := 21) (tgt := 33) d_M_equate_21 (by decide) ?_
  refine g_istore (pc := 33) [(4, _), (0, _), (1, _), (2, _), (3, _)] d_M_equate_33 (by decide) rfl ?_
  refine g_iload_n (pc := 35) d_M_equate_35 rfl ?_
  refine g_bipush (pc := 36) (v := nI 6) d_M_equate_36 (by decide) ?_
  refine g_nicmp_ne (pc := 38) (tgt := 56) d_M_equate_38 (by decide) (by omega) (by omega) (fun h => absurd h (by decide)) (fun h38 => ?_)
  refine g_aload_n (pc := 41) d_M_equate_41 rfl ?_
  refine g_iload (pc := 42) d_M_equate_42 rfl ?_
  refine g_callV (M' := m_M_copy) (pc := 44) (q := 0) d_M_equate_44 lm_M_72 (c_M_copy [tok 7 0 0] (32 * x) A hI2.2.2.2.1 qA1 pA2 (by simp; omega)) v_M_copy rfl rfl rfl (by decide) rfl (Nat.le_of_ble_eq_true rfl) ?_
  rintro _ _ ⟨i3, r3, rfl, rfl, hx3, hk3⟩
  have hx3 : MW ([tok 7 0 0] ++ A) i3 r3 := hx3
  have hI3 := hI2.mk hk3 hx3
  show pG m_M_equate τ _ 0 0 47 _ _ _
  refine g_aload_n (pc := 47) d_M_equate_47 rfl ?_
  refine g_iload (pc := 48) d_M_equate_48 rfl ?_
  refine g_callV (M' := m_M_copy) (pc := 50) (q := 0) d_M_equate_50 lm_M_72 (c_M_copy ([tok 7 0 0] ++ A) (32 * x) A hI3.2.2.2.1 (qA1.kp pA2 hk3) pA2 (by simp; omega)) v_M_copy rfl rfl rfl (by decide) rfl (Nat.le_of_ble_eq_true rfl) ?_
  rintro _ _ ⟨i4, r4, rfl, rfl, hx4, hk4⟩
  have hx4 : MW (sJn 7 A A) i4 r4 := hx4
  have hI4 := hI3.mk hk4 hx4
  show pG m_M_equate τ _ 0 0 53 _ _ _
  refine g_goto (pc := 53) (tgt := 213) d_M_equate_53 (by decide) ?_
  refine g_iconst (pc := 213) (v := nI 0) d_M_equate_213 (by decide) ?_
  refine g_iret (pc := 214) d_M_equate_214 rfl (Nat.le_refl _) (Nat.le_refl _) ?_
  exact ⟨i4, r4, _, _, _, _, rfl, rfl, hI4, ext.rf, fun _ _ h => h, fun _ => ⟨rfl, rfl, rfl, rfl, gs.1, rfl, WT_eq wA wA, by simp [sJn]; omega, hsb⟩⟩
set_option maxRecDepth 100000 in
set_option maxHeartbeats 4000000 in
theorem c_M_equate_7 {τ : Nat × Nat} {a : Nat → Nat} {i : Nat → Int32} {r : Nat → Nat → Int32} {L : Nat → Nat → Int64} {wr : pW} {Ty : List (Nat × Nat)} {Tm : List (List Nat)} {Th : List Thm} (x ux vx zx hx cx : Nat) (A : List Nat) (tx : Th[x]? = some (ux, vx, zx, hx, cx)) (hA0_ : Tm[cx]? = some A) (y : Int32) (s : Nat) (hI : MI Ty Tm Th (dcl Tm) [] i r L) (gs : GS Ty Tm Th) (hs : s < 2 ^ 60) (hsb : ∀ t : Nat, s.testBit t = true → t < Tm.length) : pC m_M_equate τ [.ref (a 0), .int (nI 7), .int (nI x), .int y] (wM a i r L (lN s) ++ wr) (MO a L wr Ty Tm Th (if tgR A = 7 then 0 else -2) (s) (Ty) (Tm) (sJn 7 (p2 A) (p1 A))) := by
  refine pC.of rfl (Nat.le_of_ble_eq_true rfl) ?_
  show pG m_M_equate τ _ 0 0 0 [(0, _), (1, _), (2, _), (3, _)] [] _
  obtain ⟨pA1, pA2, pA3, pA4, pA5, pA6⟩ := hI.2.1.mg gs.1 hA0_
  have wA := gs.row hA0_
  have lA := tyR_lt A
  obtain ⟨gA1, gA2, gA3, gA4⟩ := pA1.hd
  have mA := mu_c gA3
  obtain ⟨hx4, hxL, hx7⟩ := hI.th tx
  have oA := gs.c0 tx hA0_
  refine g_aload_n (pc := 0) d_M_equate_0 rfl ?_
  refine g_iconst (pc := 1) (v := nI 3) d_M_equate_1 (by decide) ?_
  refine g_topi (nI (mu (tok 7 0 0))) (by rw [mu_7]) ?_
  refine g_callV (M' := m_M_put) (pc := 2) (q := 0) d_M_equate_2 lm_M_68 (c_M_put [] (tok 7 0 0) hI.2.2.2.1 (by simp)) v_M_put rfl rfl rfl (by decide) rfl (Nat.le_of_ble_eq_true rfl) ?_
  rintro _ _ ⟨i2, r2, rfl, rfl, hx2, hk2⟩
  have hx2 : MW [tok 7 0 0] i2 r2 := hx2
  have hI2 := hI.mk hk2 hx2
  have qA1 := pA1.kp pA2 hk2
  show pG m_M_equate τ _ 0 0 5 _ _ _
  refine g_iload_n (pc := 5) d_M_equate_5 rfl ?_
  refine g_bipush (pc := 6) (v := nI 6) d_M_equate_6 (by decide) ?_
  refine g_nicmp_eq (pc := 8) (tgt := 17) d_M_equate_8 (by decide) (by omega) (by omega) (fun h => absurd h (by decide)) (fun h8 => ?_)
  refine g_iload_n (pc := 11) d_M_equate_11 rfl ?_
  refine g_bipush (pc := 12) (v := nI 11) d_M_equate_12 (by decide) ?_
  refine g_nicmp_ne (pc := 14) (tgt := 24) d_M_equate_14 (by decide) (by omega) (by omega) (fun h14 => ?_) (fun h => absurd h (by decide))
  refine g_bipush (pc := 24) (v := nI 32) d_M_equate_24 (by decide) ?_
  refine g_aload_n (pc := 26) d_M_equate_26 rfl ?_
  refine gm_conclusion (pc := 27) d_M_equate_27 lf_M_39 ?_
  refine g_iload_n (pc := 30) d_M_equate_30 rfl ?_
  refine glm_conclusion (pc := 31) (v := nI cx) d_M_equate_31 (vp_in_nI (by omega) (by decide)) (by rw [nI_clamp (by omega), hk2.2.1 7 (by decide)]; exact hx7) ?_
  refine g_nmul (pc := 32) d_M_equate_32 ?_
  refine g_istore (pc := 33) [(4, _), (0, _), (1, _), (2, _), (3, _)] d_M_equate_33 (by decide) rfl ?_
  refine g_iload_n (pc := 35) d_M_equate_35 rfl ?_
  refine g_bipush (pc := 36) (v := nI 6) d_M_equate_36 (by decide) ?_
  refine g_nicmp_ne (pc := 38) (tgt := 56) d_M_equate_38 (by decide) (by omega) (by omega) (fun h38 => ?_) (fun h => absurd h (by decide))
  refine g_iload_n (pc := 56) d_M_equate_56 rfl ?_
  refine g_bipush (pc := 57) (v := nI 11) d_M_equate_57 (by decide) ?_
  refine g_nicmp_ne (pc := 59) (tgt := 129) d_M_equate_59 (by decide) (by omega) (by omega) (fun h59 => ?_) (fun h => absurd h (by decide))
  refine g_aload_n (pc := 129) d_M_equate_129 rfl ?_
  refine gm_row (pc := 130) d_M_equate_130 lf_M_7 ?_
  refine g_iload (pc := 133) d_M_equate_133 rfl ?_
  refine glm_row (pc := 135) (v := nI (mu (hdt A))) d_M_equate_135 (vp_in_nI (by omega) (by decide)) (by rw [nI_clamp (by omega)]; exact qA1.hd.2.1) ?_
  refine g_iconst (pc := 136) (v := nI 3) d_M_equate_136 (by decide) ?_
  refine g_nicmp_eq (pc := 137) (tgt := 143) d_M_equate_137 (by decide) (by omega) (by omega) (fun h137 => ?_) (fun h137 => ?_)
  · have hk := mA.2.2.1.mp h137
    obtain ⟨X, Y, hAe, hX, hY, hp1, hp2⟩ := qA1.two (by rw [show tgR A = 7 from hk]; decide)
    obtain ⟨-, xt, -, wP1, wP2, -⟩ := wA.two (Or.inr hk)
    have hbd := MA.bd (f := r 0) hAe pA2
    have hX30 := hX.2.2.2.2
    have hY30 := hY.2.2.2.2
    refine g_iload (pc := 143) d_M_equate_143 rfl ?_
    refine g_iconst (pc := 145) (v := nI 1) d_M_equate_145 (by decide) ?_
    refine g_nadd (pc := 146) d_M_equate_146 ?_
    refine g_istore (pc := 147) [(5, _), (4, _), (0, _), (1, _), (2, _), (3, _)] d_M_equate_147 (by decide) rfl ?_
    refine g_aload_n (pc := 149) d_M_equate_149 rfl ?_
    refine g_iload (pc := 150) d_M_equate_150 rfl ?_
    refine g_callV (M' := m_M_end) (pc := 152) (q := 0) d_M_equate_152 lm_M_55 (c_M_end (32 * cx + 1) X hX) v_M_end rfl rfl rfl (by decide) rfl (Nat.le_of_ble_eq_true rfl) ?_
    rintro _ _ ⟨rfl, rfl⟩
    show pG m_M_equate τ _ 0 0 155 _ (.int _ :: _) _
    refine g_istore (pc := 155) [(6, _), (5, _), (4, _), (0, _), (1, _), (2, _), (3, _)] d_M_equate_155 (by decide) rfl ?_
    refine g_iload_n (pc := 157) d_M_equate_157 rfl ?_
    refine g_bipush (pc := 158) (v := nI 7) d_M_equate_158 (by decide) ?_
    refine g_nicmp_ne (pc := 160) (tgt := 178) d_M_equate_160 (by decide) (by omega) (by omega) (fun h => absurd h (by decide)) (fun h160 => ?_)
    refine g_aload_n (pc := 163) d_M_equate_163 rfl ?_
    refine g_iload (pc := 164) d_M_equate_164 rfl ?_
    refine g_callV (M' := m_M_copy) (pc := 166) (q := 0) d_M_equate_166 lm_M_72 (c_M_copy [tok 7 0 0] (32 * cx + 1 + X.length) Y hI2.2.2.2.1 hY hbd.2 (by simp; omega)) v_M_copy rfl rfl rfl (by decide) rfl (Nat.le_of_ble_eq_true rfl) ?_
    rintro _ _ ⟨i3, r3, rfl, rfl, hx3, hk3⟩
    have hx3 : MW ([tok 7 0 0] ++ Y) i3 r3 := hx3
    have hI3 := hI2.mk hk3 hx3
    show pG m_M_equate τ _ 0 0 169 _ _ _
    refine g_aload_n (pc := 169) d_M_equate_169 rfl ?_
    refine g_iload (pc := 170) d_M_equate_170 rfl ?_
    refine g_callV (M' := m_M_copy) (pc := 172) (q := 0) d_M_equate_172 lm_M_72 (c_M_copy ([tok 7 0 0] ++ Y) (32 * cx + 1) X hI3.2.2.2.1 (hX.kp hbd.1 hk3) hbd.1 (by simp; omega)) v_M_copy rfl rfl rfl (by decide) rfl (Nat.le_of_ble_eq_true rfl) ?_
    rintro _ _ ⟨i4, r4, rfl, rfl, hx4, hk4⟩
    have hx4 : MW (sJn 7 Y X) i4 r4 := hx4
    rw [← hp1, ← hp2] at hx4
    have hI4 := hI3.mk hk4 hx4
    show pG m_M_equate τ _ 0 0 175 _ _ _
    refine g_goto (pc := 175) (tgt := 213) d_M_equate_175 (by decide) ?_
    refine g_iconst (pc := 213) (v := nI 0) d_M_equate_213 (by decide) ?_
    refine g_iret (pc := 214) d_M_equate_214 rfl (Nat.le_refl _) (Nat.le_refl _) ?_
    have eC : ((if tgR A = 7 then 0 else -2) : Int32) = 0 := if_pos hk
    exact ⟨i4, r4, _, _, _, _, by rw [eC]; rfl, rfl, hI4, ext.rf, fun _ _ h => h, fun _ => ⟨rfl, rfl, rfl, rfl, gs.1, rfl, WT_eq wP2 wP1, (by rw [hp1, hp2]; simp [sJn]; omega), hsb⟩⟩
  · refine g_bipush (pc := 140) (v := -2) d_M_equate_140 (by decide) ?_
    refine g_iret (pc := 142) d_M_equate_142 rfl (Nat.le_refl _) (Nat.le_refl _) ?_
    have eC : ((if tgR A = 7 then 0 else -2) : Int32) = -2 := if_neg (fun q => h137 (mA.2.2.1.mpr q))
    exact ⟨i2, r2, _, _, _, _, by rw [eC], rfl, hI2, ext.rf, fun _ _ h => h, fun q => absurd q (by rw [eC]; decide)⟩
set_option maxRecDepth 100000 in
set_option maxHeartbeats 4000000 in
theorem c_M_equate_8 {τ : Nat × Nat} {a : Nat → Nat} {i : Nat → Int32} {r : Nat → Nat → Int32} {L : Nat → Nat → Int64} {wr : pW} {Ty : List (Nat × Nat)} {Tm : List (List Nat)} {Th : List Thm} (x ux vx zx hx cx : Nat) (A : List Nat) (tx : Th[x]? = some (ux, vx, zx, hx, cx)) (hA0_ : Tm[cx]? = some A) (y uy vy zy hy cy : Nat) (B : List Nat) (ty : Th[y]? = some (uy, vy, zy, hy, cy)) (hB0_ : Tm[cy]? = some B) (s : Nat) (hI : MI Ty Tm Th (dcl Tm) [] i r L) (gs : GS Ty Tm Th) (hs : s < 2 ^ 60) (hsb : ∀ t : Nat, s.testBit t = true → t < Tm.length) : pC m_M_equate τ [.ref (a 0), .int (nI 8), .int (nI x), .int (nI y)] (wM a i r L (lN s) ++ wr) (MO a L wr Ty Tm Th (if tgR A = 7 then (if tgR B = 7 then (if p2 A = p1 B then 0 else -2) else -2) else -2) (s) (Ty) (Tm) (sJn 7 (p1 A) (p2 B))) := by
  refine pC.of rfl (Nat.le_of_ble_eq_true rfl) ?_
  show pG m_M_equate τ _ 0 0 0 [(0, _), (1, _), (2, _), (3, _)] [] _
  obtain ⟨pA1, pA2, pA3, pA4, pA5, pA6⟩ := hI.2.1.mg gs.1 hA0_
  have wA := gs.row hA0_
  have lA := tyR_lt A
  obtain ⟨gA1, gA2, gA3, gA4⟩ := pA1.hd
  have mA := mu_c gA3
  obtain ⟨hx4, hxL, hx7⟩ := hI.th tx
  have oA := gs.c0 tx hA0_
  obtain ⟨pB1, pB2, pB3, pB4, pB5, pB6⟩ := hI.2.1.mg gs.1 hB0_
  have wB := gs.row hB0_
  have lB := tyR_lt B
  obtain ⟨gB1, gB2, gB3, gB4⟩ := pB1.hd
  have mB := mu_c gB3
  obtain ⟨hy4, hyL, hy7⟩ := hI.th ty
  have oB := gs.c0 ty hB0_
  refine g_aload_n (pc := 0) d_M_equate_0 rfl ?_
  refine g_iconst (pc := 1) (v := nI 3) d_M_equate_1 (by decide) ?_
  refine g_topi (nI (mu (tok 7 0 0))) (by rw [mu_7]) ?_
  refine g_callV (M' := m_M_put) (pc := 2) (q := 0) d_M_equate_2 lm_M_68 (c_M_put [] (tok 7 0 0) hI.2.2.2.1 (by simp)) v_M_put rfl rfl rfl (by decide) rfl (Nat.le_of_ble_eq_true rfl) ?_
  rintro _ _ ⟨i2, r2, rfl, rfl, hx2, hk2⟩
  have hx2 : MW [tok 7 0 0] i2 r2 := hx2
  have hI2 := hI.mk hk2 hx2
  have qA1 := pA1.kp pA2 hk2
  show pG m_M_equate τ _ 0 0 5 _ _ _
  refine g_iload_n (pc := 5) d_M_equate_5 rfl ?_
  refine g_bipush (pc := 6) (v := nI 6) d_M_equate_6 (by decide) ?_
  refine g_nicmp_eq (pc := 8) (tgt := 17) d_M_equate_8 (by decide) (by omega) (by omega) (fun h => absurd h (by decide)) (fun h8 => ?_)
  refine g_iload_n (pc := 11) d_M_equate_11 rfl ?_
  refine g_bipush (pc := 12) (v := nI 11) d_M_equate_12 (by decide) ?_
  refine g_nicmp_ne (pc := 14) (tgt := 24) d_M_equate_14 (by decide) (by omega) (by omega) (fun h14 => ?_) (fun h => absurd h (by decide))
  refine g_bipush (pc := 24) (v := nI 32) d_M_equate_24 (by decide) ?_
  refine g_aload_n (pc := 26) d_M_equate_26 rfl ?_
  refine gm_conclusion (pc := 27) d_M_equate_27 lf_M_39 ?_
  refine g_iload_n (pc := 30) d_M_equate_30 rfl ?_
  refine glm_conclusion (pc := 31) (v := nI cx) d_M_equate_31 (vp_in_nI (by omega) (by decide)) (by rw [nI_clamp (by omega), hk2.2.1 7 (by decide)]; exact hx7) ?_
  refine g_nmul (pc := 32) d_M_equate_32 ?_
  refine g_istore (pc := 33) [(4, _), (0, _), (1, _), (2, _), (3, _)] d_M_equate_33 (by decide) rfl ?_
  refine g_iload_n (pc := 35) d_M_equate_35 rfl ?_
  refine g_bipush (pc := 36) (v := nI 6) d_M_equate_36 (by decide) ?_
  refine g_nicmp_ne (pc := 38) (tgt := 56) d_M_equate_38 (by decide) (by omega) (by omega) (fun h38 => ?_) (fun h => absurd h (by decide))
  refine g_iload_n (pc := 56) d_M_equate_56 rfl ?_
  refine g_bipush (pc := 57) (v := nI 11) d_M_equate_57 (by decide) ?_
  refine g_nicmp_ne (pc := 59) (tgt := 129) d_M_equate_59 (by decide) (by omega) (by omega) (fun h59 => ?_) (fun h => absurd h (by decide))
  refine g_aload_n (pc := 129) d_M_equate_129 rfl ?_
  refine gm_row (pc := 130) d_M_equate_130 lf_M_7 ?_
  refine g_iload (pc := 133) d_M_equate_133 rfl ?_
  refine glm_row (pc := 135) (v := nI (mu (hdt A))) d_M_equate_135 (vp_in_nI (by omega) (by decide)) (by rw [nI_clamp (by omega)]; exact qA1.hd.2.1) ?_
  refine g_iconst (pc := 136) (v := nI 3) d_M_equate_136 (by decide) ?_
  refine g_nicmp_eq (pc := 137) (tgt := 143) d_M_equate_137 (by decide) (by omega) (by omega) (fun h137 => ?_) (fun h137 => ?_)
  · have hk := mA.2.2.1.mp h137
    obtain ⟨X, Y, hAe, hX, hY, hp1, hp2⟩ := qA1.two (by rw [show tgR A = 7 from hk]; decide)
    obtain ⟨-, xt, -, wP1, wP2, -⟩ := wA.two (Or.inr hk)
    have hbd := MA.bd (f := r 0) hAe pA2
    have hX30 := hX.2.2.2.2
    have hY30 := hY.2.2.2.2
    refine g_iload (pc := 143) d_M_equate_143 rfl ?_
    refine g_iconst (pc := 145) (v := nI 1) d_M_equate_145 (by decide) ?_
    refine g_nadd (pc := 146) d_M_equate_146 ?_
    refine g_istore (pc := 147) [(5, _), (4, _), (0, _), (1, _), (2, _), (3, _)] d_M_equate_147 (by decide) rfl ?_
    refine g_aload_n (pc := 149) d_M_equate_149 rfl ?_
    refine g_iload (pc := 150) d_M_equate_150 rfl ?_
    refine g_callV (M' := m_M_end) (pc := 152) (q := 0) d_M_equate_152 lm_M_55 (c_M_end (32 * cx + 1) X hX) v_M_end rfl rfl rfl (by decide) rfl (Nat.le_of_ble_eq_true rfl) ?_
    rintro _ _ ⟨rfl, rfl⟩
    show pG m_M_equate τ _ 0 0 155 _ (.int _ :: _) _
    refine g_istore (pc := 155) [(6, _), (5, _), (4, _), (0, _), (1, _), (2, _), (3, _)] d_M_equate_155 (by decide) rfl ?_
    refine g_iload_n (pc := 157) d_M_equate_157 rfl ?_
    refine g_bipush (pc := 158) (v := nI 7) d_M_equate_158 (by decide) ?_
    refine g_nicmp_ne (pc := 160) (tgt := 178) d_M_equate_160 (by decide) (by omega) (by omega) (fun h160 => ?_) (fun h => absurd h (by decide))
    refine g_iload_n (pc := 178) d_M_equate_178 rfl ?_
    refine g_bipush (pc := 179) (v := nI 10) d_M_equate_179 (by decide) ?_
    refine g_nicmp_ne (pc := 181) (tgt := 194) d_M_equate_181 (by decide) (by omega) (by omega) (fun h181 => ?_) (fun h => absurd h (by decide))
    refine g_aload_n (pc := 194) d_M_equate_194 rfl ?_
    refine g_iload_n (pc := 195) d_M_equate_195 rfl ?_
    refine g_iload (pc := 196) d_M_equate_196 rfl ?_
    refine g_iload (pc := 198) d_M_equate_198 rfl ?_
    refine g_bipush (pc := 200) (v := nI 32) d_M_equate_200 (by decide) ?_
    refine g_aload_n (pc := 202) d_M_equate_202 rfl ?_
    refine gm_conclusion (pc := 203) d_M_equate_203 lf_M_39 ?_
    refine g_iload_n (pc := 206) d_M_equate_206 rfl ?_
    refine glm_conclusion (pc := 207) (v := nI cy) d_M_equate_207 (vp_in_nI (by omega) (by decide)) (by rw [nI_clamp (by omega), hk2.2.1 7 (by decide)]; exact hy7) ?_
    refine g_nmul (pc := 208) d_M_equate_208 ?_
    refine g_callV (M' := m_M_two) (pc := 209) (q := 0) d_M_equate_209 lm_M_144 (c_M_two_8 (32 * cy) B (pB1.kp pB2 hk2) pB2 (by rw [oB] at wB; exact wB) (32 * cx + 1) (32 * cx + 1 + X.length) (tyR (p1 A)) (p1 A) (p2 A) (by rw [hp1]; exact hX) (by rw [hp1]; exact hbd.1) (by rw [hp2]; exact hY) (by rw [hp2]; exact hbd.2) (by rw [wP1.ty]; exact wP1) (by rw [wP1.ty]; exact wP2) s hI2 gs hs hsb) v_M_two rfl rfl rfl (by decide) rfl (Nat.le_of_ble_eq_true rfl) ?_
    rintro _ _ ⟨i5, r5, z5, Ty5, Tm5, d5, rfl, rfl, hI5, hx5, hp5, hok5⟩
    show pG m_M_equate τ _ 0 0 212 _ (.int _ :: _) _
    refine g_iret (pc := 212) d_M_equate_212 rfl (Nat.le_refl _) (Nat.le_refl _) ?_
    rw [if_pos (show tgR A = 7 from hk)]
    exact ⟨i5, r5, z5, Ty5, Tm5, d5, rfl, rfl, hI5, hx5, hp5, hok5⟩
  · refine g_bipush (pc := 140) (v := -2) d_M_equate_140 (by decide) ?_
    refine g_iret (pc := 142) d_M_equate_142 rfl (Nat.le_refl _) (Nat.le_refl _) ?_
    have eC : ((if tgR A = 7 then (if tgR B = 7 then (if p2 A = p1 B then 0 else -2) else -2) else -2) : Int32) = -2 := if_neg (fun q => h137 (mA.2.2.1.mpr q))
    exact ⟨i2, r2, _, _, _, _, by rw [eC], rfl, hI2, ext.rf, fun _ _ h => h, fun q => absurd q (by rw [eC]; decide)⟩
set_option maxRecDepth 100000 in
set_option maxHeartbeats 4000000 in
theorem c_M_equate_9 {τ : Nat × Nat} {a : Nat → Nat} {i : Nat → Int32} {r : Nat → Nat → Int32} {L : Nat → Nat → Int64} {wr : pW} {Ty : List (Nat × Nat)} {Tm : List (List Nat)} {Th : List Thm} (x ux vx zx hx cx : Nat) (A : List Nat) (tx : Th[x]? = some (ux, vx, zx, hx, cx)) (hA0_ : Tm[cx]? = some A) (y uy vy zy hy cy : Nat) (B : List Nat) (ty : Th[y]? = some (uy, vy, zy, hy, cy)) (hB0_ : Tm[cy]? = some B) (s : Nat) (hI : MI Ty Tm Th (dcl Tm) [] i r L) (gs : GS Ty Tm Th) (hs : s < 2 ^ 60) (hsb : ∀ t : Nat, s.testBit t = true → t < Tm.length) : pC m_M_equate τ [.ref (a 0), .int (nI 9), .int (nI x), .int (nI y)] (wM a i r L (lN s) ++ wr) (MO a L wr Ty Tm Th (if tgR A = 7 then (if tgR B = 7 then (if tks Ty (tyR (p1 A)) (tyR (p1 B)) = true then 0 else -2) else -2) else -2) (s) (Ty) (Tm) (tok 7 0 0 :: (sAp Ty (p1 A) (p1 B) ++ sAp Ty (p2 A) (p2 B)))) := by
  refine pC.of rfl (Nat.le_of_ble_eq_true rfl) ?_
  show pG m_M_equate τ _ 0 0 0 [(0, _), (1, _), (2, _), (3, _)] [] _
  obtain ⟨pA1, pA2, pA3, pA4, pA5, pA6⟩ := hI.2.1.mg gs.1 hA0_
  have wA := gs.row hA0_
  have lA := tyR_lt A
  obtain ⟨gA1, gA2, gA3, gA4⟩ := pA1.hd
  have mA := mu_c gA3
  obtain ⟨hx4, hxL, hx7⟩ := hI.th tx
  have oA := gs.c0 tx hA0_
  obtain ⟨pB1, pB2, pB3, pB4, pB5, pB6⟩ := hI.2.1.mg gs.1 hB0_
  have wB := gs.row hB0_
  have lB := tyR_lt B
  obtain ⟨gB1, gB2, gB3, gB4⟩ := pB1.hd
  have mB := mu_c gB3
  obtain ⟨hy4, hyL, hy7⟩ := hI.th ty
  have oB := gs.c0 ty hB0_
  refine g_aload_n (pc := 0) d_M_equate_0 rfl ?_
  refine g_iconst (pc := 1) (v := nI 3) d_M_equate_1 (by decide) ?_
  refine g_topi (nI (mu (tok 7 0 0))) (by rw [mu_7]) ?_
  refine g_callV (M' := m_M_put) (pc := 2) (q := 0) d_M_equate_2 lm_M_68 (c_M_put [] (tok 7 0 0) hI.2.2.2.1 (by simp)) v_M_put rfl rfl rfl (by decide) rfl (Nat.le_of_ble_eq_true rfl) ?_
  rintro _ _ ⟨i2, r2, rfl, rfl, hx2, hk2⟩
  have hx2 : MW [tok 7 0 0] i2 r2 := hx2
  have hI2 := hI.mk hk2 hx2
  have qA1 := pA1.kp pA2 hk2
  show pG m_M_equate τ _ 0 0 5 _ _ _
  refine g_iload_n (pc := 5) d_M_equate_5 rfl ?_
  refine g_bipush (pc := 6) (v := nI 6) d_M_equate_6 (by decide) ?_
  refine g_nicmp_eq (pc := 8) (tgt := 17) d_M_equate_8 (by decide) (by omega) (by omega) (fun h => absurd h (by decide)) (fun h8 => ?_)
  refine g_iload_n (pc := 11) d_M_equate_11 rfl ?_
  refine g_bipush (pc := 12) (v := nI 11) d_M_equate_12 (by decide) ?_
  refine g_nicmp_ne (pc := 14) (tgt := 24) d_M_equate_14 (by decide) (by omega) (by omega) (fun h14 => ?_) (fun h => absurd h (by decide))
  refine g_bipush (pc := 24) (v := nI 32) d_M_equate_24 (by decide) ?_
  refine g_aload_n (pc := 26) d_M_equate_26 rfl ?_
  refine gm_conclusion (pc := 27) d_M_equate_27 lf_M_39 ?_
  refine g_iload_n (pc := 30) d_M_equate_30 rfl ?_
  refine glm_conclusion (pc := 31) (v := nI cx) d_M_equate_31 (vp_in_nI (by omega) (by decide)) (by rw [nI_clamp (by omega), hk2.2.1 7 (by decide)]; exact hx7) ?_
  refine g_nmul (pc := 32) d_M_equate_32 ?_
  refine g_istore (pc := 33) [(4, _), (0, _), (1, _), (2, _), (3, _)] d_M_equate_33 (by decide) rfl ?_
  refine g_iload_n (pc := 35) d_M_equate_35 rfl ?_
  refine g_bipush (pc := 36) (v := nI 6) d_M_equate_36 (by decide) ?_
  refine g_nicmp_ne (pc := 38) (tgt := 56) d_M_equate_38 (by decide) (by omega) (by omega) (fun h38 => ?_) (fun h => absurd h (by decide))
  refine g_iload_n (pc := 56) d_M_equate_56 rfl ?_
  refine g_bipush (pc := 57) (v := nI 11) d_M_equate_57 (by decide) ?_
  refine g_nicmp_ne (pc := 59) (tgt := 129) d_M_equate_59 (by decide) (by omega) (by omega) (fun h59 => ?_) (fun h => absurd h (by decide))
  refine g_aload_n (pc := 129) d_M_equate_129 rfl ?_
  refine gm_row (pc := 130) d_M_equate_130 lf_M_7 ?_
  refine g_iload (pc := 133) d_M_equate_133 rfl ?_
  refine glm_row (pc := 135) (v := nI (mu (hdt A))) d_M_equate_135 (vp_in_nI (by omega) (by decide)) (by rw [nI_clamp (by omega)]; exact qA1.hd.2.1) ?_
  refine g_iconst (pc := 136) (v := nI 3) d_M_equate_136 (by decide) ?_
  refine g_nicmp_eq (pc := 137) (tgt := 143) d_M_equate_137 (by decide) (by omega) (by omega) (fun h137 => ?_) (fun h137 => ?_)
  · have hk := mA.2.2.1.mp h137
    obtain ⟨X, Y, hAe, hX, hY, hp1, hp2⟩ := qA1.two (by rw [show tgR A = 7 from hk]; decide)
    obtain ⟨-, xt, -, wP1, wP2, -⟩ := wA.two (Or.inr hk)
    have hbd := MA.bd (f := r 0) hAe pA2
    have hX30 := hX.2.2.2.2
    have hY30 := hY.2.2.2.2
    refine g_iload (pc := 143) d_M_equate_143 rfl ?_
    refine g_iconst (pc := 145) (v := nI 1) d_M_equate_145 (by decide) ?_
    refine g_nadd (pc := 146) d_M_equate_146 ?_
    refine g_istore (pc := 147) [(5, _), (4, _), (0, _), (1, _), (2, _), (3, _)] d_M_equate_147 (by decide) rfl ?_
    refine g_aload_n (pc := 149) d_M_equate_149 rfl ?_
    refine g_iload (pc := 150) d_M_equate_150 rfl ?_
    refine g_callV (M' := m_M_end) (pc := 152) (q := 0) d_M_equate_152 lm_M_55 (c_M_end (32 * cx + 1) X hX) v_M_end rfl rfl rfl (by decide) rfl (Nat.le_of_ble_eq_true rfl) ?_
    rintro _ _ ⟨rfl, rfl⟩
    show pG m_M_equate τ _ 0 0 155 _ (.int _ :: _) _
    refine g_istore (pc := 155) [(6, _), (5, _), (4, _), (0, _), (1, _), (2, _), (3, _)] d_M_equate_155 (by decide) rfl ?_
    refine g_iload_n (pc := 157) d_M_equate_157 rfl ?_
    refine g_bipush (pc := 158) (v := nI 7) d_M_equate_158 (by decide) ?_
    refine g_nicmp_ne (pc := 160) (tgt := 178) d_M_equate_160 (by decide) (by omega) (by omega) (fun h160 => ?_) (fun h => absurd h (by decide))
    refine g_iload_n (pc := 178) d_M_equate_178 rfl ?_
    refine g_bipush (pc := 179) (v := nI 10) d_M_equate_179 (by decide) ?_
    refine g_nicmp_ne (pc := 181) (tgt := 194) d_M_equate_181 (by decide) (by omega) (by omega) (fun h181 => ?_) (fun h => absurd h (by decide))
    refine g_aload_n (pc := 194) d_M_equate_194 rfl ?_
    refine g_iload_n (pc := 195) d_M_equate_195 rfl ?_
    refine g_iload (pc := 196) d_M_equate_196 rfl ?_
    refine g_iload (pc := 198) d_M_equate_198 rfl ?_
    refine g_bipush (pc := 200) (v := nI 32) d_M_equate_200 (by decide) ?_
    refine g_aload_n (pc := 202) d_M_equate_202 rfl ?_
    refine gm_conclusion (pc := 203) d_M_equate_203 lf_M_39 ?_
    refine g_iload_n (pc := 206) d_M_equate_206 rfl ?_
    refine glm_conclusion (pc := 207) (v := nI cy) d_M_equate_207 (vp_in_nI (by omega) (by decide)) (by rw [nI_clamp (by omega), hk2.2.1 7 (by decide)]; exact hy7) ?_
    refine g_nmul (pc := 208) d_M_equate_208 ?_
    refine g_callV (M' := m_M_two) (pc := 209) (q := 0) d_M_equate_209 lm_M_144 (c_M_two_9 (32 * cy) B (pB1.kp pB2 hk2) pB2 (by rw [oB] at wB; exact wB) (32 * cx + 1) (32 * cx + 1 + X.length) (tyR (p1 A)) (p1 A) (p2 A) (by rw [hp1]; exact hX) (by rw [hp1]; exact hbd.1) (by rw [hp2]; exact hY) (by rw [hp2]; exact hbd.2) (by rw [wP1.ty]; exact wP1) (by rw [wP1.ty]; exact wP2) s hI2 gs hs hsb) v_M_two rfl rfl rfl (by decide) rfl (Nat.le_of_ble_eq_true rfl) ?_
    rintro _ _ ⟨i5, r5, z5, Ty5, Tm5, d5, rfl, rfl, hI5, hx5, hp5, hok5⟩
    show pG m_M_equate τ _ 0 0 212 _ (.int _ :: _) _
    refine g_iret (pc := 212) d_M_equate_212 rfl (Nat.le_refl _) (Nat.le_refl _) ?_
    rw [if_pos (show tgR A = 7 from hk)]
    exact ⟨i5, r5, z5, Ty5, Tm5, d5, rfl, rfl, hI5, hx5, hp5, hok5⟩
  · refine g_bipush (pc := 140) (v := -2) d_M_equate_140 (by decide) ?_
    refine g_iret (pc := 142) d_M_equate_142 rfl (Nat.le_refl _) (Nat.le_refl _) ?_
    have eC : ((if tgR A = 7 then (if tgR B = 7 then (if tks Ty (tyR (p1 A)) (tyR (p1 B)) = true then 0 else -2) else -2) else -2) : Int32) = -2 := if_neg (fun q => h137 (mA.2.2.1.mpr q))
    exact ⟨i2, r2, _, _, _, _, by rw [eC], rfl, hI2, ext.rf, fun _ _ h => h, fun q => absurd q (by rw [eC]; decide)⟩
set_option maxRecDepth 100000 in
set_option maxHeartbeats 4000000 in
theorem c_M_equate_10 {τ : Nat × Nat} {a : Nat → Nat} {i : Nat → Int32} {r : Nat → Nat → Int32} {L : Nat → Nat → Int64} {wr : pW} {Ty : List (Nat × Nat)} {Tm : List (List Nat)} {Th : List Thm} (x ux vx zx hx cx : Nat) (A : List Nat) (tx : Th[x]? = some (ux, vx, zx, hx, cx)) (hA0_ : Tm[cx]? = some A) (y : Nat) (B : List Nat) (hB0_ : Tm[y]? = some B) (s : Nat) (hI : MI Ty Tm Th (dcl Tm) [] i r L) (gs : GS Ty Tm Th) (hs : s < 2 ^ 60) (hsb : ∀ t : Nat, s.testBit t = true → t < Tm.length) : pC m_M_equate τ [.ref (a 0), .int (nI 10), .int (nI x), .int (nI y)] (wM a i r L (lN s) ++ wr) (MO a L wr Ty Tm Th (if tgR A = 7 then (if tgR B = 0 then (if sBnd Tm s (hdt B) = true then -3 else (if (sNum Ty (tyR B) (tyR (p1 A))).1 = -4 then -4 else 0)) else -2) else -2) (s) ((sNum Ty (tyR B) (tyR (p1 A))).2) (Tm) (([tok 7 0 0] ++ sBd 3 (sNum Ty (tyR B) (tyR (p1 A))).1.toNatClampNeg (hdt B) (p1 A)) ++ sBd 3 (sNum Ty (tyR B) (tyR (p1 A))).1.toNatClampNeg (hdt B) (p2 A))) := by
  refine pC.of rfl (Nat.le_of_ble_eq_true rfl) ?_
  show pG m_M_equate τ _ 0 0 0 [(0, _), (1, _), (2, _), (3, _)] [] _
  obtain ⟨pA1, pA2, pA3, pA4, pA5, pA6⟩ := hI.2.1.mg gs.1 hA0_
  have wA := gs.row hA0_
  have lA := tyR_lt A
  obtain ⟨gA1, gA2, gA3, gA4⟩ := pA1.hd
  have mA := mu_c gA3
  obtain ⟨hx4, hxL, hx7⟩ := hI.th tx
  have oA := gs.c0 tx hA0_
  obtain ⟨pB1, pB2, pB3, pB4, pB5, pB6⟩ := hI.2.1.mg gs.1 hB0_
  have wB := gs.row hB0_
  have lB := tyR_lt B
  obtain ⟨gB1, gB2, gB3, gB4⟩ := pB1.hd
  have mB := mu_c gB3
  refine g_aload_n (pc := 0) d_M_equate_0 rfl ?_
  refine g_iconst (pc := 1) (v := nI 3) d_M_equate_1 (by decide) ?_
  refine g_topi (nI (mu (tok 7 0 0))) (by rw [mu_7]) ?_
  refine g_callV (M' := m_M_put) (pc := 2) (q := 0) d_M_equate_2 lm_M_68 (c_M_put [] (tok 7 0 0) hI.2.2.2.1 (by simp)) v_M_put rfl rfl rfl (by decide) rfl (Nat.le_of_ble_eq_true rfl) ?_
  rintro _ _ ⟨i2, r2, rfl, rfl, hx2, hk2⟩
  have hx2 : MW [tok 7 0 0] i2 r2 := hx2
  have hI2 := hI.mk hk2 hx2
  have qA1 := pA1.kp pA2 hk2
  show pG m_M_equate τ _ 0 0 5 _ _ _
  refine g_iload_n (pc := 5) d_M_equate_5 rfl ?_
  refine g_bipush (pc := 6) (v := nI 6) d_M_equate_6 (by decide) ?_
  refine g_nicmp_eq (pc := 8) (tgt := 17) d_M_equate_8 (by decide) (by omega) (by omega) (fun h => absurd h (by decide)) (fun h8 => ?_)
  refine g_iload_n (pc := 11) d_M_equate_11 rfl ?_
  refine g_bipush (pc := 12) (v := nI 11) d_M_equate_12 (by decide) ?_
  refine g_nicmp_ne (pc := 14) (tgt := 24) d_M_equate_14 (by decide) (by omega) (by omega) (fun h14 => ?_) (fun h => absurd h (by decide))
  refine g_bipush (pc := 24) (v := nI 32) d_M_equate_24 (by decide) ?_
  refine g_aload_n (pc := 26) d_M_equate_26 rfl ?_
  refine gm_conclusion (pc := 27) d_M_equate_27 lf_M_39 ?_
  refine g_iload_n (pc := 30) d_M_equate_30 rfl ?_
  refine glm_conclusion (pc := 31) (v := nI cx) d_M_equate_31 (vp_in_nI (by omega) (by decide)) (by rw [nI_clamp (by omega), hk2.2.1 7 (by decide)]; exact hx7) ?_
  refine g_nmul (pc := 32) d_M_equate_32 ?_
  refine g_istore (pc := 33) [(4, _), (0, _), (1, _), (2, _), (3, _)] d_M_equate_33 (by decide) rfl ?_
  refine g_iload_n (pc := 35) d_M_equate_35 rfl ?_
  refine g_bipush (pc := 36) (v := nI 6) d_M_equate_36 (by decide) ?_
  refine g_nicmp_ne (pc := 38) (tgt := 56) d_M_equate_38 (by decide) (by omega) (by omega) (fun h38 => ?_) (fun h => absurd h (by decide))
  refine g_iload_n (pc := 56) d_M_equate_56 rfl ?_
  refine g_bipush (pc := 57) (v := nI 11) d_M_equate_57 (by decide) ?_
  refine g_nicmp_ne (pc := 59) (tgt := 129) d_M_equate_59 (by decide) (by omega) (by omega) (fun h59 => ?_) (fun h => absurd h (by decide))
  refine g_aload_n (pc := 129) d_M_equate_129 rfl ?_
  refine gm_row (pc := 130) d_M_equate_130 lf_M_7 ?_
  refine g_iload (pc := 133) d_M_equate_133 rfl ?_
  refine glm_row (pc := 135) (v := nI (mu (hdt A))) d_M_equate_135 (vp_in_nI (by omega) (by decide)) (by rw [nI_clamp (by omega)]; exact qA1.hd.2.1) ?_
  refine g_iconst (pc := 136) (v := nI 3) d_M_equate_136 (by decide) ?_
  refine g_nicmp_eq (pc := 137) (tgt := 143) d_M_equate_137 (by decide) (by omega) (by omega) (fun h137 => ?_) (fun h137 => ?_)
  · have hk := mA.2.2.1.mp h137
    obtain ⟨X, Y, hAe, hX, hY, hp1, hp2⟩ := qA1.two (by rw [show tgR A = 7 from hk]; decide)
    obtain ⟨-, xt, -, wP1, wP2, -⟩ := wA.two (Or.inr hk)
    have hbd := MA.bd (f := r 0) hAe pA2
    have hX30 := hX.2.2.2.2
    have hY30 := hY.2.2.2.2
    refine g_iload (pc := 143) d_M_equate_143 rfl ?_
    refine g_iconst (pc := 145) (v := nI 1) d_M_equate_145 (by decide) ?_
    refine g_nadd (pc := 146) d_M_equate_146 ?_
    refine g_istore (pc := 147) [(5, _), (4, _), (0, _), (1, _), (2, _), (3, _)] d_M_equate_147 (by decide) rfl ?_
    refine g_aload_n (pc := 149) d_M_equate_149 rfl ?_
    refine g_iload (pc := 150) d_M_equate_150 rfl ?_
    refine g_callV (M' := m_M_end) (pc := 152) (q := 0) d_M_equate_152 lm_M_55 (c_M_end (32 * cx + 1) X hX) v_M_end rfl rfl rfl (by decide) rfl (Nat.le_of_ble_eq_true rfl) ?_
    rintro _ _ ⟨rfl, rfl⟩
    show pG m_M_equate τ _ 0 0 155 _ (.int _ :: _) _
    refine g_istore (pc := 155) [(6, _), (5, _), (4, _), (0, _), (1, _), (2, _), (3, _)] d_M_equate_155 (by decide) rfl ?_
    refine g_iload_n (pc := 157) d_M_equate_157 rfl ?_
    refine g_bipush (pc := 158) (v := nI 7) d_M_equate_158 (by decide) ?_
    refine g_nicmp_ne (pc := 160) (tgt := 178) d_M_equate_160 (by decide) (by omega) (by omega) (fun h160 => ?_) (fun h => absurd h (by decide))
    refine g_iload_n (pc := 178) d_M_equate_178 rfl ?_
    refine g_bipush (pc := 179) (v := nI 10) d_M_equate_179 (by decide) ?_
    refine g_nicmp_ne (pc := 181) (tgt := 194) d_M_equate_181 (by decide) (by omega) (by omega) (fun h => absurd h (by decide)) (fun h181 => ?_)
    refine g_aload_n (pc := 184) d_M_equate_184 rfl ?_
    refine g_iload_n (pc := 185) d_M_equate_185 rfl ?_
    refine g_iload (pc := 186) d_M_equate_186 rfl ?_
    refine g_iload (pc := 188) d_M_equate_188 rfl ?_
    refine g_callV (M' := m_M_abstraction) (pc := 190) (q := 0) d_M_equate_190 lm_M_140 (c_M_abstraction y B hB0_ (32 * cx + 1) (32 * cx + 1 + X.length) (tyR (p1 A)) (p1 A) (p2 A) (by rw [hp1]; exact hX) (by rw [hp1]; exact hbd.1) (by rw [hp2]; exact hY) (by rw [hp2]; exact hbd.2) (by rw [wP1.ty]; exact wP1) (by rw [wP1.ty]; exact wP2) s hI2 gs hs hsb) v_M_abstraction rfl rfl rfl (by decide) rfl (Nat.le_of_ble_eq_true rfl) ?_
    rintro _ _ ⟨i5, r5, z5, Ty5, Tm5, d5, rfl, rfl, hI5, hx5, hp5, hok5⟩
    show pG m_M_equate τ _ 0 0 193 _ (.int _ :: _) _
    refine g_iret (pc := 193) d_M_equate_193 rfl (Nat.le_refl _) (Nat.le_refl _) ?_
    rw [if_pos (show tgR A = 7 from hk)]
    exact ⟨i5, r5, z5, Ty5, Tm5, d5, rfl, rfl, hI5, hx5, hp5, hok5⟩
  · refine g_bipush (pc := 140) (v := -2) d_M_equate_140 (by decide) ?_
    refine g_iret (pc := 142) d_M_equate_142 rfl (Nat.le_refl _) (Nat.le_refl _) ?_
    have eC : ((if tgR A = 7 then (if tgR B = 0 then (if sBnd Tm s (hdt B) = true then -3 else (if (sNum Ty (tyR B) (tyR (p1 A))).1 = -4 then -4 else 0)) else -2) else -2) : Int32) = -2 := if_neg (fun q => h137 (mA.2.2.1.mpr q))
    exact ⟨i2, r2, _, _, _, _, by rw [eC], rfl, hI2, ext.rf, fun _ _ h => h, fun q => absurd q (by rw [eC]; decide)⟩
set_option maxRecDepth 100000 in
set_option maxHeartbeats 4000000 in
theorem c_M_equate_11 {τ : Nat × Nat} {a : Nat → Nat} {i : Nat → Int32} {r : Nat → Nat → Int32} {L : Nat → Nat → Int64} {wr : pW} {Ty : List (Nat × Nat)} {Tm : List (List Nat)} {Th : List Thm} (x : Nat) (A : List Nat) (hA0_ : Tm[x]? = some A) (y : Int32) (s : Nat) (hI : MI Ty Tm Th (dcl Tm) [] i r L) (gs : GS Ty Tm Th) (hs : s < 2 ^ 60) (hsb : ∀ t : Nat, s.testBit t = true → t < Tm.length) : pC m_M_equate τ [.ref (a 0), .int (nI 11), .int (nI x), .int y] (wM a i r L (lN s) ++ wr) (MO a L wr Ty Tm Th (if tgR A = 5 ∧ tgR (p1 A) = 3 then 0 else -2) (s) (Ty) (Tm) (tok 7 0 0 :: (A ++ fil (p2 A) [0] (p1 (p1 A))))) := by
  refine pC.of rfl (Nat.le_of_ble_eq_true rfl) ?_
  show pG m_M_equate τ _ 0 0 0 [(0, _), (1, _), (2, _), (3, _)] [] _
  obtain ⟨pA1, pA2, pA3, pA4, pA5, pA6⟩ := hI.2.1.mg gs.1 hA0_
  have wA := gs.row hA0_
  have lA := tyR_lt A
  obtain ⟨gA1, gA2, gA3, gA4⟩ := pA1.hd
  have mA := mu_c gA3
  refine g_aload_n (pc := 0) d_M_equate_0 rfl ?_
  refine g_iconst (pc := 1) (v := nI 3) d_M_equate_1 (by decide) ?_
  refine g_topi (nI (mu (tok 7 0 0))) (by rw [mu_7]) ?_
  refine g_callV (M' := m_M_put) (pc := 2) (q := 0) d_M_equate_2 lm_M_68 (c_M_put [] (tok 7 0 0) hI.2.2.2.1 (by simp)) v_M_put rfl rfl rfl (by decide) rfl (Nat.le_of_ble_eq_true rfl) ?_
  rintro _ _ ⟨i2, r2, rfl, rfl, hx2, hk2⟩
  have hx2 : MW [tok 7 0 0] i2 r2 := hx2
  have hI2 := hI.mk hk2 hx2
  have qA1 := pA1.kp pA2 hk2
  show pG m_M_equate τ _ 0 0 5 _ _ _
  refine g_iload_n (pc := 5) d_M_equate_5 rfl ?_
  refine g_bipush (pc := 6) (v := nI 6) d_M_equate_6 (by decide) ?_
  refine g_nicmp_eq (pc := 8) (tgt := 17) d_M_equate_8 (by decide) (by omega) (by omega) (fun h => absurd h (by decide)) (fun h8 => ?_)
  refine g_iload_n (pc := 11) d_M_equate_11 rfl ?_
  refine g_bipush (pc := 12) (v := nI 11) d_M_equate_12 (by decide) ?_
  refine g_nicmp_ne (pc := 14) (tgt := 24) d_M_equate_14 (by decide) (by omega) (by omega) (fun h => absurd h (by decide)) (fun h14 => ?_)
  refine g_bipush (pc := 17) (v := nI 32) d_M_equate_17 (by decide) ?_
  refine g_iload_n (pc := 19) d_M_equate_19 rfl ?_
  refine g_nmul (pc := 20) d_M_equate_20 ?_
  refine g_goto (pc := 21) (tgt := 33) d_M_equate_21 (by decide) ?_
  refine g_istore (pc := 33) [(4, _), (0, _), (1, _), (2, _), (3, _)] d_M_equate_33 (by decide) rfl ?_
  refine g_iload_n (pc := 35) d_M_equate_35 rfl ?_
  refine g_bipush (pc := 36) (v := nI 6) d_M_equate_36 (by decide) ?_
  refine g_nicmp_ne (pc := 38) (tgt := 56) d_M_equate_38 (by decide) (by omega) (by omega) (fun h38 => ?_) (fun h => absurd h (by decide))
  refine g_iload_n (pc := 56) d_M_equate_56 rfl ?_
  refine g_bipush (pc := 57) (v := nI 11) d_M_equate_57 (by decide) ?_
  refine g_nicmp_ne (pc := 59) (tgt := 129) d_M_equate_59 (by decide) (by omega) (by omega) (fun h => absurd h (by decide)) (fun h59 => ?_)
  refine g_aload_n (pc := 62) d_M_equate_62 rfl ?_
  refine gm_row (pc := 63) d_M_equate_63 lf_M_7 ?_
  refine g_iload (pc := 66) d_M_equate_66 rfl ?_
  refine glm_row (pc := 68) (v := nI (mu (hdt A))) d_M_equate_68 (vp_in_nI (by omega) (by decide)) (by rw [nI_clamp (by omega)]; exact qA1.hd.2.1) ?_
  refine g_iconst (pc := 69) (v := nI 1) d_M_equate_69 (by decide) ?_
  refine g_nicmp_ne (pc := 70) (tgt := 101) d_M_equate_70 (by decide) (by omega) (by omega) (fun h70 => ?_) (fun h70 => ?_)
  · refine g_bipush (pc := 101) (v := -2) d_M_equate_101 (by decide) ?_
    refine g_iret (pc := 103) d_M_equate_103 rfl (Nat.le_refl _) (Nat.le_refl _) ?_
    have hno : ¬ (tgR A = 5 ∧ tgR (p1 A) = 3) := by
      first
      | exact fun q => h70 (mA.1.mpr q.1)
      | (rintro ⟨-, q⟩; rw [hp1] at q; have := mX.2.2.2.2.2.mpr q; omega)
    have eC : ((if tgR A = 5 ∧ tgR (p1 A) = 3 then 0 else -2) : Int32) = -2 := if_neg hno
    exact ⟨i2, r2, _, _, _, _, by rw [eC], rfl, hI2, ext.rf, fun _ _ h => h, fun q => absurd q (by rw [eC]; decide)⟩
  · have hk := mA.1.mp h70
    obtain ⟨X, Y, hAe, hX, hY, hp1, hp2⟩ := qA1.two (by rw [show tgR A = 5 from hk]; decide)
    have hbd := MA.bd (f := r 0) hAe pA2
    have hX30 := hX.2.2.2.2
    have hY30 := hY.2.2.2.2
    have gX := hX.hd
    have mX := mu_c gX.2.2.1
    refine g_aload_n (pc := 73) d_M_equate_73 rfl ?_
    refine gm_row (pc := 74) d_M_equate_74 lf_M_7 ?_
    refine g_iload (pc := 77) d_M_equate_77 rfl ?_
    refine g_iconst (pc := 79) (v := nI 1) d_M_equate_79 (by decide) ?_
    refine g_nadd (pc := 80) d_M_equate_80 ?_
    refine glm_row (pc := 81) (v := nI (mu (hdt X))) d_M_equate_81 (vp_in_nI (by omega) (by decide)) (by rw [nI_clamp (by omega)]; exact hX.hd.2.1) ?_
    refine g_bipush (pc := 82) (v := nI 16) d_M_equate_82 (by decide) ?_
    refine g_nicmp_lt (pc := 84) (tgt := 101) d_M_equate_84 (by decide) (by omega) (by omega) (fun h84 => ?_) (fun h84 => ?_)
    · refine g_bipush (pc := 101) (v := -2) d_M_equate_101 (by decide) ?_
      refine g_iret (pc := 103) d_M_equate_103 rfl (Nat.le_refl _) (Nat.le_refl _) ?_
      have hno : ¬ (tgR A = 5 ∧ tgR (p1 A) = 3) := by
        first
        | exact fun q => h70 (mA.1.mpr q.1)
        | (rintro ⟨-, q⟩; rw [hp1] at q; have := mX.2.2.2.2.2.mpr q; omega)
      have eC : ((if tgR A = 5 ∧ tgR (p1 A) = 3 then 0 else -2) : Int32) = -2 := if_neg hno
      exact ⟨i2, r2, _, _, _, _, by rw [eC], rfl, hI2, ext.rf, fun _ _ h => h, fun q => absurd q (by rw [eC]; decide)⟩
    · refine g_aload_n (pc := 87) d_M_equate_87 rfl ?_
      refine gm_row (pc := 88) d_M_equate_88 lf_M_7 ?_
      refine g_iload (pc := 91) d_M_equate_91 rfl ?_
      refine g_iconst (pc := 93) (v := nI 1) d_M_equate_93 (by decide) ?_
      refine g_nadd (pc := 94) d_M_equate_94 ?_
      refine glm_row (pc := 95) (v := nI (mu (hdt X))) d_M_equate_95 (vp_in_nI (by omega) (by decide)) (by rw [nI_clamp (by omega)]; exact hX.hd.2.1) ?_
      refine g_bipush (pc := 96) (v := nI 32) d_M_equate_96 (by decide) ?_
      refine g_nicmp_lt (pc := 98) (tgt := 104) d_M_equate_98 (by decide) (by omega) (by omega) (fun h98 => ?_) (fun h98 => ?_)
      · have hk3_ := mX.2.2.2.2.2.mp ⟨by omega, by omega⟩
        obtain ⟨Z, hXe, hZ, hpX⟩ := hX.one (Or.inl hk3_)
        have hZ30 := hZ.2.2.2.2
        have hbz : 32 * x + 1 + 1 + Z.length ≤ 1920 := by have := congrArg List.length hXe; simp at this; omega
        refine g_aload_n (pc := 104) d_M_equate_104 rfl ?_
        refine g_iload (pc := 105) d_M_equate_105 rfl ?_
        refine g_callV (M' := m_M_copy) (pc := 107) (q := 0) d_M_equate_107 lm_M_72 (c_M_copy [tok 7 0 0] (32 * x) A hI2.2.2.2.1 qA1 pA2 (by simp; omega)) v_M_copy rfl rfl rfl (by decide) rfl (Nat.le_of_ble_eq_true rfl) ?_
        rintro _ _ ⟨i3, r3, rfl, rfl, hx3, hk3⟩
        have hx3 : MW ([tok 7 0 0] ++ A) i3 r3 := hx3
        have hI3 := hI2.mk hk3 hx3
        show pG m_M_equate τ _ 0 0 110 _ _ _
        refine g_aload_n (pc := 110) d_M_equate_110 rfl ?_
        refine g_iload (pc := 111) d_M_equate_111 rfl ?_
        refine g_iconst (pc := 113) (v := nI 2) d_M_equate_113 (by decide) ?_
        refine g_nadd (pc := 114) d_M_equate_114 ?_
        rw [show 32 * x + 2 = 32 * x + 1 + 1 from rfl]
        refine g_aload_n (pc := 115) d_M_equate_115 rfl ?_
        refine g_iload (pc := 116) d_M_equate_116 rfl ?_
        refine g_iconst (pc := 118) (v := nI 1) d_M_equate_118 (by decide) ?_
        refine g_nadd (pc := 119) d_M_equate_119 ?_
        refine g_callV (M' := m_M_end) (pc := 120) (q := 0) d_M_equate_120 lm_M_55 (c_M_end (32 * x + 1) X (hX.kp hbd.1 hk3)) v_M_end rfl rfl rfl (by decide) rfl (Nat.le_of_ble_eq_true rfl) ?_
        rintro _ _ ⟨rfl, rfl⟩
        show pG m_M_equate τ _ 0 0 123 _ (.int _ :: _) _
        refine g_callV (M' := m_M_copyOpened) (pc := 123) (q := 0) d_M_equate_123 lm_M_136 (c_M_copyOpened ([tok 7 0 0] ++ A) (32 * x + 1 + 1) (32 * x + 1 + X.length) Z Y hI3.2.2.2.1 (hZ.kp hbz hk3) hbz (hY.kp hbd.2 hk3) hbd.2 (by simp; omega)) v_M_copyOpened rfl rfl rfl (by decide) rfl (Nat.le_of_ble_eq_true rfl) ?_
        rintro _ _ ⟨i4, r4, rfl, rfl, hx4, hk4⟩
        have hx4 : MW (tok 7 0 0 :: (A ++ fil Y [0] Z)) i4 r4 := hx4
        rw [← hp2, ← hpX, ← hp1] at hx4
        have hI4 := hI3.mk hk4 hx4
        show pG m_M_equate τ _ 0 0 126 _ _ _
        refine g_goto (pc := 126) (tgt := 213) d_M_equate_126 (by decide) ?_
        refine g_iconst (pc := 213) (v := nI 0) d_M_equate_213 (by decide) ?_
        refine g_iret (pc := 214) d_M_equate_214 rfl (Nat.le_refl _) (Nat.le_refl _) ?_
        obtain ⟨f, xx, har, wF, wX2, -⟩ := wA.app hk
        rw [hp1] at wF
        obtain ⟨b, har2, hch, -⟩ := wF.abs hk3_
        rw [har] at har2
        obtain ⟨e1, e2⟩ := Prod.mk.inj (Option.some.inj har2)
        rw [← e1] at hch
        have wFil := WT_fil wX2 hch
        rw [← e2, ← hp1] at wFil
        have hfl := @fil_len (p2 A) (by rw [hp2]; exact hY30) (p1 (p1 A)) [0]
        have hZl : (p1 (p1 A)).length ≤ 30 := by rw [hp1, hpX]; exact hZ30
        have eC : ((if tgR A = 5 ∧ tgR (p1 A) = 3 then 0 else -2) : Int32) = 0 := if_pos ⟨hk, by rw [hp1]; exact hk3_⟩
        exact ⟨i4, r4, _, _, _, _, by rw [eC]; rfl, rfl, hI4, ext.rf, fun _ _ h => h, fun _ => ⟨rfl, rfl, rfl, rfl, gs.1, rfl, WT_eq wA wFil, (by simp; omega), hsb⟩⟩
      · refine g_bipush (pc := 101) (v := -2) d_M_equate_101 (by decide) ?_
        refine g_iret (pc := 103) d_M_equate_103 rfl (Nat.le_refl _) (Nat.le_refl _) ?_
        have hno : ¬ (tgR A = 5 ∧ tgR (p1 A) = 3) := by
          first
          | exact fun q => h70 (mA.1.mpr q.1)
          | (rintro ⟨-, q⟩; rw [hp1] at q; have := mX.2.2.2.2.2.mpr q; omega)
        have eC : ((if tgR A = 5 ∧ tgR (p1 A) = 3 then 0 else -2) : Int32) = -2 := if_neg hno
        exact ⟨i2, r2, _, _, _, _, by rw [eC], rfl, hI2, ext.rf, fun _ _ h => h, fun q => absurd q (by rw [eC]; decide)⟩
