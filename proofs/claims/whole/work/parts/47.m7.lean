/-! The reference: the rules' work. By wip/whole/m_m7.py -/
theorem mu_c {x : Nat} (h : GT x) : (mu x = 1 ↔ x / 512 = 5) ∧ (mu x = 2 ↔ x / 512 = 6) ∧ (mu x = 3 ↔ x / 512 = 7) ∧ ((32 ≤ mu x ∧ mu x < 64) ↔ x / 512 = 4) ∧ (x / 512 = 4 → mu x = 32 + x / 16 % 32) ∧ ((16 ≤ mu x ∧ mu x < 32) ↔ x / 512 = 3) := by
  obtain ⟨h0, h1, h2, h3, h4⟩ := h
  unfold mu
  rcases tag8 h0 with e | e | e | e | e | e | e | e <;> simp only [e] <;> simp <;> simp only [e] at h1 h2 h3 <;> simp at h1 h2 h3 <;> omega
theorem MI.k3 {Ty : List (Nat × Nat)} {Tm : List (List Nat)} {Th : List Thm} {Cn : Nat → Option Nat} {d : List Nat} {i : Nat → Int32} {r r2 : Nat → Nat → Int32} {L : Nat → Nat → Int64} (h : MI Ty Tm Th Cn d i r L) (hr : ∀ j, j ≠ 3 → r2 j = r j) : MI Ty Tm Th Cn d i r2 L :=
  ⟨h.1.mv rfl (hr 4 (by decide)) (hr 5 (by decide)), h.2.1.mv rfl (hr 1 (by decide)) (hr 2 (by decide)) (fun _ _ => by rw [hr 0 (by decide)]), h.2.2.1.mv (hr 6 (by decide)), ⟨h.2.2.2.1.1, by rw [hr 0 (by decide)]; exact h.2.2.2.1.2⟩, h.2.2.2.2.mv rfl (hr 7 (by decide)) (hr 8 (by decide))⟩
theorem MI.th {Ty : List (Nat × Nat)} {Tm : List (List Nat)} {Th : List Thm} {Cn : Nat → Option Nat} {d : List Nat} {i : Nat → Int32} {r : Nat → Nat → Int32} {L : Nat → Nat → Int64} {k rl x y h c : Nat} (hI : MI Ty Tm Th Cn d i r L) (hk : Th[k]? = some (rl, x, y, h, c)) : k < 40 ∧ L 0 k = lN h ∧ r 7 k = nI c := by
  obtain ⟨g1, g2, -⟩ := hI.2.2.2.2.2.2 k rl x y h c hk
  have := (List.getElem?_eq_some_iff.mp hk).1
  have := hI.2.2.2.2.2.1
  exact ⟨by omega, g1, g2⟩
theorem GS.c0 {Ty : List (Nat × Nat)} {Tm : List (List Nat)} {Th : List Thm} {k rl x y h c : Nat} {A : List Nat} (gs : GS Ty Tm Th) (hk : Th[k]? = some (rl, x, y, h, c)) (hA : Tm[c]? = some A) : tyR A = 0 := by
  obtain ⟨⟨A', h1, h2⟩, -⟩ := gs.2 _ _ _ _ _ _ hk
  rw [hA] at h1
  rw [Option.some.inj h1]
  exact h2
theorem MA.bd {f : Nat → Int32} {k : Nat} {row x y : List Nat} (e : row = hdt row :: (x ++ y)) (hb : k + row.length ≤ 1920) : k + 1 + x.length ≤ 1920 ∧ k + 1 + x.length + y.length ≤ 1920 := by
  have := congrArg List.length e
  simp at this
  omega
theorem two_bits {x t : Nat} (h : (2 ^ x).testBit t = true) : x = t := by
  rw [Nat.testBit_two_pow] at h
  simpa using h
theorem clr_bits {s y t : Nat} (h : (clr s y).testBit t = true) : s.testBit t = true := by
  unfold clr at h
  rw [Nat.testBit_and, Bool.and_eq_true] at h
  exact h.1
set_option maxRecDepth 100000 in
set_option maxHeartbeats 4000000 in
theorem c_M_reason_0 {τ : Nat × Nat} {a : Nat → Nat} {i : Nat → Int32} {r : Nat → Nat → Int32} {L : Nat → Nat → Int64} {wr : pW} {Ty : List (Nat × Nat)} {Tm : List (List Nat)} {Th : List Thm} (x : Nat) (A : List Nat) (hA0_ : Tm[x]? = some A) (y : Int32) (s : Nat) (hI : MI Ty Tm Th (dcl Tm) [] i r L) (gs : GS Ty Tm Th) (hs : s < 2 ^ 60) (hsb : ∀ t : Nat, s.testBit t = true → t < Tm.length) : pC m_M_reason τ [.ref (a 0), .int (nI 0), .int (nI x), .int y] (wM a i r L (lN s) ++ wr) (MO a L wr Ty Tm Th (if tyR A = 0 then 0 else -2) (s) (Ty) (Tm) (A)) := by
  refine pC.of rfl (Nat.le_of_ble_eq_true rfl) ?_
  show pG m_M_reason τ _ 0 0 0 [(0, _), (1, _), (2, _), (3, _)] [] _
  obtain ⟨pA1, pA2, pA3, pA4, pA5, pA6⟩ := hI.2.1.mg gs.1 hA0_
  have wA := gs.row hA0_
  have lA := tyR_lt A
  obtain ⟨gA1, gA2, gA3, gA4⟩ := pA1.hd
  have mA := mu_c gA3
  refine g_iload_n (pc := 0) d_M_reason_0 rfl ?_
  refine g_iconst (pc := 1) (v := nI 2) d_M_reason_1 (by decide) ?_
  refine g_nicmp_ge (pc := 2) (tgt := 12) d_M_reason_2 (by decide) (by omega) (by omega) (fun h => absurd h (by decide)) (fun h2 => ?_)
  refine g_bipush (pc := 5) (v := nI 32) d_M_reason_5 (by decide) ?_
  refine g_iload_n (pc := 7) d_M_reason_7 rfl ?_
  refine g_nmul (pc := 8) d_M_reason_8 ?_
  refine g_goto (pc := 9) (tgt := 21) d_M_reason_9 (by decide) ?_
  refine g_istore (pc := 21) [(4, _), (0, _), (1, _), (2, _), (3, _)] d_M_reason_21 (by decide) rfl ?_
  refine g_iload_n (pc := 23) d_M_reason_23 rfl ?_
  refine g_iconst (pc := 24) (v := nI 2) d_M_reason_24 (by decide) ?_
  refine g_nicmp_ge (pc := 25) (tgt := 32) d_M_reason_25 (by decide) (by omega) (by omega) (fun h => absurd h (by decide)) (fun h25 => ?_)
  refine g_iload_n (pc := 28) d_M_reason_28 rfl ?_
  refine g_goto (pc := 29) (tgt := 33) d_M_reason_29 (by decide) ?_
  refine g_istore (pc := 33) [(5, _), (4, _), (0, _), (1, _), (2, _), (3, _)] d_M_reason_33 (by decide) rfl ?_
  refine g_iload_n (pc := 35) d_M_reason_35 rfl ?_
  refine g_iconst (pc := 36) (v := nI 3) d_M_reason_36 (by decide) ?_
  refine g_nicmp_ge (pc := 37) (tgt := 125) d_M_reason_37 (by decide) (by omega) (by omega) (fun h => absurd h (by decide)) (fun h37 => ?_)
  refine g_aload_n (pc := 40) d_M_reason_40 rfl ?_
  refine gm_sort (pc := 41) d_M_reason_41 lf_M_16 ?_
  refine g_iload (pc := 44) d_M_reason_44 rfl ?_
  refine glm_sort (pc := 46) (v := nI (tyR A)) d_M_reason_46 (vp_in_nI (by omega) (by decide)) (by rw [nI_clamp (by omega)]; exact pA5) ?_
  refine g_nif_eq (pc := 47) (tgt := 53) d_M_reason_47 (by decide) (by omega) (fun h47 => ?_) (fun h47 => ?_)
  · refine g_iload_n (pc := 53) d_M_reason_53 rfl ?_
    refine g_iconst (pc := 54) (v := nI 2) d_M_reason_54 (by decide) ?_
    refine g_nicmp_ne (pc := 55) (tgt := 63) d_M_reason_55 (by decide) (by omega) (by omega) (fun h55 => ?_) (fun h => absurd h (by decide))
    refine g_aload_n (pc := 63) d_M_reason_63 rfl ?_
    refine g_bipush (pc := 64) (v := nI 32) d_M_reason_64 (by decide) ?_
    refine g_iload (pc := 66) d_M_reason_66 rfl ?_
    refine g_nmul (pc := 68) d_M_reason_68 ?_
    refine g_callV (M' := m_M_copy) (pc := 69) (q := 0) d_M_reason_69 lm_M_72 (c_M_copy [] (32 * x) A hI.2.2.2.1 pA1 pA2 (by simp; omega)) v_M_copy rfl rfl rfl (by decide) rfl (Nat.le_of_ble_eq_true rfl) ?_
    rintro _ _ ⟨i2, r2, rfl, rfl, hx2, hk2⟩
    have hx2 : MW A i2 r2 := hx2
    have hI2 := hI.mk hk2 hx2
    show pG m_M_reason τ _ 0 0 72 _ _ _
    refine g_iload_n (pc := 72) d_M_reason_72 rfl ?_
    refine g_iconst (pc := 73) (v := nI 2) d_M_reason_73 (by decide) ?_
    refine g_nicmp_ne (pc := 74) (tgt := 83) d_M_reason_74 (by decide) (by omega) (by omega) (fun h74 => ?_) (fun h => absurd h (by decide))
    refine g_aload_n (pc := 83) d_M_reason_83 rfl ?_
    refine g_iload_n (pc := 84) d_M_reason_84 rfl ?_
    refine g_iconst (pc := 85) (v := nI 1) d_M_reason_85 (by decide) ?_
    refine g_nicmp_ne (pc := 86) (tgt := 95) d_M_reason_86 (by decide) (by omega) (by omega) (fun h86 => ?_) (fun h => absurd h (by decide))
    refine g_iload_n (pc := 95) d_M_reason_95 rfl ?_
    refine g_iconst (pc := 96) (v := nI 2) d_M_reason_96 (by decide) ?_
    refine g_nicmp_ne (pc := 97) (tgt := 115) d_M_reason_97 (by decide) (by omega) (by omega) (fun h97 => ?_) (fun h => absurd h (by decide))
    refine g_aload_n (pc := 115) d_M_reason_115 rfl ?_
    refine gm_set (pc := 116) d_M_reason_116 lf_M_118 ?_
    refine gm_set_p (pc := 119) d_M_reason_119 lf_M_118 ?_
    refine g_goto (pc := 122) (tgt := 319) d_M_reason_122 (by decide) ?_
    refine g_iconst (pc := 319) (v := nI 0) d_M_reason_319 (by decide) ?_
    refine g_iret (pc := 320) d_M_reason_320 rfl (Nat.le_refl _) (Nat.le_refl _) ?_
    rw [h47] at wA
    have eC : ((if tyR A = 0 then 0 else -2) : Int32) = 0 := if_pos h47
    exact ⟨i2, r2, _, _, _, _, by rw [eC]; rfl, rfl, hI2, ext.rf, fun _ _ h => h, fun _ => ⟨rfl, rfl, rfl, rfl, gs.1, rfl, wA, (by omega), hsb⟩⟩
  · refine g_bipush (pc := 50) (v := -2) d_M_reason_50 (by decide) ?_
    refine g_iret (pc := 52) d_M_reason_52 rfl (Nat.le_refl _) (Nat.le_refl _) ?_
    have eC : ((if tyR A = 0 then 0 else -2) : Int32) = -2 := if_neg h47
    exact ⟨i, r, _, _, _, _, by rw [eC], rfl, hI, ext.rf, fun _ _ h => h, fun q => absurd q (by rw [eC]; decide)⟩
set_option maxRecDepth 100000 in
set_option maxHeartbeats 4000000 in
theorem c_M_reason_1 {τ : Nat × Nat} {a : Nat → Nat} {i : Nat → Int32} {r : Nat → Nat → Int32} {L : Nat → Nat → Int64} {wr : pW} {Ty : List (Nat × Nat)} {Tm : List (List Nat)} {Th : List Thm} (x : Nat) (A : List Nat) (hA0_ : Tm[x]? = some A) (y : Int32) (s : Nat) (hI : MI Ty Tm Th (dcl Tm) [] i r L) (gs : GS Ty Tm Th) (hs : s < 2 ^ 60) (hsb : ∀ t : Nat, s.testBit t = true → t < Tm.length) : pC m_M_reason τ [.ref (a 0), .int (nI 1), .int (nI x), .int y] (wM a i r L (lN s) ++ wr) (MO a L wr Ty Tm Th (if tyR A = 0 then 0 else -2) (2 ^ x) (Ty) (Tm) (A)) := by
  refine pC.of rfl (Nat.le_of_ble_eq_true rfl) ?_
  show pG m_M_reason τ _ 0 0 0 [(0, _), (1, _), (2, _), (3, _)] [] _
  obtain ⟨pA1, pA2, pA3, pA4, pA5, pA6⟩ := hI.2.1.mg gs.1 hA0_
  have wA := gs.row hA0_
  have lA := tyR_lt A
  obtain ⟨gA1, gA2, gA3, gA4⟩ := pA1.hd
  have mA := mu_c gA3
  refine g_iload_n (pc := 0) d_M_reason_0 rfl ?_
  refine g_iconst (pc := 1) (v := nI 2) d_M_reason_1 (by decide) ?_
  refine g_nicmp_ge (pc := 2) (tgt := 12) d_M_reason_2 (by decide) (by omega) (by omega) (fun h => absurd h (by decide)) (fun h2 => ?_)
  refine g_bipush (pc := 5) (v := nI 32) d_M_reason_5 (by decide) ?_
  refine g_iload_n (pc := 7) d_M_reason_7 rfl ?_
  refine g_nmul (pc := 8) d_M_reason_8 ?_
  refine g_goto (pc := 9) (tgt := 21) d_M_reason_9 (by decide) ?_
  refine g_istore (pc := 21) [(4, _), (0, _), (1, _), (2, _), (3, _)] d_M_reason_21 (by decide) rfl ?_
  refine g_iload_n (pc := 23) d_M_reason_23 rfl ?_
  refine g_iconst (pc := 24) (v := nI 2) d_M_reason_24 (by decide) ?_
  refine g_nicmp_ge (pc := 25) (tgt := 32) d_M_reason_25 (by decide) (by omega) (by omega) (fun h => absurd h (by decide)) (fun h25 => ?_)
  refine g_iload_n (pc := 28) d_M_reason_28 rfl ?_
  refine g_goto (pc := 29) (tgt := 33) d_M_reason_29 (by decide) ?_
  refine g_istore (pc := 33) [(5, _), (4, _), (0, _), (1, _), (2, _), (3, _)] d_M_reason_33 (by decide) rfl ?_
  refine g_iload_n (pc := 35) d_M_reason_35 rfl ?_
  refine g_iconst (pc := 36) (v := nI 3) d_M_reason_36 (by decide) ?_
  refine g_nicmp_ge (pc := 37) (tgt := 125) d_M_reason_37 (by decide) (by omega) (by omega) (fun h => absurd h (by decide)) (fun h37 => ?_)
  refine g_aload_n (pc := 40) d_M_reason_40 rfl ?_
  refine gm_sort (pc := 41) d_M_reason_41 lf_M_16 ?_
  refine g_iload (pc := 44) d_M_reason_44 rfl ?_
  refine glm_sort (pc := 46) (v := nI (tyR A)) d_M_reason_46 (vp_in_nI (by omega) (by decide)) (by rw [nI_clamp (by omega)]; exact pA5) ?_
  refine g_nif_eq (pc := 47) (tgt := 53) d_M_reason_47 (by decide) (by omega) (fun h47 => ?_) (fun h47 => ?_)
  · refine g_iload_n (pc := 53) d_M_reason_53 rfl ?_
    refine g_iconst (pc := 54) (v := nI 2) d_M_reason_54 (by decide) ?_
    refine g_nicmp_ne (pc := 55) (tgt := 63) d_M_reason_55 (by decide) (by omega) (by omega) (fun h55 => ?_) (fun h => absurd h (by decide))
    refine g_aload_n (pc := 63) d_M_reason_63 rfl ?_
    refine g_bipush (pc := 64) (v := nI 32) d_M_reason_64 (by decide) ?_
    refine g_iload (pc := 66) d_M_reason_66 rfl ?_
    refine g_nmul (pc := 68) d_M_reason_68 ?_
    refine g_callV (M' := m_M_copy) (pc := 69) (q := 0) d_M_reason_69 lm_M_72 (c_M_copy [] (32 * x) A hI.2.2.2.1 pA1 pA2 (by simp; omega)) v_M_copy rfl rfl rfl (by decide) rfl (Nat.le_of_ble_eq_true rfl) ?_
    rintro _ _ ⟨i2, r2, rfl, rfl, hx2, hk2⟩
    have hx2 : MW A i2 r2 := hx2
    have hI2 := hI.mk hk2 hx2
    show pG m_M_reason τ _ 0 0 72 _ _ _
    refine g_iload_n (pc := 72) d_M_reason_72 rfl ?_
    refine g_iconst (pc := 73) (v := nI 2) d_M_reason_73 (by decide) ?_
    refine g_nicmp_ne (pc := 74) (tgt := 83) d_M_reason_74 (by decide) (by omega) (by omega) (fun h74 => ?_) (fun h => absurd h (by decide))
    refine g_aload_n (pc := 83) d_M_reason_83 rfl ?_
    refine g_iload_n (pc := 84) d_M_reason_84 rfl ?_
    refine g_iconst (pc := 85) (v := nI 1) d_M_reason_85 (by decide) ?_
    refine g_nicmp_ne (pc := 86) (tgt := 95) d_M_reason_86 (by decide) (by omega) (by omega) (fun h => absurd h (by decide)) (fun h86 => ?_)
    refine g_lconst (pc := 89) (v := lN 1) d_M_reason_89 (by decide) ?_
    refine g_iload_n (pc := 90) d_M_reason_90 rfl ?_
    refine g_lshl (pc := 91) d_M_reason_91 ?_
    rw [lb_1 x (by omega)]
    refine g_goto (pc := 92) (tgt := 119) d_M_reason_92 (by decide) ?_
    refine gm_set_p (pc := 119) d_M_reason_119 lf_M_118 ?_
    refine g_goto (pc := 122) (tgt := 319) d_M_reason_122 (by decide) ?_
    refine g_iconst (pc := 319) (v := nI 0) d_M_reason_319 (by decide) ?_
    refine g_iret (pc := 320) d_M_reason_320 rfl (Nat.le_refl _) (Nat.le_refl _) ?_
    rw [h47] at wA
    have eC : ((if tyR A = 0 then 0 else -2) : Int32) = 0 := if_pos h47
    exact ⟨i2, r2, _, _, _, _, by rw [eC]; rfl, rfl, hI2, ext.rf, fun _ _ h => h, fun _ => ⟨rfl, rfl, rfl, rfl, gs.1, rfl, wA, (by omega), fun t ht => by rw [← two_bits ht]; exact (List.getElem?_eq_some_iff.mp hA0_).1⟩⟩
  · refine g_bipush (pc := 50) (v := -2) d_M_reason_50 (by decide) ?_
    refine g_iret (pc := 52) d_M_reason_52 rfl (Nat.le_refl _) (Nat.le_refl _) ?_
    have eC : ((if tyR A = 0 then 0 else -2) : Int32) = -2 := if_neg h47
    exact ⟨i, r, _, _, _, _, by rw [eC], rfl, hI, ext.rf, fun _ _ h => h, fun q => absurd q (by rw [eC]; decide)⟩
set_option maxRecDepth 100000 in
set_option maxHeartbeats 4000000 in
theorem c_M_reason_2 {τ : Nat × Nat} {a : Nat → Nat} {i : Nat → Int32} {r : Nat → Nat → Int32} {L : Nat → Nat → Int64} {wr : pW} {Ty : List (Nat × Nat)} {Tm : List (List Nat)} {Th : List Thm} (x ux vx zx hx cx : Nat) (A : List Nat) (tx : Th[x]? = some (ux, vx, zx, hx, cx)) (hA0_ : Tm[cx]? = some A) (y : Nat) (B : List Nat) (hB0_ : Tm[y]? = some B) (s : Nat) (hI : MI Ty Tm Th (dcl Tm) [] i r L) (gs : GS Ty Tm Th) (hs : s < 2 ^ 60) (hsb : ∀ t : Nat, s.testBit t = true → t < Tm.length) : pC m_M_reason τ [.ref (a 0), .int (nI 2), .int (nI x), .int (nI y)] (wM a i r L (lN s) ++ wr) (MO a L wr Ty Tm Th (if tyR B = 0 then 0 else -2) (clr s y) (Ty) (Tm) (sJn 6 B A)) := by
  refine pC.of rfl (Nat.le_of_ble_eq_true rfl) ?_
  show pG m_M_reason τ _ 0 0 0 [(0, _), (1, _), (2, _), (3, _)] [] _
  obtain ⟨pA1, pA2, pA3, pA4, pA5, pA6⟩ := hI.2.1.mg gs.1 hA0_
  have wA := gs.row hA0_
  have lA := tyR_lt A
  obtain ⟨gA1, gA2, gA3, gA4⟩ := pA1.hd
  have mA := mu_c gA3
  obtain ⟨hx4, hxL, hx7⟩ := hI.th tx
  have oA := gs.c0 tx hA0_
  obtain ⟨pB1, pB2, pB3, pB4, pB5, pB6⟩ := hI.2.1.mg gs.1 hB0_
  have wB := gs.row hB0_
  have lB := tyR_lt B
  obtain ⟨gB1, gB2, gB3, gB4⟩ := pB1.hd
  have mB := mu_c gB3
  refine g_iload_n (pc := 0) d_M_reason_0 rfl ?_
  refine g_iconst (pc := 1) (v := nI 2) d_M_reason_1 (by decide) ?_
  refine g_nicmp_ge (pc := 2) (tgt := 12) d_M_reason_2 (by decide) (by omega) (by omega) (fun h2 => ?_) (fun h => absurd h (by decide))
  refine g_bipush (pc := 12) (v := nI 32) d_M_reason_12 (by decide) ?_
  refine g_aload_n (pc := 14) d_M_reason_14 rfl ?_
  refine gm_conclusion (pc := 15) d_M_reason_15 lf_M_39 ?_
  refine g_iload_n (pc := 18) d_M_reason_18 rfl ?_
  refine glm_conclusion (pc := 19) (v := nI cx) d_M_reason_19 (vp_in_nI (by omega) (by decide)) (by rw [nI_clamp (by omega)]; exact hx7) ?_
  refine g_nmul (pc := 20) d_M_reason_20 ?_
  refine g_istore (pc := 21) [(4, _), (0, _), (1, _), (2, _), (3, _)] d_M_reason_21 (by decide) rfl ?_
  refine g_iload_n (pc := 23) d_M_reason_23 rfl ?_
  refine g_iconst (pc := 24) (v := nI 2) d_M_reason_24 (by decide) ?_
  refine g_nicmp_ge (pc := 25) (tgt := 32) d_M_reason_25 (by decide) (by omega) (by omega) (fun h25 => ?_) (fun h => absurd h (by decide))
  refine g_iload_n (pc := 32) d_M_reason_32 rfl ?_
  refine g_istore (pc := 33) [(5, _), (4, _), (0, _), (1, _), (2, _), (3, _)] d_M_reason_33 (by decide) rfl ?_
  refine g_iload_n (pc := 35) d_M_reason_35 rfl ?_
  refine g_iconst (pc := 36) (v := nI 3) d_M_reason_36 (by decide) ?_
  refine g_nicmp_ge (pc := 37) (tgt := 125) d_M_reason_37 (by decide) (by omega) (by omega) (fun h => absurd h (by decide)) (fun h37 => ?_)
  refine g_aload_n (pc := 40) d_M_reason_40 rfl ?_
  refine gm_sort (pc := 41) d_M_reason_41 lf_M_16 ?_
  refine g_iload (pc := 44) d_M_reason_44 rfl ?_
  refine glm_sort (pc := 46) (v := nI (tyR B)) d_M_reason_46 (vp_in_nI (by omega) (by decide)) (by rw [nI_clamp (by omega)]; exact pB5) ?_
  refine g_nif_eq (pc := 47) (tgt := 53) d_M_reason_47 (by decide) (by omega) (fun h47 => ?_) (fun h47 => ?_)
  · refine g_iload_n (pc := 53) d_M_reason_53 rfl ?_
    refine g_iconst (pc := 54) (v := nI 2) d_M_reason_54 (by decide) ?_
    refine g_nicmp_ne (pc := 55) (tgt := 63) d_M_reason_55 (by decide) (by omega) (by omega) (fun h => absurd h (by decide)) (fun h55 => ?_)
    refine g_aload_n (pc := 58) d_M_reason_58 rfl ?_
    refine g_iconst (pc := 59) (v := nI 2) d_M_reason_59 (by decide) ?_
    refine g_topi (nI (mu (tok 6 0 0))) (by rw [mu_6]) ?_
    refine g_callV (M' := m_M_put) (pc := 60) (q := 0) d_M_reason_60 lm_M_68 (c_M_put [] (tok 6 0 0) hI.2.2.2.1 (by simp)) v_M_put rfl rfl rfl (by decide) rfl (Nat.le_of_ble_eq_true rfl) ?_
    rintro _ _ ⟨i2, r2, rfl, rfl, hx2, hk2⟩
    have hx2 : MW [tok 6 0 0] i2 r2 := hx2
    have hI2 := hI.mk hk2 hx2
    show pG m_M_reason τ _ 0 0 63 _ _ _
    refine g_aload_n (pc := 63) d_M_reason_63 rfl ?_
    refine g_bipush (pc := 64) (v := nI 32) d_M_reason_64 (by decide) ?_
    refine g_iload (pc := 66) d_M_reason_66 rfl ?_
    refine g_nmul (pc := 68) d_M_reason_68 ?_
    refine g_callV (M' := m_M_copy) (pc := 69) (q := 0) d_M_reason_69 lm_M_72 (c_M_copy [tok 6 0 0] (32 * y) B hI2.2.2.2.1 (pB1.kp pB2 hk2) pB2 (by simp; omega)) v_M_copy rfl rfl rfl (by decide) rfl (Nat.le_of_ble_eq_true rfl) ?_
    rintro _ _ ⟨i3, r3, rfl, rfl, hx3, hk3⟩
    have hx3 : MW ([tok 6 0 0] ++ B) i3 r3 := hx3
    have hI3 := hI2.mk hk3 hx3
    show pG m_M_reason τ _ 0 0 72 _ _ _
    refine g_iload_n (pc := 72) d_M_reason_72 rfl ?_
    refine g_iconst (pc := 73) (v := nI 2) d_M_reason_73 (by decide) ?_
    refine g_nicmp_ne (pc := 74) (tgt := 83) d_M_reason_74 (by decide) (by omega) (by omega) (fun h => absurd h (by decide)) (fun h74 => ?_)
    refine g_aload_n (pc := 77) d_M_reason_77 rfl ?_
    refine g_iload (pc := 78) d_M_reason_78 rfl ?_
    refine g_callV (M' := m_M_copy) (pc := 80) (q := 0) d_M_reason_80 lm_M_72 (c_M_copy ([tok 6 0 0] ++ B) (32 * cx) A hI3.2.2.2.1 ((pA1.kp pA2 hk2).kp pA2 hk3) pA2 (by simp; omega)) v_M_copy rfl rfl rfl (by decide) rfl (Nat.le_of_ble_eq_true rfl) ?_
    rintro _ _ ⟨i4, r4, rfl, rfl, hx4, hk4⟩
    have hx4 : MW (sJn 6 B A) i4 r4 := hx4
    have hI4 := hI3.mk hk4 hx4
    show pG m_M_reason τ _ 0 0 83 _ _ _
    refine g_aload_n (pc := 83) d_M_reason_83 rfl ?_
    refine g_iload_n (pc := 84) d_M_reason_84 rfl ?_
    refine g_iconst (pc := 85) (v := nI 1) d_M_reason_85 (by decide) ?_
    refine g_nicmp_ne (pc := 86) (tgt := 95) d_M_reason_86 (by decide) (by omega) (by omega) (fun h86 => ?_) (fun h => absurd h (by decide))
    refine g_iload_n (pc := 95) d_M_reason_95 rfl ?_
    refine g_iconst (pc := 96) (v := nI 2) d_M_reason_96 (by decide) ?_
    refine g_nicmp_ne (pc := 97) (tgt := 115) d_M_reason_97 (by decide) (by omega) (by omega) (fun h => absurd h (by decide)) (fun h97 => ?_)
    refine g_aload_n (pc := 100) d_M_reason_100 rfl ?_
    refine gm_set (pc := 101) d_M_reason_101 lf_M_118 ?_
    refine g_lconst (pc := 104) (v := lN 1) d_M_reason_104 (by decide) ?_
    refine g_iload_n (pc := 105) d_M_reason_105 rfl ?_
    refine g_lshl (pc := 106) d_M_reason_106 ?_
    refine g_ldc2 (pc := 107) d_M_reason_107 lk_M_131 ?_
    refine g_lxor (pc := 110) d_M_reason_110 ?_
    refine g_land (pc := 111) d_M_reason_111 ?_
    rw [lb_clr (by omega) (by omega)]
    refine g_goto (pc := 112) (tgt := 119) d_M_reason_112 (by decide) ?_
    refine gm_set_p (pc := 119) d_M_reason_119 lf_M_118 ?_
    refine g_goto (pc := 122) (tgt := 319) d_M_reason_122 (by decide) ?_
    refine g_iconst (pc := 319) (v := nI 0) d_M_reason_319 (by decide) ?_
    refine g_iret (pc := 320) d_M_reason_320 rfl (Nat.le_refl _) (Nat.le_refl _) ?_
    rw [h47] at wB
    rw [oA] at wA
    have eC : ((if tyR B = 0 then 0 else -2) : Int32) = 0 := if_pos h47
    exact ⟨i4, r4, _, _, _, _, by rw [eC]; rfl, rfl, hI4, ext.rf, fun _ _ h => h, fun _ => ⟨rfl, rfl, rfl, rfl, gs.1, rfl, WT_imp wB wA, (by simp [sJn]; omega), fun t ht => hsb t (clr_bits ht)⟩⟩
  · refine g_bipush (pc := 50) (v := -2) d_M_reason_50 (by decide) ?_
    refine g_iret (pc := 52) d_M_reason_52 rfl (Nat.le_refl _) (Nat.le_refl _) ?_
    have eC : ((if tyR B = 0 then 0 else -2) : Int32) = -2 := if_neg h47
    exact ⟨i, r, _, _, _, _, by rw [eC], rfl, hI, ext.rf, fun _ _ h => h, fun q => absurd q (by rw [eC]; decide)⟩
set_option maxRecDepth 100000 in
set_option maxHeartbeats 4000000 in
theorem c_M_reason_3 {τ : Nat × Nat} {a : Nat → Nat} {i : Nat → Int32} {r : Nat → Nat → Int32} {L : Nat → Nat → Int64} {wr : pW} {Ty : List (Nat × Nat)} {Tm : List (List Nat)} {Th : List Thm} (x ux vx zx hx cx : Nat) (A : List Nat) (tx : Th[x]? = some (ux, vx, zx, hx, cx)) (hA0_ : Tm[cx]? = some A) (y uy vy zy hy cy : Nat) (B : List Nat) (ty : Th[y]? = some (uy, vy, zy, hy, cy)) (hB0_ : Tm[cy]? = some B) (s : Nat) (hI : MI Ty Tm Th (dcl Tm) [] i r L) (gs : GS Ty Tm Th) (hs : s < 2 ^ 60) (hsb : ∀ t : Nat, s.testBit t = true → t < Tm.length) : pC m_M_reason τ [.ref (a 0), .int (nI 3), .int (nI x), .int (nI y)] (wM a i r L (lN s) ++ wr) (MO a L wr Ty Tm Th (if tgR A = 6 ∧ p1 A = B then 0 else -2) (s) (Ty) (Tm) (p2 A)) := by
  refine pC.of rfl (Nat.le_of_ble_eq_true rfl) ?_
  show pG m_M_reason τ _ 0 0 0 [(0, _), (1, _), (2, _), (3, _)] [] _
  obtain ⟨pA1, pA2, pA3, pA4, pA5, pA6⟩ := hI.2.1.mg gs.1 hA0_
  have wA := gs.row hA0_
  have lA := tyR_lt A
  obtain ⟨gA1, gA2, gA3, gA4⟩ := pA1.hd
  have mA := mu_c gA3
  obtain ⟨hx4, hxL, hx7⟩ := hI.th tx
  have oA := gs.c0 tx hA0_
  obtain ⟨pB1, pB2, pB3, pB4, pB5, pB6⟩ := hI.2.1.mg gs.1 hB0_
  have wB := gs.row hB0_
  have lB := tyR_lt B
  obtain ⟨gB1, gB2, gB3, gB4⟩ := pB1.hd
  have mB := mu_c gB3
  obtain ⟨hy4, hyL, hy7⟩ := hI.th ty
  have oB := gs.c0 ty hB0_
  refine g_iload_n (pc := 0) d_M_reason_0 rfl ?_
  refine g_iconst (pc := 1) (v := nI 2) d_M_reason_1 (by decide) ?_
  refine g_nicmp_ge (pc := 2) (tgt := 12) d_M_reason_2 (by decide) (by omega) (by omega) (fun h2 => ?_) (fun h => absurd h (by decide))
  refine g_bipush (pc := 12) (v := nI 32) d_M_reason_12 (by decide) ?_
  refine g_aload_n (pc := 14) d_M_reason_14 rfl ?_
  refine gm_conclusion (pc := 15) d_M_reason_15 lf_M_39 ?_
  refine g_iload_n (pc := 18) d_M_reason_18 rfl ?_
  refine glm_conclusion (pc := 19) (v := nI cx) d_M_reason_19 (vp_in_nI (by omega) (by decide)) (by rw [nI_clamp (by omega)]; exact hx7) ?_
  refine g_nmul (pc := 20) d_M_reason_20 ?_
  refine g_istore (pc := 21) [(4, _), (0, _), (1, _), (2, _), (3, _)] d_M_reason_21 (by decide) rfl ?_
  refine g_iload_n (pc := 23) d_M_reason_23 rfl ?_
  refine g_iconst (pc := 24) (v := nI 2) d_M_reason_24 (by decide) ?_
  refine g_nicmp_ge (pc := 25) (tgt := 32) d_M_reason_25 (by decide) (by omega) (by omega) (fun h25 => ?_) (fun h => absurd h (by decide))
  refine g_iload_n (pc := 32) d_M_reason_32 rfl ?_
  refine g_istore (pc := 33) [(5, _), (4, _), (0, _), (1, _), (2, _), (3, _)] d_M_reason_33 (by decide) rfl ?_
  refine g_iload_n (pc := 35) d_M_reason_35 rfl ?_
  refine g_iconst (pc := 36) (v := nI 3) d_M_reason_36 (by decide) ?_
  refine g_nicmp_ge (pc := 37) (tgt := 125) d_M_reason_37 (by decide) (by omega) (by omega) (fun h37 => ?_) (fun h => absurd h (by decide))
  refine g_iload_n (pc := 125) d_M_reason_125 rfl ?_
  refine g_iconst (pc := 126) (v := nI 3) d_M_reason_126 (by decide) ?_
  refine g_nicmp_eq (pc := 127) (tgt := 136) d_M_reason_127 (by decide) (by omega) (by omega) (fun h127 => ?_) (fun h => absurd h (by decide))
  refine g_aload_n (pc := 136) d_M_reason_136 rfl ?_
  refine gm_row (pc := 137) d_M_reason_137 lf_M_7 ?_
  refine g_iload (pc := 140) d_M_reason_140 rfl ?_
  refine glm_row (pc := 142) (v := nI (mu (hdt A))) d_M_reason_142 (vp_in_nI (by omega) (by decide)) (by rw [nI_clamp (by omega)]; exact (pA1).hd.2.1) ?_
  refine g_iload_n (pc := 143) d_M_reason_143 rfl ?_
  refine g_iconst (pc := 144) (v := nI 3) d_M_reason_144 (by decide) ?_
  refine g_nicmp_ne (pc := 145) (tgt := 152) d_M_reason_145 (by decide) (by omega) (by omega) (fun h => absurd h (by decide)) (fun h145 => ?_)
  refine g_iconst (pc := 148) (v := nI 2) d_M_reason_148 (by decide) ?_
  refine g_goto (pc := 149) (tgt := 153) d_M_reason_149 (by decide) ?_
  refine g_nicmp_ne (pc := 153) (tgt := 176) d_M_reason_153 (by decide) (by omega) (by omega) (fun h153 => ?_) (fun h153 => ?_)
  · refine g_bipush (pc := 176) (v := -2) d_M_reason_176 (by decide) ?_
    refine g_iret (pc := 178) d_M_reason_178 rfl (Nat.le_refl _) (Nat.le_refl _) ?_
    have hno : ¬ (tgR A = 6 ∧ p1 A = B) := by
      first
      | exact fun q => h153 (mA.2.1.mpr q.1)
      | (rintro ⟨-, q⟩
         rw [hp1] at q
         rw [q] at h173
         simp at h173)
    have eC : ((if tgR A = 6 ∧ p1 A = B then 0 else -2) : Int32) = -2 := if_neg hno
    exact ⟨i, r, _, _, _, _, by rw [eC], rfl, hI, ext.rf, fun _ _ h => h, fun q => absurd q (by rw [eC]; decide)⟩
  · have hk := mA.2.1.mp h153
    have hk5 : 5 ≤ tgR A := by rw [show tgR A = 6 from hk]; decide
    obtain ⟨X, Y, hAe, hX, hY, hp1, hp2⟩ := pA1.two hk5
    obtain ⟨-, xt, hxt, wP1, wP2, -⟩ := wA.two (Or.inl hk)
    rw [hp1] at wP1
    rw [hp2] at wP2
    have hbd := MA.bd (f := r 0) hAe pA2
    have hX30 := hX.2.2.2.2
    have hY30 := hY.2.2.2.2
    refine g_aload_n (pc := 156) d_M_reason_156 rfl ?_
    refine g_iload (pc := 157) d_M_reason_157 rfl ?_
    refine g_iconst (pc := 159) (v := nI 1) d_M_reason_159 (by decide) ?_
    refine g_nadd (pc := 160) d_M_reason_160 ?_
    refine g_bipush (pc := 161) (v := nI 32) d_M_reason_161 (by decide) ?_
    refine g_aload_n (pc := 163) d_M_reason_163 rfl ?_
    refine gm_conclusion (pc := 164) d_M_reason_164 lf_M_39 ?_
    refine g_iload_n (pc := 167) d_M_reason_167 rfl ?_
    refine glm_conclusion (pc := 168) (v := nI cy) d_M_reason_168 (vp_in_nI (by omega) (by decide)) (by rw [nI_clamp (by omega)]; exact hy7) ?_
    refine g_nmul (pc := 169) d_M_reason_169 ?_
    refine g_callV (M' := m_M_same) (pc := 170) (q := 0) d_M_reason_170 lm_M_81 (c_M_same (32 * cx + 1) (32 * cy) X B hX pB1) v_M_same rfl rfl rfl (by decide) rfl (Nat.le_of_ble_eq_true rfl) ?_
    rintro _ _ ⟨rfl, rfl⟩
    show pG m_M_reason τ _ 0 0 173 _ (.int _ :: _) _
    refine g_ifb_ne (pc := 173) (tgt := 179) d_M_reason_173 (by decide) (fun h173 => ?_) (fun h173 => ?_)
    · refine g_aload_n (pc := 179) d_M_reason_179 rfl ?_
      refine g_aload_n (pc := 180) d_M_reason_180 rfl ?_
      refine g_iload (pc := 181) d_M_reason_181 rfl ?_
      refine g_iconst (pc := 183) (v := nI 1) d_M_reason_183 (by decide) ?_
      refine g_nadd (pc := 184) d_M_reason_184 ?_
      refine g_callV (M' := m_M_end) (pc := 185) (q := 0) d_M_reason_185 lm_M_55 (c_M_end (32 * cx + 1) X hX) v_M_end rfl rfl rfl (by decide) rfl (Nat.le_of_ble_eq_true rfl) ?_
      rintro _ _ ⟨rfl, rfl⟩
      show pG m_M_reason τ _ 0 0 188 _ (.int _ :: _) _
      refine g_callV (M' := m_M_copy) (pc := 188) (q := 0) d_M_reason_188 lm_M_72 (c_M_copy [] (32 * cx + 1 + X.length) Y hI.2.2.2.1 hY hbd.2 (by simp; omega)) v_M_copy rfl rfl rfl (by decide) rfl (Nat.le_of_ble_eq_true rfl) ?_
      rintro _ _ ⟨i2, r2, rfl, rfl, hx2, hk2⟩
      rw [← hp2] at hx2
      have hx2 : MW (p2 A) i2 r2 := hx2
      have hI2 := hI.mk hk2 hx2
      show pG m_M_reason τ _ 0 0 191 _ _ _
      refine g_goto (pc := 191) (tgt := 319) d_M_reason_191 (by decide) ?_
      refine g_iconst (pc := 319) (v := nI 0) d_M_reason_319 (by decide) ?_
      refine g_iret (pc := 320) d_M_reason_320 rfl (Nat.le_refl _) (Nat.le_refl _) ?_
      have hXB : X = B := chk_inj gs.1.1 30 hX30 wP1 wB (of_decide_eq_true h173)
      have hxt0 : xt = 0 := by rw [← wP1.ty, hXB]; exact oB
      rw [hxt0, ← hp2] at wP2
      have eC : ((if tgR A = 6 ∧ p1 A = B then 0 else -2) : Int32) = 0 := if_pos ⟨hk, hp1.trans hXB⟩
      exact ⟨i2, r2, _, _, _, _, by rw [eC]; rfl, rfl, hI2, ext.rf, fun _ _ h => h, fun _ => ⟨rfl, rfl, rfl, rfl, gs.1, rfl, wP2, (by rw [hp2]; omega), hsb⟩⟩
    · refine g_bipush (pc := 176) (v := -2) d_M_reason_176 (by decide) ?_
      refine g_iret (pc := 178) d_M_reason_178 rfl (Nat.le_refl _) (Nat.le_refl _) ?_
      have hno : ¬ (tgR A = 6 ∧ p1 A = B) := by
        first
        | exact fun q => h153 (mA.2.1.mpr q.1)
        | (rintro ⟨-, q⟩
           rw [hp1] at q
           rw [q] at h173
           simp at h173)
      have eC : ((if tgR A = 6 ∧ p1 A = B then 0 else -2) : Int32) = -2 := if_neg hno
      exact ⟨i, r, _, _, _, _, by rw [eC], rfl, hI, ext.rf, fun _ _ h => h, fun q => absurd q (by rw [eC]; decide)⟩
set_option maxRecDepth 100000 in
set_option maxHeartbeats 4000000 in
theorem c_M_reason_4 {τ : Nat × Nat} {a : Nat → Nat} {i : Nat → Int32} {r : Nat → Nat → Int32} {L : Nat → Nat → Int64} {wr : pW} {Ty : List (Nat × Nat)} {Tm : List (List Nat)} {Th : List Thm} (x ux vx zx hx cx : Nat) (A : List Nat) (tx : Th[x]? = some (ux, vx, zx, hx, cx)) (hA0_ : Tm[cx]? = some A) (y : Nat) (B : List Nat) (hB0_ : Tm[y]? = some B) (s : Nat) (hI : MI Ty Tm Th (dcl Tm) [] i r L) (gs : GS Ty Tm Th) (hs : s < 2 ^ 60) (hsb : ∀ t : Nat, s.testBit t = true → t < Tm.length) : pC m_M_reason τ [.ref (a 0), .int (nI 4), .int (nI x), .int (nI y)] (wM a i r L (lN s) ++ wr) (MO a L wr Ty Tm Th (if tgR B = 0 then (if sBnd Tm s (hdt B) = true then -3 else 0) else -2) (s) (Ty) (Tm) (sBd 4 0 (hdt B) A)) := by
  refine pC.of rfl (Nat.le_of_ble_eq_true rfl) ?_
  show pG m_M_reason τ _ 0 0 0 [(0, _), (1, _), (2, _), (3, _)] [] _
  obtain ⟨pA1, pA2, pA3, pA4, pA5, pA6⟩ := hI.2.1.mg gs.1 hA0_
  have wA := gs.row hA0_
  have lA := tyR_lt A
  obtain ⟨gA1, gA2, gA3, gA4⟩ := pA1.hd
  have mA := mu_c gA3
  obtain ⟨hx4, hxL, hx7⟩ := hI.th tx
  have oA := gs.c0 tx hA0_
  obtain ⟨pB1, pB2, pB3, pB4, pB5, pB6⟩ := hI.2.1.mg gs.1 hB0_
  have wB := gs.row hB0_
  have lB := tyR_lt B
  obtain ⟨gB1, gB2, gB3, gB4⟩ := pB1.hd
  have mB := mu_c gB3
  refine g_iload_n (pc := 0) d_M_reason_0 rfl ?_
  refine g_iconst (pc := 1) (v := nI 2) d_M_reason_1 (by decide) ?_
  refine g_nicmp_ge (pc := 2) (tgt := 12) d_M_reason_2 (by decide) (by omega) (by omega) (fun h2 => ?_) (fun h => absurd h (by decide))
  refine g_bipush (pc := 12) (v := nI 32) d_M_reason_12 (by decide) ?_
  refine g_aload_n (pc := 14) d_M_reason_14 rfl ?_
  refine gm_conclusion (pc := 15) d_M_reason_15 lf_M_39 ?_
  refine g_iload_n (pc := 18) d_M_reason_18 rfl ?_
  refine glm_conclusion (pc := 19) (v := nI cx) d_M_reason_19 (vp_in_nI (by omega) (by decide)) (by rw [nI_clamp (by omega)]; exact hx7) ?_
  refine g_nmul (pc := 20) d_M_reason_20 ?_
  refine g_istore (pc := 21) [(4, _), (0, _), (1, _), (2, _), (3, _)] d_M_reason_21 (by decide) rfl ?_
  refine g_iload_n (pc := 23) d_M_reason_23 rfl ?_
  refine g_iconst (pc := 24) (v := nI 2) d_M_reason_24 (by decide) ?_
  refine g_nicmp_ge (pc := 25) (tgt := 32) d_M_reason_25 (by decide) (by omega) (by omega) (fun h25 => ?_) (fun h => absurd h (by decide))
  refine g_iload_n (pc := 32) d_M_reason_32 rfl ?_
  refine g_istore (pc := 33) [(5, _), (4, _), (0, _), (1, _), (2, _), (3, _)] d_M_reason_33 (by decide) rfl ?_
  refine g_iload_n (pc := 35) d_M_reason_35 rfl ?_
  refine g_iconst (pc := 36) (v := nI 3) d_M_reason_36 (by decide) ?_
  refine g_nicmp_ge (pc := 37) (tgt := 125) d_M_reason_37 (by decide) (by omega) (by omega) (fun h37 => ?_) (fun h => absurd h (by decide))
  refine g_iload_n (pc := 125) d_M_reason_125 rfl ?_
  refine g_iconst (pc := 126) (v := nI 3) d_M_reason_126 (by decide) ?_
  refine g_nicmp_eq (pc := 127) (tgt := 136) d_M_reason_127 (by decide) (by omega) (by omega) (fun h => absurd h (by decide)) (fun h127 => ?_)
  refine g_iload_n (pc := 130) d_M_reason_130 rfl ?_
  refine g_bipush (pc := 131) (v := nI 12) d_M_reason_131 (by decide) ?_
  refine g_nicmp_ne (pc := 133) (tgt := 194) d_M_reason_133 (by decide) (by omega) (by omega) (fun h133 => ?_) (fun h => absurd h (by decide))
  refine g_iload_n (pc := 194) d_M_reason_194 rfl ?_
  refine g_iconst (pc := 195) (v := nI 4) d_M_reason_195 (by decide) ?_
  refine g_nicmp_ne (pc := 196) (tgt := 261) d_M_reason_196 (by decide) (by omega) (by omega) (fun h => absurd h (by decide)) (fun h196 => ?_)
  refine g_aload_n (pc := 199) d_M_reason_199 rfl ?_
  refine g_iload_n (pc := 200) d_M_reason_200 rfl ?_
  refine g_callV (M' := m_M_isVariableTerm) (pc := 201) (q := 0) d_M_reason_201 lm_M_105 (c_M_isVariableTerm y B pB3 pB4 pB1 (fun q => wB.len1 q)) v_M_isVariableTerm rfl rfl rfl (by decide) rfl (Nat.le_of_ble_eq_true rfl) ?_
  rintro _ _ ⟨rfl, rfl⟩
  show pG m_M_reason τ _ 0 0 204 _ (.int _ :: _) _
  refine g_ifb_ne (pc := 204) (tgt := 210) d_M_reason_204 (by decide) (fun h204 => ?_) (fun h204 => ?_)
  · refine g_aload_n (pc := 210) d_M_reason_210 rfl ?_
    refine g_aload_n (pc := 211) d_M_reason_211 rfl ?_
    refine gm_row (pc := 212) d_M_reason_212 lf_M_7 ?_
    refine g_bipush (pc := 215) (v := nI 32) d_M_reason_215 (by decide) ?_
    refine g_iload_n (pc := 217) d_M_reason_217 rfl ?_
    refine g_nmul (pc := 218) d_M_reason_218 ?_
    refine glm_row (pc := 219) (v := nI (mu (hdt B))) d_M_reason_219 (vp_in_nI (by omega) (by decide)) (by rw [nI_clamp (by omega)]; exact (pB1).hd.2.1) ?_
    refine g_callV (M' := m_M_freeInSet) (pc := 220) (q := 0) d_M_reason_220 lm_M_133 (c_M_freeInSet Tm s (hdt B) hI.2.1 gs.1 hs gB3 (of_decide_eq_true h204)) v_M_freeInSet rfl rfl rfl (by decide) rfl (Nat.le_of_ble_eq_true rfl) ?_
    rintro _ _ ⟨rfl, rfl⟩
    show pG m_M_reason τ _ 0 0 223 _ (.int _ :: _) _
    refine g_ifb_eq (pc := 223) (tgt := 229) d_M_reason_223 (by decide) (fun h223 => ?_) (fun h223 => ?_)
    · refine g_aload_n (pc := 229) d_M_reason_229 rfl ?_
      refine g_bipush (pc := 230) (v := nI 32) d_M_reason_230 (by decide) ?_
      refine g_aload_n (pc := 232) d_M_reason_232 rfl ?_
      refine gm_sort (pc := 233) d_M_reason_233 lf_M_16 ?_
      refine g_iload_n (pc := 236) d_M_reason_236 rfl ?_
      refine glm_sort (pc := 237) (v := nI (tyR B)) d_M_reason_237 (vp_in_nI (by omega) (by decide)) (by rw [nI_clamp (by omega)]; exact pB5) ?_
      refine g_nadd (pc := 238) d_M_reason_238 ?_
      rw [show 32 + tyR B = mu (tok 4 (tyR B) 0) by rw [mu_4 (by omega) (by decide)]]
      refine g_callV (M' := m_M_put) (pc := 239) (q := 0) d_M_reason_239 lm_M_68 (c_M_put [] (tok 4 (tyR B) 0) hI.2.2.2.1 (by simp)) v_M_put rfl rfl rfl (by decide) rfl (Nat.le_of_ble_eq_true rfl) ?_
      rintro _ _ ⟨i2, r2, rfl, rfl, hx2, hk2⟩
      have hx2 : MW [tok 4 (tyR B) 0] i2 r2 := hx2
      have hI2 := hI.mk hk2 hx2
      show pG m_M_reason τ _ 0 0 242 _ _ _
      refine g_aload_n (pc := 242) d_M_reason_242 rfl ?_
      refine g_iload (pc := 243) d_M_reason_243 rfl ?_
      refine g_aload_n (pc := 245) d_M_reason_245 rfl ?_
      refine gm_row (pc := 246) d_M_reason_246 lf_M_7 ?_
      refine g_bipush (pc := 249) (v := nI 32) d_M_reason_249 (by decide) ?_
      refine g_iload_n (pc := 251) d_M_reason_251 rfl ?_
      refine g_nmul (pc := 252) d_M_reason_252 ?_
      refine glm_row (pc := 253) (v := nI (mu (hdt B))) d_M_reason_253 (vp_in_nI (by omega) (by decide)) (by rw [nI_clamp (by omega)]; exact (pB1.kp pB2 hk2).hd.2.1) ?_
      refine g_iconst (pc := 254) (v := -1) d_M_reason_254 (by decide) ?_
      refine g_callV (M' := m_M_copyWith) (pc := 255) (q := 0) d_M_reason_255 lm_M_111 (c_M_copyWith_0 [tok 4 (tyR B) 0] (32 * cx) (hdt B) A hI2.2.2.2.1 (pA1.kp pA2 hk2) pA2 gB3 (of_decide_eq_true h204) (by simp; omega)) v_M_copyWith rfl rfl rfl (by decide) rfl (Nat.le_of_ble_eq_true rfl) ?_
      rintro _ _ ⟨i3, r3, rfl, rfl, hx3, hk3⟩
      have hx3 : MW (sBd 4 0 (hdt B) A) i3 r3 := hx3
      have hI3 := hI2.mk hk3 hx3
      show pG m_M_reason τ _ 0 0 258 _ _ _
      refine g_goto (pc := 258) (tgt := 319) d_M_reason_258 (by decide) ?_
      refine g_iconst (pc := 319) (v := nI 0) d_M_reason_319 (by decide) ?_
      refine g_iret (pc := 320) d_M_reason_320 rfl (Nat.le_refl _) (Nat.le_refl _) ?_
      rw [oA] at wA
      have hcl := @cls_len (hdt B) A [0]
      have eC : ((if tgR B = 0 then (if sBnd Tm s (hdt B) = true then -3 else 0) else -2) : Int32) = 0 := (if_pos (of_decide_eq_true h204)).trans (if_neg (by rw [h223]; decide))
      exact ⟨i3, r3, _, _, _, _, by rw [eC]; rfl, rfl, hI3, ext.rf, fun _ _ h => h, fun _ => ⟨rfl, rfl, rfl, rfl, gs.1, rfl, WT_all (of_decide_eq_true h204) wA pA6, (by simp [sBd]; omega), hsb⟩⟩
    · refine g_bipush (pc := 226) (v := -3) d_M_reason_226 (by decide) ?_
      refine g_iret (pc := 228) d_M_reason_228 rfl (Nat.le_refl _) (Nat.le_refl _) ?_
      have eC : ((if tgR B = 0 then (if sBnd Tm s (hdt B) = true then -3 else 0) else -2) : Int32) = -3 := (if_pos (of_decide_eq_true h204)).trans (if_pos h223)
      exact ⟨i, r, _, _, _, _, by rw [eC], rfl, hI, ext.rf, fun _ _ h => h, fun q => absurd q (by rw [eC]; decide)⟩
  · refine g_bipush (pc := 207) (v := -2) d_M_reason_207 (by decide) ?_
    refine g_iret (pc := 209) d_M_reason_209 rfl (Nat.le_refl _) (Nat.le_refl _) ?_
    have eC : ((if tgR B = 0 then (if sBnd Tm s (hdt B) = true then -3 else 0) else -2) : Int32) = -2 := if_neg (of_decide_eq_false h204)
    exact ⟨i, r, _, _, _, _, by rw [eC], rfl, hI, ext.rf, fun _ _ h => h, fun q => absurd q (by rw [eC]; decide)⟩
set_option maxRecDepth 100000 in
set_option maxHeartbeats 4000000 in
theorem c_M_reason_5 {τ : Nat × Nat} {a : Nat → Nat} {i : Nat → Int32} {r : Nat → Nat → Int32} {L : Nat → Nat → Int64} {wr : pW} {Ty : List (Nat × Nat)} {Tm : List (List Nat)} {Th : List Thm} (x ux vx zx hx cx : Nat) (A : List Nat) (tx : Th[x]? = some (ux, vx, zx, hx, cx)) (hA0_ : Tm[cx]? = some A) (y : Nat) (B : List Nat) (hB0_ : Tm[y]? = some B) (s : Nat) (hI : MI Ty Tm Th (dcl Tm) [] i r L) (gs : GS Ty Tm Th) (hs : s < 2 ^ 60) (hsb : ∀ t : Nat, s.testBit t = true → t < Tm.length) : pC m_M_reason τ [.ref (a 0), .int (nI 5), .int (nI x), .int (nI y)] (wM a i r L (lN s) ++ wr) (MO a L wr Ty Tm Th (if tgR A = 4 ∧ inR A = tyR B then 0 else -2) (s) (Ty) (Tm) (fil B [0] (p1 A))) := by
  refine pC.of rfl (Nat.le_of_ble_eq_true rfl) ?_
  show pG m_M_reason τ _ 0 0 0 [(0, _), (1, _), (2, _), (3, _)] [] _
  obtain ⟨pA1, pA2, pA3, pA4, pA5, pA6⟩ := hI.2.1.mg gs.1 hA0_
  have wA := gs.row hA0_
  have lA := tyR_lt A
  obtain ⟨gA1, gA2, gA3, gA4⟩ := pA1.hd
  have mA := mu_c gA3
  obtain ⟨hx4, hxL, hx7⟩ := hI.th tx
  have oA := gs.c0 tx hA0_
  obtain ⟨pB1, pB2, pB3, pB4, pB5, pB6⟩ := hI.2.1.mg gs.1 hB0_
  have wB := gs.row hB0_
  have lB := tyR_lt B
  obtain ⟨gB1, gB2, gB3, gB4⟩ := pB1.hd
  have mB := mu_c gB3
  refine g_iload_n (pc := 0) d_M_reason_0 rfl ?_
  refine g_iconst (pc := 1) (v := nI 2) d_M_reason_1 (by decide) ?_
  refine g_nicmp_ge (pc := 2) (tgt := 12) d_M_reason_2 (by decide) (by omega) (by omega) (fun h2 => ?_) (fun h => absurd h (by decide))
  refine g_bipush (pc := 12) (v := nI 32) d_M_reason_12 (by decide) ?_
  refine g_aload_n (pc := 14) d_M_reason_14 rfl ?_
  refine gm_conclusion (pc := 15) d_M_reason_15 lf_M_39 ?_
  refine g_iload_n (pc := 18) d_M_reason_18 rfl ?_
  refine glm_conclusion (pc := 19) (v := nI cx) d_M_reason_19 (vp_in_nI (by omega) (by decide)) (by rw [nI_clamp (by omega)]; exact hx7) ?_
  refine g_nmul (pc := 20) d_M_reason_20 ?_
  refine g_istore (pc := 21) [(4, _), (0, _), (1, _), (2, _), (3, _)] d_M_reason_21 (by decide) rfl ?_
  refine g_iload_n (pc := 23) d_M_reason_23 rfl ?_
  refine g_iconst (pc := 24) (v := nI 2) d_M_reason_24 (by decide) ?_
  refine g_nicmp_ge (pc := 25) (tgt := 32) d_M_reason_25 (by decide) (by omega) (by omega) (fun h25 => ?_) (fun h => absurd h (by decide))
  refine g_iload_n (pc := 32) d_M_reason_32 rfl ?_
  refine g_istore (pc := 33) [(5, _), (4, _), (0, _), (1, _), (2, _), (3, _)] d_M_reason_33 (by decide) rfl ?_
  refine g_iload_n (pc := 35) d_M_reason_35 rfl ?_
  refine g_iconst (pc := 36) (v := nI 3) d_M_reason_36 (by decide) ?_
  refine g_nicmp_ge (pc := 37) (tgt := 125) d_M_reason_37 (by decide) (by omega) (by omega) (fun h37 => ?_) (fun h => absurd h (by decide))
  refine g_iload_n (pc := 125) d_M_reason_125 rfl ?_
  refine g_iconst (pc := 126) (v := nI 3) d_M_reason_126 (by decide) ?_
  refine g_nicmp_eq (pc := 127) (tgt := 136) d_M_reason_127 (by decide) (by omega) (by omega) (fun h => absurd h (by decide)) (fun h127 => ?_)
  refine g_iload_n (pc := 130) d_M_reason_130 rfl ?_
  refine g_bipush (pc := 131) (v := nI 12) d_M_reason_131 (by decide) ?_
  refine g_nicmp_ne (pc := 133) (tgt := 194) d_M_reason_133 (by decide) (by omega) (by omega) (fun h133 => ?_) (fun h => absurd h (by decide))
  refine g_iload_n (pc := 194) d_M_reason_194 rfl ?_
  refine g_iconst (pc := 195) (v := nI 4) d_M_reason_195 (by decide) ?_
  refine g_nicmp_ne (pc := 196) (tgt := 261) d_M_reason_196 (by decide) (by omega) (by omega) (fun h196 => ?_) (fun h => absurd h (by decide))
  refine g_aload_n (pc := 261) d_M_reason_261 rfl ?_
  refine gm_row (pc := 262) d_M_reason_262 lf_M_7 ?_
  refine g_iload (pc := 265) d_M_reason_265 rfl ?_
  refine glm_row (pc := 267) (v := nI (mu (hdt A))) d_M_reason_267 (vp_in_nI (by omega) (by decide)) (by rw [nI_clamp (by omega)]; exact (pA1).hd.2.1) ?_
  refine g_bipush (pc := 268) (v := nI 32) d_M_reason_268 (by decide) ?_
  refine g_nicmp_lt (pc := 270) (tgt := 304) d_M_reason_270 (by decide) (by omega) (by omega) (fun h270 => ?_) (fun h270 => ?_)
  · refine g_bipush (pc := 304) (v := -2) d_M_reason_304 (by decide) ?_
    refine g_iret (pc := 306) d_M_reason_306 rfl (Nat.le_refl _) (Nat.le_refl _) ?_
    have hno : ¬ (tgR A = 4 ∧ inR A = tyR B) := by
      first
      | (rintro ⟨q, -⟩; have := mA.2.2.2.1.mpr q; omega)
      | (rintro ⟨q, q2⟩; omega)
    have eC : ((if tgR A = 4 ∧ inR A = tyR B then 0 else -2) : Int32) = -2 := if_neg hno
    exact ⟨i, r, _, _, _, _, by rw [eC], rfl, hI, ext.rf, fun _ _ h => h, fun q => absurd q (by rw [eC]; decide)⟩
  · refine g_aload_n (pc := 273) d_M_reason_273 rfl ?_
    refine gm_row (pc := 274) d_M_reason_274 lf_M_7 ?_
    refine g_iload (pc := 277) d_M_reason_277 rfl ?_
    refine glm_row (pc := 279) (v := nI (mu (hdt A))) d_M_reason_279 (vp_in_nI (by omega) (by decide)) (by rw [nI_clamp (by omega)]; exact (pA1).hd.2.1) ?_
    refine g_bipush (pc := 280) (v := nI 64) d_M_reason_280 (by decide) ?_
    refine g_nicmp_ge (pc := 282) (tgt := 304) d_M_reason_282 (by decide) (by omega) (by omega) (fun h282 => ?_) (fun h282 => ?_)
    · refine g_bipush (pc := 304) (v := -2) d_M_reason_304 (by decide) ?_
      refine g_iret (pc := 306) d_M_reason_306 rfl (Nat.le_refl _) (Nat.le_refl _) ?_
      have hno : ¬ (tgR A = 4 ∧ inR A = tyR B) := by
        first
        | (rintro ⟨q, -⟩; have := mA.2.2.2.1.mpr q; omega)
        | (rintro ⟨q, q2⟩; omega)
      have eC : ((if tgR A = 4 ∧ inR A = tyR B then 0 else -2) : Int32) = -2 := if_neg hno
      exact ⟨i, r, _, _, _, _, by rw [eC], rfl, hI, ext.rf, fun _ _ h => h, fun q => absurd q (by rw [eC]; decide)⟩
    · have hk := mA.2.2.2.1.mp ⟨by omega, by omega⟩
      have hk2_ : mu (hdt A) = 32 + inR A := mA.2.2.2.2.1 hk
      refine g_aload_n (pc := 285) d_M_reason_285 rfl ?_
      refine gm_row (pc := 286) d_M_reason_286 lf_M_7 ?_
      refine g_iload (pc := 289) d_M_reason_289 rfl ?_
      refine glm_row (pc := 291) (v := nI (mu (hdt A))) d_M_reason_291 (vp_in_nI (by omega) (by decide)) (by rw [nI_clamp (by omega)]; exact (pA1).hd.2.1) ?_
      refine g_bipush (pc := 292) (v := nI 32) d_M_reason_292 (by decide) ?_
      refine g_nsub (pc := 294) d_M_reason_294 (by omega) ?_
      refine g_aload_n (pc := 295) d_M_reason_295 rfl ?_
      refine gm_sort (pc := 296) d_M_reason_296 lf_M_16 ?_
      refine g_iload_n (pc := 299) d_M_reason_299 rfl ?_
      refine glm_sort (pc := 300) (v := nI (tyR B)) d_M_reason_300 (vp_in_nI (by omega) (by decide)) (by rw [nI_clamp (by omega)]; exact pB5) ?_
      refine g_nicmp_eq (pc := 301) (tgt := 307) d_M_reason_301 (by decide) (by omega) (by omega) (fun h301 => ?_) (fun h301 => ?_)
      · obtain ⟨X, hAe, hX, hp1⟩ := pA1.one (Or.inr hk)
        have hX30 := hX.2.2.2.2
        have hbd : 32 * cx + 1 + X.length ≤ 1920 := by have := congrArg List.length hAe; simp at this; omega
        have hin : inR A = tyR B := by omega
        refine g_aload_n (pc := 307) d_M_reason_307 rfl ?_
        refine g_iload (pc := 308) d_M_reason_308 rfl ?_
        refine g_iconst (pc := 310) (v := nI 1) d_M_reason_310 (by decide) ?_
        refine g_nadd (pc := 311) d_M_reason_311 ?_
        refine g_bipush (pc := 312) (v := nI 32) d_M_reason_312 (by decide) ?_
        refine g_iload_n (pc := 314) d_M_reason_314 rfl ?_
        refine g_nmul (pc := 315) d_M_reason_315 ?_
        refine g_callV (M' := m_M_copyOpened) (pc := 316) (q := 0) d_M_reason_316 lm_M_136 (c_M_copyOpened [] (32 * cx + 1) (32 * y) X B hI.2.2.2.1 hX hbd pB1 pB2 (by simp; omega)) v_M_copyOpened rfl rfl rfl (by decide) rfl (Nat.le_of_ble_eq_true rfl) ?_
        rintro _ _ ⟨i2, r2, rfl, rfl, hx2, hk2⟩
        rw [← hp1] at hx2
        have hx2 : MW (fil B [0] (p1 A)) i2 r2 := hx2
        have hI2 := hI.mk hk2 hx2
        show pG m_M_reason τ _ 0 0 319 _ _ _
        refine g_iconst (pc := 319) (v := nI 0) d_M_reason_319 (by decide) ?_
        refine g_iret (pc := 320) d_M_reason_320 rfl (Nat.le_refl _) (Nat.le_refl _) ?_
        have hch := (wA.all hk).1
        rw [hin] at hch
        rw [← hp1] at hX30
        have hfl := @fil_len B pB6 (p1 A) [0]
        have eC : ((if tgR A = 4 ∧ inR A = tyR B then 0 else -2) : Int32) = 0 := if_pos ⟨hk, hin⟩
        exact ⟨i2, r2, _, _, _, _, by rw [eC]; rfl, rfl, hI2, ext.rf, fun _ _ h => h, fun _ => ⟨rfl, rfl, rfl, rfl, gs.1, rfl, WT_fil wB hch, (by omega), hsb⟩⟩
      · refine g_bipush (pc := 304) (v := -2) d_M_reason_304 (by decide) ?_
        refine g_iret (pc := 306) d_M_reason_306 rfl (Nat.le_refl _) (Nat.le_refl _) ?_
        have hno : ¬ (tgR A = 4 ∧ inR A = tyR B) := by
          first
          | (rintro ⟨q, -⟩; have := mA.2.2.2.1.mpr q; omega)
          | (rintro ⟨q, q2⟩; omega)
        have eC : ((if tgR A = 4 ∧ inR A = tyR B then 0 else -2) : Int32) = -2 := if_neg hno
        exact ⟨i, r, _, _, _, _, by rw [eC], rfl, hI, ext.rf, fun _ _ h => h, fun q => absurd q (by rw [eC]; decide)⟩
set_option maxRecDepth 100000 in
set_option maxHeartbeats 4000000 in
theorem c_M_reason_12 {τ : Nat × Nat} {a : Nat → Nat} {i : Nat → Int32} {r : Nat → Nat → Int32} {L : Nat → Nat → Int64} {wr : pW} {Ty : List (Nat × Nat)} {Tm : List (List Nat)} {Th : List Thm} (x ux vx zx hx cx : Nat) (A : List Nat) (tx : Th[x]? = some (ux, vx, zx, hx, cx)) (hA0_ : Tm[cx]? = some A) (y uy vy zy hy cy : Nat) (B : List Nat) (ty : Th[y]? = some (uy, vy, zy, hy, cy)) (hB0_ : Tm[cy]? = some B) (s : Nat) (hI : MI Ty Tm Th (dcl Tm) [] i r L) (gs : GS Ty Tm Th) (hs : s < 2 ^ 60) (hsb : ∀ t : Nat, s.testBit t = true → t < Tm.length) : pC m_M_reason τ [.ref (a 0), .int (nI 12), .int (nI x), .int (nI y)] (wM a i r L (lN s) ++ wr) (MO a L wr Ty Tm Th (if tgR A = 7 ∧ p1 A = B then 0 else -2) (s) (Ty) (Tm) (p2 A)) := by
  refine pC.of rfl (Nat.le_of_ble_eq_true rfl) ?_
  show pG m_M_reason τ _ 0 0 0 [(0, _), (1, _), (2, _), (3, _)] [] _
  obtain ⟨pA1, pA2, pA3, pA4, pA5, pA6⟩ := hI.2.1.mg gs.1 hA0_
  have wA := gs.row hA0_
  have lA := tyR_lt A
  obtain ⟨gA1, gA2, gA3, gA4⟩ := pA1.hd
  have mA := mu_c gA3
  obtain ⟨hx4, hxL, hx7⟩ := hI.th tx
  have oA := gs.c0 tx hA0_
  obtain ⟨pB1, pB2, pB3, pB4, pB5, pB6⟩ := hI.2.1.mg gs.1 hB0_
  have wB := gs.row hB0_
  have lB := tyR_lt B
  obtain ⟨gB1, gB2, gB3, gB4⟩ := pB1.hd
  have mB := mu_c gB3
  obtain ⟨hy4, hyL, hy7⟩ := hI.th ty
  have oB := gs.c0 ty hB0_
  refine g_iload_n (pc := 0) d_M_reason_0 rfl ?_
  refine g_iconst (pc := 1) (v := nI 2) d_M_reason_1 (by decide) ?_
  refine g_nicmp_ge (pc := 2) (tgt := 12) d_M_reason_2 (by decide) (by omega) (by omega) (fun h2 => ?_) (fun h => absurd h (by decide))
  refine g_bipush (pc := 12) (v := nI 32) d_M_reason_12 (by decide) ?_
  refine g_aload_n (pc := 14) d_M_reason_14 rfl ?_
  refine gm_conclusion (pc := 15) d_M_reason_15 lf_M_39 ?_
  refine g_iload_n (pc := 18) d_M_reason_18 rfl ?_
  refine glm_conclusion (pc := 19) (v := nI cx) d_M_reason_19 (vp_in_nI (by omega) (by decide)) (by rw [nI_clamp (by omega)]; exact hx7) ?_
  refine g_nmul (pc := 20) d_M_reason_20 ?_
  refine g_istore (pc := 21) [(4, _), (0, _), (1, _), (2, _), (3, _)] d_M_reason_21 (by decide) rfl ?_
  refine g_iload_n (pc := 23) d_M_reason_23 rfl ?_
  refine g_iconst (pc := 24) (v := nI 2) d_M_reason_24 (by decide) ?_
  refine g_nicmp_ge (pc := 25) (tgt := 32) d_M_reason_25 (by decide) (by omega) (by omega) (fun h25 => ?_) (fun h => absurd h (by decide))
  refine g_iload_n (pc := 32) d_M_reason_32 rfl ?_
  refine g_istore (pc := 33) [(5, _), (4, _), (0, _), (1, _), (2, _), (3, _)] d_M_reason_33 (by decide) rfl ?_
  refine g_iload_n (pc := 35) d_M_reason_35 rfl ?_
  refine g_iconst (pc := 36) (v := nI 3) d_M_reason_36 (by decide) ?_
  refine g_nicmp_ge (pc := 37) (tgt := 125) d_M_reason_37 (by decide) (by omega) (by omega) (fun h37 => ?_) (fun h => absurd h (by decide))
  refine g_iload_n (pc := 125) d_M_reason_125 rfl ?_
  refine g_iconst (pc := 126) (v := nI 3) d_M_reason_126 (by decide) ?_
  refine g_nicmp_eq (pc := 127) (tgt := 136) d_M_reason_127 (by decide) (by omega) (by omega) (fun h => absurd h (by decide)) (fun h127 => ?_)
  refine g_iload_n (pc := 130) d_M_reason_130 rfl ?_
  refine g_bipush (pc := 131) (v := nI 12) d_M_reason_131 (by decide) ?_
  refine g_nicmp_ne (pc := 133) (tgt := 194) d_M_reason_133 (by decide) (by omega) (by omega) (fun h => absurd h (by decide)) (fun h133 => ?_)
  refine g_aload_n (pc := 136) d_M_reason_136 rfl ?_
  refine gm_row (pc := 137) d_M_reason_137 lf_M_7 ?_
  refine g_iload (pc := 140) d_M_reason_140 rfl ?_
  refine glm_row (pc := 142) (v := nI (mu (hdt A))) d_M_reason_142 (vp_in_nI (by omega) (by decide)) (by rw [nI_clamp (by omega)]; exact (pA1).hd.2.1) ?_
  refine g_iload_n (pc := 143) d_M_reason_143 rfl ?_
  refine g_iconst (pc := 144) (v := nI 3) d_M_reason_144 (by decide) ?_
  refine g_nicmp_ne (pc := 145) (tgt := 152) d_M_reason_145 (by decide) (by omega) (by omega) (fun h145 => ?_) (fun h => absurd h (by decide))
  refine g_iconst (pc := 152) (v := nI 3) d_M_reason_152 (by decide) ?_
  refine g_nicmp_ne (pc := 153) (tgt := 176) d_M_reason_153 (by decide) (by omega) (by omega) (fun h153 => ?_) (fun h153 => ?_)
  · refine g_bipush (pc := 176) (v := -2) d_M_reason_176 (by decide) ?_
    refine g_iret (pc := 178) d_M_reason_178 rfl (Nat.le_refl _) (Nat.le_refl _) ?_
    have hno : ¬ (tgR A = 7 ∧ p1 A = B) := by
      first
      | exact fun q => h153 (mA.2.2.1.mpr q.1)
      | (rintro ⟨-, q⟩
         rw [hp1] at q
         rw [q] at h173
         simp at h173)
    have eC : ((if tgR A = 7 ∧ p1 A = B then 0 else -2) : Int32) = -2 := if_neg hno
    exact ⟨i, r, _, _, _, _, by rw [eC], rfl, hI, ext.rf, fun _ _ h => h, fun q => absurd q (by rw [eC]; decide)⟩
  · have hk := mA.2.2.1.mp h153
    have hk5 : 5 ≤ tgR A := by rw [show tgR A = 7 from hk]; decide
    obtain ⟨X, Y, hAe, hX, hY, hp1, hp2⟩ := pA1.two hk5
    obtain ⟨-, xt, hxt, wP1, wP2, -⟩ := wA.two (Or.inr hk)
    rw [hp1] at wP1
    rw [hp2] at wP2
    have hbd := MA.bd (f := r 0) hAe pA2
    have hX30 := hX.2.2.2.2
    have hY30 := hY.2.2.2.2
    refine g_aload_n (pc := 156) d_M_reason_156 rfl ?_
    refine g_iload (pc := 157) d_M_reason_157 rfl ?_
    refine g_iconst (pc := 159) (v := nI 1) d_M_reason_159 (by decide) ?_
    refine g_nadd (pc := 160) d_M_reason_160 ?_
    refine g_bipush (pc := 161) (v := nI 32) d_M_reason_161 (by decide) ?_
    refine g_aload_n (pc := 163) d_M_reason_163 rfl ?_
    refine gm_conclusion (pc := 164) d_M_reason_164 lf_M_39 ?_
    refine g_iload_n (pc := 167) d_M_reason_167 rfl ?_
    refine glm_conclusion (pc := 168) (v := nI cy) d_M_reason_168 (vp_in_nI (by omega) (by decide)) (by rw [nI_clamp (by omega)]; exact hy7) ?_
    refine g_nmul (pc := 169) d_M_reason_169 ?_
    refine g_callV (M' := m_M_same) (pc := 170) (q := 0) d_M_reason_170 lm_M_81 (c_M_same (32 * cx + 1) (32 * cy) X B hX pB1) v_M_same rfl rfl rfl (by decide) rfl (Nat.le_of_ble_eq_true rfl) ?_
    rintro _ _ ⟨rfl, rfl⟩
    show pG m_M_reason τ _ 0 0 173 _ (.int _ :: _) _
    refine g_ifb_ne (pc := 173) (tgt := 179) d_M_reason_173 (by decide) (fun h173 => ?_) (fun h173 => ?_)
    · refine g_aload_n (pc := 179) d_M_reason_179 rfl ?_
      refine g_aload_n (pc := 180) d_M_reason_180 rfl ?_
      refine g_iload (pc := 181) d_M_reason_181 rfl ?_
      refine g_iconst (pc := 183) (v := nI 1) d_M_reason_183 (by decide) ?_
      refine g_nadd (pc := 184) d_M_reason_184 ?_
      refine g_callV (M' := m_M_end) (pc := 185) (q := 0) d_M_reason_185 lm_M_55 (c_M_end (32 * cx + 1) X hX) v_M_end rfl rfl rfl (by decide) rfl (Nat.le_of_ble_eq_true rfl) ?_
      rintro _ _ ⟨rfl, rfl⟩
      show pG m_M_reason τ _ 0 0 188 _ (.int _ :: _) _
      refine g_callV (M' := m_M_copy) (pc := 188) (q := 0) d_M_reason_188 lm_M_72 (c_M_copy [] (32 * cx + 1 + X.length) Y hI.2.2.2.1 hY hbd.2 (by simp; omega)) v_M_copy rfl rfl rfl (by decide) rfl (Nat.le_of_ble_eq_true rfl) ?_
      rintro _ _ ⟨i2, r2, rfl, rfl, hx2, hk2⟩
      rw [← hp2] at hx2
      have hx2 : MW (p2 A) i2 r2 := hx2
      have hI2 := hI.mk hk2 hx2
      show pG m_M_reason τ _ 0 0 191 _ _ _
      refine g_goto (pc := 191) (tgt := 319) d_M_reason_191 (by decide) ?_
      refine g_iconst (pc := 319) (v := nI 0) d_M_reason_319 (by decide) ?_
      refine g_iret (pc := 320) d_M_reason_320 rfl (Nat.le_refl _) (Nat.le_refl _) ?_
      have hXB : X = B := chk_inj gs.1.1 30 hX30 wP1 wB (of_decide_eq_true h173)
      have hxt0 : xt = 0 := by rw [← wP1.ty, hXB]; exact oB
      rw [hxt0, ← hp2] at wP2
      have eC : ((if tgR A = 7 ∧ p1 A = B then 0 else -2) : Int32) = 0 := if_pos ⟨hk, hp1.trans hXB⟩
      exact ⟨i2, r2, _, _, _, _, by rw [eC]; rfl, rfl, hI2, ext.rf, fun _ _ h => h, fun _ => ⟨rfl, rfl, rfl, rfl, gs.1, rfl, wP2, (by rw [hp2]; omega), hsb⟩⟩
    · refine g_bipush (pc := 176) (v := -2) d_M_reason_176 (by decide) ?_
      refine g_iret (pc := 178) d_M_reason_178 rfl (Nat.le_refl _) (Nat.le_refl _) ?_
      have hno : ¬ (tgR A = 7 ∧ p1 A = B) := by
        first
        | exact fun q => h153 (mA.2.2.1.mpr q.1)
        | (rintro ⟨-, q⟩
           rw [hp1] at q
           rw [q] at h173
           simp at h173)
      have eC : ((if tgR A = 7 ∧ p1 A = B then 0 else -2) : Int32) = -2 := if_neg hno
      exact ⟨i, r, _, _, _, _, by rw [eC], rfl, hI, ext.rf, fun _ _ h => h, fun q => absurd q (by rw [eC]; decide)⟩
