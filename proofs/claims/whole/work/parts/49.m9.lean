/-! The reference: substitution, rule. By wip/whole/m_m9.py -/
def sC (S : Option (List (List Nat) × Nat)) : Int32 := match S with
  | some _ => 0
  | none => -4
def sH (S : Option (List (List Nat) × Nat)) : Nat := match S with
  | some p => p.2
  | none => 0
def sT (Tm : List (List Nat)) (S : Option (List (List Nat) × Nat)) : List (List Nat) := match S with
  | some p => p.1
  | none => Tm
theorem sSH_end {h v : Nat} {C : List Nat} : ∀ (m t : Nat) (Tm : List (List Nat)) (ac : Nat), (∀ u, t ≤ u → h.testBit u = false) → sSH h v C m t Tm ac = some (Tm, ac)
  | 0, _, _, _, _ => rfl
  | m + 1, t, Tm, ac, hu => by
    rw [sSH, if_neg (by rw [hu t (Nat.le_refl _)]; decide)]
    exact sSH_end m (t + 1) Tm ac (fun u q => hu u (by omega))
theorem num_twice {Ty : List (Nat × Nat)} {f t : Nat} (h : ¬ (sNum Ty f t).1 = -4) : sNum (sNum Ty f t).2 f t = sNum Ty f t := by
  cases e : fnd Ty (f, t) with
  | some j => rw [sNum_some e, sNum_some e]
  | none =>
    by_cases q : Ty.length = 13
    · rw [sNum_full e q] at h; exact absurd rfl h
    · rw [sNum_new e q]
      have : fnd (Ty ++ [(f, t)]) (f, t) = some Ty.length := fnd_some (by simp) (fun j hj => by
        rw [List.getElem?_append_left hj]
        intro q2
        exact fnd_not e (List.mem_of_getElem? q2))
      rw [sNum_some this]
theorem sAb2_eq {Ty : List (Nat × Nat)} {v : Nat} {A : List Nat} (h : ¬ (sNum Ty (v % 16) (tyR (p1 A))).1 = -4) (he : tyR (p2 A) = tyR (p1 A)) : sAb2 Ty v A = ((sNum Ty (v % 16) (tyR (p1 A))).2, ([tok 7 0 0] ++ sBd 3 (sNum Ty (v % 16) (tyR (p1 A))).1.toNatClampNeg v (p1 A)) ++ sBd 3 (sNum Ty (v % 16) (tyR (p1 A))).1.toNatClampNeg v (p2 A)) := by
  have e1 : sAb Ty [tok 7 0 0] v (p1 A) = ((sNum Ty (v % 16) (tyR (p1 A))).2, [tok 7 0 0] ++ sBd 3 (sNum Ty (v % 16) (tyR (p1 A))).1.toNatClampNeg v (p1 A)) := by rw [sAb, if_neg h]
  rw [sAb2, e1]
  show sAb (sNum Ty (v % 16) (tyR (p1 A))).2 _ v (p2 A) = _
  rw [sAb, he, num_twice h, if_neg h]
theorem sAb2_no {Ty : List (Nat × Nat)} {v : Nat} {A : List Nat} (h : (sNum Ty (v % 16) (tyR (p1 A))).1 = -4) (he : tyR (p2 A) = tyR (p1 A)) : (sAb2 Ty v A).2 = List.replicate 31 0 := by
  have e1 : sAb Ty [tok 7 0 0] v (p1 A) = (Ty, List.replicate 31 0) := by rw [sAb, if_pos h]
  rw [sAb2, e1]
  show (sAb Ty _ v (p2 A)).2 = _
  rw [sAb, he, if_pos h]
theorem cd {c : Prop} [Decidable c] {u v : Int32} (hu : u = 0 ∨ ¬ 0 ≤ u) (hv : v = 0 ∨ ¬ 0 ≤ v) : (if c then u else v) = 0 ∨ ¬ 0 ≤ (if c then u else v) := by
  by_cases q : c
  · rw [if_pos q]; exact hu
  · rw [if_neg q]; exact hv
theorem c_0 : (0 : Int32) = 0 ∨ ¬ (0 : Int32) ≤ 0 := Or.inl rfl
theorem c_2 : (-2 : Int32) = 0 ∨ ¬ (0 : Int32) ≤ -2 := Or.inr (by decide)
theorem c_3 : (-3 : Int32) = 0 ∨ ¬ (0 : Int32) ≤ -3 := Or.inr (by decide)
theorem c_4 : (-4 : Int32) = 0 ∨ ¬ (0 : Int32) ≤ -4 := Or.inr (by decide)
theorem c_S {S : Option (List (List Nat) × Nat)} : sC S = 0 ∨ ¬ 0 ≤ sC S := by cases S with | none => exact c_4 | some p => exact c_0
theorem n_2 : ¬ (-2 : Int32) = 0 := by decide
theorem n_3 : ¬ (-3 : Int32) = 0 := by decide
theorem n_4 : ¬ (-4 : Int32) = 0 := by decide
set_option maxRecDepth 100000 in
set_option maxHeartbeats 4000000 in
theorem c_M_substitute {τ : Nat × Nat} {a : Nat → Nat} {i : Nat → Int32} {r : Nat → Nat → Int32} {L : Nat → Nat → Int64} {wr : pW} {Ty : List (Nat × Nat)} {Tm : List (List Nat)} {Th : List Thm} (x ux vx zx hx cx : Nat) (A : List Nat) (tx : Th[x]? = some (ux, vx, zx, hx, cx)) (hA0_ : Tm[cx]? = some A) (v w : Nat) (B C : List Nat) (hB0_ : Tm[v]? = some B) (hC0_ : Tm[w]? = some C) (s : Nat) (hI : MI Ty Tm Th (dcl Tm) [] i r L) (gs : GS Ty Tm Th) (hs : s < 2 ^ 60) (hsb : ∀ t : Nat, s.testBit t = true → t < Tm.length) : pC m_M_substitute τ [.ref (a 0), .int (nI x), .int (nI v), .int (nI w)] (wM a i r L (lN s) ++ wr) (MO a L wr Ty Tm Th (if tgR B = 0 ∧ tyR B = tyR C then sC (sSH s (hdt B) C 60 0 Tm 0) else -2) (sH (sSH s (hdt B) C 60 0 Tm 0)) (Ty) (sT Tm (sSH s (hdt B) C 60 0 Tm 0)) (rpl (hdt B) C A)) := by
  obtain ⟨pA1, pA2, pA3, pA4, pA5, pA6⟩ := hI.2.1.mg gs.1 hA0_
  have wA := gs.row hA0_
  have lA := tyR_lt A
  obtain ⟨gA1, gA2, gA3, gA4⟩ := pA1.hd
  have mA := mu_c gA3
  obtain ⟨hx4, hxL, hx7⟩ := hI.th tx
  have oA := gs.c0 tx hA0_
  obtain ⟨pB1, pB2, pB3, pB4, pB5, pB6⟩ := hI.2.1.mg gs.1 hB0_
  have wB := gs.row hB0_
  have lB := tyR_lt B
  obtain ⟨gB1, gB2, gB3, gB4⟩ := pB1.hd
  have mB := mu_c gB3
  obtain ⟨pC1, pC2, pC3, pC4, pC5, pC6⟩ := hI.2.1.mg gs.1 hC0_
  have wC := gs.row hC0_
  have lC := tyR_lt C
  obtain ⟨gC1, gC2, gC3, gC4⟩ := pC1.hd
  have mC := mu_c gC3
  have b2 := hI.b.2.1
  have key : ∀ (m t : Nat) (Tm1 : List (List Nat)) (ac : Nat) (d1 : List Nat) (i1 : Nat → Int32) (r1 : Nat → Nat → Int32), tgR B = 0 → tyR B = tyR C → Tm.length - t = m → t ≤ Tm.length → MI Ty Tm1 Th (dcl Tm) d1 i1 r1 L → WG Ty Tm1 (dcl Tm) → dcl Tm1 = dcl Tm → (∀ (z : Nat) (row : List Nat), Tm[z]? = some row → Tm1[z]? = some row) → (∀ u : Nat, ac.testBit u = true → u < Tm1.length) → sSH s (hdt B) C (60 - t) t Tm1 ac = sSH s (hdt B) C 60 0 Tm 0 → pG m_M_substitute τ (MO a L wr Ty Tm Th (if tgR B = 0 ∧ tyR B = tyR C then sC (sSH s (hdt B) C 60 0 Tm 0) else -2) (sH (sSH s (hdt B) C 60 0 Tm 0)) Ty (sT Tm (sSH s (hdt B) C 60 0 Tm 0)) (rpl (hdt B) C A)) 0 0 57 [(8, .int (nI t)), (7, .int (nI Tm.length)), (5, .long (lN s)), (4, .int (nI (mu (hdt B)))), (0, .ref (a 0)), (1, .int (nI x)), (2, .int (nI v)), (3, .int (nI w))] [] (wM a i1 r1 L (lN ac) ++ wr) := by
    intro m
    induction m with
    | zero =>
      intro t Tm1 ac d1 i1 r1 hB0 hBC hm ht hI1 wg1 hd1 hp1 hac hS
      have hS2 : sSH s (hdt B) C 60 0 Tm 0 = some (Tm1, ac) := by
        rw [← hS]
        refine sSH_end _ _ _ _ (fun u hu => ?_)
        cases q : s.testBit u with
        | false => rfl
        | true => exact absurd (hsb u q) (by omega)
      obtain ⟨qA1, qA2, qA3, qA4, qA5, qA6⟩ := hI1.2.1.mg wg1 (hp1 _ _ hA0_)
      obtain ⟨qC1, qC2, qC3, qC4, qC5, qC6⟩ := hI1.2.1.mg wg1 (hp1 _ _ hC0_)
      obtain ⟨-, -, hx71⟩ := hI1.th tx
      have hcd : tgR B = 0 ∧ tyR B = tyR C := ⟨hB0, hBC⟩
      rw [oA] at wA
      have wC2 : WT Ty (dcl Tm) (hdt B % 16) C := by rw [show hdt B % 16 = tyR C from hBC]; exact wC
      have hrl := @rpl_len (hdt B) C qC6 A
      refine g_iload (pc := 57) d_M_substitute_57 rfl ?_
      refine g_iload (pc := 59) d_M_substitute_59 rfl ?_
      refine g_nicmp_ge (pc := 61) (tgt := 129) d_M_substitute_61 (by decide) (by omega) (by omega) (fun h61 => ?_) (fun h => absurd h (by omega))
      refine g_aload_n (pc := 129) d_M_substitute_129 rfl ?_
      refine g_iconst (pc := 130) (v := nI 0) d_M_substitute_130 (by decide) ?_
      refine gm_made_p (pc := 131) d_M_substitute_131 lf_M_65 ?_
      have hI2 := hI1.cl
      refine g_aload_n (pc := 134) d_M_substitute_134 rfl ?_
      refine g_bipush (pc := 135) (v := nI 32) d_M_substitute_135 (by decide) ?_
      refine g_aload_n (pc := 137) d_M_substitute_137 rfl ?_
      refine gm_conclusion (pc := 138) d_M_substitute_138 lf_M_39 ?_
      refine g_iload_n (pc := 141) d_M_substitute_141 rfl ?_
      refine glm_conclusion (pc := 142) (v := nI cx) d_M_substitute_142 (vp_in_nI (by omega) (by decide)) (by rw [nI_clamp (by omega)]; exact hx71) ?_
      refine g_nmul (pc := 143) d_M_substitute_143 ?_
      refine g_iload (pc := 144) d_M_substitute_144 rfl ?_
      refine g_bipush (pc := 146) (v := nI 32) d_M_substitute_146 (by decide) ?_
      refine g_iload_n (pc := 148) d_M_substitute_148 rfl ?_
      refine g_nmul (pc := 149) d_M_substitute_149 ?_
      refine g_callV (M' := m_M_copyWith) (pc := 150) (q := 0) d_M_substitute_150 lm_M_111 (c_M_copyWith_1 [] (32 * cx) (hdt B) (32 * w) A C hI2.2.2.2.1 qA1 qA2 qC1 qC2 gB3 hB0 (by simp; omega)) v_M_copyWith rfl rfl rfl (by decide) rfl (Nat.le_of_ble_eq_true rfl) ?_
      rintro _ _ ⟨i3, r3, rfl, rfl, hx3, hk3⟩
      have hx3 : MW (rpl (hdt B) C A) i3 r3 := hx3
      have hI3 := hI2.mk hk3 hx3
      show pG m_M_substitute τ _ 0 0 153 _ _ _
      refine g_iconst (pc := 153) (v := nI 0) d_M_substitute_153 (by decide) ?_
      refine g_iret (pc := 154) d_M_substitute_154 rfl (Nat.le_refl _) (Nat.le_refl _) ?_
      rw [if_pos hcd, hS2]
      exact ⟨i3, r3, _, _, _, _, rfl, rfl, hI3, ext.rf, hp1, fun _ => ⟨rfl, rfl, rfl, rfl, wg1, hd1, WT_rpl hB0 wC2 wA, by omega, hac⟩⟩
    | succ m ih =>
      intro t Tm1 ac d1 i1 r1 hB0 hBC hm ht hI1 wg1 hd1 hp1 hac hS
      obtain ⟨row, hrow⟩ := get_of (show t < Tm.length by omega)
      have hrow1 := hp1 _ _ hrow
      obtain ⟨q1, q2, q3, q4, q5, q6⟩ := hI1.2.1.mg wg1 hrow1
      obtain ⟨qC1, qC2, qC3, qC4, qC5, qC6⟩ := hI1.2.1.mg wg1 (hp1 _ _ hC0_)
      have b21 := hI1.b.2.1
      have hac60 : ac < 2 ^ 60 := bits60 (fun u hu => by have := hac u hu; omega)
      have wC2 : WT Ty (dcl Tm) (hdt B % 16) C := by rw [show hdt B % 16 = tyR C from hBC]; exact wC
      have hwr := WT_rpl hB0 wC2 (wg1.2.2 _ _ hrow1).1
      have hrl := @rpl_len (hdt B) C qC6 row
      have hg := getD_at hrow1
      rw [show 60 - t = (60 - (t + 1)) + 1 by omega, sSH, hg] at hS
      have hcd : tgR B = 0 ∧ tyR B = tyR C := ⟨hB0, hBC⟩
      refine g_iload (pc := 57) d_M_substitute_57 rfl ?_
      refine g_iload (pc := 59) d_M_substitute_59 rfl ?_
      refine g_nicmp_ge (pc := 61) (tgt := 129) d_M_substitute_61 (by decide) (by omega) (by omega) (fun h => absurd h (by omega)) (fun h61 => ?_)
      refine g_lload (pc := 64) d_M_substitute_64 rfl ?_
      refine g_iload (pc := 66) d_M_substitute_66 rfl ?_
      refine g_lshr (pc := 68) d_M_substitute_68 ?_
      refine g_lconst (pc := 69) (v := lN 1) d_M_substitute_69 (by decide) ?_
      refine g_land (pc := 70) d_M_substitute_70 ?_
      rw [lb_bit (by omega) (by omega), lb_tb]
      refine g_lconst (pc := 71) (v := lN 1) d_M_substitute_71 (by decide) ?_
      refine g_lcmp (pc := 72) d_M_substitute_72 ?_
      have hbt : lg_cmp (lN (if s.testBit t then 1 else 0)) (lN 1) = 0 ↔ s.testBit t = true := by
        rw [lb_cmp1 (by split <;> decide)]
        cases s.testBit t <;> simp
      refine g_if_ne (pc := 73) (tgt := 123) d_M_substitute_73 (by decide) (fun h73 => ?_) (fun h73 => ?_)
      · refine g_niinc (pc := 123) (d := 1) [(8, _), (7, _), (5, _), (4, _), (0, _), (1, _), (2, _), (3, _)] d_M_substitute_123 rfl (by decide) rfl ?_
        refine g_goto (pc := 126) (tgt := 57) d_M_substitute_126 (by decide) ?_
        refine g_pick [0, 1, 2, 3, 4, 5, 6, 7] [(8, _), (7, _), (5, _), (4, _), (0, _), (1, _), (2, _), (3, _)] rfl ?_
        rw [if_neg (fun q => h73 (hbt.mpr q))] at hS
        exact ih (t + 1) Tm1 ac d1 i1 r1 hB0 hBC (by omega) (by omega) hI1 wg1 hd1 hp1 hac hS
      · have hb1 := hbt.mp h73
        rw [if_pos hb1] at hS
        refine g_aload_n (pc := 76) d_M_substitute_76 rfl ?_
        refine g_iconst (pc := 77) (v := nI 0) d_M_substitute_77 (by decide) ?_
        refine gm_made_p (pc := 78) d_M_substitute_78 lf_M_65 ?_
        have hI2 := hI1.cl
        refine g_aload_n (pc := 81) d_M_substitute_81 rfl ?_
        refine g_bipush (pc := 82) (v := nI 32) d_M_substitute_82 (by decide) ?_
        refine g_iload (pc := 84) d_M_substitute_84 rfl ?_
        refine g_nmul (pc := 86) d_M_substitute_86 ?_
        refine g_iload (pc := 87) d_M_substitute_87 rfl ?_
        refine g_bipush (pc := 89) (v := nI 32) d_M_substitute_89 (by decide) ?_
        refine g_iload_n (pc := 91) d_M_substitute_91 rfl ?_
        refine g_nmul (pc := 92) d_M_substitute_92 ?_
        refine g_callV (M' := m_M_copyWith) (pc := 93) (q := 0) d_M_substitute_93 lm_M_111 (c_M_copyWith_1 [] (32 * t) (hdt B) (32 * w) row C hI2.2.2.2.1 q1 q2 qC1 qC2 gB3 hB0 (by simp; omega)) v_M_copyWith rfl rfl rfl (by decide) rfl (Nat.le_of_ble_eq_true rfl) ?_
        rintro _ _ ⟨i3, r3, rfl, rfl, hx3, hk3⟩
        have hx3 : MW (rpl (hdt B) C row) i3 r3 := hx3
        have hI3 := hI2.mk hk3 hx3
        show pG m_M_substitute τ _ 0 0 96 _ _ _
        refine g_aload_n (pc := 96) d_M_substitute_96 rfl ?_
        refine g_callV (M' := m_M_keep) (pc := 97) (q := 0) d_M_substitute_97 lm_M_95 (c_M_keep (tyR row) hI3 wg1 (fun _ => hwr) (by omega)) v_M_keep rfl rfl rfl (by decide) rfl (Nat.le_of_ble_eq_true rfl) ?_
        rintro _ _ ⟨i9, r9, rfl, rfl, hI9⟩
        show pG m_M_substitute τ _ 0 0 100 _ (.int _ :: _) _
        refine g_istore (pc := 100) [(9, _), (8, _), (7, _), (5, _), (4, _), (0, _), (1, _), (2, _), (3, _)] d_M_substitute_100 (by decide) rfl ?_
        refine g_iload (pc := 102) d_M_substitute_102 rfl ?_
        refine g_if_ge (pc := 104) (tgt := 110) d_M_substitute_104 (by decide) (fun h104 => ?_) (fun h104 => ?_)
        · have q4_ := keep_pos h104
          obtain ⟨c, hc1, hc2, he, -, -, hp9, -, hle, -⟩ := sKeep_nI q4_ b21
          rw [he]
          rw [if_neg q4_, he, nI_clamp (by omega)] at hS
          refine g_aload_n (pc := 110) d_M_substitute_110 rfl ?_
          refine g_aload_n (pc := 111) d_M_substitute_111 rfl ?_
          refine gm_set (pc := 112) d_M_substitute_112 lf_M_118 ?_
          refine g_lconst (pc := 115) (v := lN 1) d_M_substitute_115 (by decide) ?_
          refine g_iload (pc := 116) d_M_substitute_116 rfl ?_
          refine g_lshl (pc := 118) d_M_substitute_118 ?_
          rw [lb_1 c (by omega)]
          refine g_lor (pc := 119) d_M_substitute_119 ?_
          refine g_topl (lN (ac ||| 2 ^ c)) (wb_or (by omega) (wb_lt2 (by omega))) ?_
          refine gm_set_p (pc := 120) d_M_substitute_120 lf_M_118 ?_
          refine g_niinc (pc := 123) (d := 1) [(8, _), (9, _), (7, _), (5, _), (4, _), (0, _), (1, _), (2, _), (3, _)] d_M_substitute_123 rfl (by decide) rfl ?_
          refine g_goto (pc := 126) (tgt := 57) d_M_substitute_126 (by decide) ?_
          refine g_pick [0, 2, 3, 4, 5, 6, 7, 8] [(8, _), (7, _), (5, _), (4, _), (0, _), (1, _), (2, _), (3, _)] rfl ?_
          exact ih (t + 1) _ _ _ i9 r9 hB0 hBC (by omega) (by omega) hI9 (wg1.keep (fun _ => hwr) b21) ((dcl_keep (e := tyR row) (fun _ => by rw [hd1]; exact hwr) b21).trans hd1) (fun z ro hz => hp9 z ro (hp1 z ro hz)) (fun u hu => by
            rw [Nat.testBit_or, Bool.or_eq_true] at hu
            rcases hu with hu | hu
            · exact Nat.lt_of_lt_of_le (hac u hu) hle
            · rw [← two_bits hu]; exact hc2) hS
        · refine g_bipush (pc := 107) (v := -4) d_M_substitute_107 (by decide) ?_
          refine g_iret (pc := 109) d_M_substitute_109 rfl (Nat.le_refl _) (Nat.le_refl _) ?_
          have q4_ := keep_neg b21 h104
          rw [if_pos q4_] at hS
          rw [if_pos hcd, ← hS]
          exact ⟨i9, r9, _, _, _, _, rfl, rfl, hI9.m4 q4_ b21, ext.rf, hp1, fun q => absurd q (by decide)⟩
  refine pC.of rfl (Nat.le_of_ble_eq_true rfl) ?_
  show pG m_M_substitute τ _ 0 0 0 [(0, _), (1, _), (2, _), (3, _)] [] _
  refine g_aload_n (pc := 0) d_M_substitute_0 rfl ?_
  refine g_iload_n (pc := 1) d_M_substitute_1 rfl ?_
  refine g_callV (M' := m_M_isVariableTerm) (pc := 2) (q := 0) d_M_substitute_2 lm_M_105 (c_M_isVariableTerm v B pB3 pB4 pB1 (fun q => wB.len1 q)) v_M_isVariableTerm rfl rfl rfl (by decide) rfl (Nat.le_of_ble_eq_true rfl) ?_
  rintro _ _ ⟨rfl, rfl⟩
  show pG m_M_substitute τ _ 0 0 5 _ (.int _ :: _) _
  refine g_ifb_eq (pc := 5) (tgt := 23) d_M_substitute_5 (by decide) (fun h5 => ?_) (fun h5 => ?_)
  · refine g_bipush (pc := 23) (v := -2) d_M_substitute_23 (by decide) ?_
    refine g_iret (pc := 25) d_M_substitute_25 rfl (Nat.le_refl _) (Nat.le_refl _) ?_
    have hno : ¬ (tgR B = 0 ∧ tyR B = tyR C) := by
      first
      | exact fun q => absurd q.1 (of_decide_eq_false h5)
      | exact fun q => h20 q.2
    have eC : ((if tgR B = 0 ∧ tyR B = tyR C then sC (sSH s (hdt B) C 60 0 Tm 0) else -2) : Int32) = -2 := if_neg hno
    exact ⟨i, r, _, _, _, _, by rw [eC], rfl, hI, ext.rf, fun _ _ h => h, fun q => absurd q (by rw [eC]; decide)⟩
  · refine g_aload_n (pc := 8) d_M_substitute_8 rfl ?_
    refine gm_sort (pc := 9) d_M_substitute_9 lf_M_16 ?_
    refine g_iload_n (pc := 12) d_M_substitute_12 rfl ?_
    refine glm_sort (pc := 13) (v := nI (tyR B)) d_M_substitute_13 (vp_in_nI (by omega) (by decide)) (by rw [nI_clamp (by omega)]; exact pB5) ?_
    refine g_aload_n (pc := 14) d_M_substitute_14 rfl ?_
    refine gm_sort (pc := 15) d_M_substitute_15 lf_M_16 ?_
    refine g_iload_n (pc := 18) d_M_substitute_18 rfl ?_
    refine glm_sort (pc := 19) (v := nI (tyR C)) d_M_substitute_19 (vp_in_nI (by omega) (by decide)) (by rw [nI_clamp (by omega)]; exact pC5) ?_
    refine g_nicmp_eq (pc := 20) (tgt := 26) d_M_substitute_20 (by decide) (by omega) (by omega) (fun h20 => ?_) (fun h20 => ?_)
    · refine g_aload_n (pc := 26) d_M_substitute_26 rfl ?_
      refine gm_row (pc := 27) d_M_substitute_27 lf_M_7 ?_
      refine g_bipush (pc := 30) (v := nI 32) d_M_substitute_30 (by decide) ?_
      refine g_iload_n (pc := 32) d_M_substitute_32 rfl ?_
      refine g_nmul (pc := 33) d_M_substitute_33 ?_
      refine glm_row (pc := 34) (v := nI (mu (hdt B))) d_M_substitute_34 (vp_in_nI (by omega) (by decide)) (by rw [nI_clamp (by omega)]; exact gB2) ?_
      refine g_istore (pc := 35) [(4, _), (0, _), (1, _), (2, _), (3, _)] d_M_substitute_35 (by decide) rfl ?_
      refine g_aload_n (pc := 37) d_M_substitute_37 rfl ?_
      refine gm_set (pc := 38) d_M_substitute_38 lf_M_118 ?_
      refine g_lstore (pc := 41) [(5, _), (4, _), (0, _), (1, _), (2, _), (3, _)] d_M_substitute_41 (by decide) rfl ?_
      refine g_aload_n (pc := 43) d_M_substitute_43 rfl ?_
      refine g_lconst (pc := 44) (v := lN 0) d_M_substitute_44 (by decide) ?_
      refine gm_set_p (pc := 45) d_M_substitute_45 lf_M_118 ?_
      refine g_aload_n (pc := 48) d_M_substitute_48 rfl ?_
      refine gm_terms (pc := 49) d_M_substitute_49 lf_M_78 ?_
      rw [hI.b.2.2.2.2.1]
      refine g_istore (pc := 52) [(7, _), (5, _), (4, _), (0, _), (1, _), (2, _), (3, _)] d_M_substitute_52 (by decide) rfl ?_
      refine g_iconst (pc := 54) (v := nI 0) d_M_substitute_54 (by decide) ?_
      refine g_istore (pc := 55) [(8, _), (7, _), (5, _), (4, _), (0, _), (1, _), (2, _), (3, _)] d_M_substitute_55 (by decide) rfl ?_
      refine g_pick [0, 1, 2, 3, 4, 5, 6, 7] [(8, _), (7, _), (5, _), (4, _), (0, _), (1, _), (2, _), (3, _)] rfl ?_
      exact key _ 0 Tm 0 [] i r (of_decide_eq_true h5) h20 rfl (Nat.zero_le _) hI gs.1 rfl (fun _ _ h => h) (fun u hu => by simp at hu) rfl
    · refine g_bipush (pc := 23) (v := -2) d_M_substitute_23 (by decide) ?_
      refine g_iret (pc := 25) d_M_substitute_25 rfl (Nat.le_refl _) (Nat.le_refl _) ?_
      have hno : ¬ (tgR B = 0 ∧ tyR B = tyR C) := by
        first
        | exact fun q => absurd q.1 (of_decide_eq_false h5)
        | exact fun q => h20 q.2
      have eC : ((if tgR B = 0 ∧ tyR B = tyR C then sC (sSH s (hdt B) C 60 0 Tm 0) else -2) : Int32) = -2 := if_neg hno
      exact ⟨i, r, _, _, _, _, by rw [eC], rfl, hI, ext.rf, fun _ _ h => h, fun q => absurd q (by rw [eC]; decide)⟩
set_option maxRecDepth 100000 in
set_option maxHeartbeats 4000000 in
theorem c_M_rule_0 {τ : Nat × Nat} {a : Nat → Nat} {i : Nat → Int32} {r : Nat → Nat → Int32} {L : Nat → Nat → Int64} {z : Int64} {wr : pW} {Ty : List (Nat × Nat)} {Tm : List (List Nat)} {Th : List Thm} {d : List Nat} (x y : Int32) (hI : MI Ty Tm Th (dcl Tm) d i r L) (gs : GS Ty Tm Th) : pC m_M_rule τ [.ref (a 0), .int (nI 0), .int x, .int y] (wM a i r L z ++ wr) ((fun rr w2 => ∃ i2 r2 L2 z2 d2, rr = some (.int ((sR0 Ty Tm Th x y).1)) ∧ w2 = wM a i2 r2 L2 z2 ++ wr ∧ MI ((sR0 Ty Tm Th x y).2.1) ((sR0 Ty Tm Th x y).2.2.1) ((sR0 Ty Tm Th x y).2.2.2) (dcl ((sR0 Ty Tm Th x y).2.2.1)) d2 i2 r2 L2 ∧ GS ((sR0 Ty Tm Th x y).2.1) ((sR0 Ty Tm Th x y).2.2.1) ((sR0 Ty Tm Th x y).2.2.2))) := by
  refine pC.of rfl (Nat.le_of_ble_eq_true rfl) ?_
  show pG m_M_rule τ _ 0 0 0 [(0, _), (1, _), (2, _), (3, _)] [] _
  obtain ⟨b1, b2, b3, b4, b5, b6, b7⟩ := hI.b
  refine g_iload_n (pc := 0) d_M_rule_0 rfl ?_
  refine g_nif_lt (pc := 1) (tgt := 20) d_M_rule_1 (by decide) (by omega) ?_
  refine g_iload_n (pc := 4) d_M_rule_4 rfl ?_
  refine g_bipush (pc := 5) (v := nI 13) d_M_rule_5 (by decide) ?_
  refine g_nicmp_gt (pc := 7) (tgt := 20) d_M_rule_7 (by decide) (by omega) (by omega) (fun h => absurd h (by decide)) (fun h7 => ?_)
  refine g_aload_n (pc := 10) d_M_rule_10 rfl ?_
  refine g_iload_n (pc := 11) d_M_rule_11 rfl ?_
  refine g_iload_n (pc := 12) d_M_rule_12 rfl ?_
  refine g_iload_n (pc := 13) d_M_rule_13 rfl ?_
  refine g_callV (M' := m_M_there) (pc := 14) (q := 0) d_M_rule_14 lm_M_148 (c_M_there_0 Tm Th b5 b6 b2 b3 x y) v_M_there rfl rfl rfl (by decide) rfl (Nat.le_of_ble_eq_true rfl) ?_
  rintro _ _ ⟨rfl, rfl⟩
  show pG m_M_rule τ _ 0 0 17 _ (.int _ :: _) _
  refine g_ifb_ne (pc := 17) (tgt := 22) d_M_rule_17 (by decide) (fun h17 => ?_) (fun h17 => ?_)
  · obtain ⟨h22, h35⟩ := (Bool.and_eq_true _ _).mp h17
    obtain ⟨x0, hx0, rfl⟩ := ixB_of h22 (by omega)
    obtain ⟨A, hA0_⟩ := get_of hx0
    have eA := rwT_at hA0_ b2
    have exc : (nI x0).toNatClampNeg = x0 := nI_clamp (by omega)
    have eS : sR0 Ty Tm Th (nI x0) y = sRb0 Ty Tm Th x0 y.toNatClampNeg 0 0 A [] := by rw [sR0, h22, exc, eA]; rfl
    have hF : sR0 Ty Tm Th (nI x0) y = if (if tyR A = 0 then 0 else -2 : Int32) = 0 then (if Th.length = 40 then (-4, Ty, Tm, Th) else sFin Ty Tm Th 0 x0 y.toNatClampNeg (0) (Ty) (Tm) (A)) else (if tyR A = 0 then 0 else -2, Ty, Tm, Th) := by
      rw [eS]
      by_cases q0 : tyR A = 0 <;> simp [sRb0, q0, n_2, n_3, n_4]
    refine g_iload_n (pc := 22) d_M_rule_22 rfl ?_
    refine g_callS (M' := m_M_named) (pc := 23) d_M_rule_23 lm_M_125 c_M_named_0 v_M_named rfl (by decide) rfl (Nat.le_of_ble_eq_true rfl) ?_
    rintro _ _ ⟨rfl, rfl⟩
    show pG m_M_rule τ _ 0 0 26 _ (.int _ :: _) _
    refine g_istore (pc := 26) [(4, _), (0, _), (1, _), (2, _), (3, _)] d_M_rule_26 (by decide) rfl ?_
    refine g_aload_n (pc := 28) d_M_rule_28 rfl ?_
    refine gm_terms (pc := 29) d_M_rule_29 lf_M_78 ?_
    rw [b5]
    refine g_istore (pc := 32) [(5, _), (4, _), (0, _), (1, _), (2, _), (3, _)] d_M_rule_32 (by decide) rfl ?_
    refine g_aload_n (pc := 34) d_M_rule_34 rfl ?_
    refine gm_types (pc := 35) d_M_rule_35 lf_M_22 ?_
    rw [b4]
    refine g_istore (pc := 38) [(6, _), (5, _), (4, _), (0, _), (1, _), (2, _), (3, _)] d_M_rule_38 (by decide) rfl ?_
    refine g_aload_n (pc := 40) d_M_rule_40 rfl ?_
    refine g_iload (pc := 41) d_M_rule_41 rfl ?_
    refine g_nif_le (pc := 43) (tgt := 55) d_M_rule_43 (by decide) (by omega) (fun h43 => ?_) (fun h => absurd h (by decide))
    refine g_lconst (pc := 55) (v := lN 0) d_M_rule_55 (by decide) ?_
    refine g_iload (pc := 56) d_M_rule_56 rfl ?_
    refine g_iconst (pc := 58) (v := nI 1) d_M_rule_58 (by decide) ?_
    refine g_nicmp_le (pc := 59) (tgt := 71) d_M_rule_59 (by decide) (by omega) (by omega) (fun h59 => ?_) (fun h => absurd h (by decide))
    refine g_lconst (pc := 71) (v := lN 0) d_M_rule_71 (by decide) ?_
    refine g_lor (pc := 72) d_M_rule_72 ?_
    refine g_topl (lN 0) (by decide) ?_
    refine gm_set_p (pc := 73) d_M_rule_73 lf_M_118 ?_
    refine g_aload_n (pc := 76) d_M_rule_76 rfl ?_
    refine g_iconst (pc := 77) (v := nI 0) d_M_rule_77 (by decide) ?_
    refine gm_made_p (pc := 78) d_M_rule_78 lf_M_65 ?_
    have hI1 := hI.cl
    refine g_iload_n (pc := 81) d_M_rule_81 rfl ?_
    refine g_bipush (pc := 82) (v := nI 13) d_M_rule_82 (by decide) ?_
    refine g_nicmp_ne (pc := 84) (tgt := 103) d_M_rule_84 (by decide) (by omega) (by omega) (fun h84 => ?_) (fun h => absurd h (by decide))
    refine g_iload_n (pc := 103) d_M_rule_103 rfl ?_
    refine g_bipush (pc := 104) (v := nI 6) d_M_rule_104 (by decide) ?_
    refine g_nicmp_lt (pc := 106) (tgt := 115) d_M_rule_106 (by decide) (by omega) (by omega) (fun h106 => ?_) (fun h => absurd h (by decide))
    refine g_aload_n (pc := 115) d_M_rule_115 rfl ?_
    refine g_iload_n (pc := 116) d_M_rule_116 rfl ?_
    refine g_iload_n (pc := 117) d_M_rule_117 rfl ?_
    refine g_iload_n (pc := 118) d_M_rule_118 rfl ?_
    refine g_callV (M' := m_M_reason) (pc := 119) (q := 0) d_M_rule_119 lm_M_155 (c_M_reason_0 x0 A hA0_ y 0 hI1 gs (by decide) (fun t ht => by simp at ht)) v_M_reason rfl rfl rfl (by decide) rfl (Nat.le_of_ble_eq_true rfl) ?_
    rintro rr w2 mo
    obtain ⟨v, rfl, hg⟩ := c_M_tail_0 (τ := τ) (sR0 Ty Tm Th (nI x0) y) 0 x0 y.toNatClampNeg (by decide) (nI x0) y (by decide) (by decide) b1 b2 gs (cd c_0 c_2) hF mo
    show pG m_M_rule τ _ 0 0 122 _ (.int _ :: _) _
    refine g_goto (pc := 122) (tgt := 132) d_M_rule_122 (by decide) ?_
    refine g_pick [0, 1, 2, 3, 4, 5, 6] [(6, _), (5, _), (4, _), (0, _), (1, _), (2, _), (3, _)] rfl ?_
    exact hg
  · refine g_iconst (pc := 20) (v := -1) d_M_rule_20 (by decide) ?_
    refine g_iret (pc := 21) d_M_rule_21 rfl (Nat.le_refl _) (Nat.le_refl _) ?_
    have e : sR0 Ty Tm Th x y = (-1, Ty, Tm, Th) := by
      rw [sR0, h17]
      rfl
    exact ⟨i, r, L, z, d, by rw [e], rfl, by rw [e]; exact hI, by rw [e]; exact gs⟩
set_option maxRecDepth 100000 in
set_option maxHeartbeats 4000000 in
theorem c_M_rule_1 {τ : Nat × Nat} {a : Nat → Nat} {i : Nat → Int32} {r : Nat → Nat → Int32} {L : Nat → Nat → Int64} {z : Int64} {wr : pW} {Ty : List (Nat × Nat)} {Tm : List (List Nat)} {Th : List Thm} {d : List Nat} (x y : Int32) (hI : MI Ty Tm Th (dcl Tm) d i r L) (gs : GS Ty Tm Th) : pC m_M_rule τ [.ref (a 0), .int (nI 1), .int x, .int y] (wM a i r L z ++ wr) ((fun rr w2 => ∃ i2 r2 L2 z2 d2, rr = some (.int ((sR1 Ty Tm Th x y).1)) ∧ w2 = wM a i2 r2 L2 z2 ++ wr ∧ MI ((sR1 Ty Tm Th x y).2.1) ((sR1 Ty Tm Th x y).2.2.1) ((sR1 Ty Tm Th x y).2.2.2) (dcl ((sR1 Ty Tm Th x y).2.2.1)) d2 i2 r2 L2 ∧ GS ((sR1 Ty Tm Th x y).2.1) ((sR1 Ty Tm Th x y).2.2.1) ((sR1 Ty Tm Th x y).2.2.2))) := by
  refine pC.of rfl (Nat.le_of_ble_eq_true rfl) ?_
  show pG m_M_rule τ _ 0 0 0 [(0, _), (1, _), (2, _), (3, _)] [] _
  obtain ⟨b1, b2, b3, b4, b5, b6, b7⟩ := hI.b
  refine g_iload_n (pc := 0) d_M_rule_0 rfl ?_
  refine g_nif_lt (pc := 1) (tgt := 20) d_M_rule_1 (by decide) (by omega) ?_
  refine g_iload_n (pc := 4) d_M_rule_4 rfl ?_
  refine g_bipush (pc := 5) (v := nI 13) d_M_rule_5 (by decide) ?_
  refine g_nicmp_gt (pc := 7) (tgt := 20) d_M_rule_7 (by decide) (by omega) (by omega) (fun h => absurd h (by decide)) (fun h7 => ?_)
  refine g_aload_n (pc := 10) d_M_rule_10 rfl ?_
  refine g_iload_n (pc := 11) d_M_rule_11 rfl ?_
  refine g_iload_n (pc := 12) d_M_rule_12 rfl ?_
  refine g_iload_n (pc := 13) d_M_rule_13 rfl ?_
  refine g_callV (M' := m_M_there) (pc := 14) (q := 0) d_M_rule_14 lm_M_148 (c_M_there_1 Tm Th b5 b6 b2 b3 x y) v_M_there rfl rfl rfl (by decide) rfl (Nat.le_of_ble_eq_true rfl) ?_
  rintro _ _ ⟨rfl, rfl⟩
  show pG m_M_rule τ _ 0 0 17 _ (.int _ :: _) _
  refine g_ifb_ne (pc := 17) (tgt := 22) d_M_rule_17 (by decide) (fun h17 => ?_) (fun h17 => ?_)
  · obtain ⟨h22, h35⟩ := (Bool.and_eq_true _ _).mp h17
    obtain ⟨x0, hx0, rfl⟩ := ixB_of h22 (by omega)
    obtain ⟨A, hA0_⟩ := get_of hx0
    have eA := rwT_at hA0_ b2
    have exc : (nI x0).toNatClampNeg = x0 := nI_clamp (by omega)
    have eS : sR1 Ty Tm Th (nI x0) y = sRb1 Ty Tm Th x0 y.toNatClampNeg 0 0 A [] := by rw [sR1, h22, exc, eA]; rfl
    have hF : sR1 Ty Tm Th (nI x0) y = if (if tyR A = 0 then 0 else -2 : Int32) = 0 then (if Th.length = 40 then (-4, Ty, Tm, Th) else sFin Ty Tm Th 1 x0 y.toNatClampNeg (2 ^ x0) (Ty) (Tm) (A)) else (if tyR A = 0 then 0 else -2, Ty, Tm, Th) := by
      rw [eS]
      by_cases q0 : tyR A = 0 <;> simp [sRb1, q0, n_2, n_3, n_4]
    refine g_iload_n (pc := 22) d_M_rule_22 rfl ?_
    refine g_callS (M' := m_M_named) (pc := 23) d_M_rule_23 lm_M_125 c_M_named_1 v_M_named rfl (by decide) rfl (Nat.le_of_ble_eq_true rfl) ?_
    rintro _ _ ⟨rfl, rfl⟩
    show pG m_M_rule τ _ 0 0 26 _ (.int _ :: _) _
    refine g_istore (pc := 26) [(4, _), (0, _), (1, _), (2, _), (3, _)] d_M_rule_26 (by decide) rfl ?_
    refine g_aload_n (pc := 28) d_M_rule_28 rfl ?_
    refine gm_terms (pc := 29) d_M_rule_29 lf_M_78 ?_
    rw [b5]
    refine g_istore (pc := 32) [(5, _), (4, _), (0, _), (1, _), (2, _), (3, _)] d_M_rule_32 (by decide) rfl ?_
    refine g_aload_n (pc := 34) d_M_rule_34 rfl ?_
    refine gm_types (pc := 35) d_M_rule_35 lf_M_22 ?_
    rw [b4]
    refine g_istore (pc := 38) [(6, _), (5, _), (4, _), (0, _), (1, _), (2, _), (3, _)] d_M_rule_38 (by decide) rfl ?_
    refine g_aload_n (pc := 40) d_M_rule_40 rfl ?_
    refine g_iload (pc := 41) d_M_rule_41 rfl ?_
    refine g_nif_le (pc := 43) (tgt := 55) d_M_rule_43 (by decide) (by omega) (fun h43 => ?_) (fun h => absurd h (by decide))
    refine g_lconst (pc := 55) (v := lN 0) d_M_rule_55 (by decide) ?_
    refine g_iload (pc := 56) d_M_rule_56 rfl ?_
    refine g_iconst (pc := 58) (v := nI 1) d_M_rule_58 (by decide) ?_
    refine g_nicmp_le (pc := 59) (tgt := 71) d_M_rule_59 (by decide) (by omega) (by omega) (fun h59 => ?_) (fun h => absurd h (by decide))
    refine g_lconst (pc := 71) (v := lN 0) d_M_rule_71 (by decide) ?_
    refine g_lor (pc := 72) d_M_rule_72 ?_
    refine g_topl (lN 0) (by decide) ?_
    refine gm_set_p (pc := 73) d_M_rule_73 lf_M_118 ?_
    refine g_aload_n (pc := 76) d_M_rule_76 rfl ?_
    refine g_iconst (pc := 77) (v := nI 0) d_M_rule_77 (by decide) ?_
    refine gm_made_p (pc := 78) d_M_rule_78 lf_M_65 ?_
    have hI1 := hI.cl
    refine g_iload_n (pc := 81) d_M_rule_81 rfl ?_
    refine g_bipush (pc := 82) (v := nI 13) d_M_rule_82 (by decide) ?_
    refine g_nicmp_ne (pc := 84) (tgt := 103) d_M_rule_84 (by decide) (by omega) (by omega) (fun h84 => ?_) (fun h => absurd h (by decide))
    refine g_iload_n (pc := 103) d_M_rule_103 rfl ?_
    refine g_bipush (pc := 104) (v := nI 6) d_M_rule_104 (by decide) ?_
    refine g_nicmp_lt (pc := 106) (tgt := 115) d_M_rule_106 (by decide) (by omega) (by omega) (fun h106 => ?_) (fun h => absurd h (by decide))
    refine g_aload_n (pc := 115) d_M_rule_115 rfl ?_
    refine g_iload_n (pc := 116) d_M_rule_116 rfl ?_
    refine g_iload_n (pc := 117) d_M_rule_117 rfl ?_
    refine g_iload_n (pc := 118) d_M_rule_118 rfl ?_
    refine g_callV (M' := m_M_reason) (pc := 119) (q := 0) d_M_rule_119 lm_M_155 (c_M_reason_1 x0 A hA0_ y 0 hI1 gs (by decide) (fun t ht => by simp at ht)) v_M_reason rfl rfl rfl (by decide) rfl (Nat.le_of_ble_eq_true rfl) ?_
    rintro rr w2 mo
    obtain ⟨v, rfl, hg⟩ := c_M_tail_0 (τ := τ) (sR1 Ty Tm Th (nI x0) y) 1 x0 y.toNatClampNeg (by decide) (nI x0) y (by decide) (by decide) b1 b2 gs (cd c_0 c_2) hF mo
    show pG m_M_rule τ _ 0 0 122 _ (.int _ :: _) _
    refine g_goto (pc := 122) (tgt := 132) d_M_rule_122 (by decide) ?_
    refine g_pick [0, 1, 2, 3, 4, 5, 6] [(6, _), (5, _), (4, _), (0, _), (1, _), (2, _), (3, _)] rfl ?_
    exact hg
  · refine g_iconst (pc := 20) (v := -1) d_M_rule_20 (by decide) ?_
    refine g_iret (pc := 21) d_M_rule_21 rfl (Nat.le_refl _) (Nat.le_refl _) ?_
    have e : sR1 Ty Tm Th x y = (-1, Ty, Tm, Th) := by
      rw [sR1, h17]
      rfl
    exact ⟨i, r, L, z, d, by rw [e], rfl, by rw [e]; exact hI, by rw [e]; exact gs⟩
set_option maxRecDepth 100000 in
set_option maxHeartbeats 4000000 in
theorem c_M_rule_2 {τ : Nat × Nat} {a : Nat → Nat} {i : Nat → Int32} {r : Nat → Nat → Int32} {L : Nat → Nat → Int64} {z : Int64} {wr : pW} {Ty : List (Nat × Nat)} {Tm : List (List Nat)} {Th : List Thm} {d : List Nat} (x y : Int32) (hI : MI Ty Tm Th (dcl Tm) d i r L) (gs : GS Ty Tm Th) : pC m_M_rule τ [.ref (a 0), .int (nI 2), .int x, .int y] (wM a i r L z ++ wr) ((fun rr w2 => ∃ i2 r2 L2 z2 d2, rr = some (.int ((sR2 Ty Tm Th x y).1)) ∧ w2 = wM a i2 r2 L2 z2 ++ wr ∧ MI ((sR2 Ty Tm Th x y).2.1) ((sR2 Ty Tm Th x y).2.2.1) ((sR2 Ty Tm Th x y).2.2.2) (dcl ((sR2 Ty Tm Th x y).2.2.1)) d2 i2 r2 L2 ∧ GS ((sR2 Ty Tm Th x y).2.1) ((sR2 Ty Tm Th x y).2.2.1) ((sR2 Ty Tm Th x y).2.2.2))) := by
  refine pC.of rfl (Nat.le_of_ble_eq_true rfl) ?_
  show pG m_M_rule τ _ 0 0 0 [(0, _), (1, _), (2, _), (3, _)] [] _
  obtain ⟨b1, b2, b3, b4, b5, b6, b7⟩ := hI.b
  refine g_iload_n (pc := 0) d_M_rule_0 rfl ?_
  refine g_nif_lt (pc := 1) (tgt := 20) d_M_rule_1 (by decide) (by omega) ?_
  refine g_iload_n (pc := 4) d_M_rule_4 rfl ?_
  refine g_bipush (pc := 5) (v := nI 13) d_M_rule_5 (by decide) ?_
  refine g_nicmp_gt (pc := 7) (tgt := 20) d_M_rule_7 (by decide) (by omega) (by omega) (fun h => absurd h (by decide)) (fun h7 => ?_)
  refine g_aload_n (pc := 10) d_M_rule_10 rfl ?_
  refine g_iload_n (pc := 11) d_M_rule_11 rfl ?_
  refine g_iload_n (pc := 12) d_M_rule_12 rfl ?_
  refine g_iload_n (pc := 13) d_M_rule_13 rfl ?_
  refine g_callV (M' := m_M_there) (pc := 14) (q := 0) d_M_rule_14 lm_M_148 (c_M_there_2 Tm Th b5 b6 b2 b3 x y) v_M_there rfl rfl rfl (by decide) rfl (Nat.le_of_ble_eq_true rfl) ?_
  rintro _ _ ⟨rfl, rfl⟩
  show pG m_M_rule τ _ 0 0 17 _ (.int _ :: _) _
  refine g_ifb_ne (pc := 17) (tgt := 22) d_M_rule_17 (by decide) (fun h17 => ?_) (fun h17 => ?_)
  · obtain ⟨h22, h35⟩ := (Bool.and_eq_true _ _).mp h17
    obtain ⟨x0, hx0, rfl⟩ := ixB_of h22 (by omega)
    obtain ⟨⟨ux, vx, zx, hx, cx⟩, tx⟩ := get_of hx0
    obtain ⟨⟨A, hA0_, -⟩, kx2⟩ := gs.2 _ _ _ _ _ _ tx
    obtain ⟨hx4, hxL, hx7⟩ := hI.th tx
    have hx60 : hx < 2 ^ 60 := bits60 (fun t ht => by have := kx2 t ht; omega)
    have exc : (nI x0).toNatClampNeg = x0 := nI_clamp (by omega)
    have ext : thG Th (nI x0) = (ux, vx, zx, hx, cx) := by rw [thG, exc, List.getD_eq_getElem?_getD, tx]; rfl
    have eA : rcT Tm Th (nI x0) = A := by rw [rcT, ext]; exact getD_at hA0_
    obtain ⟨y0, hy0, rfl⟩ := ixB_of h35 (by omega)
    obtain ⟨B, hB0_⟩ := get_of hy0
    have eB := rwT_at hB0_ b2
    have eyc : (nI y0).toNatClampNeg = y0 := nI_clamp (by omega)
    have eS : sR2 Ty Tm Th (nI x0) (nI y0) = sRb2 Ty Tm Th x0 y0 hx 0 A B := by rw [sR2, h22, h35, exc, eyc, ext, eA, eB]; rfl
    have hF : sR2 Ty Tm Th (nI x0) (nI y0) = if (if tyR B = 0 then 0 else -2 : Int32) = 0 then (if Th.length = 40 then (-4, Ty, Tm, Th) else sFin Ty Tm Th 2 x0 y0 (clr hx y0) (Ty) (Tm) (sJn 6 B A)) else (if tyR B = 0 then 0 else -2, Ty, Tm, Th) := by
      rw [eS]
      by_cases q0 : tyR B = 0 <;> simp [sRb2, q0, n_2, n_3, n_4]
    refine g_iload_n (pc := 22) d_M_rule_22 rfl ?_
    refine g_callS (M' := m_M_named) (pc := 23) d_M_rule_23 lm_M_125 c_M_named_2 v_M_named rfl (by decide) rfl (Nat.le_of_ble_eq_true rfl) ?_
    rintro _ _ ⟨rfl, rfl⟩
    show pG m_M_rule τ _ 0 0 26 _ (.int _ :: _) _
    refine g_istore (pc := 26) [(4, _), (0, _), (1, _), (2, _), (3, _)] d_M_rule_26 (by decide) rfl ?_
    refine g_aload_n (pc := 28) d_M_rule_28 rfl ?_
    refine gm_terms (pc := 29) d_M_rule_29 lf_M_78 ?_
    rw [b5]
    refine g_istore (pc := 32) [(5, _), (4, _), (0, _), (1, _), (2, _), (3, _)] d_M_rule_32 (by decide) rfl ?_
    refine g_aload_n (pc := 34) d_M_rule_34 rfl ?_
    refine gm_types (pc := 35) d_M_rule_35 lf_M_22 ?_
    rw [b4]
    refine g_istore (pc := 38) [(6, _), (5, _), (4, _), (0, _), (1, _), (2, _), (3, _)] d_M_rule_38 (by decide) rfl ?_
    refine g_aload_n (pc := 40) d_M_rule_40 rfl ?_
    refine g_iload (pc := 41) d_M_rule_41 rfl ?_
    refine g_nif_le (pc := 43) (tgt := 55) d_M_rule_43 (by decide) (by omega) (fun h => absurd h (by decide)) (fun h43 => ?_)
    refine g_aload_n (pc := 46) d_M_rule_46 rfl ?_
    refine gm_hypotheses (pc := 47) d_M_rule_47 lf_M_35 ?_
    refine g_iload_n (pc := 50) d_M_rule_50 rfl ?_
    refine glm_hypotheses (pc := 51) (v := lN hx) d_M_rule_51 (vp_in_nI (by omega) (by decide)) (by rw [nI_clamp (by omega)]; exact hxL) ?_
    refine g_goto (pc := 52) (tgt := 56) d_M_rule_52 (by decide) ?_
    refine g_iload (pc := 56) d_M_rule_56 rfl ?_
    refine g_iconst (pc := 58) (v := nI 1) d_M_rule_58 (by decide) ?_
    refine g_nicmp_le (pc := 59) (tgt := 71) d_M_rule_59 (by decide) (by omega) (by omega) (fun h59 => ?_) (fun h => absurd h (by decide))
    refine g_lconst (pc := 71) (v := lN 0) d_M_rule_71 (by decide) ?_
    refine g_lor (pc := 72) d_M_rule_72 ?_
    refine g_topl (lN hx) (by rw [wb_or (by omega) (by decide), Nat.or_zero]) ?_
    refine gm_set_p (pc := 73) d_M_rule_73 lf_M_118 ?_
    refine g_aload_n (pc := 76) d_M_rule_76 rfl ?_
    refine g_iconst (pc := 77) (v := nI 0) d_M_rule_77 (by decide) ?_
    refine gm_made_p (pc := 78) d_M_rule_78 lf_M_65 ?_
    have hI1 := hI.cl
    refine g_iload_n (pc := 81) d_M_rule_81 rfl ?_
    refine g_bipush (pc := 82) (v := nI 13) d_M_rule_82 (by decide) ?_
    refine g_nicmp_ne (pc := 84) (tgt := 103) d_M_rule_84 (by decide) (by omega) (by omega) (fun h84 => ?_) (fun h => absurd h (by decide))
    refine g_iload_n (pc := 103) d_M_rule_103 rfl ?_
    refine g_bipush (pc := 104) (v := nI 6) d_M_rule_104 (by decide) ?_
    refine g_nicmp_lt (pc := 106) (tgt := 115) d_M_rule_106 (by decide) (by omega) (by omega) (fun h106 => ?_) (fun h => absurd h (by decide))
    refine g_aload_n (pc := 115) d_M_rule_115 rfl ?_
    refine g_iload_n (pc := 116) d_M_rule_116 rfl ?_
    refine g_iload_n (pc := 117) d_M_rule_117 rfl ?_
    refine g_iload_n (pc := 118) d_M_rule_118 rfl ?_
    refine g_callV (M' := m_M_reason) (pc := 119) (q := 0) d_M_rule_119 lm_M_155 (c_M_reason_2 x0 ux vx zx hx cx A tx hA0_ y0 B hB0_ hx hI1 gs hx60 kx2) v_M_reason rfl rfl rfl (by decide) rfl (Nat.le_of_ble_eq_true rfl) ?_
    rintro rr w2 mo
    obtain ⟨v, rfl, hg⟩ := c_M_tail_1 (τ := τ) (sR2 Ty Tm Th (nI x0) (nI y0)) 2 x0 y0 (by decide) (nI y0) (by decide) (by decide) (by decide) hx0 b1 b2 gs (cd c_0 c_2) hF mo
    show pG m_M_rule τ _ 0 0 122 _ (.int _ :: _) _
    refine g_goto (pc := 122) (tgt := 132) d_M_rule_122 (by decide) ?_
    refine g_pick [0, 1, 2, 3, 4, 5, 6] [(6, _), (5, _), (4, _), (0, _), (1, _), (2, _), (3, _)] rfl ?_
    exact hg
  · refine g_iconst (pc := 20) (v := -1) d_M_rule_20 (by decide) ?_
    refine g_iret (pc := 21) d_M_rule_21 rfl (Nat.le_refl _) (Nat.le_refl _) ?_
    have e : sR2 Ty Tm Th x y = (-1, Ty, Tm, Th) := by
      rw [sR2, h17]
      rfl
    exact ⟨i, r, L, z, d, by rw [e], rfl, by rw [e]; exact hI, by rw [e]; exact gs⟩
set_option maxRecDepth 100000 in
set_option maxHeartbeats 4000000 in
theorem c_M_rule_3 {τ : Nat × Nat} {a : Nat → Nat} {i : Nat → Int32} {r : Nat → Nat → Int32} {L : Nat → Nat → Int64} {z : Int64} {wr : pW} {Ty : List (Nat × Nat)} {Tm : List (List Nat)} {Th : List Thm} {d : List Nat} (x y : Int32) (hI : MI Ty Tm Th (dcl Tm) d i r L) (gs : GS Ty Tm Th) : pC m_M_rule τ [.ref (a 0), .int (nI 3), .int x, .int y] (wM a i r L z ++ wr) ((fun rr w2 => ∃ i2 r2 L2 z2 d2, rr = some (.int ((sR3 Ty Tm Th x y).1)) ∧ w2 = wM a i2 r2 L2 z2 ++ wr ∧ MI ((sR3 Ty Tm Th x y).2.1) ((sR3 Ty Tm Th x y).2.2.1) ((sR3 Ty Tm Th x y).2.2.2) (dcl ((sR3 Ty Tm Th x y).2.2.1)) d2 i2 r2 L2 ∧ GS ((sR3 Ty Tm Th x y).2.1) ((sR3 Ty Tm Th x y).2.2.1) ((sR3 Ty Tm Th x y).2.2.2))) := by
  refine pC.of rfl (Nat.le_of_ble_eq_true rfl) ?_
  show pG m_M_rule τ _ 0 0 0 [(0, _), (1, _), (2, _), (3, _)] [] _
  obtain ⟨b1, b2, b3, b4, b5, b6, b7⟩ := hI.b
  refine g_iload_n (pc := 0) d_M_rule_0 rfl ?_
  refine g_nif_lt (pc := 1) (tgt := 20) d_M_rule_1 (by decide) (by omega) ?_
  refine g_iload_n (pc := 4) d_M_rule_4 rfl ?_
  refine g_bipush (pc := 5) (v := nI 13) d_M_rule_5 (by decide) ?_
  refine g_nicmp_gt (pc := 7) (tgt := 20) d_M_rule_7 (by decide) (by omega) (by omega) (fun h => absurd h (by decide)) (fun h7 => ?_)
  refine g_aload_n (pc := 10) d_M_rule_10 rfl ?_
  refine g_iload_n (pc := 11) d_M_rule_11 rfl ?_
  refine g_iload_n (pc := 12) d_M_rule_12 rfl ?_
  refine g_iload_n (pc := 13) d_M_rule_13 rfl ?_
  refine g_callV (M' := m_M_there) (pc := 14) (q := 0) d_M_rule_14 lm_M_148 (c_M_there_3 Tm Th b5 b6 b2 b3 x y) v_M_there rfl rfl rfl (by decide) rfl (Nat.le_of_ble_eq_true rfl) ?_
  rintro _ _ ⟨rfl, rfl⟩
  show pG m_M_rule τ _ 0 0 17 _ (.int _ :: _) _
  refine g_ifb_ne (pc := 17) (tgt := 22) d_M_rule_17 (by decide) (fun h17 => ?_) (fun h17 => ?_)
  · obtain ⟨h22, h35⟩ := (Bool.and_eq_true _ _).mp h17
    obtain ⟨x0, hx0, rfl⟩ := ixB_of h22 (by omega)
    obtain ⟨⟨ux, vx, zx, hx, cx⟩, tx⟩ := get_of hx0
    obtain ⟨⟨A, hA0_, -⟩, kx2⟩ := gs.2 _ _ _ _ _ _ tx
    obtain ⟨hx4, hxL, hx7⟩ := hI.th tx
    have hx60 : hx < 2 ^ 60 := bits60 (fun t ht => by have := kx2 t ht; omega)
    have exc : (nI x0).toNatClampNeg = x0 := nI_clamp (by omega)
    have ext : thG Th (nI x0) = (ux, vx, zx, hx, cx) := by rw [thG, exc, List.getD_eq_getElem?_getD, tx]; rfl
    have eA : rcT Tm Th (nI x0) = A := by rw [rcT, ext]; exact getD_at hA0_
    obtain ⟨y0, hy0, rfl⟩ := ixB_of h35 (by omega)
    obtain ⟨⟨uy, vy, zy, hy, cy⟩, ty⟩ := get_of hy0
    obtain ⟨⟨B, hB0_, -⟩, ky2⟩ := gs.2 _ _ _ _ _ _ ty
    obtain ⟨hy4, hyL, hy7⟩ := hI.th ty
    have hy60 : hy < 2 ^ 60 := bits60 (fun t ht => by have := ky2 t ht; omega)
    have eyc : (nI y0).toNatClampNeg = y0 := nI_clamp (by omega)
    have eyt : thG Th (nI y0) = (uy, vy, zy, hy, cy) := by rw [thG, eyc, List.getD_eq_getElem?_getD, ty]; rfl
    have eB : rcT Tm Th (nI y0) = B := by rw [rcT, eyt]; exact getD_at hB0_
    have eS : sR3 Ty Tm Th (nI x0) (nI y0) = sRb3 Ty Tm Th x0 y0 hx hy A B := by rw [sR3, h22, h35, exc, eyc, ext, eyt, eA, eB]; rfl
    have hF : sR3 Ty Tm Th (nI x0) (nI y0) = if (if tgR A = 6 ∧ p1 A = B then 0 else -2 : Int32) = 0 then (if Th.length = 40 then (-4, Ty, Tm, Th) else sFin Ty Tm Th 3 x0 y0 ((hx ||| hy)) (Ty) (Tm) (p2 A)) else (if tgR A = 6 ∧ p1 A = B then 0 else -2, Ty, Tm, Th) := by
      rw [eS]
      by_cases q0 : tgR A = 6 ∧ p1 A = B <;> simp [sRb3, q0, n_2, n_3, n_4]
    refine g_iload_n (pc := 22) d_M_rule_22 rfl ?_
    refine g_callS (M' := m_M_named) (pc := 23) d_M_rule_23 lm_M_125 c_M_named_3 v_M_named rfl (by decide) rfl (Nat.le_of_ble_eq_true rfl) ?_
    rintro _ _ ⟨rfl, rfl⟩
    show pG m_M_rule τ _ 0 0 26 _ (.int _ :: _) _
    refine g_istore (pc := 26) [(4, _), (0, _), (1, _), (2, _), (3, _)] d_M_rule_26 (by decide) rfl ?_
    refine g_aload_n (pc := 28) d_M_rule_28 rfl ?_
    refine gm_terms (pc := 29) d_M_rule_29 lf_M_78 ?_
    rw [b5]
    refine g_istore (pc := 32) [(5, _), (4, _), (0, _), (1, _), (2, _), (3, _)] d_M_rule_32 (by decide) rfl ?_
    refine g_aload_n (pc := 34) d_M_rule_34 rfl ?_
    refine gm_types (pc := 35) d_M_rule_35 lf_M_22 ?_
    rw [b4]
    refine g_istore (pc := 38) [(6, _), (5, _), (4, _), (0, _), (1, _), (2, _), (3, _)] d_M_rule_38 (by decide) rfl ?_
    refine g_aload_n (pc := 40) d_M_rule_40 rfl ?_
    refine g_iload (pc := 41) d_M_rule_41 rfl ?_
    refine g_nif_le (pc := 43) (tgt := 55) d_M_rule_43 (by decide) (by omega) (fun h => absurd h (by decide)) (fun h43 => ?_)
    refine g_aload_n (pc := 46) d_M_rule_46 rfl ?_
    refine gm_hypotheses (pc := 47) d_M_rule_47 lf_M_35 ?_
    refine g_iload_n (pc := 50) d_M_rule_50 rfl ?_
    refine glm_hypotheses (pc := 51) (v := lN hx) d_M_rule_51 (vp_in_nI (by omega) (by decide)) (by rw [nI_clamp (by omega)]; exact hxL) ?_
    refine g_goto (pc := 52) (tgt := 56) d_M_rule_52 (by decide) ?_
    refine g_iload (pc := 56) d_M_rule_56 rfl ?_
    refine g_iconst (pc := 58) (v := nI 1) d_M_rule_58 (by decide) ?_
    refine g_nicmp_le (pc := 59) (tgt := 71) d_M_rule_59 (by decide) (by omega) (by omega) (fun h => absurd h (by decide)) (fun h59 => ?_)
    refine g_aload_n (pc := 62) d_M_rule_62 rfl ?_
    refine gm_hypotheses (pc := 63) d_M_rule_63 lf_M_35 ?_
    refine g_iload_n (pc := 66) d_M_rule_66 rfl ?_
    refine glm_hypotheses (pc := 67) (v := lN hy) d_M_rule_67 (vp_in_nI (by omega) (by decide)) (by rw [nI_clamp (by omega)]; exact hyL) ?_
    refine g_goto (pc := 68) (tgt := 72) d_M_rule_68 (by decide) ?_
    refine g_lor (pc := 72) d_M_rule_72 ?_
    refine g_topl (lN (hx ||| hy)) (wb_or (by omega) (by omega)) ?_
    refine gm_set_p (pc := 73) d_M_rule_73 lf_M_118 ?_
    refine g_aload_n (pc := 76) d_M_rule_76 rfl ?_
    refine g_iconst (pc := 77) (v := nI 0) d_M_rule_77 (by decide) ?_
    refine gm_made_p (pc := 78) d_M_rule_78 lf_M_65 ?_
    have hI1 := hI.cl
    refine g_iload_n (pc := 81) d_M_rule_81 rfl ?_
    refine g_bipush (pc := 82) (v := nI 13) d_M_rule_82 (by decide) ?_
    refine g_nicmp_ne (pc := 84) (tgt := 103) d_M_rule_84 (by decide) (by omega) (by omega) (fun h84 => ?_) (fun h => absurd h (by decide))
    refine g_iload_n (pc := 103) d_M_rule_103 rfl ?_
    refine g_bipush (pc := 104) (v := nI 6) d_M_rule_104 (by decide) ?_
    refine g_nicmp_lt (pc := 106) (tgt := 115) d_M_rule_106 (by decide) (by omega) (by omega) (fun h106 => ?_) (fun h => absurd h (by decide))
    refine g_aload_n (pc := 115) d_M_rule_115 rfl ?_
    refine g_iload_n (pc := 116) d_M_rule_116 rfl ?_
    refine g_iload_n (pc := 117) d_M_rule_117 rfl ?_
    refine g_iload_n (pc := 118) d_M_rule_118 rfl ?_
    refine g_callV (M' := m_M_reason) (pc := 119) (q := 0) d_M_rule_119 lm_M_155 (c_M_reason_3 x0 ux vx zx hx cx A tx hA0_ y0 uy vy zy hy cy B ty hB0_ (hx ||| hy) hI1 gs (Nat.or_lt_two_pow hx60 hy60) (fun t ht => by rw [Nat.testBit_or, Bool.or_eq_true] at ht; exact ht.elim (kx2 t) (ky2 t))) v_M_reason rfl rfl rfl (by decide) rfl (Nat.le_of_ble_eq_true rfl) ?_
    rintro rr w2 mo
    obtain ⟨v, rfl, hg⟩ := c_M_tail_2 (τ := τ) (sR3 Ty Tm Th (nI x0) (nI y0)) 3 x0 y0 (by decide) (by decide) (by decide) (by decide) hx0 hy0 b1 b2 gs (cd c_0 c_2) hF mo
    show pG m_M_rule τ _ 0 0 122 _ (.int _ :: _) _
    refine g_goto (pc := 122) (tgt := 132) d_M_rule_122 (by decide) ?_
    refine g_pick [0, 1, 2, 3, 4, 5, 6] [(6, _), (5, _), (4, _), (0, _), (1, _), (2, _), (3, _)] rfl ?_
    exact hg
  · refine g_iconst (pc := 20) (v := -1) d_M_rule_20 (by decide) ?_
    refine g_iret (pc := 21) d_M_rule_21 rfl (Nat.le_refl _) (Nat.le_refl _) ?_
    have e : sR3 Ty Tm Th x y = (-1, Ty, Tm, Th) := by
      rw [sR3, h17]
      rfl
    exact ⟨i, r, L, z, d, by rw [e], rfl, by rw [e]; exact hI, by rw [e]; exact gs⟩
set_option maxRecDepth 100000 in
set_option maxHeartbeats 4000000 in
theorem c_M_rule_4 {τ : Nat × Nat} {a : Nat → Nat} {i : Nat → Int32} {r : Nat → Nat → Int32} {L : Nat → Nat → Int64} {z : Int64} {wr : pW} {Ty : List (Nat × Nat)} {Tm : List (List Nat)} {Th : List Thm} {d : List Nat} (x y : Int32) (hI : MI Ty Tm Th (dcl Tm) d i r L) (gs : GS Ty Tm Th) : pC m_M_rule τ [.ref (a 0), .int (nI 4), .int x, .int y] (wM a i r L z ++ wr) ((fun rr w2 => ∃ i2 r2 L2 z2 d2, rr = some (.int ((sR4 Ty Tm Th x y).1)) ∧ w2 = wM a i2 r2 L2 z2 ++ wr ∧ MI ((sR4 Ty Tm Th x y).2.1) ((sR4 Ty Tm Th x y).2.2.1) ((sR4 Ty Tm Th x y).2.2.2) (dcl ((sR4 Ty Tm Th x y).2.2.1)) d2 i2 r2 L2 ∧ GS ((sR4 Ty Tm Th x y).2.1) ((sR4 Ty Tm Th x y).2.2.1) ((sR4 Ty Tm Th x y).2.2.2))) := by
  refine pC.of rfl (Nat.le_of_ble_eq_true rfl) ?_
  show pG m_M_rule τ _ 0 0 0 [(0, _), (1, _), (2, _), (3, _)] [] _
  obtain ⟨b1, b2, b3, b4, b5, b6, b7⟩ := hI.b
  refine g_iload_n (pc := 0) d_M_rule_0 rfl ?_
  refine g_nif_lt (pc := 1) (tgt := 20) d_M_rule_1 (by decide) (by omega) ?_
  refine g_iload_n (pc := 4) d_M_rule_4 rfl ?_
  refine g_bipush (pc := 5) (v := nI 13) d_M_rule_5 (by decide) ?_
  refine g_nicmp_gt (pc := 7) (tgt := 20) d_M_rule_7 (by decide) (by omega) (by omega) (fun h => absurd h (by decide)) (fun h7 => ?_)
  refine g_aload_n (pc := 10) d_M_rule_10 rfl ?_
  refine g_iload_n (pc := 11) d_M_rule_11 rfl ?_
  refine g_iload_n (pc := 12) d_M_rule_12 rfl ?_
  refine g_iload_n (pc := 13) d_M_rule_13 rfl ?_
  refine g_callV (M' := m_M_there) (pc := 14) (q := 0) d_M_rule_14 lm_M_148 (c_M_there_4 Tm Th b5 b6 b2 b3 x y) v_M_there rfl rfl rfl (by decide) rfl (Nat.le_of_ble_eq_true rfl) ?_
  rintro _ _ ⟨rfl, rfl⟩
  show pG m_M_rule τ _ 0 0 17 _ (.int _ :: _) _
  refine g_ifb_ne (pc := 17) (tgt := 22) d_M_rule_17 (by decide) (fun h17 => ?_) (fun h17 => ?_)
  · obtain ⟨h22, h35⟩ := (Bool.and_eq_true _ _).mp h17
    obtain ⟨x0, hx0, rfl⟩ := ixB_of h22 (by omega)
    obtain ⟨⟨ux, vx, zx, hx, cx⟩, tx⟩ := get_of hx0
    obtain ⟨⟨A, hA0_, -⟩, kx2⟩ := gs.2 _ _ _ _ _ _ tx
    obtain ⟨hx4, hxL, hx7⟩ := hI.th tx
    have hx60 : hx < 2 ^ 60 := bits60 (fun t ht => by have := kx2 t ht; omega)
    have exc : (nI x0).toNatClampNeg = x0 := nI_clamp (by omega)
    have ext : thG Th (nI x0) = (ux, vx, zx, hx, cx) := by rw [thG, exc, List.getD_eq_getElem?_getD, tx]; rfl
    have eA : rcT Tm Th (nI x0) = A := by rw [rcT, ext]; exact getD_at hA0_
    obtain ⟨y0, hy0, rfl⟩ := ixB_of h35 (by omega)
    obtain ⟨B, hB0_⟩ := get_of hy0
    have eB := rwT_at hB0_ b2
    have eyc : (nI y0).toNatClampNeg = y0 := nI_clamp (by omega)
    have eS : sR4 Ty Tm Th (nI x0) (nI y0) = sRb4 Ty Tm Th x0 y0 hx 0 A B := by rw [sR4, h22, h35, exc, eyc, ext, eA, eB]; rfl
    have hF : sR4 Ty Tm Th (nI x0) (nI y0) = if (if tgR B = 0 then (if sBnd Tm hx (hdt B) = true then -3 else 0) else -2 : Int32) = 0 then (if Th.length = 40 then (-4, Ty, Tm, Th) else sFin Ty Tm Th 4 x0 y0 (hx) (Ty) (Tm) (sBd 4 0 (hdt B) A)) else (if tgR B = 0 then (if sBnd Tm hx (hdt B) = true then -3 else 0) else -2, Ty, Tm, Th) := by
      rw [eS]
      by_cases q0 : tgR B = 0 <;> by_cases q1 : sBnd Tm hx (hdt B) = true <;> simp [sRb4, q0, q1, n_2, n_3, n_4]
    refine g_iload_n (pc := 22) d_M_rule_22 rfl ?_
    refine g_callS (M' := m_M_named) (pc := 23) d_M_rule_23 lm_M_125 c_M_named_4 v_M_named rfl (by decide) rfl (Nat.le_of_ble_eq_true rfl) ?_
    rintro _ _ ⟨rfl, rfl⟩
    show pG m_M_rule τ _ 0 0 26 _ (.int _ :: _) _
    refine g_istore (pc := 26) [(4, _), (0, _), (1, _), (2, _), (3, _)] d_M_rule_26 (by decide) rfl ?_
    refine g_aload_n (pc := 28) d_M_rule_28 rfl ?_
    refine gm_terms (pc := 29) d_M_rule_29 lf_M_78 ?_
    rw [b5]
    refine g_istore (pc := 32) [(5, _), (4, _), (0, _), (1, _), (2, _), (3, _)] d_M_rule_32 (by decide) rfl ?_
    refine g_aload_n (pc := 34) d_M_rule_34 rfl ?_
    refine gm_types (pc := 35) d_M_rule_35 lf_M_22 ?_
    rw [b4]
    refine g_istore (pc := 38) [(6, _), (5, _), (4, _), (0, _), (1, _), (2, _), (3, _)] d_M_rule_38 (by decide) rfl ?_
    refine g_aload_n (pc := 40) d_M_rule_40 rfl ?_
    refine g_iload (pc := 41) d_M_rule_41 rfl ?_
    refine g_nif_le (pc := 43) (tgt := 55) d_M_rule_43 (by decide) (by omega) (fun h => absurd h (by decide)) (fun h43 => ?_)
    refine g_aload_n (pc := 46) d_M_rule_46 rfl ?_
    refine gm_hypotheses (pc := 47) d_M_rule_47 lf_M_35 ?_
    refine g_iload_n (pc := 50) d_M_rule_50 rfl ?_
    refine glm_hypotheses (pc := 51) (v := lN hx) d_M_rule_51 (vp_in_nI (by omega) (by decide)) (by rw [nI_clamp (by omega)]; exact hxL) ?_
    refine g_goto (pc := 52) (tgt := 56) d_M_rule_52 (by decide) ?_
    refine g_iload (pc := 56) d_M_rule_56 rfl ?_
    refine g_iconst (pc := 58) (v := nI 1) d_M_rule_58 (by decide) ?_
    refine g_nicmp_le (pc := 59) (tgt := 71) d_M_rule_59 (by decide) (by omega) (by omega) (fun h59 => ?_) (fun h => absurd h (by decide))
    refine g_lconst (pc := 71) (v := lN 0) d_M_rule_71 (by decide) ?_
    refine g_lor (pc := 72) d_M_rule_72 ?_
    refine g_topl (lN hx) (by rw [wb_or (by omega) (by decide), Nat.or_zero]) ?_
    refine gm_set_p (pc := 73) d_M_rule_73 lf_M_118 ?_
    refine g_aload_n (pc := 76) d_M_rule_76 rfl ?_
    refine g_iconst (pc := 77) (v := nI 0) d_M_rule_77 (by decide) ?_
    refine gm_made_p (pc := 78) d_M_rule_78 lf_M_65 ?_
    have hI1 := hI.cl
    refine g_iload_n (pc := 81) d_M_rule_81 rfl ?_
    refine g_bipush (pc := 82) (v := nI 13) d_M_rule_82 (by decide) ?_
    refine g_nicmp_ne (pc := 84) (tgt := 103) d_M_rule_84 (by decide) (by omega) (by omega) (fun h84 => ?_) (fun h => absurd h (by decide))
    refine g_iload_n (pc := 103) d_M_rule_103 rfl ?_
    refine g_bipush (pc := 104) (v := nI 6) d_M_rule_104 (by decide) ?_
    refine g_nicmp_lt (pc := 106) (tgt := 115) d_M_rule_106 (by decide) (by omega) (by omega) (fun h106 => ?_) (fun h => absurd h (by decide))
    refine g_aload_n (pc := 115) d_M_rule_115 rfl ?_
    refine g_iload_n (pc := 116) d_M_rule_116 rfl ?_
    refine g_iload_n (pc := 117) d_M_rule_117 rfl ?_
    refine g_iload_n (pc := 118) d_M_rule_118 rfl ?_
    refine g_callV (M' := m_M_reason) (pc := 119) (q := 0) d_M_rule_119 lm_M_155 (c_M_reason_4 x0 ux vx zx hx cx A tx hA0_ y0 B hB0_ hx hI1 gs hx60 kx2) v_M_reason rfl rfl rfl (by decide) rfl (Nat.le_of_ble_eq_true rfl) ?_
    rintro rr w2 mo
    obtain ⟨v, rfl, hg⟩ := c_M_tail_1 (τ := τ) (sR4 Ty Tm Th (nI x0) (nI y0)) 4 x0 y0 (by decide) (nI y0) (by decide) (by decide) (by decide) hx0 b1 b2 gs (cd (cd c_3 c_0) c_2) hF mo
    show pG m_M_rule τ _ 0 0 122 _ (.int _ :: _) _
    refine g_goto (pc := 122) (tgt := 132) d_M_rule_122 (by decide) ?_
    refine g_pick [0, 1, 2, 3, 4, 5, 6] [(6, _), (5, _), (4, _), (0, _), (1, _), (2, _), (3, _)] rfl ?_
    exact hg
  · refine g_iconst (pc := 20) (v := -1) d_M_rule_20 (by decide) ?_
    refine g_iret (pc := 21) d_M_rule_21 rfl (Nat.le_refl _) (Nat.le_refl _) ?_
    have e : sR4 Ty Tm Th x y = (-1, Ty, Tm, Th) := by
      rw [sR4, h17]
      rfl
    exact ⟨i, r, L, z, d, by rw [e], rfl, by rw [e]; exact hI, by rw [e]; exact gs⟩
set_option maxRecDepth 100000 in
set_option maxHeartbeats 4000000 in
theorem c_M_rule_5 {τ : Nat × Nat} {a : Nat → Nat} {i : Nat → Int32} {r : Nat → Nat → Int32} {L : Nat → Nat → Int64} {z : Int64} {wr : pW} {Ty : List (Nat × Nat)} {Tm : List (List Nat)} {Th : List Thm} {d : List Nat} (x y : Int32) (hI : MI Ty Tm Th (dcl Tm) d i r L) (gs : GS Ty Tm Th) : pC m_M_rule τ [.ref (a 0), .int (nI 5), .int x, .int y] (wM a i r L z ++ wr) ((fun rr w2 => ∃ i2 r2 L2 z2 d2, rr = some (.int ((sR5 Ty Tm Th x y).1)) ∧ w2 = wM a i2 r2 L2 z2 ++ wr ∧ MI ((sR5 Ty Tm Th x y).2.1) ((sR5 Ty Tm Th x y).2.2.1) ((sR5 Ty Tm Th x y).2.2.2) (dcl ((sR5 Ty Tm Th x y).2.2.1)) d2 i2 r2 L2 ∧ GS ((sR5 Ty Tm Th x y).2.1) ((sR5 Ty Tm Th x y).2.2.1) ((sR5 Ty Tm Th x y).2.2.2))) := by
  refine pC.of rfl (Nat.le_of_ble_eq_true rfl) ?_
  show pG m_M_rule τ _ 0 0 0 [(0, _), (1, _), (2, _), (3, _)] [] _
  obtain ⟨b1, b2, b3, b4, b5, b6, b7⟩ := hI.b
  refine g_iload_n (pc := 0) d_M_rule_0 rfl ?_
  refine g_nif_lt (pc := 1) (tgt := 20) d_M_rule_1 (by decide) (by omega) ?_
  refine g_iload_n (pc := 4) d_M_rule_4 rfl ?_
  refine g_bipush (pc := 5) (v := nI 13) d_M_rule_5 (by decide) ?_
  refine g_nicmp_gt (pc := 7) (tgt := 20) d_M_rule_7 (by decide) (by omega) (by omega) (fun h => absurd h (by decide)) (fun h7 => ?_)
  refine g_aload_n (pc := 10) d_M_rule_10 rfl ?_
  refine g_iload_n (pc := 11) d_M_rule_11 rfl ?_
  refine g_iload_n (pc := 12) d_M_rule_12 rfl ?_
  refine g_iload_n (pc := 13) d_M_rule_13 rfl ?_
  refine g_callV (M' := m_M_there) (pc := 14) (q := 0) d_M_rule_14 lm_M_148 (c_M_there_5 Tm Th b5 b6 b2 b3 x y) v_M_there rfl rfl rfl (by decide) rfl (Nat.le_of_ble_eq_true rfl) ?_
  rintro _ _ ⟨rfl, rfl⟩
  show pG m_M_rule τ _ 0 0 17 _ (.int _ :: _) _
  refine g_ifb_ne (pc := 17) (tgt := 22) d_M_rule_17 (by decide) (fun h17 => ?_) (fun h17 => ?_)
  · obtain ⟨h22, h35⟩ := (Bool.and_eq_true _ _).mp h17
    obtain ⟨x0, hx0, rfl⟩ := ixB_of h22 (by omega)
    obtain ⟨⟨ux, vx, zx, hx, cx⟩, tx⟩ := get_of hx0
    obtain ⟨⟨A, hA0_, -⟩, kx2⟩ := gs.2 _ _ _ _ _ _ tx
    obtain ⟨hx4, hxL, hx7⟩ := hI.th tx
    have hx60 : hx < 2 ^ 60 := bits60 (fun t ht => by have := kx2 t ht; omega)
    have exc : (nI x0).toNatClampNeg = x0 := nI_clamp (by omega)
    have ext : thG Th (nI x0) = (ux, vx, zx, hx, cx) := by rw [thG, exc, List.getD_eq_getElem?_getD, tx]; rfl
    have eA : rcT Tm Th (nI x0) = A := by rw [rcT, ext]; exact getD_at hA0_
    obtain ⟨y0, hy0, rfl⟩ := ixB_of h35 (by omega)
    obtain ⟨B, hB0_⟩ := get_of hy0
    have eB := rwT_at hB0_ b2
    have eyc : (nI y0).toNatClampNeg = y0 := nI_clamp (by omega)
    have eS : sR5 Ty Tm Th (nI x0) (nI y0) = sRb5 Ty Tm Th x0 y0 hx 0 A B := by rw [sR5, h22, h35, exc, eyc, ext, eA, eB]; rfl
    have hF : sR5 Ty Tm Th (nI x0) (nI y0) = if (if tgR A = 4 ∧ inR A = tyR B then 0 else -2 : Int32) = 0 then (if Th.length = 40 then (-4, Ty, Tm, Th) else sFin Ty Tm Th 5 x0 y0 (hx) (Ty) (Tm) (fil B [0] (p1 A))) else (if tgR A = 4 ∧ inR A = tyR B then 0 else -2, Ty, Tm, Th) := by
      rw [eS]
      by_cases q0 : tgR A = 4 ∧ inR A = tyR B <;> simp [sRb5, q0, n_2, n_3, n_4]
    refine g_iload_n (pc := 22) d_M_rule_22 rfl ?_
    refine g_callS (M' := m_M_named) (pc := 23) d_M_rule_23 lm_M_125 c_M_named_5 v_M_named rfl (by decide) rfl (Nat.le_of_ble_eq_true rfl) ?_
    rintro _ _ ⟨rfl, rfl⟩
    show pG m_M_rule τ _ 0 0 26 _ (.int _ :: _) _
    refine g_istore (pc := 26) [(4, _), (0, _), (1, _), (2, _), (3, _)] d_M_rule_26 (by decide) rfl ?_
    refine g_aload_n (pc := 28) d_M_rule_28 rfl ?_
    refine gm_terms (pc := 29) d_M_rule_29 lf_M_78 ?_
    rw [b5]
    refine g_istore (pc := 32) [(5, _), (4, _), (0, _), (1, _), (2, _), (3, _)] d_M_rule_32 (by decide) rfl ?_
    refine g_aload_n (pc := 34) d_M_rule_34 rfl ?_
    refine gm_types (pc := 35) d_M_rule_35 lf_M_22 ?_
    rw [b4]
    refine g_istore (pc := 38) [(6, _), (5, _), (4, _), (0, _), (1, _), (2, _), (3, _)] d_M_rule_38 (by decide) rfl ?_
    refine g_aload_n (pc := 40) d_M_rule_40 rfl ?_
    refine g_iload (pc := 41) d_M_rule_41 rfl ?_
    refine g_nif_le (pc := 43) (tgt := 55) d_M_rule_43 (by decide) (by omega) (fun h => absurd h (by decide)) (fun h43 => ?_)
    refine g_aload_n (pc := 46) d_M_rule_46 rfl ?_
    refine gm_hypotheses (pc := 47) d_M_rule_47 lf_M_35 ?_
    refine g_iload_n (pc := 50) d_M_rule_50 rfl ?_
    refine glm_hypotheses (pc := 51) (v := lN hx) d_M_rule_51 (vp_in_nI (by omega) (by decide)) (by rw [nI_clamp (by omega)]; exact hxL) ?_
    refine g_goto (pc := 52) (tgt := 56) d_M_rule_52 (by decide) ?_
    refine g_iload (pc := 56) d_M_rule_56 rfl ?_
    refine g_iconst (pc := 58) (v := nI 1) d_M_rule_58 (by decide) ?_
    refine g_nicmp_le (pc := 59) (tgt := 71) d_M_rule_59 (by decide) (by omega) (by omega) (fun h59 => ?_) (fun h => absurd h (by decide))
    refine g_lconst (pc := 71) (v := lN 0) d_M_rule_71 (by decide) ?_
    refine g_lor (pc := 72) d_M_rule_72 ?_
    refine g_topl (lN hx) (by rw [wb_or (by omega) (by decide), Nat.or_zero]) ?_
    refine gm_set_p (pc := 73) d_M_rule_73 lf_M_118 ?_
    refine g_aload_n (pc := 76) d_M_rule_76 rfl ?_
    refine g_iconst (pc := 77) (v := nI 0) d_M_rule_77 (by decide) ?_
    refine gm_made_p (pc := 78) d_M_rule_78 lf_M_65 ?_
    have hI1 := hI.cl
    refine g_iload_n (pc := 81) d_M_rule_81 rfl ?_
    refine g_bipush (pc := 82) (v := nI 13) d_M_rule_82 (by decide) ?_
    refine g_nicmp_ne (pc := 84) (tgt := 103) d_M_rule_84 (by decide) (by omega) (by omega) (fun h84 => ?_) (fun h => absurd h (by decide))
    refine g_iload_n (pc := 103) d_M_rule_103 rfl ?_
    refine g_bipush (pc := 104) (v := nI 6) d_M_rule_104 (by decide) ?_
    refine g_nicmp_lt (pc := 106) (tgt := 115) d_M_rule_106 (by decide) (by omega) (by omega) (fun h106 => ?_) (fun h => absurd h (by decide))
    refine g_aload_n (pc := 115) d_M_rule_115 rfl ?_
    refine g_iload_n (pc := 116) d_M_rule_116 rfl ?_
    refine g_iload_n (pc := 117) d_M_rule_117 rfl ?_
    refine g_iload_n (pc := 118) d_M_rule_118 rfl ?_
    refine g_callV (M' := m_M_reason) (pc := 119) (q := 0) d_M_rule_119 lm_M_155 (c_M_reason_5 x0 ux vx zx hx cx A tx hA0_ y0 B hB0_ hx hI1 gs hx60 kx2) v_M_reason rfl rfl rfl (by decide) rfl (Nat.le_of_ble_eq_true rfl) ?_
    rintro rr w2 mo
    obtain ⟨v, rfl, hg⟩ := c_M_tail_1 (τ := τ) (sR5 Ty Tm Th (nI x0) (nI y0)) 5 x0 y0 (by decide) (nI y0) (by decide) (by decide) (by decide) hx0 b1 b2 gs (cd c_0 c_2) hF mo
    show pG m_M_rule τ _ 0 0 122 _ (.int _ :: _) _
    refine g_goto (pc := 122) (tgt := 132) d_M_rule_122 (by decide) ?_
    refine g_pick [0, 1, 2, 3, 4, 5, 6] [(6, _), (5, _), (4, _), (0, _), (1, _), (2, _), (3, _)] rfl ?_
    exact hg
  · refine g_iconst (pc := 20) (v := -1) d_M_rule_20 (by decide) ?_
    refine g_iret (pc := 21) d_M_rule_21 rfl (Nat.le_refl _) (Nat.le_refl _) ?_
    have e : sR5 Ty Tm Th x y = (-1, Ty, Tm, Th) := by
      rw [sR5, h17]
      rfl
    exact ⟨i, r, L, z, d, by rw [e], rfl, by rw [e]; exact hI, by rw [e]; exact gs⟩
set_option maxRecDepth 100000 in
set_option maxHeartbeats 4000000 in
theorem c_M_rule_6 {τ : Nat × Nat} {a : Nat → Nat} {i : Nat → Int32} {r : Nat → Nat → Int32} {L : Nat → Nat → Int64} {z : Int64} {wr : pW} {Ty : List (Nat × Nat)} {Tm : List (List Nat)} {Th : List Thm} {d : List Nat} (x y : Int32) (hI : MI Ty Tm Th (dcl Tm) d i r L) (gs : GS Ty Tm Th) : pC m_M_rule τ [.ref (a 0), .int (nI 6), .int x, .int y] (wM a i r L z ++ wr) ((fun rr w2 => ∃ i2 r2 L2 z2 d2, rr = some (.int ((sR6 Ty Tm Th x y).1)) ∧ w2 = wM a i2 r2 L2 z2 ++ wr ∧ MI ((sR6 Ty Tm Th x y).2.1) ((sR6 Ty Tm Th x y).2.2.1) ((sR6 Ty Tm Th x y).2.2.2) (dcl ((sR6 Ty Tm Th x y).2.2.1)) d2 i2 r2 L2 ∧ GS ((sR6 Ty Tm Th x y).2.1) ((sR6 Ty Tm Th x y).2.2.1) ((sR6 Ty Tm Th x y).2.2.2))) := by
  refine pC.of rfl (Nat.le_of_ble_eq_true rfl) ?_
  show pG m_M_rule τ _ 0 0 0 [(0, _), (1, _), (2, _), (3, _)] [] _
  obtain ⟨b1, b2, b3, b4, b5, b6, b7⟩ := hI.b
  refine g_iload_n (pc := 0) d_M_rule_0 rfl ?_
  refine g_nif_lt (pc := 1) (tgt := 20) d_M_rule_1 (by decide) (by omega) ?_
  refine g_iload_n (pc := 4) d_M_rule_4 rfl ?_
  refine g_bipush (pc := 5) (v := nI 13) d_M_rule_5 (by decide) ?_
  refine g_nicmp_gt (pc := 7) (tgt := 20) d_M_rule_7 (by decide) (by omega) (by omega) (fun h => absurd h (by decide)) (fun h7 => ?_)
  refine g_aload_n (pc := 10) d_M_rule_10 rfl ?_
  refine g_iload_n (pc := 11) d_M_rule_11 rfl ?_
  refine g_iload_n (pc := 12) d_M_rule_12 rfl ?_
  refine g_iload_n (pc := 13) d_M_rule_13 rfl ?_
  refine g_callV (M' := m_M_there) (pc := 14) (q := 0) d_M_rule_14 lm_M_148 (c_M_there_6 Tm Th b5 b6 b2 b3 x y) v_M_there rfl rfl rfl (by decide) rfl (Nat.le_of_ble_eq_true rfl) ?_
  rintro _ _ ⟨rfl, rfl⟩
  show pG m_M_rule τ _ 0 0 17 _ (.int _ :: _) _
  refine g_ifb_ne (pc := 17) (tgt := 22) d_M_rule_17 (by decide) (fun h17 => ?_) (fun h17 => ?_)
  · obtain ⟨h22, h35⟩ := (Bool.and_eq_true _ _).mp h17
    obtain ⟨x0, hx0, rfl⟩ := ixB_of h22 (by omega)
    obtain ⟨A, hA0_⟩ := get_of hx0
    have eA := rwT_at hA0_ b2
    have exc : (nI x0).toNatClampNeg = x0 := nI_clamp (by omega)
    have eS : sR6 Ty Tm Th (nI x0) y = sRb6 Ty Tm Th x0 y.toNatClampNeg 0 0 A [] := by rw [sR6, h22, exc, eA]; rfl
    have hF : sR6 Ty Tm Th (nI x0) y = if (0 : Int32) = 0 then (if Th.length = 40 then (-4, Ty, Tm, Th) else sFin Ty Tm Th 6 x0 y.toNatClampNeg (0) (Ty) (Tm) (sJn 7 A A)) else (0, Ty, Tm, Th) := by
      rw [eS, sRb6, if_pos trivial, if_pos rfl]
    refine g_iload_n (pc := 22) d_M_rule_22 rfl ?_
    refine g_callS (M' := m_M_named) (pc := 23) d_M_rule_23 lm_M_125 c_M_named_6 v_M_named rfl (by decide) rfl (Nat.le_of_ble_eq_true rfl) ?_
    rintro _ _ ⟨rfl, rfl⟩
    show pG m_M_rule τ _ 0 0 26 _ (.int _ :: _) _
    refine g_istore (pc := 26) [(4, _), (0, _), (1, _), (2, _), (3, _)] d_M_rule_26 (by decide) rfl ?_
    refine g_aload_n (pc := 28) d_M_rule_28 rfl ?_
    refine gm_terms (pc := 29) d_M_rule_29 lf_M_78 ?_
    rw [b5]
    refine g_istore (pc := 32) [(5, _), (4, _), (0, _), (1, _), (2, _), (3, _)] d_M_rule_32 (by decide) rfl ?_
    refine g_aload_n (pc := 34) d_M_rule_34 rfl ?_
    refine gm_types (pc := 35) d_M_rule_35 lf_M_22 ?_
    rw [b4]
    refine g_istore (pc := 38) [(6, _), (5, _), (4, _), (0, _), (1, _), (2, _), (3, _)] d_M_rule_38 (by decide) rfl ?_
    refine g_aload_n (pc := 40) d_M_rule_40 rfl ?_
    refine g_iload (pc := 41) d_M_rule_41 rfl ?_
    refine g_nif_le (pc := 43) (tgt := 55) d_M_rule_43 (by decide) (by omega) (fun h43 => ?_) (fun h => absurd h (by decide))
    refine g_lconst (pc := 55) (v := lN 0) d_M_rule_55 (by decide) ?_
    refine g_iload (pc := 56) d_M_rule_56 rfl ?_
    refine g_iconst (pc := 58) (v := nI 1) d_M_rule_58 (by decide) ?_
    refine g_nicmp_le (pc := 59) (tgt := 71) d_M_rule_59 (by decide) (by omega) (by omega) (fun h59 => ?_) (fun h => absurd h (by decide))
    refine g_lconst (pc := 71) (v := lN 0) d_M_rule_71 (by decide) ?_
    refine g_lor (pc := 72) d_M_rule_72 ?_
    refine g_topl (lN 0) (by decide) ?_
    refine gm_set_p (pc := 73) d_M_rule_73 lf_M_118 ?_
    refine g_aload_n (pc := 76) d_M_rule_76 rfl ?_
    refine g_iconst (pc := 77) (v := nI 0) d_M_rule_77 (by decide) ?_
    refine gm_made_p (pc := 78) d_M_rule_78 lf_M_65 ?_
    have hI1 := hI.cl
    refine g_iload_n (pc := 81) d_M_rule_81 rfl ?_
    refine g_bipush (pc := 82) (v := nI 13) d_M_rule_82 (by decide) ?_
    refine g_nicmp_ne (pc := 84) (tgt := 103) d_M_rule_84 (by decide) (by omega) (by omega) (fun h84 => ?_) (fun h => absurd h (by decide))
    refine g_iload_n (pc := 103) d_M_rule_103 rfl ?_
    refine g_bipush (pc := 104) (v := nI 6) d_M_rule_104 (by decide) ?_
    refine g_nicmp_lt (pc := 106) (tgt := 115) d_M_rule_106 (by decide) (by omega) (by omega) (fun h => absurd h (by decide)) (fun h106 => ?_)
    refine g_iload_n (pc := 109) d_M_rule_109 rfl ?_
    refine g_bipush (pc := 110) (v := nI 12) d_M_rule_110 (by decide) ?_
    refine g_nicmp_ne (pc := 112) (tgt := 125) d_M_rule_112 (by decide) (by omega) (by omega) (fun h112 => ?_) (fun h => absurd h (by decide))
    refine g_aload_n (pc := 125) d_M_rule_125 rfl ?_
    refine g_iload_n (pc := 126) d_M_rule_126 rfl ?_
    refine g_iload_n (pc := 127) d_M_rule_127 rfl ?_
    refine g_iload_n (pc := 128) d_M_rule_128 rfl ?_
    refine g_callV (M' := m_M_equate) (pc := 129) (q := 0) d_M_rule_129 lm_M_158 (c_M_equate_6 x0 A hA0_ y 0 hI1 gs (by decide) (fun t ht => by simp at ht)) v_M_equate rfl rfl rfl (by decide) rfl (Nat.le_of_ble_eq_true rfl) ?_
    rintro rr w2 mo
    obtain ⟨v, rfl, hg⟩ := c_M_tail_0 (τ := τ) (sR6 Ty Tm Th (nI x0) y) 6 x0 y.toNatClampNeg (by decide) (nI x0) y (by decide) (by decide) b1 b2 gs (c_0) hF mo
    show pG m_M_rule τ _ 0 0 132 _ (.int _ :: _) _
    refine g_pick [0, 1, 2, 3, 4, 5, 6] [(6, _), (5, _), (4, _), (0, _), (1, _), (2, _), (3, _)] rfl ?_
    exact hg
  · refine g_iconst (pc := 20) (v := -1) d_M_rule_20 (by decide) ?_
    refine g_iret (pc := 21) d_M_rule_21 rfl (Nat.le_refl _) (Nat.le_refl _) ?_
    have e : sR6 Ty Tm Th x y = (-1, Ty, Tm, Th) := by
      rw [sR6, h17]
      rfl
    exact ⟨i, r, L, z, d, by rw [e], rfl, by rw [e]; exact hI, by rw [e]; exact gs⟩
set_option maxRecDepth 100000 in
set_option maxHeartbeats 4000000 in
theorem c_M_rule_7 {τ : Nat × Nat} {a : Nat → Nat} {i : Nat → Int32} {r : Nat → Nat → Int32} {L : Nat → Nat → Int64} {z : Int64} {wr : pW} {Ty : List (Nat × Nat)} {Tm : List (List Nat)} {Th : List Thm} {d : List Nat} (x y : Int32) (hI : MI Ty Tm Th (dcl Tm) d i r L) (gs : GS Ty Tm Th) : pC m_M_rule τ [.ref (a 0), .int (nI 7), .int x, .int y] (wM a i r L z ++ wr) ((fun rr w2 => ∃ i2 r2 L2 z2 d2, rr = some (.int ((sR7 Ty Tm Th x y).1)) ∧ w2 = wM a i2 r2 L2 z2 ++ wr ∧ MI ((sR7 Ty Tm Th x y).2.1) ((sR7 Ty Tm Th x y).2.2.1) ((sR7 Ty Tm Th x y).2.2.2) (dcl ((sR7 Ty Tm Th x y).2.2.1)) d2 i2 r2 L2 ∧ GS ((sR7 Ty Tm Th x y).2.1) ((sR7 Ty Tm Th x y).2.2.1) ((sR7 Ty Tm Th x y).2.2.2))) := by
  refine pC.of rfl (Nat.le_of_ble_eq_true rfl) ?_
  show pG m_M_rule τ _ 0 0 0 [(0, _), (1, _), (2, _), (3, _)] [] _
  obtain ⟨b1, b2, b3, b4, b5, b6, b7⟩ := hI.b
  refine g_iload_n (pc := 0) d_M_rule_0 rfl ?_
  refine g_nif_lt (pc := 1) (tgt := 20) d_M_rule_1 (by decide) (by omega) ?_
  refine g_iload_n (pc := 4) d_M_rule_4 rfl ?_
  refine g_bipush (pc := 5) (v := nI 13) d_M_rule_5 (by decide) ?_
  refine g_nicmp_gt (pc := 7) (tgt := 20) d_M_rule_7 (by decide) (by omega) (by omega) (fun h => absurd h (by decide)) (fun h7 => ?_)
  refine g_aload_n (pc := 10) d_M_rule_10 rfl ?_
  refine g_iload_n (pc := 11) d_M_rule_11 rfl ?_
  refine g_iload_n (pc := 12) d_M_rule_12 rfl ?_
  refine g_iload_n (pc := 13) d_M_rule_13 rfl ?_
  refine g_callV (M' := m_M_there) (pc := 14) (q := 0) d_M_rule_14 lm_M_148 (c_M_there_7 Tm Th b5 b6 b2 b3 x y) v_M_there rfl rfl rfl (by decide) rfl (Nat.le_of_ble_eq_true rfl) ?_
  rintro _ _ ⟨rfl, rfl⟩
  show pG m_M_rule τ _ 0 0 17 _ (.int _ :: _) _
  refine g_ifb_ne (pc := 17) (tgt := 22) d_M_rule_17 (by decide) (fun h17 => ?_) (fun h17 => ?_)
  · obtain ⟨h22, h35⟩ := (Bool.and_eq_true _ _).mp h17
    obtain ⟨x0, hx0, rfl⟩ := ixB_of h22 (by omega)
    obtain ⟨⟨ux, vx, zx, hx, cx⟩, tx⟩ := get_of hx0
    obtain ⟨⟨A, hA0_, -⟩, kx2⟩ := gs.2 _ _ _ _ _ _ tx
    obtain ⟨hx4, hxL, hx7⟩ := hI.th tx
    have hx60 : hx < 2 ^ 60 := bits60 (fun t ht => by have := kx2 t ht; omega)
    have exc : (nI x0).toNatClampNeg = x0 := nI_clamp (by omega)
    have ext : thG Th (nI x0) = (ux, vx, zx, hx, cx) := by rw [thG, exc, List.getD_eq_getElem?_getD, tx]; rfl
    have eA : rcT Tm Th (nI x0) = A := by rw [rcT, ext]; exact getD_at hA0_
    have eS : sR7 Ty Tm Th (nI x0) y = sRb7 Ty Tm Th x0 y.toNatClampNeg hx 0 A [] := by rw [sR7, h22, exc, ext, eA]; rfl
    have hF : sR7 Ty Tm Th (nI x0) y = if (if tgR A = 7 then 0 else -2 : Int32) = 0 then (if Th.length = 40 then (-4, Ty, Tm, Th) else sFin Ty Tm Th 7 x0 y.toNatClampNeg (hx) (Ty) (Tm) (sJn 7 (p2 A) (p1 A))) else (if tgR A = 7 then 0 else -2, Ty, Tm, Th) := by
      rw [eS]
      by_cases q0 : tgR A = 7 <;> simp [sRb7, q0, n_2, n_3, n_4]
    refine g_iload_n (pc := 22) d_M_rule_22 rfl ?_
    refine g_callS (M' := m_M_named) (pc := 23) d_M_rule_23 lm_M_125 c_M_named_7 v_M_named rfl (by decide) rfl (Nat.le_of_ble_eq_true rfl) ?_
    rintro _ _ ⟨rfl, rfl⟩
    show pG m_M_rule τ _ 0 0 26 _ (.int _ :: _) _
    refine g_istore (pc := 26) [(4, _), (0, _), (1, _), (2, _), (3, _)] d_M_rule_26 (by decide) rfl ?_
    refine g_aload_n (pc := 28) d_M_rule_28 rfl ?_
    refine gm_terms (pc := 29) d_M_rule_29 lf_M_78 ?_
    rw [b5]
    refine g_istore (pc := 32) [(5, _), (4, _), (0, _), (1, _), (2, _), (3, _)] d_M_rule_32 (by decide) rfl ?_
    refine g_aload_n (pc := 34) d_M_rule_34 rfl ?_
    refine gm_types (pc := 35) d_M_rule_35 lf_M_22 ?_
    rw [b4]
    refine g_istore (pc := 38) [(6, _), (5, _), (4, _), (0, _), (1, _), (2, _), (3, _)] d_M_rule_38 (by decide) rfl ?_
    refine g_aload_n (pc := 40) d_M_rule_40 rfl ?_
    refine g_iload (pc := 41) d_M_rule_41 rfl ?_
    refine g_nif_le (pc := 43) (tgt := 55) d_M_rule_43 (by decide) (by omega) (fun h => absurd h (by decide)) (fun h43 => ?_)
    refine g_aload_n (pc := 46) d_M_rule_46 rfl ?_
    refine gm_hypotheses (pc := 47) d_M_rule_47 lf_M_35 ?_
    refine g_iload_n (pc := 50) d_M_rule_50 rfl ?_
    refine glm_hypotheses (pc := 51) (v := lN hx) d_M_rule_51 (vp_in_nI (by omega) (by decide)) (by rw [nI_clamp (by omega)]; exact hxL) ?_
    refine g_goto (pc := 52) (tgt := 56) d_M_rule_52 (by decide) ?_
    refine g_iload (pc := 56) d_M_rule_56 rfl ?_
    refine g_iconst (pc := 58) (v := nI 1) d_M_rule_58 (by decide) ?_
    refine g_nicmp_le (pc := 59) (tgt := 71) d_M_rule_59 (by decide) (by omega) (by omega) (fun h59 => ?_) (fun h => absurd h (by decide))
    refine g_lconst (pc := 71) (v := lN 0) d_M_rule_71 (by decide) ?_
    refine g_lor (pc := 72) d_M_rule_72 ?_
    refine g_topl (lN hx) (by rw [wb_or (by omega) (by decide), Nat.or_zero]) ?_
    refine gm_set_p (pc := 73) d_M_rule_73 lf_M_118 ?_
    refine g_aload_n (pc := 76) d_M_rule_76 rfl ?_
    refine g_iconst (pc := 77) (v := nI 0) d_M_rule_77 (by decide) ?_
    refine gm_made_p (pc := 78) d_M_rule_78 lf_M_65 ?_
    have hI1 := hI.cl
    refine g_iload_n (pc := 81) d_M_rule_81 rfl ?_
    refine g_bipush (pc := 82) (v := nI 13) d_M_rule_82 (by decide) ?_
    refine g_nicmp_ne (pc := 84) (tgt := 103) d_M_rule_84 (by decide) (by omega) (by omega) (fun h84 => ?_) (fun h => absurd h (by decide))
    refine g_iload_n (pc := 103) d_M_rule_103 rfl ?_
    refine g_bipush (pc := 104) (v := nI 6) d_M_rule_104 (by decide) ?_
    refine g_nicmp_lt (pc := 106) (tgt := 115) d_M_rule_106 (by decide) (by omega) (by omega) (fun h => absurd h (by decide)) (fun h106 => ?_)
    refine g_iload_n (pc := 109) d_M_rule_109 rfl ?_
    refine g_bipush (pc := 110) (v := nI 12) d_M_rule_110 (by decide) ?_
    refine g_nicmp_ne (pc := 112) (tgt := 125) d_M_rule_112 (by decide) (by omega) (by omega) (fun h112 => ?_) (fun h => absurd h (by decide))
    refine g_aload_n (pc := 125) d_M_rule_125 rfl ?_
    refine g_iload_n (pc := 126) d_M_rule_126 rfl ?_
    refine g_iload_n (pc := 127) d_M_rule_127 rfl ?_
    refine g_iload_n (pc := 128) d_M_rule_128 rfl ?_
    refine g_callV (M' := m_M_equate) (pc := 129) (q := 0) d_M_rule_129 lm_M_158 (c_M_equate_7 x0 ux vx zx hx cx A tx hA0_ y hx hI1 gs hx60 kx2) v_M_equate rfl rfl rfl (by decide) rfl (Nat.le_of_ble_eq_true rfl) ?_
    rintro rr w2 mo
    obtain ⟨v, rfl, hg⟩ := c_M_tail_1 (τ := τ) (sR7 Ty Tm Th (nI x0) y) 7 x0 y.toNatClampNeg (by decide) y (by decide) (by decide) (by decide) hx0 b1 b2 gs (cd c_0 c_2) hF mo
    show pG m_M_rule τ _ 0 0 132 _ (.int _ :: _) _
    refine g_pick [0, 1, 2, 3, 4, 5, 6] [(6, _), (5, _), (4, _), (0, _), (1, _), (2, _), (3, _)] rfl ?_
    exact hg
  · refine g_iconst (pc := 20) (v := -1) d_M_rule_20 (by decide) ?_
    refine g_iret (pc := 21) d_M_rule_21 rfl (Nat.le_refl _) (Nat.le_refl _) ?_
    have e : sR7 Ty Tm Th x y = (-1, Ty, Tm, Th) := by
      rw [sR7, h17]
      rfl
    exact ⟨i, r, L, z, d, by rw [e], rfl, by rw [e]; exact hI, by rw [e]; exact gs⟩
set_option maxRecDepth 100000 in
set_option maxHeartbeats 4000000 in
theorem c_M_rule_8 {τ : Nat × Nat} {a : Nat → Nat} {i : Nat → Int32} {r : Nat → Nat → Int32} {L : Nat → Nat → Int64} {z : Int64} {wr : pW} {Ty : List (Nat × Nat)} {Tm : List (List Nat)} {Th : List Thm} {d : List Nat} (x y : Int32) (hI : MI Ty Tm Th (dcl Tm) d i r L) (gs : GS Ty Tm Th) : pC m_M_rule τ [.ref (a 0), .int (nI 8), .int x, .int y] (wM a i r L z ++ wr) ((fun rr w2 => ∃ i2 r2 L2 z2 d2, rr = some (.int ((sR8 Ty Tm Th x y).1)) ∧ w2 = wM a i2 r2 L2 z2 ++ wr ∧ MI ((sR8 Ty Tm Th x y).2.1) ((sR8 Ty Tm Th x y).2.2.1) ((sR8 Ty Tm Th x y).2.2.2) (dcl ((sR8 Ty Tm Th x y).2.2.1)) d2 i2 r2 L2 ∧ GS ((sR8 Ty Tm Th x y).2.1) ((sR8 Ty Tm Th x y).2.2.1) ((sR8 Ty Tm Th x y).2.2.2))) := by
  refine pC.of rfl (Nat.le_of_ble_eq_true rfl) ?_
  show pG m_M_rule τ _ 0 0 0 [(0, _), (1, _), (2, _), (3, _)] [] _
  obtain ⟨b1, b2, b3, b4, b5, b6, b7⟩ := hI.b
  refine g_iload_n (pc := 0) d_M_rule_0 rfl ?_
  refine g_nif_lt (pc := 1) (tgt := 20) d_M_rule_1 (by decide) (by omega) ?_
  refine g_iload_n (pc := 4) d_M_rule_4 rfl ?_
  refine g_bipush (pc := 5) (v := nI 13) d_M_rule_5 (by decide) ?_
  refine g_nicmp_gt (pc := 7) (tgt := 20) d_M_rule_7 (by decide) (by omega) (by omega) (fun h => absurd h (by decide)) (fun h7 => ?_)
  refine g_aload_n (pc := 10) d_M_rule_10 rfl ?_
  refine g_iload_n (pc := 11) d_M_rule_11 rfl ?_
  refine g_iload_n (pc := 12) d_M_rule_12 rfl ?_
  refine g_iload_n (pc := 13) d_M_rule_13 rfl ?_
  refine g_callV (M' := m_M_there) (pc := 14) (q := 0) d_M_rule_14 lm_M_148 (c_M_there_8 Tm Th b5 b6 b2 b3 x y) v_M_there rfl rfl rfl (by decide) rfl (Nat.le_of_ble_eq_true rfl) ?_
  rintro _ _ ⟨rfl, rfl⟩
  show pG m_M_rule τ _ 0 0 17 _ (.int _ :: _) _
  refine g_ifb_ne (pc := 17) (tgt := 22) d_M_rule_17 (by decide) (fun h17 => ?_) (fun h17 => ?_)
  · obtain ⟨h22, h35⟩ := (Bool.and_eq_true _ _).mp h17
    obtain ⟨x0, hx0, rfl⟩ := ixB_of h22 (by omega)
    obtain ⟨⟨ux, vx, zx, hx, cx⟩, tx⟩ := get_of hx0
    obtain ⟨⟨A, hA0_, -⟩, kx2⟩ := gs.2 _ _ _ _ _ _ tx
    obtain ⟨hx4, hxL, hx7⟩ := hI.th tx
    have hx60 : hx < 2 ^ 60 := bits60 (fun t ht => by have := kx2 t ht; omega)
    have exc : (nI x0).toNatClampNeg = x0 := nI_clamp (by omega)
    have ext : thG Th (nI x0) = (ux, vx, zx, hx, cx) := by rw [thG, exc, List.getD_eq_getElem?_getD, tx]; rfl
    have eA : rcT Tm Th (nI x0) = A := by rw [rcT, ext]; exact getD_at hA0_
    obtain ⟨y0, hy0, rfl⟩ := ixB_of h35 (by omega)
    obtain ⟨⟨uy, vy, zy, hy, cy⟩, ty⟩ := get_of hy0
    obtain ⟨⟨B, hB0_, -⟩, ky2⟩ := gs.2 _ _ _ _ _ _ ty
    obtain ⟨hy4, hyL, hy7⟩ := hI.th ty
    have hy60 : hy < 2 ^ 60 := bits60 (fun t ht => by have := ky2 t ht; omega)
    have eyc : (nI y0).toNatClampNeg = y0 := nI_clamp (by omega)
    have eyt : thG Th (nI y0) = (uy, vy, zy, hy, cy) := by rw [thG, eyc, List.getD_eq_getElem?_getD, ty]; rfl
    have eB : rcT Tm Th (nI y0) = B := by rw [rcT, eyt]; exact getD_at hB0_
    have eS : sR8 Ty Tm Th (nI x0) (nI y0) = sRb8 Ty Tm Th x0 y0 hx hy A B := by rw [sR8, h22, h35, exc, eyc, ext, eyt, eA, eB]; rfl
    have hF : sR8 Ty Tm Th (nI x0) (nI y0) = if (if tgR A = 7 then (if tgR B = 7 then (if p2 A = p1 B then 0 else -2) else -2) else -2 : Int32) = 0 then (if Th.length = 40 then (-4, Ty, Tm, Th) else sFin Ty Tm Th 8 x0 y0 ((hx ||| hy)) (Ty) (Tm) (sJn 7 (p1 A) (p2 B))) else (if tgR A = 7 then (if tgR B = 7 then (if p2 A = p1 B then 0 else -2) else -2) else -2, Ty, Tm, Th) := by
      rw [eS]
      by_cases q0 : tgR A = 7 <;> by_cases q1 : tgR B = 7 <;> by_cases q2 : p2 A = p1 B <;> simp [sRb8, q0, q1, q2, n_2, n_3, n_4]
    refine g_iload_n (pc := 22) d_M_rule_22 rfl ?_
    refine g_callS (M' := m_M_named) (pc := 23) d_M_rule_23 lm_M_125 c_M_named_8 v_M_named rfl (by decide) rfl (Nat.le_of_ble_eq_true rfl) ?_
    rintro _ _ ⟨rfl, rfl⟩
    show pG m_M_rule τ _ 0 0 26 _ (.int _ :: _) _
    refine g_istore (pc := 26) [(4, _), (0, _), (1, _), (2, _), (3, _)] d_M_rule_26 (by decide) rfl ?_
    refine g_aload_n (pc := 28) d_M_rule_28 rfl ?_
    refine gm_terms (pc := 29) d_M_rule_29 lf_M_78 ?_
    rw [b5]
    refine g_istore (pc := 32) [(5, _), (4, _), (0, _), (1, _), (2, _), (3, _)] d_M_rule_32 (by decide) rfl ?_
    refine g_aload_n (pc := 34) d_M_rule_34 rfl ?_
    refine gm_types (pc := 35) d_M_rule_35 lf_M_22 ?_
    rw [b4]
    refine g_istore (pc := 38) [(6, _), (5, _), (4, _), (0, _), (1, _), (2, _), (3, _)] d_M_rule_38 (by decide) rfl ?_
    refine g_aload_n (pc := 40) d_M_rule_40 rfl ?_
    refine g_iload (pc := 41) d_M_rule_41 rfl ?_
    refine g_nif_le (pc := 43) (tgt := 55) d_M_rule_43 (by decide) (by omega) (fun h => absurd h (by decide)) (fun h43 => ?_)
    refine g_aload_n (pc := 46) d_M_rule_46 rfl ?_
    refine gm_hypotheses (pc := 47) d_M_rule_47 lf_M_35 ?_
    refine g_iload_n (pc := 50) d_M_rule_50 rfl ?_
    refine glm_hypotheses (pc := 51) (v := lN hx) d_M_rule_51 (vp_in_nI (by omega) (by decide)) (by rw [nI_clamp (by omega)]; exact hxL) ?_
    refine g_goto (pc := 52) (tgt := 56) d_M_rule_52 (by decide) ?_
    refine g_iload (pc := 56) d_M_rule_56 rfl ?_
    refine g_iconst (pc := 58) (v := nI 1) d_M_rule_58 (by decide) ?_
    refine g_nicmp_le (pc := 59) (tgt := 71) d_M_rule_59 (by decide) (by omega) (by omega) (fun h => absurd h (by decide)) (fun h59 => ?_)
    refine g_aload_n (pc := 62) d_M_rule_62 rfl ?_
    refine gm_hypotheses (pc := 63) d_M_rule_63 lf_M_35 ?_
    refine g_iload_n (pc := 66) d_M_rule_66 rfl ?_
    refine glm_hypotheses (pc := 67) (v := lN hy) d_M_rule_67 (vp_in_nI (by omega) (by decide)) (by rw [nI_clamp (by omega)]; exact hyL) ?_
    refine g_goto (pc := 68) (tgt := 72) d_M_rule_68 (by decide) ?_
    refine g_lor (pc := 72) d_M_rule_72 ?_
    refine g_topl (lN (hx ||| hy)) (wb_or (by omega) (by omega)) ?_
    refine gm_set_p (pc := 73) d_M_rule_73 lf_M_118 ?_
    refine g_aload_n (pc := 76) d_M_rule_76 rfl ?_
    refine g_iconst (pc := 77) (v := nI 0) d_M_rule_77 (by decide) ?_
    refine gm_made_p (pc := 78) d_M_rule_78 lf_M_65 ?_
    have hI1 := hI.cl
    refine g_iload_n (pc := 81) d_M_rule_81 rfl ?_
    refine g_bipush (pc := 82) (v := nI 13) d_M_rule_82 (by decide) ?_
    refine g_nicmp_ne (pc := 84) (tgt := 103) d_M_rule_84 (by decide) (by omega) (by omega) (fun h84 => ?_) (fun h => absurd h (by decide))
    refine g_iload_n (pc := 103) d_M_rule_103 rfl ?_
    refine g_bipush (pc := 104) (v := nI 6) d_M_rule_104 (by decide) ?_
    refine g_nicmp_lt (pc := 106) (tgt := 115) d_M_rule_106 (by decide) (by omega) (by omega) (fun h => absurd h (by decide)) (fun h106 => ?_)
    refine g_iload_n (pc := 109) d_M_rule_109 rfl ?_
    refine g_bipush (pc := 110) (v := nI 12) d_M_rule_110 (by decide) ?_
    refine g_nicmp_ne (pc := 112) (tgt := 125) d_M_rule_112 (by decide) (by omega) (by omega) (fun h112 => ?_) (fun h => absurd h (by decide))
    refine g_aload_n (pc := 125) d_M_rule_125 rfl ?_
    refine g_iload_n (pc := 126) d_M_rule_126 rfl ?_
    refine g_iload_n (pc := 127) d_M_rule_127 rfl ?_
    refine g_iload_n (pc := 128) d_M_rule_128 rfl ?_
    refine g_callV (M' := m_M_equate) (pc := 129) (q := 0) d_M_rule_129 lm_M_158 (c_M_equate_8 x0 ux vx zx hx cx A tx hA0_ y0 uy vy zy hy cy B ty hB0_ (hx ||| hy) hI1 gs (Nat.or_lt_two_pow hx60 hy60) (fun t ht => by rw [Nat.testBit_or, Bool.or_eq_true] at ht; exact ht.elim (kx2 t) (ky2 t))) v_M_equate rfl rfl rfl (by decide) rfl (Nat.le_of_ble_eq_true rfl) ?_
    rintro rr w2 mo
    obtain ⟨v, rfl, hg⟩ := c_M_tail_2 (τ := τ) (sR8 Ty Tm Th (nI x0) (nI y0)) 8 x0 y0 (by decide) (by decide) (by decide) (by decide) hx0 hy0 b1 b2 gs (cd (cd (cd c_0 c_2) c_2) c_2) hF mo
    show pG m_M_rule τ _ 0 0 132 _ (.int _ :: _) _
    refine g_pick [0, 1, 2, 3, 4, 5, 6] [(6, _), (5, _), (4, _), (0, _), (1, _), (2, _), (3, _)] rfl ?_
    exact hg
  · refine g_iconst (pc := 20) (v := -1) d_M_rule_20 (by decide) ?_
    refine g_iret (pc := 21) d_M_rule_21 rfl (Nat.le_refl _) (Nat.le_refl _) ?_
    have e : sR8 Ty Tm Th x y = (-1, Ty, Tm, Th) := by
      rw [sR8, h17]
      rfl
    exact ⟨i, r, L, z, d, by rw [e], rfl, by rw [e]; exact hI, by rw [e]; exact gs⟩
set_option maxRecDepth 100000 in
set_option maxHeartbeats 4000000 in
theorem c_M_rule_9 {τ : Nat × Nat} {a : Nat → Nat} {i : Nat → Int32} {r : Nat → Nat → Int32} {L : Nat → Nat → Int64} {z : Int64} {wr : pW} {Ty : List (Nat × Nat)} {Tm : List (List Nat)} {Th : List Thm} {d : List Nat} (x y : Int32) (hI : MI Ty Tm Th (dcl Tm) d i r L) (gs : GS Ty Tm Th) : pC m_M_rule τ [.ref (a 0), .int (nI 9), .int x, .int y] (wM a i r L z ++ wr) ((fun rr w2 => ∃ i2 r2 L2 z2 d2, rr = some (.int ((sR9 Ty Tm Th x y).1)) ∧ w2 = wM a i2 r2 L2 z2 ++ wr ∧ MI ((sR9 Ty Tm Th x y).2.1) ((sR9 Ty Tm Th x y).2.2.1) ((sR9 Ty Tm Th x y).2.2.2) (dcl ((sR9 Ty Tm Th x y).2.2.1)) d2 i2 r2 L2 ∧ GS ((sR9 Ty Tm Th x y).2.1) ((sR9 Ty Tm Th x y).2.2.1) ((sR9 Ty Tm Th x y).2.2.2))) := by
  refine pC.of rfl (Nat.le_of_ble_eq_true rfl) ?_
  show pG m_M_rule τ _ 0 0 0 [(0, _), (1, _), (2, _), (3, _)] [] _
  obtain ⟨b1, b2, b3, b4, b5, b6, b7⟩ := hI.b
  refine g_iload_n (pc := 0) d_M_rule_0 rfl ?_
  refine g_nif_lt (pc := 1) (tgt := 20) d_M_rule_1 (by decide) (by omega) ?_
  refine g_iload_n (pc := 4) d_M_rule_4 rfl ?_
  refine g_bipush (pc := 5) (v := nI 13) d_M_rule_5 (by decide) ?_
  refine g_nicmp_gt (pc := 7) (tgt := 20) d_M_rule_7 (by decide) (by omega) (by omega) (fun h => absurd h (by decide)) (fun h7 => ?_)
  refine g_aload_n (pc := 10) d_M_rule_10 rfl ?_
  refine g_iload_n (pc := 11) d_M_rule_11 rfl ?_
  refine g_iload_n (pc := 12) d_M_rule_12 rfl ?_
  refine g_iload_n (pc := 13) d_M_rule_13 rfl ?_
  refine g_callV (M' := m_M_there) (pc := 14) (q := 0) d_M_rule_14 lm_M_148 (c_M_there_9 Tm Th b5 b6 b2 b3 x y) v_M_there rfl rfl rfl (by decide) rfl (Nat.le_of_ble_eq_true rfl) ?_
  rintro _ _ ⟨rfl, rfl⟩
  show pG m_M_rule τ _ 0 0 17 _ (.int _ :: _) _
  refine g_ifb_ne (pc := 17) (tgt := 22) d_M_rule_17 (by decide) (fun h17 => ?_) (fun h17 => ?_)
  · obtain ⟨h22, h35⟩ := (Bool.and_eq_true _ _).mp h17
    obtain ⟨x0, hx0, rfl⟩ := ixB_of h22 (by omega)
    obtain ⟨⟨ux, vx, zx, hx, cx⟩, tx⟩ := get_of hx0
    obtain ⟨⟨A, hA0_, -⟩, kx2⟩ := gs.2 _ _ _ _ _ _ tx
    obtain ⟨hx4, hxL, hx7⟩ := hI.th tx
    have hx60 : hx < 2 ^ 60 := bits60 (fun t ht => by have := kx2 t ht; omega)
    have exc : (nI x0).toNatClampNeg = x0 := nI_clamp (by omega)
    have ext : thG Th (nI x0) = (ux, vx, zx, hx, cx) := by rw [thG, exc, List.getD_eq_getElem?_getD, tx]; rfl
    have eA : rcT Tm Th (nI x0) = A := by rw [rcT, ext]; exact getD_at hA0_
    obtain ⟨y0, hy0, rfl⟩ := ixB_of h35 (by omega)
    obtain ⟨⟨uy, vy, zy, hy, cy⟩, ty⟩ := get_of hy0
    obtain ⟨⟨B, hB0_, -⟩, ky2⟩ := gs.2 _ _ _ _ _ _ ty
    obtain ⟨hy4, hyL, hy7⟩ := hI.th ty
    have hy60 : hy < 2 ^ 60 := bits60 (fun t ht => by have := ky2 t ht; omega)
    have eyc : (nI y0).toNatClampNeg = y0 := nI_clamp (by omega)
    have eyt : thG Th (nI y0) = (uy, vy, zy, hy, cy) := by rw [thG, eyc, List.getD_eq_getElem?_getD, ty]; rfl
    have eB : rcT Tm Th (nI y0) = B := by rw [rcT, eyt]; exact getD_at hB0_
    have eS : sR9 Ty Tm Th (nI x0) (nI y0) = sRb9 Ty Tm Th x0 y0 hx hy A B := by rw [sR9, h22, h35, exc, eyc, ext, eyt, eA, eB]; rfl
    have hF : sR9 Ty Tm Th (nI x0) (nI y0) = if (if tgR A = 7 then (if tgR B = 7 then (if tks Ty (tyR (p1 A)) (tyR (p1 B)) = true then 0 else -2) else -2) else -2 : Int32) = 0 then (if Th.length = 40 then (-4, Ty, Tm, Th) else sFin Ty Tm Th 9 x0 y0 ((hx ||| hy)) (Ty) (Tm) (tok 7 0 0 :: (sAp Ty (p1 A) (p1 B) ++ sAp Ty (p2 A) (p2 B)))) else (if tgR A = 7 then (if tgR B = 7 then (if tks Ty (tyR (p1 A)) (tyR (p1 B)) = true then 0 else -2) else -2) else -2, Ty, Tm, Th) := by
      rw [eS]
      by_cases q0 : tgR A = 7 <;> by_cases q1 : tgR B = 7 <;> by_cases q2 : tks Ty (tyR (p1 A)) (tyR (p1 B)) = true <;> simp [sRb9, q0, q1, q2, n_2, n_3, n_4]
    refine g_iload_n (pc := 22) d_M_rule_22 rfl ?_
    refine g_callS (M' := m_M_named) (pc := 23) d_M_rule_23 lm_M_125 c_M_named_9 v_M_named rfl (by decide) rfl (Nat.le_of_ble_eq_true rfl) ?_
    rintro _ _ ⟨rfl, rfl⟩
    show pG m_M_rule τ _ 0 0 26 _ (.int _ :: _) _
    refine g_istore (pc := 26) [(4, _), (0, _), (1, _), (2, _), (3, _)] d_M_rule_26 (by decide) rfl ?_
    refine g_aload_n (pc := 28) d_M_rule_28 rfl ?_
    refine gm_terms (pc := 29) d_M_rule_29 lf_M_78 ?_
    rw [b5]
    refine g_istore (pc := 32) [(5, _), (4, _), (0, _), (1, _), (2, _), (3, _)] d_M_rule_32 (by decide) rfl ?_
    refine g_aload_n (pc := 34) d_M_rule_34 rfl ?_
    refine gm_types (pc := 35) d_M_rule_35 lf_M_22 ?_
    rw [b4]
    refine g_istore (pc := 38) [(6, _), (5, _), (4, _), (0, _), (1, _), (2, _), (3, _)] d_M_rule_38 (by decide) rfl ?_
    refine g_aload_n (pc := 40) d_M_rule_40 rfl ?_
    refine g_iload (pc := 41) d_M_rule_41 rfl ?_
    refine g_nif_le (pc := 43) (tgt := 55) d_M_rule_43 (by decide) (by omega) (fun h => absurd h (by decide)) (fun h43 => ?_)
    refine g_aload_n (pc := 46) d_M_rule_46 rfl ?_
    refine gm_hypotheses (pc := 47) d_M_rule_47 lf_M_35 ?_
    refine g_iload_n (pc := 50) d_M_rule_50 rfl ?_
    refine glm_hypotheses (pc := 51) (v := lN hx) d_M_rule_51 (vp_in_nI (by omega) (by decide)) (by rw [nI_clamp (by omega)]; exact hxL) ?_
    refine g_goto (pc := 52) (tgt := 56) d_M_rule_52 (by decide) ?_
    refine g_iload (pc := 56) d_M_rule_56 rfl ?_
    refine g_iconst (pc := 58) (v := nI 1) d_M_rule_58 (by decide) ?_
    refine g_nicmp_le (pc := 59) (tgt := 71) d_M_rule_59 (by decide) (by omega) (by omega) (fun h => absurd h (by decide)) (fun h59 => ?_)
    refine g_aload_n (pc := 62) d_M_rule_62 rfl ?_
    refine gm_hypotheses (pc := 63) d_M_rule_63 lf_M_35 ?_
    refine g_iload_n (pc := 66) d_M_rule_66 rfl ?_
    refine glm_hypotheses (pc := 67) (v := lN hy) d_M_rule_67 (vp_in_nI (by omega) (by decide)) (by rw [nI_clamp (by omega)]; exact hyL) ?_
    refine g_goto (pc := 68) (tgt := 72) d_M_rule_68 (by decide) ?_
    refine g_lor (pc := 72) d_M_rule_72 ?_
    refine g_topl (lN (hx ||| hy)) (wb_or (by omega) (by omega)) ?_
    refine gm_set_p (pc := 73) d_M_rule_73 lf_M_118 ?_
    refine g_aload_n (pc := 76) d_M_rule_76 rfl ?_
    refine g_iconst (pc := 77) (v := nI 0) d_M_rule_77 (by decide) ?_
    refine gm_made_p (pc := 78) d_M_rule_78 lf_M_65 ?_
    have hI1 := hI.cl
    refine g_iload_n (pc := 81) d_M_rule_81 rfl ?_
    refine g_bipush (pc := 82) (v := nI 13) d_M_rule_82 (by decide) ?_
    refine g_nicmp_ne (pc := 84) (tgt := 103) d_M_rule_84 (by decide) (by omega) (by omega) (fun h84 => ?_) (fun h => absurd h (by decide))
    refine g_iload_n (pc := 103) d_M_rule_103 rfl ?_
    refine g_bipush (pc := 104) (v := nI 6) d_M_rule_104 (by decide) ?_
    refine g_nicmp_lt (pc := 106) (tgt := 115) d_M_rule_106 (by decide) (by omega) (by omega) (fun h => absurd h (by decide)) (fun h106 => ?_)
    refine g_iload_n (pc := 109) d_M_rule_109 rfl ?_
    refine g_bipush (pc := 110) (v := nI 12) d_M_rule_110 (by decide) ?_
    refine g_nicmp_ne (pc := 112) (tgt := 125) d_M_rule_112 (by decide) (by omega) (by omega) (fun h112 => ?_) (fun h => absurd h (by decide))
    refine g_aload_n (pc := 125) d_M_rule_125 rfl ?_
    refine g_iload_n (pc := 126) d_M_rule_126 rfl ?_
    refine g_iload_n (pc := 127) d_M_rule_127 rfl ?_
    refine g_iload_n (pc := 128) d_M_rule_128 rfl ?_
    refine g_callV (M' := m_M_equate) (pc := 129) (q := 0) d_M_rule_129 lm_M_158 (c_M_equate_9 x0 ux vx zx hx cx A tx hA0_ y0 uy vy zy hy cy B ty hB0_ (hx ||| hy) hI1 gs (Nat.or_lt_two_pow hx60 hy60) (fun t ht => by rw [Nat.testBit_or, Bool.or_eq_true] at ht; exact ht.elim (kx2 t) (ky2 t))) v_M_equate rfl rfl rfl (by decide) rfl (Nat.le_of_ble_eq_true rfl) ?_
    rintro rr w2 mo
    obtain ⟨v, rfl, hg⟩ := c_M_tail_2 (τ := τ) (sR9 Ty Tm Th (nI x0) (nI y0)) 9 x0 y0 (by decide) (by decide) (by decide) (by decide) hx0 hy0 b1 b2 gs (cd (cd (cd c_0 c_2) c_2) c_2) hF mo
    show pG m_M_rule τ _ 0 0 132 _ (.int _ :: _) _
    refine g_pick [0, 1, 2, 3, 4, 5, 6] [(6, _), (5, _), (4, _), (0, _), (1, _), (2, _), (3, _)] rfl ?_
    exact hg
  · refine g_iconst (pc := 20) (v := -1) d_M_rule_20 (by decide) ?_
    refine g_iret (pc := 21) d_M_rule_21 rfl (Nat.le_refl _) (Nat.le_refl _) ?_
    have e : sR9 Ty Tm Th x y = (-1, Ty, Tm, Th) := by
      rw [sR9, h17]
      rfl
    exact ⟨i, r, L, z, d, by rw [e], rfl, by rw [e]; exact hI, by rw [e]; exact gs⟩
set_option maxRecDepth 100000 in
set_option maxHeartbeats 4000000 in
theorem c_M_rule_10 {τ : Nat × Nat} {a : Nat → Nat} {i : Nat → Int32} {r : Nat → Nat → Int32} {L : Nat → Nat → Int64} {z : Int64} {wr : pW} {Ty : List (Nat × Nat)} {Tm : List (List Nat)} {Th : List Thm} {d : List Nat} (x y : Int32) (hI : MI Ty Tm Th (dcl Tm) d i r L) (gs : GS Ty Tm Th) : pC m_M_rule τ [.ref (a 0), .int (nI 10), .int x, .int y] (wM a i r L z ++ wr) ((fun rr w2 => ∃ i2 r2 L2 z2 d2, rr = some (.int ((sR10 Ty Tm Th x y).1)) ∧ w2 = wM a i2 r2 L2 z2 ++ wr ∧ MI ((sR10 Ty Tm Th x y).2.1) ((sR10 Ty Tm Th x y).2.2.1) ((sR10 Ty Tm Th x y).2.2.2) (dcl ((sR10 Ty Tm Th x y).2.2.1)) d2 i2 r2 L2 ∧ GS ((sR10 Ty Tm Th x y).2.1) ((sR10 Ty Tm Th x y).2.2.1) ((sR10 Ty Tm Th x y).2.2.2))) := by
  refine pC.of rfl (Nat.le_of_ble_eq_true rfl) ?_
  show pG m_M_rule τ _ 0 0 0 [(0, _), (1, _), (2, _), (3, _)] [] _
  obtain ⟨b1, b2, b3, b4, b5, b6, b7⟩ := hI.b
  refine g_iload_n (pc := 0) d_M_rule_0 rfl ?_
  refine g_nif_lt (pc := 1) (tgt := 20) d_M_rule_1 (by decide) (by omega) ?_
  refine g_iload_n (pc := 4) d_M_rule_4 rfl ?_
  refine g_bipush (pc := 5) (v := nI 13) d_M_rule_5 (by decide) ?_
  refine g_nicmp_gt (pc := 7) (tgt := 20) d_M_rule_7 (by decide) (by omega) (by omega) (fun h => absurd h (by decide)) (fun h7 => ?_)
  refine g_aload_n (pc := 10) d_M_rule_10 rfl ?_
  refine g_iload_n (pc := 11) d_M_rule_11 rfl ?_
  refine g_iload_n (pc := 12) d_M_rule_12 rfl ?_
  refine g_iload_n (pc := 13) d_M_rule_13 rfl ?_
  refine g_callV (M' := m_M_there) (pc := 14) (q := 0) d_M_rule_14 lm_M_148 (c_M_there_10 Tm Th b5 b6 b2 b3 x y) v_M_there rfl rfl rfl (by decide) rfl (Nat.le_of_ble_eq_true rfl) ?_
  rintro _ _ ⟨rfl, rfl⟩
  show pG m_M_rule τ _ 0 0 17 _ (.int _ :: _) _
  refine g_ifb_ne (pc := 17) (tgt := 22) d_M_rule_17 (by decide) (fun h17 => ?_) (fun h17 => ?_)
  · obtain ⟨h22, h35⟩ := (Bool.and_eq_true _ _).mp h17
    obtain ⟨x0, hx0, rfl⟩ := ixB_of h22 (by omega)
    obtain ⟨⟨ux, vx, zx, hx, cx⟩, tx⟩ := get_of hx0
    obtain ⟨⟨A, hA0_, -⟩, kx2⟩ := gs.2 _ _ _ _ _ _ tx
    obtain ⟨hx4, hxL, hx7⟩ := hI.th tx
    have hx60 : hx < 2 ^ 60 := bits60 (fun t ht => by have := kx2 t ht; omega)
    have exc : (nI x0).toNatClampNeg = x0 := nI_clamp (by omega)
    have ext : thG Th (nI x0) = (ux, vx, zx, hx, cx) := by rw [thG, exc, List.getD_eq_getElem?_getD, tx]; rfl
    have eA : rcT Tm Th (nI x0) = A := by rw [rcT, ext]; exact getD_at hA0_
    obtain ⟨y0, hy0, rfl⟩ := ixB_of h35 (by omega)
    obtain ⟨B, hB0_⟩ := get_of hy0
    have eB := rwT_at hB0_ b2
    have eyc : (nI y0).toNatClampNeg = y0 := nI_clamp (by omega)
    have eS : sR10 Ty Tm Th (nI x0) (nI y0) = sRb10 Ty Tm Th x0 y0 hx 0 A B := by rw [sR10, h22, h35, exc, eyc, ext, eA, eB]; rfl
    have hF : sR10 Ty Tm Th (nI x0) (nI y0) = if (if tgR A = 7 then (if tgR B = 0 then (if sBnd Tm hx (hdt B) = true then -3 else (if (sNum Ty (tyR B) (tyR (p1 A))).1 = -4 then -4 else 0)) else -2) else -2 : Int32) = 0 then (if Th.length = 40 then (-4, Ty, Tm, Th) else sFin Ty Tm Th 10 x0 y0 (hx) ((sNum Ty (tyR B) (tyR (p1 A))).2) (Tm) (([tok 7 0 0] ++ sBd 3 (sNum Ty (tyR B) (tyR (p1 A))).1.toNatClampNeg (hdt B) (p1 A)) ++ sBd 3 (sNum Ty (tyR B) (tyR (p1 A))).1.toNatClampNeg (hdt B) (p2 A))) else (if tgR A = 7 then (if tgR B = 0 then (if sBnd Tm hx (hdt B) = true then -3 else (if (sNum Ty (tyR B) (tyR (p1 A))).1 = -4 then -4 else 0)) else -2) else -2, Ty, Tm, Th) := by
      rw [eS]
      by_cases q0 : tgR A = 7
      · obtain ⟨-, xt, -, wP1, wP2, -⟩ := (gs.row hA0_).two (Or.inr q0)
        have hty : tyR (p2 A) = tyR (p1 A) := by rw [wP1.ty, wP2.ty]
        by_cases q1_ : tgR B = 0
        · by_cases q2_ : sBnd Tm hx (hdt B) = true
          · rw [sRb10, if_pos ⟨q0, q1_⟩, if_pos q2_, if_pos q0, if_pos q1_, if_pos q2_, if_neg n_3]
          · by_cases q3_ : (sNum Ty (tyR B) (tyR (p1 A))).1 = -4
            · rw [sRb10, if_pos ⟨q0, q1_⟩, if_neg q2_, if_pos q0, if_pos q1_, if_neg q2_, if_pos q3_, if_neg n_4, sFin, sAb2_no q3_ hty, sKeep_big (by simp), if_pos rfl]
              simp
            · rw [sRb10, if_pos ⟨q0, q1_⟩, if_neg q2_, if_pos q0, if_pos q1_, if_neg q2_, if_neg q3_, if_pos rfl, sAb2_eq q3_ hty]
        · rw [sRb10, if_neg (fun q => q1_ q.2), if_pos q0, if_neg q1_, if_neg n_2]
      · rw [sRb10, if_neg (fun q => q0 q.1), if_neg q0, if_neg n_2]
    refine g_iload_n (pc := 22) d_M_rule_22 rfl ?_
    refine g_callS (M' := m_M_named) (pc := 23) d_M_rule_23 lm_M_125 c_M_named_10 v_M_named rfl (by decide) rfl (Nat.le_of_ble_eq_true rfl) ?_
    rintro _ _ ⟨rfl, rfl⟩
    show pG m_M_rule τ _ 0 0 26 _ (.int _ :: _) _
    refine g_istore (pc := 26) [(4, _), (0, _), (1, _), (2, _), (3, _)] d_M_rule_26 (by decide) rfl ?_
    refine g_aload_n (pc := 28) d_M_rule_28 rfl ?_
    refine gm_terms (pc := 29) d_M_rule_29 lf_M_78 ?_
    rw [b5]
    refine g_istore (pc := 32) [(5, _), (4, _), (0, _), (1, _), (2, _), (3, _)] d_M_rule_32 (by decide) rfl ?_
    refine g_aload_n (pc := 34) d_M_rule_34 rfl ?_
    refine gm_types (pc := 35) d_M_rule_35 lf_M_22 ?_
    rw [b4]
    refine g_istore (pc := 38) [(6, _), (5, _), (4, _), (0, _), (1, _), (2, _), (3, _)] d_M_rule_38 (by decide) rfl ?_
    refine g_aload_n (pc := 40) d_M_rule_40 rfl ?_
    refine g_iload (pc := 41) d_M_rule_41 rfl ?_
    refine g_nif_le (pc := 43) (tgt := 55) d_M_rule_43 (by decide) (by omega) (fun h => absurd h (by decide)) (fun h43 => ?_)
    refine g_aload_n (pc := 46) d_M_rule_46 rfl ?_
    refine gm_hypotheses (pc := 47) d_M_rule_47 lf_M_35 ?_
    refine g_iload_n (pc := 50) d_M_rule_50 rfl ?_
    refine glm_hypotheses (pc := 51) (v := lN hx) d_M_rule_51 (vp_in_nI (by omega) (by decide)) (by rw [nI_clamp (by omega)]; exact hxL) ?_
    refine g_goto (pc := 52) (tgt := 56) d_M_rule_52 (by decide) ?_
    refine g_iload (pc := 56) d_M_rule_56 rfl ?_
    refine g_iconst (pc := 58) (v := nI 1) d_M_rule_58 (by decide) ?_
    refine g_nicmp_le (pc := 59) (tgt := 71) d_M_rule_59 (by decide) (by omega) (by omega) (fun h59 => ?_) (fun h => absurd h (by decide))
    refine g_lconst (pc := 71) (v := lN 0) d_M_rule_71 (by decide) ?_
    refine g_lor (pc := 72) d_M_rule_72 ?_
    refine g_topl (lN hx) (by rw [wb_or (by omega) (by decide), Nat.or_zero]) ?_
    refine gm_set_p (pc := 73) d_M_rule_73 lf_M_118 ?_
    refine g_aload_n (pc := 76) d_M_rule_76 rfl ?_
    refine g_iconst (pc := 77) (v := nI 0) d_M_rule_77 (by decide) ?_
    refine gm_made_p (pc := 78) d_M_rule_78 lf_M_65 ?_
    have hI1 := hI.cl
    refine g_iload_n (pc := 81) d_M_rule_81 rfl ?_
    refine g_bipush (pc := 82) (v := nI 13) d_M_rule_82 (by decide) ?_
    refine g_nicmp_ne (pc := 84) (tgt := 103) d_M_rule_84 (by decide) (by omega) (by omega) (fun h84 => ?_) (fun h => absurd h (by decide))
    refine g_iload_n (pc := 103) d_M_rule_103 rfl ?_
    refine g_bipush (pc := 104) (v := nI 6) d_M_rule_104 (by decide) ?_
    refine g_nicmp_lt (pc := 106) (tgt := 115) d_M_rule_106 (by decide) (by omega) (by omega) (fun h => absurd h (by decide)) (fun h106 => ?_)
    refine g_iload_n (pc := 109) d_M_rule_109 rfl ?_
    refine g_bipush (pc := 110) (v := nI 12) d_M_rule_110 (by decide) ?_
    refine g_nicmp_ne (pc := 112) (tgt := 125) d_M_rule_112 (by decide) (by omega) (by omega) (fun h112 => ?_) (fun h => absurd h (by decide))
    refine g_aload_n (pc := 125) d_M_rule_125 rfl ?_
    refine g_iload_n (pc := 126) d_M_rule_126 rfl ?_
    refine g_iload_n (pc := 127) d_M_rule_127 rfl ?_
    refine g_iload_n (pc := 128) d_M_rule_128 rfl ?_
    refine g_callV (M' := m_M_equate) (pc := 129) (q := 0) d_M_rule_129 lm_M_158 (c_M_equate_10 x0 ux vx zx hx cx A tx hA0_ y0 B hB0_ hx hI1 gs hx60 kx2) v_M_equate rfl rfl rfl (by decide) rfl (Nat.le_of_ble_eq_true rfl) ?_
    rintro rr w2 mo
    obtain ⟨v, rfl, hg⟩ := c_M_tail_1 (τ := τ) (sR10 Ty Tm Th (nI x0) (nI y0)) 10 x0 y0 (by decide) (nI y0) (by decide) (by decide) (by decide) hx0 b1 b2 gs (cd (cd (cd c_3 (cd c_4 c_0)) c_2) c_2) hF mo
    show pG m_M_rule τ _ 0 0 132 _ (.int _ :: _) _
    refine g_pick [0, 1, 2, 3, 4, 5, 6] [(6, _), (5, _), (4, _), (0, _), (1, _), (2, _), (3, _)] rfl ?_
    exact hg
  · refine g_iconst (pc := 20) (v := -1) d_M_rule_20 (by decide) ?_
    refine g_iret (pc := 21) d_M_rule_21 rfl (Nat.le_refl _) (Nat.le_refl _) ?_
    have e : sR10 Ty Tm Th x y = (-1, Ty, Tm, Th) := by
      rw [sR10, h17]
      rfl
    exact ⟨i, r, L, z, d, by rw [e], rfl, by rw [e]; exact hI, by rw [e]; exact gs⟩
set_option maxRecDepth 100000 in
set_option maxHeartbeats 4000000 in
theorem c_M_rule_11 {τ : Nat × Nat} {a : Nat → Nat} {i : Nat → Int32} {r : Nat → Nat → Int32} {L : Nat → Nat → Int64} {z : Int64} {wr : pW} {Ty : List (Nat × Nat)} {Tm : List (List Nat)} {Th : List Thm} {d : List Nat} (x y : Int32) (hI : MI Ty Tm Th (dcl Tm) d i r L) (gs : GS Ty Tm Th) : pC m_M_rule τ [.ref (a 0), .int (nI 11), .int x, .int y] (wM a i r L z ++ wr) ((fun rr w2 => ∃ i2 r2 L2 z2 d2, rr = some (.int ((sR11 Ty Tm Th x y).1)) ∧ w2 = wM a i2 r2 L2 z2 ++ wr ∧ MI ((sR11 Ty Tm Th x y).2.1) ((sR11 Ty Tm Th x y).2.2.1) ((sR11 Ty Tm Th x y).2.2.2) (dcl ((sR11 Ty Tm Th x y).2.2.1)) d2 i2 r2 L2 ∧ GS ((sR11 Ty Tm Th x y).2.1) ((sR11 Ty Tm Th x y).2.2.1) ((sR11 Ty Tm Th x y).2.2.2))) := by
  refine pC.of rfl (Nat.le_of_ble_eq_true rfl) ?_
  show pG m_M_rule τ _ 0 0 0 [(0, _), (1, _), (2, _), (3, _)] [] _
  obtain ⟨b1, b2, b3, b4, b5, b6, b7⟩ := hI.b
  refine g_iload_n (pc := 0) d_M_rule_0 rfl ?_
  refine g_nif_lt (pc := 1) (tgt := 20) d_M_rule_1 (by decide) (by omega) ?_
  refine g_iload_n (pc := 4) d_M_rule_4 rfl ?_
  refine g_bipush (pc := 5) (v := nI 13) d_M_rule_5 (by decide) ?_
  refine g_nicmp_gt (pc := 7) (tgt := 20) d_M_rule_7 (by decide) (by omega) (by omega) (fun h => absurd h (by decide)) (fun h7 => ?_)
  refine g_aload_n (pc := 10) d_M_rule_10 rfl ?_
  refine g_iload_n (pc := 11) d_M_rule_11 rfl ?_
  refine g_iload_n (pc := 12) d_M_rule_12 rfl ?_
  refine g_iload_n (pc := 13) d_M_rule_13 rfl ?_
  refine g_callV (M' := m_M_there) (pc := 14) (q := 0) d_M_rule_14 lm_M_148 (c_M_there_11 Tm Th b5 b6 b2 b3 x y) v_M_there rfl rfl rfl (by decide) rfl (Nat.le_of_ble_eq_true rfl) ?_
  rintro _ _ ⟨rfl, rfl⟩
  show pG m_M_rule τ _ 0 0 17 _ (.int _ :: _) _
  refine g_ifb_ne (pc := 17) (tgt := 22) d_M_rule_17 (by decide) (fun h17 => ?_) (fun h17 => ?_)
  · obtain ⟨h22, h35⟩ := (Bool.and_eq_true _ _).mp h17
    obtain ⟨x0, hx0, rfl⟩ := ixB_of h22 (by omega)
    obtain ⟨A, hA0_⟩ := get_of hx0
    have eA := rwT_at hA0_ b2
    have exc : (nI x0).toNatClampNeg = x0 := nI_clamp (by omega)
    have eS : sR11 Ty Tm Th (nI x0) y = sRb11 Ty Tm Th x0 y.toNatClampNeg 0 0 A [] := by rw [sR11, h22, exc, eA]; rfl
    have hF : sR11 Ty Tm Th (nI x0) y = if (if tgR A = 5 ∧ tgR (p1 A) = 3 then 0 else -2 : Int32) = 0 then (if Th.length = 40 then (-4, Ty, Tm, Th) else sFin Ty Tm Th 11 x0 y.toNatClampNeg (0) (Ty) (Tm) (tok 7 0 0 :: (A ++ fil (p2 A) [0] (p1 (p1 A))))) else (if tgR A = 5 ∧ tgR (p1 A) = 3 then 0 else -2, Ty, Tm, Th) := by
      rw [eS]
      by_cases q0 : tgR A = 5 ∧ tgR (p1 A) = 3 <;> simp [sRb11, q0, n_2, n_3, n_4]
    refine g_iload_n (pc := 22) d_M_rule_22 rfl ?_
    refine g_callS (M' := m_M_named) (pc := 23) d_M_rule_23 lm_M_125 c_M_named_11 v_M_named rfl (by decide) rfl (Nat.le_of_ble_eq_true rfl) ?_
    rintro _ _ ⟨rfl, rfl⟩
    show pG m_M_rule τ _ 0 0 26 _ (.int _ :: _) _
    refine g_istore (pc := 26) [(4, _), (0, _), (1, _), (2, _), (3, _)] d_M_rule_26 (by decide) rfl ?_
    refine g_aload_n (pc := 28) d_M_rule_28 rfl ?_
    refine gm_terms (pc := 29) d_M_rule_29 lf_M_78 ?_
    rw [b5]
    refine g_istore (pc := 32) [(5, _), (4, _), (0, _), (1, _), (2, _), (3, _)] d_M_rule_32 (by decide) rfl ?_
    refine g_aload_n (pc := 34) d_M_rule_34 rfl ?_
    refine gm_types (pc := 35) d_M_rule_35 lf_M_22 ?_
    rw [b4]
    refine g_istore (pc := 38) [(6, _), (5, _), (4, _), (0, _), (1, _), (2, _), (3, _)] d_M_rule_38 (by decide) rfl ?_
    refine g_aload_n (pc := 40) d_M_rule_40 rfl ?_
    refine g_iload (pc := 41) d_M_rule_41 rfl ?_
    refine g_nif_le (pc := 43) (tgt := 55) d_M_rule_43 (by decide) (by omega) (fun h43 => ?_) (fun h => absurd h (by decide))
    refine g_lconst (pc := 55) (v := lN 0) d_M_rule_55 (by decide) ?_
    refine g_iload (pc := 56) d_M_rule_56 rfl ?_
    refine g_iconst (pc := 58) (v := nI 1) d_M_rule_58 (by decide) ?_
    refine g_nicmp_le (pc := 59) (tgt := 71) d_M_rule_59 (by decide) (by omega) (by omega) (fun h59 => ?_) (fun h => absurd h (by decide))
    refine g_lconst (pc := 71) (v := lN 0) d_M_rule_71 (by decide) ?_
    refine g_lor (pc := 72) d_M_rule_72 ?_
    refine g_topl (lN 0) (by decide) ?_
    refine gm_set_p (pc := 73) d_M_rule_73 lf_M_118 ?_
    refine g_aload_n (pc := 76) d_M_rule_76 rfl ?_
    refine g_iconst (pc := 77) (v := nI 0) d_M_rule_77 (by decide) ?_
    refine gm_made_p (pc := 78) d_M_rule_78 lf_M_65 ?_
    have hI1 := hI.cl
    refine g_iload_n (pc := 81) d_M_rule_81 rfl ?_
    refine g_bipush (pc := 82) (v := nI 13) d_M_rule_82 (by decide) ?_
    refine g_nicmp_ne (pc := 84) (tgt := 103) d_M_rule_84 (by decide) (by omega) (by omega) (fun h84 => ?_) (fun h => absurd h (by decide))
    refine g_iload_n (pc := 103) d_M_rule_103 rfl ?_
    refine g_bipush (pc := 104) (v := nI 6) d_M_rule_104 (by decide) ?_
    refine g_nicmp_lt (pc := 106) (tgt := 115) d_M_rule_106 (by decide) (by omega) (by omega) (fun h => absurd h (by decide)) (fun h106 => ?_)
    refine g_iload_n (pc := 109) d_M_rule_109 rfl ?_
    refine g_bipush (pc := 110) (v := nI 12) d_M_rule_110 (by decide) ?_
    refine g_nicmp_ne (pc := 112) (tgt := 125) d_M_rule_112 (by decide) (by omega) (by omega) (fun h112 => ?_) (fun h => absurd h (by decide))
    refine g_aload_n (pc := 125) d_M_rule_125 rfl ?_
    refine g_iload_n (pc := 126) d_M_rule_126 rfl ?_
    refine g_iload_n (pc := 127) d_M_rule_127 rfl ?_
    refine g_iload_n (pc := 128) d_M_rule_128 rfl ?_
    refine g_callV (M' := m_M_equate) (pc := 129) (q := 0) d_M_rule_129 lm_M_158 (c_M_equate_11 x0 A hA0_ y 0 hI1 gs (by decide) (fun t ht => by simp at ht)) v_M_equate rfl rfl rfl (by decide) rfl (Nat.le_of_ble_eq_true rfl) ?_
    rintro rr w2 mo
    obtain ⟨v, rfl, hg⟩ := c_M_tail_0 (τ := τ) (sR11 Ty Tm Th (nI x0) y) 11 x0 y.toNatClampNeg (by decide) (nI x0) y (by decide) (by decide) b1 b2 gs (cd c_0 c_2) hF mo
    show pG m_M_rule τ _ 0 0 132 _ (.int _ :: _) _
    refine g_pick [0, 1, 2, 3, 4, 5, 6] [(6, _), (5, _), (4, _), (0, _), (1, _), (2, _), (3, _)] rfl ?_
    exact hg
  · refine g_iconst (pc := 20) (v := -1) d_M_rule_20 (by decide) ?_
    refine g_iret (pc := 21) d_M_rule_21 rfl (Nat.le_refl _) (Nat.le_refl _) ?_
    have e : sR11 Ty Tm Th x y = (-1, Ty, Tm, Th) := by
      rw [sR11, h17]
      rfl
    exact ⟨i, r, L, z, d, by rw [e], rfl, by rw [e]; exact hI, by rw [e]; exact gs⟩
set_option maxRecDepth 100000 in
set_option maxHeartbeats 4000000 in
theorem c_M_rule_12 {τ : Nat × Nat} {a : Nat → Nat} {i : Nat → Int32} {r : Nat → Nat → Int32} {L : Nat → Nat → Int64} {z : Int64} {wr : pW} {Ty : List (Nat × Nat)} {Tm : List (List Nat)} {Th : List Thm} {d : List Nat} (x y : Int32) (hI : MI Ty Tm Th (dcl Tm) d i r L) (gs : GS Ty Tm Th) : pC m_M_rule τ [.ref (a 0), .int (nI 12), .int x, .int y] (wM a i r L z ++ wr) ((fun rr w2 => ∃ i2 r2 L2 z2 d2, rr = some (.int ((sR12 Ty Tm Th x y).1)) ∧ w2 = wM a i2 r2 L2 z2 ++ wr ∧ MI ((sR12 Ty Tm Th x y).2.1) ((sR12 Ty Tm Th x y).2.2.1) ((sR12 Ty Tm Th x y).2.2.2) (dcl ((sR12 Ty Tm Th x y).2.2.1)) d2 i2 r2 L2 ∧ GS ((sR12 Ty Tm Th x y).2.1) ((sR12 Ty Tm Th x y).2.2.1) ((sR12 Ty Tm Th x y).2.2.2))) := by
  refine pC.of rfl (Nat.le_of_ble_eq_true rfl) ?_
  show pG m_M_rule τ _ 0 0 0 [(0, _), (1, _), (2, _), (3, _)] [] _
  obtain ⟨b1, b2, b3, b4, b5, b6, b7⟩ := hI.b
  refine g_iload_n (pc := 0) d_M_rule_0 rfl ?_
  refine g_nif_lt (pc := 1) (tgt := 20) d_M_rule_1 (by decide) (by omega) ?_
  refine g_iload_n (pc := 4) d_M_rule_4 rfl ?_
  refine g_bipush (pc := 5) (v := nI 13) d_M_rule_5 (by decide) ?_
  refine g_nicmp_gt (pc := 7) (tgt := 20) d_M_rule_7 (by decide) (by omega) (by omega) (fun h => absurd h (by decide)) (fun h7 => ?_)
  refine g_aload_n (pc := 10) d_M_rule_10 rfl ?_
  refine g_iload_n (pc := 11) d_M_rule_11 rfl ?_
  refine g_iload_n (pc := 12) d_M_rule_12 rfl ?_
  refine g_iload_n (pc := 13) d_M_rule_13 rfl ?_
  refine g_callV (M' := m_M_there) (pc := 14) (q := 0) d_M_rule_14 lm_M_148 (c_M_there_12 Tm Th b5 b6 b2 b3 x y) v_M_there rfl rfl rfl (by decide) rfl (Nat.le_of_ble_eq_true rfl) ?_
  rintro _ _ ⟨rfl, rfl⟩
  show pG m_M_rule τ _ 0 0 17 _ (.int _ :: _) _
  refine g_ifb_ne (pc := 17) (tgt := 22) d_M_rule_17 (by decide) (fun h17 => ?_) (fun h17 => ?_)
  · obtain ⟨h22, h35⟩ := (Bool.and_eq_true _ _).mp h17
    obtain ⟨x0, hx0, rfl⟩ := ixB_of h22 (by omega)
    obtain ⟨⟨ux, vx, zx, hx, cx⟩, tx⟩ := get_of hx0
    obtain ⟨⟨A, hA0_, -⟩, kx2⟩ := gs.2 _ _ _ _ _ _ tx
    obtain ⟨hx4, hxL, hx7⟩ := hI.th tx
    have hx60 : hx < 2 ^ 60 := bits60 (fun t ht => by have := kx2 t ht; omega)
    have exc : (nI x0).toNatClampNeg = x0 := nI_clamp (by omega)
    have ext : thG Th (nI x0) = (ux, vx, zx, hx, cx) := by rw [thG, exc, List.getD_eq_getElem?_getD, tx]; rfl
    have eA : rcT Tm Th (nI x0) = A := by rw [rcT, ext]; exact getD_at hA0_
    obtain ⟨y0, hy0, rfl⟩ := ixB_of h35 (by omega)
    obtain ⟨⟨uy, vy, zy, hy, cy⟩, ty⟩ := get_of hy0
    obtain ⟨⟨B, hB0_, -⟩, ky2⟩ := gs.2 _ _ _ _ _ _ ty
    obtain ⟨hy4, hyL, hy7⟩ := hI.th ty
    have hy60 : hy < 2 ^ 60 := bits60 (fun t ht => by have := ky2 t ht; omega)
    have eyc : (nI y0).toNatClampNeg = y0 := nI_clamp (by omega)
    have eyt : thG Th (nI y0) = (uy, vy, zy, hy, cy) := by rw [thG, eyc, List.getD_eq_getElem?_getD, ty]; rfl
    have eB : rcT Tm Th (nI y0) = B := by rw [rcT, eyt]; exact getD_at hB0_
    have eS : sR12 Ty Tm Th (nI x0) (nI y0) = sRb12 Ty Tm Th x0 y0 hx hy A B := by rw [sR12, h22, h35, exc, eyc, ext, eyt, eA, eB]; rfl
    have hF : sR12 Ty Tm Th (nI x0) (nI y0) = if (if tgR A = 7 ∧ p1 A = B then 0 else -2 : Int32) = 0 then (if Th.length = 40 then (-4, Ty, Tm, Th) else sFin Ty Tm Th 12 x0 y0 ((hx ||| hy)) (Ty) (Tm) (p2 A)) else (if tgR A = 7 ∧ p1 A = B then 0 else -2, Ty, Tm, Th) := by
      rw [eS]
      by_cases q0 : tgR A = 7 ∧ p1 A = B <;> simp [sRb12, q0, n_2, n_3, n_4]
    refine g_iload_n (pc := 22) d_M_rule_22 rfl ?_
    refine g_callS (M' := m_M_named) (pc := 23) d_M_rule_23 lm_M_125 c_M_named_12 v_M_named rfl (by decide) rfl (Nat.le_of_ble_eq_true rfl) ?_
    rintro _ _ ⟨rfl, rfl⟩
    show pG m_M_rule τ _ 0 0 26 _ (.int _ :: _) _
    refine g_istore (pc := 26) [(4, _), (0, _), (1, _), (2, _), (3, _)] d_M_rule_26 (by decide) rfl ?_
    refine g_aload_n (pc := 28) d_M_rule_28 rfl ?_
    refine gm_terms (pc := 29) d_M_rule_29 lf_M_78 ?_
    rw [b5]
    refine g_istore (pc := 32) [(5, _), (4, _), (0, _), (1, _), (2, _), (3, _)] d_M_rule_32 (by decide) rfl ?_
    refine g_aload_n (pc := 34) d_M_rule_34 rfl ?_
    refine gm_types (pc := 35) d_M_rule_35 lf_M_22 ?_
    rw [b4]
    refine g_istore (pc := 38) [(6, _), (5, _), (4, _), (0, _), (1, _), (2, _), (3, _)] d_M_rule_38 (by decide) rfl ?_
    refine g_aload_n (pc := 40) d_M_rule_40 rfl ?_
    refine g_iload (pc := 41) d_M_rule_41 rfl ?_
    refine g_nif_le (pc := 43) (tgt := 55) d_M_rule_43 (by decide) (by omega) (fun h => absurd h (by decide)) (fun h43 => ?_)
    refine g_aload_n (pc := 46) d_M_rule_46 rfl ?_
    refine gm_hypotheses (pc := 47) d_M_rule_47 lf_M_35 ?_
    refine g_iload_n (pc := 50) d_M_rule_50 rfl ?_
    refine glm_hypotheses (pc := 51) (v := lN hx) d_M_rule_51 (vp_in_nI (by omega) (by decide)) (by rw [nI_clamp (by omega)]; exact hxL) ?_
    refine g_goto (pc := 52) (tgt := 56) d_M_rule_52 (by decide) ?_
    refine g_iload (pc := 56) d_M_rule_56 rfl ?_
    refine g_iconst (pc := 58) (v := nI 1) d_M_rule_58 (by decide) ?_
    refine g_nicmp_le (pc := 59) (tgt := 71) d_M_rule_59 (by decide) (by omega) (by omega) (fun h => absurd h (by decide)) (fun h59 => ?_)
    refine g_aload_n (pc := 62) d_M_rule_62 rfl ?_
    refine gm_hypotheses (pc := 63) d_M_rule_63 lf_M_35 ?_
    refine g_iload_n (pc := 66) d_M_rule_66 rfl ?_
    refine glm_hypotheses (pc := 67) (v := lN hy) d_M_rule_67 (vp_in_nI (by omega) (by decide)) (by rw [nI_clamp (by omega)]; exact hyL) ?_
    refine g_goto (pc := 68) (tgt := 72) d_M_rule_68 (by decide) ?_
    refine g_lor (pc := 72) d_M_rule_72 ?_
    refine g_topl (lN (hx ||| hy)) (wb_or (by omega) (by omega)) ?_
    refine gm_set_p (pc := 73) d_M_rule_73 lf_M_118 ?_
    refine g_aload_n (pc := 76) d_M_rule_76 rfl ?_
    refine g_iconst (pc := 77) (v := nI 0) d_M_rule_77 (by decide) ?_
    refine gm_made_p (pc := 78) d_M_rule_78 lf_M_65 ?_
    have hI1 := hI.cl
    refine g_iload_n (pc := 81) d_M_rule_81 rfl ?_
    refine g_bipush (pc := 82) (v := nI 13) d_M_rule_82 (by decide) ?_
    refine g_nicmp_ne (pc := 84) (tgt := 103) d_M_rule_84 (by decide) (by omega) (by omega) (fun h84 => ?_) (fun h => absurd h (by decide))
    refine g_iload_n (pc := 103) d_M_rule_103 rfl ?_
    refine g_bipush (pc := 104) (v := nI 6) d_M_rule_104 (by decide) ?_
    refine g_nicmp_lt (pc := 106) (tgt := 115) d_M_rule_106 (by decide) (by omega) (by omega) (fun h => absurd h (by decide)) (fun h106 => ?_)
    refine g_iload_n (pc := 109) d_M_rule_109 rfl ?_
    refine g_bipush (pc := 110) (v := nI 12) d_M_rule_110 (by decide) ?_
    refine g_nicmp_ne (pc := 112) (tgt := 125) d_M_rule_112 (by decide) (by omega) (by omega) (fun h => absurd h (by decide)) (fun h112 => ?_)
    refine g_aload_n (pc := 115) d_M_rule_115 rfl ?_
    refine g_iload_n (pc := 116) d_M_rule_116 rfl ?_
    refine g_iload_n (pc := 117) d_M_rule_117 rfl ?_
    refine g_iload_n (pc := 118) d_M_rule_118 rfl ?_
    refine g_callV (M' := m_M_reason) (pc := 119) (q := 0) d_M_rule_119 lm_M_155 (c_M_reason_12 x0 ux vx zx hx cx A tx hA0_ y0 uy vy zy hy cy B ty hB0_ (hx ||| hy) hI1 gs (Nat.or_lt_two_pow hx60 hy60) (fun t ht => by rw [Nat.testBit_or, Bool.or_eq_true] at ht; exact ht.elim (kx2 t) (ky2 t))) v_M_reason rfl rfl rfl (by decide) rfl (Nat.le_of_ble_eq_true rfl) ?_
    rintro rr w2 mo
    obtain ⟨v, rfl, hg⟩ := c_M_tail_2 (τ := τ) (sR12 Ty Tm Th (nI x0) (nI y0)) 12 x0 y0 (by decide) (by decide) (by decide) (by decide) hx0 hy0 b1 b2 gs (cd c_0 c_2) hF mo
    show pG m_M_rule τ _ 0 0 122 _ (.int _ :: _) _
    refine g_goto (pc := 122) (tgt := 132) d_M_rule_122 (by decide) ?_
    refine g_pick [0, 1, 2, 3, 4, 5, 6] [(6, _), (5, _), (4, _), (0, _), (1, _), (2, _), (3, _)] rfl ?_
    exact hg
  · refine g_iconst (pc := 20) (v := -1) d_M_rule_20 (by decide) ?_
    refine g_iret (pc := 21) d_M_rule_21 rfl (Nat.le_refl _) (Nat.le_refl _) ?_
    have e : sR12 Ty Tm Th x y = (-1, Ty, Tm, Th) := by
      rw [sR12, h17]
      rfl
    exact ⟨i, r, L, z, d, by rw [e], rfl, by rw [e]; exact hI, by rw [e]; exact gs⟩
set_option maxRecDepth 100000 in
set_option maxHeartbeats 4000000 in
theorem c_M_rule_13 {τ : Nat × Nat} {a : Nat → Nat} {i : Nat → Int32} {r : Nat → Nat → Int32} {L : Nat → Nat → Int64} {z : Int64} {wr : pW} {Ty : List (Nat × Nat)} {Tm : List (List Nat)} {Th : List Thm} {d : List Nat} (x y : Int32) (hI : MI Ty Tm Th (dcl Tm) d i r L) (gs : GS Ty Tm Th) : pC m_M_rule τ [.ref (a 0), .int (nI 13), .int x, .int y] (wM a i r L z ++ wr) ((fun rr w2 => ∃ i2 r2 L2 z2 d2, rr = some (.int ((sR13 Ty Tm Th x y).1)) ∧ w2 = wM a i2 r2 L2 z2 ++ wr ∧ MI ((sR13 Ty Tm Th x y).2.1) ((sR13 Ty Tm Th x y).2.2.1) ((sR13 Ty Tm Th x y).2.2.2) (dcl ((sR13 Ty Tm Th x y).2.2.1)) d2 i2 r2 L2 ∧ GS ((sR13 Ty Tm Th x y).2.1) ((sR13 Ty Tm Th x y).2.2.1) ((sR13 Ty Tm Th x y).2.2.2))) := by
  refine pC.of rfl (Nat.le_of_ble_eq_true rfl) ?_
  show pG m_M_rule τ _ 0 0 0 [(0, _), (1, _), (2, _), (3, _)] [] _
  obtain ⟨b1, b2, b3, b4, b5, b6, b7⟩ := hI.b
  refine g_iload_n (pc := 0) d_M_rule_0 rfl ?_
  refine g_nif_lt (pc := 1) (tgt := 20) d_M_rule_1 (by decide) (by omega) ?_
  refine g_iload_n (pc := 4) d_M_rule_4 rfl ?_
  refine g_bipush (pc := 5) (v := nI 13) d_M_rule_5 (by decide) ?_
  refine g_nicmp_gt (pc := 7) (tgt := 20) d_M_rule_7 (by decide) (by omega) (by omega) (fun h => absurd h (by decide)) (fun h7 => ?_)
  refine g_aload_n (pc := 10) d_M_rule_10 rfl ?_
  refine g_iload_n (pc := 11) d_M_rule_11 rfl ?_
  refine g_iload_n (pc := 12) d_M_rule_12 rfl ?_
  refine g_iload_n (pc := 13) d_M_rule_13 rfl ?_
  refine g_callV (M' := m_M_there) (pc := 14) (q := 0) d_M_rule_14 lm_M_148 (c_M_there_13 Tm Th b5 b6 b2 b3 x y) v_M_there rfl rfl rfl (by decide) rfl (Nat.le_of_ble_eq_true rfl) ?_
  rintro _ _ ⟨rfl, rfl⟩
  show pG m_M_rule τ _ 0 0 17 _ (.int _ :: _) _
  refine g_ifb_ne (pc := 17) (tgt := 22) d_M_rule_17 (by decide) (fun h17 => ?_) (fun h17 => ?_)
  · obtain ⟨h22, h35⟩ := (Bool.and_eq_true _ _).mp h17
    obtain ⟨x0, hx0, rfl⟩ := ixB_of h22 (by omega)
    obtain ⟨⟨ux, vx, zx, hx, cx⟩, tx⟩ := get_of hx0
    obtain ⟨⟨A, hA0_, -⟩, kx2⟩ := gs.2 _ _ _ _ _ _ tx
    obtain ⟨hx4, hxL, hx7⟩ := hI.th tx
    have hx60 : hx < 2 ^ 60 := bits60 (fun t ht => by have := kx2 t ht; omega)
    have exc : (nI x0).toNatClampNeg = x0 := nI_clamp (by omega)
    have ext : thG Th (nI x0) = (ux, vx, zx, hx, cx) := by rw [thG, exc, List.getD_eq_getElem?_getD, tx]; rfl
    have eA : rcT Tm Th (nI x0) = A := by rw [rcT, ext]; exact getD_at hA0_
    obtain ⟨y0, hyq, rfl, q1, q2⟩ := prB_of h35
    obtain ⟨B, hB0_⟩ := get_of q1
    obtain ⟨C, hC0_⟩ := get_of q2
    have eyc : (nI y0).toNatClampNeg = y0 := nI_clamp hyq
    have eB := getD_at hB0_
    have eC := getD_at hC0_
    have eS : sR13 Ty Tm Th (nI x0) (nI y0) = sRb13 Ty Tm Th x0 y0 hx A B C := by rw [sR13, h22, h35, exc, eyc, ext, eA, eB, eC]; rfl
    have hF : sR13 Ty Tm Th (nI x0) (nI y0) = if (if tgR B = 0 ∧ tyR B = tyR C then sC (sSH hx (hdt B) C 60 0 Tm 0) else -2 : Int32) = 0 then (if Th.length = 40 then (-4, Ty, Tm, Th) else sFin Ty Tm Th 13 x0 y0 (sH (sSH hx (hdt B) C 60 0 Tm 0)) (Ty) (sT Tm (sSH hx (hdt B) C 60 0 Tm 0)) (rpl (hdt B) C A)) else (if tgR B = 0 ∧ tyR B = tyR C then sC (sSH hx (hdt B) C 60 0 Tm 0) else -2, Ty, Tm, Th) := by
      rw [eS, sRb13]
      by_cases q0 : tgR B = 0 ∧ tyR B = tyR C
      · rw [if_pos q0, if_pos q0]
        cases hS : sSH hx (hdt B) C 60 0 Tm 0 with
        | none => simp [sC, n_4]
        | some p => simp [sC, sH, sT]
      · rw [if_neg q0, if_neg q0, if_neg n_2]
    refine g_iload_n (pc := 22) d_M_rule_22 rfl ?_
    refine g_callS (M' := m_M_named) (pc := 23) d_M_rule_23 lm_M_125 c_M_named_13 v_M_named rfl (by decide) rfl (Nat.le_of_ble_eq_true rfl) ?_
    rintro _ _ ⟨rfl, rfl⟩
    show pG m_M_rule τ _ 0 0 26 _ (.int _ :: _) _
    refine g_istore (pc := 26) [(4, _), (0, _), (1, _), (2, _), (3, _)] d_M_rule_26 (by decide) rfl ?_
    refine g_aload_n (pc := 28) d_M_rule_28 rfl ?_
    refine gm_terms (pc := 29) d_M_rule_29 lf_M_78 ?_
    rw [b5]
    refine g_istore (pc := 32) [(5, _), (4, _), (0, _), (1, _), (2, _), (3, _)] d_M_rule_32 (by decide) rfl ?_
    refine g_aload_n (pc := 34) d_M_rule_34 rfl ?_
    refine gm_types (pc := 35) d_M_rule_35 lf_M_22 ?_
    rw [b4]
    refine g_istore (pc := 38) [(6, _), (5, _), (4, _), (0, _), (1, _), (2, _), (3, _)] d_M_rule_38 (by decide) rfl ?_
    refine g_aload_n (pc := 40) d_M_rule_40 rfl ?_
    refine g_iload (pc := 41) d_M_rule_41 rfl ?_
    refine g_nif_le (pc := 43) (tgt := 55) d_M_rule_43 (by decide) (by omega) (fun h => absurd h (by decide)) (fun h43 => ?_)
    refine g_aload_n (pc := 46) d_M_rule_46 rfl ?_
    refine gm_hypotheses (pc := 47) d_M_rule_47 lf_M_35 ?_
    refine g_iload_n (pc := 50) d_M_rule_50 rfl ?_
    refine glm_hypotheses (pc := 51) (v := lN hx) d_M_rule_51 (vp_in_nI (by omega) (by decide)) (by rw [nI_clamp (by omega)]; exact hxL) ?_
    refine g_goto (pc := 52) (tgt := 56) d_M_rule_52 (by decide) ?_
    refine g_iload (pc := 56) d_M_rule_56 rfl ?_
    refine g_iconst (pc := 58) (v := nI 1) d_M_rule_58 (by decide) ?_
    refine g_nicmp_le (pc := 59) (tgt := 71) d_M_rule_59 (by decide) (by omega) (by omega) (fun h59 => ?_) (fun h => absurd h (by decide))
    refine g_lconst (pc := 71) (v := lN 0) d_M_rule_71 (by decide) ?_
    refine g_lor (pc := 72) d_M_rule_72 ?_
    refine g_topl (lN hx) (by rw [wb_or (by omega) (by decide), Nat.or_zero]) ?_
    refine gm_set_p (pc := 73) d_M_rule_73 lf_M_118 ?_
    refine g_aload_n (pc := 76) d_M_rule_76 rfl ?_
    refine g_iconst (pc := 77) (v := nI 0) d_M_rule_77 (by decide) ?_
    refine gm_made_p (pc := 78) d_M_rule_78 lf_M_65 ?_
    have hI1 := hI.cl
    refine g_iload_n (pc := 81) d_M_rule_81 rfl ?_
    refine g_bipush (pc := 82) (v := nI 13) d_M_rule_82 (by decide) ?_
    refine g_nicmp_ne (pc := 84) (tgt := 103) d_M_rule_84 (by decide) (by omega) (by omega) (fun h => absurd h (by decide)) (fun h84 => ?_)
    refine g_aload_n (pc := 87) d_M_rule_87 rfl ?_
    refine g_iload_n (pc := 88) d_M_rule_88 rfl ?_
    refine g_iload_n (pc := 89) d_M_rule_89 rfl ?_
    refine g_bipush (pc := 90) (v := nI 64) d_M_rule_90 (by decide) ?_
    refine g_ndiv (pc := 92) d_M_rule_92 (by omega) (by decide) (by decide) ?_
    refine g_iload_n (pc := 93) d_M_rule_93 rfl ?_
    refine g_bipush (pc := 94) (v := nI 64) d_M_rule_94 (by decide) ?_
    refine g_nrem (pc := 96) d_M_rule_96 (by omega) (by decide) (by decide) ?_
    refine g_callV (M' := m_M_substitute) (pc := 97) (q := 0) d_M_rule_97 lm_M_152 (c_M_substitute x0 ux vx zx hx cx A tx hA0_ (y0 / 64) (y0 % 64) B C hB0_ hC0_ hx hI1 gs hx60 kx2) v_M_substitute rfl rfl rfl (by decide) rfl (Nat.le_of_ble_eq_true rfl) ?_
    rintro rr w2 mo
    obtain ⟨v, rfl, hg⟩ := c_M_tail_1 (τ := τ) (sR13 Ty Tm Th (nI x0) (nI y0)) 13 x0 y0 (by decide) (nI y0) (by decide) (by decide) (by decide) hx0 b1 b2 gs (cd c_S c_2) hF mo
    show pG m_M_rule τ _ 0 0 100 _ (.int _ :: _) _
    refine g_goto (pc := 100) (tgt := 132) d_M_rule_100 (by decide) ?_
    refine g_pick [0, 1, 2, 3, 4, 5, 6] [(6, _), (5, _), (4, _), (0, _), (1, _), (2, _), (3, _)] rfl ?_
    exact hg
  · refine g_iconst (pc := 20) (v := -1) d_M_rule_20 (by decide) ?_
    refine g_iret (pc := 21) d_M_rule_21 rfl (Nat.le_refl _) (Nat.le_refl _) ?_
    have e : sR13 Ty Tm Th x y = (-1, Ty, Tm, Th) := by
      rw [sR13, h17]
      rfl
    exact ⟨i, r, L, z, d, by rw [e], rfl, by rw [e]; exact hI, by rw [e]; exact gs⟩
set_option maxRecDepth 100000 in
set_option maxHeartbeats 4000000 in
theorem c_M_rule_no {τ : Nat × Nat} {a : Nat → Nat} {i : Nat → Int32} {r : Nat → Nat → Int32} {L : Nat → Nat → Int64} {z : Int64} {wr : pW} (q x y : Int32) (hq : ixB q 14 = false) : pC m_M_rule τ [.ref (a 0), .int q, .int x, .int y] (wM a i r L z ++ wr) (fun rr w2 => rr = some (.int (-1)) ∧ w2 = wM a i r L z ++ wr) := by
  refine pC.of rfl (Nat.le_of_ble_eq_true rfl) ?_
  show pG m_M_rule τ _ 0 0 0 [(0, _), (1, _), (2, _), (3, _)] [] _
  refine g_iload_n (pc := 0) d_M_rule_0 rfl ?_
  refine g_if_lt (pc := 1) (tgt := 20) d_M_rule_1 (by decide) (fun h1 => ?_) (fun h1 => ?_)
  · refine g_iconst (pc := 20) (v := -1) d_M_rule_20 (by decide) ?_
    refine g_iret (pc := 21) d_M_rule_21 rfl (Nat.le_refl _) (Nat.le_refl _) ?_
    exact ⟨rfl, rfl⟩
  · refine g_iload_n (pc := 4) d_M_rule_4 rfl ?_
    refine g_bipush (pc := 5) (v := nI 13) d_M_rule_5 (by decide) ?_
    refine g_icmp_gt (pc := 7) (tgt := 20) d_M_rule_7 (by decide) (fun h7 => ?_) (fun h7 => ?_)
    · refine g_iconst (pc := 20) (v := -1) d_M_rule_20 (by decide) ?_
      refine g_iret (pc := 21) d_M_rule_21 rfl (Nat.le_refl _) (Nat.le_refl _) ?_
      exact ⟨rfl, rfl⟩
    · exfalso
      have q := ixB_in9 (n := 13) (by decide) h1 h7
      rw [hq] at q
      cases q
